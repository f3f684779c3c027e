/-! A small machine over a memory of plain functions: what it runs, the real one runs (04). Shapes: an object of class ci, or an array (type, length). -/
abbrev mmSh : Type := Nat ⊕ (Nat × Nat)
/-- shapes, how many cells, how many slots, ints, longs, references -/
abbrev mmM : Type := (Nat → mmSh) × Nat × Nat × (Nat → Nat → Int32) × (Nat → Nat → Int64) × (Nat → Nat → Option Nat)
abbrev mmL : Type := List (Option Value)
abbrev mmR : Type := Option Value × mmM
/-- pc, instruction, length, three numbers, a constant, a switch's keys -/
abbrev mmE : Type := Nat × Instr × Nat × Nat × Nat × Nat × Value × List (Int32 × Nat)
def mm_up {α : Type} (f : Nat → Nat → α) (a k : Nat) (v : α) : Nat → Nat → α := fun b j => if b = a then (if j = k then v else f b j) else f b j
def mm_row {α : Type} (f : Nat → Nat → α) (a : Nat) (r : Nat → α) : Nat → Nat → α := fun b => if b = a then r else f b
def mm_ups (f : Nat → mmSh) (a : Nat) (v : mmSh) : Nat → mmSh := fun b => if b = a then v else f b
abbrev mm_sh (M : mmM) : Nat → mmSh := M.1
abbrev mm_n (M : mmM) : Nat := M.2.1
abbrev mm_z (M : mmM) : Nat := M.2.2.1
abbrev mm_I (M : mmM) : Nat → Nat → Int32 := M.2.2.2.1
abbrev mm_J (M : mmM) : Nat → Nat → Int64 := M.2.2.2.2.1
abbrev mm_P (M : mmM) : Nat → Nat → Option Nat := M.2.2.2.2.2
abbrev mm_wI (M : mmM) (a k : Nat) (v : Int32) : mmM := (M.1, M.2.1, M.2.2.1, mm_up M.2.2.2.1 a k v, M.2.2.2.2.1, M.2.2.2.2.2)
abbrev mm_wJ (M : mmM) (a k : Nat) (v : Int64) : mmM := (M.1, M.2.1, M.2.2.1, M.2.2.2.1, mm_up M.2.2.2.2.1 a k v, M.2.2.2.2.2)
abbrev mm_wP (M : mmM) (a k : Nat) (v : Option Nat) : mmM := (M.1, M.2.1, M.2.2.1, M.2.2.2.1, M.2.2.2.2.1, mm_up M.2.2.2.2.2 a k v)
abbrev mm_wR (M : mmM) (a : Nat) (r : Nat → Int32) : mmM := (M.1, M.2.1, M.2.2.1, mm_row M.2.2.2.1 a r, M.2.2.2.2.1, M.2.2.2.2.2)
/-- a new cell of a shape and so many slots, all 0 -/
abbrev mm_new (M : mmM) (s : mmSh) (w : Nat) : mmM := (mm_ups M.1 M.2.1 s, M.2.1 + 1, M.2.2.1 + w, mm_row M.2.2.2.1 M.2.1 (fun _ => 0), mm_row M.2.2.2.2.1 M.2.1 (fun _ => 0), mm_row M.2.2.2.2.2 M.2.1 (fun _ => none))
/-- new int[4][0] -/
def mm_mna (M : mmM) : mmM := mm_wP (mm_wP (mm_wP (mm_wP (mm_new (mm_new (mm_new (mm_new (mm_new M (.inr (5, 4)) 4) (.inr (0, 0)) 0) (.inr (0, 0)) 0) (.inr (0, 0)) 0) (.inr (0, 0)) 0) M.2.1 0 (some (M.2.1 + 1))) M.2.1 1 (some (M.2.1 + 2))) M.2.1 2 (some (M.2.1 + 3))) M.2.1 3 (some (M.2.1 + 4))
def mm_rv (r : Option Nat) : Value := match r with
  | some a => .ref a
  | none => .null
def mm_obj (s : mmSh) (ci : Nat) : Bool := match s with
  | .inl c => Nat.beq c ci
  | .inr _ => false
def mm_arr (s : mmSh) (ty : Nat) : Option Nat := match s with
  | .inl _ => none
  | .inr q => cond (Nat.beq q.1 ty) (some q.2) none
def mm_inb (i : Int32) (n : Nat) : Bool := cond (decide (i < 0)) false (Nat.blt i.toNatClampNeg n)
def mm_pI (K : List Value) (f : Int32 → List Value → Option mmR) : Option mmR := match K with
  | .int x :: r => f x r
  | _ => none
def mm_pII (K : List Value) (f : Int32 → Int32 → List Value → Option mmR) : Option mmR := match K with
  | .int y :: .int x :: r => f x y r
  | _ => none
def mm_pJ (K : List Value) (f : Int64 → List Value → Option mmR) : Option mmR := match K with
  | .long x :: r => f x r
  | _ => none
def mm_pJJ (K : List Value) (f : Int64 → Int64 → List Value → Option mmR) : Option mmR := match K with
  | .long y :: .long x :: r => f x y r
  | _ => none
def mm_pJI (K : List Value) (f : Int64 → Int32 → List Value → Option mmR) : Option mmR := match K with
  | .int y :: .long x :: r => f x y r
  | _ => none
def mm_asR (v : Value) (f : Nat → Option mmR) : Option mmR := match v with
  | .ref a => f a
  | _ => none
def mm_asN (v : Value) (f : Option Nat → Option mmR) : Option mmR := match v with
  | .ref a => f (some a)
  | .null => f none
  | _ => none
def mm_pR (K : List Value) (f : Nat → List Value → Option mmR) : Option mmR := match K with
  | v :: r => mm_asR v fun a => f a r
  | _ => none
def mm_pRI (K : List Value) (f : Nat → Int32 → List Value → Option mmR) : Option mmR := match K with
  | .int i :: v :: r => mm_asR v fun a => f a i r
  | _ => none
def mm_pRII (K : List Value) (f : Nat → Int32 → Int32 → List Value → Option mmR) : Option mmR := match K with
  | .int x :: .int i :: v :: r => mm_asR v fun a => f a i x r
  | _ => none
def mm_pRIJ (K : List Value) (f : Nat → Int32 → Int64 → List Value → Option mmR) : Option mmR := match K with
  | .long x :: .int i :: v :: r => mm_asR v fun a => f a i x r
  | _ => none
def mm_pRIR (K : List Value) (f : Nat → Int32 → Nat → List Value → Option mmR) : Option mmR := match K with
  | w :: .int i :: v :: r => mm_asR v fun a => mm_asR w fun x => f a i x r
  | _ => none
def mm_pN (K : List Value) (f : Option Nat → List Value → Option mmR) : Option mmR := match K with
  | v :: r => mm_asN v fun x => f x r
  | _ => none
def mm_c1 (v : Value) : Bool := match v with
  | .int _ => true
  | .ref _ => true
  | .null => true
  | _ => false
def mm_p1 (K : List Value) (f : Value → List Value → Option mmR) : Option mmR := match K with
  | v :: r => cond (mm_c1 v) (f v r) none
  | _ => none
def mm_p11 (K : List Value) (f : Value → Value → List Value → Option mmR) : Option mmR := match K with
  | w :: v :: r => cond (mm_c1 w && mm_c1 v) (f v w r) none
  | _ => none
def mm_ld (L : mmL) (i : Nat) (f : Value → Option mmR) : Option mmR := match L[i]? with
  | some (some v) => f v
  | _ => none
def mm_isI (v : Value) (f : Option mmR) : Option mmR := match v with
  | .int _ => f
  | _ => none
def mm_isJ (v : Value) (f : Option mmR) : Option mmR := match v with
  | .long _ => f
  | _ => none
def mm_isA (v : Value) (f : Option mmR) : Option mmR := match v with
  | .ref _ => f
  | .null => f
  | _ => none
/-- the place ahead of i forgets a long -/
def mm_clr (L : mmL) (i : Nat) : mmL := match i with
  | 0 => L
  | j + 1 => match L[j]? with
    | some (some (.long _)) => L.set j none
    | some (some (.double _)) => L.set j none
    | _ => L
def mm_st1 (L : mmL) (i : Nat) (v : Value) : mmL := (mm_clr L i).set i (some v)
def mm_st2 (L : mmL) (i : Nat) (v : Value) : mmL := ((mm_clr L i).set i (some v)).set (i + 1) none
/-- the same list, laid out anew (so that it's worked out once) -/
noncomputable def mm_nrm (L : mmL) : (mmL → Option mmR) → Option mmR := List.rec (fun k => k []) (fun x _ ih k => ih (fun ys => k (x :: ys))) L
theorem mm_nrm_eq : ∀ (L : mmL) (k : mmL → Option mmR), mm_nrm L k = k L
  | [], _ => rfl
  | x :: r, k => mm_nrm_eq r (fun ys => k (x :: ys))
/-- n values off the stack, the deepest first -/
noncomputable def mm_pop (n : Nat) : List Value → List Value → Option (List Value × List Value) :=
  Nat.rec (fun K acc => some (acc, K)) (fun _ ih K acc => match K with
    | v :: r => ih r (v :: acc)
    | [] => none) n
def mm_cat (K : List Value) : Nat := (K.map fun v => v.category).sum
def mm_aV (q : Option mmR) : Option mmM := q.bind fun p => match p.1 with
  | none => some p.2
  | _ => none
def mm_aI (q : Option mmR) : Option (Int32 × mmM) := q.bind fun p => match p.1 with
  | some (.int x) => some (x, p.2)
  | _ => none
def mm_aJ (q : Option mmR) : Option (Int64 × mmM) := q.bind fun p => match p.1 with
  | some (.long x) => some (x, p.2)
  | _ => none
def mm_aR (q : Option mmR) : Option (Nat × mmM) := q.bind fun p => match p.1 with
  | some (.ref x) => some (x, p.2)
  | _ => none
abbrev mmC : Type := Nat → List Value → mmM → Option mmR
abbrev mmK : Type := mmL → List Value → mmM → Option mmR
abbrev mmG : Type := Nat → mmK
/-- what is fixed of the memory: up to which cell, their shapes, their references that never change, and the tables' (cells 0 to 15) numbers -/
abbrev mmY : Type := Nat × (Nat → mmSh) × (Nat → Nat → Option (Option Nat)) × (Nat → Nat → Int32)
def mm_s (Y : mmY) (M : mmM) (a : Nat) : mmSh := cond (Nat.blt a Y.1) (Y.2.1 a) (M.1 a)
def mm_fx (Y : mmY) (a k : Nat) : Option (Option Nat) := cond (Nat.blt a Y.1) (Y.2.2.1 a k) none
def mm_p (Y : mmY) (M : mmM) (a k : Nat) : Option Nat := match mm_fx Y a k with
  | some r => r
  | none => M.2.2.2.2.2 a k
def mm_free (Y : mmY) (a k : Nat) : Bool := match mm_fx Y a k with
  | some _ => false
  | none => true
def mm_i (Y : mmY) (M : mmM) (a k : Nat) : Int32 := cond (Nat.blt a 16) (Y.2.2.2 a k) (M.2.2.2.1 a k)
/-- what an answer of kind c does: 0 nothing, 1 an int, 2 a long, 3 a reference -/
def mm_ans (c : Nat) (q : Option mmR) (L : mmL) (r : List Value) (k : mmK) : Option mmR := match c with
  | 0 => (mm_aV q).bind fun m => k L r m
  | 1 => (mm_aI q).bind fun p => k L (.int p.1 :: r) p.2
  | 2 => (mm_aJ q).bind fun p => k L (.long p.1 :: r) p.2
  | _ => (mm_aR q).bind fun p => k L (.ref p.1 :: r) p.2
/-- a method of its own object: n arguments and it -/
noncomputable def mm_inv (Y : mmY) (call : mmC) (j n c ci : Nat) (L : mmL) (K : List Value) (M : mmM) (k : mmK) : Option mmR :=
  (mm_pop n K []).bind fun p => mm_pR p.2 fun o r => cond (mm_obj (mm_s Y M o) ci && Nat.ble (mm_cat r) 8) (mm_ans c (call j (.ref o :: p.1) M) L r k) none
noncomputable def mm_invS (call : mmC) (j n c : Nat) (L : mmL) (K : List Value) (M : mmM) (k : mmK) : Option mmR :=
  (mm_pop n K []).bind fun p => cond (Nat.ble (mm_cat p.2) 8) (mm_ans c (call j p.1 M) L p.2 k) none
/-- System.arraycopy of ints (type ty: 0 ints) -/
def mm_copy (Y : mmY) (M : mmM) (K : List Value) (f : mmM → List Value → Option mmR) : Option mmR := match K with
  | .int n :: .int dp :: v :: .int sp :: w :: r => mm_asR v fun a => mm_asR w fun b =>
    (mm_arr (mm_s Y M b) 0).bind fun nb => (mm_arr (mm_s Y M a) 0).bind fun na =>
      cond (Nat.ble (mm_cat r) 8 && (Nat.ble 16 b && (Nat.ble 16 a && (!decide (n < 0) && (!decide (dp < 0) && (!decide (sp < 0) && (Nat.ble (sp.toNatClampNeg + n.toNatClampNeg) nb && Nat.ble (dp.toNatClampNeg + n.toNatClampNeg) na)))))))
        (f (mm_wR M a (va_cpy (M.2.2.2.1 b) (M.2.2.2.1 a) sp.toNatClampNeg dp.toNatClampNeg n.toNatClampNeg)) r) none
  | _ => none
/-- the sizes of the classes' objects -/
def mm_size : List Nat := [11, 1, 2, 3, 11, 1, 3, 5, 5, 3, 2, 19, 46]
def mm_br (c : ClassFile.Cond) (x y : Int32) (t f : Option mmR) : Option mmR := match c with
  | .eq => if x = y then t else f
  | .ne => if x = y then f else t
  | .lt => if x < y then t else f
  | .ge => if y ≤ x then t else f
  | .gt => if y < x then t else f
  | .le => if x ≤ y then t else f
/-- a switch: keys and targets one by one -/
noncomputable def mm_sw (x : Int32) (d : Nat) (g : Nat → Option mmR) (l : List (Int32 × Nat)) : Option mmR :=
  List.rec (g d) (fun q _ ih => if x = q.1 then g q.2 else ih) l
/-- what one instruction does: k goes on behind it, g goes elsewhere -/
noncomputable def mm_sem (Y : mmY) (call : mmC) (i : Instr) (a b c : Nat) (v : Value) (w : List (Int32 × Nat)) (L : mmL) (K : List Value) (M : mmM) (k : mmK) (g : mmG) : Option mmR := match i with
  | .iconst _ => k L (v :: K) M
  | .bipush _ => k L (v :: K) M
  | .sipush _ => k L (v :: K) M
  | .lconst _ => k L (v :: K) M
  | .ldc _ => k L (v :: K) M
  | .ldc_w _ => k L (v :: K) M
  | .ldc2_w _ => k L (v :: K) M
  | .iload_n _ => mm_ld L a fun x => mm_isI x (k L (x :: K) M)
  | .iload _ => mm_ld L a fun x => mm_isI x (k L (x :: K) M)
  | .lload_n _ => mm_ld L a fun x => mm_isJ x (k L (x :: K) M)
  | .lload _ => mm_ld L a fun x => mm_isJ x (k L (x :: K) M)
  | .aload_n _ => mm_ld L a fun x => mm_isA x (k L (x :: K) M)
  | .aload _ => mm_ld L a fun x => mm_isA x (k L (x :: K) M)
  | .istore_n _ => mm_pI K fun x r => mm_nrm (mm_st1 L a (.int x)) fun L' => k L' r M
  | .istore _ => mm_pI K fun x r => mm_nrm (mm_st1 L a (.int x)) fun L' => k L' r M
  | .lstore_n _ => mm_pJ K fun x r => mm_nrm (mm_st2 L a (.long x)) fun L' => k L' r M
  | .lstore _ => mm_pJ K fun x r => mm_nrm (mm_st2 L a (.long x)) fun L' => k L' r M
  | .astore_n _ => mm_pN K fun x r => mm_nrm (mm_st1 L a (mm_rv x)) fun L' => k L' r M
  | .astore _ => mm_pN K fun x r => mm_nrm (mm_st1 L a (mm_rv x)) fun L' => k L' r M
  | .iinc _ _ => mm_ld L a fun x => mm_pI [x] fun y _ => mm_pI [v] fun n _ => mm_nrm (mm_st1 L a (.int (y + n))) fun L' => k L' K M
  | .iadd => mm_pII K fun x y r => k L (.int (x + y) :: r) M
  | .isub => mm_pII K fun x y r => k L (.int (x - y) :: r) M
  | .imul => mm_pII K fun x y r => k L (.int (x * y) :: r) M
  | .iand => mm_pII K fun x y r => k L (.int (x &&& y) :: r) M
  | .ior => mm_pII K fun x y r => k L (.int (x ||| y) :: r) M
  | .ixor => mm_pII K fun x y r => k L (.int (x ^^^ y) :: r) M
  | .idiv => mm_pII K fun x y r => if y = 0 then none else k L (.int (x / y) :: r) M
  | .irem => mm_pII K fun x y r => if y = 0 then none else k L (.int (x - x / y * y) :: r) M
  | .ineg => mm_pI K fun x r => k L (.int (-x) :: r) M
  | .ishl => mm_pII K fun x y r => k L (.int (x <<< (y &&& 31)) :: r) M
  | .ishr => mm_pII K fun x y r => k L (.int (x >>> (y &&& 31)) :: r) M
  | .iushr => mm_pII K fun x y r => k L (.int (x.toUInt32 >>> (y.toUInt32 &&& Int32.toUInt32 31)).toInt32 :: r) M
  | .ladd => mm_pJJ K fun x y r => k L (.long (x + y) :: r) M
  | .lsub => mm_pJJ K fun x y r => k L (.long (x - y) :: r) M
  | .lmul => mm_pJJ K fun x y r => k L (.long (x * y) :: r) M
  | .land => mm_pJJ K fun x y r => k L (.long (x &&& y) :: r) M
  | .lor => mm_pJJ K fun x y r => k L (.long (x ||| y) :: r) M
  | .ldiv => mm_pJJ K fun x y r => if y = 0 then none else k L (.long (x / y) :: r) M
  | .lrem => mm_pJJ K fun x y r => if y = 0 then none else k L (.long (x - x / y * y) :: r) M
  | .lcmp => mm_pJJ K fun x y r => k L (.int (lg_cmp x y) :: r) M
  | .lshl => mm_pJI K fun x y r => k L (.long (x <<< (y.toInt64 &&& 63)) :: r) M
  | .lushr => mm_pJI K fun x y r => k L (.long (x.toUInt64 >>> (y.toInt64.toUInt64 &&& Int64.toUInt64 63)).toInt64 :: r) M
  | .i2l => mm_pI K fun x r => k L (.long x.toInt64 :: r) M
  | .l2i => mm_pJ K fun x r => k L (.int x.toInt32 :: r) M
  | .dup => mm_p1 K fun x r => k L (x :: x :: r) M
  | .pop => mm_p1 K fun _ r => k L r M
  | .dup2 => mm_p11 K fun x y r => k L (y :: x :: y :: x :: r) M
  | .goto _ => g a L K M
  | .ifCond q _ => mm_pI K fun x r => mm_br q x 0 (g a L r M) (k L r M)
  | .if_icmp q _ => mm_pII K fun x y r => mm_br q x y (g a L r M) (k L r M)
  | .ifnull _ => mm_pN K fun x r => match x with
    | none => g a L r M
    | some _ => k L r M
  | .ifnonnull _ => mm_pN K fun x r => match x with
    | none => k L r M
    | some _ => g a L r M
  | .tableswitch _ _ _ _ => mm_pI K fun x r => mm_sw x a (fun t => g t L r M) w
  | .lookupswitch _ _ => mm_pI K fun x r => mm_sw x a (fun t => g t L r M) w
  | .ireturn => mm_pI K fun x r => match r with
    | [] => match b with
      | 0 => some (some (.int x), M)
      | _ => if x = 0 then some (some (.int 0), M) else if x = 1 then some (some (.int 1), M) else none
    | _ => none
  | .lreturn => mm_pJ K fun x r => match r with
    | [] => some (some (.long x), M)
    | _ => none
  | .areturn => mm_pR K fun x r => match r with
    | [] => some (some (.ref x), M)
    | _ => none
  | .return_ => match K with
    | [] => some (none, M)
    | _ => none
  | .getfield _ => mm_pR K fun o r => cond (mm_obj (mm_s Y M o) a) (match c % 4 with
    | 0 => k L (.int (M.2.2.2.1 o b) :: r) M
    | 3 => k L (.int (M.2.2.2.1 o b) :: r) M
    | 1 => k L (.long (M.2.2.2.2.1 o b) :: r) M
    | _ => k L (mm_rv (mm_p Y M o b) :: r) M) none
  | .putfield _ => match c % 4 with
    | 0 => mm_pI K fun x q => mm_pR q fun o r => cond (mm_obj (mm_s Y M o) a) (k L r (mm_wI M o b x)) none
    | 3 => mm_pI K fun x q => mm_pR q fun o r => cond (mm_obj (mm_s Y M o) a) (if x = 0 then k L r (mm_wI M o b 0) else if x = 1 then k L r (mm_wI M o b 1) else none) none
    | 1 => mm_pJ K fun x q => mm_pR q fun o r => cond (mm_obj (mm_s Y M o) a) (k L r (mm_wJ M o b x)) none
    | _ => mm_pR K fun x q => mm_pR q fun o r => cond (mm_obj (mm_s Y M o) a && mm_free Y o b) (k L r (mm_wP M o b (some x))) none
  | .getstatic _ => k L (.ref a :: K) M
  | .arraylength => mm_pR K fun o r => match mm_s Y M o with
    | .inl _ => none
    | .inr q => cond (Nat.ble (q.1 + 1) 6 && (!Nat.beq q.1 2 || Nat.blt o 16)) (k L (.int (Int32.ofNat q.2) :: r) M) none
  | .iaload => mm_pRI K fun o i r => (mm_arr (mm_s Y M o) 0).bind fun n => cond (mm_inb i n) (k L (.int (mm_i Y M o i.toNatClampNeg) :: r) M) none
  | .baload => mm_pRI K fun o i r => (mm_arr (mm_s Y M o) 1).bind fun n => cond (mm_inb i n) (k L (.int (mm_i Y M o i.toNatClampNeg) :: r) M) none
  | .caload => mm_pRI K fun o i r => (mm_arr (mm_s Y M o) 2).bind fun n => cond (mm_inb i n && Nat.blt o 16) (k L (.int (mm_i Y M o i.toNatClampNeg) :: r) M) none
  | .laload => mm_pRI K fun o i r => (mm_arr (mm_s Y M o) 3).bind fun n => cond (mm_inb i n && Nat.ble 16 o) (k L (.long (M.2.2.2.2.1 o i.toNatClampNeg) :: r) M) none
  | .aaload => mm_pRI K fun o i r => (mm_arr (mm_s Y M o) (4 + a)).bind fun n => cond (mm_inb i n && Nat.ble 16 o) (k L (mm_rv (mm_p Y M o i.toNatClampNeg) :: r) M) none
  | .iastore => mm_pRII K fun o i x r => (mm_arr (mm_s Y M o) 0).bind fun n => cond (mm_inb i n && Nat.ble 16 o) (k L r (mm_wI M o i.toNatClampNeg x)) none
  | .bastore => mm_pRII K fun o i x r => (mm_arr (mm_s Y M o) 1).bind fun n => cond (mm_inb i n && Nat.ble 16 o) (k L r (mm_wI M o i.toNatClampNeg (vp_nar .boolean x))) none
  | .lastore => mm_pRIJ K fun o i x r => (mm_arr (mm_s Y M o) 3).bind fun n => cond (mm_inb i n && Nat.ble 16 o) (k L r (mm_wJ M o i.toNatClampNeg x)) none
  | .aastore => mm_pRIR K fun o i x r => (mm_arr (mm_s Y M o) (4 + a)).bind fun n => cond (mm_inb i n && (Nat.ble 16 o && (Nat.ble 16 x && mm_free Y o i.toNatClampNeg) && match a with
    | 0 => mm_obj (mm_s Y M x) 0
    | _ => match mm_arr (mm_s Y M x) 0 with
      | some _ => true
      | none => false)) (k L r (mm_wP M o i.toNatClampNeg (some x))) none
  | .newarray _ => mm_pI K fun x r => cond (Nat.ble Y.1 M.2.1 && (!decide (x < 0) && Nat.ble x.toNatClampNeg 65536)) (k L (.ref M.2.1 :: r) (mm_new M (.inr (a, x.toNatClampNeg)) x.toNatClampNeg)) none
  | .anewarray _ => mm_pI K fun x r => cond (Nat.ble Y.1 M.2.1 && (!decide (x < 0) && Nat.ble x.toNatClampNeg 65536)) (k L (.ref M.2.1 :: r) (mm_new M (.inr (4, x.toNatClampNeg)) x.toNatClampNeg)) none
  | .multianewarray _ _ => mm_pII K fun x y r => cond (Nat.ble Y.1 M.2.1 && (decide (x = 4) && decide (y = 0))) (k L (.ref M.2.1 :: r) (mm_mna M)) none
  | .new _ => match mm_size[a]? with
    | some z => cond (Nat.ble Y.1 M.2.1) (k L (.ref M.2.1 :: K) (mm_new M (.inl a) z)) none
    | none => none
  | .invokevirtual _ => mm_inv Y call a b (c % 4) (c / 16) L K M k
  | .invokestatic _ => match (c / 4) % 4 with
    | 2 => mm_copy Y M K fun m r => k L r m
    | _ => mm_invS call a b (c % 4) L K M k
  | .invokespecial _ => match (c / 4) % 4 with
    | 2 => mm_pR K fun _ r => cond (Nat.ble (mm_cat r) 8) (k L r M) none
    | _ => mm_inv Y call a b 0 (c / 16) L K M k
  | _ => none
noncomputable def mm_msk (m : List Bool) (L : mmL) : mmL := List.rec (fun _ => []) (fun b _ ih L => match L with
  | x :: r => cond b x none :: ih r
  | [] => []) m L
/-- the places where it stops and goes on by name: the loops' heads and some joins, with the locals that live there -/
noncomputable def mm_cut (cs : List (Nat × List Bool)) (t : Nat) : Option (List Bool) := List.rec none (fun q _ ih => cond (Nat.beq q.1 t) (some q.2) ih) cs
noncomputable def mm_at (t : Nat) (es : List mmE) : List mmE := List.rec [] (fun e r ih => cond (Nat.beq e.1 t) (e :: r) ih) es
/-- onwards, within the code behind; jumps to a cut, or back, by j -/
noncomputable def mm_ex (Y : mmY) (call : mmC) (cs : List (Nat × List Bool)) (j : mmG) (pf : Nat) : List mmE → mmK :=
  Nat.rec (fun _ _ _ _ => none) (fun _ ih es L K M => match es with
    | [] => none
    | e :: r => mm_sem Y call e.2.1 e.2.2.2.1 e.2.2.2.2.1 e.2.2.2.2.2.1 e.2.2.2.2.2.2.1 e.2.2.2.2.2.2.2 L K M
        (fun L K M => match mm_cut cs (e.1 + e.2.2.1) with
          | some m => j (e.1 + e.2.2.1) (mm_msk m L) K M
          | none => ih (mm_at (e.1 + e.2.2.1) r) L K M)
        (fun t L K M => match mm_cut cs t with
          | some m => j t (mm_msk m L) K M
          | none => ih (mm_at t r) L K M)) pf
/-- from a cut on, with so many cuts left -/
noncomputable def mm_lp (Y : mmY) (call : mmC) (code : List mmE) (cs : List (Nat × List Bool)) (N : Nat) : mmG :=
  Nat.rec (fun _ _ _ _ => none) (fun _ ih t L K M => mm_ex Y call cs ih 1200 (mm_at t code) L K M) N
/-- a method: its code, its cuts, its locals -/
abbrev mmP : Type := List mmE × List (Nat × List Bool) × Nat
def mm_fl (args : List Value) : mmL := match args with
  | [] => []
  | v :: r => match v with
    | .long _ => some v :: none :: mm_fl r
    | .double _ => some v :: none :: mm_fl r
    | _ => some v :: mm_fl r
def mm_ent (n : Nat) (args : List Value) : mmL := mm_fl args ++ List.replicate (n - (mm_fl args).length) none
noncomputable def mm_run (Y : mmY) (prog : List mmP) (N : Nat) (call : mmC) : mmC := fun i args M => match prog[i]? with
  | some q => cond (Nat.ble (mm_cat args) q.2.2) (mm_ex Y call q.2.1 (mm_lp Y call q.1 q.2.1 N) 1200 q.1 (mm_ent q.2.2 args) [] M) none
  | none => none
/-- calls nest at most d deep, each goes by at most N cuts -/
noncomputable def mm_ev (Y : mmY) (prog : List mmP) (N : Nat) (d : Nat) : mmC := Nat.rec (fun _ _ _ => none) (fun _ ih => mm_run Y prog N ih) d
