/-! a law is read, as the document says it: left the fault's place, right the place behind and the signs -/
abbrev RL : Type := Nat ⊕ (Nat × List Int32)
def thenR (r : RL) (f : Nat → List Int32 → RL) : RL := match r with
  | .inl p => .inl p
  | .inr q => f q.1 q.2
section RP
variable (T : Nat → Int32) (s : Nat)
/-- the sign c must stand there -/
def mustP (c : Int32) (a : Nat) (w : List Int32) : RL := if cu T s (sk T s a) = c then .inr (sk T s a + 1, w) else .inl (sk T s a)
def atomP (sub : Option (Nat → List Int32 → RL)) (a : Nat) (w : List Int32) : RL :=
  if dg (cu T s (sk T s a)) = true then (if dg (cu T s (nmF T s 4 (sk T s a) 0).1) = true then .inl (nmF T s 4 (sk T s a) 0).1 else .inr ((nmF T s 4 (sk T s a) 0).1, w ++ [nI (nmF T s 4 (sk T s a) 0).2]))
  else if (ltr (-(cu T s (sk T s a)))).isSome = true then .inr (sk T s a + 1, w ++ [-(cu T s (sk T s a))])
  else if cu T s (sk T s a) = 91 then (match sub with
    | none => .inl (sk T s a)
    | some f => thenR (f (sk T s a + 1) w) (mustP T s 93))
  else .inl (sk T s a)
/-- more of them, joined by one of two signs -/
def loopP (P : Nat → List Int32 → RL) (c1 c2 : Int32) : Nat → Nat → List Int32 → RL
  | 0, a, w => .inr (a, w)
  | f + 1, a, w => if cu T s (sk T s a) = c1 ∨ cu T s (sk T s a) = c2 then thenR (P (sk T s a + 1) w) (fun a' w' => loopP P c1 c2 f a' (w' ++ [-(cu T s (sk T s a))])) else .inr (sk T s a, w)
def termP (sub : Option (Nat → List Int32 → RL)) (a : Nat) (w : List Int32) : RL := thenR (atomP T s sub a w) (loopP T s (atomP T s sub) 42 47 240)
def sumP (sub : Option (Nat → List Int32 → RL)) (a : Nat) (w : List Int32) : RL := thenR (termP T s sub a w) (loopP T s (termP T s sub) 43 45 240)
/-- a sum in which g brackets may still be opened -/
def sumD : Nat → Nat → List Int32 → RL
  | 0 => sumP T s none
  | g + 1 => sumP T s (some (sumD g))
def isC (c : Int32) : Bool := c == 61 || c == 60 || c == 62
def cmpP (g a : Nat) (w : List Int32) : RL := if isC (cu T s (sk T s a)) = true then thenR (sumD T s g (sk T s a + 1) w) (fun a' w' => .inr (a', w' ++ [-(cu T s (sk T s a))])) else .inl (sk T s a)
def andP (u : Nat → List Int32 → RL) : Nat → List Int32 → RL := loopP T s u 38 38 240
def truP (u : Nat → List Int32 → RL) (a : Nat) (w : List Int32) : RL := thenR (u a w) (andP T s u)
def orP (u : Nat → List Int32 → RL) : Nat → List Int32 → RL := loopP T s (truP T s u) 124 124 240
def conP (u : Nat → List Int32 → RL) (a : Nat) (w : List Int32) : RL := thenR (truP T s u a w) (orP T s u)
def unitP (sub : Option (Nat → List Int32 → RL)) (g a : Nat) (w : List Int32) : RL :=
  if cu T s (sk T s a) = 33 then (match sub with
    | none => .inl (sk T s a)
    | some u => thenR (u (sk T s a + 1) w) (fun a' w' => .inr (a', w' ++ [-33])))
  else if cu T s (sk T s a) = 40 then (match sub with
    | none => .inl (sk T s a)
    | some u => thenR (conP T s u (sk T s a + 1) w) (mustP T s 41))
  else thenR (sumD T s g (sk T s a) w) (cmpP T s g)
def unitD : Nat → Nat → List Int32 → RL
  | 0 => unitP T s none 0
  | g + 1 => unitP T s (some (unitD g)) (g + 1)
/-- behind a test: its sum -/
def tstP (r : RL) : Nat ⊕ (Nat × List Int32 × List Int32) := match r with
  | .inl p => .inl p
  | .inr q => match thenR (mustP T s 63 q.1 []) (sumD T s 6) with
    | .inl p => .inl p
    | .inr v => .inr (v.1, q.2, v.2)
/-- a clause's inside: its test and its sum -/
def clinP (b : Nat) : Nat ⊕ (Nat × List Int32 × List Int32) :=
  if cu T s (sk T s b) = 33 ∨ cu T s (sk T s b) = 40 then tstP T s (conP T s (unitD T s 6) (sk T s b) [])
  else match sumD T s 6 (sk T s b) [] with
    | .inl p => .inl p
    | .inr v => if isC (cu T s (sk T s v.1)) = true then tstP T s (thenR (thenR (cmpP T s 6 (sk T s v.1) v.2) (andP T s (unitD T s 6))) (orP T s (unitD T s 6))) else .inr (sk T s v.1, [], v.2)
def clauP (a : Nat) : Nat ⊕ (Nat × List Int32 × List Int32) := match thenR (mustP T s 121 a []) (mustP T s 58) with
  | .inl p => .inl p
  | .inr v => clinP T s v.1
def lawP : Nat → Nat → List (List Int32 × List Int32) → Nat ⊕ List (List Int32 × List Int32)
  | 0, a, _ => .inl a
  | f + 1, a, L => match clauP T s a with
    | .inl p => .inl p
    | .inr (b, q) => if cu T s (sk T s b) = 59 then lawP f (sk T s b + 1) (L ++ [q]) else if cu T s (sk T s b) = -1 then .inr (L ++ [q]) else .inl (sk T s b)
end RP
theorem tyR_app : ∀ (l1 l2 : List Int32) (ts : List Bool), tyR (l1 ++ l2) ts = (tyR l1 ts).bind (tyR l2)
  | [], l2, ts => rfl
  | t :: l1, l2, ts => by
    show (if ts.length < 60 then (tyS t ts).bind (tyR (l1 ++ l2)) else none) = (if ts.length < 60 then (tyS t ts).bind (tyR l1) else none).bind (tyR l2)
    split
    · cases tyS t ts with
      | none => rfl
      | some u => exact tyR_app l1 l2 u
    · rfl
/-- signs that add one of kind k to any pile with room for h -/
def WTk (h : Nat) (k : Bool) (l : List Int32) : Prop := ∀ ts : List Bool, ts.length + h ≤ 60 → tyR l ts = some (k :: ts)
theorem WTk.mono {h h' : Nat} {k : Bool} {l : List Int32} (w : WTk h k l) (g : h ≤ h') : WTk h' k l := fun ts ht => w ts (by omega)
theorem WTk.bin {h1 h2 h : Nat} {k k' : Bool} {l1 l2 : List Int32} {t : Int32} (w1 : WTk h1 k l1) (w2 : WTk h2 k l2) (ht : ∀ r, tyS t (k :: k :: r) = some (k' :: r)) (g1 : h1 ≤ h) (g2 : h2 + 1 ≤ h) (g3 : 3 ≤ h) : WTk h k' (l1 ++ (l2 ++ [t])) := by
  intro ts hs
  rw [tyR_app, w1 ts (by omega), Option.bind_some, tyR_app, w2 (k :: ts) (by rw [List.length_cons]; omega), Option.bind_some]
  show (if (k :: k :: ts).length < 60 then (tyS t (k :: k :: ts)).bind (tyR []) else none) = _
  rw [if_pos (by rw [List.length_cons, List.length_cons]; omega), ht]
  rfl
