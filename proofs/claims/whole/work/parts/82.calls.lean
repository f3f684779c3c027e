/-- a call of both: one answer, and the whole invariant again -/
def CC (n : Nat) (xs : Nat → Int32) (N d : Nat) (M : mmM) (iX : Nat) (aX : List Value) (iM : Nat) (aM : List Value) : Prop := ∃ v M1 M2, mm_E n xs N d iX aX M = some (some (.int v), M1) ∧ mm_E n xs N d iM aM M1 = some (some (.int v), M2) ∧ TI n xs N M2
section CS
variable {n : Nat} {xs : Nat → Int32} {N : Nat} {M : mmM}
theorem C_behind (hT : TI n xs N M) (d : Nat) (c x : Int32) : CC n xs N (d + 60) M 142 [.ref 16, .int c, .int x] 264 [.ref 60, .int c, .int x] := hT.aa fun _ _ _ ⟨_, _, _, _, _, _, _, _, hI⟩ => QQ.aa hI (Q_behind hI.1 d c x)
theorem C_soonest (hT : TI n xs N M) (d : Nat) (c x : Int32) : CC n xs N (d + 60) M 144 [.ref 16, .int c, .int x] 266 [.ref 60, .int c, .int x] := hT.aa fun _ _ _ ⟨_, _, _, _, _, _, _, _, hI⟩ => QQ.aa hI (Q_soonest hI.1 d c x)
theorem C_stop (hT : TI n xs N M) (d : Nat) (c x : Int32) : CC n xs N (d + 60) M 146 [.ref 16, .int c, .int x] 267 [.ref 60, .int c, .int x] := hT.aa fun _ _ _ ⟨_, _, _, _, _, _, _, _, hI⟩ => QQ.aa hI (Q_stop hI.1 d c x)
theorem C_best (hT : TI n xs N M) (d : Nat) (v : Int32) : CC n xs N (d + 60) M 147 [.ref 16, .int v] 268 [.ref 60, .int v] := hT.aa fun _ _ _ ⟨_, _, _, _, _, _, _, _, hI⟩ => QQ.aa hI (Q_best hI.1 d v)
theorem C_byTurns (hT : TI n xs N M) (d : Nat) (a b v : Int32) : CC n xs N (d + 60) M 148 [.ref 16, .int a, .int b, .int v] 270 [.ref 60, .int a, .int b, .int v] := hT.aa fun _ _ _ ⟨_, _, _, _, _, _, _, _, hI⟩ => QQ.aa hI (Q_byTurns hI.1 d a b v)
theorem C_game (hT : TI n xs N M) (d : Nat) (a b x y w : Int32) : CC n xs N (d + 60) M 159 [.ref 16, .int a, .int b, .int x, .int y, .int w] 283 [.ref 60, .int a, .int b, .int x, .int y, .int w] := hT.aa fun _ _ _ ⟨_, _, _, _, _, _, _, _, hI⟩ => QQ.aa hI (Q_game hI.1 d a b x y w)
theorem C_rests (hT : TI n xs N M) (d : Nat) (a b v : Int32) : CC n xs N (d + 60) M 160 [.ref 16, .int a, .int b, .int v] 285 [.ref 60, .int a, .int b, .int v] := hT.aa fun _ _ _ ⟨_, _, _, _, _, _, _, _, hI⟩ => QQ.aa hI (Q_rests hI.1 d a b v)
theorem C_lasts (hT : TI n xs N M) (d : Nat) : CC n xs N (d + 60) M 150 [.ref 16] 273 [.ref 60] := hT.aa fun _ _ _ ⟨_, _, _, _, _, _, _, _, hI⟩ => QQ.aa hI (Q_lasts hI.1 d )
theorem C_holds (hT : TI n xs N M) (d : Nat) (x : Int32) : CC n xs N (d + 60) M 151 [.ref 16, .int x] 275 [.ref 60, .int x] := hT.aa fun _ _ _ ⟨_, _, _, _, _, _, _, _, hI⟩ => QQ.aa hI (Q_holds hI.1 d x)
theorem C_odds (hT : TI n xs N M) (d : Nat) (x q v : Int32) : CC n xs N (d + 60) M 164 [.ref 16, .int x, .int q, .int v] 287 [.ref 60, .int x, .int q, .int v] := hT.aa fun _ _ _ ⟨_, _, _, _, _, _, _, _, hI⟩ => QQ.aa hI (Q_odds hI.1 d x q v)
theorem C_shares (hT : TI n xs N M) (d : Nat) (c x : Int32) : CC n xs N (d + 60) M 166 [.ref 16, .int c, .int x] 288 [.ref 60, .int c, .int x] := hT.aa fun _ _ _ ⟨_, _, _, _, _, _, _, _, hI⟩ => QQ.aa hI (Q_shares hI.1 d c x)
theorem C_ahead (hT : TI n xs N M) (d : Nat) (x : Int32) : CC n xs N (d + 60) M 172 [.ref 16, .int x] 294 [.ref 60, .int x] := hT.aa fun _ _ _ ⟨_, _, _, _, _, _, _, _, hI⟩ => QQ.aa hI (Q_ahead hI.1 d x)
theorem C_most (hT : TI n xs N M) (d : Nat) (x : Int32) : CC n xs N (d + 60) M 167 [.ref 16, .int x] 293 [.ref 60, .int x] := hT.aa fun _ _ _ ⟨_, _, _, _, _, _, _, _, hI⟩ => QQ.aa hI (Q_most hI.1 d x)
theorem C_fits (hT : TI n xs N M) (d : Nat) (x : Int32) : CC n xs N (d + 60) M 153 [.ref 16, .int x] 279 [.ref 60, .int x] := hT.aa fun _ _ _ ⟨_, _, _, _, _, _, _, _, hI⟩ => QQ.aa hI (Q_fits hI.1 hI.2.1 d x)
theorem C_probe (hT : TI n xs N M) (d : Nat) (c x : Int32) : CC n xs N (d + 60) M 157 [.ref 16, .int c, .int x] 280 [.ref 60, .int c, .int x] := hT.aa fun _ _ _ ⟨_, _, _, _, _, _, _, _, hI⟩ => QQ.aa hI (Q_probe hI.1 hI.2.1 d c x)
theorem C_row (hT : TI n xs N M) (d : Nat) (x : Int32) : CC n xs N (d + 60) M 149 [.ref 16, .int x] 272 [.ref 60, .int x] := hT.aa fun _ _ _ ⟨_, _, _, _, _, _, _, _, hI⟩ => QQ.aa hI (Q_row hI.1 hI.2.2.2.2.2.2.2.2.2.2.2.2.1 hI.2.2.2.2.2.2.2.2.2.2.2.2.2.1 d x)
theorem C_strokes (hT : TI n xs N M) (d : Nat) (c x : Int32) : CC n xs N (d + 60) M 127 [.ref 16, .int c, .int x] 243 [.ref 60, .int c, .int x] := hT.aa fun _ _ _ ⟨_, _, _, _, _, _, _, _, hI⟩ => A_strokes hI d c x
theorem C_sugar (hT : TI n xs N M) (d : Nat) : CC n xs N (d + 60) M 129 [.ref 16] 245 [.ref 60] := hT.aa fun _ _ _ ⟨_, _, _, _, _, _, _, _, hI⟩ => A_sugar hI d 
theorem C_yolk (hT : TI n xs N M) (d : Nat) : CC n xs N (d + 60) M 133 [.ref 16] 249 [.ref 60] := hT.aa fun _ _ _ ⟨_, _, _, _, _, _, _, _, hI⟩ => A_yolk hI d 
theorem C_give (hT : TI n xs N M) (d : Nat) (x : Int32) : CC n xs N (d + 60) M 134 [.ref 16, .int x] 250 [.ref 60, .int x] := hT.aa fun _ _ _ ⟨_, _, _, _, _, _, _, _, hI⟩ => A_give hI d x
theorem C_practise (hT : TI n xs N M) (d : Nat) (c : Int32) : CC n xs N (d + 60) M 132 [.ref 16, .int c] 248 [.ref 60, .int c] := hT.aa fun _ _ _ ⟨_, _, _, _, _, _, _, _, hI⟩ => A_practise hI d c
theorem C_door (hT : TI n xs N M) (d : Nat) : CC n xs N (d + 60) M 130 [.ref 16] 246 [.ref 60] := hT.aa fun _ _ _ ⟨_, _, _, _, _, _, _, _, hI⟩ => A_door hI d 
theorem C_fold (hT : TI n xs N M) (d : Nat) (x : Int32) : CC n xs N (d + 60) M 128 [.ref 16, .int x] 244 [.ref 60, .int x] := hT.aa fun _ _ _ ⟨_, _, _, _, _, _, _, _, hI⟩ => A_fold hI d x
theorem C_hours (hT : TI n xs N M) (d : Nat) (x : Int32) : CC n xs N (d + 60) M 131 [.ref 16, .int x] 247 [.ref 60, .int x] := hT.aa fun _ _ _ ⟨_, _, _, _, _, _, _, _, hI⟩ => A_hours hI d x
theorem C_days (hT : TI n xs N M) (d : Nat) (x : Int32) : CC n xs N (d + 60) M 135 [.ref 16, .int x] 253 [.ref 60, .int x] := hT.aa fun _ _ _ ⟨_, _, _, _, _, _, _, _, hI⟩ => A_days hI d x
theorem C_years (hT : TI n xs N M) (d : Nat) (x : Int32) (v : Int64) : CC n xs N (d + 60) M 137 [.ref 16, .int x, .long v] 257 [.ref 60, .int x, .long v] := hT.aa fun _ _ _ ⟨_, _, _, _, _, _, _, _, hI⟩ => A_years hI d x v
theorem C_rule (hT : TI n xs N M) (d : Nat) (x : Int32) : CC n xs N (d + 60) M 105 [.ref 16, .int x] 237 [.ref 60, .int x] := hT.aa fun _ _ _ ⟨_, _, _, _, _, _, _, _, hI⟩ => QQ.aa hI (Q_rule hI.1 d x)
theorem C_cook (hT : TI n xs N M) (d : Nat) (c x : Int32) : CC n xs N (d + 60) M 106 [.ref 16, .int c, .int x] 238 [.ref 60, .int c, .int x] := hT.aa fun _ _ _ ⟨_, _, _, _, _, _, _, _, hI⟩ => QQ.aa hI (Q_cook hI.1 d c x)
theorem C_status (hT : TI n xs N M) (d : Nat) (x : Int32) : CC n xs N (d + 60) M 138 [.ref 16, .int x] 258 [.ref 60, .int x] := hT.aa fun _ _ _ ⟨_, _, _, _, _, _, _, _, hI⟩ => QQ.aa hI (Q_status hI.2.2.2.2.2.2.2.2.2.2.1 d x)
theorem C_log (hT : TI n xs N M) (d : Nat) (x y : Int32) : CC n xs N (d + 60) M 140 [.ref 16, .int x, .int y] 260 [.ref 60, .int x, .int y] := hT.aa fun _ _ _ ⟨_, _, _, _, _, _, _, _, hI⟩ => QQ.aa hI (Q_log hI.2.2.2.2.2.1 hI.2.2.2.2.2.2.1 hI.2.2.2.2.2.2.2.1.1 d x y)
theorem C_undo (hT : TI n xs N M) (d : Nat) : CC n xs N (d + 60) M 139 [.ref 16] 259 [.ref 60] := hT.aa fun _ _ _ ⟨_, _, _, _, _, _, _, _, hI⟩ => A_undo hI d 
theorem C_draught (hT : TI n xs N M) (d : Nat) (x : Int32) : CC n xs N (d + 60) M 136 [.ref 16, .int x] 254 [.ref 60, .int x] := hT.aa fun _ _ _ ⟨_, _, _, _, _, _, _, _, hI⟩ => A_draught hI d x
theorem C_image (hT : TI n xs N M) (d : Nat) : CC n xs N (d + 60) M 173 [.ref 16] 295 [.ref 60] := hT.aa fun _ _ _ ⟨_, _, _, _, _, _, _, _, hI⟩ => A_image hI d 
theorem C_back (hT : TI n xs N M) (d : Nat) : CC n xs N (d + 60) M 174 [.ref 16] 296 [.ref 60] := hT.aa fun _ _ _ ⟨_, _, _, _, _, _, _, _, hI⟩ => A_back hI d 
theorem C_seen (hT : TI n xs N M) (d : Nat) (c x y w : Int32) : CC n xs N (d + 60) M 152 [.ref 16, .int c, .int x, .int y, .int w] 276 [.ref 60, .int c, .int x, .int y, .int w] := hT.aa fun _ _ _ ⟨_, _, _, _, _, _, _, _, hI⟩ => A_seen hI d c x y w
theorem C_count (hT : TI n xs N M) (d : Nat) (x : Int32) : CC n xs N (d + 60) M 175 [.ref 16, .int x] 297 [.ref 60, .int x] := by
  obtain ⟨Ls, c, nc, nm, s, h1, h2, h3⟩ := id hT
  exact hT.aa fun _ _ _ ⟨_, _, _, _, _, _, _, _, hI⟩ => QQ.aa hI (Q_count hI (h3.2.2.2.1.trans h3.2.2.1.symm) (h2.2.2.1.trans h2.2.1.symm) h3.2.2.2.2.1 d x)
end CS
