/-! the reference's reading as functions, on: one configuration is (place, kept characters, rules, elements, top frame, rows, names, pending) -/
abbrev Cg : Type := Nat × Nat × Nat × Nat × Nat × Ro × (Nat → Int64) × Bool
def furS (T : Nat → Int32) (L : Nat) (b : Int32) (e : Nat) : Nat → Nat → Nat → Ro → Option (Nat × Nat × Ro)
  | 0, a, u, A => some (a, u, A)
  | r + 1, a, u, A => if hereF L T a = 46 then (match numS T L (a + 1) b with
    | none => none
    | some z => furS T L b e r z.2 (u + 1) (va_up (va_up A 234 (upd (A 234) u z.1)) 230 (upd (A 230) e (A 230 e + 1)))) else some (a, u, A)
def numsS (T : Nat → Int32) (L a u e : Nat) (b : Int32) (A : Ro) : Option (Nat × Nat × Ro) :=
  match numS T L a b with
  | none => none
  | some z =>
    let A1 := va_up (va_up (va_up A 229 (upd (A 229) e (nI u))) 230 (upd (A 230) e 1)) 234 (upd (A 234) u z.1)
    if hereF L T z.2 = 45 then (match numS T L (z.2 + 1) b with
      | none => none
      | some y => if y.1 < z.1 then none else some (y.2, u + 1, va_up (va_up (va_up A1 228 (upd (A1 228) e 5)) 229 (upd (A1 229) e z.1)) 230 (upd (A1 230) e y.1)))
    else furS T L b e 3 z.2 (u + 1) A1
/-- a frame begins at op -/
def entS (T : Nat → Int32) (L a u R E op : Nat) (A : Ro) (nm : Nat → Int64) (what oe : Int32) : Option Cg :=
  if bgF (hereF L T (gapF T L a)) = false ∨ E = 100 then none else
  let A1 := va_up (va_up (va_up A 235 (upd (A 235) op what)) 236 (upd (A 236) op oe)) 239 (upd (A 239) op (-1))
  let A2 := elA A1 E 0
  some (gapF T L a, u, R, E + 1, op, va_up A2 237 (upd (A2 237) op (nI E)), nm, true)
def ent0S (T : Nat → Int32) (L a u R E r : Nat) (A : Ro) (nm : Nat → Int64) : Option Cg :=
  match entS T L a u R E 0 A nm 0 (nI r) with
  | none => none
  | some (a1, u1, R1, E1, f1, A3, nm1, p1) =>
    let A4 := if A3 227 r < 0 then A3 else va_up A3 237 (upd (A3 237) 0 (A3 227 r))
    some (a1, u1, R1, E1, f1, va_up A4 227 (upd (A4 227) r (A4 237 0)), nm1, p1)
def plS (R E f e : Nat) (nm : Nat → Int64) : Option (Nat × Nat × Ro) → Option Cg
  | none => none
  | some z => some (z.1, z.2.1, R, E, f, plcS z.2.2 f e, nm, false)
def singS (T : Nat → Int32) (L a u R E f : Nat) (A : Ro) (nm : Nat → Int64) : Option Cg :=
  let h := hereF L T a
  if ltF h ≠ 0 then (match nameS T L a R A nm with
    | none => none
    | some (r, a1, R1, A1, nm1) => if E = 100 then none else some (a1, u, R1, E + 1, f, plcS (va_up (elA A1 E 6) 229 (upd (elA A1 E 6 229) E (nI r))) f E, nm1, false))
  else if h = 40 then (if 6 < f + 1 then none else entS T L (a + 1) u R E (f + 1) A nm 1 (-1))
  else if h = 91 then (if 6 < f + 1 ∨ E = 100 then none else entS T L (a + 1) u R (E + 1) (f + 1) (elA A E 3) nm 2 (nI E))
  else if E = 100 then none
  else if h = 34 then plS R (E + 1) f E nm (strS T L a u E (elA A E 4))
  else
    let b := smF (hereF L T (a + 1))
    let A1 := va_up (elA A E 4) 231 (upd (elA A E 4 231) E (vp_nar .boolean 1))
    if b = 115 then (if hereF L T (a + 1 + 1) ≠ 34 then none else plS R (E + 1) f E nm (strS T L (a + 1 + 1) u E A1))
    else if b = 100 ∨ b = 120 then plS R (E + 1) f E nm (numsS T L (a + 1 + 1) u E (if b = 100 then 10 else 16) A1)
    else none
/-- the bounds of a repetition from a on: first number, place behind; second number, place behind -/
def rpt1 (T : Nat → Int32) (L a : Nat) : Int32 × Nat := if dgF (hereF L T a) ≠ 0 then (hereF L T a - 48, a + 1) else (0, a)
def rpt2 (T : Nat → Int32) (L a : Nat) : Int32 × Nat :=
  if hereF L T (rpt1 T L a).2 = 42 then (if dgF (hereF L T ((rpt1 T L a).2 + 1)) ≠ 0 then (hereF L T ((rpt1 T L a).2 + 1) - 48, (rpt1 T L a).2 + 1 + 1) else (-1, (rpt1 T L a).2 + 1)) else ((rpt1 T L a).1, (rpt1 T L a).2)
def repA (A : Ro) (f E : Nat) : Ro :=
  let A2 := appS (elA A E 2) (elA A E 2 238 f).toNatClampNeg E
  va_up A2 239 (upd (A2 239) f (nI E))
def repB (A : Ro) (f E : Nat) (v1 v2 : Int32) : Ro := va_up (va_up (repA A f E) 229 (upd (repA A f E 229) E v1)) 230 (upd (repA A f E 230) E v2)
def repS (T : Nat → Int32) (L a u R E f : Nat) (A : Ro) (nm : Nat → Int64) : Option Cg :=
  if dgF (hereF L T a) ≠ 0 ∨ hereF L T a = 42 then
    if E = 100 then none else
    if (¬ (rpt2 T L a).1 < 0 ∧ (rpt2 T L a).1 < (rpt1 T L a).1) ∨ bgF (hereF L T (rpt2 T L a).2) = false ∨ dgF (hereF L T (rpt2 T L a).2) ≠ 0 ∨ hereF L T (rpt2 T L a).2 = 42 then none else singS T L (rpt2 T L a).2 u R (E + 1) f (repB A f E (rpt1 T L a).1 (rpt2 T L a).1) nm
  else singS T L a u R E f A nm
def seqA (A : Ro) (f E : Nat) : Ro :=
  let A1 := elA A E 1
  let A2 := va_up A1 238 (upd (A1 238) f (nI E))
  appS A2 (A2 237 f).toNatClampNeg E
def seqS (T : Nat → Int32) (L a u R E f : Nat) (A : Ro) (nm : Nat → Int64) : Option Cg :=
  if bgF (hereF L T a) = false ∨ E = 100 then none else repS T L a u R (E + 1) f (seqA A f E) nm
/-- goesOn: none where it is bad; false: the rule is at its end -/
def goS (T : Nat → Int32) (L a u R E f : Nat) (A : Ro) (nm : Nat → Int64) : Option (Bool × Cg) :=
  let a1 := gapF T L a
  let h := hereF L T a1
  if h = 47 then (seqS T L (gapF T L (a1 + 1)) u R E f A nm).map (fun z => (true, z))
  else if (h = 41 ∧ A 235 f = 1) ∨ (h = 93 ∧ A 235 f = 2) then
    let e := if A 235 f = 1 then (A 237 f).toNatClampNeg else (A 236 f).toNatClampNeg
    let A1 := if A 235 f = 2 then appS A e (A 237 f).toNatClampNeg else A
    some (true, a1 + 1, u, R, E, f - 1, plcS A1 (f - 1) e, nm, false)
  else if bgF h = true ∧ a < a1 then (repS T L a1 u R E f A nm).map (fun z => (true, z))
  else if A 235 f = 0 ∧ (h = 10 ∨ h < 0) then some (false, a1, u, R, E, f, A, nm, false)
  else none
/-- one turn of the loop in readRule -/
def turnS (T : Nat → Int32) (L : Nat) : Cg → Option (Bool × Cg)
  | (a, u, R, E, f, A, nm, true) => (seqS T L a u R E f A nm).map (fun z => (true, z))
  | (a, u, R, E, f, A, nm, false) => goS T L a u R E f A nm
/-- some turns lead from c to c' -/
def Rch (T : Nat → Int32) (L : Nat) : Nat → Cg → Cg → Prop
  | 0, c, c' => c = c'
  | n + 1, c, c' => ∃ d, turnS T L c = some (true, d) ∧ Rch T L n d c'
def Goes9 (T : Nat → Int32) (L : Nat) (c c' : Cg) : Prop := ∃ n, Rch T L n c c'
def Bad9 (T : Nat → Int32) (L : Nat) (c : Cg) : Prop := ∃ n d, Rch T L n c d ∧ turnS T L d = none
theorem Rch.trans {T : Nat → Int32} {L : Nat} : ∀ {n m : Nat} {c d e : Cg}, Rch T L n c d → Rch T L m d e → Rch T L (n + m) c e
  | 0, m, c, d, e, h1, h2 => by
    rw [Nat.zero_add]
    cases h1
    exact h2
  | n + 1, m, c, d, e, h1, h2 => by
    obtain ⟨x, hx, h⟩ := h1
    rw [show n + 1 + m = (n + m) + 1 by omega]
    exact ⟨x, hx, h.trans h2⟩
theorem Goes9.rf {T : Nat → Int32} {L : Nat} (c : Cg) : Goes9 T L c c := ⟨0, rfl⟩
theorem Goes9.trans {T : Nat → Int32} {L : Nat} {c d e : Cg} (h1 : Goes9 T L c d) (h2 : Goes9 T L d e) : Goes9 T L c e := by
  obtain ⟨n, h1⟩ := h1
  obtain ⟨m, h2⟩ := h2
  exact ⟨n + m, h1.trans h2⟩
theorem Goes9.bad {T : Nat → Int32} {L : Nat} {c d : Cg} (h1 : Goes9 T L c d) (h2 : Bad9 T L d) : Bad9 T L c := by
  obtain ⟨n, h1⟩ := h1
  obtain ⟨m, x, h2, h3⟩ := h2
  exact ⟨n + m, x, h1.trans h2, h3⟩
theorem Goes9.one {T : Nat → Int32} {L : Nat} {c d : Cg} (h : turnS T L c = some (true, d)) : Goes9 T L c d := ⟨1, d, h, rfl⟩
theorem Bad9.one {T : Nat → Int32} {L : Nat} {c : Cg} (h : turnS T L c = none) : Bad9 T L c := ⟨0, c, rfl, h⟩
