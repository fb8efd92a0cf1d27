/-! the reference's reading as functions: T the text, L its length; a place, u kept characters, R rules, E elements, f the top frame, A rows, nm names, pe pending -/
abbrev Ro : Type := Nat → Nat → Int32
def dgF (x : Int32) : Int32 := if x < 48 ∨ 57 < x then 0 else 1
def bgF (x : Int32) : Bool := decide (ltF x ≠ 0) || decide (dgF x ≠ 0) || decide (x = 42) || decide (x = 40) || decide (x = 91) || decide (x = 34) || decide (x = 37)
def figF (x b : Int32) : Int32 := if dgF x ≠ 0 then x - 48 else if b = 16 ∧ ¬ (smF x < 97 ∨ 102 < smF x) then smF x - 87 else -1
def nmF (T : Nat → Int32) (L : Nat) : Nat → Nat → Nat → Int64 → Int64 × Nat
  | 0, _, a, v => (v, a)
  | r + 1, k, a, v => if ltF (hereF L T a) ≠ 0 ∨ (0 < k ∧ (dgF (hereF L T a) ≠ 0 ∨ hereF L T a = 45)) then nmF T L r (k + 1) (a + 1) (v ||| ((smF (hereF L T a)).toInt64 <<< ((nI (8 * k)).toInt64 &&& 63))) else (v, a)
def fdF (nm : Nat → Int64) (v : Int64) : Nat → Option Nat
  | 0 => none
  | R + 1 => match fdF nm v R with
    | some r => some r
    | none => if nm R = v then some R else none
theorem fdF_lt {nm : Nat → Int64} {v : Int64} : ∀ {R r : Nat}, fdF nm v R = some r → r < R ∧ nm r = v
  | 0, r, h => by cases h
  | R + 1, r, h => by
    unfold fdF at h
    cases e : fdF nm v R with
    | some r' =>
      rw [e] at h
      have := fdF_lt e
      cases h
      exact ⟨by omega, this.2⟩
    | none =>
      rw [e] at h
      by_cases q : nm R = v
      · simp only [if_pos q] at h
        cases h
        exact ⟨by omega, q⟩
      · simp only [if_neg q] at h
        cases h
theorem fdF_hit {nm : Nat → Int64} {v : Int64} {r : Nat} (h0 : fdF nm v r = none) (h1 : nm r = v) : ∀ d, fdF nm v (r + 1 + d) = some r
  | 0 => by
    show fdF nm v (r + 1) = some r
    unfold fdF
    rw [h0]
    simp only [if_pos h1]
  | d + 1 => by
    show fdF nm v (r + 1 + d + 1) = some r
    unfold fdF
    rw [fdF_hit h0 h1 d]
theorem fdF_miss {nm : Nat → Int64} {v : Int64} {r : Nat} (h0 : fdF nm v r = none) (h1 : ¬ nm r = v) : fdF nm v (r + 1) = none := by
  unfold fdF
  rw [h0]
  simp only [if_neg h1]
def nameS (T : Nat → Int32) (L a R : Nat) (A : Ro) (nm : Nat → Int64) : Option (Nat × Nat × Nat × Ro × (Nat → Int64)) :=
  match fdF nm (nmF T L 6 0 a 0).1 R with
  | some r => some (r, (nmF T L 6 0 a 0).2, R, A, nm)
  | none => if R = 12 then none else some (R, (nmF T L 6 0 a 0).2, R + 1, va_up A 227 (upd (A 227) R (-1)), vp_updL nm R (nmF T L 6 0 a 0).1)
def lastN (nx : Nat → Int32) : Nat → Nat → Nat
  | 0, k => k
  | n + 1, k => if nx k < 0 then k else lastN nx n (nx k).toNatClampNeg
def appS (A : Ro) (to pa : Nat) : Ro := if A 232 to < 0 then va_up A 232 (upd (A 232) to (nI pa)) else va_up A 233 (upd (A 233) (lastN (A 233) 100 (A 232 to).toNatClampNeg) (nI pa))
def plcS (A : Ro) (f e : Nat) : Ro :=
  let A1 := if A 239 f < 0 then appS A (A 238 f).toNatClampNeg e else appS A (A 239 f).toNatClampNeg e
  va_up A1 239 (upd (A1 239) f (-1))
/-- characters of a string: how many, from a on -/
def strN (T : Nat → Int32) (L : Nat) : Nat → Nat → Nat
  | 0, _ => 0
  | r + 1, a => if ¬ (hereF L T a < 32 ∨ 126 < hereF L T a) ∧ hereF L T a ≠ 34 then strN T L r (a + 1) + 1 else 0
def chrS (T : Nat → Int32) (L u a : Nat) (f : Nat → Int32) : Nat → Nat → Int32
  | 0 => f
  | k + 1 => upd (chrS T L u a f k) (u + k) (hereF L T (a + k))
/-- a string from its quote at a on: place, kept characters, rows (not yet placed) -/
def strS (T : Nat → Int32) (L a u e : Nat) (A : Ro) : Option (Nat × Nat × Ro) :=
  let n := strN T L 12 (a + 1)
  if hereF L T (a + 1 + n) = 34 then some (a + 1 + n + 1, u + n, va_up (va_up (va_up A 229 (upd (A 229) e (nI u))) 234 (chrS T L u (a + 1) (A 234) n)) 230 (upd (A 230) e (nI n))) else none
/-- a number: value and how many figures -/
def numN (T : Nat → Int32) (L : Nat) (b : Int32) : Nat → Nat → Int32 → Int32 × Nat
  | 0, _, v => (v, 0)
  | r + 1, a, v => if figF (hereF L T a) b < 0 then (v, 0) else ((numN T L b r (a + 1) (b * v + figF (hereF L T a) b)).1, (numN T L b r (a + 1) (b * v + figF (hereF L T a) b)).2 + 1)
def numS (T : Nat → Int32) (L a : Nat) (b : Int32) : Option (Int32 × Nat) :=
  let z := numN T L b (if b = 10 then 3 else 2) a 0
  if z.2 = 0 ∨ 127 < z.1 then none else some (z.1, a + z.2)
