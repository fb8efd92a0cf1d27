/-! sets of bits; what the reference's chart computes, and that it only grows -/
def sub (x y : Int32) : Prop := x ||| y = y
theorem sub.rf (x : Int32) : sub x x := Int32.or_self
theorem sub.zero (x : Int32) : sub 0 x := Int32.zero_or
theorem sub.trans {x y z : Int32} (h1 : sub x y) (h2 : sub y z) : sub x z := by
  unfold sub at *
  rw [← h2, ← Int32.or_assoc, h1]
theorem sub.or {a b a' b' : Int32} (h1 : sub a a') (h2 : sub b b') : sub (a ||| b) (a' ||| b') := by
  unfold sub at *
  have : (a ||| b) ||| (a' ||| b') = (a ||| a') ||| (b ||| b') := by ac_rfl
  rw [this, h1, h2]
theorem sub.lf (a b : Int32) : sub a (a ||| b) := by
  unfold sub
  rw [← Int32.or_assoc, Int32.or_self]
def tbit (x : Int32) (k : Nat) : Prop := (x >>> (nI k &&& 31)) &&& 1 = 1
theorem or_bit (x y s : Int32) : ((x ||| y) >>> s) &&& 1 = ((x >>> s) &&& 1) ||| ((y >>> s) &&& 1) := by
  apply Int32.toBitVec_inj.mp
  rw [Int32.toBitVec_or, Int32.toBitVec_and, Int32.toBitVec_and, Int32.toBitVec_and, Int32.toBitVec_shiftRight, Int32.toBitVec_shiftRight, Int32.toBitVec_shiftRight, Int32.toBitVec_or]
  apply BitVec.eq_of_getLsbD_eq
  intro j hj
  rw [BitVec.getLsbD_and, BitVec.getLsbD_or, BitVec.getLsbD_and, BitVec.getLsbD_and]
  simp only [BitVec.sshiftRight', BitVec.getLsbD_sshiftRight, BitVec.getLsbD_or, BitVec.msb_or]
  cases (Int32.toBitVec 1).getLsbD j <;> simp
  have hd : decide (32 ≤ j) = false := decide_eq_false (by omega)
  by_cases q : (s.toBitVec.smod 32#32).toNat + j < 32 <;> simp [q, hd]
theorem or_one (z : Int32) : 1 ||| (z &&& 1) = 1 := by
  apply Int32.toBitVec_inj.mp
  rw [Int32.toBitVec_or, Int32.toBitVec_and]
  apply BitVec.eq_of_getLsbD_eq
  intro j hj
  rw [BitVec.getLsbD_or, BitVec.getLsbD_and]
  cases (Int32.toBitVec 1).getLsbD j <;> simp
theorem tbit.mono {x y : Int32} {k : Nat} (h : sub x y) (h1 : tbit x k) : tbit y k := by
  unfold tbit at *
  rw [← h, or_bit, h1, or_one]
def vN (x : Int32) : Nat := x.toBitVec.toNat
theorem vN_lt (x : Int32) : vN x < 2 ^ 32 := x.toBitVec.isLt
theorem sub.le {x y : Int32} (h : sub x y) : vN x ≤ vN y := by
  unfold vN
  rw [← h, Int32.toBitVec_or, BitVec.toNat_or]
  exact Nat.left_le_or
theorem sub.lt {x y : Int32} (h : sub x y) (hne : x ≠ y) : vN x < vN y := by
  rcases Nat.lt_or_ge (vN x) (vN y) with q | q
  · exact q
  · exact absurd (Int32.toBitVec_inj.mp (BitVec.eq_of_toNat_eq (Nat.le_antisymm h.le q))) hne
def mu (g : Nat → Int32) : Nat → Nat
  | 0 => 0
  | n + 1 => mu g n + (2 ^ 32 - vN (g n))
theorem mu_same {g g' : Nat → Int32} {n : Nat} (h : ∀ q, q < n → g q = g' q) : mu g n = mu g' n := by
  induction n with
  | zero => rfl
  | succ n ih => unfold mu; rw [ih (fun q hq => h q (by omega)), h n (by omega)]
theorem mu_lt {g : Nat → Int32} {q : Nat} {v : Int32} {n : Nat} (hq : q < n) (h : sub (g q) v) (hne : v ≠ g q) : mu (upd g q v) n < mu g n := by
  induction n with
  | zero => omega
  | succ n ih =>
    unfold mu
    by_cases e : q = n
    · subst e
      rw [mu_same (g := upd g q v) (g' := g) (fun i hi => upd_ne (by omega)), upd_self]
      have := h.lt (fun z => hne z.symm)
      have := vN_lt v
      omega
    · have := ih (by omega)
      rw [upd_ne (f := g) (k := q) (i := n) (x := v) (by omega)]
      omega
theorem upd_id {g : Nat → Int32} {q : Nat} : upd g q (g q) = g := by
  funext i
  by_cases e : i = q
  · subst e; rw [upd_self]
  · rw [upd_ne e]
theorem nI_mul (a b : Nat) : nI a * nI b = nI (a * b) := (Int32.ofNat_mul a b).symm
/-! the chart's functions; g: the ends as they stand -/
def ple (g g' : Nat → Int32) : Prop := ∀ q, sub (g q) (g' q)
def stepN (g : Nat → Int32) (b : Nat) (fr : Int32) : Nat → Int32
  | 0 => 0
  | k + 1 => stepN g b fr k ||| (if (fr >>> (nI k &&& 31)) &&& 1 = 1 then g (b + k) else 0)
def stepF (g : Nat → Int32) (G p : Nat) (fr : Int32) : Int32 := stepN g (25 * p) fr (G + 1)
theorem stepN_mono {g g' : Nat → Int32} {b : Nat} {x y : Int32} (h : ple g g') (hx : sub x y) (n : Nat) : sub (stepN g b x n) (stepN g' b y n) := by
  induction n with
  | zero => exact sub.rf _
  | succ n ih =>
    unfold stepN
    refine ih.or ?_
    by_cases q : (x >>> (nI n &&& 31)) &&& 1 = 1
    · rw [if_pos q, if_pos (show (y >>> (nI n &&& 31)) &&& 1 = 1 from tbit.mono (k := n) hx q)]; exact h _
    · rw [if_neg q]; exact sub.zero _
def iterS (g : Nat → Int32) (G p : Nat) (x : Int32) : Nat → Int32
  | 0 => x
  | k + 1 => stepF g G p (iterS g G p x k)
theorem iterS_mono {g g' : Nat → Int32} {G p : Nat} {x : Int32} (h : ple g g') (n : Nat) : sub (iterS g G p x n) (iterS g' G p x n) := by
  induction n with
  | zero => exact sub.rf _
  | succ n ih => exact stepN_mono h ih _
def iterT (g : Nat → Int32) (G p : Nat) (un : Bool) (x : Int32) : Nat → Int32 × Int32
  | 0 => (x, x)
  | k + 1 => let z := iterT g G p un x k; (stepF g G p (if un then z.2 else z.1), z.2 ||| stepF g G p (if un then z.2 else z.1))
theorem iterT_mono {g g' : Nat → Int32} {G p : Nat} {un : Bool} {x y : Int32} (h : ple g g') (hx : sub x y) (n : Nat) : sub (iterT g G p un x n).1 (iterT g' G p un y n).1 ∧ sub (iterT g G p un x n).2 (iterT g' G p un y n).2 := by
  induction n with
  | zero => exact ⟨hx, hx⟩
  | succ n ih =>
    have hs : sub (stepF g G p (if un then (iterT g G p un x n).2 else (iterT g G p un x n).1)) (stepF g' G p (if un then (iterT g' G p un y n).2 else (iterT g' G p un y n).1)) := by
      cases un
      · exact stepN_mono h ih.1 _
      · exact stepN_mono h ih.2 _
    exact ⟨hs, ih.2.or hs⟩
def timesF (g : Nat → Int32) (G p i : Nat) (on tw : Int32) : Int32 :=
  (iterT g G p (decide (tw < 0)) (iterS g G p (1 <<< (nI i &&& 31)) on.toNatClampNeg) (if tw < 0 then (26 : Int32) else tw - on).toNatClampNeg).2
theorem timesF_mono {g g' : Nat → Int32} {G p i : Nat} {on tw : Int32} (h : ple g g') : sub (timesF g G p i on tw) (timesF g' G p i on tw) := (iterT_mono h (iterS_mono h _) _).2
def chL (nx : Nat → Int32) : Nat → Int32 → List Nat
  | 0, _ => []
  | n + 1, v => if v < 0 then [] else v.toNatClampNeg :: chL nx n (nx v.toNatClampNeg)
def chF (g : Nat → Int32) (G i : Nat) (kd : Int32) : List Nat → Int32 → Int32
  | [], x => x
  | p :: ps, x => chF g G i kd ps (if kd = 1 then stepF g G p x else x ||| g (25 * p + i))
theorem chF_mono {g g' : Nat → Int32} {G i : Nat} {kd : Int32} (h : ple g g') (ps : List Nat) : ∀ {x y : Int32}, sub x y → sub (chF g G i kd ps x) (chF g' G i kd ps y) := by
  induction ps with
  | nil => intro x y hx; exact hx
  | cons p ps ih =>
    intro x y hx
    refine ih ?_
    by_cases q : kd = 1
    · rw [if_pos q, if_pos q]; exact stepN_mono h hx _
    · rw [if_neg q, if_neg q]; exact hx.or (h _)
def sameF (c d ex : Int32) : Int32 := if c = d then 1 else if ex ≠ 0 then 0 else if smF c = smF d then 1 else 0
def goodN (inp chr : Nat → Int32) (ex : Int32) (G i o t : Nat) : Nat → Int32
  | 0 => if G < i + t then 0 else 1
  | k + 1 => if goodN inp chr ex G i o t k = 0 then 0 else sameF (inp (i + k)) (chr (o + k)) ex
theorem goodN_0 {inp chr : Nat → Int32} {ex : Int32} {G i o t k : Nat} (h : goodN inp chr ex G i o t k = 0) (j : Nat) : goodN inp chr ex G i o t (k + j) = 0 := by
  induction j with
  | zero => exact h
  | succ j ih => show (if goodN inp chr ex G i o t (k + j) = 0 then 0 else _) = 0; rw [if_pos ih]
theorem goodN_le {inp chr : Nat → Int32} {ex : Int32} {G i o t k : Nat} (h : goodN inp chr ex G i o t k ≠ 0) : i + t ≤ G := by
  rcases Nat.lt_or_ge G (i + t) with q | q
  · have h0 : goodN inp chr ex G i o t 0 = 0 := if_pos q
    have := goodN_0 h0 k
    rw [Nat.zero_add] at this
    exact absurd this h
  · exact q
/-- what one element gives at one place -/
def fitF (A : Nat → Nat → Int32) (G p i : Nat) (g : Nat → Int32) : Int32 :=
  if A 228 p = 5 then (if i < G ∧ ¬ (A 240 i < A 229 p ∨ A 230 p < A 240 i) then 2 <<< (nI i &&& 31) else 0)
  else if A 228 p = 4 then (if goodN (A 240) (A 234) (A 231 p) G i (A 229 p).toNatClampNeg (A 230 p).toNatClampNeg (A 230 p).toNatClampNeg = 0 then 0 else 1 <<< (nI (i + (A 230 p).toNatClampNeg) &&& 31))
  else if A 228 p = 6 then (if A 227 (A 229 p).toNatClampNeg < 0 then 0 else g (25 * (A 227 (A 229 p).toNatClampNeg).toNatClampNeg + i))
  else if A 228 p = 2 then timesF g G (A 232 p).toNatClampNeg i (A 229 p) (A 230 p)
  else if A 228 p = 3 then 1 <<< (nI i &&& 31) ||| g (25 * (A 232 p).toNatClampNeg + i)
  else chF g G i (A 228 p) (chL (A 233) 100 (A 232 p)) (if A 228 p = 1 then 1 <<< (nI i &&& 31) else 0)
theorem fitF_mono {A : Nat → Nat → Int32} {G p i : Nat} {g g' : Nat → Int32} (h : ple g g') : sub (fitF A G p i g) (fitF A G p i g') := by
  unfold fitF
  split
  · exact sub.rf _
  split
  · exact sub.rf _
  split
  · split
    · exact sub.rf _
    · exact h _
  split
  · exact timesF_mono h
  split
  · exact (sub.rf _).or (h _)
  · exact chF_mono h _ (sub.rf _)
theorem fitF_congr {A A' : Nat → Nat → Int32} {G p i : Nat} {g : Nat → Int32} (h : ∀ j, j ≠ 241 → A' j = A j) : fitF A' G p i g = fitF A G p i g := by
  unfold fitF
  rw [h 227 (by decide), h 228 (by decide), h 229 (by decide), h 230 (by decide), h 231 (by decide), h 232 (by decide), h 233 (by decide), h 234 (by decide), h 240 (by decide)]
/-- every end that is booked is one that the element gives -/
def Pfx (A : Nat → Nat → Int32) (G E : Nat) (g : Nat → Int32) : Prop := ∀ p, p < E → ∀ i, i ≤ G → sub (g (25 * p + i)) (fitF A G p i g)
theorem Pfx.up {A : Nat → Nat → Int32} {G E p i : Nat} {g : Nat → Int32} (h : Pfx A G E g) (hG : G ≤ 24) (hp : p < E) (hi : i ≤ G) : Pfx A G E (upd g (25 * p + i) (fitF A G p i g)) := by
  have hle : ple g (upd g (25 * p + i) (fitF A G p i g)) := fun q => by
    by_cases e : q = 25 * p + i
    · subst e; rw [upd_self]; exact h p hp i hi
    · rw [upd_ne e]; exact sub.rf _
  intro p2 hp2 i2 hi2
  by_cases e : 25 * p2 + i2 = 25 * p + i
  · have e1 : p2 = p := by omega
    have e2 : i2 = i := by omega
    subst e1 e2
    rw [upd_self]
    exact fitF_mono hle
  · rw [upd_ne e]
    exact (h p2 hp2 i2 hi2).trans (fitF_mono hle)
