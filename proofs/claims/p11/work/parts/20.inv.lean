/-! the class's cells while and behind a reading, weakly: kinds, bounds, links that go on to later elements -/
def rfA (ad : Nat → Nat) (off st k : Nat) : Nat → Option Nat := fun i => if i < k then some (ad (off + st * i)) else none
def oE (ad : Nat → Nat) (lo hi : Nat) (v : Value) : Prop := v = .null ∨ ∃ j, lo ≤ j ∧ j < hi ∧ v = .ref (ad (20 + 2 * j))
def oR (ad : Nat → Nat) (rc : Nat) (v : Value) : Prop := v = .null ∨ ∃ i, i < rc ∧ v = .ref (ad (7 + i))
theorem oR.mono {ad : Nat → Nat} {rc rc' : Nat} {v : Value} (h : oR ad rc v) (h1 : rc ≤ rc') : oR ad rc' v := h.elim Or.inl (fun ⟨j, a, c⟩ => Or.inr ⟨j, by omega, c⟩)
theorem oE.mono {ad : Nat → Nat} {lo hi lo' hi' : Nat} {v : Value} (h : oE ad lo hi v) (h1 : lo' ≤ lo) (h2 : hi ≤ hi') : oE ad lo' hi' v := h.elim Or.inl (fun ⟨j, a, b, c⟩ => Or.inr ⟨j, by omega, by omega, c⟩)
def RuI (ad : Nat → Nat) (rc ec : Nat) (mem : Nat → va_E) (i : Nat) : Prop := ∃ (nm : Int64) (v w : Value), mem (7 + i) = .inr (5, [.long nm, v, w]) ∧ (i < rc → oE ad 0 ec v ∧ oE ad 0 ec w)
def ElI (ad : Nat → Nat) (rc ec : Nat) (mem : Nat → va_E) (k : Nat) : Prop := ∃ (a b c : Int32) (q v w : Value), mem (20 + 2 * k) = .inr (2, [.int a, .int b, .int c, q, v, w, .ref (ad (21 + 2 * k))]) ∧ (k < ec → oR ad rc q ∧ oE ad (k + 1) ec v ∧ oE ad (k + 1) ec w)
def GI (cy : Nat → ClassId) (ad : Nat → Nat) (lim rc ec : Nat) (wh : Int32) (mem : Nat → va_E) : Prop :=
  (rc ≤ 12 ∧ ec ≤ 100 ∧ lim ≤ ec) ∧ mem 5 = .inr (3, [.ref (ad 6), .ref (ad 19), .ref (ad 220), .int (nI rc), .int (nI ec), .int wh]) ∧ mem 6 = gaC (cy 5) 12 (rfA ad 7 1 12) ∧ mem 19 = gaC (cy 4) 100 (rfA ad 20 2 100) ∧ (∀ i, i < 12 → RuI ad rc lim mem i) ∧ (∀ k, k < 100 → ElI ad rc ec mem k ∧ ∃ g : Nat → Int32, mem (21 + 2 * k) = .inl (cy 1, 25, .inl g)) ∧ ∃ (S : Nat) (g : Nat → Int32), S ≤ 240 ∧ mem 220 = .inr (0, [.ref (ad 221), .int (nI S)]) ∧ mem 221 = .inl (cy 0, 240, .inl g)
def RS (cy : Nat → ClassId) (ad : Nat → Nat) (lim rc ec : Nat) (m0 mem : Nat → va_E) : Prop := GI cy ad lim rc ec 0 mem ∧ (∃ a t : Int32, mem 222 = .inr (4, [.ref (ad 1), .ref (ad 5), .int a, .int t])) ∧ ∀ i, i < 5 ∨ 223 ≤ i → mem i = m0 i
section INV
variable {cy : Nat → ClassId} {ad : Nat → Nat} {lim rc ec : Nat} {wh : Int32} {mem m0 : Nat → va_E}
theorem RuI.at {mem' : Nat → va_E} {i : Nat} (h : RuI ad rc ec mem i) (e : mem' (7 + i) = mem (7 + i)) : RuI ad rc ec mem' i := by
  obtain ⟨nm, v, w, h1, h2⟩ := h
  exact ⟨nm, v, w, e.trans h1, h2⟩
theorem ElI.at {mem' : Nat → va_E} {k : Nat} (h : ElI ad rc ec mem k) (e : mem' (20 + 2 * k) = mem (20 + 2 * k)) : ElI ad rc ec mem' k := by
  obtain ⟨a, b, c, q, v, w, h1, h2⟩ := h
  exact ⟨a, b, c, q, v, w, e.trans h1, h2⟩
theorem GI.frame {mem' : Nat → va_E} (h : GI cy ad lim rc ec wh mem) (e : ∀ i, 5 ≤ i → i < 222 → mem' i = mem i) : GI cy ad lim rc ec wh mem' := by
  obtain ⟨h1, h5, h6, h19, hr, he, S, g, hS, h220, h221⟩ := h
  refine ⟨h1, (e 5 (by omega) (by omega)).trans h5, (e 6 (by omega) (by omega)).trans h6, (e 19 (by omega) (by omega)).trans h19, fun i hi => (hr i hi).at (e _ (by omega) (by omega)), fun k hk => ⟨(he k hk).1.at (e _ (by omega) (by omega)), ?_⟩, S, g, hS, (e 220 (by omega) (by omega)).trans h220, (e 221 (by omega) (by omega)).trans h221⟩
  obtain ⟨g', h⟩ := (he k hk).2
  exact ⟨g', (e _ (by omega) (by omega)).trans h⟩
theorem GI.upEl (h : GI cy ad lim rc ec wh mem) {k : Nat} (hk : k < 100) {a b c : Int32} {q v w : Value} (hq : k < ec → oR ad rc q ∧ oE ad (k + 1) ec v ∧ oE ad (k + 1) ec w) : GI cy ad lim rc ec wh (va_up mem (20 + 2 * k) (.inr (2, [.int a, .int b, .int c, q, v, w, .ref (ad (21 + 2 * k))]))) := by
  obtain ⟨h1, h5, h6, h19, hr, he, S, g, hS, h220, h221⟩ := h
  refine ⟨h1, (va_up_ne _ _ (by omega)).trans h5, (va_up_ne _ _ (by omega)).trans h6, (va_up_ne _ _ (by omega)).trans h19, fun i hi => (hr i hi).at (va_up_ne _ _ (by omega)), fun j hj => ⟨?_, ?_⟩, S, g, hS, (va_up_ne _ _ (by omega)).trans h220, (va_up_ne _ _ (by omega)).trans h221⟩
  · by_cases hjk : j = k
    · subst hjk
      exact ⟨a, b, c, q, v, w, va_up_self _ _ _, hq⟩
    · exact (he j hj).1.at (va_up_ne _ _ (by omega))
  · obtain ⟨g', h⟩ := (he j hj).2
    exact ⟨g', (va_up_ne _ _ (by omega)).trans h⟩
theorem GI.upEnds (h : GI cy ad lim rc ec wh mem) {k : Nat} (hk : k < 100) {g0 : Nat → Int32} : GI cy ad lim rc ec wh (va_up mem (21 + 2 * k) (.inl (cy 1, 25, .inl g0))) := by
  obtain ⟨h1, h5, h6, h19, hr, he, S, g, hS, h220, h221⟩ := h
  refine ⟨h1, (va_up_ne _ _ (by omega)).trans h5, (va_up_ne _ _ (by omega)).trans h6, (va_up_ne _ _ (by omega)).trans h19, fun i hi => (hr i hi).at (va_up_ne _ _ (by omega)), fun j hj => ⟨(he j hj).1.at (va_up_ne _ _ (by omega)), ?_⟩, S, g, hS, (va_up_ne _ _ (by omega)).trans h220, (va_up_ne _ _ (by omega)).trans h221⟩
  by_cases hjk : j = k
  · subst hjk
    exact ⟨g0, va_up_self _ _ _⟩
  · obtain ⟨g', h⟩ := (he j hj).2
    exact ⟨g', (va_up_ne _ _ (by omega)).trans h⟩
theorem GI.upRu (h : GI cy ad lim rc ec wh mem) {k : Nat} (hk : k < 12) {nm : Int64} {v w : Value} (hq : k < rc → oE ad 0 lim v ∧ oE ad 0 lim w) : GI cy ad lim rc ec wh (va_up mem (7 + k) (.inr (5, [.long nm, v, w]))) := by
  obtain ⟨h1, h5, h6, h19, hr, he, S, g, hS, h220, h221⟩ := h
  refine ⟨h1, (va_up_ne _ _ (by omega)).trans h5, (va_up_ne _ _ (by omega)).trans h6, (va_up_ne _ _ (by omega)).trans h19, fun i hi => ?_, fun j hj => ⟨(he j hj).1.at (va_up_ne _ _ (by omega)), ?_⟩, S, g, hS, (va_up_ne _ _ (by omega)).trans h220, (va_up_ne _ _ (by omega)).trans h221⟩
  · by_cases hik : i = k
    · subst hik
      exact ⟨nm, v, w, va_up_self _ _ _, hq⟩
    · exact (hr i hi).at (va_up_ne _ _ (by omega))
  · obtain ⟨g', h⟩ := (he j hj).2
    exact ⟨g', (va_up_ne _ _ (by omega)).trans h⟩
/-- a new row of counts; what lies behind the old ones must be known -/
theorem GI.up5 (h : GI cy ad lim rc ec wh mem) {rc' ec' : Nat} {wh' : Int32} (hc : rc' ≤ 12 ∧ ec' ≤ 100 ∧ lim ≤ ec') (hr' : ∀ i, i < 12 → i < rc' → ∃ (nm : Int64) (v w : Value), mem (7 + i) = .inr (5, [.long nm, v, w]) ∧ oE ad 0 lim v ∧ oE ad 0 lim w) (he' : ∀ k, k < 100 → k < ec' → ∃ (a b c : Int32) (q v w : Value), mem (20 + 2 * k) = .inr (2, [.int a, .int b, .int c, q, v, w, .ref (ad (21 + 2 * k))]) ∧ oR ad rc' q ∧ oE ad (k + 1) ec' v ∧ oE ad (k + 1) ec' w) :
    GI cy ad lim rc' ec' wh' (va_up mem 5 (.inr (3, [.ref (ad 6), .ref (ad 19), .ref (ad 220), .int (nI rc'), .int (nI ec'), .int wh']))) := by
  obtain ⟨h1, h5, h6, h19, hr, he, S, g, hS, h220, h221⟩ := h
  refine ⟨hc, va_up_self _ _ _, (va_up_ne _ _ (by omega)).trans h6, (va_up_ne _ _ (by omega)).trans h19, fun i hi => ?_, fun j hj => ⟨?_, ?_⟩, S, g, hS, (va_up_ne _ _ (by omega)).trans h220, (va_up_ne _ _ (by omega)).trans h221⟩
  · by_cases hi2 : i < rc'
    · obtain ⟨nm, v, w, e, o⟩ := hr' i hi hi2
      exact ⟨nm, v, w, (va_up_ne _ _ (by omega)).trans e, fun _ => o⟩
    · obtain ⟨nm, v, w, e, -⟩ := hr i hi
      exact ⟨nm, v, w, (va_up_ne _ _ (by omega)).trans e, fun h => absurd h hi2⟩
  · by_cases hj2 : j < ec'
    · obtain ⟨a, b, c, q, v, w, e, o⟩ := he' j hj hj2
      exact ⟨a, b, c, q, v, w, (va_up_ne _ _ (by omega)).trans e, fun _ => o⟩
    · obtain ⟨a, b, c, q, v, w, e, -⟩ := (he j hj).1
      exact ⟨a, b, c, q, v, w, (va_up_ne _ _ (by omega)).trans e, fun h => absurd h hj2⟩
  · obtain ⟨g', h⟩ := (he j hj).2
    exact ⟨g', (va_up_ne _ _ (by omega)).trans h⟩
theorem GI.up220 (h : GI cy ad lim rc ec wh mem) {S' : Nat} (hS' : S' ≤ 240) : GI cy ad lim rc ec wh (va_up mem 220 (.inr (0, [.ref (ad 221), .int (nI S')]))) := by
  obtain ⟨h1, h5, h6, h19, hr, he, S, g, hS, h220, h221⟩ := h
  refine ⟨h1, (va_up_ne _ _ (by omega)).trans h5, (va_up_ne _ _ (by omega)).trans h6, (va_up_ne _ _ (by omega)).trans h19, fun i hi => (hr i hi).at (va_up_ne _ _ (by omega)), fun j hj => ⟨(he j hj).1.at (va_up_ne _ _ (by omega)), ?_⟩, S', g, hS', va_up_self _ _ _, (va_up_ne _ _ (by omega)).trans h221⟩
  obtain ⟨g', h⟩ := (he j hj).2
  exact ⟨g', (va_up_ne _ _ (by omega)).trans h⟩
theorem GI.up221 (h : GI cy ad lim rc ec wh mem) {g0 : Nat → Int32} : GI cy ad lim rc ec wh (va_up mem 221 (.inl (cy 0, 240, .inl g0))) := by
  obtain ⟨h1, h5, h6, h19, hr, he, S, g, hS, h220, h221⟩ := h
  refine ⟨h1, (va_up_ne _ _ (by omega)).trans h5, (va_up_ne _ _ (by omega)).trans h6, (va_up_ne _ _ (by omega)).trans h19, fun i hi => (hr i hi).at (va_up_ne _ _ (by omega)), fun j hj => ⟨(he j hj).1.at (va_up_ne _ _ (by omega)), ?_⟩, S, g0, hS, (va_up_ne _ _ (by omega)).trans h220, va_up_self _ _ _⟩
  obtain ⟨g', h⟩ := (he j hj).2
  exact ⟨g', (va_up_ne _ _ (by omega)).trans h⟩
theorem GI.upAny (h : GI cy ad lim rc ec wh mem) {j : Nat} {x : va_E} (hj : j < 5 ∨ 222 ≤ j) : GI cy ad lim rc ec wh (va_up mem j x) := h.frame (fun i h1 h2 => va_up_ne _ _ (by omega))
theorem RS.at222 (h : RS cy ad lim rc ec m0 mem) {a t : Int32} : RS cy ad lim rc ec m0 (va_up mem 222 (.inr (4, [.ref (ad 1), .ref (ad 5), .int a, .int t]))) := ⟨h.1.upAny (by omega), ⟨a, t, va_up_self _ _ _⟩, fun i hi => (va_up_ne _ _ (by omega)).trans (h.2.2 i hi)⟩
theorem RS.mk {rc' ec' : Nat} {j : Nat} {x : va_E} (h : RS cy ad lim rc ec m0 mem) (hj : 5 ≤ j ∧ j < 222) (hg : GI cy ad lim rc' ec' 0 (va_up mem j x)) : RS cy ad lim rc' ec' m0 (va_up mem j x) := by
  obtain ⟨a, t, e⟩ := h.2.1
  exact ⟨hg, ⟨a, t, (va_up_ne _ _ (by omega)).trans e⟩, fun i hi => (va_up_ne _ _ (by omega)).trans (h.2.2 i hi)⟩
end INV
section RQ
variable {p : Program} {l : Launch} {e : Env} {R : Room} {s : State} {m : MethodId} {args : Array Value} {below : List Frame} {meth : Method} {c : Code} {H : Heap} {locs : List Loc} {cells slots : Nat} {Q : State → Prop}
variable {cc : ByteArray} {pc : Nat} {ls : Array Slot} {rest : List Value} {D : va_G} {cy : Nat → ClassId} {own : String} {sz n j : Nat} {ad : Nat → Nat} {mem : Nat → va_E}
/-- a reference out of a row -/
theorem f_aald {C : String} {t0 N' : Nat} {f : Nat → Option Nat} (B : MB p s m args c cc own D cy) (hP : va_P D vcl (fw n ad mem) H) (hj : j < n) (hm : mem j = gaC (cy t0) N' f) (ht : (ty6 cy)[t0]? = some (cy t0, .object C)) {i : Int32} {q : Nat} (k : Nat) (hi : i = nI k) (hk : k < N') (hN : N' < 2 ^ 31) (hf : f k = some q) (hdg : decode cc pc = .ok (.aaload, 1)) (kk : W p l e R s m args below meth c H locs cells slots Q (F0 m (pc + 1) ls (.ref q :: rest))) : W p l e R s m args below meth c H locs cells slots Q (F0 m pc ls (.int i :: .ref (ad j) :: rest)) := by
  subst hi
  refine va_aldq B.1 B.2.1 B.2.2.2.2 hP j t0 (fw_atm hj hm) ht (vp_in_nI hk hN) hdg ?_
  rw [nI_clamp (by omega), hf]
  exact kk
end RQ
