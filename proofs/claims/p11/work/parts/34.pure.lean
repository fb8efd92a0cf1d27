/-! what the reference keeps while it reads: links go to later elements, open brackets are in order -/
theorem upd_self {f : Nat → Int32} {k : Nat} {x : Int32} : upd f k x k = x := by unfold upd; rw [if_pos rfl]
theorem upd_ne {f : Nat → Int32} {k i : Nat} {x : Int32} (h : i ≠ k) : upd f k x i = f i := by unfold upd; rw [if_neg h]
def TP (R E : Nat) (A : Nat → Nat → Int32) : Prop := ∀ r, r < R → cl E (A 227 r)
def KD (R E u : Nat) (A : Nat → Nat → Int32) : Prop := ∀ k, k < E → (A 228 k = 6 → ∃ r, r < R ∧ A 229 k = nI r) ∧ (A 228 k = 4 → ∃ o t, A 229 k = nI o ∧ A 230 k = nI t ∧ o + t ≤ u)
def FU (E : Nat) (A : Nat → Nat → Int32) (P : Nat → Prop) : Prop := ∀ k, k < E → A 228 k = 2 ∨ A 228 k = 3 → A 232 k ≠ -1 ∨ P k
def FrG (E f : Nat) (q : Prop) (c s t : Nat → Nat) (A : Nat → Nat → Int32) (g : Nat) : Prop :=
  (A 237 g = nI (c g) ∧ t g ≤ c g ∧ c g < E) ∧ (g = 0 → A 235 g = 0) ∧
  (1 ≤ g → (A 235 g = 1 ∧ t g = c g) ∨ (A 235 g = 2 ∧ A 236 g = nI (t g) ∧ c g = t g + 1 ∧ A 232 (t g) = -1 ∧ A 233 (t g) = -1)) ∧
  (g < f ∨ q → A 238 g = nI (s g) ∧ c g < s g ∧ s g < E) ∧ (g < f → s g < t (g + 1)) ∧
  (A 239 g = -1 ∨ ∃ r, A 239 g = nI r ∧ s g < r ∧ r < E ∧ (g < f → r < t (g + 1))) ∧ (1 ≤ g → CL (t g) A)
def Fr (E f : Nat) (q : Prop) (c s t : Nat → Nat) (A : Nat → Nat → Int32) : Prop := ∀ g, g ≤ f → FrG E f q c s t A g
def Px (f : Nat) (t : Nat → Nat) (A : Nat → Nat → Int32) (k : Nat) : Prop := ∃ g, g ≤ f ∧ (A 239 g = nI k ∨ (1 ≤ g ∧ A 235 g = 2 ∧ t g = k))
def Inv (R E u f : Nat) (q : Prop) (c s t : Nat → Nat) (A : Nat → Nat → Int32) (X : Nat → Prop) : Prop := LK E A ∧ TP R E A ∧ KD R E u A ∧ FU E A (fun k => Px f t A k ∨ X k) ∧ Fr E f q c s t A
def Gd (R E u : Nat) (A : Nat → Nat → Int32) : Prop := LK E A ∧ TP R E A ∧ KD R E u A ∧ FU E A (fun _ => False)
theorem nI_m {k : Nat} (h : k < 2 ^ 31) : nI k ≠ -1 := by
  intro q
  have := nI_pos (n := k) h
  rw [q] at this
  exact this (by decide)
theorem cl.mono {b b' : Nat} {v : Int32} (h : cl b v) (hb : b ≤ b') : cl b' v := h.elim Or.inl (fun ⟨j, a, q⟩ => Or.inr ⟨j, by omega, q⟩)
theorem lk.mono {E E' k : Nat} {v : Int32} (h : lk E k v) (hb : E ≤ E') : lk E' k v := h.elim Or.inl (fun ⟨j, a, b, q⟩ => Or.inr ⟨j, a, by omega, q⟩)
theorem lk.cl {E k : Nat} {v : Int32} (h : lk E k v) : cl E v := h.elim Or.inl (fun ⟨j, a, b, q⟩ => Or.inr ⟨j, b, q⟩)
section PU
variable {R E u f : Nat} {q : Prop} {c s t : Nat → Nat} {A A' : Nat → Nat → Int32} {X : Nat → Prop}
theorem Fr.step (h : Fr E f q c s t A) {g : Nat} (hg : g < f) : t g < t (g + 1) := by
  have h1 := h g (by omega)
  have h2 := h1.1.2.1
  have h3 := (h1.2.2.2.1 (Or.inl hg)).2.1
  have h4 := h1.2.2.2.2.1 hg
  omega
theorem Fr.tle (h : Fr E f q c s t A) {g : Nat} (hg : g ≤ f) : t g ≤ t f := by
  obtain ⟨d, rfl⟩ : ∃ d, f = g + d := ⟨f - g, by omega⟩
  have key : ∀ d', d' ≤ d → t g ≤ t (g + d') := by
    intro d'
    induction d' with
    | zero => intro _; exact Nat.le_refl _
    | succ d' ih => intro hd; have := ih (by omega); have h2 : t (g + d') < t (g + (d' + 1)) := h.step (g := g + d') (by omega); omega
  exact key d (Nat.le_refl _)
/-- a frame stays where its numbers and the links below its tag stay -/
theorem FrG.keep {E' : Nat} {g : Nat} (h : FrG E f q c s t A g) (hE : E ≤ E') (h5 : ∀ j, 235 ≤ j → j ≤ 239 → A' j g = A j g) (hl : 1 ≤ g → ∀ k, k < t g ∨ (k = t g ∧ A 235 g = 2) → A' 232 k = A 232 k ∧ A' 233 k = A 233 k) : FrG E' f q c s t A' g := by
  obtain ⟨a1, a2, a3, a4, a5, a6, a7⟩ := h
  refine ⟨⟨(h5 237 (by decide) (by decide)).trans a1.1, a1.2.1, by omega⟩, fun e => (h5 235 (by decide) (by decide)).trans (a2 e), fun e => ?_, fun e => ?_, a5, ?_, fun e k hk => ?_⟩
  · rw [h5 235 (by decide) (by decide), h5 236 (by decide) (by decide)]
    rcases a3 e with z | ⟨z1, z2, z3, z4, z5⟩
    · exact Or.inl z
    · have := hl e (t g) (Or.inr ⟨rfl, z1⟩)
      exact Or.inr ⟨z1, z2, z3, this.1.trans z4, this.2.trans z5⟩
  · have := a4 e
    exact ⟨(h5 238 (by decide) (by decide)).trans this.1, this.2.1, by omega⟩
  · rw [h5 239 (by decide) (by decide)]
    rcases a6 with z | ⟨r, z1, z2, z3, z4⟩
    · exact Or.inl z
    · exact Or.inr ⟨r, z1, z2, by omega, z4⟩
  · have := hl e k (Or.inl hk)
    rw [this.1, this.2]
    exact a7 e k hk
theorem Px.keep {k : Nat} (h : Px f t A k) (h5 : ∀ g, g ≤ f → A' 239 g = A 239 g ∧ A' 235 g = A 235 g) : Px f t A' k := by
  obtain ⟨g, hg, z⟩ := h
  refine ⟨g, hg, ?_⟩
  rw [(h5 g hg).1, (h5 g hg).2]
  exact z
/-- a new element, as far as its links: it has none -/
def Ext (E : Nat) (A A' : Nat → Nat → Int32) : Prop := (∀ j, 228 ≤ j → j ≤ 233 → j ≠ 231 → ∀ k, k < E → A' j k = A j k) ∧ A' 227 = A 227 ∧ (∀ j, 235 ≤ j → j ≤ 239 → A' j = A j) ∧ A' 232 E = -1 ∧ A' 233 E = -1
theorem Inv.ext {u' : Nat} (h : Inv R E u f q c s t A X) (e : Ext E A A') (hu : u ≤ u') (h6 : A' 228 E = 6 → ∃ r, r < R ∧ A' 229 E = nI r) (h4 : A' 228 E = 4 → ∃ o t, A' 229 E = nI o ∧ A' 230 E = nI t ∧ o + t ≤ u') (hX : ∀ k, X k → k < E) :
    Inv R (E + 1) u' f q c s t A' (fun k => X k ∨ (k = E ∧ (A' 228 E = 2 ∨ A' 228 E = 3))) ∧ CL E A' := by
  obtain ⟨hL, hT, hK, hF, hR⟩ := h
  obtain ⟨e1, e2, e3, e4, e5⟩ := e
  have l2 : ∀ k, k < E → A' 232 k = A 232 k := fun k hk => e1 232 (by decide) (by decide) (by decide) k hk
  have l3 : ∀ k, k < E → A' 233 k = A 233 k := fun k hk => e1 233 (by decide) (by decide) (by decide) k hk
  refine ⟨⟨fun k hk => ?_, fun r hr => ?_, fun k hk => ?_, fun k hk hk2 => ?_, fun g hg => ?_⟩, fun k hk => ?_⟩
  · by_cases hk2 : k = E
    · subst hk2; exact ⟨Or.inl e4, Or.inl e5⟩
    · rw [l2 k (by omega), l3 k (by omega)]
      exact ⟨(hL k (by omega)).1.mono (by omega), (hL k (by omega)).2.mono (by omega)⟩
  · rw [e2]; exact (hT r hr).mono (by omega)
  · by_cases hk2 : k = E
    · subst hk2; exact ⟨h6, h4⟩
    · rw [e1 228 (by decide) (by decide) (by decide) k (by omega), e1 229 (by decide) (by decide) (by decide) k (by omega), e1 230 (by decide) (by decide) (by decide) k (by omega)]
      refine ⟨(hK k (by omega)).1, fun z => ?_⟩
      obtain ⟨o, t, a, b, d⟩ := (hK k (by omega)).2 z
      exact ⟨o, t, a, b, by omega⟩
  · by_cases hk3 : k = E
    · subst hk3; exact Or.inr (Or.inr (Or.inr ⟨rfl, hk2⟩))
    · rw [e1 228 (by decide) (by decide) (by decide) k (by omega)] at hk2
      rw [l2 k (by omega)]
      rcases hF k (by omega) hk2 with z | z | z
      · exact Or.inl z
      · exact Or.inr (Or.inl (z.keep (fun g _ => ⟨by rw [e3 239 (by decide) (by decide)], by rw [e3 235 (by decide) (by decide)]⟩)))
      · exact Or.inr (Or.inr (Or.inl z))
  · refine (hR g hg).keep (by omega) (fun j h1 h2 => by rw [e3 j h1 h2]) (fun _ k hk => ?_)
    have := (hR g hg).1
    exact ⟨l2 k (by omega), l3 k (by omega)⟩
  · rw [l2 k hk, l3 k hk]
    exact ⟨(hL k hk).1.cl, (hL k hk).2.cl⟩
theorem Inv.rule (h : Inv R E u f q c s t A X) : Inv (R + 1) E u f q c s t (va_up A 227 (upd (A 227) R (-1))) X := by
  obtain ⟨hL, hT, hK, hF, hR⟩ := h
  refine ⟨hL, fun r hr => ?_, fun k hk => ⟨fun z => ?_, (hK k hk).2⟩, fun k hk z => ?_, fun g hg => (hR g hg).keep (Nat.le_refl _) (fun j h1 h2 => by rw [va_up_ne _ _ (by omega)]) (fun _ k _ => ⟨rfl, rfl⟩)⟩
  · show cl E (upd (A 227) R (-1) r)
    by_cases hr2 : r = R
    · subst hr2; rw [upd_self]; exact Or.inl rfl
    · rw [upd_ne hr2]; exact hT r (by omega)
  · obtain ⟨r, a, b⟩ := (hK k hk).1 z
    exact ⟨r, by omega, b⟩
  · rcases hF k hk z with y | y | y
    · exact Or.inl y
    · exact Or.inr (Or.inl (y.keep (fun g _ => ⟨rfl, rfl⟩)))
    · exact Or.inr (Or.inr y)
theorem Gd.rule (h : Gd R E u A) : Gd (R + 1) E u (va_up A 227 (upd (A 227) R (-1))) := by
  obtain ⟨hL, hT, hK, hF⟩ := h
  refine ⟨hL, fun r hr => ?_, fun k hk => ⟨fun z => ?_, (hK k hk).2⟩, hF⟩
  · show cl E (upd (A 227) R (-1) r)
    by_cases hr2 : r = R
    · subst hr2; rw [upd_self]; exact Or.inl rfl
    · rw [upd_ne hr2]; exact hT r (by omega)
  · obtain ⟨r, a, b⟩ := (hK k hk).1 z
    exact ⟨r, by omega, b⟩
/-- what a new link changes -/
theorem apd.at {to pa : Nat} (h : apd A A' to pa) : ∃ k, to ≤ k ∧ (k = to ∨ k < pa) ∧ (∀ j, j ≠ 232 → j ≠ 233 → A' j = A j) ∧ (∀ i, i ≠ k → A' 232 i = A 232 i ∧ A' 233 i = A 233 i) ∧ (A' 232 k = A 232 k ∨ A' 232 k = nI pa) ∧ (A' 233 k = A 233 k ∨ A' 233 k = nI pa) ∧ (k = to → A' 233 k = A 233 k) ∧ (A' 232 to = nI pa ∨ (A' 232 to = A 232 to ∧ A 232 to ≠ -1)) := by
  rcases h with ⟨h0, rfl⟩ | ⟨h0, k, h1, h2, h3, rfl⟩
  · refine ⟨to, Nat.le_refl _, Or.inl rfl, fun j a b => va_up_ne _ _ a, fun i hi => ⟨?_, rfl⟩, Or.inr ?_, Or.inl rfl, fun _ => rfl, Or.inl ?_⟩
    · show upd (A 232) to (nI pa) i = A 232 i
      exact upd_ne hi
    · show upd (A 232) to (nI pa) to = nI pa
      exact upd_self
    · show upd (A 232) to (nI pa) to = nI pa
      exact upd_self
  · refine ⟨k, by omega, Or.inr h2, fun j a b => va_up_ne _ _ b, fun i hi => ⟨rfl, ?_⟩, Or.inl rfl, Or.inr ?_, fun e => by omega, Or.inr ⟨rfl, h0⟩⟩
    · show upd (A 233) k (nI pa) i = A 233 i
      exact upd_ne hi
    · show upd (A 233) k (nI pa) k = nI pa
      exact upd_self
theorem apd.LK {to pa : Nat} (h : apd A A' to pa) (hto : to < pa) (hpa : pa < E) (hL : LK E A) : LK E A' := by
  obtain ⟨k, k1, k2, -, k4, k5, k6, -, -⟩ := h.at
  intro i hi
  by_cases e : i = k
  · subst e
    refine ⟨?_, ?_⟩
    · rcases k5 with z | z
      · rw [z]; exact (hL i hi).1
      · rw [z]; exact Or.inr ⟨pa, by omega, hpa, rfl⟩
    · rcases k6 with z | z
      · rw [z]; exact (hL i hi).2
      · rw [z]; exact Or.inr ⟨pa, by omega, hpa, rfl⟩
  · rw [(k4 i e).1, (k4 i e).2]; exact hL i hi
/-- a part is put behind the others of its row -/
theorem Inv.place {to pa : Nat} {A2 : Nat → Nat → Int32} {v : Int32} {X' : Nat → Prop} (h : Inv R E u f True c s t A X) (hE : E ≤ 100) (ha : apd A A' to pa) (hpa : pa < E) (hto : to < pa) (hc : c f < to) (hv : v = -1 ∨ ∃ r, v = nI r ∧ s f < r ∧ r < E)
    (hX : ∀ k, k < E → X k → A' 232 k ≠ -1 ∨ X' k ∨ v = nI k) (hr : ∀ r, r < E → A 239 f = nI r → r = to) (e2 : A2 = va_up A' 239 (upd (A' 239) f v)) : Inv R E u f True c s t A2 X' ∧ A2 239 f = v := by
  obtain ⟨hL, hT, hK, hF, hR⟩ := h
  obtain ⟨k, k1, k2, k3, k4, k5, k6, k7, k8⟩ := ha.at
  have hself : A2 239 f = v := by rw [e2]; exact upd_self
  have h9 : ∀ g, g ≠ f → A2 239 g = A 239 g := fun g hg => by
    rw [e2]
    show upd (A' 239) f v g = A 239 g
    rw [upd_ne hg, k3 239 (by decide) (by decide)]
  have ho : ∀ j, j ≠ 239 → A2 j = A' j := fun j hj => by rw [e2]; exact va_up_ne _ _ hj
  have hL' : LK E A' := ha.LK hto hpa hL
  have hj : ∀ j, j ≠ 232 → j ≠ 233 → j ≠ 239 → A2 j = A j := fun j a b d => (ho j d).trans (k3 j a b)
  have htf := hR.tle (g := f) (Nat.le_refl _)
  have hcf := (hR f (Nat.le_refl _)).1.2.1
  refine ⟨⟨fun i hi => ?_, fun r hr2 => ?_, fun i hi => ?_, fun i hi z => ?_, fun g hg => ?_⟩, hself⟩
  · rw [ho 232 (by decide), ho 233 (by decide)]; exact hL' i hi
  · rw [hj 227 (by decide) (by decide) (by decide)]; exact hT r hr2
  · rw [hj 228 (by decide) (by decide) (by decide), hj 229 (by decide) (by decide) (by decide), hj 230 (by decide) (by decide) (by decide)]; exact hK i hi
  · rw [hj 228 (by decide) (by decide) (by decide)] at z
    rw [ho 232 (by decide)]
    by_cases hit : i = to
    · subst hit
      rcases k8 with y | ⟨y1, y2⟩
      · exact Or.inl (by rw [y]; exact nI_m (by omega) )
      · exact Or.inl (by rw [y1]; exact y2)
    · rcases hF i hi z with y | ⟨g, hg, y⟩ | y
      · by_cases hik : i = k
        · subst hik
          rcases k5 with w | w
          · exact Or.inl (by rw [w]; exact y)
          · exact Or.inl (by rw [w]; exact nI_m (by omega))
        · exact Or.inl (by rw [(k4 i hik).1]; exact y)
      · rcases y with y | ⟨y1, y2, y3⟩
        · by_cases hgf : g = f
          · subst hgf; exact absurd (hr i hi y) hit
          · exact Or.inr (Or.inl ⟨g, hg, Or.inl ((h9 g hgf).trans y)⟩)
        · exact Or.inr (Or.inl ⟨g, hg, Or.inr ⟨y1, by rw [hj 235 (by decide) (by decide) (by decide)]; exact y2, y3⟩⟩)
      · rcases hX i hi y with w | w | w
        · exact Or.inl w
        · exact Or.inr (Or.inr w)
        · exact Or.inr (Or.inl ⟨f, Nat.le_refl _, Or.inl (hself.trans w)⟩)
  · have htg := hR.tle hg
    have lnk : 1 ≤ g → ∀ i, i < t g ∨ (i = t g ∧ A 235 g = 2) → A' 232 i = A 232 i ∧ A' 233 i = A 233 i := fun _ i hi => k4 i (by omega)
    by_cases hgf : g = f
    · subst hgf
      obtain ⟨a1, a2, a3, a4, a5, a6, a7⟩ := (hR g (Nat.le_refl _)).keep (A' := va_up A2 239 (A 239)) (E' := E) (Nat.le_refl _) (fun j h1 h2 => by
        by_cases e : j = 239
        · subst e; rfl
        · rw [va_up_ne _ _ e, hj j (by omega) (by omega) e]) (fun w i hi => by
        have := lnk w i hi
        rw [va_up_ne _ _ (by decide), va_up_ne _ _ (by decide), ho 232 (by decide), ho 233 (by decide)]
        exact this)
      refine ⟨a1, a2, a3, a4, a5, ?_, a7⟩
      rw [hself]
      rcases hv with w | ⟨r, w1, w2, w3⟩
      · exact Or.inl w
      · exact Or.inr ⟨r, w1, w2, w3, fun w => absurd w (Nat.lt_irrefl _)⟩
    · refine (hR g hg).keep (Nat.le_refl _) (fun j h1 h2 => ?_) (fun w i hi => by rw [ho 232 (by decide), ho 233 (by decide)]; exact lnk w i hi)
      by_cases e : j = 239
      · subst e; exact h9 g hgf
      · rw [hj j (by omega) (by omega) e]
theorem Inv.note {e u' : Nat} (h : Inv R E u f q c s t A X) (hu : u ≤ u') (h1 : ∀ j, j ≠ 228 → j ≠ 229 → j ≠ 230 → j ≠ 231 → j ≠ 234 → A' j = A j) (h2 : ∀ k, k ≠ e → A' 228 k = A 228 k ∧ A' 229 k = A 229 k ∧ A' 230 k = A 230 k) (hk : A' 228 e = A 228 e ∨ A' 228 e = 5) (h6 : A' 228 e ≠ 6) (h4 : A' 228 e = 4 → ∃ o t, A' 229 e = nI o ∧ A' 230 e = nI t ∧ o + t ≤ u') : Inv R E u' f q c s t A' X := by
  obtain ⟨hL, hT, hK, hF, hR⟩ := h
  have e2 : A' 232 = A 232 := h1 232 (by decide) (by decide) (by decide) (by decide) (by decide)
  have e3 : A' 233 = A 233 := h1 233 (by decide) (by decide) (by decide) (by decide) (by decide)
  refine ⟨fun k hk => by rw [e2, e3]; exact hL k hk, fun r hr => by rw [h1 227 (by decide) (by decide) (by decide) (by decide) (by decide)]; exact hT r hr, fun k hk2 => ?_, fun k hk2 z => ?_, fun g hg => (hR g hg).keep (Nat.le_refl _) (fun j a b => by rw [h1 j (by omega) (by omega) (by omega) (by omega) (by omega)]) (fun _ k _ => by rw [e2, e3]; exact ⟨rfl, rfl⟩)⟩
  · by_cases hke : k = e
    · subst hke; exact ⟨fun z => absurd z h6, h4⟩
    · rw [(h2 k hke).1, (h2 k hke).2.1, (h2 k hke).2.2]
      refine ⟨(hK k hk2).1, fun z => ?_⟩
      obtain ⟨o, t, a, b, d⟩ := (hK k hk2).2 z
      exact ⟨o, t, a, b, by omega⟩
  · rw [e2]
    have z' : A 228 k = 2 ∨ A 228 k = 3 := by
      by_cases hke : k = e
      · subst hke
        rcases hk with w | w
        · rw [← w]; exact z
        · rw [w] at z; exact absurd z (by decide)
      · rw [← (h2 k hke).1]; exact z
    rcases hF k hk2 z' with w | w | w
    · exact Or.inl w
    · exact Or.inr (Or.inl (w.keep (fun g _ => ⟨by rw [h1 239 (by decide) (by decide) (by decide) (by decide) (by decide)], by rw [h1 235 (by decide) (by decide) (by decide) (by decide) (by decide)]⟩)))
    · exact Or.inr (Or.inr w)
theorem Inv.set8 {v : Int32} (h : Inv R E u f False c s t A X) : Inv R E u f False c s t (va_up A 238 (upd (A 238) f v)) X := by
  obtain ⟨hL, hT, hK, hF, hR⟩ := h
  refine ⟨hL, hT, hK, fun k hk z => ?_, fun g hg => ?_⟩
  · rcases hF k hk z with w | w | w
    · exact Or.inl w
    · exact Or.inr (Or.inl (w.keep (fun g _ => ⟨rfl, rfl⟩)))
    · exact Or.inr (Or.inr w)
  · obtain ⟨a1, a2, a3, a4, a5, a6, a7⟩ := hR g hg
    refine ⟨a1, a2, a3, fun w => ?_, a5, a6, a7⟩
    have hgf : g ≠ f := by rcases w with w | w; omega; exact w.elim
    have := a4 w
    exact ⟨(upd_ne hgf).trans this.1, this.2⟩
theorem Inv.seq (h : Inv R (E + 1) u f False c s t A X) (hE : E + 1 ≤ 100) (hs : A 238 f = nI E) (h9 : A 239 f = -1) (hc : c f < E) (ha : apd A A' (c f) E) : Inv R (E + 1) u f True c (fun g => if g = f then E else s g) t A' X ∧ A' 239 f = -1 := by
  obtain ⟨hL, hT, hK, hF, hR⟩ := h
  obtain ⟨k, k1, k2, k3, k4, k5, k6, k7, k8⟩ := ha.at
  have h9' : A' 239 f = -1 := by rw [k3 239 (by decide) (by decide)]; exact h9
  refine ⟨⟨ha.LK hc (by omega) hL, fun r hr => by rw [k3 227 (by decide) (by decide)]; exact hT r hr, fun i hi => by rw [k3 228 (by decide) (by decide), k3 229 (by decide) (by decide), k3 230 (by decide) (by decide)]; exact hK i hi, fun i hi z => ?_, fun g hg => ?_⟩, h9'⟩
  · rw [k3 228 (by decide) (by decide)] at z
    rcases hF i hi z with w | w | w
    · by_cases hik : i = k
      · subst hik
        rcases k5 with y | y
        · exact Or.inl (by rw [y]; exact w)
        · exact Or.inl (by rw [y]; exact nI_m (by omega))
      · exact Or.inl (by rw [(k4 i hik).1]; exact w)
    · exact Or.inr (Or.inl (w.keep (fun g _ => ⟨by rw [k3 239 (by decide) (by decide)], by rw [k3 235 (by decide) (by decide)]⟩)))
    · exact Or.inr (Or.inr w)
  · have htg := hR.tle hg
    have hfc := (hR f (Nat.le_refl _)).1.2.1
    have hgg := hR g hg
    have lnk : 1 ≤ g → ∀ i, i < t g ∨ (i = t g ∧ A 235 g = 2) → A' 232 i = A 232 i ∧ A' 233 i = A 233 i := fun w i hi => k4 i (by
      rcases hi with y | ⟨y, y2⟩
      · omega
      · rcases hgg.2.2.1 w with z | z
        · rw [z.1] at y2; exact absurd y2 (by decide)
        · have := z.2.2.1
          by_cases e : g = f
          · subst e; omega
          · have : t g < t f := by
              have h1 := hR.step (g := g) (by omega)
              have h2 : t (g + 1) ≤ t f := hR.tle (by omega)
              omega
            omega)
    obtain ⟨a1, a2, a3, a4, a5, a6, a7⟩ := hgg.keep (A' := A') (E' := E + 1) (Nat.le_refl _) (fun j a b => by rw [k3 j (by omega) (by omega)]) lnk
    refine ⟨a1, a2, a3, fun _ => ?_, fun w => ?_, ?_, a7⟩
    · by_cases e : g = f
      · subst e
        rw [k3 238 (by decide) (by decide)]
        show A 238 g = nI (if g = g then E else s g) ∧ c g < (if g = g then E else s g) ∧ (if g = g then E else s g) < E + 1
        rw [if_pos rfl]; exact ⟨hs, hc, by omega⟩
      · have := a4 (Or.inl (by omega))
        show A' 238 g = nI (if g = f then E else s g) ∧ c g < (if g = f then E else s g) ∧ (if g = f then E else s g) < E + 1
        rw [if_neg e]; exact this
    · show (if g = f then E else s g) < t (g + 1)
      rw [if_neg (by omega)]; exact a5 w
    · by_cases e : g = f
      · subst e; exact Or.inl h9'
      · show A' 239 g = -1 ∨ ∃ r, A' 239 g = nI r ∧ (if g = f then E else s g) < r ∧ r < E + 1 ∧ (g < f → r < t (g + 1))
        rw [if_neg e]; exact a6
theorem Inv.push {tt : Nat} {what e : Int32} (h : Inv R E u f True c s t A X) (hE : E < 100) (x : Ext E A (fun j => if j = 235 ∨ j = 236 ∨ j = 237 ∨ j = 239 then A j else A' j)) (h0 : A' 228 E = 0)
    (e2 : ∀ j, 235 ≤ j → j ≤ 239 → ∀ g, g ≠ f + 1 → A' j g = A j g) (e5 : A' 235 (f + 1) = what) (e6 : A' 236 (f + 1) = e) (e7 : A' 237 (f + 1) = nI E) (e9 : A' 239 (f + 1) = -1)
    (hw : (what = 1 ∧ tt = E ∧ ∀ k, ¬ X k) ∨ (what = 2 ∧ e = nI tt ∧ E = tt + 1 ∧ A 232 tt = -1 ∧ A 233 tt = -1 ∧ ∀ k, X k → k = tt)) (hs : s f < tt) (hr : A 239 f = -1 ∨ ∃ r, A 239 f = nI r ∧ s f < r ∧ r < tt) (hCL : CL tt A) :
    Inv R (E + 1) u (f + 1) False (fun g => if g = f + 1 then E else c g) s (fun g => if g = f + 1 then tt else t g) A' (fun _ => False) := by
  obtain ⟨⟨hL, hT, hK, hF, hR⟩, -⟩ := h.ext x (Nat.le_refl u) (fun z => absurd (h0.symm.trans z) (by decide)) (fun z => absurd (h0.symm.trans z) (by decide)) (fun k hk => by
    rcases hw with ⟨_, _, w⟩ | ⟨_, _, w1, _, _, w⟩
    · exact absurd hk (w k)
    · have := w k hk; omega)
  have htE : tt ≤ E := by rcases hw with ⟨_, w, _⟩ | ⟨_, _, w, _⟩ <;> omega
  have l2 : ∀ k, k < E → A' 232 k = A 232 k := fun k hk => x.1 232 (by decide) (by decide) (by decide) k hk
  have l3 : ∀ k, k < E → A' 233 k = A 233 k := fun k hk => x.1 233 (by decide) (by decide) (by decide) k hk
  have hR0 := h.2.2.2.2
  refine ⟨hL, hT, hK, fun k hk z => ?_, fun g hg => ?_⟩
  · rcases hF k hk z with w | ⟨g, hg, w⟩ | w
    · exact Or.inl w
    · refine Or.inr (Or.inl ⟨g, by omega, ?_⟩)
      show A' 239 g = nI k ∨ (1 ≤ g ∧ A' 235 g = 2 ∧ (if g = f + 1 then tt else t g) = k)
      rw [if_neg (by omega), e2 239 (by decide) (by decide) g (by omega), e2 235 (by decide) (by decide) g (by omega)]
      exact w
    · rcases w with w | ⟨w, w2⟩
      · rcases hw with ⟨_, _, y⟩ | ⟨y0, _, _, _, _, y⟩
        · exact absurd w (y k)
        · refine Or.inr (Or.inl ⟨f + 1, Nat.le_refl _, Or.inr ⟨by omega, e5.trans y0, ?_⟩⟩)
          show (if f + 1 = f + 1 then tt else t (f + 1)) = k
          rw [if_pos rfl, y k w]
      · have w2' : A' 228 E = 2 ∨ A' 228 E = 3 := w2
        rw [h0] at w2'
        exact absurd w2' (by decide)
  · by_cases hgf : g = f + 1
    · subst hgf
      refine ⟨⟨?_, ?_, ?_⟩, fun w => by omega, fun _ => ?_, fun w => ?_, fun w => by omega, Or.inl e9, fun _ => ?_⟩
      · show A' 237 (f + 1) = nI (if f + 1 = f + 1 then E else c (f + 1))
        rw [if_pos rfl]; exact e7
      · show (if f + 1 = f + 1 then tt else t (f + 1)) ≤ (if f + 1 = f + 1 then E else c (f + 1))
        rw [if_pos rfl, if_pos rfl]; exact htE
      · show (if f + 1 = f + 1 then E else c (f + 1)) < E + 1
        rw [if_pos rfl]; omega
      · show (A' 235 (f + 1) = 1 ∧ (if f + 1 = f + 1 then tt else t (f + 1)) = (if f + 1 = f + 1 then E else c (f + 1))) ∨ (A' 235 (f + 1) = 2 ∧ A' 236 (f + 1) = nI (if f + 1 = f + 1 then tt else t (f + 1)) ∧ (if f + 1 = f + 1 then E else c (f + 1)) = (if f + 1 = f + 1 then tt else t (f + 1)) + 1 ∧ A' 232 (if f + 1 = f + 1 then tt else t (f + 1)) = -1 ∧ A' 233 (if f + 1 = f + 1 then tt else t (f + 1)) = -1)
        rw [if_pos rfl, if_pos rfl]
        rcases hw with ⟨w1, w2, _⟩ | ⟨w1, w2, w3, w4, w5, _⟩
        · exact Or.inl ⟨e5.trans w1, w2⟩
        · exact Or.inr ⟨e5.trans w1, e6.trans w2, w3, (l2 tt (by omega)).trans w4, (l3 tt (by omega)).trans w5⟩
      · rcases w with w | w
        · omega
        · exact w.elim
      · show CL (if f + 1 = f + 1 then tt else t (f + 1)) A'
        rw [if_pos rfl]
        intro k hk
        rw [l2 k (by omega), l3 k (by omega)]
        exact hCL k hk
    · have hg' : g ≤ f := by omega
      obtain ⟨a1, a2, a3, a4, a5, a6, a7⟩ := (hR0 g hg').keep (A' := A') (E' := E + 1) (by omega) (fun j a b => e2 j a b g hgf) (fun w k hk => by
        have := (hR0 g hg').1
        exact ⟨l2 k (by omega), l3 k (by omega)⟩)
      refine ⟨?_, a2, fun w => ?_, fun w => ?_, fun w => ?_, ?_, fun w => ?_⟩
      · show A' 237 g = nI (if g = f + 1 then E else c g) ∧ (if g = f + 1 then tt else t g) ≤ (if g = f + 1 then E else c g) ∧ (if g = f + 1 then E else c g) < E + 1
        rw [if_neg hgf, if_neg hgf]; exact a1
      · show (A' 235 g = 1 ∧ (if g = f + 1 then tt else t g) = (if g = f + 1 then E else c g)) ∨ (A' 235 g = 2 ∧ A' 236 g = nI (if g = f + 1 then tt else t g) ∧ (if g = f + 1 then E else c g) = (if g = f + 1 then tt else t g) + 1 ∧ A' 232 (if g = f + 1 then tt else t g) = -1 ∧ A' 233 (if g = f + 1 then tt else t g) = -1)
        rw [if_neg hgf, if_neg hgf]; exact a3 w
      · show A' 238 g = nI (s g) ∧ (if g = f + 1 then E else c g) < s g ∧ s g < E + 1
        rw [if_neg hgf]; exact a4 (Or.inr trivial)
      · show s g < (if g + 1 = f + 1 then tt else t (g + 1))
        by_cases e : g = f
        · subst e; rw [if_pos rfl]; exact hs
        · rw [if_neg (by omega)]; exact a5 (by omega)
      · by_cases e : g = f
        · subst e
          rw [e2 239 (by decide) (by decide) g hgf]
          rcases hr with w | ⟨r, w1, w2, w3⟩
          · exact Or.inl w
          · refine Or.inr ⟨r, w1, w2, by omega, fun _ => ?_⟩
            show r < (if g + 1 = g + 1 then tt else t (g + 1))
            rw [if_pos rfl]; exact w3
        · rcases a6 with w | ⟨r, w1, w2, w3, w4⟩
          · exact Or.inl w
          · refine Or.inr ⟨r, w1, w2, w3, fun _ => ?_⟩
            show r < (if g + 1 = f + 1 then tt else t (g + 1))
            rw [if_neg (by omega)]; exact w4 (by omega)
      · show CL (if g = f + 1 then tt else t g) A'
        rw [if_neg hgf]; exact a7 w
theorem Gd.push {r cc : Nat} (h : Gd R E u A) (hr : r < R) (hcc : cc < E + 1) (e1 : ∀ j, 228 ≤ j → j ≤ 233 → j ≠ 231 → ∀ k, k < E → A' j k = A j k) (h2 : A' 232 E = -1) (h3 : A' 233 E = -1) (h0 : A' 228 E = 0) (h7 : A' 227 = upd (A 227) r (nI cc)) (e5 : A' 235 0 = 0) (e7 : A' 237 0 = nI cc) (e9 : A' 239 0 = -1) :
    Inv R (E + 1) u 0 False (fun _ => cc) (fun _ => 0) (fun _ => 0) A' (fun _ => False) := by
  obtain ⟨hL, hT, hK, hF⟩ := h
  refine ⟨fun k hk => ?_, fun i hi => ?_, fun k hk => ?_, fun k hk z => ?_, fun g hg => ?_⟩
  · by_cases e : k = E
    · subst e; exact ⟨Or.inl h2, Or.inl h3⟩
    · rw [e1 232 (by decide) (by decide) (by decide) k (by omega), e1 233 (by decide) (by decide) (by decide) k (by omega)]
      exact ⟨(hL k (by omega)).1.mono (by omega), (hL k (by omega)).2.mono (by omega)⟩
  · rw [h7]
    by_cases e : i = r
    · subst e; rw [upd_self]; exact Or.inr ⟨cc, hcc, rfl⟩
    · rw [upd_ne e]; exact (hT i hi).mono (by omega)
  · by_cases e : k = E
    · subst e; rw [h0]; exact ⟨fun z => absurd z (by decide), fun z => absurd z (by decide)⟩
    · rw [e1 228 (by decide) (by decide) (by decide) k (by omega), e1 229 (by decide) (by decide) (by decide) k (by omega), e1 230 (by decide) (by decide) (by decide) k (by omega)]
      exact hK k (by omega)
  · by_cases e : k = E
    · subst e; rw [h0] at z; exact absurd z (by decide)
    · rw [e1 228 (by decide) (by decide) (by decide) k (by omega)] at z
      rw [e1 232 (by decide) (by decide) (by decide) k (by omega)]
      rcases hF k (by omega) z with w | w
      · exact Or.inl w
      · exact w.elim
  · obtain rfl : g = 0 := by omega
    refine ⟨⟨e7, Nat.zero_le _, hcc⟩, fun _ => e5, fun w => by omega, fun w => ?_, fun w => by omega, Or.inl e9, fun w => by omega⟩
    rcases w with w | w
    · omega
    · exact w.elim
/-- a bracket is closed -/
theorem Inv.pop (h : Inv R E u (f + 1) True c s t A X) (hE : E ≤ 100) (h9 : A 239 (f + 1) = -1) (hA : ∀ j, j ≠ 232 → A' j = A j) (hl : ∀ k, k ≠ t (f + 1) → A' 232 k = A 232 k) (ht : A 235 (f + 1) = 2 → A' 232 (t (f + 1)) ≠ -1) (h1s : A 235 (f + 1) ≠ 2 → A' 232 (t (f + 1)) = A 232 (t (f + 1))) (hL' : LK E A') (hX : ∀ k, ¬ X k) :
    Inv R E u f True c s t A' (fun _ => False) ∧ CL (t (f + 1)) A' ∧ s f < t (f + 1) ∧ t (f + 1) < E ∧ (A' 239 f = -1 ∨ ∃ r, A' 239 f = nI r ∧ s f < r ∧ r < t (f + 1)) := by
  obtain ⟨hL, hT, hK, hF, hR⟩ := h
  have hf := hR f (by omega)
  have hf1 := hR (f + 1) (Nat.le_refl _)
  have hlt : ∀ g, g ≤ f → t g < t (f + 1) := fun g hg => by
    have h1 := hR.step (g := g) (by omega)
    have h2 : t (g + 1) ≤ t (f + 1) := hR.tle (by omega)
    omega
  have h3 : A' 233 = A 233 := hA 233 (by decide)
  refine ⟨⟨hL', fun r hr => by rw [hA 227 (by decide)]; exact hT r hr, fun k hk => by rw [hA 228 (by decide), hA 229 (by decide), hA 230 (by decide)]; exact hK k hk, fun k hk z => ?_, fun g hg => ?_⟩, fun k hk => ?_, hf.2.2.2.2.1 (by omega), by have := hf1.1; omega, ?_⟩
  · rw [hA 228 (by decide)] at z
    by_cases hkt : k = t (f + 1) ∧ A 235 (f + 1) = 2
    · rw [hkt.1]; exact Or.inl (ht hkt.2)
    · rcases hF k hk z with w | ⟨g, hg, w⟩ | w
      · by_cases e : k = t (f + 1)
        · subst e
          by_cases e2 : A 235 (f + 1) = 2
          · exact Or.inl (ht e2)
          · exact Or.inl (by rw [h1s e2]; exact w)
        · exact Or.inl (by rw [hl k e]; exact w)
      · by_cases e : g = f + 1
        · subst e
          rcases w with w | ⟨_, w2, w3⟩
          · rw [h9] at w; exact absurd w.symm (nI_m (by omega))
          · exact absurd ⟨w3.symm, w2⟩ hkt
        · exact Or.inr (Or.inl ⟨g, by omega, by rw [hA 239 (by decide), hA 235 (by decide)]; exact w⟩)
      · exact absurd w (hX k)
  · obtain ⟨a1, a2, a3, a4, a5, a6, a7⟩ := (hR g (by omega)).keep (A' := A') (E' := E) (Nat.le_refl _) (fun j a b => by rw [hA j (by omega)]) (fun _ k hk => ⟨hl k (by have := hlt g hg; omega), by rw [h3]⟩)
    refine ⟨a1, a2, a3, fun _ => a4 (Or.inr trivial), fun w => a5 (by omega), ?_, a7⟩
    rcases a6 with w | ⟨r, w1, w2, w3, w4⟩
    · exact Or.inl w
    · exact Or.inr ⟨r, w1, w2, w3, fun w => w4 (by omega)⟩
  · rw [hl k (by omega), h3]
    exact hf1.2.2.2.2.2.2 (by omega) k hk
  · rw [hA 239 (by decide)]
    rcases hf.2.2.2.2.2.1 with w | ⟨r, w1, w2, w3, w4⟩
    · exact Or.inl w
    · exact Or.inr ⟨r, w1, w2, w4 (by omega)⟩
theorem Inv.base (h : Inv R E u 0 q c s t A (fun _ => False)) (hE : E ≤ 100) (h9 : A 239 0 = -1) : Gd R E u A := by
  obtain ⟨hL, hT, hK, hF, hR⟩ := h
  refine ⟨hL, hT, hK, fun k hk z => ?_⟩
  rcases hF k hk z with w | ⟨g, hg, w⟩ | w
  · exact Or.inl w
  · obtain rfl : g = 0 := by omega
    rcases w with w | ⟨w, _⟩
    · rw [h9] at w; exact absurd w.symm (nI_m (by omega))
    · omega
  · exact w.elim
end PU
