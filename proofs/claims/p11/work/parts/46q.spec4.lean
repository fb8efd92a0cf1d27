/-! a rule and a text, as relations that have one answer each -/
def Term (T : Nat → Int32) (L : Nat) (c : Cg) (o : Option Cg) : Prop := ∃ n d, Rch T L n c d ∧ ((turnS T L d = none ∧ o = none) ∨ ∃ z, turnS T L d = some (false, z) ∧ o = some z)
theorem Term.bad {T : Nat → Int32} {L : Nat} {c d : Cg} (h : Goes9 T L c d) (h2 : turnS T L d = none) : Term T L c none := by
  obtain ⟨n, h⟩ := h
  exact ⟨n, d, h, Or.inl ⟨h2, rfl⟩⟩
theorem Term.fin {T : Nat → Int32} {L : Nat} {c d z : Cg} (h : Goes9 T L c d) (h2 : turnS T L d = some (false, z)) : Term T L c (some z) := by
  obtain ⟨n, h⟩ := h
  exact ⟨n, d, h, Or.inr ⟨z, h2, rfl⟩⟩
theorem Term.of {T : Nat → Int32} {L : Nat} {c : Cg} (h : Bad9 T L c) : Term T L c none := by
  obtain ⟨n, d, h1, h2⟩ := h
  exact ⟨n, d, h1, Or.inl ⟨h2, rfl⟩⟩
theorem Rch.one {T : Nat → Int32} {L : Nat} : ∀ {n m : Nat} {c d e : Cg}, Rch T L n c d → Rch T L m c e → (∀ x, turnS T L d ≠ some (true, x)) → (∀ x, turnS T L e ≠ some (true, x)) → d = e
  | 0, 0, c, d, e, h1, h2, _, _ => by
    have h1 : c = d := h1
    have h2 : c = e := h2
    rw [← h1, h2]
  | 0, m + 1, c, d, e, h1, h2, h3, _ => by
    have h1 : c = d := h1
    subst h1
    obtain ⟨x, hx, _⟩ := h2
    exact absurd hx (h3 x)
  | n + 1, 0, c, d, e, h1, h2, _, h4 => by
    have h2 : c = e := h2
    subst h2
    obtain ⟨x, hx, _⟩ := h1
    exact absurd hx (h4 x)
  | n + 1, m + 1, c, d, e, h1, h2, h3, h4 => by
    obtain ⟨x, hx, h1⟩ := h1
    obtain ⟨y, hy, h2⟩ := h2
    rw [hx] at hy
    cases hy
    exact Rch.one h1 h2 h3 h4
theorem Term.det {T : Nat → Int32} {L : Nat} {c : Cg} {o o' : Option Cg} (h : Term T L c o) (h' : Term T L c o') : o = o' := by
  obtain ⟨n, d, h1, h2⟩ := h
  obtain ⟨m, e, h3, h4⟩ := h'
  have hd : ∀ x, turnS T L d ≠ some (true, x) := by
    intro x q
    rcases h2 with ⟨q1, _⟩ | ⟨z, q1, _⟩
    · rw [q1] at q; cases q
    · rw [q1] at q; cases q
  have he : ∀ x, turnS T L e ≠ some (true, x) := by
    intro x q
    rcases h4 with ⟨q1, _⟩ | ⟨z, q1, _⟩
    · rw [q1] at q; cases q
    · rw [q1] at q; cases q
  have := Rch.one h1 h3 hd he
  subst this
  rcases h2 with ⟨q1, q2⟩ | ⟨z, q1, q2⟩
  · rcases h4 with ⟨p1, p2⟩ | ⟨y, p1, p2⟩
    · rw [q2, p2]
    · rw [q1] at p1; cases p1
  · rcases h4 with ⟨p1, p2⟩ | ⟨y, p1, p2⟩
    · rw [q1] at p1; cases p1
    · rw [q1] at p1; cases p1; rw [q2, p2]
/-- the state in which a rule's elements begin -/
def ruleS (T : Nat → Int32) (L a u R E : Nat) (A : Ro) (nm : Nat → Int64) : Option Cg :=
  match nameS T L a R A nm with
  | none => none
  | some z => if hereF L T (gapF T L z.2.1) = 61 then
      (if (hereF L T (gapF T L z.2.1 + 1) = 47 ↔ ¬ z.2.2.2.1 227 z.1 < 0) then ent0S T L (if hereF L T (gapF T L z.2.1 + 1) = 47 then gapF T L z.2.1 + 1 + 1 else gapF T L z.2.1 + 1) u z.2.2.1 E z.1 z.2.2.2.1 z.2.2.2.2 else none) else none
def RuleR (T : Nat → Int32) (L a u R E : Nat) (A : Ro) (nm : Nat → Int64) (o : Option Cg) : Prop := (ruleS T L a u R E A nm = none ∧ o = none) ∨ ∃ c, ruleS T L a u R E A nm = some c ∧ Term T L c o
theorem RuleR.det {T : Nat → Int32} {L a u R E : Nat} {A : Ro} {nm : Nat → Int64} {o o' : Option Cg} (h : RuleR T L a u R E A nm o) (h' : RuleR T L a u R E A nm o') : o = o' := by
  rcases h with ⟨q1, q2⟩ | ⟨c, q1, q2⟩
  · rcases h' with ⟨p1, p2⟩ | ⟨d, p1, p2⟩
    · rw [q2, p2]
    · rw [q1] at p1; cases p1
  · rcases h' with ⟨p1, p2⟩ | ⟨d, p1, p2⟩
    · rw [q1] at p1; cases p1
    · rw [q1] at p1; cases p1; exact q2.det p2
def RdN (T : Nat → Int32) (L : Nat) : Nat → Nat → Nat → Nat → Nat → Ro → (Nat → Int64) → Option Cg → Prop
  | 0, _, _, _, _, _, _, _ => False
  | n + 1, a, u, R, E, A, nm, o => (ltF (hereF L T a) = 0 ∧ o = none) ∨ (ltF (hereF L T a) ≠ 0 ∧ ∃ o1, RuleR T L a u R E A nm o1 ∧ ((o1 = none ∧ o = none) ∨ ∃ a' u' R' E' f' A' nm' pe', o1 = some (a', u', R', E', f', A', nm', pe') ∧ ((¬ (a' < L ∧ lineF T L (a' + 1) < L) ∧ o = o1) ∨ ((a' < L ∧ lineF T L (a' + 1) < L) ∧ RdN T L n (lineF T L (a' + 1)) u' R' E' A' nm' o))))
def RdR (T : Nat → Int32) (L a u R E : Nat) (A : Ro) (nm : Nat → Int64) (o : Option Cg) : Prop := ∃ n, RdN T L n a u R E A nm o
theorem RdN.det {T : Nat → Int32} {L : Nat} : ∀ {n m a u R E : Nat} {A : Ro} {nm : Nat → Int64} {o o' : Option Cg}, RdN T L n a u R E A nm o → RdN T L m a u R E A nm o' → o = o'
  | 0, m, _, _, _, _, _, _, _, _, h, _ => h.elim
  | n + 1, 0, _, _, _, _, _, _, _, _, _, h => h.elim
  | n + 1, m + 1, a, u, R, E, A, nm, o, o', h, h' => by
    rcases h with ⟨q1, q2⟩ | ⟨q1, o1, q3, q4⟩
    · rcases h' with ⟨p1, p2⟩ | ⟨p1, _⟩
      · rw [q2, p2]
      · exact absurd q1 p1
    · rcases h' with ⟨p1, p2⟩ | ⟨p1, o2, p3, p4⟩
      · exact absurd p1 q1
      · have := q3.det p3
        subst this
        rcases q4 with ⟨q5, q6⟩ | ⟨b, v, S, F, g, B, k, pe, q5, q6⟩
        · rcases p4 with ⟨p5, p6⟩ | ⟨b2, v2, S2, F2, g2, B2, k2, pe2, p5, p6⟩
          · rw [q6, p6]
          · rw [q5] at p5; cases p5
        · rcases p4 with ⟨p5, p6⟩ | ⟨b2, v2, S2, F2, g2, B2, k2, pe2, p5, p6⟩
          · rw [q5] at p5; cases p5
          · rw [q5] at p5
            cases p5
            rcases q6 with ⟨q7, q8⟩ | ⟨q7, q8⟩
            · rcases p6 with ⟨p7, p8⟩ | ⟨p7, p8⟩
              · rw [q8, p8]
              · exact absurd p7 q7
            · rcases p6 with ⟨p7, p8⟩ | ⟨p7, p8⟩
              · exact absurd q7 p7
              · exact RdN.det q8 p8
theorem RdR.det {T : Nat → Int32} {L a u R E : Nat} {A : Ro} {nm : Nat → Int64} {o o' : Option Cg} (h : RdR T L a u R E A nm o) (h' : RdR T L a u R E A nm o') : o = o' := by
  obtain ⟨n, h⟩ := h
  obtain ⟨m, h'⟩ := h'
  exact h.det h'
theorem RdR.bad0 {T : Nat → Int32} {L a u R E : Nat} {A : Ro} {nm : Nat → Int64} (h : ltF (hereF L T a) = 0) : RdR T L a u R E A nm none := ⟨1, Or.inl ⟨h, rfl⟩⟩
theorem RdR.bad {T : Nat → Int32} {L a u R E : Nat} {A : Ro} {nm : Nat → Int64} (h : ¬ ltF (hereF L T a) = 0) (h2 : RuleR T L a u R E A nm none) : RdR T L a u R E A nm none := ⟨1, Or.inr ⟨h, none, h2, Or.inl ⟨rfl, rfl⟩⟩⟩
theorem RdR.last {T : Nat → Int32} {L a u R E a' u' R' E' f' : Nat} {A A' : Ro} {nm nm' : Nat → Int64} {pe' : Bool} (h : ¬ ltF (hereF L T a) = 0) (h2 : RuleR T L a u R E A nm (some (a', u', R', E', f', A', nm', pe'))) (h3 : ¬ (a' < L ∧ lineF T L (a' + 1) < L)) : RdR T L a u R E A nm (some (a', u', R', E', f', A', nm', pe')) := ⟨1, Or.inr ⟨h, _, h2, Or.inr ⟨a', u', R', E', f', A', nm', pe', rfl, Or.inl ⟨h3, rfl⟩⟩⟩⟩
theorem RdR.more {T : Nat → Int32} {L a u R E a' u' R' E' f' : Nat} {A A' : Ro} {nm nm' : Nat → Int64} {pe' : Bool} {o : Option Cg} (h : ¬ ltF (hereF L T a) = 0) (h2 : RuleR T L a u R E A nm (some (a', u', R', E', f', A', nm', pe'))) (h3 : a' < L ∧ lineF T L (a' + 1) < L) (h4 : RdR T L (lineF T L (a' + 1)) u' R' E' A' nm' o) : RdR T L a u R E A nm o := by
  obtain ⟨n, h4⟩ := h4
  exact ⟨n + 1, Or.inr ⟨h, _, h2, Or.inr ⟨a', u', R', E', f', A', nm', pe', rfl, Or.inr ⟨h3, h4⟩⟩⟩⟩
