/-! what the class's reading does, told by the turns of the other reading -/
def Suc (T : Nat → Int32) (Z : Nat) (o : Option Cg) (f R : Nat) (K S : Nat → Int32) (a' R' E' : Nat) (A' : Ro) (nm' : Nat → Int64) : Prop := ∃ c1 u', o = some c1 ∧ Goes9 T Z c1 (a', u', R', E', f, A', nm', false) ∧ (∀ g, g ≤ f → A' 235 g = K g) ∧ TOK R R' S (A' 227)
def Fai (T : Nat → Int32) (Z : Nat) (o : Option Cg) : Prop := o = none ∨ ∃ c1, o = some c1 ∧ Bad9 T Z c1
theorem Suc.one {T : Nat → Int32} {Z : Nat} {o : Option Cg} {f R : Nat} {K S : Nat → Int32} {a' u' R' E' : Nat} {A' : Ro} {nm' : Nat → Int64} (ho : o = some (a', u', R', E', f, A', nm', false)) (hk : ∀ g, g ≤ f → A' 235 g = K g) (hs : TOK R R' S (A' 227)) : Suc T Z o f R K S a' R' E' A' nm' := ⟨_, u', ho, Goes9.rf _, hk, hs⟩
theorem Suc.eq {T : Nat → Int32} {Z : Nat} {o o2 : Option Cg} {f R : Nat} {K K2 S S2 : Nat → Int32} {a' R' E' : Nat} {A' : Ro} {nm' : Nat → Int64} (h : Suc T Z o f R K S a' R' E' A' nm') (e : o2 = o) (ek : K = K2) (es : S = S2) : Suc T Z o2 f R K2 S2 a' R' E' A' nm' := by
  subst e ek es
  exact h
theorem Fai.eq {T : Nat → Int32} {Z : Nat} {o o2 : Option Cg} (h : Fai T Z o) (e : o2 = o) : Fai T Z o2 := by
  subst e
  exact h
theorem Suc.go {T : Nat → Int32} {Z : Nat} {o o2 : Option Cg} {c1 : Cg} {f R : Nat} {K S : Nat → Int32} {a1 u1 R1 E1 a2 R2 E2 : Nat} {A1 A2 : Ro} {nm1 nm2 : Nat → Int64} (ho : o = some c1) (hg : Goes9 T Z c1 (a1, u1, R1, E1, f, A1, nm1, false)) (hk : ∀ g, g ≤ f → A1 235 g = K g) (hs : TOK R R1 S (A1 227)) (hR : R ≤ R1) (ht : turnS T Z (a1, u1, R1, E1, f, A1, nm1, false) = o2.map (fun z => (true, z))) (h2 : Suc T Z o2 f R1 (A1 235) (A1 227) a2 R2 E2 A2 nm2) : Suc T Z o f R K S a2 R2 E2 A2 nm2 := by
  obtain ⟨c2, u2, ho2, hg2, hk2, hs2⟩ := h2
  subst ho2
  exact ⟨c1, u2, ho, (hg.trans (Goes9.one ht)).trans hg2, fun g hg => (hk2 g hg).trans (hk g hg), hs.trans hs2 hR⟩
theorem Fai.go {T : Nat → Int32} {Z : Nat} {o o2 : Option Cg} {c1 c2 : Cg} (ho : o = some c1) (hg : Goes9 T Z c1 c2) (ht : turnS T Z c2 = o2.map (fun z => (true, z))) (h2 : Fai T Z o2) : Fai T Z o := by
  refine Or.inr ⟨c1, ho, ?_⟩
  rcases h2 with h2 | ⟨c3, h2, h3⟩
  · subst h2
    exact hg.bad (Bad9.one ht)
  · subst h2
    exact hg.bad ((Goes9.one ht).bad h3)
theorem Fai.no {T : Nat → Int32} {Z : Nat} {o : Option Cg} {c1 c2 : Cg} (ho : o = some c1) (hg : Goes9 T Z c1 c2) (ht : turnS T Z c2 = none) : Fai T Z o := Or.inr ⟨c1, ho, hg.bad (Bad9.one ht)⟩
theorem appS_ne {A : Ro} {to pa j : Nat} (h2 : j ≠ 232) (h3 : j ≠ 233) : appS A to pa j = A j := by
  unfold appS
  split
  · exact va_up_ne _ _ h2
  · exact va_up_ne _ _ h3
theorem plcS_ne {A : Ro} {f e j : Nat} (h2 : j ≠ 232) (h3 : j ≠ 233) (h9 : j ≠ 239) : plcS A f e j = A j := by
  unfold plcS
  try simp only []
  rw [va_up_ne _ _ h9]
  split
  · exact appS_ne h2 h3
  · exact appS_ne h2 h3
theorem elA_ne {A : Ro} {E j : Nat} {kd : Int32} (h : j < 228 ∨ 233 < j) : elA A E kd j = A j := by
  unfold elA
  rw [va_up_ne _ _ (by omega), va_up_ne _ _ (by omega), va_up_ne _ _ (by omega), va_up_ne _ _ (by omega), va_up_ne _ _ (by omega), va_up_ne _ _ (by omega)]
theorem repB_ne {A : Ro} {f E j : Nat} {v1 v2 : Int32} (h : j < 228 ∨ 233 < j) (h9 : j ≠ 239) : repB A f E v1 v2 j = A j := by
  unfold repB repA
  try simp only []
  rw [va_up_ne _ _ (by omega), va_up_ne _ _ (by omega), va_up_ne _ _ h9, appS_ne (by omega) (by omega), elA_ne h]
theorem seqA_ne {A : Ro} {f E j : Nat} (h : j < 228 ∨ 233 < j) (h9 : j ≠ 238) : seqA A f E j = A j := by
  unfold seqA
  try simp only []
  rw [appS_ne (by omega) (by omega), va_up_ne _ _ h9, elA_ne h]
theorem go_c1r {T : Nat → Int32} {L a u R E f : Nat} {A : Ro} {nm : Nat → Int64} (h : hereF L T (gapF T L a) = 41) (hs : A 235 (f + 1) = 1) : ∃ A2, goS T L a u R E (f + 1) A nm = some (true, gapF T L a + 1, u, R, E, f, A2, nm, false) ∧ A2 235 = A 235 ∧ A2 227 = A 227 := by
  refine ⟨plcS A f (A 237 (f + 1)).toNatClampNeg, ?_, plcS_ne (by decide) (by decide) (by decide), plcS_ne (by decide) (by decide) (by decide)⟩
  unfold goS
  try simp only []
  rw [if_neg (by rw [h]; decide), if_pos (Or.inl ⟨h, hs⟩), if_pos hs, if_neg (by rw [hs]; decide), show f + 1 - 1 = f from rfl]
theorem go_c2r {T : Nat → Int32} {L a u R E f : Nat} {A : Ro} {nm : Nat → Int64} (h : hereF L T (gapF T L a) = 93) (hs : A 235 (f + 1) = 2) : ∃ A2, goS T L a u R E (f + 1) A nm = some (true, gapF T L a + 1, u, R, E, f, A2, nm, false) ∧ A2 235 = A 235 ∧ A2 227 = A 227 := by
  refine ⟨plcS (appS A (A 236 (f + 1)).toNatClampNeg (A 237 (f + 1)).toNatClampNeg) f (A 236 (f + 1)).toNatClampNeg, ?_, (plcS_ne (by decide) (by decide) (by decide)).trans (appS_ne (by decide) (by decide)), (plcS_ne (by decide) (by decide) (by decide)).trans (appS_ne (by decide) (by decide))⟩
  unfold goS
  try simp only []
  rw [if_neg (by rw [h]; decide), if_pos (Or.inr ⟨h, hs⟩), if_neg (show ¬ A 235 (f + 1) = 1 by rw [hs]; decide), if_pos hs, show f + 1 - 1 = f from rfl]
theorem bgF_not {x : Int32} (h : bgF x = true) : ¬ x = 47 ∧ ¬ x = 41 ∧ ¬ x = 93 := by
  refine ⟨?_, ?_, ?_⟩ <;> (rintro rfl; exact absurd h (by decide))
theorem bg_split {x : Int32} (h : bgF x = true) : ltF x ≠ 0 ∨ dgF x ≠ 0 ∨ x = 42 ∨ x = 40 ∨ x = 91 ∨ x = 34 ∨ x = 37 := by
  unfold bgF at h
  simp only [Bool.or_eq_true, decide_eq_true_eq] at h
  rcases h with ((((((z | z) | z) | z) | z) | z) | z)
  · exact Or.inl z
  · exact Or.inr (Or.inl z)
  · exact Or.inr (Or.inr (Or.inl z))
  · exact Or.inr (Or.inr (Or.inr (Or.inl z)))
  · exact Or.inr (Or.inr (Or.inr (Or.inr (Or.inl z))))
  · exact Or.inr (Or.inr (Or.inr (Or.inr (Or.inr (Or.inl z)))))
  · exact Or.inr (Or.inr (Or.inr (Or.inr (Or.inr (Or.inr z)))))
/-- a character that an element can begin with -/
def OKc (x : Int32) : Prop := bgF x = true ∧ dgF x = 0 ∧ ¬ x = 42
theorem lt_ok {x : Int32} (h : ¬ ltF x = 0) : OKc x := by
  have h1 : bgF x = true := by
    unfold bgF
    simp only [Bool.or_eq_true, decide_eq_true_eq]
    exact Or.inl (Or.inl (Or.inl (Or.inl (Or.inl (Or.inl h)))))
  have h2 : ¬ (x < 97 ∨ 122 < x) ∨ ¬ (x < 65 ∨ 90 < x) := Classical.byContradiction (fun q => h (by unfold ltF; rw [if_neg q]))
  refine ⟨h1, ?_, ?_⟩
  · unfold dgF
    rw [if_pos]
    simp only [Int32.lt_iff_toInt_lt, ti_48, ti_57, ti_65, ti_90, ti_97, ti_122] at h2 ⊢
    omega
  · rintro rfl
    exact h (by decide)
theorem OKc.no {x : Int32} (h : ltF x = 0) (h1 : ¬ x = 40) (h2 : ¬ x = 91) (h3 : ¬ x = 34) (h4 : ¬ x = 37) : ¬ OKc x := by
  rintro ⟨q1, q2, q3⟩
  rcases bg_split q1 with z | z | z | z | z | z | z
  · exact z h
  · exact z q2
  · exact q3 z
  · exact h1 z
  · exact h2 z
  · exact h3 z
  · exact h4 z
theorem bpF_0 {x : Int32} (h : bpF x = 0) : dgF x = 0 ∧ ¬ x = 42 := by
  have : ¬ (dgF x ≠ 0 ∨ x = 42) := fun q => by
    unfold bpF at h
    rw [if_pos q] at h
    exact absurd h (by decide)
  exact ⟨Classical.byContradiction (fun q => this (Or.inl q)), fun q => this (Or.inr q)⟩
theorem bpF_1 {x : Int32} (h : ¬ bpF x = 0) : ¬ dgF x = 0 ∨ x = 42 := Classical.byContradiction (fun q => h (by unfold bpF; rw [if_neg q]))
theorem rep_fai {T : Nat → Int32} {L a u R E f : Nat} {A : Ro} {nm : Nat → Int64} {v1 v2 : Int32} {b1 b2 : Nat} (h1 : ¬ dgF (hereF L T a) = 0 ∨ hereF L T a = 42) (hE : E < 100) (h3 : rpt1 T L a = (v1, b1)) (h4 : rpt2 T L a = (v2, b2)) (h5 : ¬ (¬ v2 < 0 ∧ v2 < v1)) (h : Fai T L (singS T L b2 u R (E + 1) f (repB A f E v1 v2) nm) ∨ ¬ OKc (hereF L T b2)) : Fai T L (repS T L a u R E f A nm) := by
  by_cases q : OKc (hereF L T b2)
  · rw [rep_ok h1 hE h3 h4 (fun z => z.elim h5 (fun z => z.elim (fun y => by rw [q.1] at y; exact absurd y (by decide)) (fun z => z.elim (fun y => y q.2.1) q.2.2)))]
    exact h.resolve_right (fun z => z q)
  · refine Or.inl (rep_bad h1 hE h3 h4 (Or.inr ?_))
    by_cases p1 : bgF (hereF L T b2) = true
    · by_cases p2 : dgF (hereF L T b2) = 0
      · exact Or.inr (Or.inr (Classical.byContradiction (fun z => q ⟨p1, p2, z⟩)))
      · exact Or.inr (Or.inl p2)
    · exact Or.inl (by cases hh : bgF (hereF L T b2) with
        | false => rfl
        | true => exact absurd hh p1)
theorem rep_suc {T : Nat → Int32} {L a u R E f : Nat} {A : Ro} {nm : Nat → Int64} {v1 v2 : Int32} {b1 b2 : Nat} (h1 : ¬ dgF (hereF L T a) = 0 ∨ hereF L T a = 42) (hE : E < 100) (h3 : rpt1 T L a = (v1, b1)) (h4 : rpt2 T L a = (v2, b2)) (h5 : ¬ (¬ v2 < 0 ∧ v2 < v1)) (q : OKc (hereF L T b2)) : repS T L a u R E f A nm = singS T L b2 u R (E + 1) f (repB A f E v1 v2) nm := rep_ok h1 hE h3 h4 (fun z => z.elim h5 (fun z => z.elim (fun y => by rw [q.1] at y; exact absurd y (by decide)) (fun z => z.elim (fun y => y q.2.1) q.2.2)))
/-- a bracket that is closed -/
theorem Suc.br {T : Nat → Int32} {Z : Nat} {o : Option Cg} {g u R E1 f : Nat} {A0 : Ro} {nm : Nat → Int64} {K S : Nat → Int32} {a1 R1 E2 : Nat} {A1 : Ro} {nm1 : Nat → Int64} (he : o = some (g, u, R, E1, f + 1, A0, nm, true)) (h : Suc T Z (seqS T Z g u R E1 (f + 1) A0 nm) (f + 1) R (A0 235) (A0 227) a1 R1 E2 A1 nm1) (hpop : ∀ u1, ∃ A2, goS T Z a1 u1 R1 E2 (f + 1) A1 nm1 = some (true, gapF T Z a1 + 1, u1, R1, E2, f, A2, nm1, false) ∧ A2 235 = A1 235 ∧ A2 227 = A1 227) (hk : ∀ i, i ≤ f → A0 235 i = K i) (hs : A0 227 = S) : ∃ A2, Suc T Z o f R K S (gapF T Z a1 + 1) R1 E2 A2 nm1 := by
  obtain ⟨c1, u1, ho, hg, hk1, hs1⟩ := h
  obtain ⟨A2, hp, e5, e7⟩ := hpop u1
  refine ⟨A2, _, u1, he, ?_, fun i hi => ?_, ?_⟩
  · exact ((Goes9.one (show turnS T Z _ = some (true, c1) by show (seqS T Z g u R E1 (f + 1) A0 nm).map _ = _; rw [ho]; rfl)).trans hg).trans (Goes9.one hp)
  · rw [e5, hk1 i (by omega), hk i hi]
  · rw [e7, ← hs]; exact hs1
theorem Fai.br0 {T : Nat → Int32} {Z : Nat} {o : Option Cg} {g u R E1 f : Nat} {A0 : Ro} {nm : Nat → Int64} (he : o = some (g, u, R, E1, f, A0, nm, true)) (h : Fai T Z (seqS T Z g u R E1 f A0 nm)) : Fai T Z o := Fai.go he (Goes9.rf _) rfl h
theorem Fai.br1 {T : Nat → Int32} {Z : Nat} {o : Option Cg} {g u R E1 f : Nat} {A0 : Ro} {nm : Nat → Int64} {K S : Nat → Int32} {a1 R1 E2 : Nat} {A1 : Ro} {nm1 : Nat → Int64} (he : o = some (g, u, R, E1, f, A0, nm, true)) (h : Suc T Z (seqS T Z g u R E1 f A0 nm) f R K S a1 R1 E2 A1 nm1) (hno : ∀ u1, goS T Z a1 u1 R1 E2 f A1 nm1 = none) : Fai T Z o := by
  obtain ⟨c1, u1, ho, hg, -, -⟩ := h
  exact Fai.no he ((Goes9.one (show turnS T Z _ = some (true, c1) by show (seqS T Z g u R E1 f A0 nm).map _ = _; rw [ho]; rfl)).trans hg) (hno u1)
