def entA (A : Ro) (op E : Nat) (what oe : Int32) : Ro :=
  let A1 := elA (va_up (va_up (va_up A 235 (upd (A 235) op what)) 236 (upd (A 236) op oe)) 239 (upd (A 239) op (-1))) E 0
  va_up A1 237 (upd (A1 237) op (nI E))
section PU3
variable {T : Nat → Int32} {Z a u R E f : Nat} {A : Ro} {nm : Nat → Int64}
theorem ent_ok {op : Nat} {what oe : Int32} (h1 : bgF (hereF Z T (gapF T Z a)) = true) (h2 : E < 100) : entS T Z a u R E op A nm what oe = some (gapF T Z a, u, R, E + 1, op, entA A op E what oe, nm, true) := entS_ok h1 h2
theorem entA_7 {op : Nat} {what oe : Int32} : entA A op E what oe 227 = A 227 := by
  unfold entA
  try simp only []
  rw [va_up_ne _ _ (by decide), elA_ne (by decide), va_up_ne _ _ (by decide), va_up_ne _ _ (by decide), va_up_ne _ _ (by decide)]
theorem entA_5 {op : Nat} {what oe : Int32} : entA A op E what oe 235 = upd (A 235) op what := by
  unfold entA
  try simp only []
  rw [va_up_ne _ _ (by decide), elA_ne (by decide), va_up_ne _ _ (by decide), va_up_ne _ _ (by decide), va_up_self]
theorem l40 {x : Int32} (h : x = 40) : ltF x = 0 ∧ OKc x := by subst h; exact ⟨by decide, by decide, by decide, by decide⟩
theorem l91 {x : Int32} (h : x = 91) : ltF x = 0 ∧ OKc x := by subst h; exact ⟨by decide, by decide, by decide, by decide⟩
theorem l34 {x : Int32} (h : x = 34) : ltF x = 0 ∧ ¬ x = 40 ∧ ¬ x = 91 ∧ OKc x := by subst h; exact ⟨by decide, by decide, by decide, by decide, by decide, by decide⟩
theorem l37 {x : Int32} (h : x = 37) : ltF x = 0 ∧ ¬ x = 40 ∧ ¬ x = 91 ∧ ¬ x = 34 ∧ OKc x := by subst h; exact ⟨by decide, by decide, by decide, by decide, by decide, by decide, by decide⟩
theorem suc_str (h : hereF Z T a = 34) (hE : E < 100) (hq : hereF Z T (a + 1 + strN T Z 12 (a + 1)) = 34) : ∃ A', Suc T Z (singS T Z a u R E f A nm) f R (A 235) (A 227) (a + 1 + strN T Z 12 (a + 1) + 1) R (E + 1) A' nm := by
  obtain ⟨q1, q2, q3, -⟩ := l34 h
  refine ⟨_, Suc.one (by rw [sing_st q1 q2 q3 h hE, strS_ok _ rfl hq]; rfl) (fun g _ => ?_) (TOK.of ?_)⟩
  · rw [plcS_ne (by decide) (by decide) (by decide)]; rfl
  · rw [plcS_ne (by decide) (by decide) (by decide)]; rfl
theorem fai_str (h : hereF Z T a = 34) (hb : E = 100 ∨ ¬ hereF Z T (a + 1 + strN T Z 12 (a + 1)) = 34) (hE1 : E ≤ 100) : Fai T Z (singS T Z a u R E f A nm) := by
  obtain ⟨q1, q2, q3, -⟩ := l34 h
  by_cases hE : E = 100
  · exact Or.inl (sing_E q1 q2 q3 hE)
  · exact Or.inl (by rw [sing_st q1 q2 q3 h (by omega), strS_no _ rfl (hb.resolve_left hE)]; rfl)
theorem suc_xst (h : hereF Z T a = 37) (hb : smF (hereF Z T (a + 1)) = 115) (hh : hereF Z T (a + 1 + 1) = 34) (hE : E < 100) (hq : hereF Z T (a + 1 + 1 + 1 + strN T Z 12 (a + 1 + 1 + 1)) = 34) : ∃ A', Suc T Z (singS T Z a u R E f A nm) f R (A 235) (A 227) (a + 1 + 1 + 1 + strN T Z 12 (a + 1 + 1 + 1) + 1) R (E + 1) A' nm := by
  obtain ⟨q1, q2, q3, q4, -⟩ := l37 h
  refine ⟨_, Suc.one (by rw [sing_qs q1 q2 q3 q4 hE hb hh, strS_ok _ rfl hq]; rfl) (fun g _ => ?_) (TOK.of ?_)⟩
  · rw [plcS_ne (by decide) (by decide) (by decide)]; rfl
  · rw [plcS_ne (by decide) (by decide) (by decide)]; rfl
theorem fai_xst (h : hereF Z T a = 37) (hb : smF (hereF Z T (a + 1)) = 115) (hbad : ¬ hereF Z T (a + 1 + 1) = 34 ∨ E = 100 ∨ ¬ hereF Z T (a + 1 + 1 + 1 + strN T Z 12 (a + 1 + 1 + 1)) = 34) (hE1 : E ≤ 100) : Fai T Z (singS T Z a u R E f A nm) := by
  obtain ⟨q1, q2, q3, q4, -⟩ := l37 h
  by_cases hE : E = 100
  · exact Or.inl (sing_E q1 q2 q3 hE)
  · by_cases hh : hereF Z T (a + 1 + 1) = 34
    · exact Or.inl (by rw [sing_qs q1 q2 q3 q4 (by omega) hb hh, strS_no _ rfl ((hbad.resolve_left (fun z => z hh)).resolve_left hE)]; rfl)
    · exact Or.inl (sing_q0 q1 q2 q3 q4 (by omega) hb hh)
theorem suc_val {ba : Int32} {a' : Nat} (h : hereF Z T a = 37) (hb : (smF (hereF Z T (a + 1)) = 100 ∧ ba = 10) ∨ (smF (hereF Z T (a + 1)) = 120 ∧ ba = 16)) (hE : E < 100) (hp : numsP T Z (a + 1 + 1) ba = some a') : ∃ A', Suc T Z (singS T Z a u R E f A nm) f R (A 235) (A 227) a' R (E + 1) A' nm := by
  obtain ⟨q1, q2, q3, q4, -⟩ := l37 h
  obtain ⟨u', A', hs, h4⟩ := numsP_ok hp u E (va_up (elA A E 4) 231 (upd (elA A E 4 231) E (vp_nar .boolean 1)))
  have e : singS T Z a u R E f A nm = some (a', u', R, E + 1, f, plcS A' f E, nm, false) := by
    rcases hb with ⟨b1, b2⟩ | ⟨b1, b2⟩
    · subst b2; rw [sing_d q1 q2 q3 q4 hE b1, hs]; rfl
    · subst b2; rw [sing_x q1 q2 q3 q4 hE b1, hs]; rfl
  refine ⟨_, Suc.one e (fun g _ => ?_) (TOK.of ?_)⟩
  · rw [plcS_ne (by decide) (by decide) (by decide), h4 235 (by decide) (by decide) (by decide) (by decide)]; rfl
  · rw [plcS_ne (by decide) (by decide) (by decide), h4 227 (by decide) (by decide) (by decide) (by decide)]; rfl
theorem fai_val (h : hereF Z T a = 37) (hb : ¬ smF (hereF Z T (a + 1)) = 115) (hbad : (¬ smF (hereF Z T (a + 1)) = 100 ∧ ¬ smF (hereF Z T (a + 1)) = 120) ∨ E = 100 ∨ ∃ ba : Int32, ((smF (hereF Z T (a + 1)) = 100 ∧ ba = 10) ∨ (smF (hereF Z T (a + 1)) = 120 ∧ ba = 16)) ∧ numsP T Z (a + 1 + 1) ba = none) (hE1 : E ≤ 100) : Fai T Z (singS T Z a u R E f A nm) := by
  obtain ⟨q1, q2, q3, q4, -⟩ := l37 h
  by_cases hE : E = 100
  · exact Or.inl (sing_E q1 q2 q3 hE)
  · rcases hbad with hbad | hbad | ⟨ba, hbb, hp⟩
    · exact Or.inl (sing_bx q1 q2 q3 q4 (by omega) hbad.1 hbad.2 hb)
    · exact absurd hbad hE
    · have hs := numsP_no hp u E (va_up (elA A E 4) 231 (upd (elA A E 4 231) E (vp_nar .boolean 1)))
      rcases hbb with ⟨b1, b2⟩ | ⟨b1, b2⟩
      · subst b2; exact Or.inl (by rw [sing_d q1 q2 q3 q4 (by omega) b1, hs]; rfl)
      · subst b2; exact Or.inl (by rw [sing_x q1 q2 q3 q4 (by omega) b1, hs]; rfl)
theorem suc_nam {i a' R' : Nat} {A' : Ro} {nm' : Nat → Int64} (hl : ¬ ltF (hereF Z T a) = 0) (hn : nameS T Z a R A nm = some (i, a', R', A', nm')) (hE : E < 100) (hA : ∀ j, j ≠ 227 → A' j = A j) (ht : TOK R R' (A 227) (A' 227)) : ∃ A2, Suc T Z (singS T Z a u R E f A nm) f R (A 235) (A 227) a' R' (E + 1) A2 nm' := by
  refine ⟨_, Suc.one (sing_n3 hl hn hE) (fun g _ => ?_) ?_⟩
  · rw [plcS_ne (by decide) (by decide) (by decide), va_up_ne _ _ (by decide), elA_ne (by decide), hA 235 (by decide)]
  · rw [plcS_ne (by decide) (by decide) (by decide), va_up_ne _ _ (by decide), elA_ne (by decide)]; exact ht
theorem fai_nam (h1 : ¬ hereF Z T a = 40) (h2 : ¬ hereF Z T a = 91) (h3 : ¬ hereF Z T a = 34) (h4 : ¬ hereF Z T a = 37) (hb : ltF (hereF Z T a) = 0 ∨ nameS T Z a R A nm = none ∨ E = 100) : Fai T Z (singS T Z a u R E f A nm) ∨ ¬ OKc (hereF Z T a) := by
  by_cases hl : ltF (hereF Z T a) = 0
  · exact Or.inr (OKc.no hl h1 h2 h3 h4)
  · refine Or.inl (Or.inl ?_)
    cases hn : nameS T Z a R A nm with
    | none => exact sing_n1 hl hn
    | some z =>
      obtain ⟨r, a1, R1, A1, nm1⟩ := z
      exact sing_n2 hl hn ((hb.resolve_left hl).resolve_left (by rw [hn]; exact fun z => by cases z))
theorem go_rept (hb : bgF (hereF Z T (gapF T Z a)) = true) (ha : a < gapF T Z a) : turnS T Z (a, u, R, E, f, A, nm, false) = (repS T Z (gapF T Z a) u R E f A nm).map (fun z => (true, z)) := by
  obtain ⟨q1, q2, q3⟩ := bgF_not hb
  exact go_re q1 (Or.inl q2) (Or.inl q3) hb ha
theorem br_pop {what en : Int32} (hwe : (what = 1 ∧ en = 41) ∨ (what = 2 ∧ en = 93)) (hA : A 235 (f + 1) = what) (hh : hereF Z T (gapF T Z a) = en) (u1 : Nat) : ∃ A2, goS T Z a u1 R E (f + 1) A nm = some (true, gapF T Z a + 1, u1, R, E, f, A2, nm, false) ∧ A2 235 = A 235 ∧ A2 227 = A 227 := by
  rcases hwe with ⟨w1, w2⟩ | ⟨w1, w2⟩
  · subst w1 w2; exact go_c1r hh hA
  · subst w1 w2; exact go_c2r hh hA
theorem br_lt {what en : Int32} (hwe : (what = 1 ∧ en = 41) ∨ (what = 2 ∧ en = 93)) {g : Nat} (hh : hereF Z T g = en) : g < Z := hereF_lt (by rcases hwe with ⟨w1, w2⟩ | ⟨w1, w2⟩ <;> rw [hh, w2] <;> decide)
theorem br_no {what en : Int32} (hwe : (what = 1 ∧ en = 41) ∨ (what = 2 ∧ en = 93)) (hA : A 235 f = what) (hh : ¬ hereF Z T (gapF T Z a) = en) (h47 : ¬ hereF Z T (gapF T Z a) = 47) (hb : ¬ (bgF (hereF Z T (gapF T Z a)) = true ∧ a < gapF T Z a)) (u1 : Nat) : goS T Z a u1 R E f A nm = none := by
  have hb2 : bgF (hereF Z T (gapF T Z a)) = false ∨ gapF T Z a ≤ a := by
    by_cases q : bgF (hereF Z T (gapF T Z a)) = true
    · exact Or.inr (Nat.not_lt.mp (fun z => hb ⟨q, z⟩))
    · exact Or.inl (by simpa using q)
  rcases hwe with ⟨w1, w2⟩ | ⟨w1, w2⟩
  · subst w1 w2; exact go_bad h47 (Or.inl hh) (Or.inr (by rw [hA]; decide)) hb2 (Or.inl (by rw [hA]; decide))
  · subst w1 w2; exact go_bad h47 (Or.inr (by rw [hA]; decide)) (Or.inl hh) hb2 (Or.inl (by rw [hA]; decide))
end PU3
