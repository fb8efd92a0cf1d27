section EN
variable {A : Ro} {E r : Nat}
theorem ent0_ne {j : Nat} (h7 : j ≠ 227) (h37 : j ≠ 237) : ent0A A E r j = entA A 0 E 0 (nI r) j := by
  unfold ent0A
  try simp only []
  rw [va_up_ne _ _ h7]
  split
  · rfl
  · rw [va_up_ne _ _ h37]
theorem ent0_new (h : A 227 r < 0) : ent0A A E r 227 = upd (A 227) r (nI E) ∧ ent0A A E r 237 0 = nI E := by
  have e7 : entA A 0 E 0 (nI r) 227 = A 227 := entA_7
  have e37 : entA A 0 E 0 (nI r) 237 0 = nI E := entA_f.2.2.2.2.2.2.2.1
  constructor
  · unfold ent0A
    try simp only []
    rw [va_up_self, e7, if_pos h, e7, e37]
  · unfold ent0A
    try simp only []
    rw [va_up_ne _ _ (by decide), e7, if_pos h, e37]
theorem ent0_old (h : ¬ A 227 r < 0) : ent0A A E r 227 = A 227 ∧ ent0A A E r 237 0 = A 227 r := by
  have e7 : entA A 0 E 0 (nI r) 227 = A 227 := entA_7
  constructor
  · unfold ent0A
    try simp only []
    rw [va_up_self, e7, if_neg h, va_up_ne _ _ (by decide), va_up_self, upd_self, e7, upd_id]
  · unfold ent0A
    try simp only []
    rw [va_up_ne _ _ (by decide), e7, if_neg h, va_up_self, upd_self]
theorem ent0_lka (hA : LKa E A) : LKa (E + 1) (ent0A A E r) := by
  intro k hk
  rw [ent0_ne (by decide) (by decide), ent0_ne (by decide) (by decide)]
  exact ent_lka hA k hk
theorem ent0_39 : ent0A A E r 239 0 = -1 := by
  rw [ent0_ne (by decide) (by decide), entA_f.2.2.2.2.2.2.1, upd_self]
end EN
theorem PI.told {R E S u i : Nat} {A Bw : Ro} {fi la : Nat → Int32} (h : PI R E S u A Bw fi la) (hi : i < R) (ht : ¬ A 227 i < 0) : ∃ t l, t < E ∧ l < E ∧ A 227 i = nI t ∧ fi i = nI t ∧ la i = nI l := by
  obtain ⟨own, rl, p1, p2, p3, p4, p5, p6, p7⟩ := h
  rcases p7 i hi with z | ⟨t, l, x, y1, y2, y3, y4, y5, y6, -⟩
  · exact absurd z.1 ht
  · exact ⟨t, l, y1, y2, y4, y5, y6⟩
theorem PI.untold {R E S u i : Nat} {A Bw : Ro} {fi la : Nat → Int32} (h : PI R E S u A Bw fi la) (hi : i < R) (hE : E ≤ 100) (ht : A 227 i < 0) : A 227 i < 0 ∧ fi i = -1 ∧ la i = -1 := by
  obtain ⟨own, rl, p1, p2, p3, p4, p5, p6, p7⟩ := h
  rcases p7 i hi with z | ⟨t, l, x, y1, y2, y3, y4, y5, y6, -⟩
  · exact z
  · rw [y4] at ht; exact absurd ht (nI_pos (by omega))
theorem PI.lka {R E S u : Nat} {A Bw : Ro} {fi la : Nat → Int32} (h : PI R E S u A Bw fi la) : LKa E A := by
  obtain ⟨own, rl, p1, p2, -⟩ := h
  exact p2
theorem ER.lka {ad : Nat → Nat} {R E : Nat} {Bw : Ro} {mem : Nat → va_E} (h : ER ad R E Bw mem) : LKa E Bw := fun k hk => ⟨(h k hk).2.2.1, (h k hk).2.2.2⟩
section PO
variable {cy : Nat → ClassId} {ad : Nat → Nat} {T : Nat → Int32} {Z R1 R9 Ec E9 S S9 u u9 i a9 la9 t l : Nat} {A1 A9 Bw B9 : Ro} {fi la : Nat → Int32} {nm9 : Nat → Int64} {mem9 : Nat → va_E} {o : Option Cg}
theorem pi_one (hPI : PI R1 Ec S u A1 Bw fi la) (hi : i < R1) (hE : Ec < 100) (h7 : A1 227 i < 0) (hI : ALI cy ad T Z 0 o Ec R1 Ec S u (ent0A A1 Ec i) Bw la9 a9 u9 R9 E9 S9 A9 B9 nm9 mem9) (hk : Ec + 1 < E9 ∧ E9 ≤ 100 ∧ R1 ≤ R9) (hLB : LKa Ec Bw) : PI R9 E9 S9 u9 A9 B9 (upd (extN R1 fi) i (nI Ec)) (upd (extN R1 la) i (nI Ec)) := by
  have hlk := ent0_lka (r := i) hPI.lka
  have hLA := ali_lka hI hlk hE (Nat.le_refl _)
  obtain ⟨own, rl, h9⟩ := hPI
  obtain ⟨f1, f2, ⟨f3, f4, f5⟩, f6, -⟩ := entA_f (A := A1) (op := 0) (E := Ec) (what := 0) (oe := nI i)
  obtain ⟨⟨c1, ho, hg, hkk, hs⟩, j2, j3, j4, j5, j6, ⟨jb1, jb2, jb3⟩, j7, j8, qs, ql1, ql2, qsep⟩ := hI
  have hslot : slotOf (ent0A A1 Ec i) Ec = (Ec, false) := by
    unfold slotOf
    rw [ent0_ne (by decide) (by decide), f4, if_pos (by decide)]
  rw [hslot] at j7
  have eA : ∀ {j : Nat}, j ≠ 227 → j ≠ 237 → ent0A A1 Ec i j = entA A1 0 Ec 0 (nI i) j := fun h h2 => ent0_ne h h2
  have d : ∀ k, k < Ec → A9 228 k = A1 228 k ∧ A9 229 k = A1 229 k ∧ A9 230 k = A1 230 k ∧ A9 231 k = A1 231 k := by
    intro k hk
    obtain ⟨d1, d2, d3, d4⟩ := j7.1 k (by omega)
    obtain ⟨g1, g2, g3, g4⟩ := f1 k hk
    rw [eA (by decide) (by decide)] at d1 d2 d3 d4
    exact ⟨d1.trans g1, d2.trans g2, d3.trans g3, d4.trans g4⟩
  have a3 : ∀ k, k < Ec → A9 233 k = A1 233 k := fun k hk => by rw [j7.2.2.1 k (by omega) (by intro z; cases z), eA (by decide) (by decide)]; exact (f2 k hk).2
  have as : A9 232 Ec = nI (Ec + 1) := j7.2.2.2.1
  have h27 := (ent0_new (E := Ec) h7).1
  refine h9.step (c := Ec) (B10 := B9) hi ⟨hk.1, hk.2.1, j4.1, j4.2.2⟩ d (fun m hm => ?_) ⟨?_, jb1, jb2, jb3, ?_⟩ j6 j5 hLA hLB j2.lka (fun k hk => ?_) qsep (fun _ _ => rfl) (fun _ _ => rfl) (fun k hk => Or.inl (a3 k hk)) (fun k hk => Or.inl (j5.1 k hk).2.2.2.2.2) (Or.inl rfl) (fun x hx e => ⟨((nI_eq (by omega) (by omega)).mp (as.symm.trans e)).symm, rfl⟩) (fun z hz hne => ⟨?_, ?_, ?_⟩) (fun z h1 h2 => ⟨?_, ?_, ?_⟩) (Or.inl ⟨rfl, upd_self, upd_self, ?_, as⟩)
  · rw [j7.2.2.2.2 m hm, eA (by decide) (by decide), f6]
  · rw [(j7.1 Ec (by omega)).1, eA (by decide) (by decide)]; exact f3
  · rw [j7.2.2.1 Ec (by omega) (by intro z; cases z), eA (by decide) (by decide)]; exact f5
  · rw [j7.2.1 k (by omega) (by intro z; cases z; omega), eA (by decide) (by decide)]; exact (f2 k hk).1
  · rw [hs.1 z hz, h27, upd_ne hne]
  · rw [upd_ne hne, extN_lt hz]
  · rw [upd_ne hne, extN_lt hz]
  · rw [hs.2 z h1 h2]; decide
  · rw [upd_ne (by omega), extN_ge h1]
  · rw [upd_ne (by omega), extN_ge h1]
  · rw [hs.1 i hi, h27, upd_self]
theorem pi_more (hPI : PI R1 Ec S u A1 Bw fi la) (hi : i < R1) (hE : Ec < 100) (h7 : A1 227 i = nI t) (ht : t < Ec) (hla : la i = nI l) (hl : l < Ec) (hI : ALI cy ad T Z 0 o t R1 Ec S u (ent0A A1 Ec i) Bw la9 a9 u9 R9 E9 S9 A9 B9 nm9 mem9) (hk : Ec + 1 < E9 ∧ E9 ≤ 100 ∧ R1 ≤ R9) (hLB : LKa Ec Bw) : PI R9 E9 S9 u9 A9 (va_up B9 233 (upd (B9 233) l (nI Ec))) (extN R1 fi) (upd (extN R1 la) i (nI Ec)) := by
  have hlk := ent0_lka (r := i) hPI.lka
  have hLA := ali_lka hI hlk hE (by omega)
  have hnn : ¬ A1 227 i < 0 := by rw [h7]; exact nI_pos (by omega)
  have hL1 := hPI.lka
  obtain ⟨own, rl, h9⟩ := hPI
  obtain ⟨f1, f2, ⟨f3, f4, f5⟩, f6, -⟩ := entA_f (A := A1) (op := 0) (E := Ec) (what := 0) (oe := nI i)
  obtain ⟨⟨c1, ho, hg, hkk, hs⟩, j2, j3, j4, j5, j6, ⟨jb1, jb2, jb3⟩, j7, j8, qs, ql1, ql2, qsep⟩ := hI
  have eA : ∀ {j : Nat}, j ≠ 227 → j ≠ 237 → ent0A A1 Ec i j = entA A1 0 Ec 0 (nI i) j := fun h h2 => ent0_ne h h2
  obtain ⟨p1, p2, p3, p4, p5, p6, p7⟩ := id h9
  rcases p7 i hi with y | ⟨t', l', x, y1, y2, y3, y4, y5, y6, y7, y8, y9, y10, y11, y12⟩
  · exact absurd y.1 hnn
  obtain rfl : t = t' := (nI_eq (by omega) (by omega)).mp (h7.symm.trans y4)
  obtain rfl : l = l' := (nI_eq (by omega) (by omega)).mp (hla.symm.trans y6)
  have hslot : slotOf (ent0A A1 Ec i) t = (lastN (A1 233) 100 x, true) := by
    rw [slot_congr hL1 (by omega) (fun k hk => by rw [eA (by decide) (by decide)]; exact (f2 k hk).1) (fun k hk => by rw [eA (by decide) (by decide)]; exact (f2 k hk).2) ht]
    unfold slotOf
    rw [y10, if_neg (nI_pos (by omega)), nI_clamp (by omega)]
  rw [hslot] at j7
  have hl1 : ∀ k, k < Ec → lk Ec k (A1 233 k) := fun k hk => (p2 k hk).2
  have hlb : ∀ k, k < Ec → lk Ec k (Bw 233 k) := fun k hk => (hLB k hk).2
  have hlo : lastN (A1 233) 100 x < Ec := lastN_lt hl1 (by omega) 100 x y3
  have hown : own (lastN (A1 233) 100 x) = t + 1 := lastN_P (P := fun z => own z = t + 1) hl1 (by omega) (fun a y ha hy hp e => by rw [(p4 a y ha hy e).2]; exact hp) 100 x y3 y11
  have hrl : rl l = i + 1 := by
    rw [← y7]
    exact lastN_P (P := fun z => rl z = i + 1) hlb (by omega) (fun a y ha hy hp e => by rw [(p6 a ha (by omega)).2.2 y hy e]; exact hp) 100 t y1 y9
  have d : ∀ k, k < Ec → A9 228 k = A1 228 k ∧ A9 229 k = A1 229 k ∧ A9 230 k = A1 230 k ∧ A9 231 k = A1 231 k := by
    intro k hk
    obtain ⟨d1, d2, d3, d4⟩ := j7.1 k (by omega)
    obtain ⟨g1, g2, g3, g4⟩ := f1 k hk
    rw [eA (by decide) (by decide)] at d1 d2 d3 d4
    exact ⟨d1.trans g1, d2.trans g2, d3.trans g3, d4.trans g4⟩
  have a3 : ∀ k, k < Ec → k ≠ lastN (A1 233) 100 x → A9 233 k = A1 233 k := fun k hk hne => by rw [j7.2.2.1 k (by omega) (by intro z; cases z; exact hne rfl), eA (by decide) (by decide)]; exact (f2 k hk).2
  have as : A9 233 (lastN (A1 233) 100 x) = nI (Ec + 1) := j7.2.2.2.1
  have b3 : ∀ k, k < Ec → k ≠ l → va_up B9 233 (upd (B9 233) l (nI Ec)) 233 k = Bw 233 k := fun k hk hne => by rw [va_up_self, upd_ne hne]; exact (j5.1 k hk).2.2.2.2.2
  have bs : va_up B9 233 (upd (B9 233) l (nI Ec)) 233 l = nI Ec := by rw [va_up_self, upd_self]
  have h27 := (ent0_old (E := Ec) hnn).1
  have e232 : A9 232 Ec = -1 := by rw [j7.2.1 Ec (by omega) (by intro z; cases z), eA (by decide) (by decide)]; exact f4
  refine h9.step (c := t) (B10 := va_up B9 233 (upd (B9 233) l (nI Ec))) hi ⟨hk.1, hk.2.1, j4.1, j4.2.2⟩ d (fun m hm => ?_) ⟨?_, jb1, jb2, jb3, ?_⟩ j6 j5 hLA hLB (fun k hk' => ?_) (fun k hk => ?_) qsep (fun _ hj => va_up_ne _ _ hj) (fun k hk => ?_) (fun k hk => ?_) (fun k hk => ?_) (Or.inr ⟨ht, y9⟩) (fun x hx e => ?_) (fun z hz hne => ⟨?_, ?_, ?_⟩) (fun z h1 h2 => ⟨?_, ?_, ?_⟩) (Or.inr ⟨ht, ?_, upd_self, ?_, x, l, y3, hl, y10, y11, y8, y7, bs, b3, as, a3, y12⟩)
  · rw [j7.2.2.2.2 m hm, eA (by decide) (by decide), f6]
  · rw [(j7.1 Ec (by omega)).1, eA (by decide) (by decide)]; exact f3
  · rw [j7.2.2.1 Ec (by omega) (by intro z; cases z; omega), eA (by decide) (by decide)]; exact f5
  · rw [va_up_ne _ _ (show (232 : Nat) ≠ 233 by decide)]
    refine ⟨(j2.lka k hk').1, ?_⟩
    by_cases q : k = l
    · subst q; rw [bs]; exact Or.inr ⟨Ec, hl, by omega, rfl⟩
    · rw [va_up_self, upd_ne q]; exact (j2.lka k hk').2
  · rw [j7.2.1 k (by omega) (by intro z; cases z), eA (by decide) (by decide)]; exact (f2 k hk).1
  · rw [va_up_self, upd_ne (by omega)]
  · by_cases q : k = lastN (A1 233) 100 x
    · rw [q]; exact Or.inr ⟨as, hown⟩
    · exact Or.inl (a3 k hk q)
  · by_cases q : k = l
    · rw [q]; exact Or.inr ⟨bs, hrl⟩
    · exact Or.inl (b3 k hk q)
  · rw [e232] at e; exact absurd e.symm (nI_m (by omega))
  · rw [hs.1 z hz, h27]
  · rw [extN_lt hz]
  · rw [upd_ne hne, extN_lt hz]
  · rw [hs.2 z h1 h2]; decide
  · rw [extN_ge h1]
  · rw [upd_ne (by omega), extN_ge h1]
  · rw [extN_lt hi]; exact y5
  · rw [hs.1 i hi, h27]; exact y4
end PO
