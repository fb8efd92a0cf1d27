def SQI (cy : Nat → ClassId) (ad : Nat → Nat) (T : Nat → Int32) (Z j : Nat) (o : Option Cg) (sl : Nat × Bool) (R Ec S u : Nat) (A Bw : Ro) (la a1 u1 R1 E1 S1 : Nat) (A9 B9 : Ro) (nm1 : Nat → Int64) (mem1 : Nat → va_E) : Prop :=
  RDS cy ad T Z j o sl R Ec S u A Bw Ec a1 u1 R1 E1 S1 A9 B9 nm1 mem1 ∧ A9 238 j = nI Ec ∧ slotOf A9 Ec = (la, true) ∧ Ec < la ∧ la < E1
/-- the sequences of one choice (U) are linked from each other alone -/
def SEP (A9 : Ro) (Ec E1 la : Nat) : Prop := ∃ U : Nat → Prop, U (Ec + 1) ∧ U la ∧ (∀ x, U x → Ec < x ∧ x < E1) ∧ ∀ k x, Ec < k → k < E1 → x < E1 → (A9 232 k = nI x → ¬ U x) ∧ (A9 233 k = nI x → (U x ↔ U k))
theorem sep_first {A' : Ro} {Ec E' : Nat} (hl : ∀ k, Ec < k → k < E' → lk E' k (A' 232 k) ∧ lk E' k (A' 233 k)) (hE' : E' ≤ 100) (hk : Ec + 1 < E') (h3 : A' 233 (Ec + 1) = -1) : SEP A' Ec E' (Ec + 1) := by
  refine ⟨fun x => x = Ec + 1, rfl, rfl, fun x hx => by omega, fun k x h1 h2 hx => ⟨fun q e => ?_, fun q => ?_⟩⟩
  · rcases (hl k h1 h2).1 with z | ⟨j, j1, j2, z⟩
    · rw [z] at q; exact nI_m (by omega) q.symm
    · rw [z] at q; have := (nI_eq (by omega) (by omega)).mp q; omega
  · rcases (hl k h1 h2).2 with z | ⟨j, j1, j2, z⟩
    · rw [z] at q; exact absurd q.symm (nI_m (by omega))
    · have hne : k ≠ Ec + 1 := fun e => by rw [e, h3] at z; exact nI_m (by omega) z.symm
      rw [z] at q
      have := (nI_eq (by omega) (by omega)).mp q
      exact ⟨fun e => by omega, fun e => absurd e hne⟩
theorem sep_step {A9 A10 : Ro} {Ec E1 E2 la : Nat} (h : SEP A9 Ec E1 la) (hL : LKa E1 A9) (hE : E1 < E2) (hE2 : E2 ≤ 100) (hc : Ec < E1) (hla : Ec < la ∧ la < E1) (hl : ∀ k, E1 ≤ k → k < E2 → lk E2 k (A10 232 k) ∧ lk E2 k (A10 233 k)) (h3 : A10 233 E1 = -1) (e2 : ∀ k, k < E1 → A10 232 k = A9 232 k) (e3 : ∀ k, k < E1 → k ≠ la → A10 233 k = A9 233 k) (es : A10 233 la = nI E1) : SEP A10 Ec E2 E1 := by
  obtain ⟨U, u1, u2, u3, u4⟩ := h
  refine ⟨fun x => U x ∨ x = E1, Or.inl u1, Or.inr rfl, fun x hx => ?_, fun k x h1 h2 hx => ⟨fun q e => ?_, fun q => ?_⟩⟩
  · rcases hx with hx | hx
    · have := u3 x hx; omega
    · omega
  · by_cases qk : k < E1
    · rw [e2 k qk] at q
      rcases (hL k qk).1 with z | ⟨j, j1, j2, z⟩
      · rw [z] at q; exact nI_m (by omega) q.symm
      · have hjx : j = x := (nI_eq (by omega) (by omega)).mp (z.symm.trans q)
        rcases e with e | e
        · exact (u4 k x h1 qk (by omega)).1 q e
        · omega
    · rcases (hl k (by omega) h2).1 with z | ⟨j, j1, j2, z⟩
      · rw [z] at q; exact nI_m (by omega) q.symm
      · have hjx : j = x := (nI_eq (by omega) (by omega)).mp (z.symm.trans q)
        rcases e with e | e
        · have := u3 x e; omega
        · omega
  · by_cases qk : k < E1
    · by_cases ql : k = la
      · subst ql
        have hjx : E1 = x := (nI_eq (by omega) (by omega)).mp (es.symm.trans q)
        exact ⟨fun _ => Or.inl u2, fun _ => Or.inr hjx.symm⟩
      · rw [e3 k qk ql] at q
        rcases (hL k qk).2 with z | ⟨j, j1, j2, z⟩
        · rw [z] at q; exact absurd q.symm (nI_m (by omega))
        · have hjx : j = x := (nI_eq (by omega) (by omega)).mp (z.symm.trans q)
          have h5 := (u4 k x h1 qk (by omega)).2 q
          exact ⟨fun e => e.elim (fun y => Or.inl (h5.mp y)) (fun y => absurd y (by omega)), fun e => e.elim (fun y => Or.inl (h5.mpr y)) (fun y => absurd y (by omega))⟩
    · rcases (hl k (by omega) h2).2 with z | ⟨j, j1, j2, z⟩
      · rw [z] at q; exact absurd q.symm (nI_m (by omega))
      · have hjx : j = x := (nI_eq (by omega) (by omega)).mp (z.symm.trans q)
        have hne : k ≠ E1 := fun e => by rw [e, h3] at z; exact nI_m (by omega) z.symm
        exact ⟨fun e => e.elim (fun y => absurd (u3 x y) (by omega)) (fun y => absurd y (by omega)), fun e => e.elim (fun y => absurd (u3 k y) (by omega)) (fun y => absurd y (by omega))⟩
def ALI (cy : Nat → ClassId) (ad : Nat → Nat) (T : Nat → Int32) (Z j : Nat) (o : Option Cg) (c R Ec S u : Nat) (A Bw : Ro) (la a1 u1 R1 E1 S1 : Nat) (A9 B9 : Ro) (nm1 : Nat → Int64) (mem1 : Nat → va_E) : Prop :=
  SucU T Z o j R (A 235) (A 227) a1 u1 R1 E1 A9 nm1 ∧ ER ad R1 E1 B9 mem1 ∧ SR cy ad S1 B9 mem1 ∧ (S ≤ S1 ∧ S1 ≤ a1 ∧ u ≤ u1) ∧ OLD Bw B9 Ec S ∧ (∀ k, Ec + 1 ≤ k → k < E1 → Mt A9 B9 S1 u1 k) ∧ (B9 228 Ec = 0 ∧ B9 232 Ec = nI (Ec + 1) ∧ B9 233 Ec = -1) ∧ PLO A A9 (Ec + 1) u (slotOf A c) (Ec + 1) ∧ FRS A A9 j ∧ slotOf A9 c = (la, true) ∧ Ec < la ∧ la < E1 ∧ SEP A9 Ec E1 la
section PA
variable {cy : Nat → ClassId} {ad : Nat → Nat} {T : Nat → Int32} {Z j c R R' R1 R2 Ec E' E1 E2 S S' S1 S2 u u' u1 u2 a a' a1 a2 k1 k2 la : Nat} {A A' A9 A10 Bw B1 B9 B10 : Ro} {nm nm' nm1 nm2 : Nat → Int64} {mem mem' mem1 memx mem2 : Nat → va_E} {o o1 o2 : Option Cg} {sl : Nat × Bool}
theorem at_keep {t : Nat × Bool} (hs : sl.1 < Ec) (h2 : ∀ k, k < Ec → (k, false) ≠ t → A10 232 k = A9 232 k) (h3 : ∀ k, k < Ec → (k, true) ≠ t → A10 233 k = A9 233 k) (ht : Ec ≤ t.1) : atS A10 sl = atS A9 sl := by
  obtain ⟨s1, s2⟩ := sl
  have hs : s1 < Ec := hs
  unfold atS
  cases s2 with
  | false => exact h2 s1 hs (fun z => by rw [← z] at ht; simp only [] at ht; omega)
  | true => exact h3 s1 hs (fun z => by rw [← z] at ht; simp only [] at ht; omega)
theorem seq_first (hA : LKa Ec A) (hE : Ec < 100) (hc : A 237 j = nI c) (hcl : c < Ec) (h39 : A 239 j = -1) (hin : RDS cy ad T Z j o1 (PSf (seqA A j Ec) j) R (Ec + 1) S u (seqA A j Ec) (bwN Bw Ec 1 0 0 (-1) (-1) (-1) (Bw 234)) k1 a' u' R' E' S' A' B1 nm' memx) (h8 : A' 238 j = seqA A j Ec 238 j) (hk : Ec + 1 ≤ k1 ∧ k1 < E') (hE' : E' ≤ 100) (ho : o = o1) (hER : ER ad R' E' (va_up B1 232 (upd (B1 232) Ec (nI k1))) mem') (hSR : SR cy ad S' B1 mem') : SQI cy ad T Z j o (slotOf A c) R Ec S u A Bw k1 a' u' R' E' S' A' (va_up B1 232 (upd (B1 232) Ec (nI k1))) nm' mem' := by
  obtain ⟨hf1, f2, f8, f38, f38g⟩ := seqA_f (u := u) hA (by omega) hc hcl
  have e39 : seqA A j Ec 239 = A 239 := seqA_ne (by decide) (by decide)
  have hps : PSf (seqA A j Ec) j = (Ec, false) := by
    unfold PSf
    rw [e39, h39, if_pos (by decide), f38, nI_clamp (by omega)]
    unfold slotOf
    rw [f2, if_pos (by decide)]
  rw [hps] at hin
  obtain ⟨i1, i2, i3, i4, i5, i6, i7, i8⟩ := hin
  have hlt := slot_lt hA (by omega) hcl
  obtain ⟨b1, b2, b3, b4, b5, b6, b7⟩ := bwN_at (Bw := Bw) (E := Ec) (k := 1) (l := 0) (h := 0) (q := -1) (p := -1) (n := -1) (st := Bw 234)
  obtain ⟨c1, c2, c3, c4, c5, c6⟩ := i5.1 Ec (by omega)
  have n233 : A' 233 Ec = -1 := by rw [i7.2.2.1 Ec (by omega) (by intro z; cases z)]; exact hf1.2.2.2.2.1
  refine ⟨⟨i1.eq ho (seqA_ne (by decide) (by decide)) (seqA_ne (by decide) (by decide)), hER, hSR, i4, ((bwN_old (fun _ _ => rfl)).trans i5 (by omega) (Nat.le_refl _)).link (Nat.le_refl _) (Or.inl rfl), fun k k1' k2' => ?_, ⟨?_, ?_, ?_, ?_, n233, ?_⟩, ⟨fun g hg => ?_, ?_, ?_, i8.2.2.2⟩⟩, by rw [h8, f38], ?_, by omega, by omega⟩
  · by_cases e : k = Ec
    · subst e
      obtain ⟨d1, d2, d3, d4⟩ := i7.1 k (by omega)
      refine ⟨Or.inr (Or.inl ⟨d1.trans f8, c1.trans b1⟩), ?_, ?_⟩
      · show upd (B1 232) k (nI k1) k = _
        rw [upd_self]; exact i7.2.2.2.1.symm
      · rw [n233]; exact c6.trans b6
    · exact (i6 k (by omega) k2').link e (Or.inl rfl)
  · intro k hk'
    obtain ⟨d1, d2, d3, d4⟩ := i7.1 k (by omega)
    obtain ⟨g1, g2, g3, g4⟩ := hf1.1 k hk'
    exact ⟨d1.trans g1, d2.trans g2, d3.trans g3, d4.trans g4⟩
  · intro k hk' q
    rw [i7.2.1 k (by omega) (by intro z; cases z; omega)]; exact hf1.2.1 k hk' q
  · intro k hk' q
    rw [i7.2.2.1 k (by omega) (by intro z; cases z)]; exact hf1.2.2.1 k hk' q
  · rw [at_keep (t := (Ec, false)) hlt (fun k hk q => i7.2.1 k (by omega) q) (fun k hk q => i7.2.2.1 k (by omega) q) (Nat.le_refl _)]; exact hf1.2.2.2.1
  · intro m hm
    rw [i7.2.2.2.2.2 m hm]; exact hf1.2.2.2.2.2 m hm
  · obtain ⟨d1, d2, d3, d4⟩ := i8.1 g hg
    exact ⟨d1.trans (by rw [seqA_ne (by decide) (by decide)]), d2.trans (by rw [seqA_ne (by decide) (by decide)]), d3.trans (f38g g (by omega)), d4.trans (by rw [e39])⟩
  · rw [i8.2.1, seqA_ne (by decide) (by decide)]
  · rw [i8.2.2.1, seqA_ne (by decide) (by decide)]
  · have e : A' 232 Ec = nI k1 := i7.2.2.2.1
    unfold slotOf
    rw [e, if_neg (nI_pos (by omega)), nI_clamp (by omega)]
    have : lastN (A' 233) 100 k1 = k1 := lastN_end (by rw [i7.2.2.2.2.1]; decide)
    rw [this]
theorem seq_step (hI : SQI cy ad T Z j o sl R Ec S u A Bw la a1 u1 R1 E1 S1 A9 B9 nm1 mem1) (hR : R ≤ R1) (hL : LKa E1 A9) (hE1 : E1 ≤ 100) (hsl : sl.1 < Ec) (hin : RDS cy ad T Z j o2 (PSf A9 j) R1 E1 S1 u1 A9 B9 k2 a2 u2 R2 E2 S2 A10 B10 nm2 memx) (h8 : A10 238 j = A9 238 j) (hk : E1 ≤ k2 ∧ k2 < E2) (hE2 : E2 ≤ 100) (ht : turnS T Z (a1, u1, R1, E1, j, A9, nm1, false) = o2.map (fun z => (true, z))) (hER : ER ad R2 E2 (va_up B10 233 (upd (B10 233) la (nI k2))) mem2) (hSR : SR cy ad S2 B10 mem2) : SQI cy ad T Z j o sl R Ec S u A Bw k2 a2 u2 R2 E2 S2 A10 (va_up B10 233 (upd (B10 233) la (nI k2))) nm2 mem2 := by
  obtain ⟨⟨j1, j2, j3, j4, j5, j6, j7, j8⟩, q8, qs, ql1, ql2⟩ := hI
  have hps : PSf A9 j = (la, true) := by
    unfold PSf
    rw [j8.2.2.2, if_pos (by decide), q8, nI_clamp (by omega)]; exact qs
  rw [hps] at hin
  obtain ⟨i1, i2, i3, i4, i5, i6, i7, i8⟩ := hin
  obtain ⟨c1, c2, c3, c4, c5, c6⟩ := i5.1 la ql2
  have hslot : slotOf A10 Ec = (k2, true) := slot_after hL hE1 (by omega) (by rw [qs]; exact i7) hk.1 (by omega)
  refine ⟨⟨j1.go hR ht i1, hER, hSR, ⟨by omega, by omega, by omega⟩, ((j5.trans i5 (by omega) (by omega)).link (by omega) (Or.inr rfl)), fun k k1' k2' => ?_, ⟨?_, ?_, ?_, ?_, ?_, ?_⟩, j8.trans i8⟩, by rw [h8, q8], hslot, by omega, by omega⟩
  · by_cases e : k = la
    · subst e
      have m := j6 k (by omega) ql2
      refine ⟨(m.1.keep (i7.1 k ql2) ⟨c1, c2, c3, c4⟩ i4.1 i4.2.2 i7.2.2.2.2.2 i5.2).link (Or.inr rfl), ?_, ?_⟩
      · show B10 232 k = _
        rw [c5, i7.2.1 k ql2 (by intro z; cases z)]; exact m.2.1
      · show upd (B10 233) k (nI k2) k = _
        rw [upd_self]; exact i7.2.2.2.1.symm
    · by_cases q : k < E1
      · exact ((j6 k k1' q).step q i7.o i5 (by intro z; cases z) (by intro z; cases z; exact e rfl) i4.1 i4.2.2).link e (Or.inr rfl)
      · exact (i6 k (by omega) k2').link e (Or.inr rfl)
  · intro k hk'
    obtain ⟨d1, d2, d3, d4⟩ := i7.1 k (by omega)
    obtain ⟨g1, g2, g3, g4⟩ := j7.1 k hk'
    exact ⟨d1.trans g1, d2.trans g2, d3.trans g3, d4.trans g4⟩
  · intro k hk' q
    rw [i7.2.1 k (by omega) (by intro z; cases z)]; exact j7.2.1 k hk' q
  · intro k hk' q
    rw [i7.2.2.1 k (by omega) (by intro z; cases z; omega)]; exact j7.2.2.1 k hk' q
  · rw [at_keep (t := (la, true)) hsl (fun k hk q => i7.2.1 k (by omega) q) (fun k hk q => i7.2.2.1 k (by omega) q) (by show Ec ≤ la; omega)]; exact j7.2.2.2.1
  · rw [i7.2.2.1 Ec (by omega) (by intro z; cases z; omega)]; exact j7.2.2.2.2.1
  · intro m hm
    rw [i7.2.2.2.2.2 m (by omega)]; exact j7.2.2.2.2.2 m hm
theorem alt_first (hL : LKa (Ec + 1) A) (hE : Ec < 100) (hcl : c ≤ Ec) (hin : RDS cy ad T Z j o (slotOf A c) R (Ec + 1) S u A (bwN Bw Ec 0 0 0 (-1) (-1) (-1) (Bw 234)) (Ec + 1) a' u' R' E' S' A' B1 nm' memx) (hk : Ec + 1 < E') (hE' : E' ≤ 100) (hER : ER ad R' E' (va_up B1 232 (upd (B1 232) Ec (nI (Ec + 1)))) mem') (hSR : SR cy ad S' B1 mem') : ALI cy ad T Z j o c R Ec S u A Bw (Ec + 1) a' u' R' E' S' A' (va_up B1 232 (upd (B1 232) Ec (nI (Ec + 1)))) nm' mem' := by
  obtain ⟨i1, i2, i3, i4, i5, i6, i7, i8⟩ := hin
  obtain ⟨b1, b2, b3, b4, b5, b6, b7⟩ := bwN_at (Bw := Bw) (E := Ec) (k := 0) (l := 0) (h := 0) (q := -1) (p := -1) (n := -1) (st := Bw 234)
  obtain ⟨c1, c2, c3, c4, c5, c6⟩ := i5.1 Ec (by omega)
  exact ⟨i1, hER, hSR, i4, ((bwN_old (fun _ _ => rfl)).trans i5 (by omega) (Nat.le_refl _)).link (Nat.le_refl _) (Or.inl rfl), fun k h1 h2 => (i6 k h1 h2).link (by omega) (Or.inl rfl), ⟨c1.trans b1, upd_self, c6.trans b6⟩, i7.o, i8, slot_after hL (by omega) (by omega) i7 (Nat.le_refl _) (by omega), by omega, by omega, sep_first (fun k h1 h2 => by
    obtain ⟨-, m1, m2⟩ := i6 k (by omega) h2
    obtain ⟨-, -, c3, c4⟩ := i2 k h2
    rw [← m1, ← m2]; exact ⟨c3, c4⟩) hE' hk i7.2.2.2.2.1⟩
theorem alt_step (hI : ALI cy ad T Z j o c R Ec S u A Bw la a1 u1 R1 E1 S1 A9 B9 nm1 mem1) (hR : R ≤ R1) (hLA : LKa (Ec + 1) A) (hL : LKa E1 A9) (hE1 : E1 ≤ 100) (hcl : c ≤ Ec) (hin : RDS cy ad T Z j o2 (slotOf A9 c) R1 E1 S1 u1 A9 B9 E1 a2 u2 R2 E2 S2 A10 B10 nm2 memx) (hk : E1 < E2) (hE2 : E2 ≤ 100) (ht : turnS T Z (a1, u1, R1, E1, j, A9, nm1, false) = o2.map (fun z => (true, z))) (hER : ER ad R2 E2 (va_up B10 233 (upd (B10 233) la (nI E1))) mem2) (hSR : SR cy ad S2 B10 mem2) : ALI cy ad T Z j o c R Ec S u A Bw E1 a2 u2 R2 E2 S2 A10 (va_up B10 233 (upd (B10 233) la (nI E1))) nm2 mem2 := by
  obtain ⟨j1, j2, j3, j4, j5, j6, ⟨jb1, jb2, jb3⟩, j7, j8, qs, ql1, ql2, qsep⟩ := hI
  have hin' := hin
  rw [qs] at hin
  obtain ⟨i1, i2, i3, i4, i5, i6, i7, i8⟩ := hin
  obtain ⟨c1, c2, c3, c4, c5, c6⟩ := i5.1 la ql2
  obtain ⟨e1, e2, e3, e4, e5, e6⟩ := i5.1 Ec (by omega)
  have hslot : slotOf A10 c = (E1, true) := slot_after hL hE1 (by omega) hin'.2.2.2.2.2.2.1 (Nat.le_refl _) (by omega)
  have hs0 := slot_lt hLA (by omega) (show c < Ec + 1 by omega)
  refine ⟨j1.go hR ht i1, hER, hSR, ⟨by omega, by omega, by omega⟩, ((j5.trans i5 (by omega) (by omega)).link (by omega) (Or.inr rfl)), fun k k1' k2' => ?_, ⟨e1.trans jb1, e5.trans jb2, (upd_ne (show Ec ≠ la by omega)).trans (e6.trans jb3)⟩, j7.step i7.o hs0 (by show Ec + 1 ≤ la; omega) (by omega) (by omega), j8.trans i8, hslot, by omega, by omega, sep_step qsep hL hk hE2 (by omega) ⟨ql1, ql2⟩ (fun k h1 h2 => by
    obtain ⟨-, m1, m2⟩ := i6 k (by omega) h2
    obtain ⟨-, -, c3, c4⟩ := i2 k h2
    rw [← m1, ← m2]; exact ⟨c3, c4⟩) i7.2.2.2.2.1 (fun k hk' => i7.2.1 k hk' (by intro z; cases z)) (fun k hk' q => i7.2.2.1 k hk' (by intro z; cases z; exact q rfl)) i7.2.2.2.1⟩
  by_cases e : k = la
  · subst e
    have m := j6 k (by omega) ql2
    refine ⟨(m.1.keep (i7.1 k ql2) ⟨c1, c2, c3, c4⟩ i4.1 i4.2.2 i7.2.2.2.2.2 i5.2).link (Or.inr rfl), ?_, ?_⟩
    · show B10 232 k = _
      rw [c5, i7.2.1 k ql2 (by intro z; cases z)]; exact m.2.1
    · show upd (B10 233) k (nI E1) k = _
      rw [upd_self]; exact i7.2.2.2.1.symm
  · by_cases q : k < E1
    · exact ((j6 k k1' q).step q i7.o i5 (by intro z; cases z) (by intro z; cases z; exact e rfl) i4.1 i4.2.2).link e (Or.inr rfl)
    · exact (i6 k (by omega) k2').link e (Or.inr rfl)
/-- links of the reference behind a loop's turn -/
theorem sqi_lka (hI : SQI cy ad T Z j o sl R Ec S u A Bw la a1 u1 R1 E1 S1 A9 B9 nm1 mem1) (hA : LKa Ec A) (hs : sl.1 < Ec) : LKa E1 A9 := by
  obtain ⟨⟨j1, j2, j3, j4, j5, j6, j7, j8⟩, q8, qs, ql1, ql2⟩ := hI
  exact lka_new hA j7 hs ⟨Nat.le_refl _, by omega⟩ j6 j2
theorem ali_lka (hI : ALI cy ad T Z j o c R Ec S u A Bw la a1 u1 R1 E1 S1 A9 B9 nm1 mem1) (hA : LKa (Ec + 1) A) (hE : Ec < 100) (hcl : c ≤ Ec) : LKa E1 A9 := by
  obtain ⟨j1, j2, j3, j4, j5, j6, jb, j7, j8, qs, ql1, ql2, -⟩ := hI
  have hs := slot_lt hA (by omega) (show c < Ec + 1 by omega)
  intro k hk2
  by_cases q : k < Ec + 1
  · constructor
    · by_cases e : (k, false) = slotOf A c
      · have := j7.2.2.2.1
        rw [← e] at this
        exact Or.inr ⟨Ec + 1, by omega, by omega, this⟩
      · rw [j7.2.1 k q e]; exact (hA k q).1.mono (by omega)
    · by_cases e : (k, true) = slotOf A c
      · have := j7.2.2.2.1
        rw [← e] at this
        exact Or.inr ⟨Ec + 1, by omega, by omega, this⟩
      · rw [j7.2.2.1 k q e]; exact (hA k q).2.mono (by omega)
  · obtain ⟨-, m1, m2⟩ := j6 k (by omega) hk2
    obtain ⟨-, -, c3, c4⟩ := j2 k hk2
    rw [← m1, ← m2]
    exact ⟨c3, c4⟩
end PA
