section PB
variable {cy : Nat → ClassId} {ad : Nat → Nat} {T : Nat → Int32} {Z j c R R' R1 Ec E E' E1 S S' S1 u u' u1 a a' a1 la g : Nat} {A A' A9 Bw B9 : Ro} {nm nm1 : Nat → Int64} {mem mem' mem1 : Nat → va_E} {o : Option Cg}
theorem entA_f {op : Nat} {what oe : Int32} : (∀ k, k < E → entA A op E what oe 228 k = A 228 k ∧ entA A op E what oe 229 k = A 229 k ∧ entA A op E what oe 230 k = A 230 k ∧ entA A op E what oe 231 k = A 231 k) ∧ (∀ k, k < E → entA A op E what oe 232 k = A 232 k ∧ entA A op E what oe 233 k = A 233 k) ∧ (entA A op E what oe 228 E = 0 ∧ entA A op E what oe 232 E = -1 ∧ entA A op E what oe 233 E = -1) ∧ entA A op E what oe 234 = A 234 ∧ entA A op E what oe 238 = A 238 ∧ entA A op E what oe 236 = upd (A 236) op oe ∧ entA A op E what oe 239 = upd (A 239) op (-1) ∧ entA A op E what oe 237 op = nI E ∧ ∀ g, g ≠ op → entA A op E what oe 237 g = A 237 g := by
  refine ⟨fun k hk => ?_, fun k hk => ?_, ⟨upd_self, upd_self, upd_self⟩, rfl, rfl, rfl, rfl, upd_self, fun g hg => upd_ne hg⟩
  · have hne : k ≠ E := by omega
    exact ⟨upd_ne hne, upd_ne hne, upd_ne hne, upd_ne hne⟩
  · have hne : k ≠ E := by omega
    exact ⟨upd_ne hne, upd_ne hne⟩
theorem ent_lka {op : Nat} {what oe : Int32} (hA : LKa E A) : LKa (E + 1) (entA A op E what oe) := by
  obtain ⟨f1, f2, ⟨-, f3, f4⟩, -⟩ := entA_f (A := A) (op := op) (E := E) (what := what) (oe := oe)
  intro k hk
  by_cases q : k < E
  · rw [(f2 k q).1, (f2 k q).2]; exact ⟨(hA k q).1.mono (by omega), (hA k q).2.mono (by omega)⟩
  · obtain rfl : k = E := by omega
    rw [f3, f4]; exact ⟨Or.inl rfl, Or.inl rfl⟩
theorem ent_slot {op : Nat} {what oe : Int32} : slotOf (entA A op E what oe) E = (E, false) := by
  obtain ⟨f1, f2, ⟨-, f3, f4⟩, -⟩ := entA_f (A := A) (op := op) (E := E) (what := what) (oe := oe)
  unfold slotOf
  rw [f3, if_pos (by decide)]
theorem brk_rds (hA : LKa Ec A) (hE : Ec < 100) (hF : FRM A j Ec) (he : o = some (g, u, R, Ec + 1, j + 1, entA A (j + 1) Ec 1 (-1), nm, true)) (hI : ALI cy ad T Z (j + 1) (seqS T Z g u R (Ec + 1) (j + 1) (entA A (j + 1) Ec 1 (-1)) nm) Ec R Ec S u (entA A (j + 1) Ec 1 (-1)) Bw la a1 u1 R1 E1 S1 A9 B9 nm1 mem1) (hh : hereF Z T (gapF T Z a1) = 41) (hER : ER ad R1 E1 B9 mem') (hSR : SR cy ad S1 B9 mem') : RDS cy ad T Z j o (PSf A j) R Ec S u A Bw Ec (gapF T Z a1 + 1) u1 R1 E1 S1 (plcS A9 j Ec) B9 nm1 mem' ∧ plcS A9 j Ec 238 j = A 238 j := by
  obtain ⟨f1, f2, ⟨f3, f4, f5⟩, f6, f7, f8, f9, f10, f11⟩ := entA_f (A := A) (op := j + 1) (E := Ec) (what := 1) (oe := -1)
  obtain ⟨⟨c1, ho, hg, hk, hs⟩, j2, j3, j4, j5, j6, ⟨jb1, jb2, jb3⟩, j7, j8, qs, ql1, ql2, -⟩ := hI
  rw [ent_slot] at j7
  have x35 : A9 235 (j + 1) = 1 := by rw [hk (j + 1) (Nat.le_refl _), entA_5, upd_self]
  have x37 : A9 237 (j + 1) = nI Ec := j8.2.2.1.trans f10
  have hpop := go_c1 (u := u1) (R := R1) (E := E1) (nm := nm1) hh x35 rfl x37 (by omega)
  have d : ∀ k, k < Ec → A9 228 k = A 228 k ∧ A9 229 k = A 229 k ∧ A9 230 k = A 230 k ∧ A9 231 k = A 231 k := by
    intro k hk'
    obtain ⟨d1, d2, d3, d4⟩ := j7.1 k (by omega)
    obtain ⟨g1, g2, g3, g4⟩ := f1 k hk'
    exact ⟨d1.trans g1, d2.trans g2, d3.trans g3, d4.trans g4⟩
  have e2 : ∀ k, k < Ec → A9 232 k = A 232 k := fun k hk' => by rw [j7.2.1 k (by omega) (by intro z; cases z; omega)]; exact (f2 k hk').1
  have e3 : ∀ k, k < Ec → A9 233 k = A 233 k := fun k hk' => by rw [j7.2.2.1 k (by omega) (by intro z; cases z)]; exact (f2 k hk').2
  have n3 : A9 233 Ec = -1 := by rw [j7.2.2.1 Ec (by omega) (by intro z; cases z)]; exact f5
  have e4 : ∀ m, m < u → A9 234 m = A 234 m := fun m hm => by rw [j7.2.2.2.2 m hm, f6]
  obtain ⟨k6, k7, k8, k9⟩ := j8.1 j (by omega)
  have e8 : A9 238 j = A 238 j := by rw [k8, f7]
  have e9 : A9 239 j = A 239 j := by rw [k9, f9, upd_ne (by omega)]
  have hp := psf_congr hA (by omega) hF e2 e3 e8 e9
  have hlt := psf_lt hA (by omega) hF
  have hgg := gapF_ge T Z a1
  refine ⟨⟨⟨_, he, ?_, fun g' hg' => ?_, ?_⟩, hER, hSR, ⟨by omega, by omega, by omega⟩, j5, fun k h1 h2 => ?_, leaf_plc hA (by omega) hF (Nat.le_refl _) d e2 e3 n3 e4 e8 e9, ⟨fun g' hg' => ?_, ?_, ?_, ?_⟩⟩, ?_⟩
  · exact ((Goes9.one (show turnS T Z _ = some (true, c1) by show (seqS T Z g u R (Ec + 1) (j + 1) (entA A (j + 1) Ec 1 (-1)) nm).map _ = _; rw [ho]; rfl)).trans hg).trans (Goes9.one hpop)
  · rw [plcS_ne (by decide) (by decide) (by decide), hk g' (by omega), entA_5, upd_ne (by omega)]
  · rw [plcS_ne (by decide) (by decide) (by decide)]
    have := hs
    rw [entA_7] at this
    exact this
  · have key : Mt A9 B9 S1 u1 k := by
      by_cases e : k = Ec
      · subst e
        refine ⟨Or.inl ⟨?_, jb1⟩, ?_, ?_⟩
        · rw [(j7.1 k (by omega)).1]; exact f3
        · rw [jb2]; exact j7.2.2.2.1.symm
        · rw [jb3, n3]
      · exact j6 k (by omega) h2
    refine ⟨key.1.keep ?_ ⟨rfl, rfl, rfl, rfl⟩ (Nat.le_refl _) (Nat.le_refl _) (fun m _ => ?_) (fun _ _ => rfl), ?_, ?_⟩
    · rw [plcS_ne (by decide) (by decide) (by decide), plcS_ne (by decide) (by decide) (by decide), plcS_ne (by decide) (by decide) (by decide), plcS_ne (by decide) (by decide) (by decide)]
      exact ⟨rfl, rfl, rfl, rfl⟩
    · rw [plcS_ne (by decide) (by decide) (by decide)]
    · rw [plc_2 (fun z => by rw [hp] at z; rw [← z] at hlt; simp only [] at hlt; omega)]; exact key.2.1
    · rw [plc_3 (fun z => by rw [hp] at z; rw [← z] at hlt; simp only [] at hlt; omega)]; exact key.2.2
  · obtain ⟨y6, y7, y8, y9⟩ := j8.1 g' (by omega)
    rw [plcS_ne (by decide) (by decide) (by decide), plcS_ne (by decide) (by decide) (by decide), plcS_ne (by decide) (by decide) (by decide), plc_9, if_neg (by omega)]
    exact ⟨by rw [y6, f8, upd_ne (by omega)], by rw [y7]; exact f11 g' (by omega), by rw [y8, f7], by rw [y9, f9, upd_ne (by omega)]⟩
  · rw [plcS_ne (by decide) (by decide) (by decide), k6, f8, upd_ne (by omega)]
  · rw [plcS_ne (by decide) (by decide) (by decide), k7]; exact f11 j (by omega)
  · rw [plc_9, if_pos rfl]
  · rw [plcS_ne (by decide) (by decide) (by decide), e8]
theorem opt_rds (hA : LKa Ec A) (hE : Ec < 99) (hF : FRM A j Ec) (he : o = some (g, u, R, Ec + 1 + 1, j + 1, entA (elA A Ec 3) (j + 1) (Ec + 1) 2 (nI Ec), nm, true)) (hI : ALI cy ad T Z (j + 1) (seqS T Z g u R (Ec + 1 + 1) (j + 1) (entA (elA A Ec 3) (j + 1) (Ec + 1) 2 (nI Ec)) nm) (Ec + 1) R (Ec + 1) S u (entA (elA A Ec 3) (j + 1) (Ec + 1) 2 (nI Ec)) (bwN Bw Ec 3 0 0 (-1) (-1) (-1) (Bw 234)) la a1 u1 R1 E1 S1 A9 B9 nm1 mem1) (hh : hereF Z T (gapF T Z a1) = 93) (hER : ER ad R1 E1 (va_up B9 232 (upd (B9 232) Ec (nI (Ec + 1)))) mem') (hSR : SR cy ad S1 B9 mem') : RDS cy ad T Z j o (PSf A j) R Ec S u A Bw Ec (gapF T Z a1 + 1) u1 R1 E1 S1 (plcS (appS A9 Ec (Ec + 1)) j Ec) (va_up B9 232 (upd (B9 232) Ec (nI (Ec + 1)))) nm1 mem' ∧ plcS (appS A9 Ec (Ec + 1)) j Ec 238 j = A 238 j := by
  obtain ⟨f1, f2, ⟨f3, f4, f5⟩, f6, f7, f8, f9, f10, f11⟩ := entA_f (A := elA A Ec 3) (op := j + 1) (E := Ec + 1) (what := 2) (oe := nI Ec)
  obtain ⟨⟨c1, ho, hg, hk, hs⟩, j2, j3, j4, j5, j6, ⟨jb1, jb2, jb3⟩, j7, j8, qs, ql1, ql2, -⟩ := hI
  rw [ent_slot] at j7
  have x35 : A9 235 (j + 1) = 2 := by rw [hk (j + 1) (Nat.le_refl _), entA_5, upd_self]
  have x36 : A9 236 (j + 1) = nI Ec := by rw [j8.2.1, f8, upd_self]
  have x37 : A9 237 (j + 1) = nI (Ec + 1) := j8.2.2.1.trans f10
  have hpop := go_c2 (u := u1) (R := R1) (E := E1) (nm := nm1) hh x35 rfl x36 (by omega) x37 (by omega)
  have d0 : ∀ k, k < Ec + 1 → A9 228 k = elA A Ec 3 228 k ∧ A9 229 k = elA A Ec 3 229 k ∧ A9 230 k = elA A Ec 3 230 k ∧ A9 231 k = elA A Ec 3 231 k := by
    intro k hk'
    obtain ⟨d1, d2, d3, d4⟩ := j7.1 k (by omega)
    obtain ⟨g1, g2, g3, g4⟩ := f1 k hk'
    exact ⟨d1.trans g1, d2.trans g2, d3.trans g3, d4.trans g4⟩
  have e20 : ∀ k, k < Ec + 1 → A9 232 k = elA A Ec 3 232 k := fun k hk' => by rw [j7.2.1 k (by omega) (by intro z; cases z; omega)]; exact (f2 k hk').1
  have e30 : ∀ k, k < Ec + 1 → A9 233 k = elA A Ec 3 233 k := fun k hk' => by rw [j7.2.2.1 k (by omega) (by intro z; cases z)]; exact (f2 k hk').2
  have n2 : A9 232 Ec = -1 := (e20 Ec (by omega)).trans upd_self
  have n3 : A9 233 Ec = -1 := (e30 Ec (by omega)).trans upd_self
  have hsl : slotOf A9 Ec = (Ec, false) := by unfold slotOf; rw [n2, if_pos (by decide)]
  have ax2 : ∀ k, k ≠ Ec → appS A9 Ec (Ec + 1) 232 k = A9 232 k := fun k q => app_2 (by rw [hsl]; intro z; cases z; exact q rfl)
  have ax3 : ∀ k, appS A9 Ec (Ec + 1) 233 k = A9 233 k := fun k => app_3 (by rw [hsl]; intro z; cases z)
  have axs : appS A9 Ec (Ec + 1) 232 Ec = nI (Ec + 1) := by
    have := app_s (A := A9) (to := Ec) (pa := Ec + 1)
    rw [hsl] at this
    exact this
  have axo : ∀ i, i ≠ 232 → i ≠ 233 → appS A9 Ec (Ec + 1) i = A9 i := fun i p q => appS_ne p q
  have d : ∀ k, k < Ec → appS A9 Ec (Ec + 1) 228 k = A 228 k ∧ appS A9 Ec (Ec + 1) 229 k = A 229 k ∧ appS A9 Ec (Ec + 1) 230 k = A 230 k ∧ appS A9 Ec (Ec + 1) 231 k = A 231 k := by
    intro k hk'
    have hne : k ≠ Ec := by omega
    obtain ⟨d1, d2, d3, d4⟩ := d0 k (by omega)
    rw [axo 228 (by decide) (by decide), axo 229 (by decide) (by decide), axo 230 (by decide) (by decide), axo 231 (by decide) (by decide)]
    exact ⟨d1.trans (upd_ne hne), d2.trans (upd_ne hne), d3.trans (upd_ne hne), d4.trans (upd_ne hne)⟩
  have e2 : ∀ k, k < Ec → appS A9 Ec (Ec + 1) 232 k = A 232 k := fun k hk' => by rw [ax2 k (by omega), e20 k (by omega)]; exact upd_ne (show k ≠ Ec by omega)
  have e3 : ∀ k, k < Ec → appS A9 Ec (Ec + 1) 233 k = A 233 k := fun k hk' => by rw [ax3 k, e30 k (by omega)]; exact upd_ne (show k ≠ Ec by omega)
  have e4 : ∀ m, m < u → appS A9 Ec (Ec + 1) 234 m = A 234 m := fun m hm => by rw [axo 234 (by decide) (by decide), j7.2.2.2.2 m hm, f6, elA_ne (by decide)]
  obtain ⟨k6, k7, k8, k9⟩ := j8.1 j (by omega)
  have e8 : appS A9 Ec (Ec + 1) 238 j = A 238 j := by rw [axo 238 (by decide) (by decide), k8, f7, elA_ne (by decide)]
  have e9 : appS A9 Ec (Ec + 1) 239 j = A 239 j := by rw [axo 239 (by decide) (by decide), k9, f9, upd_ne (by omega), elA_ne (by decide)]
  have hp := psf_congr hA (by omega) hF e2 e3 e8 e9
  have hlt := psf_lt hA (by omega) hF
  have hgg := gapF_ge T Z a1
  obtain ⟨b1, b2, b3, b4, b5, b6, b7⟩ := bwN_at (Bw := Bw) (E := Ec) (k := 3) (l := 0) (h := 0) (q := -1) (p := -1) (n := -1) (st := Bw 234)
  obtain ⟨y1, y2, y3, y4, y5, y6⟩ := j5.1 Ec (by omega)
  refine ⟨⟨⟨_, he, ?_, fun g' hg' => ?_, ?_⟩, hER, hSR, ⟨by omega, by omega, by omega⟩, ((bwN_old (fun _ _ => rfl)).trans j5 (by omega) (Nat.le_refl _)).link (Nat.le_refl _) (Or.inl rfl), fun k h1 h2 => ?_, leaf_plc hA (by omega) hF (Nat.le_refl _) d e2 e3 (by rw [ax3]; exact n3) e4 e8 e9, ⟨fun g' hg' => ?_, ?_, ?_, ?_⟩⟩, ?_⟩
  · exact ((Goes9.one (show turnS T Z _ = some (true, c1) by show (seqS T Z g u R (Ec + 1 + 1) (j + 1) (entA (elA A Ec 3) (j + 1) (Ec + 1) 2 (nI Ec)) nm).map _ = _; rw [ho]; rfl)).trans hg).trans (Goes9.one hpop)
  · rw [plcS_ne (by decide) (by decide) (by decide), axo 235 (by decide) (by decide), hk g' (by omega), entA_5, upd_ne (by omega), elA_ne (by decide)]
  · rw [plcS_ne (by decide) (by decide) (by decide), axo 227 (by decide) (by decide)]
    have := hs
    rw [entA_7, elA_ne (by decide)] at this
    exact this
  · have key : DK (appS A9 Ec (Ec + 1)) (va_up B9 232 (upd (B9 232) Ec (nI (Ec + 1)))) S1 u1 k ∧ va_up B9 232 (upd (B9 232) Ec (nI (Ec + 1))) 232 k = appS A9 Ec (Ec + 1) 232 k ∧ va_up B9 232 (upd (B9 232) Ec (nI (Ec + 1))) 233 k = appS A9 Ec (Ec + 1) 233 k := by
      by_cases e : k = Ec
      · subst e
        refine ⟨Or.inr (Or.inr (Or.inr (Or.inl ⟨?_, ?_⟩))), ?_, ?_⟩
        · rw [axo 228 (by decide) (by decide), (d0 k (by omega)).1]; exact upd_self
        · exact y1.trans b1
        · rw [axs]; exact upd_self
        · rw [ax3, n3]; exact y6.trans b6
      · have m : Mt A9 B9 S1 u1 k := by
          by_cases e2' : k = Ec + 1
          · subst e2'
            refine ⟨Or.inl ⟨?_, jb1⟩, ?_, ?_⟩
            · rw [(j7.1 (Ec + 1) (by omega)).1]; exact f3
            · rw [jb2]; exact j7.2.2.2.1.symm
            · rw [jb3, j7.2.2.1 (Ec + 1) (by omega) (by intro z; cases z)]; exact f5.symm
          · exact j6 k (by omega) h2
        have m2 := m.link (k := Ec) (x := nI (Ec + 1)) e (Or.inl rfl)
        refine ⟨m2.1.keep ?_ ⟨rfl, rfl, rfl, rfl⟩ (Nat.le_refl _) (Nat.le_refl _) (fun x _ => ?_) (fun _ _ => rfl), ?_, ?_⟩
        · rw [axo 228 (by decide) (by decide), axo 229 (by decide) (by decide), axo 230 (by decide) (by decide), axo 231 (by decide) (by decide)]
          exact ⟨rfl, rfl, rfl, rfl⟩
        · rw [axo 234 (by decide) (by decide)]
        · rw [ax2 k e]; exact m2.2.1
        · rw [ax3]; exact m2.2.2
    refine ⟨key.1.keep ?_ ⟨rfl, rfl, rfl, rfl⟩ (Nat.le_refl _) (Nat.le_refl _) (fun m _ => ?_) (fun _ _ => rfl), ?_, ?_⟩
    · rw [plcS_ne (by decide) (by decide) (by decide), plcS_ne (by decide) (by decide) (by decide), plcS_ne (by decide) (by decide) (by decide), plcS_ne (by decide) (by decide) (by decide)]
      exact ⟨rfl, rfl, rfl, rfl⟩
    · rw [plcS_ne (by decide) (by decide) (by decide)]
    · rw [plc_2 (fun z => by rw [hp] at z; rw [← z] at hlt; simp only [] at hlt; omega)]; exact key.2.1
    · rw [plc_3 (fun z => by rw [hp] at z; rw [← z] at hlt; simp only [] at hlt; omega)]; exact key.2.2
  · obtain ⟨z6, z7, z8, z9⟩ := j8.1 g' (by omega)
    rw [plcS_ne (by decide) (by decide) (by decide), plcS_ne (by decide) (by decide) (by decide), plcS_ne (by decide) (by decide) (by decide), plc_9, if_neg (by omega), axo 236 (by decide) (by decide), axo 237 (by decide) (by decide), axo 238 (by decide) (by decide), axo 239 (by decide) (by decide)]
    exact ⟨by rw [z6, f8, upd_ne (by omega), elA_ne (by decide)], by rw [z7, f11 g' (by omega), elA_ne (by decide)], by rw [z8, f7, elA_ne (by decide)], by rw [z9, f9, upd_ne (by omega), elA_ne (by decide)]⟩
  · rw [plcS_ne (by decide) (by decide) (by decide), axo 236 (by decide) (by decide), k6, f8, upd_ne (by omega), elA_ne (by decide)]
  · rw [plcS_ne (by decide) (by decide) (by decide), axo 237 (by decide) (by decide), k7, f11 j (by omega), elA_ne (by decide)]
  · rw [plc_9, if_pos rfl]
  · rw [plcS_ne (by decide) (by decide) (by decide), e8]
end PB
