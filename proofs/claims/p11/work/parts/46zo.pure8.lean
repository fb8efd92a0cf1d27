section P9
variable {cy : Nat → ClassId} {ad : Nat → Nat} {T : Nat → Int32} {Z j R R' Ec E' S S' u u' a a' k1 : Nat} {A A' Ax Bw B1 Bw' : Ro} {nm nm' : Nat → Int64} {mem mem' memx : Nat → va_E} {o o1 : Option Cg}
theorem rds_val {ba : Int32} {A1 : Ro} (h : hereF Z T a = 37) (hb : (smF (hereF Z T (a + 1)) = 100 ∧ ba = 10) ∨ (smF (hereF Z T (a + 1)) = 120 ∧ ba = 16)) (hE : Ec < 100) (hn : numsS T Z (a + 1 + 1) u Ec ba (va_up (elA A Ec 4) 231 (upd (elA A Ec 4 231) Ec (vp_nar .boolean 1))) = some (a', u', A1)) (hsp : SPn Ec u (va_up (elA A Ec 4) 231 (upd (elA A Ec 4 231) Ec (vp_nar .boolean 1))) A1) (hA : LKa Ec A) (hF : FRM A j Ec) (hER : ER ad R Ec Bw mem) (hf : ∀ k, k < Ec → mem' (20 + 2 * k) = mem (20 + 2 * k)) (hSa : S ≤ a) (haa : a < a')
    (hc : (∃ v w : Int32, mem' (20 + 2 * Ec) = eCl ad Ec 7 v w .null .null .null ∧ A1 228 Ec = 5 ∧ A1 229 Ec = v ∧ A1 230 Ec = w ∧ mem' 220 = .inr (0, [.ref (ad 221), .int (nI S)]) ∧ mem' 221 = .inl (cy 0, 240, .inl (Bw 234)) ∧ u' = u + 1) ∨ (∃ (t9 : Nat) (s9 : Nat → Int32), mem' (20 + 2 * Ec) = eCl ad Ec 6 (nI S) (nI (S + t9)) .null .null .null ∧ A1 228 Ec = va_up (elA A Ec 4) 231 (upd (elA A Ec 4 231) Ec (vp_nar .boolean 1)) 228 Ec ∧ A1 229 Ec = nI u ∧ A1 230 Ec = nI t9 ∧ mem' 220 = .inr (0, [.ref (ad 221), .int (nI (S + t9))]) ∧ mem' 221 = .inl (cy 0, 240, .inl s9) ∧ (∀ m, m < S → s9 m = Bw 234 m) ∧ (∀ m, m < t9 → s9 (S + m) = A1 234 (u + m)) ∧ S + t9 < a' ∧ u' = u + t9)) : ∃ S' A' Bw', RDS cy ad T Z j (singS T Z a u R Ec j A nm) (PSf A j) R Ec S u A Bw Ec a' u' R (Ec + 1) S' A' Bw' nm mem' ∧ A' 238 j = A 238 j := by
  obtain ⟨q1, q2, q3, q4, -⟩ := l37 h
  have ho : singS T Z a u R Ec j A nm = some (a', u', R, Ec + 1, j, plcS A1 j Ec, nm, false) := by
    rcases hb with ⟨b1, b2⟩ | ⟨b1, b2⟩
    · subst b2; rw [sing_d q1 q2 q3 q4 hE b1, hn]; rfl
    · subst b2; rw [sing_x q1 q2 q3 q4 hE b1, hn]; rfl
  have d : ∀ k, k < Ec → A1 228 k = A 228 k ∧ A1 229 k = A 229 k ∧ A1 230 k = A 230 k ∧ A1 231 k = A 231 k := by
    intro k hk
    have hne : k ≠ Ec := by omega
    obtain ⟨e1, e2, e3⟩ := hsp.2.1 k hne
    refine ⟨e1.trans (upd_ne hne), e2.trans (upd_ne hne), e3.trans (upd_ne hne), ?_⟩
    rw [hsp.1 231 (by decide) (by decide) (by decide) (by decide)]
    show upd (upd (A 231) Ec _) Ec _ k = _
    rw [upd_ne hne, upd_ne hne]
  have e2 : ∀ k, k < Ec → A1 232 k = A 232 k := fun k hk => by
    rw [hsp.1 232 (by decide) (by decide) (by decide) (by decide)]; exact upd_ne (show k ≠ Ec by omega)
  have e3 : ∀ k, k < Ec → A1 233 k = A 233 k := fun k hk => by
    rw [hsp.1 233 (by decide) (by decide) (by decide) (by decide)]; exact upd_ne (show k ≠ Ec by omega)
  have n2 : A1 232 Ec = -1 := by rw [hsp.1 232 (by decide) (by decide) (by decide) (by decide)]; exact upd_self
  have n3 : A1 233 Ec = -1 := by rw [hsp.1 233 (by decide) (by decide) (by decide) (by decide)]; exact upd_self
  have e4 : ∀ m, m < u → A1 234 m = A 234 m := fun m hm => hsp.2.2 m hm
  have e6 : ∀ i, 235 ≤ i → i ≤ 239 → A1 i = A i := by
    intro i i1 i2
    rw [hsp.1 i (by omega) (by omega) (by omega) (by omega), va_up_ne _ _ (by omega), elA_ne (by omega)]
  have h27 : TOK R R (A 227) (A1 227) := TOK.of (by rw [hsp.1 227 (by decide) (by decide) (by decide) (by decide)]; rfl)
  have h231 : ¬ A1 231 Ec = 0 := by
    rw [hsp.1 231 (by decide) (by decide) (by decide) (by decide)]
    show ¬ upd _ Ec (vp_nar .boolean 1) Ec = 0
    rw [upd_self]; decide
  rcases hc with ⟨v, w, c1, c2, c3, c4, c5, c6, c7⟩ | ⟨t9, s9, c1, c2, c3, c4, c5, c6, c7, c8, c9, c10⟩
  · obtain ⟨b1, b2, b3, b4, b5, b6, b7⟩ := bwN_at (Bw := Bw) (E := Ec) (k := 7) (l := v) (h := w) (q := -1) (p := -1) (n := -1) (st := Bw 234)
    exact ⟨S, _, _, leafG ho h27 hA hE hF d e2 e3 n2 n3 e4 e6 (hER.new (Nat.le_refl _) (by rw [vR_m]; exact c1) (Or.inl rfl) hf) ⟨c5, c6⟩ (bwN_old (fun _ _ => rfl)) (Or.inr (Or.inr (Or.inr (Or.inr (Or.inr (Or.inl ⟨c2, b1, by rw [b2, c3], by rw [b3, c4]⟩)))))) upd_self upd_self ⟨by omega, by omega, by omega⟩⟩
  · obtain ⟨b1, b2, b3, b4, b5, b6, b7⟩ := bwN_at (Bw := Bw) (E := Ec) (k := 6) (l := nI S) (h := nI (S + t9)) (q := -1) (p := -1) (n := -1) (st := s9)
    exact ⟨S + t9, _, _, leafG ho h27 hA hE hF d e2 e3 n2 n3 e4 e6 (hER.new (Nat.le_refl _) (by rw [vR_m]; exact c1) (Or.inl rfl) hf) ⟨c5, c6⟩ (bwN_old c7) (Or.inr (Or.inr (Or.inr (Or.inr (Or.inr (Or.inr ⟨by rw [c2]; exact upd_self, by rw [b1, if_neg h231], S, u, t9, b2, b3, c3, c4, Nat.le_refl _, by omega, fun m hm => by rw [b7]; exact c8 m hm⟩)))))) upd_self upd_self ⟨by omega, by omega, by omega⟩⟩
/-- the class's link of an old element of its own, behind -/
theorem OLD.link {B1 : Ro} {E k row : Nat} {x : Int32} (h : OLD Bw B1 E S) (hk : E ≤ k) (hr : row = 232 ∨ row = 233) : OLD Bw (va_up B1 row (upd (B1 row) k x)) E S := by
  refine ⟨fun i hi => ?_, fun m hm => ?_⟩
  · obtain ⟨a1, a2, a3, a4, a5, a6⟩ := h.1 i hi
    have hne : i ≠ k := by omega
    rcases hr with rfl | rfl
    · exact ⟨a1, a2, a3, a4, (upd_ne hne).trans a5, a6⟩
    · exact ⟨a1, a2, a3, a4, a5, (upd_ne hne).trans a6⟩
  · rcases hr with rfl | rfl <;> exact h.2 m hm
theorem Mt.link {A1 B1 : Ro} {k i row : Nat} {x : Int32} (h : Mt A1 B1 S u i) (hne : i ≠ k) (hr : row = 232 ∨ row = 233) : Mt A1 (va_up B1 row (upd (B1 row) k x)) S u i := by
  refine ⟨h.1.keep ⟨rfl, rfl, rfl, rfl⟩ ?_ (Nat.le_refl _) (Nat.le_refl _) (fun _ _ => rfl) (fun m _ => ?_), ?_, ?_⟩
  · rcases hr with rfl | rfl <;> exact ⟨rfl, rfl, rfl, rfl⟩
  · rcases hr with rfl | rfl <;> rfl
  · rcases hr with rfl | rfl
    · exact (upd_ne hne).trans h.2.1
    · exact h.2.1
  · rcases hr with rfl | rfl
    · exact h.2.2
    · exact (upd_ne hne).trans h.2.2
theorem DK.link {A1 B1 : Ro} {k i row : Nat} {x : Int32} (h : DK A1 B1 S u i) (hr : row = 232 ∨ row = 233) : DK A1 (va_up B1 row (upd (B1 row) k x)) S u i := by
  refine h.keep ⟨rfl, rfl, rfl, rfl⟩ ?_ (Nat.le_refl _) (Nat.le_refl _) (fun _ _ => rfl) (fun m _ => ?_)
  · rcases hr with rfl | rfl <;> exact ⟨rfl, rfl, rfl, rfl⟩
  · rcases hr with rfl | rfl <;> rfl
/-- a repetition: what its part's reading gave, linked -/
theorem rep_rds {v1 v2 : Int32} (hA : LKa Ec A) (hE : Ec < 100) (hF : FRM A j Ec) (h39 : A 239 j = -1) (hin : RDS cy ad T Z j o1 (PSf (repB A j Ec v1 v2) j) R (Ec + 1) S u (repB A j Ec v1 v2) (bwN Bw Ec 2 v1 v2 (-1) (-1) (-1) (Bw 234)) k1 a' u' R' E' S' A' B1 nm' memx) (h8 : A' 238 j = repB A j Ec v1 v2 238 j) (hk : Ec + 1 ≤ k1 ∧ k1 < E') (ho : o = o1) (hER : ER ad R' E' (va_up B1 232 (upd (B1 232) Ec (nI k1))) mem') (hSR : SR cy ad S' B1 mem') : RDS cy ad T Z j o (PSf A j) R Ec S u A Bw Ec a' u' R' E' S' A' (va_up B1 232 (upd (B1 232) Ec (nI k1))) nm' mem' ∧ A' 238 j = A 238 j := by
  obtain ⟨hf1, ⟨f2, f3, f8, f9, f0⟩, f39, f39g⟩ := repB_f (u := u) (v1 := v1) (v2 := v2) hA (by omega) hF h39
  have hps : PSf (repB A j Ec v1 v2) j = (Ec, false) := by
    unfold PSf
    rw [f39, if_neg (nI_pos (by omega)), nI_clamp (by omega)]
    unfold slotOf
    rw [f2, if_pos (by decide)]
  rw [hps] at hin
  obtain ⟨i1, i2, i3, i4, i5, i6, i7, i8⟩ := hin
  have e35 : repB A j Ec v1 v2 235 = A 235 := repB_ne (by decide) (by decide)
  have e27 : repB A j Ec v1 v2 227 = A 227 := repB_ne (by decide) (by decide)
  have e38 : repB A j Ec v1 v2 238 = A 238 := repB_ne (by decide) (by decide)
  have hlt := psf_lt hA (by omega) hF
  obtain ⟨b1, b2, b3, b4, b5, b6, b7⟩ := bwN_at (Bw := Bw) (E := Ec) (k := 2) (l := v1) (h := v2) (q := -1) (p := -1) (n := -1) (st := Bw 234)
  obtain ⟨c1, c2, c3, c4, c5, c6⟩ := i5.1 Ec (by omega)
  refine ⟨⟨i1.eq ho e35 e27, hER, hSR, i4, ((bwN_old (fun _ _ => rfl)).trans i5 (by omega) (Nat.le_refl _)).link (Nat.le_refl _) (Or.inl rfl), fun k k1' k2' => ?_, ⟨?_, ?_, ?_, ?_, ?_, ?_⟩, ⟨fun g hg => ?_, ?_, ?_, i8.2.2.2⟩⟩, by rw [h8, e38]⟩
  · by_cases e : k = Ec
    · subst e
      obtain ⟨d1, d2, d3, d4⟩ := i7.1 k (by omega)
      refine ⟨Or.inr (Or.inr (Or.inl ⟨d1.trans f8, c1.trans b1, ?_, ?_⟩)), ?_, ?_⟩
      · rw [d2, f9]; exact c2.trans b2
      · rw [d3, f0]; exact c3.trans b3
      · show upd (B1 232) k (nI k1) k = _
        rw [upd_self]; exact i7.2.2.2.1.symm
      · rw [i7.2.2.1 k (by omega) (by intro z; cases z), f3]; exact c6.trans b6
    · exact (i6 k (by omega) k2').link e (Or.inl rfl)
  · intro k hk'
    obtain ⟨d1, d2, d3, d4⟩ := i7.1 k (by omega)
    obtain ⟨g1, g2, g3, g4⟩ := hf1.1 k hk'
    exact ⟨d1.trans g1, d2.trans g2, d3.trans g3, d4.trans g4⟩
  · intro k hk' q
    rw [i7.2.1 k (by omega) (by intro z; cases z; omega)]; exact hf1.2.1 k hk' q
  · intro k hk' q
    rw [i7.2.2.1 k (by omega) (by intro z; cases z)]; exact hf1.2.2.1 k hk' q
  · have := hf1.2.2.2.1
    revert hlt this
    generalize PSf A j = sl
    intro hlt this
    obtain ⟨s1, s2⟩ := sl
    have hlt : s1 < Ec := hlt
    unfold atS at this ⊢
    cases s2 with
    | false => rw [← this]; exact i7.2.1 s1 (by omega) (by intro z; cases z; omega)
    | true => rw [← this]; exact i7.2.2.1 s1 (by omega) (by intro z; cases z)
  · rw [i7.2.2.1 Ec (by omega) (by intro z; cases z)]; exact f3
  · intro m hm
    rw [i7.2.2.2.2.2 m hm]; exact hf1.2.2.2.2 m hm
  · obtain ⟨d1, d2, d3, d4⟩ := i8.1 g hg
    exact ⟨d1.trans (by rw [repB_ne (by decide) (by decide)]), d2.trans (by rw [repB_ne (by decide) (by decide)]), d3.trans (by rw [e38]), d4.trans (f39g g (by omega))⟩
  · rw [i8.2.1, repB_ne (by decide) (by decide)]
  · rw [i8.2.2.1, repB_ne (by decide) (by decide)]
end P9
