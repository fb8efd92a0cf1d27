def RDS (cy : Nat → ClassId) (ad : Nat → Nat) (T : Nat → Int32) (Z j : Nat) (o : Option Cg) (sl : Nat × Bool) (R Ec S u : Nat) (A Bw : Ro) (k' a' u' R' E' S' : Nat) (A' Bw' : Ro) (nm' : Nat → Int64) (mem' : Nat → va_E) : Prop :=
  SucU T Z o j R (A 235) (A 227) a' u' R' E' A' nm' ∧ ER ad R' E' Bw' mem' ∧ SR cy ad S' Bw' mem' ∧ (S ≤ S' ∧ S' ≤ a' ∧ u ≤ u') ∧ OLD Bw Bw' Ec S ∧ (∀ k, Ec ≤ k → k < E' → Mt A' Bw' S' u' k) ∧ PLC A A' Ec u sl k' ∧ FRS A A' j
theorem chrS_lt {T : Nat → Int32} {L u a : Nat} {f : Nat → Int32} : ∀ {n m : Nat}, m < u → chrS T L u a f n m = f m
  | 0, m, h => rfl
  | n + 1, m, h => by
    unfold chrS
    rw [upd_ne (by omega)]
    exact chrS_lt h
theorem chrS_at {T : Nat → Int32} {L u a : Nat} {f : Nat → Int32} : ∀ {n m : Nat}, m < n → chrS T L u a f n (u + m) = hereF L T (a + m)
  | 0, m, h => by omega
  | n + 1, m, h => by
    unfold chrS
    by_cases q : m = n
    · rw [q, upd_self]
    · rw [upd_ne (by omega)]
      exact chrS_at (by omega)
section P7
variable {cy : Nat → ClassId} {ad : Nat → Nat} {T : Nat → Int32} {Z j R R' Ec E' S S' u u' a a' : Nat} {A A' Ax Bw Bw' : Ro} {nm nm' : Nat → Int64} {mem mem' : Nat → va_E} {o : Option Cg}
theorem leafG (ho : o = some (a', u', R', Ec + 1, j, plcS Ax j Ec, nm', false)) (hTK : TOK R R' (A 227) (Ax 227)) (hA : LKa Ec A) (hEb : Ec < 100) (hF : FRM A j Ec) (d : ∀ k, k < Ec → Ax 228 k = A 228 k ∧ Ax 229 k = A 229 k ∧ Ax 230 k = A 230 k ∧ Ax 231 k = A 231 k) (e2 : ∀ k, k < Ec → Ax 232 k = A 232 k) (e3 : ∀ k, k < Ec → Ax 233 k = A 233 k) (n2 : Ax 232 Ec = -1) (n3 : Ax 233 Ec = -1) (e4 : ∀ m, m < u → Ax 234 m = A 234 m) (e6 : ∀ i, 235 ≤ i → i ≤ 239 → Ax i = A i) (hER : ER ad R' (Ec + 1) Bw' mem') (hSR : SR cy ad S' Bw' mem') (hO : OLD Bw Bw' Ec S) (hdk : DK Ax Bw' S' u' Ec) (b2 : Bw' 232 Ec = -1) (b3 : Bw' 233 Ec = -1) (hle : S ≤ S' ∧ S' ≤ a' ∧ u ≤ u') : RDS cy ad T Z j o (PSf A j) R Ec S u A Bw Ec a' u' R' (Ec + 1) S' (plcS Ax j Ec) Bw' nm' mem' ∧ plcS Ax j Ec 238 j = A 238 j := by
  have hp := psf_congr hA (by omega) hF e2 e3 (by rw [e6 238 (by decide) (by decide)]) (by rw [e6 239 (by decide) (by decide)])
  have hlt := psf_lt hA (by omega) hF
  have hf := leaf_frs (f := j) (k' := Ec) e6
  refine ⟨⟨⟨_, ho, Goes9.rf _, fun g _ => ?_, ?_⟩, hER, hSR, hle, hO, fun k h1 h2 => ?_, ?_, hf.1⟩, hf.2⟩
  · rw [plcS_ne (by decide) (by decide) (by decide), e6 235 (by decide) (by decide)]
  · rw [plcS_ne (by decide) (by decide) (by decide)]; exact hTK
  · obtain rfl : k = Ec := by omega
    refine ⟨hdk.keep ?_ ⟨rfl, rfl, rfl, rfl⟩ (Nat.le_refl _) (Nat.le_refl _) (fun m _ => ?_) (fun _ _ => rfl), ?_, ?_⟩
    · rw [plcS_ne (by decide) (by decide) (by decide), plcS_ne (by decide) (by decide) (by decide), plcS_ne (by decide) (by decide) (by decide), plcS_ne (by decide) (by decide) (by decide)]
      exact ⟨rfl, rfl, rfl, rfl⟩
    · rw [plcS_ne (by decide) (by decide) (by decide)]
    · rw [b2, plc_2 (fun z => by rw [hp] at z; rw [← z] at hlt; simp only [] at hlt; omega), n2]
    · rw [b3, plc_3 (fun z => by rw [hp] at z; rw [← z] at hlt; simp only [] at hlt; omega), n3]
  · exact leaf_plc hA (by omega) hF (Nat.le_refl _) d e2 e3 n3 e4 (by rw [e6 238 (by decide) (by decide)]) (by rw [e6 239 (by decide) (by decide)])
theorem rds_str {s9 : Nat → Int32} (h : hereF Z T a = 34) (hE : Ec < 100) (hq : hereF Z T (a + 1 + strN T Z 12 (a + 1)) = 34) (hA : LKa Ec A) (hF : FRM A j Ec) (hER : ER ad R Ec Bw mem) (hc : mem' (20 + 2 * Ec) = eCl ad Ec 5 (nI S) (nI (S + strN T Z 12 (a + 1))) .null .null .null) (h0 : mem' 220 = .inr (0, [.ref (ad 221), .int (nI (S + strN T Z 12 (a + 1)))])) (h1 : mem' 221 = .inl (cy 0, 240, .inl s9)) (hs1 : ∀ m, m < S → s9 m = Bw 234 m) (hs2 : ∀ m, m < strN T Z 12 (a + 1) → s9 (S + m) = hereF Z T (a + 1 + m)) (hf : ∀ k, k < Ec → mem' (20 + 2 * k) = mem (20 + 2 * k)) (hSa : S ≤ a) : ∃ A' Bw', RDS cy ad T Z j (singS T Z a u R Ec j A nm) (PSf A j) R Ec S u A Bw Ec (a + 1 + strN T Z 12 (a + 1) + 1) (u + strN T Z 12 (a + 1)) R (Ec + 1) (S + strN T Z 12 (a + 1)) A' Bw' nm mem' ∧ A' 238 j = A 238 j := by
  obtain ⟨q1, q2, q3, -⟩ := l34 h
  refine ⟨_, bwN Bw Ec 5 (nI S) (nI (S + strN T Z 12 (a + 1))) (-1) (-1) (-1) s9, leafG (Ax := va_up (va_up (va_up (elA A Ec 4) 229 (upd (elA A Ec 4 229) Ec (nI u))) 234 (chrS T Z u (a + 1) (elA A Ec 4 234) (strN T Z 12 (a + 1)))) 230 (upd (elA A Ec 4 230) Ec (nI (strN T Z 12 (a + 1))))) (by rw [sing_st q1 q2 q3 h hE, strS_ok _ rfl hq]; rfl) (TOK.of rfl) hA hE hF (fun k hk => ?_) (fun k hk => ?_) (fun k hk => ?_) ?_ ?_ (fun m hm => ?_) (fun i i1 i2 => ?_) (hER.new (Nat.le_refl _) (by rw [vR_m]; exact hc) (Or.inl rfl) hf) ⟨h0, h1⟩ (bwN_old hs1) ?_ ?_ ?_ ⟨by omega, by omega, by omega⟩⟩
  · have hne : k ≠ Ec := by omega
    refine ⟨upd_ne hne, ?_, ?_, upd_ne hne⟩
    · show upd (upd (A 229) Ec 0) Ec _ k = _; rw [upd_ne hne, upd_ne hne]
    · show upd (upd (A 230) Ec 0) Ec _ k = _; rw [upd_ne hne, upd_ne hne]
  · exact upd_ne (show k ≠ Ec by omega)
  · exact upd_ne (show k ≠ Ec by omega)
  · exact upd_self
  · exact upd_self
  · exact chrS_lt hm
  · have : i = 235 ∨ i = 236 ∨ i = 237 ∨ i = 238 ∨ i = 239 := by omega
    rcases this with rfl | rfl | rfl | rfl | rfl <;> rfl
  · obtain ⟨b1, b2, b3, b4, b5, b6, b7⟩ := bwN_at (Bw := Bw) (E := Ec) (k := 5) (l := nI S) (h := nI (S + strN T Z 12 (a + 1))) (q := -1) (p := -1) (n := -1) (st := s9)
    refine Or.inr (Or.inr (Or.inr (Or.inr (Or.inr (Or.inr ⟨upd_self, ?_, S, u, strN T Z 12 (a + 1), b2, b3, upd_self, upd_self, Nat.le_refl _, Nat.le_refl _, fun m hm => ?_⟩)))))
    · rw [b1, if_pos]
      show upd (A 231) Ec (vp_nar .boolean 0) Ec = 0
      rw [upd_self]; rfl
    · rw [b7, hs2 m hm]
      exact (chrS_at hm).symm
  · exact upd_self
  · exact upd_self
theorem rds_xst {s9 : Nat → Int32} (h : hereF Z T a = 37) (hb : smF (hereF Z T (a + 1)) = 115) (hh : hereF Z T (a + 1 + 1) = 34) (hE : Ec < 100) (hq : hereF Z T (a + 1 + 1 + 1 + strN T Z 12 (a + 1 + 1 + 1)) = 34) (hA : LKa Ec A) (hF : FRM A j Ec) (hER : ER ad R Ec Bw mem) (hc : mem' (20 + 2 * Ec) = eCl ad Ec 6 (nI S) (nI (S + strN T Z 12 (a + 1 + 1 + 1))) .null .null .null) (h0 : mem' 220 = .inr (0, [.ref (ad 221), .int (nI (S + strN T Z 12 (a + 1 + 1 + 1)))])) (h1 : mem' 221 = .inl (cy 0, 240, .inl s9)) (hs1 : ∀ m, m < S → s9 m = Bw 234 m) (hs2 : ∀ m, m < strN T Z 12 (a + 1 + 1 + 1) → s9 (S + m) = hereF Z T (a + 1 + 1 + 1 + m)) (hf : ∀ k, k < Ec → mem' (20 + 2 * k) = mem (20 + 2 * k)) (hSa : S ≤ a) : ∃ A' Bw', RDS cy ad T Z j (singS T Z a u R Ec j A nm) (PSf A j) R Ec S u A Bw Ec (a + 1 + 1 + 1 + strN T Z 12 (a + 1 + 1 + 1) + 1) (u + strN T Z 12 (a + 1 + 1 + 1)) R (Ec + 1) (S + strN T Z 12 (a + 1 + 1 + 1)) A' Bw' nm mem' ∧ A' 238 j = A 238 j := by
  obtain ⟨q1, q2, q3, q4, -⟩ := l37 h
  refine ⟨_, bwN Bw Ec 6 (nI S) (nI (S + strN T Z 12 (a + 1 + 1 + 1))) (-1) (-1) (-1) s9, leafG (Ax := va_up (va_up (va_up (va_up (elA A Ec 4) 231 (upd (elA A Ec 4 231) Ec (vp_nar .boolean 1))) 229 (upd (elA A Ec 4 229) Ec (nI u))) 234 (chrS T Z u (a + 1 + 1 + 1) (elA A Ec 4 234) (strN T Z 12 (a + 1 + 1 + 1)))) 230 (upd (elA A Ec 4 230) Ec (nI (strN T Z 12 (a + 1 + 1 + 1))))) (by rw [sing_qs q1 q2 q3 q4 hE hb hh, strS_ok _ rfl hq]; rfl) (TOK.of rfl) hA hE hF (fun k hk => ?_) (fun k hk => ?_) (fun k hk => ?_) ?_ ?_ (fun m hm => ?_) (fun i i1 i2 => ?_) (hER.new (Nat.le_refl _) (by rw [vR_m]; exact hc) (Or.inl rfl) hf) ⟨h0, h1⟩ (bwN_old hs1) ?_ ?_ ?_ ⟨by omega, by omega, by omega⟩⟩
  · have hne : k ≠ Ec := by omega
    refine ⟨upd_ne hne, ?_, ?_, ?_⟩
    · show upd (upd (A 229) Ec 0) Ec _ k = _; rw [upd_ne hne, upd_ne hne]
    · show upd (upd (A 230) Ec 0) Ec _ k = _; rw [upd_ne hne, upd_ne hne]
    · show upd (upd (A 231) Ec _) Ec _ k = _; rw [upd_ne hne, upd_ne hne]
  · exact upd_ne (show k ≠ Ec by omega)
  · exact upd_ne (show k ≠ Ec by omega)
  · exact upd_self
  · exact upd_self
  · exact chrS_lt hm
  · have : i = 235 ∨ i = 236 ∨ i = 237 ∨ i = 238 ∨ i = 239 := by omega
    rcases this with rfl | rfl | rfl | rfl | rfl <;> rfl
  · obtain ⟨b1, b2, b3, b4, b5, b6, b7⟩ := bwN_at (Bw := Bw) (E := Ec) (k := 6) (l := nI S) (h := nI (S + strN T Z 12 (a + 1 + 1 + 1))) (q := -1) (p := -1) (n := -1) (st := s9)
    refine Or.inr (Or.inr (Or.inr (Or.inr (Or.inr (Or.inr ⟨upd_self, ?_, S, u, strN T Z 12 (a + 1 + 1 + 1), b2, b3, upd_self, upd_self, Nat.le_refl _, Nat.le_refl _, fun m hm => ?_⟩)))))
    · rw [b1, if_neg]
      show ¬ upd _ Ec (vp_nar .boolean 1) Ec = 0
      rw [upd_self]; decide
    · rw [b7, hs2 m hm]
      exact (chrS_at hm).symm
  · exact upd_self
  · exact upd_self
theorem rds_nam {i R1 a1 : Nat} {A1 : Ro} {nm1 : Nat → Int64} (hl : ¬ ltF (hereF Z T a) = 0) (hn : nameS T Z a R A nm = some (i, a1, R1, A1, nm1)) (hE : Ec < 100) (hA1 : ∀ k, k ≠ 227 → A1 k = A k) (ht : TOK R R1 (A 227) (A1 227)) (hR : R ≤ R1) (hi : i < R1) (hR12 : R1 ≤ 12) (hA : LKa Ec A) (hF : FRM A j Ec) (hER : ER ad R Ec Bw mem) (hSR : SR cy ad S Bw mem') (hc : mem' (20 + 2 * Ec) = eCl ad Ec 4 0 0 (.ref (ad (7 + i))) .null .null) (hf : ∀ k, k < Ec → mem' (20 + 2 * k) = mem (20 + 2 * k)) (hSa : S ≤ a1) : ∃ A' Bw', RDS cy ad T Z j (singS T Z a u R Ec j A nm) (PSf A j) R Ec S u A Bw Ec a1 u R1 (Ec + 1) S A' Bw' nm1 mem' ∧ A' 238 j = A 238 j := by
  refine ⟨_, bwN Bw Ec 4 0 0 (nI i) (-1) (-1) (Bw 234), leafG (Ax := va_up (elA A1 Ec 6) 229 (upd (elA A1 Ec 6 229) Ec (nI i))) (sing_n3 hl hn hE) ?_ hA hE hF (fun k hk => ?_) (fun k hk => ?_) (fun k hk => ?_) ?_ ?_ (fun m hm => ?_) (fun x i1 i2 => ?_) (hER.new hR (by rw [vR_n ad (by omega)]; exact hc) (Or.inr ⟨i, hi, rfl⟩) hf) ⟨hSR.1, hSR.2⟩ (bwN_old (fun _ _ => rfl)) ?_ ?_ ?_ ⟨by omega, by omega, by omega⟩⟩
  · rw [va_up_ne _ _ (by decide), elA_ne (by decide)]; exact ht
  · have hne : k ≠ Ec := by omega
    refine ⟨?_, ?_, ?_, ?_⟩
    · show upd (A1 228) Ec _ k = _; rw [upd_ne hne, hA1 228 (by decide)]
    · show upd (upd (A1 229) Ec 0) Ec _ k = _; rw [upd_ne hne, upd_ne hne, hA1 229 (by decide)]
    · show upd (A1 230) Ec _ k = _; rw [upd_ne hne, hA1 230 (by decide)]
    · show upd (A1 231) Ec _ k = _; rw [upd_ne hne, hA1 231 (by decide)]
  · show upd (A1 232) Ec _ k = _; rw [upd_ne (by omega), hA1 232 (by decide)]
  · show upd (A1 233) Ec _ k = _; rw [upd_ne (by omega), hA1 233 (by decide)]
  · exact upd_self
  · exact upd_self
  · show A1 234 m = _; rw [hA1 234 (by decide)]
  · have : x = 235 ∨ x = 236 ∨ x = 237 ∨ x = 238 ∨ x = 239 := by omega
    rcases this with rfl | rfl | rfl | rfl | rfl <;> (rw [va_up_ne _ _ (by decide), elA_ne (by decide)]; exact hA1 _ (by decide))
  · obtain ⟨b1, b2, b3, b4, b5, b6, b7⟩ := bwN_at (Bw := Bw) (E := Ec) (k := 4) (l := 0) (h := 0) (q := nI i) (p := -1) (n := -1) (st := Bw 234)
    refine Or.inr (Or.inr (Or.inr (Or.inr (Or.inl ⟨upd_self, b1, ?_⟩))))
    rw [b4]; exact upd_self.symm
  · exact upd_self
  · exact upd_self
end P7
