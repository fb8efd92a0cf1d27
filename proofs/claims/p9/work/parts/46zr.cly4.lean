theorem cl.oR {rc : Nat} {x : Int32} (h : cl rc x) (ad : Nat → Nat) (hb : rc ≤ 12 := by omega) : oR ad rc (vR ad x) := by
  rcases h with rfl | ⟨j, h1, rfl⟩
  · exact Or.inl (vR_m ad)
  · exact Or.inr ⟨j, h1, vR_n ad (by omega)⟩
theorem lk.oE {ec k : Nat} {x : Int32} (h : lk ec k x) (ad : Nat → Nat) (hb : ec ≤ 100) : oE ad (k + 1) ec (vE ad x) := by
  rcases h with rfl | ⟨j, h1, h2, rfl⟩
  · exact Or.inl (vE_m ad)
  · exact Or.inr ⟨j, by omega, h2, vE_n ad (by omega)⟩
theorem frm_seq {A : Ro} {j Ec c : Nat} (hA : LKa Ec A) (hE : Ec < 100) (hc : A 237 j = nI c) (hcl : c < Ec) (h39 : A 239 j = -1) : LKa (Ec + 1) (seqA A j Ec) ∧ FRM (seqA A j Ec) j (Ec + 1) ∧ seqA A j Ec 239 j = -1 := by
  obtain ⟨hf1, f2, f8, f38, f38g⟩ := seqA_f (u := 0) hA (by omega) hc hcl
  have e39 : seqA A j Ec 239 j = -1 := by rw [seqA_ne (by decide) (by decide)]; exact h39
  exact ⟨lka_one hA hf1.o (slot_lt hA (by omega) hcl) f2 hf1.2.2.2.2.1, ⟨⟨Ec, by omega, f38⟩, Or.inl e39⟩, e39⟩
theorem frm_rep {A : Ro} {j Ec : Nat} {v1 v2 : Int32} (hA : LKa Ec A) (hE : Ec < 100) (hF : FRM A j Ec) (h39 : A 239 j = -1) : LKa (Ec + 1) (repB A j Ec v1 v2) ∧ FRM (repB A j Ec v1 v2) j (Ec + 1) := by
  obtain ⟨hf1, ⟨f2, f3, f8, f9, f0⟩, f39, f39g⟩ := repB_f (u := 0) (v1 := v1) (v2 := v2) hA (by omega) hF h39
  obtain ⟨⟨s, hs, q8⟩, -⟩ := hF
  exact ⟨lka_one hA hf1 (psf_lt hA (by omega) ⟨⟨s, hs, q8⟩, Or.inl h39⟩) f2 f3, ⟨⟨s, by omega, by rw [repB_ne (by decide) (by decide)]; exact q8⟩, Or.inr ⟨Ec, by omega, f39⟩⟩⟩
set_option maxHeartbeats 4000000 in
set_option maxRecDepth 100000 in
theorem m_Rd_readBracket_6Y (l : Launch) {D : va_G} {cy : Nat → ClassId} {sz n : Nat} {ad : Nat → Nat} {mem : Nat → va_E} {Z a R Ec lim : Nat} {f T : Nat → Int32} {to : Nat → Int32} {nm : Nat → Int64} {m0 : Nat → va_E} {u S : Nat} {A Bw : Ro} {what oe en : Int32} (hlt : l.stackTraces = false) (hn : 224 ≤ n) (hT : TX cy ad Z f m0) (hf : ∀ k, k < Z → f k = T k) (hRX : RX cy ad lim a R Ec to nm m0 mem) (haB : a ≤ 300) (hER : ER ad R Ec Bw mem) (hSR : SR cy ad S Bw mem) (hSa : S ≤ a) (haZ : a < Z) (hwe : (what = 1 ∧ en = 41) ∨ (what = 2 ∧ en = 93)) (hLK : LKa Ec A) : NXr l D cy sz n ad y_Rd_readBracket c_Rd_readBracket 4 (some (.object "AbnfChart$Element")) ({ frames := 14, cells := 1, slots := 6, locals := 320 } : Room) mem [.ref (ad 222), .int (6), .int (en)] (fun r mem' => False) (fun X mem' => ((X = cIA ∨ X = cIS) ∧ ∃ rc' ec' : Nat, RS cy ad lim rc' ec' m0 mem') ∧ (True)) := by
  refine vx_ofW (cc := c_Rd_readBracket) (maxL := 4) (ret := (some (.object "AbnfChart$Element"))) (by decide) rfl ?_
  intro p e s m args below meth c s₁ B hml hno hv
  obtain ⟨rfl, E, hP, hD⟩ := hv
  have hx := B.exec
  have hb := B.bytes
  have hr := B.returns
  have hlocks := B.notSynchronized
  have Bx : MB p s m [.ref (ad 222), .int (6), .int (en)].toArray c c_Rd_readBracket "AbnfChart$Reader" D cy := ⟨hx, hb, tb_all (atoms_spec B.pre) E.2.1, findClass_of_methodNamed B.named, E.1⟩
  have hS : va_S (Az sz) s.heap s.heap [] := va_S.rf
  have hl := lv_entry ([.ref (ad 222), .int (6), .int (en)]) (n := 4) (Nat.le_of_ble_eq_true rfl)
  rw [lg_entry_eq]
  generalize (lg_sl ([.ref (ad 222), .int (6), .int (en)]) ++ List.replicate (4 - (lg_sl ([.ref (ad 222), .int (6), .int (en)])).length) Slot.unset).toArray = ls at hl ⊢
  have hl : lv_has ls 4 [(0, .ref (ad 222)), (1, .int (6)), (2, .int (en))] := hl
  have hZ9 := hT.2.1
  have hbd9 := hRX.1.1.1
  have hfr0 : ∀ i, 19 ≤ i ∧ i < 222 → mem i = mem i := fun _ _ => rfl
  obtain ⟨ft1, h9_2⟩ := hRX.2.1
  have h1_3 : mem 1 = .inr (0, [.ref (ad 2), .int (nI Z)]) := (hRX.1.2.2 1 (by omega)).trans hT.1
  have h2_4 : mem 2 = .inl (cy 0, 240, .inl f) := (hRX.1.2.2 2 (by omega)).trans hT.2.2
  have h5_5 := hRX.1.1.2.1
  have hbd11 := hRX.1.1.1
  obtain ⟨S6, g7, hS_8, h220_9, h221_10⟩ := hRX.1.1.2.2.2.2.2.2
  refine lv_aload_n Bx.1 Bx.2.1 d_Rd_readBracket_0 rfl (lv_at hl 0 rfl) ?_
  refine lv_iload_n Bx.1 Bx.2.1 d_Rd_readBracket_1 rfl (lv_at hl 1 rfl) ?_
  refine lv_bipush (v := 6) Bx.1 Bx.2.1 d_Rd_readBracket_2 (by decide) ?_
  refine lv_icmp_ge Bx.1 Bx.2.1 d_Rd_readBracket_4 rfl (fun hb12 => ?_) (fun hb12 => ?_)
  · refine lv_iconst (v := 0) Bx.1 Bx.2.1 d_Rd_readBracket_11 (by decide) ?_
    refine lv_aload_n Bx.1 Bx.2.1 d_Rd_readBracket_12 rfl (lv_at hl 0 rfl) ?_
    refine f_get Bx hP (by omega) h9_2 rfl inRd 2 (by decide) kw_146 rfl rfl d_Rd_readBracket_13 ?_
    refine f_xVv (na := 2) (As := [.int (0), .int (nI a)]) (rest := []) Bx hml E hP hD hS (by omega) h9_2 rfl (m_Rd_needRoomX l hlt hn hT hf hRX (by omega)) kw_383 kw_385 sel_Rd_needRoom kw_6 kw_386 (by decide +kernel) ⟨rfl, rfl⟩ ⟨Nat.le_of_ble_eq_true rfl, Nat.le_of_ble_eq_true rfl⟩ rfl hl.1 (Nat.le_of_ble_eq_true rfl) d_Rd_readBracket_16 ⟨Nat.le_of_ble_eq_true rfl, Nat.le_of_ble_eq_true rfl⟩ (fun X ce q9 memx H locs hx9 hP hS g1 g2 g3 => f_out hlocks hno hP hS g1 g2 g3 ⟨Nat.le_of_ble_eq_true rfl, Nat.le_of_ble_eq_true rfl⟩ ⟨hx9.1, trivial⟩) (fun mem14 H locs hq hP hS => ?_)
    have hD : va_D (Az sz) (fw n ad mem14) := fw_D hD
    obtain ⟨hqe, hg15⟩ := hq
    rw [hqe] at hP hD
    exact absurd rfl hg15
  · exact absurd hb12 (by decide)
theorem elA_lka {A : Ro} {E : Nat} {kd : Int32} (hA : LKa E A) : LKa (E + 1) (elA A E kd) := by
  intro k hk
  by_cases q : k < E
  · have hne : k ≠ E := by omega
    show lk (E + 1) k (upd (A 232) E (-1) k) ∧ lk (E + 1) k (upd (A 233) E (-1) k)
    rw [upd_ne hne, upd_ne hne]
    exact ⟨(hA k q).1.mono (by omega), (hA k q).2.mono (by omega)⟩
  · obtain rfl : k = E := by omega
    show lk (k + 1) k (upd (A 232) k (-1) k) ∧ lk (k + 1) k (upd (A 233) k (-1) k)
    rw [upd_self, upd_self]
    exact ⟨Or.inl rfl, Or.inl rfl⟩
theorem rdsEq {cy : Nat → ClassId} {ad : Nat → Nat} {T : Nat → Int32} {Z j : Nat} {o o2 : Option Cg} {sl : Nat × Bool} {R Ec S u : Nat} {A Bw : Ro} {k' a' u' R' E' S' : Nat} {A' Bw' : Ro} {nm' : Nat → Int64} {mem' : Nat → va_E} (h : RDS cy ad T Z j o sl R Ec S u A Bw k' a' u' R' E' S' A' Bw' nm' mem') (e : o2 = o) : RDS cy ad T Z j o2 sl R Ec S u A Bw k' a' u' R' E' S' A' Bw' nm' mem' := by
  subst e
  exact h
set_option maxHeartbeats 4000000 in
set_option maxRecDepth 100000 in
theorem m_Rd_readOption_6Y (l : Launch) {D : va_G} {cy : Nat → ClassId} {sz n : Nat} {ad : Nat → Nat} {mem : Nat → va_E} {Z a R Ec lim : Nat} {f T : Nat → Int32} {to : Nat → Int32} {nm : Nat → Int64} {m0 : Nat → va_E} {u S : Nat} {A Bw : Ro} (hlt : l.stackTraces = false) (hn : 224 ≤ n) (hT : TX cy ad Z f m0) (hf : ∀ k, k < Z → f k = T k) (hRX : RX cy ad lim a R Ec to nm m0 mem) (haB : a ≤ 300) (hER : ER ad R Ec Bw mem) (hSR : SR cy ad S Bw mem) (hSa : S ≤ a) (haZ : a < Z) (hLK : LKa Ec A) (hF : FRM A 6 Ec) (c91 : hereF Z T a = 91) : NXr l D cy sz n ad y_Rd_readOption c_Rd_readOption 3 (some (.object "AbnfChart$Element")) ({ frames := 15, cells := 1, slots := 6, locals := 343 } : Room) mem [.ref (ad 222), .int (6)] (fun r mem' => False) (fun X mem' => ((X = cIA ∨ X = cIS) ∧ ∃ rc' ec' : Nat, RS cy ad lim rc' ec' m0 mem') ∧ (True)) := by
  refine vx_ofW (cc := c_Rd_readOption) (maxL := 3) (ret := (some (.object "AbnfChart$Element"))) (by decide) rfl ?_
  intro p e s m args below meth c s₁ B hml hno hv
  obtain ⟨rfl, E, hP, hD⟩ := hv
  have hx := B.exec
  have hb := B.bytes
  have hr := B.returns
  have hlocks := B.notSynchronized
  have Bx : MB p s m [.ref (ad 222), .int (6)].toArray c c_Rd_readOption "AbnfChart$Reader" D cy := ⟨hx, hb, tb_all (atoms_spec B.pre) E.2.1, findClass_of_methodNamed B.named, E.1⟩
  have hS : va_S (Az sz) s.heap s.heap [] := va_S.rf
  have hl := lv_entry ([.ref (ad 222), .int (6)]) (n := 3) (Nat.le_of_ble_eq_true rfl)
  rw [lg_entry_eq]
  generalize (lg_sl ([.ref (ad 222), .int (6)]) ++ List.replicate (3 - (lg_sl ([.ref (ad 222), .int (6)])).length) Slot.unset).toArray = ls at hl ⊢
  have hl : lv_has ls 3 [(0, .ref (ad 222)), (1, .int (6))] := hl
  have hZ9 := hT.2.1
  have hbd9 := hRX.1.1.1
  have hfr0 : ∀ i, 19 ≤ i ∧ i < 222 ∧ i ≠ 20 + 2 * Ec → mem i = mem i := fun _ _ => rfl
  obtain ⟨ft1, h9_2⟩ := hRX.2.1
  have h1_3 : mem 1 = .inr (0, [.ref (ad 2), .int (nI Z)]) := (hRX.1.2.2 1 (by omega)).trans hT.1
  have h2_4 : mem 2 = .inl (cy 0, 240, .inl f) := (hRX.1.2.2 2 (by omega)).trans hT.2.2
  have h5_5 := hRX.1.1.2.1
  have hbd11 := hRX.1.1.1
  obtain ⟨S6, g7, hS_8, h220_9, h221_10⟩ := hRX.1.1.2.2.2.2.2.2
  refine lv_aload_n Bx.1 Bx.2.1 d_Rd_readOption_0 rfl (lv_at hl 0 rfl) ?_
  refine lv_iconst (v := 3) Bx.1 Bx.2.1 d_Rd_readOption_1 (by decide) ?_
  refine lv_aload_n Bx.1 Bx.2.1 d_Rd_readOption_2 rfl (lv_at hl 0 rfl) ?_
  refine f_get Bx hP (by omega) h9_2 rfl inRd 2 (by decide) kw_146 rfl rfl d_Rd_readOption_3 ?_
  refine f_xVr (na := 2) (As := [.int (3), .int (nI a)]) (rest := []) Bx hml E hP hD hS (by omega) h9_2 rfl (m_Rd_addElementY l hlt hn hT hf hRX (by omega)) kw_419 kw_421 sel_Rd_addElement kw_6 kw_422 (by decide +kernel) ⟨rfl, rfl⟩ ⟨Nat.le_of_ble_eq_true rfl, Nat.le_of_ble_eq_true rfl⟩ rfl hl.1 (Nat.le_of_ble_eq_true rfl) d_Rd_readOption_6 ⟨Nat.le_of_ble_eq_true rfl, Nat.le_of_ble_eq_true rfl⟩ (fun X ce q9 memx H locs hx9 hP hS g1 g2 g3 => f_out hlocks hno hP hS g1 g2 g3 ⟨Nat.le_of_ble_eq_true rfl, Nat.le_of_ble_eq_true rfl⟩ ⟨hx9.1, trivial⟩) (fun r12 mem13 H locs hq hP hS => ?_)
  have hD : va_D (Az sz) (fw n ad mem13) := fw_D hD
  obtain ⟨hr914, hec15, hRX16, hcl17, hfa18⟩ := hq
  subst hr914
  have hfr19 : ∀ i, 19 ≤ i ∧ i < 222 ∧ i ≠ 20 + 2 * Ec → mem13 i = mem i := fun i q => (hfa18 i (by omega)).trans (hfr0 i q)
  obtain ⟨ft20, h9_21⟩ := hRX16.2.1
  have h1_22 : mem13 1 = .inr (0, [.ref (ad 2), .int (nI Z)]) := (hRX16.1.2.2 1 (by omega)).trans hT.1
  have h2_23 : mem13 2 = .inl (cy 0, 240, .inl f) := (hRX16.1.2.2 2 (by omega)).trans hT.2.2
  have h5_24 := hRX16.1.1.2.1
  have hbd30 := hRX16.1.1.1
  obtain ⟨S25, g26, hS_27, h220_28, h221_29⟩ := hRX16.1.1.2.2.2.2.2.2
  obtain ⟨ft31, h9_32⟩ := hRX16.2.1
  have h1_33 : mem13 1 = .inr (0, [.ref (ad 2), .int (nI Z)]) := (hRX16.1.2.2 1 (by omega)).trans hT.1
  have h2_34 : mem13 2 = .inl (cy 0, 240, .inl f) := (hRX16.1.2.2 2 (by omega)).trans hT.2.2
  have h5_35 := hRX16.1.1.2.1
  have hbd41 := hRX16.1.1.1
  obtain ⟨S36, g37, hS_38, h220_39, h221_40⟩ := hRX16.1.1.2.2.2.2.2.2
  refine lv_astore_n (lv' := [(2, .ref (ad (20 + 2 * Ec))), (0, .ref (ad 222)), (1, .int (6))]) Bx.1 Bx.2.1 d_Rd_readOption_9 rfl hl (by decide) rfl (fun ls hl => ?_)
  refine lv_aload_n Bx.1 Bx.2.1 d_Rd_readOption_10 rfl (lv_at hl 0 rfl) ?_
  refine lv_aload_n Bx.1 Bx.2.1 d_Rd_readOption_11 rfl (lv_at hl 1 rfl) ?_
  refine lv_iload_n Bx.1 Bx.2.1 d_Rd_readOption_12 rfl (lv_at hl 2 rfl) ?_
  refine lv_bipush (v := 93) Bx.1 Bx.2.1 d_Rd_readOption_13 (by decide) ?_
  have her42 : ER ad R (Ec + 1) (bwN Bw Ec 3 (0) (0) (-1) (-1) (-1) (Bw 234)) mem13 := hER.new (Nat.le_refl _) (by rw [vR_m]; exact hcl17) (Or.inl rfl) (fun i9 hi9 => hfr19 (20 + 2 * i9) (by omega))
  have hsr43 : SR cy ad S (bwN Bw Ec 3 (0) (0) (-1) (-1) (-1) (Bw 234)) mem13 := ⟨(hfr19 220 (by omega)).trans hSR.1, (hfr19 221 (by omega)).trans hSR.2⟩
  refine f_xVr (na := 2) (As := [.int (6), .int (93)]) (rest := [.ref (ad (20 + 2 * Ec))]) Bx hml E hP hD hS (by omega) h9_32 rfl (m_Rd_readBracket_6Y l hlt hn hT hf hRX16 (by omega) (u := u) (A := elA A Ec 3) (what := 2) (oe := 0) her42 hsr43 (by omega) (by omega) (Or.inr ⟨rfl, rfl⟩) (elA_lka hLK)) kw_447 kw_449 sel_Rd_readBracket kw_6 kw_450 (by decide +kernel) ⟨rfl, rfl⟩ ⟨Nat.le_of_ble_eq_true rfl, Nat.le_of_ble_eq_true rfl⟩ rfl hl.1 (Nat.le_of_ble_eq_true rfl) d_Rd_readOption_15 ⟨Nat.le_of_ble_eq_true rfl, Nat.le_of_ble_eq_true rfl⟩ (fun X ce q9 memx H locs hx9 hP hS g1 g2 g3 => f_out hlocks hno hP hS g1 g2 g3 ⟨Nat.le_of_ble_eq_true rfl, Nat.le_of_ble_eq_true rfl⟩ ⟨hx9.1, trivial⟩) (fun r44 mem45 H locs hq hP hS => ?_)
  have hD : va_D (Az sz) (fw n ad mem45) := fw_D hD
  exact hq.elim
set_option maxHeartbeats 4000000 in
set_option maxRecDepth 100000 in
theorem m_Rd_readElement_6Y (l : Launch) {D : va_G} {cy : Nat → ClassId} {sz n : Nat} {ad : Nat → Nat} {mem : Nat → va_E} {Z a R Ec lim : Nat} {f T : Nat → Int32} {to : Nat → Int32} {nm : Nat → Int64} {m0 : Nat → va_E} {u S : Nat} {A Bw : Ro} (hlt : l.stackTraces = false) (hn : 224 ≤ n) (hT : TX cy ad Z f m0) (hf : ∀ k, k < Z → f k = T k) (hRX : RX cy ad lim a R Ec to nm m0 mem) (haB : a ≤ 300) (hER : ER ad R Ec Bw mem) (hSR : SR cy ad S Bw mem) (hSa : S ≤ a) (haZ : a ≤ Z) (hLK : LKa Ec A) (hF : FRM A 6 Ec) : NXr l D cy sz n ad y_Rd_readElement c_Rd_readElement 2 (some (.object "AbnfChart$Element")) ({ frames := 16, cells := 1, slots := 6, locals := 366 } : Room) mem [.ref (ad 222), .int (6)] (fun r mem' => ∃ (k' a' u' R' E' S' : Nat) (A' Bw' : Ro) (nm' : Nat → Int64) (to' : Nat → Int32), r = ad (20 + 2 * k') ∧ Ec ≤ k' ∧ k' < E' ∧ R ≤ R' ∧ a < a' ∧ a' ≤ Z ∧ TOK R R' to to' ∧ RX cy ad lim a' R' E' to' nm' m0 mem' ∧ RDS cy ad T Z 6 (singS T Z a u R Ec 6 A nm) (PSf A 6) R Ec S u A Bw k' a' u' R' E' S' A' Bw' nm' mem' ∧ A' 238 6 = A 238 6 ∧ OKc (hereF Z T a)) (fun X mem' => ((X = cIA ∨ X = cIS) ∧ ∃ rc' ec' : Nat, RS cy ad lim rc' ec' m0 mem') ∧ (Fai T Z (singS T Z a u R Ec 6 A nm) ∨ ¬ OKc (hereF Z T a))) := by
  refine vx_ofW (cc := c_Rd_readElement) (maxL := 2) (ret := (some (.object "AbnfChart$Element"))) (by decide) rfl ?_
  intro p e s m args below meth c s₁ B hml hno hv
  obtain ⟨rfl, E, hP, hD⟩ := hv
  have hx := B.exec
  have hb := B.bytes
  have hr := B.returns
  have hlocks := B.notSynchronized
  have Bx : MB p s m [.ref (ad 222), .int (6)].toArray c c_Rd_readElement "AbnfChart$Reader" D cy := ⟨hx, hb, tb_all (atoms_spec B.pre) E.2.1, findClass_of_methodNamed B.named, E.1⟩
  have hS : va_S (Az sz) s.heap s.heap [] := va_S.rf
  have hl := lv_entry ([.ref (ad 222), .int (6)]) (n := 2) (Nat.le_of_ble_eq_true rfl)
  rw [lg_entry_eq]
  generalize (lg_sl ([.ref (ad 222), .int (6)]) ++ List.replicate (2 - (lg_sl ([.ref (ad 222), .int (6)])).length) Slot.unset).toArray = ls at hl ⊢
  have hl : lv_has ls 2 [(0, .ref (ad 222)), (1, .int (6))] := hl
  have hZ9 := hT.2.1
  have hbd9 := hRX.1.1.1
  have hfr0 : ∀ i, 19 ≤ i ∧ i < 222 ∧ i ≠ 20 + 2 * Ec → mem i = mem i := fun _ _ => rfl
  obtain ⟨ft1, h9_2⟩ := hRX.2.1
  have h1_3 : mem 1 = .inr (0, [.ref (ad 2), .int (nI Z)]) := (hRX.1.2.2 1 (by omega)).trans hT.1
  have h2_4 : mem 2 = .inl (cy 0, 240, .inl f) := (hRX.1.2.2 2 (by omega)).trans hT.2.2
  have h5_5 := hRX.1.1.2.1
  have hbd11 := hRX.1.1.1
  obtain ⟨S6, g7, hS_8, h220_9, h221_10⟩ := hRX.1.1.2.2.2.2.2.2
  refine lv_aload_n Bx.1 Bx.2.1 d_Rd_readElement_0 rfl (lv_at hl 0 rfl) ?_
  refine f_callVi (na := 0) (As := []) (rest := []) Bx hml E hP hD hS (by omega) h9_2 rfl (m_Rd_peekX l hn hT hf hRX (by omega)) kw_353 kw_355 sel_Rd_peek kw_6 kw_356 (by decide +kernel) ⟨rfl, rfl⟩ ⟨Nat.le_of_ble_eq_true rfl, Nat.le_of_ble_eq_true rfl⟩ rfl hl.1 (Nat.le_of_ble_eq_true rfl) d_Rd_readElement_1 ⟨Nat.le_of_ble_eq_true rfl, Nat.le_of_ble_eq_true rfl⟩ (fun r13 mem14 H locs hq hP hS => ?_)
  have hD : va_D (Az sz) (fw n ad mem14) := fw_D hD
  obtain ⟨hqe, hpk12⟩ := hq
  rw [hqe] at hP hD
  subst hpk12
  refine lv_topi (fun v16 e_v16 => ?_)
  by_cases c34 : v16 = 34
  · rw [c34]
    refine lv_lookup (off := 58) (tgt := 62) Bx.1 Bx.2.1 d_Rd_readElement_4 (by decide) (by decide) rfl ?_
    rw [e_v16] at c34
    have hlt34 := hereF_lt (show hereF Z T (a) ≠ -1 by rw [c34]; decide)
    refine lv_aload_n Bx.1 Bx.2.1 d_Rd_readElement_62 rfl (lv_at hl 0 rfl) ?_
    refine lv_aload_n Bx.1 Bx.2.1 d_Rd_readElement_63 rfl (lv_at hl 0 rfl) ?_
    refine f_get Bx hP (by omega) h9_2 rfl inRd 2 (by decide) kw_146 rfl rfl d_Rd_readElement_64 ?_
    refine lv_iconst (v := 5) Bx.1 Bx.2.1 d_Rd_readElement_67 (by decide) ?_
    refine f_xVr (na := 2) (As := [.int (nI a), .int (5)]) (rest := []) Bx hml E hP hD hS (by omega) h9_2 rfl (m_Rd_readStringY l hlt hn hT hf hRX (by omega) hSR.1 hSR.2 (by omega) hSa) kw_455 kw_457 sel_Rd_readString kw_6 kw_458 (by decide +kernel) ⟨rfl, rfl⟩ ⟨Nat.le_of_ble_eq_true rfl, Nat.le_of_ble_eq_true rfl⟩ rfl hl.1 (Nat.le_of_ble_eq_true rfl) d_Rd_readElement_68 ⟨Nat.le_of_ble_eq_true rfl, Nat.le_of_ble_eq_true rfl⟩ (fun X ce q9 memx H locs hx9 hP hS g1 g2 g3 => f_out hlocks hno hP hS g1 g2 g3 ⟨Nat.le_of_ble_eq_true rfl, Nat.le_of_ble_eq_true rfl⟩ ⟨hx9.1, Or.inl (fai_str c34 hx9.2 hbd9.2.1)⟩) (fun r17 mem18 H locs hq hP hS => ?_)
    have hD : va_D (Az sz) (fw n ad mem18) := fw_D hD
    obtain ⟨hE9, hq9, hr2, hle9, hRX2, hcl2, ⟨s9, hs0, hs1, hs2, hs3⟩, hfr2⟩ := hq
    subst hr2
    obtain ⟨A2, B2, hrd2, h82⟩ := rds_str (j := 6) (u := u) (nm := nm) c34 hE9 hq9 hLK hF hER hcl2 hs0 hs1 hs2 hs3 (fun k hk => hfr2 (20 + 2 * k) (by omega)) hSa
    exact x_aret hx hb hlocks hr (⟨Ec, _, _, R, Ec + 1, _, A2, B2, nm, to, rfl, by omega, by omega, by omega, by omega, hle9, TOK.of rfl, hRX2, hrd2, h82, (l34 c34).2.2.2⟩) hP hS d_Rd_readElement_71
  by_cases c37 : v16 = 37
  · rw [c37]
    refine lv_lookup (off := 68) (tgt := 72) Bx.1 Bx.2.1 d_Rd_readElement_4 (by decide) (by decide) rfl ?_
    rw [e_v16] at c37
    have hlt37 := hereF_lt (show hereF Z T (a) ≠ -1 by rw [c37]; decide)
    refine lv_aload_n Bx.1 Bx.2.1 d_Rd_readElement_72 rfl (lv_at hl 0 rfl) ?_
    refine f_get Bx hP (by omega) h9_2 rfl inRd 0 (by decide) kw_144 rfl rfl d_Rd_readElement_73 ?_
    refine lv_aload_n Bx.1 Bx.2.1 d_Rd_readElement_76 rfl (lv_at hl 0 rfl) ?_
    refine f_get Bx hP (by omega) h9_2 rfl inRd 2 (by decide) kw_146 rfl rfl d_Rd_readElement_77 ?_
    refine lv_iconst (v := 1) Bx.1 Bx.2.1 d_Rd_readElement_80 (by decide) ?_
    refine lv_iadd Bx.1 Bx.2.1 d_Rd_readElement_81 ?_
    rw [show nI a + 1 = nI (a + 1) from nI_add (a) (1)]
    refine f_callVi (na := 1) (As := [.int (nI (a + 1))]) (rest := []) Bx hml E hP hD hS (by omega) h1_3 rfl (m_Ch_codeAt l (by omega) h1_3 (by omega) h2_4 (by rw [nI_toInt (by omega)]; omega)) kw_341 kw_342 kw_343 kw_2 kw_344 (by decide +kernel) ⟨rfl, rfl⟩ ⟨Nat.le_of_ble_eq_true rfl, Nat.le_of_ble_eq_true rfl⟩ rfl hl.1 (Nat.le_of_ble_eq_true rfl) d_Rd_readElement_82 ⟨Nat.le_of_ble_eq_true rfl, Nat.le_of_ble_eq_true rfl⟩ (fun r19 mem20 H locs hq hP hS => ?_)
    have hD : va_D (Az sz) (fw n ad mem20) := fw_D hD
    obtain ⟨hco21, hqe⟩ := hq
    rw [hqe] at hP hD
    rw [code_here hf hT.2.1 (k := a + 1) (by omega)] at hco21
    subst hco21
    refine f_callSNi (na := 1) (As := [.int (hereF Z T (a + 1))]) (rest := []) Bx hml E.2.1 (m_Ab_smallOfX l (hereF Z T (a + 1))) kw_372 kw_373 kw_1 kw_374 (by decide +kernel) ⟨rfl, rfl⟩ ⟨Nat.le_of_ble_eq_true rfl, Nat.le_of_ble_eq_true rfl⟩ rfl hl.1 (Nat.le_of_ble_eq_true rfl) d_Rd_readElement_85 ⟨Nat.le_of_ble_eq_true rfl, Nat.le_of_ble_eq_true rfl⟩ (fun r23 hs22 => ?_)
    subst hs22
    refine lv_bipush (v := 115) Bx.1 Bx.2.1 d_Rd_readElement_88 (by decide) ?_
    refine lv_icmp_ne Bx.1 Bx.2.1 d_Rd_readElement_90 rfl (fun hb24 => ?_) (fun hb24 => ?_)
    · refine lv_aload_n Bx.1 Bx.2.1 d_Rd_readElement_100 rfl (lv_at hl 0 rfl) ?_
      refine f_xVr (na := 0) (As := []) (rest := []) Bx hml E hP hD hS (by omega) h9_2 rfl (m_Rd_readValueY l hlt hn hT hf hRX (by omega) (u8 := u) (e8 := Ec) (A0 := va_up (elA A Ec 4) 231 (upd (elA A Ec 4 231) Ec (vp_nar .boolean 1))) hSR.1 hSR.2 (by omega) hSa) kw_467 kw_469 sel_Rd_readValue kw_6 kw_470 (by decide +kernel) ⟨rfl, rfl⟩ ⟨Nat.le_of_ble_eq_true rfl, Nat.le_of_ble_eq_true rfl⟩ rfl hl.1 (Nat.le_of_ble_eq_true rfl) d_Rd_readElement_101 ⟨Nat.le_of_ble_eq_true rfl, Nat.le_of_ble_eq_true rfl⟩ (fun X ce q9 memx H locs hx9 hP hS g1 g2 g3 => f_out hlocks hno hP hS g1 g2 g3 ⟨Nat.le_of_ble_eq_true rfl, Nat.le_of_ble_eq_true rfl⟩ ⟨hx9.1, Or.inl (fai_val c37 hb24 hx9.2 hbd9.2.1)⟩) (fun r25 mem26 H locs hq hP hS => ?_)
      have hD : va_D (Az sz) (fw n ad mem26) := fw_D hD
      obtain ⟨hE9, ba, a2, u2, A1, hba, hn9, hr2, x1, x2, hRX2, hsp2, hc2, hfr2⟩ := hq
      subst hr2
      obtain ⟨S2, A2, B2, hrd2, h82⟩ := rds_val (j := 6) (nm := nm) c37 hba hE9 hn9 hsp2 hLK hF hER (fun k hk => hfr2 (20 + 2 * k) (by omega)) hSa x1 hc2
      exact x_aret hx hb hlocks hr (⟨Ec, a2, u2, R, Ec + 1, S2, A2, B2, nm, to, rfl, by omega, by omega, by omega, x1, x2, TOK.of rfl, hRX2, hrd2, h82, (l37 c37).2.2.2.2⟩) hP hS d_Rd_readElement_104
    · refine lv_aload_n Bx.1 Bx.2.1 d_Rd_readElement_93 rfl (lv_at hl 0 rfl) ?_
      refine f_xVr (na := 0) (As := []) (rest := []) Bx hml E hP hD hS (by omega) h9_2 rfl (m_Rd_readExactStringY l hlt hn hT hf hRX (by omega) hSR.1 hSR.2 (by omega) hSa) kw_463 kw_465 sel_Rd_readExactString kw_6 kw_466 (by decide +kernel) ⟨rfl, rfl⟩ ⟨Nat.le_of_ble_eq_true rfl, Nat.le_of_ble_eq_true rfl⟩ rfl hl.1 (Nat.le_of_ble_eq_true rfl) d_Rd_readElement_94 ⟨Nat.le_of_ble_eq_true rfl, Nat.le_of_ble_eq_true rfl⟩ (fun X ce q9 memx H locs hx9 hP hS g1 g2 g3 => f_out hlocks hno hP hS g1 g2 g3 ⟨Nat.le_of_ble_eq_true rfl, Nat.le_of_ble_eq_true rfl⟩ ⟨hx9.1, Or.inl (fai_xst c37 hb24 hx9.2 hbd9.2.1)⟩) (fun r27 mem28 H locs hq hP hS => ?_)
      have hD : va_D (Az sz) (fw n ad mem28) := fw_D hD
      obtain ⟨hq8, hE9, hq9, hr2, hle9, hRX2, hcl2, ⟨s9, hs0, hs1, hs2, hs3⟩, hfr2⟩ := hq
      subst hr2
      obtain ⟨A2, B2, hrd2, h82⟩ := rds_xst (j := 6) (u := u) (nm := nm) c37 hb24 hq8 hE9 hq9 hLK hF hER hcl2 hs0 hs1 hs2 hs3 (fun k hk => hfr2 (20 + 2 * k) (by omega)) hSa
      refine lv_goto Bx.1 Bx.2.1 d_Rd_readElement_97 rfl ?_
      exact x_aret hx hb hlocks hr (⟨Ec, _, _, R, Ec + 1, _, A2, B2, nm, to, rfl, by omega, by omega, by omega, by omega, hle9, TOK.of rfl, hRX2, hrd2, h82, (l37 c37).2.2.2.2⟩) hP hS d_Rd_readElement_104
  by_cases c40 : v16 = 40
  · rw [c40]
    refine lv_lookup (off := 44) (tgt := 48) Bx.1 Bx.2.1 d_Rd_readElement_4 (by decide) (by decide) rfl ?_
    rw [e_v16] at c40
    have hlt40 := hereF_lt (show hereF Z T (a) ≠ -1 by rw [c40]; decide)
    refine lv_aload_n Bx.1 Bx.2.1 d_Rd_readElement_48 rfl (lv_at hl 0 rfl) ?_
    refine lv_iload_n Bx.1 Bx.2.1 d_Rd_readElement_49 rfl (lv_at hl 1 rfl) ?_
    refine lv_bipush (v := 41) Bx.1 Bx.2.1 d_Rd_readElement_50 (by decide) ?_
    refine f_xVr (na := 2) (As := [.int (6), .int (41)]) (rest := []) Bx hml E hP hD hS (by omega) h9_2 rfl (m_Rd_readBracket_6Y l hlt hn hT hf hRX (by omega) (u := u) (A := A) (what := 1) (oe := -1) hER hSR hSa (by omega) (Or.inl ⟨rfl, rfl⟩) hLK) kw_447 kw_449 sel_Rd_readBracket kw_6 kw_450 (by decide +kernel) ⟨rfl, rfl⟩ ⟨Nat.le_of_ble_eq_true rfl, Nat.le_of_ble_eq_true rfl⟩ rfl hl.1 (Nat.le_of_ble_eq_true rfl) d_Rd_readElement_52 ⟨Nat.le_of_ble_eq_true rfl, Nat.le_of_ble_eq_true rfl⟩ (fun X ce q9 memx H locs hx9 hP hS g1 g2 g3 => f_out hlocks hno hP hS g1 g2 g3 ⟨Nat.le_of_ble_eq_true rfl, Nat.le_of_ble_eq_true rfl⟩ ⟨hx9.1, Or.inl (Or.inl (sing_b0 (l40 c40).1 c40 (by omega)))⟩) (fun r29 mem30 H locs hq hP hS => ?_)
    have hD : va_D (Az sz) (fw n ad mem30) := fw_D hD
    exact hq.elim
  by_cases c91 : v16 = 91
  · rw [c91]
    refine lv_lookup (off := 52) (tgt := 56) Bx.1 Bx.2.1 d_Rd_readElement_4 (by decide) (by decide) rfl ?_
    rw [e_v16] at c91
    have hlt91 := hereF_lt (show hereF Z T (a) ≠ -1 by rw [c91]; decide)
    refine lv_aload_n Bx.1 Bx.2.1 d_Rd_readElement_56 rfl (lv_at hl 0 rfl) ?_
    refine lv_iload_n Bx.1 Bx.2.1 d_Rd_readElement_57 rfl (lv_at hl 1 rfl) ?_
    refine f_xVr (na := 1) (As := [.int (6)]) (rest := []) Bx hml E hP hD hS (by omega) h9_2 rfl (m_Rd_readOption_6Y l hlt hn hT hf hRX (by omega) (u := u) (A := A) hER hSR hSa (by omega) hLK hF c91) kw_451 kw_453 sel_Rd_readOption kw_6 kw_454 (by decide +kernel) ⟨rfl, rfl⟩ ⟨Nat.le_of_ble_eq_true rfl, Nat.le_of_ble_eq_true rfl⟩ rfl hl.1 (Nat.le_of_ble_eq_true rfl) d_Rd_readElement_58 ⟨Nat.le_of_ble_eq_true rfl, Nat.le_of_ble_eq_true rfl⟩ (fun X ce q9 memx H locs hx9 hP hS g1 g2 g3 => f_out hlocks hno hP hS g1 g2 g3 ⟨Nat.le_of_ble_eq_true rfl, Nat.le_of_ble_eq_true rfl⟩ ⟨hx9.1, Or.inl (Or.inl (sing_o0 (l91 c91).1 c91 (by omega)))⟩) (fun r31 mem32 H locs hq hP hS => ?_)
    have hD : va_D (Az sz) (fw n ad mem32) := fw_D hD
    exact hq.elim
  refine lv_lookup (off := 101) (tgt := 105) Bx.1 Bx.2.1 d_Rd_readElement_4 (by decide) (by show Op.lookupswitch.offset [(34, 58), (37, 68), (40, 44), (91, 52)] 101 (v16).toInt = 101; rw [lv_osw c34 (by decide), lv_osw c37 (by decide), lv_osw c40 (by decide), lv_osw c91 (by decide)]; rfl) rfl ?_
  rw [e_v16] at c40 c91 c34 c37
  refine lv_aload_n Bx.1 Bx.2.1 d_Rd_readElement_105 rfl (lv_at hl 0 rfl) ?_
  refine f_xVr (na := 0) (As := []) (rest := []) Bx hml E hP hD hS (by omega) h9_2 rfl (m_Rd_readAskedNameY l hlt hn hT hf hRX (by omega) (A := A) (by omega)) kw_478 kw_480 sel_Rd_readAskedName kw_6 kw_481 (by decide +kernel) ⟨rfl, rfl⟩ ⟨Nat.le_of_ble_eq_true rfl, Nat.le_of_ble_eq_true rfl⟩ rfl hl.1 (Nat.le_of_ble_eq_true rfl) d_Rd_readElement_106 ⟨Nat.le_of_ble_eq_true rfl, Nat.le_of_ble_eq_true rfl⟩ (fun X ce q9 memx H locs hx9 hP hS g1 g2 g3 => f_out hlocks hno hP hS g1 g2 g3 ⟨Nat.le_of_ble_eq_true rfl, Nat.le_of_ble_eq_true rfl⟩ ⟨hx9.1, fai_nam c40 c91 c34 c37 hx9.2⟩) (fun r33 mem34 H locs hq hP hS => ?_)
  have hD : va_D (Az sz) (fw n ad mem34) := fw_D hD
  obtain ⟨i9, a2, R2, A3, n2, hsn, hle, hE9, hr2, x1, x2, x3, hA3, htk, ⟨t2, htk2, hRX2⟩, hi9, hcl2, hfr2⟩ := hq
  subst hr2
  have hR12 := hRX2.1.1.1.1
  obtain ⟨A2, B2, hrd2, h82⟩ := rds_nam (j := 6) (u := u) hle hsn hE9 hA3 htk x1 hi9 hR12 hLK hF hER ⟨(hfr2 220 (by omega)).trans hSR.1, (hfr2 221 (by omega)).trans hSR.2⟩ hcl2 (fun k hk => hfr2 (20 + 2 * k) (by omega)) (by omega)
  exact x_aret hx hb hlocks hr (⟨Ec, a2, u, R2, Ec + 1, S, A2, B2, n2, t2, rfl, by omega, by omega, x1, x2, x3, htk2, hRX2, hrd2, h82, lt_ok hle⟩) hP hS d_Rd_readElement_109
set_option maxHeartbeats 4000000 in
set_option maxRecDepth 100000 in
theorem m_Rd_readRepetition_6Y (l : Launch) {D : va_G} {cy : Nat → ClassId} {sz n : Nat} {ad : Nat → Nat} {mem : Nat → va_E} {Z a R Ec lim : Nat} {f T : Nat → Int32} {to : Nat → Int32} {nm : Nat → Int64} {m0 : Nat → va_E} {u S : Nat} {A Bw : Ro} (hlt : l.stackTraces = false) (hn : 224 ≤ n) (hT : TX cy ad Z f m0) (hf : ∀ k, k < Z → f k = T k) (hRX : RX cy ad lim a R Ec to nm m0 mem) (haB : a ≤ 300) (hER : ER ad R Ec Bw mem) (hSR : SR cy ad S Bw mem) (hSa : S ≤ a) (haZ : a ≤ Z) (hLK : LKa Ec A) (hF : FRM A 6 Ec) (h39 : A 239 6 = -1) (hbg : bgF (hereF Z T a) = true) : NXr l D cy sz n ad y_Rd_readRepetition c_Rd_readRepetition 3 (some (.object "AbnfChart$Element")) ({ frames := 17, cells := 1, slots := 6, locals := 388 } : Room) mem [.ref (ad 222), .int (6)] (fun r mem' => ∃ (k' a' u' R' E' S' : Nat) (A' Bw' : Ro) (nm' : Nat → Int64) (to' : Nat → Int32), r = ad (20 + 2 * k') ∧ Ec ≤ k' ∧ k' < E' ∧ R ≤ R' ∧ a < a' ∧ a' ≤ Z ∧ TOK R R' to to' ∧ RX cy ad lim a' R' E' to' nm' m0 mem' ∧ RDS cy ad T Z 6 (repS T Z a u R Ec 6 A nm) (PSf A 6) R Ec S u A Bw k' a' u' R' E' S' A' Bw' nm' mem' ∧ A' 238 6 = A 238 6) (fun X mem' => ((X = cIA ∨ X = cIS) ∧ ∃ rc' ec' : Nat, RS cy ad lim rc' ec' m0 mem') ∧ (Fai T Z (repS T Z a u R Ec 6 A nm))) := by
  refine vx_ofW (cc := c_Rd_readRepetition) (maxL := 3) (ret := (some (.object "AbnfChart$Element"))) (by decide) rfl ?_
  intro p e s m args below meth c s₁ B hml hno hv
  obtain ⟨rfl, E, hP, hD⟩ := hv
  have hx := B.exec
  have hb := B.bytes
  have hr := B.returns
  have hlocks := B.notSynchronized
  have Bx : MB p s m [.ref (ad 222), .int (6)].toArray c c_Rd_readRepetition "AbnfChart$Reader" D cy := ⟨hx, hb, tb_all (atoms_spec B.pre) E.2.1, findClass_of_methodNamed B.named, E.1⟩
  have hS : va_S (Az sz) s.heap s.heap [] := va_S.rf
  have hl := lv_entry ([.ref (ad 222), .int (6)]) (n := 3) (Nat.le_of_ble_eq_true rfl)
  rw [lg_entry_eq]
  generalize (lg_sl ([.ref (ad 222), .int (6)]) ++ List.replicate (3 - (lg_sl ([.ref (ad 222), .int (6)])).length) Slot.unset).toArray = ls at hl ⊢
  have hl : lv_has ls 3 [(0, .ref (ad 222)), (1, .int (6))] := hl
  have hZ9 := hT.2.1
  have hbd9 := hRX.1.1.1
  have hfr0 : ∀ i, 19 ≤ i ∧ i < 222 ∧ i ≠ 20 + 2 * Ec → mem i = mem i := fun _ _ => rfl
  obtain ⟨ft1, h9_2⟩ := hRX.2.1
  have h1_3 : mem 1 = .inr (0, [.ref (ad 2), .int (nI Z)]) := (hRX.1.2.2 1 (by omega)).trans hT.1
  have h2_4 : mem 2 = .inl (cy 0, 240, .inl f) := (hRX.1.2.2 2 (by omega)).trans hT.2.2
  have h5_5 := hRX.1.1.2.1
  have hbd11 := hRX.1.1.1
  obtain ⟨S6, g7, hS_8, h220_9, h221_10⟩ := hRX.1.1.2.2.2.2.2.2
  refine lv_aload_n Bx.1 Bx.2.1 d_Rd_readRepetition_0 rfl (lv_at hl 0 rfl) ?_
  refine f_callVi (na := 0) (As := []) (rest := []) Bx hml E hP hD hS (by omega) h9_2 rfl (m_Rd_peekX l hn hT hf hRX (by omega)) kw_353 kw_355 sel_Rd_peek kw_6 kw_356 (by decide +kernel) ⟨rfl, rfl⟩ ⟨Nat.le_of_ble_eq_true rfl, Nat.le_of_ble_eq_true rfl⟩ rfl hl.1 (Nat.le_of_ble_eq_true rfl) d_Rd_readRepetition_1 ⟨Nat.le_of_ble_eq_true rfl, Nat.le_of_ble_eq_true rfl⟩ (fun r13 mem14 H locs hq hP hS => ?_)
  have hD : va_D (Az sz) (fw n ad mem14) := fw_D hD
  obtain ⟨hqe, hpk12⟩ := hq
  rw [hqe] at hP hD
  subst hpk12
  refine f_callSi (na := 1) (As := [.int (hereF Z T (a))]) (rest := []) Bx hml E.2.1 (m_Rd_beginsRepeatX l (hereF Z T (a))) kw_416 kw_417 kw_6 kw_418 (by decide +kernel) ⟨rfl, rfl⟩ ⟨Nat.le_of_ble_eq_true rfl, Nat.le_of_ble_eq_true rfl⟩ rfl hl.1 (Nat.le_of_ble_eq_true rfl) d_Rd_readRepetition_4 ⟨Nat.le_of_ble_eq_true rfl, Nat.le_of_ble_eq_true rfl⟩ (fun r17 hs16 => ?_)
  subst hs16
  refine lv_if_ne Bx.1 Bx.2.1 d_Rd_readRepetition_7 rfl (fun hb18 => ?_) (fun hb18 => ?_)
  · refine lv_aload_n Bx.1 Bx.2.1 d_Rd_readRepetition_16 rfl (lv_at hl 0 rfl) ?_
    refine lv_iconst (v := 2) Bx.1 Bx.2.1 d_Rd_readRepetition_17 (by decide) ?_
    refine lv_aload_n Bx.1 Bx.2.1 d_Rd_readRepetition_18 rfl (lv_at hl 0 rfl) ?_
    refine f_get Bx hP (by omega) h9_2 rfl inRd 2 (by decide) kw_146 rfl rfl d_Rd_readRepetition_19 ?_
    refine f_xVr (na := 2) (As := [.int (2), .int (nI a)]) (rest := []) Bx hml E hP hD hS (by omega) h9_2 rfl (m_Rd_addElementY l hlt hn hT hf hRX (by omega)) kw_419 kw_421 sel_Rd_addElement kw_6 kw_422 (by decide +kernel) ⟨rfl, rfl⟩ ⟨Nat.le_of_ble_eq_true rfl, Nat.le_of_ble_eq_true rfl⟩ rfl hl.1 (Nat.le_of_ble_eq_true rfl) d_Rd_readRepetition_22 ⟨Nat.le_of_ble_eq_true rfl, Nat.le_of_ble_eq_true rfl⟩ (fun X ce q9 memx H locs hx9 hP hS g1 g2 g3 => f_out hlocks hno hP hS g1 g2 g3 ⟨Nat.le_of_ble_eq_true rfl, Nat.le_of_ble_eq_true rfl⟩ ⟨hx9.1, Or.inl (rep_E (bpF_1 hb18) hx9.2)⟩) (fun r19 mem20 H locs hq hP hS => ?_)
    have hD : va_D (Az sz) (fw n ad mem20) := fw_D hD
    obtain ⟨hr921, hec22, hRX23, hcl24, hfa25⟩ := hq
    subst hr921
    have hfr26 : ∀ i, 19 ≤ i ∧ i < 222 ∧ i ≠ 20 + 2 * Ec → mem20 i = mem i := fun i q => (hfa25 i (by omega)).trans (hfr0 i q)
    obtain ⟨ft27, h9_28⟩ := hRX23.2.1
    have h1_29 : mem20 1 = .inr (0, [.ref (ad 2), .int (nI Z)]) := (hRX23.1.2.2 1 (by omega)).trans hT.1
    have h2_30 : mem20 2 = .inl (cy 0, 240, .inl f) := (hRX23.1.2.2 2 (by omega)).trans hT.2.2
    have h5_31 := hRX23.1.1.2.1
    have hbd37 := hRX23.1.1.1
    obtain ⟨S32, g33, hS_34, h220_35, h221_36⟩ := hRX23.1.1.2.2.2.2.2.2
    obtain ⟨ft38, h9_39⟩ := hRX23.2.1
    have h1_40 : mem20 1 = .inr (0, [.ref (ad 2), .int (nI Z)]) := (hRX23.1.2.2 1 (by omega)).trans hT.1
    have h2_41 : mem20 2 = .inl (cy 0, 240, .inl f) := (hRX23.1.2.2 2 (by omega)).trans hT.2.2
    have h5_42 := hRX23.1.1.2.1
    have hbd48 := hRX23.1.1.1
    obtain ⟨S43, g44, hS_45, h220_46, h221_47⟩ := hRX23.1.1.2.2.2.2.2.2
    refine lv_astore_n (lv' := [(2, .ref (ad (20 + 2 * Ec))), (0, .ref (ad 222)), (1, .int (6))]) Bx.1 Bx.2.1 d_Rd_readRepetition_25 rfl hl (by decide) rfl (fun ls hl => ?_)
    refine lv_aload_n Bx.1 Bx.2.1 d_Rd_readRepetition_26 rfl (lv_at hl 1 rfl) ?_
    refine lv_aload_n Bx.1 Bx.2.1 d_Rd_readRepetition_27 rfl (lv_at hl 0 rfl) ?_
    have hdg := bpF_1 hb18
    have hE9 := hec22
    refine f_xVv (na := 1) (As := [.ref (ad (20 + 2 * Ec))]) (rest := []) Bx hml E hP hD hS (by omega) h9_39 rfl (m_Rd_readRepeatY l hlt hn hT hf hRX23 (by omega) (by omega) hcl24 (by omega) hdg) kw_482 kw_484 sel_Rd_readRepeat kw_6 kw_485 (by decide +kernel) ⟨rfl, rfl⟩ ⟨Nat.le_of_ble_eq_true rfl, Nat.le_of_ble_eq_true rfl⟩ rfl hl.1 (Nat.le_of_ble_eq_true rfl) d_Rd_readRepetition_28 ⟨Nat.le_of_ble_eq_true rfl, Nat.le_of_ble_eq_true rfl⟩ (fun X ce q9 memx H locs hx9 hP hS g1 g2 g3 => f_out hlocks hno hP hS g1 g2 g3 ⟨Nat.le_of_ble_eq_true rfl, Nat.le_of_ble_eq_true rfl⟩ ⟨hx9.1, hx9.2.elim (fun v1 z => z.elim (fun b1 z => z.elim (fun v2 z => z.elim (fun b2 z => Or.inl (rep_bad hdg hE9 z.1 z.2.1 (Or.inl z.2.2))))))⟩) (fun mem50 H locs hq hP hS => ?_)
    have hD : va_D (Az sz) (fw n ad mem50) := fw_D hD
    obtain ⟨v1, b1, v2, b2, hr1, hr2, hnv, hb8, hb9, hRXr, hclr, hfar⟩ := hq
    have hfr51 : ∀ i, 19 ≤ i ∧ i < 222 ∧ i ≠ 20 + 2 * Ec → mem50 i = mem i := fun i q => (hfar i (by omega)).trans (hfr26 i q)
    obtain ⟨ft52, h9_53⟩ := hRXr.2.1
    have h1_54 : mem50 1 = .inr (0, [.ref (ad 2), .int (nI Z)]) := (hRXr.1.2.2 1 (by omega)).trans hT.1
    have h2_55 : mem50 2 = .inl (cy 0, 240, .inl f) := (hRXr.1.2.2 2 (by omega)).trans hT.2.2
    have h5_56 := hRXr.1.1.2.1
    have hbd62 := hRXr.1.1.1
    obtain ⟨S57, g58, hS_59, h220_60, h221_61⟩ := hRXr.1.1.2.2.2.2.2.2
    obtain ⟨ft63, h9_64⟩ := hRXr.2.1
    have h1_65 : mem50 1 = .inr (0, [.ref (ad 2), .int (nI Z)]) := (hRXr.1.2.2 1 (by omega)).trans hT.1
    have h2_66 : mem50 2 = .inl (cy 0, 240, .inl f) := (hRXr.1.2.2 2 (by omega)).trans hT.2.2
    have h5_67 := hRXr.1.1.2.1
    have hbd73 := hRXr.1.1.1
    obtain ⟨S68, g69, hS_70, h220_71, h221_72⟩ := hRXr.1.1.2.2.2.2.2.2
    refine lv_aload_n Bx.1 Bx.2.1 d_Rd_readRepetition_31 rfl (lv_at hl 0 rfl) ?_
    refine lv_aload_n Bx.1 Bx.2.1 d_Rd_readRepetition_32 rfl (lv_at hl 1 rfl) ?_
    refine lv_iload_n Bx.1 Bx.2.1 d_Rd_readRepetition_33 rfl (lv_at hl 2 rfl) ?_
    have her74 : ER ad R (Ec + 1) (bwN Bw Ec 2 (v1) (v2) (-1) (-1) (-1) (Bw 234)) mem50 := hER.new (Nat.le_refl _) (by rw [vR_m]; exact hclr) (Or.inl rfl) (fun i9 hi9 => hfr51 (20 + 2 * i9) (by omega))
    have hsr75 : SR cy ad S (bwN Bw Ec 2 (v1) (v2) (-1) (-1) (-1) (Bw 234)) mem50 := ⟨(hfr51 220 (by omega)).trans hSR.1, (hfr51 221 (by omega)).trans hSR.2⟩
    obtain ⟨hLK1, hF1⟩ := frm_rep (v1 := v1) (v2 := v2) hLK hE9 hF h39
    refine f_xVr (na := 1) (As := [.int (6)]) (rest := [.ref (ad (20 + 2 * Ec))]) Bx hml E hP hD hS (by omega) h9_64 rfl (m_Rd_readElement_6Y l hlt hn hT hf hRXr (by omega) (u := u) (A := repB A 6 Ec v1 v2) her74 hsr75 (by omega) (by omega) hLK1 hF1) kw_443 kw_445 sel_Rd_readElement kw_6 kw_446 (by decide +kernel) ⟨rfl, rfl⟩ ⟨Nat.le_of_ble_eq_true rfl, Nat.le_of_ble_eq_true rfl⟩ rfl hl.1 (Nat.le_of_ble_eq_true rfl) d_Rd_readRepetition_34 ⟨Nat.le_of_ble_eq_true rfl, Nat.le_of_ble_eq_true rfl⟩ (fun X ce q9 memx H locs hx9 hP hS g1 g2 g3 => f_out hlocks hno hP hS g1 g2 g3 ⟨Nat.le_of_ble_eq_true rfl, Nat.le_of_ble_eq_true rfl⟩ ⟨hx9.1, rep_fai hdg hE9 hr1 hr2 hnv hx9.2⟩) (fun r76 mem77 H locs hq hP hS => ?_)
    have hD : va_D (Az sz) (fw n ad mem77) := fw_D hD
    obtain ⟨kx78, ax79, ux80, Rx81, Ex82, Sx83, Ax84, Bx_85, nx86, tox87, hr988, h189, h290, h391, h492, h593, htk94, hRX95, rds96, h897, hok98⟩ := hq
    subst hr988
    obtain ⟨ft99, h9_100⟩ := hRX95.2.1
    have h1_101 : mem77 1 = .inr (0, [.ref (ad 2), .int (nI Z)]) := (hRX95.1.2.2 1 (by omega)).trans hT.1
    have h2_102 : mem77 2 = .inl (cy 0, 240, .inl f) := (hRX95.1.2.2 2 (by omega)).trans hT.2.2
    have h5_103 := hRX95.1.1.2.1
    have hbd109 := hRX95.1.1.1
    obtain ⟨S104, g105, hS_106, h220_107, h221_108⟩ := hRX95.1.1.2.2.2.2.2.2
    have hbd110 := hRX95.1.1.1
    have hce111 := (rds96.2.1 Ec (by omega)).1
    refine f_putN Bx hP hD hS (by omega) hce111 rfl inEl tyEl okEl nmEl 4 (by decide) kw_87 rfl rfl rfl rfl (Nat.le_of_ble_eq_true rfl) d_Rd_readRepetition_37 (fun H locs hP hS => ?_)
    obtain ⟨mem112, e_mem112⟩ : ∃ z, z = va_up mem77 ((20 + 2 * Ec)) (.inr (2, [.int (Bx_85 228 Ec), .int (Bx_85 229 Ec), .int (Bx_85 230 Ec), vR ad (Bx_85 231 Ec), .ref (ad (20 + 2 * kx78)), vE ad (Bx_85 233 Ec), .ref (ad (21 + 2 * Ec))])) := ⟨_, rfl⟩
    have hP : va_P D vcl (fw n ad mem112) H := by rw [e_mem112]; exact hP
    have hD : va_D (Az sz) (fw n ad mem112) := fw_D hD
    have h_mem112 : mem112 ((20 + 2 * Ec)) = .inr (2, [.int (Bx_85 228 Ec), .int (Bx_85 229 Ec), .int (Bx_85 230 Ec), vR ad (Bx_85 231 Ec), .ref (ad (20 + 2 * kx78)), vE ad (Bx_85 233 Ec), .ref (ad (21 + 2 * Ec))]) := by rw [e_mem112, va_up_self]
    have hh113 := (va_up_ne mem77 (.inr (2, [.int (Bx_85 228 Ec), .int (Bx_85 229 Ec), .int (Bx_85 230 Ec), vR ad (Bx_85 231 Ec), .ref (ad (20 + 2 * kx78)), vE ad (Bx_85 233 Ec), .ref (ad (21 + 2 * Ec))])) (show (222 : Nat) ≠ (20 + 2 * Ec) by first | decide | assumption | omega)).trans h9_100
    rw [← e_mem112] at hh113
    have hh114 := (va_up_ne mem77 (.inr (2, [.int (Bx_85 228 Ec), .int (Bx_85 229 Ec), .int (Bx_85 230 Ec), vR ad (Bx_85 231 Ec), .ref (ad (20 + 2 * kx78)), vE ad (Bx_85 233 Ec), .ref (ad (21 + 2 * Ec))])) (show (1 : Nat) ≠ (20 + 2 * Ec) by first | decide | assumption | omega)).trans h1_101
    rw [← e_mem112] at hh114
    have hh115 := (va_up_ne mem77 (.inr (2, [.int (Bx_85 228 Ec), .int (Bx_85 229 Ec), .int (Bx_85 230 Ec), vR ad (Bx_85 231 Ec), .ref (ad (20 + 2 * kx78)), vE ad (Bx_85 233 Ec), .ref (ad (21 + 2 * Ec))])) (show (5 : Nat) ≠ (20 + 2 * Ec) by first | decide | assumption | omega)).trans h5_103
    rw [← e_mem112] at hh115
    have hh116 := (va_up_ne mem77 (.inr (2, [.int (Bx_85 228 Ec), .int (Bx_85 229 Ec), .int (Bx_85 230 Ec), vR ad (Bx_85 231 Ec), .ref (ad (20 + 2 * kx78)), vE ad (Bx_85 233 Ec), .ref (ad (21 + 2 * Ec))])) (show (220 : Nat) ≠ (20 + 2 * Ec) by first | decide | assumption | omega)).trans h220_107
    rw [← e_mem112] at hh116
    have hRX117 : RX cy ad lim (ax79) (Rx81) (Ex82) (tox87) (nx86) m0 mem112 := by rw [e_mem112]; exact hRX95.el (by omega) (hRX95.1.mk (by omega) (hRX95.1.1.upEl (by omega) (fun _ => ⟨(rds96.2.1 Ec (by omega)).2.1.oR ad, Or.inr ⟨kx78, by omega, by omega, rfl⟩, (rds96.2.1 Ec (by omega)).2.2.2.oE ad (by omega)⟩)))
    have her118 : ER ad (Rx81) (Ex82) (va_up Bx_85 232 (upd (Bx_85 232) Ec (nI kx78))) mem112 := rds96.2.1.part (by omega) (by omega) (by omega) h_mem112 (fun i9 q9 hi9 => by rw [e_mem112]; exact va_up_ne _ _ (by omega))
    have hsr119 : SR cy ad (Sx83) (Bx_85) mem112 := ⟨(show mem112 220 = mem77 220 by rw [e_mem112]; exact va_up_ne _ _ (by omega)).trans rds96.2.2.1.1, (show mem112 221 = mem77 221 by rw [e_mem112]; exact va_up_ne _ _ (by omega)).trans rds96.2.2.1.2⟩
    obtain ⟨ft120, h9_121⟩ := hRX117.2.1
    have h1_122 : mem112 1 = .inr (0, [.ref (ad 2), .int (nI Z)]) := (hRX117.1.2.2 1 (by omega)).trans hT.1
    have h2_123 : mem112 2 = .inl (cy 0, 240, .inl f) := (hRX117.1.2.2 2 (by omega)).trans hT.2.2
    have h5_124 := hRX117.1.1.2.1
    have hbd130 := hRX117.1.1.1
    obtain ⟨S125, g126, hS_127, h220_128, h221_129⟩ := hRX117.1.1.2.2.2.2.2.2
    refine lv_aload_n Bx.1 Bx.2.1 d_Rd_readRepetition_40 rfl (lv_at hl 0 rfl) ?_
    have hrd9 := rep_rds hLK hE9 hF h39 rds96 h897 ⟨by omega, by omega⟩ (rep_suc (u := u) (R := R) (f := 6) (A := A) (nm := nm) hdg hE9 hr1 hr2 hnv hok98) her118 hsr119
    exact x_aret hx hb hlocks hr (⟨Ec, ax79, ux80, Rx81, Ex82, Sx83, _, _, nx86, tox87, rfl, by omega, by omega, by omega, by omega, by omega, htk94, hRX117, hrd9.1, hrd9.2⟩) hP hS d_Rd_readRepetition_41
  · refine lv_aload_n Bx.1 Bx.2.1 d_Rd_readRepetition_10 rfl (lv_at hl 0 rfl) ?_
    refine lv_iload_n Bx.1 Bx.2.1 d_Rd_readRepetition_11 rfl (lv_at hl 1 rfl) ?_
    obtain ⟨hd0, h42⟩ := bpF_0 hb18
    refine f_xVr (na := 1) (As := [.int (6)]) (rest := []) Bx hml E hP hD hS (by omega) h9_2 rfl (m_Rd_readElement_6Y l hlt hn hT hf hRX (by omega) (u := u) (A := A) hER hSR hSa (by omega) hLK hF) kw_443 kw_445 sel_Rd_readElement kw_6 kw_446 (by decide +kernel) ⟨rfl, rfl⟩ ⟨Nat.le_of_ble_eq_true rfl, Nat.le_of_ble_eq_true rfl⟩ rfl hl.1 (Nat.le_of_ble_eq_true rfl) d_Rd_readRepetition_12 ⟨Nat.le_of_ble_eq_true rfl, Nat.le_of_ble_eq_true rfl⟩ (fun X ce q9 memx H locs hx9 hP hS g1 g2 g3 => f_out hlocks hno hP hS g1 g2 g3 ⟨Nat.le_of_ble_eq_true rfl, Nat.le_of_ble_eq_true rfl⟩ ⟨hx9.1, (hx9.2.resolve_right (fun z => z ⟨hbg, hd0, h42⟩)).eq (rep_no hd0 h42)⟩) (fun r131 mem132 H locs hq hP hS => ?_)
    have hD : va_D (Az sz) (fw n ad mem132) := fw_D hD
    obtain ⟨kx133, ax134, ux135, Rx136, Ex137, Sx138, Ax139, Bx_140, nx141, tox142, hr9143, h1144, h2145, h3146, h4147, h5148, htk149, hRX150, rds151, h8152, hok153⟩ := hq
    subst hr9143
    obtain ⟨ft154, h9_155⟩ := hRX150.2.1
    have h1_156 : mem132 1 = .inr (0, [.ref (ad 2), .int (nI Z)]) := (hRX150.1.2.2 1 (by omega)).trans hT.1
    have h2_157 : mem132 2 = .inl (cy 0, 240, .inl f) := (hRX150.1.2.2 2 (by omega)).trans hT.2.2
    have h5_158 := hRX150.1.1.2.1
    have hbd164 := hRX150.1.1.1
    obtain ⟨S159, g160, hS_161, h220_162, h221_163⟩ := hRX150.1.1.2.2.2.2.2.2
    have hbd165 := hRX150.1.1.1
    exact x_aret hx hb hlocks hr (⟨kx133, ax134, ux135, Rx136, Ex137, Sx138, Ax139, Bx_140, nx141, tox142, rfl, h1144, h2145, h3146, h4147, h5148, htk149, hRX150, rdsEq rds151 (rep_no hd0 h42), h8152⟩) hP hS d_Rd_readRepetition_15
set_option maxHeartbeats 4000000 in
set_option maxRecDepth 100000 in
theorem m_Rd_readSequence_6Y (l : Launch) {D : va_G} {cy : Nat → ClassId} {sz n : Nat} {ad : Nat → Nat} {mem : Nat → va_E} {Z a R Ec lim : Nat} {f T : Nat → Int32} {to : Nat → Int32} {nm : Nat → Int64} {m0 : Nat → va_E} {u S : Nat} {A Bw : Ro} {cq : Nat} (hlt : l.stackTraces = false) (hn : 224 ≤ n) (hT : TX cy ad Z f m0) (hf : ∀ k, k < Z → f k = T k) (hRX : RX cy ad lim a R Ec to nm m0 mem) (haB : a ≤ 300) (hER : ER ad R Ec Bw mem) (hSR : SR cy ad S Bw mem) (hSa : S ≤ a) (haZ : a ≤ Z) (hLK : LKa Ec A) (hc : A 237 6 = nI cq) (hcl : cq < Ec) (h39 : A 239 6 = -1) : NXr l D cy sz n ad y_Rd_readSequence c_Rd_readSequence 5 (some (.object "AbnfChart$Element")) ({ frames := 18, cells := 1, slots := 6, locals := 412 } : Room) mem [.ref (ad 222), .int (6)] (fun r mem' => ∃ (a' u' R' E' S' : Nat) (A' Bw' : Ro) (nm' : Nat → Int64) (to' : Nat → Int32), r = ad (20 + 2 * Ec) ∧ Ec < E' ∧ R ≤ R' ∧ a < a' ∧ a' ≤ Z ∧ TOK R R' to to' ∧ RX cy ad lim (gapF T Z a') R' E' to' nm' m0 mem' ∧ RDS cy ad T Z 6 (seqS T Z a u R Ec 6 A nm) (slotOf A cq) R Ec S u A Bw Ec a' u' R' E' S' A' Bw' nm' mem' ∧ ¬ (bgF (hereF Z T (gapF T Z a')) = true ∧ a' < gapF T Z a')) (fun X mem' => ((X = cIA ∨ X = cIS) ∧ ∃ rc' ec' : Nat, RS cy ad lim rc' ec' m0 mem') ∧ (Fai T Z (seqS T Z a u R Ec 6 A nm))) := by
  refine vx_ofW (cc := c_Rd_readSequence) (maxL := 5) (ret := (some (.object "AbnfChart$Element"))) (by decide) rfl ?_
  intro p e s m args below meth c s₁ B hml hno hv
  obtain ⟨rfl, E, hP, hD⟩ := hv
  have hx := B.exec
  have hb := B.bytes
  have hr := B.returns
  have hlocks := B.notSynchronized
  have Bx : MB p s m [.ref (ad 222), .int (6)].toArray c c_Rd_readSequence "AbnfChart$Reader" D cy := ⟨hx, hb, tb_all (atoms_spec B.pre) E.2.1, findClass_of_methodNamed B.named, E.1⟩
  have hS : va_S (Az sz) s.heap s.heap [] := va_S.rf
  have hl := lv_entry ([.ref (ad 222), .int (6)]) (n := 5) (Nat.le_of_ble_eq_true rfl)
  rw [lg_entry_eq]
  generalize (lg_sl ([.ref (ad 222), .int (6)]) ++ List.replicate (5 - (lg_sl ([.ref (ad 222), .int (6)])).length) Slot.unset).toArray = ls at hl ⊢
  have hl : lv_has ls 5 [(0, .ref (ad 222)), (1, .int (6))] := hl
  have hZ9 := hT.2.1
  have hbd9 := hRX.1.1.1
  have hfr0 : ∀ i, 19 ≤ i ∧ i < 222 ∧ i ≠ 20 + 2 * Ec → mem i = mem i := fun _ _ => rfl
  obtain ⟨ft1, h9_2⟩ := hRX.2.1
  have h1_3 : mem 1 = .inr (0, [.ref (ad 2), .int (nI Z)]) := (hRX.1.2.2 1 (by omega)).trans hT.1
  have h2_4 : mem 2 = .inl (cy 0, 240, .inl f) := (hRX.1.2.2 2 (by omega)).trans hT.2.2
  have h5_5 := hRX.1.1.2.1
  have hbd11 := hRX.1.1.1
  obtain ⟨S6, g7, hS_8, h220_9, h221_10⟩ := hRX.1.1.2.2.2.2.2.2
  refine lv_aload_n Bx.1 Bx.2.1 d_Rd_readSequence_0 rfl (lv_at hl 0 rfl) ?_
  refine lv_iconst (v := 1) Bx.1 Bx.2.1 d_Rd_readSequence_1 (by decide) ?_
  refine f_xVr (na := 1) (As := [.int (1)]) (rest := []) Bx hml E hP hD hS (by omega) h9_2 rfl (m_Rd_beginRowY l hlt hn hT hf hRX (by omega)) kw_409 kw_411 sel_Rd_beginRow kw_6 kw_412 (by decide +kernel) ⟨rfl, rfl⟩ ⟨Nat.le_of_ble_eq_true rfl, Nat.le_of_ble_eq_true rfl⟩ rfl hl.1 (Nat.le_of_ble_eq_true rfl) d_Rd_readSequence_2 ⟨Nat.le_of_ble_eq_true rfl, Nat.le_of_ble_eq_true rfl⟩ (fun X ce q9 memx H locs hx9 hP hS g1 g2 g3 => f_out hlocks hno hP hS g1 g2 g3 ⟨Nat.le_of_ble_eq_true rfl, Nat.le_of_ble_eq_true rfl⟩ ⟨hx9.1, Or.inl (seq_no hx9.2)⟩) (fun r12 mem13 H locs hq hP hS => ?_)
  have hD : va_D (Az sz) (fw n ad mem13) := fw_D hD
  obtain ⟨hbg, hE9, hr9, hRXb, hclb, hfab⟩ := hq
  subst hr9
  have hfr14 : ∀ i, 19 ≤ i ∧ i < 222 ∧ i ≠ 20 + 2 * Ec → mem13 i = mem i := fun i q => (hfab i (by omega)).trans (hfr0 i q)
  obtain ⟨ft15, h9_16⟩ := hRXb.2.1
  have h1_17 : mem13 1 = .inr (0, [.ref (ad 2), .int (nI Z)]) := (hRXb.1.2.2 1 (by omega)).trans hT.1
  have h2_18 : mem13 2 = .inl (cy 0, 240, .inl f) := (hRXb.1.2.2 2 (by omega)).trans hT.2.2
  have h5_19 := hRXb.1.1.2.1
  have hbd25 := hRXb.1.1.1
  obtain ⟨S20, g21, hS_22, h220_23, h221_24⟩ := hRXb.1.1.2.2.2.2.2.2
  obtain ⟨ft26, h9_27⟩ := hRXb.2.1
  have h1_28 : mem13 1 = .inr (0, [.ref (ad 2), .int (nI Z)]) := (hRXb.1.2.2 1 (by omega)).trans hT.1
  have h2_29 : mem13 2 = .inl (cy 0, 240, .inl f) := (hRXb.1.2.2 2 (by omega)).trans hT.2.2
  have h5_30 := hRXb.1.1.2.1
  have hbd36 := hRXb.1.1.1
  obtain ⟨S31, g32, hS_33, h220_34, h221_35⟩ := hRXb.1.1.2.2.2.2.2.2
  refine lv_astore_n (lv' := [(2, .ref (ad (20 + 2 * Ec))), (0, .ref (ad 222)), (1, .int (6))]) Bx.1 Bx.2.1 d_Rd_readSequence_5 rfl hl (by decide) rfl (fun ls hl => ?_)
  refine lv_aload_n Bx.1 Bx.2.1 d_Rd_readSequence_6 rfl (lv_at hl 1 rfl) ?_
  refine lv_iload_n Bx.1 Bx.2.1 d_Rd_readSequence_7 rfl (lv_at hl 2 rfl) ?_
  have her37 : ER ad R (Ec + 1) (bwN Bw Ec 1 (0) (0) (-1) (-1) (-1) (Bw 234)) mem13 := hER.new (Nat.le_refl _) (by rw [vR_m]; exact hclb) (Or.inl rfl) (fun i9 hi9 => hfr14 (20 + 2 * i9) (by omega))
  have hsr38 : SR cy ad S (bwN Bw Ec 1 (0) (0) (-1) (-1) (-1) (Bw 234)) mem13 := ⟨(hfr14 220 (by omega)).trans hSR.1, (hfr14 221 (by omega)).trans hSR.2⟩
  obtain ⟨hLK1, hF1, h391⟩ := frm_seq hLK hE9 hc hcl h39
  refine f_xVr (na := 1) (As := [.int (6)]) (rest := []) Bx hml E hP hD hS (by omega) h9_27 rfl (m_Rd_readRepetition_6Y l hlt hn hT hf hRXb (by omega) (u := u) (A := seqA A 6 Ec) her37 hsr38 (by omega) (by omega) hLK1 hF1 h391 hbg) kw_439 kw_441 sel_Rd_readRepetition kw_6 kw_442 (by decide +kernel) ⟨rfl, rfl⟩ ⟨Nat.le_of_ble_eq_true rfl, Nat.le_of_ble_eq_true rfl⟩ rfl hl.1 (Nat.le_of_ble_eq_true rfl) d_Rd_readSequence_8 ⟨Nat.le_of_ble_eq_true rfl, Nat.le_of_ble_eq_true rfl⟩ (fun X ce q9 memx H locs hx9 hP hS g1 g2 g3 => f_out hlocks hno hP hS g1 g2 g3 ⟨Nat.le_of_ble_eq_true rfl, Nat.le_of_ble_eq_true rfl⟩ ⟨hx9.1, hx9.2.eq (seq_ok hbg hE9)⟩) (fun r39 mem40 H locs hq hP hS => ?_)
  have hD : va_D (Az sz) (fw n ad mem40) := fw_D hD
  obtain ⟨kx41, ax42, ux43, Rx44, Ex45, Sx46, Ax47, Bx_48, nx49, tox50, hr951, h152, h253, h354, h455, h556, htk57, hRX58, rds59, h860⟩ := hq
  subst hr951
  obtain ⟨ft61, h9_62⟩ := hRX58.2.1
  have h1_63 : mem40 1 = .inr (0, [.ref (ad 2), .int (nI Z)]) := (hRX58.1.2.2 1 (by omega)).trans hT.1
  have h2_64 : mem40 2 = .inl (cy 0, 240, .inl f) := (hRX58.1.2.2 2 (by omega)).trans hT.2.2
  have h5_65 := hRX58.1.1.2.1
  have hbd71 := hRX58.1.1.1
  obtain ⟨S66, g67, hS_68, h220_69, h221_70⟩ := hRX58.1.1.2.2.2.2.2.2
  have hbd72 := hRX58.1.1.1
  refine lv_astore_n (lv' := [(3, .ref (ad (20 + 2 * kx41))), (2, .ref (ad (20 + 2 * Ec))), (0, .ref (ad 222)), (1, .int (6))]) Bx.1 Bx.2.1 d_Rd_readSequence_11 rfl hl (by decide) rfl (fun ls hl => ?_)
  refine lv_aload_n Bx.1 Bx.2.1 d_Rd_readSequence_12 rfl (lv_at hl 1 rfl) ?_
  refine lv_aload_n Bx.1 Bx.2.1 d_Rd_readSequence_13 rfl (lv_at hl 0 rfl) ?_
  have hce73 := (rds59.2.1 Ec (by omega)).1
  refine f_putN Bx hP hD hS (by omega) hce73 rfl inEl tyEl okEl nmEl 4 (by decide) kw_87 rfl rfl rfl rfl (Nat.le_of_ble_eq_true rfl) d_Rd_readSequence_14 (fun H locs hP hS => ?_)
  obtain ⟨mem74, e_mem74⟩ : ∃ z, z = va_up mem40 ((20 + 2 * Ec)) (.inr (2, [.int (Bx_48 228 Ec), .int (Bx_48 229 Ec), .int (Bx_48 230 Ec), vR ad (Bx_48 231 Ec), .ref (ad (20 + 2 * kx41)), vE ad (Bx_48 233 Ec), .ref (ad (21 + 2 * Ec))])) := ⟨_, rfl⟩
  have hP : va_P D vcl (fw n ad mem74) H := by rw [e_mem74]; exact hP
  have hD : va_D (Az sz) (fw n ad mem74) := fw_D hD
  have h_mem74 : mem74 ((20 + 2 * Ec)) = .inr (2, [.int (Bx_48 228 Ec), .int (Bx_48 229 Ec), .int (Bx_48 230 Ec), vR ad (Bx_48 231 Ec), .ref (ad (20 + 2 * kx41)), vE ad (Bx_48 233 Ec), .ref (ad (21 + 2 * Ec))]) := by rw [e_mem74, va_up_self]
  have hh75 := (va_up_ne mem40 (.inr (2, [.int (Bx_48 228 Ec), .int (Bx_48 229 Ec), .int (Bx_48 230 Ec), vR ad (Bx_48 231 Ec), .ref (ad (20 + 2 * kx41)), vE ad (Bx_48 233 Ec), .ref (ad (21 + 2 * Ec))])) (show (222 : Nat) ≠ (20 + 2 * Ec) by first | decide | assumption | omega)).trans h9_62
  rw [← e_mem74] at hh75
  have hh76 := (va_up_ne mem40 (.inr (2, [.int (Bx_48 228 Ec), .int (Bx_48 229 Ec), .int (Bx_48 230 Ec), vR ad (Bx_48 231 Ec), .ref (ad (20 + 2 * kx41)), vE ad (Bx_48 233 Ec), .ref (ad (21 + 2 * Ec))])) (show (1 : Nat) ≠ (20 + 2 * Ec) by first | decide | assumption | omega)).trans h1_63
  rw [← e_mem74] at hh76
  have hh77 := (va_up_ne mem40 (.inr (2, [.int (Bx_48 228 Ec), .int (Bx_48 229 Ec), .int (Bx_48 230 Ec), vR ad (Bx_48 231 Ec), .ref (ad (20 + 2 * kx41)), vE ad (Bx_48 233 Ec), .ref (ad (21 + 2 * Ec))])) (show (5 : Nat) ≠ (20 + 2 * Ec) by first | decide | assumption | omega)).trans h5_65
  rw [← e_mem74] at hh77
  have hh78 := (va_up_ne mem40 (.inr (2, [.int (Bx_48 228 Ec), .int (Bx_48 229 Ec), .int (Bx_48 230 Ec), vR ad (Bx_48 231 Ec), .ref (ad (20 + 2 * kx41)), vE ad (Bx_48 233 Ec), .ref (ad (21 + 2 * Ec))])) (show (220 : Nat) ≠ (20 + 2 * Ec) by first | decide | assumption | omega)).trans h220_69
  rw [← e_mem74] at hh78
  have hRX79 : RX cy ad lim (ax42) (Rx44) (Ex45) (tox50) (nx49) m0 mem74 := by rw [e_mem74]; exact hRX58.el (by omega) (hRX58.1.mk (by omega) (hRX58.1.1.upEl (by omega) (fun _ => ⟨(rds59.2.1 Ec (by omega)).2.1.oR ad, Or.inr ⟨kx41, by omega, by omega, rfl⟩, (rds59.2.1 Ec (by omega)).2.2.2.oE ad (by omega)⟩)))
  have her80 : ER ad (Rx44) (Ex45) (va_up Bx_48 232 (upd (Bx_48 232) Ec (nI kx41))) mem74 := rds59.2.1.part (by omega) (by omega) (by omega) h_mem74 (fun i9 q9 hi9 => by rw [e_mem74]; exact va_up_ne _ _ (by omega))
  have hsr81 : SR cy ad (Sx46) (Bx_48) mem74 := ⟨(show mem74 220 = mem40 220 by rw [e_mem74]; exact va_up_ne _ _ (by omega)).trans rds59.2.2.1.1, (show mem74 221 = mem40 221 by rw [e_mem74]; exact va_up_ne _ _ (by omega)).trans rds59.2.2.1.2⟩
  obtain ⟨ft82, h9_83⟩ := hRX79.2.1
  have h1_84 : mem74 1 = .inr (0, [.ref (ad 2), .int (nI Z)]) := (hRX79.1.2.2 1 (by omega)).trans hT.1
  have h2_85 : mem74 2 = .inl (cy 0, 240, .inl f) := (hRX79.1.2.2 2 (by omega)).trans hT.2.2
  have h5_86 := hRX79.1.1.2.1
  have hbd92 := hRX79.1.1.1
  obtain ⟨S87, g88, hS_89, h220_90, h221_91⟩ := hRX79.1.1.2.2.2.2.2.2
  refine lv_iconst (v := 0) Bx.1 Bx.2.1 d_Rd_readSequence_17 (by decide) ?_
  refine lv_istore (lv' := [(4, .int (0)), (3, .ref (ad (20 + 2 * kx41))), (2, .ref (ad (20 + 2 * Ec))), (0, .ref (ad 222)), (1, .int (6))]) Bx.1 Bx.2.1 d_Rd_readSequence_18 hl (by decide) rfl (fun ls hl => ?_)
  have hsl9 := slot_lt hLK (by omega) hcl
  have hsq0 := seq_first hLK hE9 hc hcl h39 rds59 h860 ⟨by omega, by omega⟩ (by omega) (seq_ok (u := u) (R := R) (f := 6) (A := A) (nm := nm) hbg hE9) her80 hsr81
  have loop93 : ∀ (d94 : Nat) (mem9 : Nat → va_E) (a1 : Nat) (u1 : Nat) (R1 : Nat) (E1 : Nat) (S1 : Nat) (A1 : Ro) (B1 : Ro) (n1 : Nat → Int64) (to1 : Nat → Int32) (la : Nat) (k9 : Nat) (ls : Array Slot) (H : Heap) (locs : List Loc), (240 - k9 < d94) → (RX cy ad lim a1 R1 E1 to1 n1 m0 mem9) → (a < a1 ∧ a1 ≤ Z ∧ R ≤ R1 ∧ k9 < a1 ∧ k9 ≤ 240) → (SQI cy ad T Z 6 (seqS T Z a u R Ec 6 A nm) (slotOf A cq) R Ec S u A Bw la a1 u1 R1 E1 S1 A1 B1 n1 mem9) → (TOK R R1 to to1) → (va_P D vcl (fw n ad mem9) H) → (va_D (Az sz) (fw n ad mem9)) → (va_S (Az sz) s.heap H locs) → (lv_has ls 5 [(4, .int (nI k9)), (3, .ref (ad (20 + 2 * la))), (2, .ref (ad (20 + 2 * Ec))), (0, .ref (ad 222)), (1, .int (6))]) → W p l e (headSpec (Cond.code y_Rd_readSequence c_Rd_readSequence 5 (some (.object "AbnfChart$Element")) :: tg) ({ frames := 18, cells := 1, slots := 6, locals := 412 } : Room)).room s m [.ref (ad 222), .int (6)].toArray below meth c H locs 0 0 (vx_MQ below (QX (QR (fun r mem' => ∃ (a' u' R' E' S' : Nat) (A' Bw' : Ro) (nm' : Nat → Int64) (to' : Nat → Int32), r = ad (20 + 2 * Ec) ∧ Ec < E' ∧ R ≤ R' ∧ a < a' ∧ a' ≤ Z ∧ TOK R R' to to' ∧ RX cy ad lim (gapF T Z a') R' E' to' nm' m0 mem' ∧ RDS cy ad T Z 6 (seqS T Z a u R Ec 6 A nm) (slotOf A cq) R Ec S u A Bw Ec a' u' R' E' S' A' Bw' nm' mem' ∧ ¬ (bgF (hereF Z T (gapF T Z a')) = true ∧ a' < gapF T Z a')) (PP D n ad) (Az sz))) (XQ D sz n ad (fun X mem' => ((X = cIA ∨ X = cIS) ∧ ∃ rc' ec' : Nat, RS cy ad lim rc' ec' m0 mem') ∧ (Fai T Z (seqS T Z a u R Ec 6 A nm)))) [.ref (ad 222), .int (6)].toArray s 1 6 (Az sz)) (F0 m 20 ls []) := by
    intro d94
    induction d94 with
    | zero => intro mem9 a1 u1 R1 E1 S1 A1 B1 n1 to1 la k9 ls H locs hmeas100; exact absurd hmeas100 (Nat.not_lt_zero _)
    | succ d94 ih99 =>
      intro mem9 a1 u1 R1 E1 S1 A1 B1 n1 to1 la k9 ls H locs hmeas100 hz95 hz96 hz97 hz98 hP hD hS hl
      have hbd8 := hz96
      have hsq := hz97
      have hbdE := hz95.1.1.1
      have hla := hsq.2.2.2
      have hSa1 := hsq.1.2.2.2.1.2.1
      have hlka := sqi_lka hsq hLK hsl9
      obtain ⟨ft101, h9_102⟩ := hz95.2.1
      have h1_103 : mem9 1 = .inr (0, [.ref (ad 2), .int (nI Z)]) := (hz95.1.2.2 1 (by omega)).trans hT.1
      have h2_104 : mem9 2 = .inl (cy 0, 240, .inl f) := (hz95.1.2.2 2 (by omega)).trans hT.2.2
      have h5_105 := hz95.1.1.2.1
      have hbd111 := hz95.1.1.1
      obtain ⟨S106, g107, hS_108, h220_109, h221_110⟩ := hz95.1.1.2.2.2.2.2.2
      refine lv_iload Bx.1 Bx.2.1 d_Rd_readSequence_20 (lv_at hl 0 rfl) ?_
      refine lv_sipush (v := 240) Bx.1 Bx.2.1 d_Rd_readSequence_22 (by decide) ?_
      refine lv_icmp_ge Bx.1 Bx.2.1 d_Rd_readSequence_25 rfl (fun hb112 => ?_) (fun hb112 => ?_)
      · have hN113 : 240 ≤ k9 := (nI_leI (by omega) (by omega)).mp (show nI (240) ≤ nI (k9) from hb112)
        exact absurd hbd8 (by omega)
      · have hN114 : ¬ 240 ≤ k9 := fun q9 => hb112 (show nI (240) ≤ nI (k9) from (nI_leI (by omega) (by omega)).mpr q9)
        refine lv_aload_n Bx.1 Bx.2.1 d_Rd_readSequence_28 rfl (lv_at hl 3 rfl) ?_
        refine f_callVi (na := 0) (As := []) (rest := []) Bx hml E hP hD hS (by omega) h9_102 rfl (m_Rd_readGapY l hn hT hf hz95 (by omega) (by omega)) kw_397 kw_399 sel_Rd_readGap kw_6 kw_400 (by decide +kernel) ⟨rfl, rfl⟩ ⟨Nat.le_of_ble_eq_true rfl, Nat.le_of_ble_eq_true rfl⟩ rfl hl.1 (Nat.le_of_ble_eq_true rfl) d_Rd_readSequence_29 ⟨Nat.le_of_ble_eq_true rfl, Nat.le_of_ble_eq_true rfl⟩ (fun r115 mem116 H locs hq hP hS => ?_)
        have hD : va_D (Az sz) (fw n ad mem116) := fw_D hD
        obtain ⟨g117, eg118⟩ : ∃ z, z = gapF T Z (a1) := ⟨_, rfl⟩
        rw [← eg118] at hq
        obtain ⟨hRX119, hgc120, hfa121⟩ := hq
        have hg122 : a1 ≤ g117 := by rw [eg118]; exact gapF_ge T Z _
        have hg123 : g117 ≤ Z := by rw [eg118]; exact gapF_le T (by omega)
        obtain ⟨ft124, h9_125⟩ := hRX119.2.1
        have h1_126 : mem116 1 = .inr (0, [.ref (ad 2), .int (nI Z)]) := (hRX119.1.2.2 1 (by omega)).trans hT.1
        have h2_127 : mem116 2 = .inl (cy 0, 240, .inl f) := (hRX119.1.2.2 2 (by omega)).trans hT.2.2
        have h5_128 := hRX119.1.1.2.1
        have hbd134 := hRX119.1.1.1
        obtain ⟨S129, g130, hS_131, h220_132, h221_133⟩ := hRX119.1.1.2.2.2.2.2.2
        have her135 : ER ad (R1) (E1) (B1) mem116 := hsq.1.2.1.fr (Nat.le_refl _) (fun i9 hi9 => hfa121 _ (by omega))
        have hsr136 : SR cy ad (S1) (B1) mem116 := ⟨(show mem116 220 = _ from hfa121 _ (by omega)).trans hsq.1.2.2.1.1, (show mem116 221 = _ from hfa121 _ (by omega)).trans hsq.1.2.2.1.2⟩
        rcases hgc120 with ⟨hr137, hga138⟩ | ⟨hr137, hga138⟩
        · subst hr137
          refine lv_if_eq Bx.1 Bx.2.1 d_Rd_readSequence_32 rfl (fun hb139 => ?_) (fun hb139 => ?_)
          · exact absurd hb139 (by decide)
          · refine lv_aload_n Bx.1 Bx.2.1 d_Rd_readSequence_35 rfl (lv_at hl 3 rfl) ?_
            refine f_callVi (na := 0) (As := []) (rest := []) Bx hml E hP hD hS (by omega) h9_125 rfl (m_Rd_peekX l hn hT hf hRX119 (by omega)) kw_353 kw_355 sel_Rd_peek kw_6 kw_356 (by decide +kernel) ⟨rfl, rfl⟩ ⟨Nat.le_of_ble_eq_true rfl, Nat.le_of_ble_eq_true rfl⟩ rfl hl.1 (Nat.le_of_ble_eq_true rfl) d_Rd_readSequence_36 ⟨Nat.le_of_ble_eq_true rfl, Nat.le_of_ble_eq_true rfl⟩ (fun r141 mem142 H locs hq hP hS => ?_)
            have hD : va_D (Az sz) (fw n ad mem142) := fw_D hD
            obtain ⟨hqe, hpk140⟩ := hq
            rw [hqe] at hP hD
            subst hpk140
            refine f_callSi (na := 1) (As := [.int (hereF Z T (g117))]) (rest := []) Bx hml E.2.1 (m_Rd_beginsRepetitionX l (hereF Z T (g117))) kw_413 kw_414 kw_6 kw_415 (by decide +kernel) ⟨rfl, rfl⟩ ⟨Nat.le_of_ble_eq_true rfl, Nat.le_of_ble_eq_true rfl⟩ rfl hl.1 (Nat.le_of_ble_eq_true rfl) d_Rd_readSequence_39 ⟨Nat.le_of_ble_eq_true rfl, Nat.le_of_ble_eq_true rfl⟩ (fun r145 hs144 => ?_)
            subst hs144
            refine lv_if_eq Bx.1 Bx.2.1 d_Rd_readSequence_42 rfl (fun hb146 => ?_) (fun hb146 => ?_)
            · refine lv_aload_n Bx.1 Bx.2.1 d_Rd_readSequence_65 rfl (lv_at hl 2 rfl) ?_
              exact x_aret hx hb hlocks hr (⟨a1, u1, R1, E1, S1, A1, B1, n1, to1, rfl, by omega, by omega, by omega, by omega, hz98, by rw [← eg118]; exact hRX119, ⟨hsq.1.1, her135, hsr136, hsq.1.2.2.2⟩, fun z => by have q9 := z.1; rw [← eg118, bg_0 hb146] at q9; exact absurd q9 (by decide)⟩) hP hS d_Rd_readSequence_66
            · have hbg2 : bgF (hereF Z T (gapF T Z a1)) = true := by rw [← eg118]; exact bg_1 hb146
              have hgt2 : a1 < gapF T Z a1 := by rw [← eg118]; omega
              have h238 := hsq.2.1
              have h239 : A1 239 6 = -1 := hsq.1.2.2.2.2.2.2.2.2.2.2
              refine lv_aload_n Bx.1 Bx.2.1 d_Rd_readSequence_45 rfl (lv_at hl 1 rfl) ?_
              refine lv_aload_n Bx.1 Bx.2.1 d_Rd_readSequence_46 rfl (lv_at hl 3 rfl) ?_
              refine lv_iload_n Bx.1 Bx.2.1 d_Rd_readSequence_47 rfl (lv_at hl 4 rfl) ?_
              refine f_xVr (na := 1) (As := [.int (6)]) (rest := [.ref (ad (20 + 2 * la))]) Bx hml E hP hD hS (by omega) h9_125 rfl (m_Rd_readRepetition_6Y l hlt hn hT hf hRX119 (by omega) (u := u1) (A := A1) her135 hsr136 (by omega) (by omega) hlka ⟨⟨Ec, by omega, h238⟩, Or.inl h239⟩ h239 (by rw [eg118]; exact hbg2)) kw_439 kw_441 sel_Rd_readRepetition kw_6 kw_442 (by decide +kernel) ⟨rfl, rfl⟩ ⟨Nat.le_of_ble_eq_true rfl, Nat.le_of_ble_eq_true rfl⟩ rfl hl.1 (Nat.le_of_ble_eq_true rfl) d_Rd_readSequence_48 ⟨Nat.le_of_ble_eq_true rfl, Nat.le_of_ble_eq_true rfl⟩ (fun X ce q9 memx H locs hx9 hP hS g1 g2 g3 => f_out hlocks hno hP hS g1 g2 g3 ⟨Nat.le_of_ble_eq_true rfl, Nat.le_of_ble_eq_true rfl⟩ ⟨hx9.1, hsq.1.1.fai (go_rept hbg2 hgt2) (by rw [← eg118]; exact hx9.2)⟩) (fun r147 mem148 H locs hq hP hS => ?_)
              have hD : va_D (Az sz) (fw n ad mem148) := fw_D hD
              obtain ⟨kx149, ax150, ux151, Rx152, Ex153, Sx154, Ax155, Bx_156, nx157, tox158, hr9159, h1160, h2161, h3162, h4163, h5164, htk165, hRX166, rds167, h8168⟩ := hq
              subst hr9159
              obtain ⟨ft169, h9_170⟩ := hRX166.2.1
              have h1_171 : mem148 1 = .inr (0, [.ref (ad 2), .int (nI Z)]) := (hRX166.1.2.2 1 (by omega)).trans hT.1
              have h2_172 : mem148 2 = .inl (cy 0, 240, .inl f) := (hRX166.1.2.2 2 (by omega)).trans hT.2.2
              have h5_173 := hRX166.1.1.2.1
              have hbd179 := hRX166.1.1.1
              obtain ⟨S174, g175, hS_176, h220_177, h221_178⟩ := hRX166.1.1.2.2.2.2.2.2
              have hbd180 := hRX166.1.1.1
              have hce181 := (rds167.2.1 la (by omega)).1
              refine f_putN Bx hP hD hS (by omega) hce181 rfl inEl tyEl okEl nmEl 5 (by decide) kw_91 rfl rfl rfl rfl (Nat.le_of_ble_eq_true rfl) d_Rd_readSequence_51 (fun H locs hP hS => ?_)
              obtain ⟨mem182, e_mem182⟩ : ∃ z, z = va_up mem148 ((20 + 2 * la)) (.inr (2, [.int (Bx_156 228 la), .int (Bx_156 229 la), .int (Bx_156 230 la), vR ad (Bx_156 231 la), vE ad (Bx_156 232 la), .ref (ad (20 + 2 * kx149)), .ref (ad (21 + 2 * la))])) := ⟨_, rfl⟩
              have hP : va_P D vcl (fw n ad mem182) H := by rw [e_mem182]; exact hP
              have hD : va_D (Az sz) (fw n ad mem182) := fw_D hD
              have h_mem182 : mem182 ((20 + 2 * la)) = .inr (2, [.int (Bx_156 228 la), .int (Bx_156 229 la), .int (Bx_156 230 la), vR ad (Bx_156 231 la), vE ad (Bx_156 232 la), .ref (ad (20 + 2 * kx149)), .ref (ad (21 + 2 * la))]) := by rw [e_mem182, va_up_self]
              have hh183 := (va_up_ne mem148 (.inr (2, [.int (Bx_156 228 la), .int (Bx_156 229 la), .int (Bx_156 230 la), vR ad (Bx_156 231 la), vE ad (Bx_156 232 la), .ref (ad (20 + 2 * kx149)), .ref (ad (21 + 2 * la))])) (show (222 : Nat) ≠ (20 + 2 * la) by first | decide | assumption | omega)).trans h9_170
              rw [← e_mem182] at hh183
              have hh184 := (va_up_ne mem148 (.inr (2, [.int (Bx_156 228 la), .int (Bx_156 229 la), .int (Bx_156 230 la), vR ad (Bx_156 231 la), vE ad (Bx_156 232 la), .ref (ad (20 + 2 * kx149)), .ref (ad (21 + 2 * la))])) (show (1 : Nat) ≠ (20 + 2 * la) by first | decide | assumption | omega)).trans h1_171
              rw [← e_mem182] at hh184
              have hh185 := (va_up_ne mem148 (.inr (2, [.int (Bx_156 228 la), .int (Bx_156 229 la), .int (Bx_156 230 la), vR ad (Bx_156 231 la), vE ad (Bx_156 232 la), .ref (ad (20 + 2 * kx149)), .ref (ad (21 + 2 * la))])) (show (5 : Nat) ≠ (20 + 2 * la) by first | decide | assumption | omega)).trans h5_173
              rw [← e_mem182] at hh185
              have hh186 := (va_up_ne mem148 (.inr (2, [.int (Bx_156 228 la), .int (Bx_156 229 la), .int (Bx_156 230 la), vR ad (Bx_156 231 la), vE ad (Bx_156 232 la), .ref (ad (20 + 2 * kx149)), .ref (ad (21 + 2 * la))])) (show (220 : Nat) ≠ (20 + 2 * la) by first | decide | assumption | omega)).trans h220_177
              rw [← e_mem182] at hh186
              have hRX187 : RX cy ad lim (ax150) (Rx152) (Ex153) (tox158) (nx157) m0 mem182 := by rw [e_mem182]; exact hRX166.el (by omega) (hRX166.1.mk (by omega) (hRX166.1.1.upEl (by omega) (fun _ => ⟨(rds167.2.1 la (by omega)).2.1.oR ad, (rds167.2.1 la (by omega)).2.2.1.oE ad (by omega), Or.inr ⟨kx149, by omega, by omega, rfl⟩⟩)))
              have her188 : ER ad (Rx152) (Ex153) (va_up Bx_156 233 (upd (Bx_156 233) la (nI kx149))) mem182 := rds167.2.1.next (by omega) (by omega) (by omega) h_mem182 (fun i9 q9 hi9 => by rw [e_mem182]; exact va_up_ne _ _ (by omega))
              have hsr189 : SR cy ad (Sx154) (Bx_156) mem182 := ⟨(show mem182 220 = mem148 220 by rw [e_mem182]; exact va_up_ne _ _ (by omega)).trans rds167.2.2.1.1, (show mem182 221 = mem148 221 by rw [e_mem182]; exact va_up_ne _ _ (by omega)).trans rds167.2.2.1.2⟩
              obtain ⟨ft190, h9_191⟩ := hRX187.2.1
              have h1_192 : mem182 1 = .inr (0, [.ref (ad 2), .int (nI Z)]) := (hRX187.1.2.2 1 (by omega)).trans hT.1
              have h2_193 : mem182 2 = .inl (cy 0, 240, .inl f) := (hRX187.1.2.2 2 (by omega)).trans hT.2.2
              have h5_194 := hRX187.1.1.2.1
              have hbd200 := hRX187.1.1.1
              obtain ⟨S195, g196, hS_197, h220_198, h221_199⟩ := hRX187.1.1.2.2.2.2.2.2
              refine lv_aload_n Bx.1 Bx.2.1 d_Rd_readSequence_54 rfl (lv_at hl 1 rfl) ?_
              refine f_getN Bx hP (by omega) h_mem182 rfl inEl 5 (by decide) kw_91 rfl rfl d_Rd_readSequence_55 ?_
              refine lv_astore_n (lv' := [(3, .ref (ad (20 + 2 * kx149))), (4, .int (nI k9)), (2, .ref (ad (20 + 2 * Ec))), (0, .ref (ad 222)), (1, .int (6))]) Bx.1 Bx.2.1 d_Rd_readSequence_58 rfl hl (by decide) rfl (fun ls hl => ?_)
              refine lv_iinc (lv' := [(4, .int ((nI k9 + (1)))), (3, .ref (ad (20 + 2 * kx149))), (2, .ref (ad (20 + 2 * Ec))), (0, .ref (ad 222)), (1, .int (6))]) Bx.1 Bx.2.1 d_Rd_readSequence_59 hl (k := 1) rfl rfl (by decide) rfl (fun ls hl => ?_)
              rw [show (nI k9 + (1) : Int32) = nI (k9 + 1) from nI_1 (k9)] at hl
              refine lv_goto Bx.1 Bx.2.1 d_Rd_readSequence_62 rfl ?_
              have hsq3 := seq_step hsq (by omega) hlka (by omega) hsl9 rds167 h8168 ⟨by omega, by omega⟩ (by omega) (by rw [eg118]; exact go_rept hbg2 hgt2) her188 hsr189
              exact ih99 mem182 (ax150) (ux151) (Rx152) (Ex153) (Sx154) (Ax155) ((va_up Bx_156 233 (upd (Bx_156 233) la (nI kx149)))) (nx157) (tox158) (kx149) (k9 + 1) _ _ _ (by have := hmeas100; omega) (hRX187) (⟨by omega, by omega, by omega, by omega, by omega⟩) (hsq3) (hz98.trans htk165 (by omega)) hP hD hS (lv_sub hl [0, 1, 2, 3, 4] rfl)
        · subst hr137
          refine lv_if_eq Bx.1 Bx.2.1 d_Rd_readSequence_32 rfl (fun hb201 => ?_) (fun hb201 => ?_)
          · refine lv_aload_n Bx.1 Bx.2.1 d_Rd_readSequence_65 rfl (lv_at hl 2 rfl) ?_
            exact x_aret hx hb hlocks hr (⟨a1, u1, R1, E1, S1, A1, B1, n1, to1, rfl, by omega, by omega, by omega, by omega, hz98, by rw [← eg118]; exact hRX119, ⟨hsq.1.1, her135, hsr136, hsq.1.2.2.2⟩, fun z => by have := z.2; rw [← eg118] at this; omega⟩) hP hS d_Rd_readSequence_66
          · exact absurd hb201 (by decide)
  exact loop93 _ mem74 (ax42) (ux43) (Rx44) (Ex45) (Sx46) (Ax47) ((va_up Bx_48 232 (upd (Bx_48 232) Ec (nI kx41)))) (nx49) (tox50) (kx41) (0) _ _ _ (Nat.lt_succ_self _) (hRX79) (⟨by omega, by omega, by omega, by omega, by omega⟩) (hsq0) (htk57) hP hD hS (lv_sub hl [0, 1, 2, 3, 4] rfl)
set_option maxHeartbeats 4000000 in
set_option maxRecDepth 100000 in
theorem m_Rd_readAlternatives_6Y (l : Launch) {D : va_G} {cy : Nat → ClassId} {sz n : Nat} {ad : Nat → Nat} {mem : Nat → va_E} {Z a R Ec lim : Nat} {f T : Nat → Int32} {to : Nat → Int32} {nm : Nat → Int64} {m0 : Nat → va_E} {u S : Nat} {A Bw : Ro} {cq : Nat} (hlt : l.stackTraces = false) (hn : 224 ≤ n) (hT : TX cy ad Z f m0) (hf : ∀ k, k < Z → f k = T k) (hRX : RX cy ad lim a R Ec to nm m0 mem) (haB : a ≤ 300) (hER : ER ad R Ec Bw mem) (hSR : SR cy ad S Bw mem) (hSa : S ≤ a) (haZ : a ≤ Z) (hLK : LKa (Ec + 1) A) (hc : A 237 6 = nI cq) (hcl : cq ≤ Ec) (h39 : A 239 6 = -1) : NXr l D cy sz n ad y_Rd_readAlternatives c_Rd_readAlternatives 5 (some (.object "AbnfChart$Element")) ({ frames := 19, cells := 1, slots := 6, locals := 438 } : Room) mem [.ref (ad 222), .int (6)] (fun r mem' => ∃ (la a' u' R' E' S' : Nat) (A' Bw' : Ro) (nm' : Nat → Int64) (to' : Nat → Int32), r = ad (20 + 2 * Ec) ∧ Ec + 1 < E' ∧ R ≤ R' ∧ a < a' ∧ a' ≤ Z ∧ TOK R R' to to' ∧ RX cy ad lim (gapF T Z a') R' E' to' nm' m0 mem' ∧ ALI cy ad T Z 6 (seqS T Z a u R (Ec + 1) 6 A nm) cq R Ec S u A Bw la a' u' R' E' S' A' Bw' nm' mem' ∧ bgF (hereF Z T a) = true ∧ Ec < 100 ∧ ¬ hereF Z T (gapF T Z a') = 47 ∧ ¬ (bgF (hereF Z T (gapF T Z a')) = true ∧ a' < gapF T Z a')) (fun X mem' => ((X = cIA ∨ X = cIS) ∧ ∃ rc' ec' : Nat, RS cy ad lim rc' ec' m0 mem') ∧ (bgF (hereF Z T a) = false ∨ Ec = 100 ∨ (bgF (hereF Z T a) = true ∧ Ec < 100 ∧ Fai T Z (seqS T Z a u R (Ec + 1) 6 A nm)))) := by
  refine vx_ofW (cc := c_Rd_readAlternatives) (maxL := 5) (ret := (some (.object "AbnfChart$Element"))) (by decide) rfl ?_
  intro p e s m args below meth c s₁ B hml hno hv
  obtain ⟨rfl, E, hP, hD⟩ := hv
  have hx := B.exec
  have hb := B.bytes
  have hr := B.returns
  have hlocks := B.notSynchronized
  have Bx : MB p s m [.ref (ad 222), .int (6)].toArray c c_Rd_readAlternatives "AbnfChart$Reader" D cy := ⟨hx, hb, tb_all (atoms_spec B.pre) E.2.1, findClass_of_methodNamed B.named, E.1⟩
  have hS : va_S (Az sz) s.heap s.heap [] := va_S.rf
  have hl := lv_entry ([.ref (ad 222), .int (6)]) (n := 5) (Nat.le_of_ble_eq_true rfl)
  rw [lg_entry_eq]
  generalize (lg_sl ([.ref (ad 222), .int (6)]) ++ List.replicate (5 - (lg_sl ([.ref (ad 222), .int (6)])).length) Slot.unset).toArray = ls at hl ⊢
  have hl : lv_has ls 5 [(0, .ref (ad 222)), (1, .int (6))] := hl
  have hZ9 := hT.2.1
  have hbd9 := hRX.1.1.1
  have hfr0 : ∀ i, 19 ≤ i ∧ i < 222 ∧ i ≠ 20 + 2 * Ec → mem i = mem i := fun _ _ => rfl
  obtain ⟨ft1, h9_2⟩ := hRX.2.1
  have h1_3 : mem 1 = .inr (0, [.ref (ad 2), .int (nI Z)]) := (hRX.1.2.2 1 (by omega)).trans hT.1
  have h2_4 : mem 2 = .inl (cy 0, 240, .inl f) := (hRX.1.2.2 2 (by omega)).trans hT.2.2
  have h5_5 := hRX.1.1.2.1
  have hbd11 := hRX.1.1.1
  obtain ⟨S6, g7, hS_8, h220_9, h221_10⟩ := hRX.1.1.2.2.2.2.2.2
  refine lv_aload_n Bx.1 Bx.2.1 d_Rd_readAlternatives_0 rfl (lv_at hl 0 rfl) ?_
  refine lv_iconst (v := 0) Bx.1 Bx.2.1 d_Rd_readAlternatives_1 (by decide) ?_
  refine f_xVr (na := 1) (As := [.int (0)]) (rest := []) Bx hml E hP hD hS (by omega) h9_2 rfl (m_Rd_beginRowY l hlt hn hT hf hRX (by omega)) kw_409 kw_411 sel_Rd_beginRow kw_6 kw_412 (by decide +kernel) ⟨rfl, rfl⟩ ⟨Nat.le_of_ble_eq_true rfl, Nat.le_of_ble_eq_true rfl⟩ rfl hl.1 (Nat.le_of_ble_eq_true rfl) d_Rd_readAlternatives_2 ⟨Nat.le_of_ble_eq_true rfl, Nat.le_of_ble_eq_true rfl⟩ (fun X ce q9 memx H locs hx9 hP hS g1 g2 g3 => f_out hlocks hno hP hS g1 g2 g3 ⟨Nat.le_of_ble_eq_true rfl, Nat.le_of_ble_eq_true rfl⟩ ⟨hx9.1, hx9.2.elim Or.inl (fun z => Or.inr (Or.inl z))⟩) (fun r12 mem13 H locs hq hP hS => ?_)
  have hD : va_D (Az sz) (fw n ad mem13) := fw_D hD
  obtain ⟨hbg, hE9, hr9, hRXb, hclb, hfab⟩ := hq
  subst hr9
  have hfr14 : ∀ i, 19 ≤ i ∧ i < 222 ∧ i ≠ 20 + 2 * Ec → mem13 i = mem i := fun i q => (hfab i (by omega)).trans (hfr0 i q)
  obtain ⟨ft15, h9_16⟩ := hRXb.2.1
  have h1_17 : mem13 1 = .inr (0, [.ref (ad 2), .int (nI Z)]) := (hRXb.1.2.2 1 (by omega)).trans hT.1
  have h2_18 : mem13 2 = .inl (cy 0, 240, .inl f) := (hRXb.1.2.2 2 (by omega)).trans hT.2.2
  have h5_19 := hRXb.1.1.2.1
  have hbd25 := hRXb.1.1.1
  obtain ⟨S20, g21, hS_22, h220_23, h221_24⟩ := hRXb.1.1.2.2.2.2.2.2
  obtain ⟨ft26, h9_27⟩ := hRXb.2.1
  have h1_28 : mem13 1 = .inr (0, [.ref (ad 2), .int (nI Z)]) := (hRXb.1.2.2 1 (by omega)).trans hT.1
  have h2_29 : mem13 2 = .inl (cy 0, 240, .inl f) := (hRXb.1.2.2 2 (by omega)).trans hT.2.2
  have h5_30 := hRXb.1.1.2.1
  have hbd36 := hRXb.1.1.1
  obtain ⟨S31, g32, hS_33, h220_34, h221_35⟩ := hRXb.1.1.2.2.2.2.2.2
  refine lv_astore_n (lv' := [(2, .ref (ad (20 + 2 * Ec))), (0, .ref (ad 222)), (1, .int (6))]) Bx.1 Bx.2.1 d_Rd_readAlternatives_5 rfl hl (by decide) rfl (fun ls hl => ?_)
  refine lv_aload_n Bx.1 Bx.2.1 d_Rd_readAlternatives_6 rfl (lv_at hl 1 rfl) ?_
  refine lv_iload_n Bx.1 Bx.2.1 d_Rd_readAlternatives_7 rfl (lv_at hl 2 rfl) ?_
  have her37 : ER ad R (Ec + 1) (bwN Bw Ec 0 (0) (0) (-1) (-1) (-1) (Bw 234)) mem13 := hER.new (Nat.le_refl _) (by rw [vR_m]; exact hclb) (Or.inl rfl) (fun i9 hi9 => hfr14 (20 + 2 * i9) (by omega))
  have hsr38 : SR cy ad S (bwN Bw Ec 0 (0) (0) (-1) (-1) (-1) (Bw 234)) mem13 := ⟨(hfr14 220 (by omega)).trans hSR.1, (hfr14 221 (by omega)).trans hSR.2⟩
  refine f_xVr (na := 1) (As := [.int (6)]) (rest := []) Bx hml E hP hD hS (by omega) h9_27 rfl (m_Rd_readSequence_6Y l hlt hn hT hf hRXb (by omega) (u := u) (A := A) her37 hsr38 (by omega) (by omega) hLK hc (by omega) h39) kw_435 kw_437 sel_Rd_readSequence kw_6 kw_438 (by decide +kernel) ⟨rfl, rfl⟩ ⟨Nat.le_of_ble_eq_true rfl, Nat.le_of_ble_eq_true rfl⟩ rfl hl.1 (Nat.le_of_ble_eq_true rfl) d_Rd_readAlternatives_8 ⟨Nat.le_of_ble_eq_true rfl, Nat.le_of_ble_eq_true rfl⟩ (fun X ce q9 memx H locs hx9 hP hS g1 g2 g3 => f_out hlocks hno hP hS g1 g2 g3 ⟨Nat.le_of_ble_eq_true rfl, Nat.le_of_ble_eq_true rfl⟩ ⟨hx9.1, Or.inr (Or.inr ⟨hbg, hE9, hx9.2⟩)⟩) (fun r39 mem40 H locs hq hP hS => ?_)
  have hD : va_D (Az sz) (fw n ad mem40) := fw_D hD
  obtain ⟨ax41, ux42, Rx43, Ex44, Sx45, Ax46, Bx_47, nx48, tox49, hr950, h251, h352, h453, h554, htk55, hRX56, rds57, hnb58⟩ := hq
  subst hr950
  obtain ⟨g59, eg60⟩ : ∃ z, z = gapF T Z ax41 := ⟨_, rfl⟩
  have hg61 : ax41 ≤ g59 := by rw [eg60]; exact gapF_ge T Z _
  have hg62 : g59 ≤ Z := by rw [eg60]; exact gapF_le T (by omega)
  rw [← eg60] at hRX56
  obtain ⟨ft63, h9_64⟩ := hRX56.2.1
  have h1_65 : mem40 1 = .inr (0, [.ref (ad 2), .int (nI Z)]) := (hRX56.1.2.2 1 (by omega)).trans hT.1
  have h2_66 : mem40 2 = .inl (cy 0, 240, .inl f) := (hRX56.1.2.2 2 (by omega)).trans hT.2.2
  have h5_67 := hRX56.1.1.2.1
  have hbd73 := hRX56.1.1.1
  obtain ⟨S68, g69, hS_70, h220_71, h221_72⟩ := hRX56.1.1.2.2.2.2.2.2
  have hbd74 := hRX56.1.1.1
  refine lv_astore_n (lv' := [(3, .ref (ad (20 + 2 * (Ec + 1)))), (2, .ref (ad (20 + 2 * Ec))), (0, .ref (ad 222)), (1, .int (6))]) Bx.1 Bx.2.1 d_Rd_readAlternatives_11 rfl hl (by decide) rfl (fun ls hl => ?_)
  refine lv_aload_n Bx.1 Bx.2.1 d_Rd_readAlternatives_12 rfl (lv_at hl 1 rfl) ?_
  refine lv_aload_n Bx.1 Bx.2.1 d_Rd_readAlternatives_13 rfl (lv_at hl 0 rfl) ?_
  have hce75 := (rds57.2.1 Ec (by omega)).1
  refine f_putN Bx hP hD hS (by omega) hce75 rfl inEl tyEl okEl nmEl 4 (by decide) kw_87 rfl rfl rfl rfl (Nat.le_of_ble_eq_true rfl) d_Rd_readAlternatives_14 (fun H locs hP hS => ?_)
  obtain ⟨mem76, e_mem76⟩ : ∃ z, z = va_up mem40 ((20 + 2 * Ec)) (.inr (2, [.int (Bx_47 228 Ec), .int (Bx_47 229 Ec), .int (Bx_47 230 Ec), vR ad (Bx_47 231 Ec), .ref (ad (20 + 2 * (Ec + 1))), vE ad (Bx_47 233 Ec), .ref (ad (21 + 2 * Ec))])) := ⟨_, rfl⟩
  have hP : va_P D vcl (fw n ad mem76) H := by rw [e_mem76]; exact hP
  have hD : va_D (Az sz) (fw n ad mem76) := fw_D hD
  have h_mem76 : mem76 ((20 + 2 * Ec)) = .inr (2, [.int (Bx_47 228 Ec), .int (Bx_47 229 Ec), .int (Bx_47 230 Ec), vR ad (Bx_47 231 Ec), .ref (ad (20 + 2 * (Ec + 1))), vE ad (Bx_47 233 Ec), .ref (ad (21 + 2 * Ec))]) := by rw [e_mem76, va_up_self]
  have hh77 := (va_up_ne mem40 (.inr (2, [.int (Bx_47 228 Ec), .int (Bx_47 229 Ec), .int (Bx_47 230 Ec), vR ad (Bx_47 231 Ec), .ref (ad (20 + 2 * (Ec + 1))), vE ad (Bx_47 233 Ec), .ref (ad (21 + 2 * Ec))])) (show (222 : Nat) ≠ (20 + 2 * Ec) by first | decide | assumption | omega)).trans h9_64
  rw [← e_mem76] at hh77
  have hh78 := (va_up_ne mem40 (.inr (2, [.int (Bx_47 228 Ec), .int (Bx_47 229 Ec), .int (Bx_47 230 Ec), vR ad (Bx_47 231 Ec), .ref (ad (20 + 2 * (Ec + 1))), vE ad (Bx_47 233 Ec), .ref (ad (21 + 2 * Ec))])) (show (1 : Nat) ≠ (20 + 2 * Ec) by first | decide | assumption | omega)).trans h1_65
  rw [← e_mem76] at hh78
  have hh79 := (va_up_ne mem40 (.inr (2, [.int (Bx_47 228 Ec), .int (Bx_47 229 Ec), .int (Bx_47 230 Ec), vR ad (Bx_47 231 Ec), .ref (ad (20 + 2 * (Ec + 1))), vE ad (Bx_47 233 Ec), .ref (ad (21 + 2 * Ec))])) (show (5 : Nat) ≠ (20 + 2 * Ec) by first | decide | assumption | omega)).trans h5_67
  rw [← e_mem76] at hh79
  have hh80 := (va_up_ne mem40 (.inr (2, [.int (Bx_47 228 Ec), .int (Bx_47 229 Ec), .int (Bx_47 230 Ec), vR ad (Bx_47 231 Ec), .ref (ad (20 + 2 * (Ec + 1))), vE ad (Bx_47 233 Ec), .ref (ad (21 + 2 * Ec))])) (show (220 : Nat) ≠ (20 + 2 * Ec) by first | decide | assumption | omega)).trans h220_71
  rw [← e_mem76] at hh80
  have hRX81 : RX cy ad lim (g59) (Rx43) (Ex44) (tox49) (nx48) m0 mem76 := by rw [e_mem76]; exact hRX56.el (by omega) (hRX56.1.mk (by omega) (hRX56.1.1.upEl (by omega) (fun _ => ⟨(rds57.2.1 Ec (by omega)).2.1.oR ad, Or.inr ⟨(Ec + 1), by omega, by omega, rfl⟩, (rds57.2.1 Ec (by omega)).2.2.2.oE ad (by omega)⟩)))
  have her82 : ER ad (Rx43) (Ex44) (va_up Bx_47 232 (upd (Bx_47 232) Ec (nI (Ec + 1)))) mem76 := rds57.2.1.part (by omega) (by omega) (by omega) h_mem76 (fun i9 q9 hi9 => by rw [e_mem76]; exact va_up_ne _ _ (by omega))
  have hsr83 : SR cy ad (Sx45) (Bx_47) mem76 := ⟨(show mem76 220 = mem40 220 by rw [e_mem76]; exact va_up_ne _ _ (by omega)).trans rds57.2.2.1.1, (show mem76 221 = mem40 221 by rw [e_mem76]; exact va_up_ne _ _ (by omega)).trans rds57.2.2.1.2⟩
  obtain ⟨ft84, h9_85⟩ := hRX81.2.1
  have h1_86 : mem76 1 = .inr (0, [.ref (ad 2), .int (nI Z)]) := (hRX81.1.2.2 1 (by omega)).trans hT.1
  have h2_87 : mem76 2 = .inl (cy 0, 240, .inl f) := (hRX81.1.2.2 2 (by omega)).trans hT.2.2
  have h5_88 := hRX81.1.1.2.1
  have hbd94 := hRX81.1.1.1
  obtain ⟨S89, g90, hS_91, h220_92, h221_93⟩ := hRX81.1.1.2.2.2.2.2.2
  refine lv_iconst (v := 0) Bx.1 Bx.2.1 d_Rd_readAlternatives_17 (by decide) ?_
  refine lv_istore (lv' := [(4, .int (0)), (3, .ref (ad (20 + 2 * (Ec + 1)))), (2, .ref (ad (20 + 2 * Ec))), (0, .ref (ad 222)), (1, .int (6))]) Bx.1 Bx.2.1 d_Rd_readAlternatives_18 hl (by decide) rfl (fun ls hl => ?_)
  have hal0 := alt_first hLK hE9 hcl rds57 (by omega) (by omega) her82 hsr83
  have loop95 : ∀ (d96 : Nat) (mem9 : Nat → va_E) (a1 : Nat) (u1 : Nat) (R1 : Nat) (E1 : Nat) (S1 : Nat) (A1 : Ro) (B1 : Ro) (n1 : Nat → Int64) (to1 : Nat → Int32) (la : Nat) (k9 : Nat) (ls : Array Slot) (H : Heap) (locs : List Loc), (240 - k9 < d96) → (RX cy ad lim (gapF T Z a1) R1 E1 to1 n1 m0 mem9) → (a < a1 ∧ a1 ≤ Z ∧ R ≤ R1 ∧ k9 < a1 ∧ k9 ≤ 240) → (ALI cy ad T Z 6 (seqS T Z a u R (Ec + 1) 6 A nm) cq R Ec S u A Bw la a1 u1 R1 E1 S1 A1 B1 n1 mem9) → (TOK R R1 to to1) → (¬ (bgF (hereF Z T (gapF T Z a1)) = true ∧ a1 < gapF T Z a1)) → (va_P D vcl (fw n ad mem9) H) → (va_D (Az sz) (fw n ad mem9)) → (va_S (Az sz) s.heap H locs) → (lv_has ls 5 [(4, .int (nI k9)), (3, .ref (ad (20 + 2 * la))), (2, .ref (ad (20 + 2 * Ec))), (0, .ref (ad 222)), (1, .int (6))]) → W p l e (headSpec (Cond.code y_Rd_readAlternatives c_Rd_readAlternatives 5 (some (.object "AbnfChart$Element")) :: tg) ({ frames := 19, cells := 1, slots := 6, locals := 438 } : Room)).room s m [.ref (ad 222), .int (6)].toArray below meth c H locs 0 0 (vx_MQ below (QX (QR (fun r mem' => ∃ (la a' u' R' E' S' : Nat) (A' Bw' : Ro) (nm' : Nat → Int64) (to' : Nat → Int32), r = ad (20 + 2 * Ec) ∧ Ec + 1 < E' ∧ R ≤ R' ∧ a < a' ∧ a' ≤ Z ∧ TOK R R' to to' ∧ RX cy ad lim (gapF T Z a') R' E' to' nm' m0 mem' ∧ ALI cy ad T Z 6 (seqS T Z a u R (Ec + 1) 6 A nm) cq R Ec S u A Bw la a' u' R' E' S' A' Bw' nm' mem' ∧ bgF (hereF Z T a) = true ∧ Ec < 100 ∧ ¬ hereF Z T (gapF T Z a') = 47 ∧ ¬ (bgF (hereF Z T (gapF T Z a')) = true ∧ a' < gapF T Z a')) (PP D n ad) (Az sz))) (XQ D sz n ad (fun X mem' => ((X = cIA ∨ X = cIS) ∧ ∃ rc' ec' : Nat, RS cy ad lim rc' ec' m0 mem') ∧ (bgF (hereF Z T a) = false ∨ Ec = 100 ∨ (bgF (hereF Z T a) = true ∧ Ec < 100 ∧ Fai T Z (seqS T Z a u R (Ec + 1) 6 A nm))))) [.ref (ad 222), .int (6)].toArray s 1 6 (Az sz)) (F0 m 20 ls []) := by
    intro d96
    induction d96 with
    | zero => intro mem9 a1 u1 R1 E1 S1 A1 B1 n1 to1 la k9 ls H locs hmeas103; exact absurd hmeas103 (Nat.not_lt_zero _)
    | succ d96 ih102 =>
      intro mem9 a1 u1 R1 E1 S1 A1 B1 n1 to1 la k9 ls H locs hmeas103 hz97 hz98 hz99 hz100 hz101 hP hD hS hl
      obtain ⟨g1, eg1⟩ : ∃ z, z = gapF T Z a1 := ⟨_, rfl⟩
      rw [← eg1] at hz97
      have hge1 : a1 ≤ g1 := by rw [eg1]; exact gapF_ge T Z _
      have hbd8 := hz98
      have hle1 : g1 ≤ Z := by rw [eg1]; exact gapF_le T (by omega)
      have hal := hz99
      have hbdE := hz97.1.1.1
      have hla := hal.2.2.2.2.2.2.2.2.2.2
      have hSa1 := hal.2.2.2.1.2.1
      have hlka := ali_lka hal hLK hE9 hcl
      obtain ⟨ft104, h9_105⟩ := hz97.2.1
      have h1_106 : mem9 1 = .inr (0, [.ref (ad 2), .int (nI Z)]) := (hz97.1.2.2 1 (by omega)).trans hT.1
      have h2_107 : mem9 2 = .inl (cy 0, 240, .inl f) := (hz97.1.2.2 2 (by omega)).trans hT.2.2
      have h5_108 := hz97.1.1.2.1
      have hbd114 := hz97.1.1.1
      obtain ⟨S109, g110, hS_111, h220_112, h221_113⟩ := hz97.1.1.2.2.2.2.2.2
      refine lv_iload Bx.1 Bx.2.1 d_Rd_readAlternatives_20 (lv_at hl 0 rfl) ?_
      refine lv_sipush (v := 240) Bx.1 Bx.2.1 d_Rd_readAlternatives_22 (by decide) ?_
      refine lv_icmp_ge Bx.1 Bx.2.1 d_Rd_readAlternatives_25 rfl (fun hb115 => ?_) (fun hb115 => ?_)
      · have hN116 : 240 ≤ k9 := (nI_leI (by omega) (by omega)).mp (show nI (240) ≤ nI (k9) from hb115)
        exact absurd hbd8 (by omega)
      · have hN117 : ¬ 240 ≤ k9 := fun q9 => hb115 (show nI (240) ≤ nI (k9) from (nI_leI (by omega) (by omega)).mpr q9)
        refine lv_aload_n Bx.1 Bx.2.1 d_Rd_readAlternatives_28 rfl (lv_at hl 3 rfl) ?_
        refine f_callVi (na := 0) (As := []) (rest := []) Bx hml E hP hD hS (by omega) h9_105 rfl (m_Rd_peekX l hn hT hf hz97 (by omega)) kw_353 kw_355 sel_Rd_peek kw_6 kw_356 (by decide +kernel) ⟨rfl, rfl⟩ ⟨Nat.le_of_ble_eq_true rfl, Nat.le_of_ble_eq_true rfl⟩ rfl hl.1 (Nat.le_of_ble_eq_true rfl) d_Rd_readAlternatives_29 ⟨Nat.le_of_ble_eq_true rfl, Nat.le_of_ble_eq_true rfl⟩ (fun r119 mem120 H locs hq hP hS => ?_)
        have hD : va_D (Az sz) (fw n ad mem120) := fw_D hD
        obtain ⟨hqe, hpk118⟩ := hq
        rw [hqe] at hP hD
        subst hpk118
        refine lv_bipush (v := 47) Bx.1 Bx.2.1 d_Rd_readAlternatives_32 (by decide) ?_
        refine lv_icmp_ne Bx.1 Bx.2.1 d_Rd_readAlternatives_34 rfl (fun hb122 => ?_) (fun hb122 => ?_)
        · refine lv_aload_n Bx.1 Bx.2.1 d_Rd_readAlternatives_72 rfl (lv_at hl 2 rfl) ?_
          exact x_aret hx hb hlocks hr (⟨la, a1, u1, R1, E1, S1, A1, B1, n1, to1, rfl, by omega, by omega, by omega, by omega, hz100, by rw [← eg1]; exact hz97, hal, hbg, hE9, by rw [← eg1]; exact hb122, hz101⟩) hP hS d_Rd_readAlternatives_73
        · have hlt123 := hereF_lt (by rw [hb122]; decide)
          have h47 : hereF Z T (gapF T Z a1) = 47 := by rw [← eg1]; exact hb122
          have h237 : A1 237 6 = nI cq := hal.2.2.2.2.2.2.2.2.1.2.2.1.trans hc
          have h239 : A1 239 6 = -1 := hal.2.2.2.2.2.2.2.2.1.2.2.2
          refine lv_aload_n Bx.1 Bx.2.1 d_Rd_readAlternatives_37 rfl (lv_at hl 3 rfl) ?_
          refine lv_dup Bx.1 Bx.2.1 d_Rd_readAlternatives_38 rfl ?_
          refine f_get Bx hP (by omega) h9_105 rfl inRd 2 (by decide) kw_146 rfl rfl d_Rd_readAlternatives_39 ?_
          refine lv_iconst (v := 1) Bx.1 Bx.2.1 d_Rd_readAlternatives_42 (by decide) ?_
          refine lv_iadd Bx.1 Bx.2.1 d_Rd_readAlternatives_43 ?_
          rw [show nI g1 + 1 = nI (g1 + 1) from nI_add (g1) (1)]
          refine f_put Bx hP hD hS (by omega) h9_105 rfl inRd tyRd okRd nmRd 2 (by decide) kw_146 rfl rfl rfl rfl (Nat.le_of_ble_eq_true rfl) d_Rd_readAlternatives_44 (fun H locs hP hS => ?_)
          obtain ⟨mem124, e_mem124⟩ : ∃ z, z = va_up mem9 (222) (.inr (4, [.ref (ad 1), .ref (ad 5), .int (nI (g1 + 1)), .int (ft104)])) := ⟨_, rfl⟩
          have hP : va_P D vcl (fw n ad mem124) H := by rw [e_mem124]; exact hP
          have hD : va_D (Az sz) (fw n ad mem124) := fw_D hD
          have h_mem124 : mem124 (222) = .inr (4, [.ref (ad 1), .ref (ad 5), .int (nI (g1 + 1)), .int (ft104)]) := by rw [e_mem124, va_up_self]
          have hh125 := (va_up_ne mem9 (.inr (4, [.ref (ad 1), .ref (ad 5), .int (nI (g1 + 1)), .int (ft104)])) (show (1 : Nat) ≠ 222 by first | decide | assumption | omega)).trans h1_106
          rw [← e_mem124] at hh125
          have hh126 := (va_up_ne mem9 (.inr (4, [.ref (ad 1), .ref (ad 5), .int (nI (g1 + 1)), .int (ft104)])) (show (5 : Nat) ≠ 222 by first | decide | assumption | omega)).trans h5_108
          rw [← e_mem124] at hh126
          have hh127 := (va_up_ne mem9 (.inr (4, [.ref (ad 1), .ref (ad 5), .int (nI (g1 + 1)), .int (ft104)])) (show (220 : Nat) ≠ 222 by first | decide | assumption | omega)).trans h220_112
          rw [← e_mem124] at hh127
          have her128 : ER ad (R1) (E1) (B1) mem124 := hal.2.1.fr (Nat.le_refl _) (fun i9 hi9 => by rw [e_mem124]; exact va_up_ne _ _ (by omega))
          have hsr129 : SR cy ad (S1) (B1) mem124 := ⟨(show mem124 220 = _ from by rw [e_mem124]; exact va_up_ne _ _ (by omega)).trans hal.2.2.1.1, (show mem124 221 = _ from by rw [e_mem124]; exact va_up_ne _ _ (by omega)).trans hal.2.2.1.2⟩
          have hRX130 : RX cy ad lim (g1 + 1) (R1) (E1) (to1) (n1) m0 mem124 := by rw [e_mem124]; exact hz97.at
          refine lv_aload_n Bx.1 Bx.2.1 d_Rd_readAlternatives_47 rfl (lv_at hl 3 rfl) ?_
          refine f_callVi (na := 0) (As := []) (rest := []) Bx hml E hP hD hS (by omega) h_mem124 rfl (m_Rd_readGapY l hn hT hf hRX130 (by omega) (by omega)) kw_397 kw_399 sel_Rd_readGap kw_6 kw_400 (by decide +kernel) ⟨rfl, rfl⟩ ⟨Nat.le_of_ble_eq_true rfl, Nat.le_of_ble_eq_true rfl⟩ rfl hl.1 (Nat.le_of_ble_eq_true rfl) d_Rd_readAlternatives_48 ⟨Nat.le_of_ble_eq_true rfl, Nat.le_of_ble_eq_true rfl⟩ (fun r131 mem132 H locs hq hP hS => ?_)
          have hD : va_D (Az sz) (fw n ad mem132) := fw_D hD
          obtain ⟨g133, eg134⟩ : ∃ z, z = gapF T Z (g1 + 1) := ⟨_, rfl⟩
          rw [← eg134] at hq
          obtain ⟨hRX135, hgc136, hfa137⟩ := hq
          have hg138 : g1 + 1 ≤ g133 := by rw [eg134]; exact gapF_ge T Z _
          have hg139 : g133 ≤ Z := by rw [eg134]; exact gapF_le T (by omega)
          obtain ⟨ft140, h9_141⟩ := hRX135.2.1
          have h1_142 : mem132 1 = .inr (0, [.ref (ad 2), .int (nI Z)]) := (hRX135.1.2.2 1 (by omega)).trans hT.1
          have h2_143 : mem132 2 = .inl (cy 0, 240, .inl f) := (hRX135.1.2.2 2 (by omega)).trans hT.2.2
          have h5_144 := hRX135.1.1.2.1
          have hbd150 := hRX135.1.1.1
          obtain ⟨S145, g146, hS_147, h220_148, h221_149⟩ := hRX135.1.1.2.2.2.2.2.2
          have her151 : ER ad (R1) (E1) (B1) mem132 := her128.fr (Nat.le_refl _) (fun i9 hi9 => hfa137 _ (by omega))
          have hsr152 : SR cy ad (S1) (B1) mem132 := ⟨(show mem132 220 = _ from hfa137 _ (by omega)).trans hsr129.1, (show mem132 221 = _ from hfa137 _ (by omega)).trans hsr129.2⟩
          refine lv_pop Bx.1 Bx.2.1 d_Rd_readAlternatives_51 rfl ?_
          refine lv_aload_n Bx.1 Bx.2.1 d_Rd_readAlternatives_52 rfl (lv_at hl 1 rfl) ?_
          refine lv_aload_n Bx.1 Bx.2.1 d_Rd_readAlternatives_53 rfl (lv_at hl 3 rfl) ?_
          refine lv_iload_n Bx.1 Bx.2.1 d_Rd_readAlternatives_54 rfl (lv_at hl 4 rfl) ?_
          refine f_xVr (na := 1) (As := [.int (6)]) (rest := [.ref (ad (20 + 2 * la))]) Bx hml E hP hD hS (by omega) h9_141 rfl (m_Rd_readSequence_6Y l hlt hn hT hf hRX135 (by omega) (u := u1) (A := A1) her151 hsr152 (by omega) (by omega) hlka h237 (by omega) h239) kw_435 kw_437 sel_Rd_readSequence kw_6 kw_438 (by decide +kernel) ⟨rfl, rfl⟩ ⟨Nat.le_of_ble_eq_true rfl, Nat.le_of_ble_eq_true rfl⟩ rfl hl.1 (Nat.le_of_ble_eq_true rfl) d_Rd_readAlternatives_55 ⟨Nat.le_of_ble_eq_true rfl, Nat.le_of_ble_eq_true rfl⟩ (fun X ce q9 memx H locs hx9 hP hS g1 g2 g3 => f_out hlocks hno hP hS g1 g2 g3 ⟨Nat.le_of_ble_eq_true rfl, Nat.le_of_ble_eq_true rfl⟩ ⟨hx9.1, Or.inr (Or.inr ⟨hbg, hE9, hal.1.fai (go_sl h47) (by rw [← eg1, ← eg134]; exact hx9.2)⟩)⟩) (fun r153 mem154 H locs hq hP hS => ?_)
          have hD : va_D (Az sz) (fw n ad mem154) := fw_D hD
          obtain ⟨ax155, ux156, Rx157, Ex158, Sx159, Ax160, Bx_161, nx162, tox163, hr9164, h2165, h3166, h4167, h5168, htk169, hRX170, rds171, hnb172⟩ := hq
          subst hr9164
          obtain ⟨g173, eg174⟩ : ∃ z, z = gapF T Z ax155 := ⟨_, rfl⟩
          have hg175 : ax155 ≤ g173 := by rw [eg174]; exact gapF_ge T Z _
          have hg176 : g173 ≤ Z := by rw [eg174]; exact gapF_le T (by omega)
          rw [← eg174] at hRX170
          obtain ⟨ft177, h9_178⟩ := hRX170.2.1
          have h1_179 : mem154 1 = .inr (0, [.ref (ad 2), .int (nI Z)]) := (hRX170.1.2.2 1 (by omega)).trans hT.1
          have h2_180 : mem154 2 = .inl (cy 0, 240, .inl f) := (hRX170.1.2.2 2 (by omega)).trans hT.2.2
          have h5_181 := hRX170.1.1.2.1
          have hbd187 := hRX170.1.1.1
          obtain ⟨S182, g183, hS_184, h220_185, h221_186⟩ := hRX170.1.1.2.2.2.2.2.2
          have hbd188 := hRX170.1.1.1
          have hce189 := (rds171.2.1 la (by omega)).1
          refine f_putN Bx hP hD hS (by omega) hce189 rfl inEl tyEl okEl nmEl 5 (by decide) kw_91 rfl rfl rfl rfl (Nat.le_of_ble_eq_true rfl) d_Rd_readAlternatives_58 (fun H locs hP hS => ?_)
          obtain ⟨mem190, e_mem190⟩ : ∃ z, z = va_up mem154 ((20 + 2 * la)) (.inr (2, [.int (Bx_161 228 la), .int (Bx_161 229 la), .int (Bx_161 230 la), vR ad (Bx_161 231 la), vE ad (Bx_161 232 la), .ref (ad (20 + 2 * E1)), .ref (ad (21 + 2 * la))])) := ⟨_, rfl⟩
          have hP : va_P D vcl (fw n ad mem190) H := by rw [e_mem190]; exact hP
          have hD : va_D (Az sz) (fw n ad mem190) := fw_D hD
          have h_mem190 : mem190 ((20 + 2 * la)) = .inr (2, [.int (Bx_161 228 la), .int (Bx_161 229 la), .int (Bx_161 230 la), vR ad (Bx_161 231 la), vE ad (Bx_161 232 la), .ref (ad (20 + 2 * E1)), .ref (ad (21 + 2 * la))]) := by rw [e_mem190, va_up_self]
          have hh191 := (va_up_ne mem154 (.inr (2, [.int (Bx_161 228 la), .int (Bx_161 229 la), .int (Bx_161 230 la), vR ad (Bx_161 231 la), vE ad (Bx_161 232 la), .ref (ad (20 + 2 * E1)), .ref (ad (21 + 2 * la))])) (show (222 : Nat) ≠ (20 + 2 * la) by first | decide | assumption | omega)).trans h9_178
          rw [← e_mem190] at hh191
          have hh192 := (va_up_ne mem154 (.inr (2, [.int (Bx_161 228 la), .int (Bx_161 229 la), .int (Bx_161 230 la), vR ad (Bx_161 231 la), vE ad (Bx_161 232 la), .ref (ad (20 + 2 * E1)), .ref (ad (21 + 2 * la))])) (show (1 : Nat) ≠ (20 + 2 * la) by first | decide | assumption | omega)).trans h1_179
          rw [← e_mem190] at hh192
          have hh193 := (va_up_ne mem154 (.inr (2, [.int (Bx_161 228 la), .int (Bx_161 229 la), .int (Bx_161 230 la), vR ad (Bx_161 231 la), vE ad (Bx_161 232 la), .ref (ad (20 + 2 * E1)), .ref (ad (21 + 2 * la))])) (show (5 : Nat) ≠ (20 + 2 * la) by first | decide | assumption | omega)).trans h5_181
          rw [← e_mem190] at hh193
          have hh194 := (va_up_ne mem154 (.inr (2, [.int (Bx_161 228 la), .int (Bx_161 229 la), .int (Bx_161 230 la), vR ad (Bx_161 231 la), vE ad (Bx_161 232 la), .ref (ad (20 + 2 * E1)), .ref (ad (21 + 2 * la))])) (show (220 : Nat) ≠ (20 + 2 * la) by first | decide | assumption | omega)).trans h220_185
          rw [← e_mem190] at hh194
          have hRX195 : RX cy ad lim (g173) (Rx157) (Ex158) (tox163) (nx162) m0 mem190 := by rw [e_mem190]; exact hRX170.el (by omega) (hRX170.1.mk (by omega) (hRX170.1.1.upEl (by omega) (fun _ => ⟨(rds171.2.1 la (by omega)).2.1.oR ad, (rds171.2.1 la (by omega)).2.2.1.oE ad (by omega), Or.inr ⟨E1, by omega, by omega, rfl⟩⟩)))
          have her196 : ER ad (Rx157) (Ex158) (va_up Bx_161 233 (upd (Bx_161 233) la (nI E1))) mem190 := rds171.2.1.next (by omega) (by omega) (by omega) h_mem190 (fun i9 q9 hi9 => by rw [e_mem190]; exact va_up_ne _ _ (by omega))
          have hsr197 : SR cy ad (Sx159) (Bx_161) mem190 := ⟨(show mem190 220 = mem154 220 by rw [e_mem190]; exact va_up_ne _ _ (by omega)).trans rds171.2.2.1.1, (show mem190 221 = mem154 221 by rw [e_mem190]; exact va_up_ne _ _ (by omega)).trans rds171.2.2.1.2⟩
          obtain ⟨ft198, h9_199⟩ := hRX195.2.1
          have h1_200 : mem190 1 = .inr (0, [.ref (ad 2), .int (nI Z)]) := (hRX195.1.2.2 1 (by omega)).trans hT.1
          have h2_201 : mem190 2 = .inl (cy 0, 240, .inl f) := (hRX195.1.2.2 2 (by omega)).trans hT.2.2
          have h5_202 := hRX195.1.1.2.1
          have hbd208 := hRX195.1.1.1
          obtain ⟨S203, g204, hS_205, h220_206, h221_207⟩ := hRX195.1.1.2.2.2.2.2.2
          refine lv_aload_n Bx.1 Bx.2.1 d_Rd_readAlternatives_61 rfl (lv_at hl 1 rfl) ?_
          refine f_getN Bx hP (by omega) h_mem190 rfl inEl 5 (by decide) kw_91 rfl rfl d_Rd_readAlternatives_62 ?_
          refine lv_astore_n (lv' := [(3, .ref (ad (20 + 2 * E1))), (4, .int (nI k9)), (2, .ref (ad (20 + 2 * Ec))), (0, .ref (ad 222)), (1, .int (6))]) Bx.1 Bx.2.1 d_Rd_readAlternatives_65 rfl hl (by decide) rfl (fun ls hl => ?_)
          refine lv_iinc (lv' := [(4, .int ((nI k9 + (1)))), (3, .ref (ad (20 + 2 * E1))), (2, .ref (ad (20 + 2 * Ec))), (0, .ref (ad 222)), (1, .int (6))]) Bx.1 Bx.2.1 d_Rd_readAlternatives_66 hl (k := 1) rfl rfl (by decide) rfl (fun ls hl => ?_)
          rw [show (nI k9 + (1) : Int32) = nI (k9 + 1) from nI_1 (k9)] at hl
          refine lv_goto Bx.1 Bx.2.1 d_Rd_readAlternatives_69 rfl ?_
          have hal3 := alt_step hal (by omega) hLK hlka (by omega) hcl rds171 (by omega) (by omega) (by rw [eg134, eg1]; exact go_sl h47) her196 hsr197
          exact ih102 mem190 (ax155) (ux156) (Rx157) (Ex158) (Sx159) (Ax160) ((va_up Bx_161 233 (upd (Bx_161 233) la (nI E1)))) (nx162) (tox163) (E1) (k9 + 1) _ _ _ (by have := hmeas103; omega) (by rw [← eg174]; exact hRX195) (⟨by omega, by omega, by omega, by omega, by omega⟩) (hal3) (hz100.trans htk169 (by omega)) (hnb172) hP hD hS (lv_sub hl [0, 1, 2, 3, 4] rfl)
  exact loop95 _ mem76 (ax41) (ux42) (Rx43) (Ex44) (Sx45) (Ax46) ((va_up Bx_47 232 (upd (Bx_47 232) Ec (nI (Ec + 1))))) (nx48) (tox49) (Ec + 1) (0) _ _ _ (Nat.lt_succ_self _) (by rw [← eg60]; exact hRX81) (⟨by omega, by omega, by omega, by omega, by omega⟩) (hal0) (htk55) (hnb58) hP hD hS (lv_sub hl [0, 1, 2, 3, 4] rfl)
set_option maxHeartbeats 4000000 in
set_option maxRecDepth 100000 in
theorem m_Rd_readBracket_5Y (l : Launch) {D : va_G} {cy : Nat → ClassId} {sz n : Nat} {ad : Nat → Nat} {mem : Nat → va_E} {Z a R Ec lim : Nat} {f T : Nat → Int32} {to : Nat → Int32} {nm : Nat → Int64} {m0 : Nat → va_E} {u S : Nat} {A Bw : Ro} {what oe en : Int32} (hlt : l.stackTraces = false) (hn : 224 ≤ n) (hT : TX cy ad Z f m0) (hf : ∀ k, k < Z → f k = T k) (hRX : RX cy ad lim a R Ec to nm m0 mem) (haB : a ≤ 300) (hER : ER ad R Ec Bw mem) (hSR : SR cy ad S Bw mem) (hSa : S ≤ a) (haZ : a < Z) (hwe : (what = 1 ∧ en = 41) ∨ (what = 2 ∧ en = 93)) (hLK : LKa Ec A) : NXr l D cy sz n ad y_Rd_readBracket c_Rd_readBracket 4 (some (.object "AbnfChart$Element")) ({ frames := 20, cells := 1, slots := 6, locals := 470 } : Room) mem [.ref (ad 222), .int (5), .int (en)] (fun r mem' => ∃ (la a1 u1 R1 E1 S1 : Nat) (A9 B9 : Ro) (nm1 : Nat → Int64) (to1 : Nat → Int32), r = ad (20 + 2 * Ec) ∧ Ec + 1 < E1 ∧ R ≤ R1 ∧ a + 1 < a1 ∧ gapF T Z a1 + 1 ≤ Z ∧ TOK R R1 to to1 ∧ RX cy ad lim (gapF T Z a1 + 1) R1 E1 to1 nm1 m0 mem' ∧ ALI cy ad T Z 6 (seqS T Z (gapF T Z (a + 1)) u R (Ec + 1) 6 (entA A 6 Ec what oe) nm) Ec R Ec S u (entA A 6 Ec what oe) Bw la a1 u1 R1 E1 S1 A9 B9 nm1 mem' ∧ hereF Z T (gapF T Z a1) = en ∧ entS T Z (a + 1) u R Ec 6 A nm what oe = some (gapF T Z (a + 1), u, R, Ec + 1, 6, (entA A 6 Ec what oe), nm, true)) (fun X mem' => ((X = cIA ∨ X = cIS) ∧ ∃ rc' ec' : Nat, RS cy ad lim rc' ec' m0 mem') ∧ (Fai T Z (entS T Z (a + 1) u R Ec 6 A nm what oe))) := by
  refine vx_ofW (cc := c_Rd_readBracket) (maxL := 4) (ret := (some (.object "AbnfChart$Element"))) (by decide) rfl ?_
  intro p e s m args below meth c s₁ B hml hno hv
  obtain ⟨rfl, E, hP, hD⟩ := hv
  have hx := B.exec
  have hb := B.bytes
  have hr := B.returns
  have hlocks := B.notSynchronized
  have Bx : MB p s m [.ref (ad 222), .int (5), .int (en)].toArray c c_Rd_readBracket "AbnfChart$Reader" D cy := ⟨hx, hb, tb_all (atoms_spec B.pre) E.2.1, findClass_of_methodNamed B.named, E.1⟩
  have hS : va_S (Az sz) s.heap s.heap [] := va_S.rf
  have hl := lv_entry ([.ref (ad 222), .int (5), .int (en)]) (n := 4) (Nat.le_of_ble_eq_true rfl)
  rw [lg_entry_eq]
  generalize (lg_sl ([.ref (ad 222), .int (5), .int (en)]) ++ List.replicate (4 - (lg_sl ([.ref (ad 222), .int (5), .int (en)])).length) Slot.unset).toArray = ls at hl ⊢
  have hl : lv_has ls 4 [(0, .ref (ad 222)), (1, .int (5)), (2, .int (en))] := hl
  have hZ9 := hT.2.1
  have hbd9 := hRX.1.1.1
  have hfr0 : ∀ i, 19 ≤ i ∧ i < 222 → mem i = mem i := fun _ _ => rfl
  obtain ⟨ft1, h9_2⟩ := hRX.2.1
  have h1_3 : mem 1 = .inr (0, [.ref (ad 2), .int (nI Z)]) := (hRX.1.2.2 1 (by omega)).trans hT.1
  have h2_4 : mem 2 = .inl (cy 0, 240, .inl f) := (hRX.1.2.2 2 (by omega)).trans hT.2.2
  have h5_5 := hRX.1.1.2.1
  have hbd11 := hRX.1.1.1
  obtain ⟨S6, g7, hS_8, h220_9, h221_10⟩ := hRX.1.1.2.2.2.2.2.2
  refine lv_aload_n Bx.1 Bx.2.1 d_Rd_readBracket_0 rfl (lv_at hl 0 rfl) ?_
  refine lv_iload_n Bx.1 Bx.2.1 d_Rd_readBracket_1 rfl (lv_at hl 1 rfl) ?_
  refine lv_bipush (v := 6) Bx.1 Bx.2.1 d_Rd_readBracket_2 (by decide) ?_
  refine lv_icmp_ge Bx.1 Bx.2.1 d_Rd_readBracket_4 rfl (fun hb12 => ?_) (fun hb12 => ?_)
  · exact absurd hb12 (by decide)
  · refine lv_iconst (v := 1) Bx.1 Bx.2.1 d_Rd_readBracket_7 (by decide) ?_
    refine lv_goto Bx.1 Bx.2.1 d_Rd_readBracket_8 rfl ?_
    refine lv_aload_n Bx.1 Bx.2.1 d_Rd_readBracket_12 rfl (lv_at hl 0 rfl) ?_
    refine f_get Bx hP (by omega) h9_2 rfl inRd 2 (by decide) kw_146 rfl rfl d_Rd_readBracket_13 ?_
    refine f_xVv (na := 2) (As := [.int (1), .int (nI a)]) (rest := []) Bx hml E hP hD hS (by omega) h9_2 rfl (m_Rd_needRoomX l hlt hn hT hf hRX (by omega)) kw_383 kw_385 sel_Rd_needRoom kw_6 kw_386 (by decide +kernel) ⟨rfl, rfl⟩ ⟨Nat.le_of_ble_eq_true rfl, Nat.le_of_ble_eq_true rfl⟩ rfl hl.1 (Nat.le_of_ble_eq_true rfl) d_Rd_readBracket_16 ⟨Nat.le_of_ble_eq_true rfl, Nat.le_of_ble_eq_true rfl⟩ (fun X ce q9 memx H locs hx9 hP hS g1 g2 g3 => f_out hlocks hno hP hS g1 g2 g3 ⟨Nat.le_of_ble_eq_true rfl, Nat.le_of_ble_eq_true rfl⟩ ⟨hx9.1, absurd hx9.2 (by decide)⟩) (fun mem14 H locs hq hP hS => ?_)
    have hD : va_D (Az sz) (fw n ad mem14) := fw_D hD
    obtain ⟨hqe, hg15⟩ := hq
    rw [hqe] at hP hD
    refine lv_aload_n Bx.1 Bx.2.1 d_Rd_readBracket_19 rfl (lv_at hl 0 rfl) ?_
    refine lv_dup Bx.1 Bx.2.1 d_Rd_readBracket_20 rfl ?_
    refine f_get Bx hP (by omega) h9_2 rfl inRd 2 (by decide) kw_146 rfl rfl d_Rd_readBracket_21 ?_
    refine lv_iconst (v := 1) Bx.1 Bx.2.1 d_Rd_readBracket_24 (by decide) ?_
    refine lv_iadd Bx.1 Bx.2.1 d_Rd_readBracket_25 ?_
    rw [show nI a + 1 = nI (a + 1) from nI_add (a) (1)]
    refine f_put Bx hP hD hS (by omega) h9_2 rfl inRd tyRd okRd nmRd 2 (by decide) kw_146 rfl rfl rfl rfl (Nat.le_of_ble_eq_true rfl) d_Rd_readBracket_26 (fun H locs hP hS => ?_)
    obtain ⟨mem16, e_mem16⟩ : ∃ z, z = va_up mem (222) (.inr (4, [.ref (ad 1), .ref (ad 5), .int (nI (a + 1)), .int (ft1)])) := ⟨_, rfl⟩
    have hP : va_P D vcl (fw n ad mem16) H := by rw [e_mem16]; exact hP
    have hD : va_D (Az sz) (fw n ad mem16) := fw_D hD
    have h_mem16 : mem16 (222) = .inr (4, [.ref (ad 1), .ref (ad 5), .int (nI (a + 1)), .int (ft1)]) := by rw [e_mem16, va_up_self]
    have hh17 := (va_up_ne mem (.inr (4, [.ref (ad 1), .ref (ad 5), .int (nI (a + 1)), .int (ft1)])) (show (1 : Nat) ≠ 222 by first | decide | assumption | omega)).trans h1_3
    rw [← e_mem16] at hh17
    have hh18 := (va_up_ne mem (.inr (4, [.ref (ad 1), .ref (ad 5), .int (nI (a + 1)), .int (ft1)])) (show (5 : Nat) ≠ 222 by first | decide | assumption | omega)).trans h5_5
    rw [← e_mem16] at hh18
    have hh19 := (va_up_ne mem (.inr (4, [.ref (ad 1), .ref (ad 5), .int (nI (a + 1)), .int (ft1)])) (show (220 : Nat) ≠ 222 by first | decide | assumption | omega)).trans h220_9
    rw [← e_mem16] at hh19
    have hfr20 : ∀ i, 19 ≤ i ∧ i < 222 → mem16 i = mem i := fun i q => (show mem16 i = mem i by rw [e_mem16]; exact va_up_ne _ _ (by omega)).trans (hfr0 i q)
    have hRX21 : RX cy ad lim (a + 1) (R) (Ec) (to) (nm) m0 mem16 := by rw [e_mem16]; exact hRX.at
    refine lv_aload_n Bx.1 Bx.2.1 d_Rd_readBracket_29 rfl (lv_at hl 0 rfl) ?_
    refine f_callVi (na := 0) (As := []) (rest := []) Bx hml E hP hD hS (by omega) h_mem16 rfl (m_Rd_readGapY l hn hT hf hRX21 (by omega) (by omega)) kw_397 kw_399 sel_Rd_readGap kw_6 kw_400 (by decide +kernel) ⟨rfl, rfl⟩ ⟨Nat.le_of_ble_eq_true rfl, Nat.le_of_ble_eq_true rfl⟩ rfl hl.1 (Nat.le_of_ble_eq_true rfl) d_Rd_readBracket_30 ⟨Nat.le_of_ble_eq_true rfl, Nat.le_of_ble_eq_true rfl⟩ (fun r22 mem23 H locs hq hP hS => ?_)
    have hD : va_D (Az sz) (fw n ad mem23) := fw_D hD
    obtain ⟨g24, eg25⟩ : ∃ z, z = gapF T Z (a + 1) := ⟨_, rfl⟩
    rw [← eg25] at hq
    obtain ⟨hRX26, hgc27, hfa28⟩ := hq
    have hg29 : a + 1 ≤ g24 := by rw [eg25]; exact gapF_ge T Z _
    have hg30 : g24 ≤ Z := by rw [eg25]; exact gapF_le T (by omega)
    have hfr31 : ∀ i, 19 ≤ i ∧ i < 222 → mem23 i = mem i := fun i q => (hfa28 i (by omega)).trans (hfr20 i q)
    obtain ⟨ft32, h9_33⟩ := hRX26.2.1
    have h1_34 : mem23 1 = .inr (0, [.ref (ad 2), .int (nI Z)]) := (hRX26.1.2.2 1 (by omega)).trans hT.1
    have h2_35 : mem23 2 = .inl (cy 0, 240, .inl f) := (hRX26.1.2.2 2 (by omega)).trans hT.2.2
    have h5_36 := hRX26.1.1.2.1
    have hbd42 := hRX26.1.1.1
    obtain ⟨S37, g38, hS_39, h220_40, h221_41⟩ := hRX26.1.1.2.2.2.2.2.2
    refine lv_pop Bx.1 Bx.2.1 d_Rd_readBracket_33 rfl ?_
    refine lv_aload_n Bx.1 Bx.2.1 d_Rd_readBracket_34 rfl (lv_at hl 0 rfl) ?_
    refine lv_iload_n Bx.1 Bx.2.1 d_Rd_readBracket_35 rfl (lv_at hl 1 rfl) ?_
    refine lv_iconst (v := 1) Bx.1 Bx.2.1 d_Rd_readBracket_36 (by decide) ?_
    refine lv_iadd Bx.1 Bx.2.1 d_Rd_readBracket_37 ?_
    rw [show (5 + 1 : Int32) = 6 from rfl]
    have her43 : ER ad R Ec Bw mem23 := hER.fr (Nat.le_refl _) (fun i9 hi9 => hfr31 (20 + 2 * i9) (by omega))
    have hsr44 : SR cy ad S Bw mem23 := ⟨(hfr31 220 (by omega)).trans hSR.1, (hfr31 221 (by omega)).trans hSR.2⟩
    refine f_xVr (na := 1) (As := [.int (6)]) (rest := []) Bx hml E hP hD hS (by omega) h9_33 rfl (m_Rd_readAlternatives_6Y l hlt hn hT hf hRX26 (by omega) (u := u) (A := (entA A 6 Ec what oe)) her43 hsr44 (by omega) (by omega) (ent_lka hLK) (cq := Ec) entA_f.2.2.2.2.2.2.2.1 (Nat.le_refl _) (by rw [entA_f.2.2.2.2.2.2.1, upd_self])) kw_405 kw_407 sel_Rd_readAlternatives kw_6 kw_408 (by decide +kernel) ⟨rfl, rfl⟩ ⟨Nat.le_of_ble_eq_true rfl, Nat.le_of_ble_eq_true rfl⟩ rfl hl.1 (Nat.le_of_ble_eq_true rfl) d_Rd_readBracket_38 ⟨Nat.le_of_ble_eq_true rfl, Nat.le_of_ble_eq_true rfl⟩ (fun X ce q9 memx H locs hx9 hP hS g1 g2 g3 => f_out hlocks hno hP hS g1 g2 g3 ⟨Nat.le_of_ble_eq_true rfl, Nat.le_of_ble_eq_true rfl⟩ ⟨hx9.1, hx9.2.elim (fun z => Or.inl (entS_no (Or.inl (by rw [← eg25]; exact z)))) (fun z => z.elim (fun z => Or.inl (entS_no (Or.inr z))) (fun z => Fai.br0 (by rw [ent_ok (by rw [← eg25]; exact z.1) z.2.1, ← eg25]) z.2.2))⟩) (fun r45 mem46 H locs hq hP hS => ?_)
    have hD : va_D (Az sz) (fw n ad mem46) := fw_D hD
    obtain ⟨la47, ax48, ux49, Rx50, Ex51, Sx52, Ax53, Bx_54, nx55, tox56, hr957, h158, h259, h360, h461, htk62, hRX63, ali64, hbg65, hE66, h4767, hnb68⟩ := hq
    subst hr957
    obtain ⟨g69, eg70⟩ : ∃ z, z = gapF T Z ax48 := ⟨_, rfl⟩
    have hg71 : ax48 ≤ g69 := by rw [eg70]; exact gapF_ge T Z _
    have hg72 : g69 ≤ Z := by rw [eg70]; exact gapF_le T (by omega)
    rw [← eg70] at hRX63
    obtain ⟨ft73, h9_74⟩ := hRX63.2.1
    have h1_75 : mem46 1 = .inr (0, [.ref (ad 2), .int (nI Z)]) := (hRX63.1.2.2 1 (by omega)).trans hT.1
    have h2_76 : mem46 2 = .inl (cy 0, 240, .inl f) := (hRX63.1.2.2 2 (by omega)).trans hT.2.2
    have h5_77 := hRX63.1.1.2.1
    have hbd83 := hRX63.1.1.1
    obtain ⟨S78, g79, hS_80, h220_81, h221_82⟩ := hRX63.1.1.2.2.2.2.2.2
    have hbd84 := hRX63.1.1.1
    have hent : entS T Z (a + 1) u R Ec 6 A nm what oe = some (g24, u, R, Ec + 1, 6, (entA A 6 Ec what oe), nm, true) := by rw [ent_ok (by rw [← eg25]; exact hbg65) hE66, ← eg25]
    have hA5 : Ax53 235 6 = what := by
      obtain ⟨c1, ho, hg, hk, hs⟩ := ali64.1
      rw [hk 6 (by omega), entA_5, upd_self]
    refine lv_astore_n (lv' := [(3, .ref (ad (20 + 2 * Ec))), (0, .ref (ad 222)), (1, .int (5)), (2, .int (en))]) Bx.1 Bx.2.1 d_Rd_readBracket_41 rfl hl (by decide) rfl (fun ls hl => ?_)
    refine lv_aload_n Bx.1 Bx.2.1 d_Rd_readBracket_42 rfl (lv_at hl 1 rfl) ?_
    refine lv_aload_n Bx.1 Bx.2.1 d_Rd_readBracket_43 rfl (lv_at hl 1 rfl) ?_
    refine f_callVi (na := 0) (As := []) (rest := [.ref (ad 222)]) Bx hml E hP hD hS (by omega) h9_74 rfl (m_Rd_peekX l hn hT hf hRX63 (by omega)) kw_353 kw_355 sel_Rd_peek kw_6 kw_356 (by decide +kernel) ⟨rfl, rfl⟩ ⟨Nat.le_of_ble_eq_true rfl, Nat.le_of_ble_eq_true rfl⟩ rfl hl.1 (Nat.le_of_ble_eq_true rfl) d_Rd_readBracket_44 ⟨Nat.le_of_ble_eq_true rfl, Nat.le_of_ble_eq_true rfl⟩ (fun r86 mem87 H locs hq hP hS => ?_)
    have hD : va_D (Az sz) (fw n ad mem87) := fw_D hD
    obtain ⟨hqe, hpk85⟩ := hq
    rw [hqe] at hP hD
    subst hpk85
    refine lv_iload_n Bx.1 Bx.2.1 d_Rd_readBracket_47 rfl (lv_at hl 3 rfl) ?_
    refine lv_icmp_ne Bx.1 Bx.2.1 d_Rd_readBracket_48 rfl (fun hb89 => ?_) (fun hb89 => ?_)
    · refine lv_iconst (v := 0) Bx.1 Bx.2.1 d_Rd_readBracket_55 (by decide) ?_
      refine lv_aload_n Bx.1 Bx.2.1 d_Rd_readBracket_56 rfl (lv_at hl 1 rfl) ?_
      refine f_get Bx hP (by omega) h9_74 rfl inRd 2 (by decide) kw_146 rfl rfl d_Rd_readBracket_57 ?_
      refine f_xVv (na := 2) (As := [.int (0), .int (nI g69)]) (rest := []) Bx hml E hP hD hS (by omega) h9_74 rfl (m_Rd_needReadableX l hlt hn hT hf hRX63 (by omega)) kw_360 kw_362 sel_Rd_needReadable kw_6 kw_363 (by decide +kernel) ⟨rfl, rfl⟩ ⟨Nat.le_of_ble_eq_true rfl, Nat.le_of_ble_eq_true rfl⟩ rfl hl.1 (Nat.le_of_ble_eq_true rfl) d_Rd_readBracket_60 ⟨Nat.le_of_ble_eq_true rfl, Nat.le_of_ble_eq_true rfl⟩ (fun X ce q9 memx H locs hx9 hP hS g1 g2 g3 => f_out hlocks hno hP hS g1 g2 g3 ⟨Nat.le_of_ble_eq_true rfl, Nat.le_of_ble_eq_true rfl⟩ ⟨hx9.1, Fai.br1 hent ali64.1.suc (br_no hwe hA5 (by rw [← eg70]; exact hb89) h4767 hnb68)⟩) (fun mem91 H locs hq hP hS => ?_)
      have hD : va_D (Az sz) (fw n ad mem91) := fw_D hD
      obtain ⟨hqe, hg92⟩ := hq
      rw [hqe] at hP hD
      exact absurd rfl hg92
    · refine lv_iconst (v := 1) Bx.1 Bx.2.1 d_Rd_readBracket_51 (by decide) ?_
      refine lv_goto Bx.1 Bx.2.1 d_Rd_readBracket_52 rfl ?_
      refine lv_aload_n Bx.1 Bx.2.1 d_Rd_readBracket_56 rfl (lv_at hl 1 rfl) ?_
      refine f_get Bx hP (by omega) h9_74 rfl inRd 2 (by decide) kw_146 rfl rfl d_Rd_readBracket_57 ?_
      refine f_xVv (na := 2) (As := [.int (1), .int (nI g69)]) (rest := []) Bx hml E hP hD hS (by omega) h9_74 rfl (m_Rd_needReadableX l hlt hn hT hf hRX63 (by omega)) kw_360 kw_362 sel_Rd_needReadable kw_6 kw_363 (by decide +kernel) ⟨rfl, rfl⟩ ⟨Nat.le_of_ble_eq_true rfl, Nat.le_of_ble_eq_true rfl⟩ rfl hl.1 (Nat.le_of_ble_eq_true rfl) d_Rd_readBracket_60 ⟨Nat.le_of_ble_eq_true rfl, Nat.le_of_ble_eq_true rfl⟩ (fun X ce q9 memx H locs hx9 hP hS g1 g2 g3 => f_out hlocks hno hP hS g1 g2 g3 ⟨Nat.le_of_ble_eq_true rfl, Nat.le_of_ble_eq_true rfl⟩ ⟨hx9.1, absurd hx9.2 (by decide)⟩) (fun mem94 H locs hq hP hS => ?_)
      have hD : va_D (Az sz) (fw n ad mem94) := fw_D hD
      obtain ⟨hqe, hg95⟩ := hq
      rw [hqe] at hP hD
      refine lv_aload_n Bx.1 Bx.2.1 d_Rd_readBracket_63 rfl (lv_at hl 1 rfl) ?_
      refine lv_dup Bx.1 Bx.2.1 d_Rd_readBracket_64 rfl ?_
      refine f_get Bx hP (by omega) h9_74 rfl inRd 2 (by decide) kw_146 rfl rfl d_Rd_readBracket_65 ?_
      refine lv_iconst (v := 1) Bx.1 Bx.2.1 d_Rd_readBracket_68 (by decide) ?_
      refine lv_iadd Bx.1 Bx.2.1 d_Rd_readBracket_69 ?_
      rw [show nI g69 + 1 = nI (g69 + 1) from nI_add (g69) (1)]
      refine f_put Bx hP hD hS (by omega) h9_74 rfl inRd tyRd okRd nmRd 2 (by decide) kw_146 rfl rfl rfl rfl (Nat.le_of_ble_eq_true rfl) d_Rd_readBracket_70 (fun H locs hP hS => ?_)
      obtain ⟨mem96, e_mem96⟩ : ∃ z, z = va_up mem46 (222) (.inr (4, [.ref (ad 1), .ref (ad 5), .int (nI (g69 + 1)), .int (ft73)])) := ⟨_, rfl⟩
      have hP : va_P D vcl (fw n ad mem96) H := by rw [e_mem96]; exact hP
      have hD : va_D (Az sz) (fw n ad mem96) := fw_D hD
      have h_mem96 : mem96 (222) = .inr (4, [.ref (ad 1), .ref (ad 5), .int (nI (g69 + 1)), .int (ft73)]) := by rw [e_mem96, va_up_self]
      have hh97 := (va_up_ne mem46 (.inr (4, [.ref (ad 1), .ref (ad 5), .int (nI (g69 + 1)), .int (ft73)])) (show (1 : Nat) ≠ 222 by first | decide | assumption | omega)).trans h1_75
      rw [← e_mem96] at hh97
      have hh98 := (va_up_ne mem46 (.inr (4, [.ref (ad 1), .ref (ad 5), .int (nI (g69 + 1)), .int (ft73)])) (show (5 : Nat) ≠ 222 by first | decide | assumption | omega)).trans h5_77
      rw [← e_mem96] at hh98
      have hh99 := (va_up_ne mem46 (.inr (4, [.ref (ad 1), .ref (ad 5), .int (nI (g69 + 1)), .int (ft73)])) (show (220 : Nat) ≠ 222 by first | decide | assumption | omega)).trans h220_81
      rw [← e_mem96] at hh99
      have her100 : ER ad (Rx50) (Ex51) (Bx_54) mem96 := ali64.2.1.fr (Nat.le_refl _) (fun i9 hi9 => by rw [e_mem96]; exact va_up_ne _ _ (by omega))
      have hsr101 : SR cy ad (Sx52) (Bx_54) mem96 := ⟨(show mem96 220 = _ from by rw [e_mem96]; exact va_up_ne _ _ (by omega)).trans ali64.2.2.1.1, (show mem96 221 = _ from by rw [e_mem96]; exact va_up_ne _ _ (by omega)).trans ali64.2.2.1.2⟩
      have hRX102 : RX cy ad lim (g69 + 1) (Rx50) (Ex51) (tox56) (nx55) m0 mem96 := by rw [e_mem96]; exact hRX63.at
      refine lv_aload_n Bx.1 Bx.2.1 d_Rd_readBracket_73 rfl (lv_at hl 0 rfl) ?_
      have hal9 : ALI cy ad T Z 6 (seqS T Z (gapF T Z (a + 1)) u R (Ec + 1) 6 (entA A 6 Ec what oe) nm) Ec R Ec S u (entA A 6 Ec what oe) Bw la47 ax48 ux49 Rx50 Ex51 Sx52 Ax53 Bx_54 nx55 mem96 := by rw [← eg25]; exact ⟨ali64.1, her100, hsr101, ali64.2.2.2⟩
      exact x_aret hx hb hlocks hr (⟨la47, ax48, ux49, Rx50, Ex51, Sx52, Ax53, Bx_54, nx55, tox56, rfl, by omega, by omega, by omega, by rw [← eg70]; have := br_lt hwe hb89; omega, htk62, by rw [← eg70]; exact hRX102, hal9, by rw [← eg70]; exact hb89, by rw [← eg25]; exact hent⟩) hP hS d_Rd_readBracket_74
set_option maxHeartbeats 4000000 in
set_option maxRecDepth 100000 in
theorem m_Rd_readOption_5Y (l : Launch) {D : va_G} {cy : Nat → ClassId} {sz n : Nat} {ad : Nat → Nat} {mem : Nat → va_E} {Z a R Ec lim : Nat} {f T : Nat → Int32} {to : Nat → Int32} {nm : Nat → Int64} {m0 : Nat → va_E} {u S : Nat} {A Bw : Ro} (hlt : l.stackTraces = false) (hn : 224 ≤ n) (hT : TX cy ad Z f m0) (hf : ∀ k, k < Z → f k = T k) (hRX : RX cy ad lim a R Ec to nm m0 mem) (haB : a ≤ 300) (hER : ER ad R Ec Bw mem) (hSR : SR cy ad S Bw mem) (hSa : S ≤ a) (haZ : a < Z) (hLK : LKa Ec A) (hF : FRM A 5 Ec) (c91 : hereF Z T a = 91) : NXr l D cy sz n ad y_Rd_readOption c_Rd_readOption 3 (some (.object "AbnfChart$Element")) ({ frames := 21, cells := 1, slots := 6, locals := 493 } : Room) mem [.ref (ad 222), .int (5)] (fun r mem' => ∃ (k' a' u' R' E' S' : Nat) (A' Bw' : Ro) (nm' : Nat → Int64) (to' : Nat → Int32), r = ad (20 + 2 * k') ∧ Ec ≤ k' ∧ k' < E' ∧ R ≤ R' ∧ a < a' ∧ a' ≤ Z ∧ TOK R R' to to' ∧ RX cy ad lim a' R' E' to' nm' m0 mem' ∧ RDS cy ad T Z 5 (singS T Z a u R Ec 5 A nm) (PSf A 5) R Ec S u A Bw k' a' u' R' E' S' A' Bw' nm' mem' ∧ A' 238 5 = A 238 5) (fun X mem' => ((X = cIA ∨ X = cIS) ∧ ∃ rc' ec' : Nat, RS cy ad lim rc' ec' m0 mem') ∧ (Fai T Z (singS T Z a u R Ec 5 A nm))) := by
  refine vx_ofW (cc := c_Rd_readOption) (maxL := 3) (ret := (some (.object "AbnfChart$Element"))) (by decide) rfl ?_
  intro p e s m args below meth c s₁ B hml hno hv
  obtain ⟨rfl, E, hP, hD⟩ := hv
  have hx := B.exec
  have hb := B.bytes
  have hr := B.returns
  have hlocks := B.notSynchronized
  have Bx : MB p s m [.ref (ad 222), .int (5)].toArray c c_Rd_readOption "AbnfChart$Reader" D cy := ⟨hx, hb, tb_all (atoms_spec B.pre) E.2.1, findClass_of_methodNamed B.named, E.1⟩
  have hS : va_S (Az sz) s.heap s.heap [] := va_S.rf
  have hl := lv_entry ([.ref (ad 222), .int (5)]) (n := 3) (Nat.le_of_ble_eq_true rfl)
  rw [lg_entry_eq]
  generalize (lg_sl ([.ref (ad 222), .int (5)]) ++ List.replicate (3 - (lg_sl ([.ref (ad 222), .int (5)])).length) Slot.unset).toArray = ls at hl ⊢
  have hl : lv_has ls 3 [(0, .ref (ad 222)), (1, .int (5))] := hl
  have hZ9 := hT.2.1
  have hbd9 := hRX.1.1.1
  have hfr0 : ∀ i, 19 ≤ i ∧ i < 222 ∧ i ≠ 20 + 2 * Ec → mem i = mem i := fun _ _ => rfl
  obtain ⟨ft1, h9_2⟩ := hRX.2.1
  have h1_3 : mem 1 = .inr (0, [.ref (ad 2), .int (nI Z)]) := (hRX.1.2.2 1 (by omega)).trans hT.1
  have h2_4 : mem 2 = .inl (cy 0, 240, .inl f) := (hRX.1.2.2 2 (by omega)).trans hT.2.2
  have h5_5 := hRX.1.1.2.1
  have hbd11 := hRX.1.1.1
  obtain ⟨S6, g7, hS_8, h220_9, h221_10⟩ := hRX.1.1.2.2.2.2.2.2
  refine lv_aload_n Bx.1 Bx.2.1 d_Rd_readOption_0 rfl (lv_at hl 0 rfl) ?_
  refine lv_iconst (v := 3) Bx.1 Bx.2.1 d_Rd_readOption_1 (by decide) ?_
  refine lv_aload_n Bx.1 Bx.2.1 d_Rd_readOption_2 rfl (lv_at hl 0 rfl) ?_
  refine f_get Bx hP (by omega) h9_2 rfl inRd 2 (by decide) kw_146 rfl rfl d_Rd_readOption_3 ?_
  refine f_xVr (na := 2) (As := [.int (3), .int (nI a)]) (rest := []) Bx hml E hP hD hS (by omega) h9_2 rfl (m_Rd_addElementY l hlt hn hT hf hRX (by omega)) kw_419 kw_421 sel_Rd_addElement kw_6 kw_422 (by decide +kernel) ⟨rfl, rfl⟩ ⟨Nat.le_of_ble_eq_true rfl, Nat.le_of_ble_eq_true rfl⟩ rfl hl.1 (Nat.le_of_ble_eq_true rfl) d_Rd_readOption_6 ⟨Nat.le_of_ble_eq_true rfl, Nat.le_of_ble_eq_true rfl⟩ (fun X ce q9 memx H locs hx9 hP hS g1 g2 g3 => f_out hlocks hno hP hS g1 g2 g3 ⟨Nat.le_of_ble_eq_true rfl, Nat.le_of_ble_eq_true rfl⟩ ⟨hx9.1, Or.inl (sing_o0 (l91 c91).1 c91 (Or.inr hx9.2))⟩) (fun r12 mem13 H locs hq hP hS => ?_)
  have hD : va_D (Az sz) (fw n ad mem13) := fw_D hD
  obtain ⟨hr914, hec15, hRX16, hcl17, hfa18⟩ := hq
  subst hr914
  have hfr19 : ∀ i, 19 ≤ i ∧ i < 222 ∧ i ≠ 20 + 2 * Ec → mem13 i = mem i := fun i q => (hfa18 i (by omega)).trans (hfr0 i q)
  obtain ⟨ft20, h9_21⟩ := hRX16.2.1
  have h1_22 : mem13 1 = .inr (0, [.ref (ad 2), .int (nI Z)]) := (hRX16.1.2.2 1 (by omega)).trans hT.1
  have h2_23 : mem13 2 = .inl (cy 0, 240, .inl f) := (hRX16.1.2.2 2 (by omega)).trans hT.2.2
  have h5_24 := hRX16.1.1.2.1
  have hbd30 := hRX16.1.1.1
  obtain ⟨S25, g26, hS_27, h220_28, h221_29⟩ := hRX16.1.1.2.2.2.2.2.2
  obtain ⟨ft31, h9_32⟩ := hRX16.2.1
  have h1_33 : mem13 1 = .inr (0, [.ref (ad 2), .int (nI Z)]) := (hRX16.1.2.2 1 (by omega)).trans hT.1
  have h2_34 : mem13 2 = .inl (cy 0, 240, .inl f) := (hRX16.1.2.2 2 (by omega)).trans hT.2.2
  have h5_35 := hRX16.1.1.2.1
  have hbd41 := hRX16.1.1.1
  obtain ⟨S36, g37, hS_38, h220_39, h221_40⟩ := hRX16.1.1.2.2.2.2.2.2
  refine lv_astore_n (lv' := [(2, .ref (ad (20 + 2 * Ec))), (0, .ref (ad 222)), (1, .int (5))]) Bx.1 Bx.2.1 d_Rd_readOption_9 rfl hl (by decide) rfl (fun ls hl => ?_)
  refine lv_aload_n Bx.1 Bx.2.1 d_Rd_readOption_10 rfl (lv_at hl 0 rfl) ?_
  refine lv_aload_n Bx.1 Bx.2.1 d_Rd_readOption_11 rfl (lv_at hl 1 rfl) ?_
  refine lv_iload_n Bx.1 Bx.2.1 d_Rd_readOption_12 rfl (lv_at hl 2 rfl) ?_
  refine lv_bipush (v := 93) Bx.1 Bx.2.1 d_Rd_readOption_13 (by decide) ?_
  have her42 : ER ad R (Ec + 1) (bwN Bw Ec 3 (0) (0) (-1) (-1) (-1) (Bw 234)) mem13 := hER.new (Nat.le_refl _) (by rw [vR_m]; exact hcl17) (Or.inl rfl) (fun i9 hi9 => hfr19 (20 + 2 * i9) (by omega))
  have hsr43 : SR cy ad S (bwN Bw Ec 3 (0) (0) (-1) (-1) (-1) (Bw 234)) mem13 := ⟨(hfr19 220 (by omega)).trans hSR.1, (hfr19 221 (by omega)).trans hSR.2⟩
  have hE9 := hec15
  refine f_xVr (na := 2) (As := [.int (5), .int (93)]) (rest := [.ref (ad (20 + 2 * Ec))]) Bx hml E hP hD hS (by omega) h9_32 rfl (m_Rd_readBracket_5Y l hlt hn hT hf hRX16 (by omega) (u := u) (A := elA A Ec 3) (what := 2) (oe := nI Ec) her42 hsr43 (by omega) (by omega) (Or.inr ⟨rfl, rfl⟩) (elA_lka hLK)) kw_447 kw_449 sel_Rd_readBracket kw_6 kw_450 (by decide +kernel) ⟨rfl, rfl⟩ ⟨Nat.le_of_ble_eq_true rfl, Nat.le_of_ble_eq_true rfl⟩ rfl hl.1 (Nat.le_of_ble_eq_true rfl) d_Rd_readOption_15 ⟨Nat.le_of_ble_eq_true rfl, Nat.le_of_ble_eq_true rfl⟩ (fun X ce q9 memx H locs hx9 hP hS g1 g2 g3 => f_out hlocks hno hP hS g1 g2 g3 ⟨Nat.le_of_ble_eq_true rfl, Nat.le_of_ble_eq_true rfl⟩ ⟨hx9.1, hx9.2.eq (sing_op (l91 c91).1 c91 (by omega) hE9)⟩) (fun r44 mem45 H locs hq hP hS => ?_)
  have hD : va_D (Az sz) (fw n ad mem45) := fw_D hD
  obtain ⟨la46, ax47, ux48, Rx49, Ex50, Sx51, Ax52, Bx_53, nx54, tox55, hr956, h157, h258, h359, h460, htk61, hRX62, ali63, hh64, hent65⟩ := hq
  subst hr956
  obtain ⟨ft66, h9_67⟩ := hRX62.2.1
  have h1_68 : mem45 1 = .inr (0, [.ref (ad 2), .int (nI Z)]) := (hRX62.1.2.2 1 (by omega)).trans hT.1
  have h2_69 : mem45 2 = .inl (cy 0, 240, .inl f) := (hRX62.1.2.2 2 (by omega)).trans hT.2.2
  have h5_70 := hRX62.1.1.2.1
  have hbd76 := hRX62.1.1.1
  obtain ⟨S71, g72, hS_73, h220_74, h221_75⟩ := hRX62.1.1.2.2.2.2.2.2
  have hbd77 := hRX62.1.1.1
  have hce78 := (ali63.2.1 Ec (by omega)).1
  refine f_putN Bx hP hD hS (by omega) hce78 rfl inEl tyEl okEl nmEl 4 (by decide) kw_87 rfl rfl rfl rfl (Nat.le_of_ble_eq_true rfl) d_Rd_readOption_18 (fun H locs hP hS => ?_)
  obtain ⟨mem79, e_mem79⟩ : ∃ z, z = va_up mem45 ((20 + 2 * Ec)) (.inr (2, [.int (Bx_53 228 Ec), .int (Bx_53 229 Ec), .int (Bx_53 230 Ec), vR ad (Bx_53 231 Ec), .ref (ad (20 + 2 * (Ec + 1))), vE ad (Bx_53 233 Ec), .ref (ad (21 + 2 * Ec))])) := ⟨_, rfl⟩
  have hP : va_P D vcl (fw n ad mem79) H := by rw [e_mem79]; exact hP
  have hD : va_D (Az sz) (fw n ad mem79) := fw_D hD
  have h_mem79 : mem79 ((20 + 2 * Ec)) = .inr (2, [.int (Bx_53 228 Ec), .int (Bx_53 229 Ec), .int (Bx_53 230 Ec), vR ad (Bx_53 231 Ec), .ref (ad (20 + 2 * (Ec + 1))), vE ad (Bx_53 233 Ec), .ref (ad (21 + 2 * Ec))]) := by rw [e_mem79, va_up_self]
  have hh80 := (va_up_ne mem45 (.inr (2, [.int (Bx_53 228 Ec), .int (Bx_53 229 Ec), .int (Bx_53 230 Ec), vR ad (Bx_53 231 Ec), .ref (ad (20 + 2 * (Ec + 1))), vE ad (Bx_53 233 Ec), .ref (ad (21 + 2 * Ec))])) (show (222 : Nat) ≠ (20 + 2 * Ec) by first | decide | assumption | omega)).trans h9_67
  rw [← e_mem79] at hh80
  have hh81 := (va_up_ne mem45 (.inr (2, [.int (Bx_53 228 Ec), .int (Bx_53 229 Ec), .int (Bx_53 230 Ec), vR ad (Bx_53 231 Ec), .ref (ad (20 + 2 * (Ec + 1))), vE ad (Bx_53 233 Ec), .ref (ad (21 + 2 * Ec))])) (show (1 : Nat) ≠ (20 + 2 * Ec) by first | decide | assumption | omega)).trans h1_68
  rw [← e_mem79] at hh81
  have hh82 := (va_up_ne mem45 (.inr (2, [.int (Bx_53 228 Ec), .int (Bx_53 229 Ec), .int (Bx_53 230 Ec), vR ad (Bx_53 231 Ec), .ref (ad (20 + 2 * (Ec + 1))), vE ad (Bx_53 233 Ec), .ref (ad (21 + 2 * Ec))])) (show (5 : Nat) ≠ (20 + 2 * Ec) by first | decide | assumption | omega)).trans h5_70
  rw [← e_mem79] at hh82
  have hh83 := (va_up_ne mem45 (.inr (2, [.int (Bx_53 228 Ec), .int (Bx_53 229 Ec), .int (Bx_53 230 Ec), vR ad (Bx_53 231 Ec), .ref (ad (20 + 2 * (Ec + 1))), vE ad (Bx_53 233 Ec), .ref (ad (21 + 2 * Ec))])) (show (220 : Nat) ≠ (20 + 2 * Ec) by first | decide | assumption | omega)).trans h220_74
  rw [← e_mem79] at hh83
  have hRX84 : RX cy ad lim (gapF T Z ax47 + 1) (Rx49) (Ex50) (tox55) (nx54) m0 mem79 := by rw [e_mem79]; exact hRX62.el (by omega) (hRX62.1.mk (by omega) (hRX62.1.1.upEl (by omega) (fun _ => ⟨(ali63.2.1 Ec (by omega)).2.1.oR ad, Or.inr ⟨(Ec + 1), by omega, by omega, rfl⟩, (ali63.2.1 Ec (by omega)).2.2.2.oE ad (by omega)⟩)))
  have her85 : ER ad (Rx49) (Ex50) (va_up Bx_53 232 (upd (Bx_53 232) Ec (nI (Ec + 1)))) mem79 := ali63.2.1.part (by omega) (by omega) (by omega) h_mem79 (fun i9 q9 hi9 => by rw [e_mem79]; exact va_up_ne _ _ (by omega))
  have hsr86 : SR cy ad (Sx51) (Bx_53) mem79 := ⟨(show mem79 220 = mem45 220 by rw [e_mem79]; exact va_up_ne _ _ (by omega)).trans ali63.2.2.1.1, (show mem79 221 = mem45 221 by rw [e_mem79]; exact va_up_ne _ _ (by omega)).trans ali63.2.2.1.2⟩
  obtain ⟨ft87, h9_88⟩ := hRX84.2.1
  have h1_89 : mem79 1 = .inr (0, [.ref (ad 2), .int (nI Z)]) := (hRX84.1.2.2 1 (by omega)).trans hT.1
  have h2_90 : mem79 2 = .inl (cy 0, 240, .inl f) := (hRX84.1.2.2 2 (by omega)).trans hT.2.2
  have h5_91 := hRX84.1.1.2.1
  have hbd97 := hRX84.1.1.1
  obtain ⟨S92, g93, hS_94, h220_95, h221_96⟩ := hRX84.1.1.2.2.2.2.2.2
  refine lv_aload_n Bx.1 Bx.2.1 d_Rd_readOption_21 rfl (lv_at hl 0 rfl) ?_
  have hrd9 := opt_rds (nm := nm) hLK (by omega) hF hent65 ali63 hh64 her85 hsr86
  exact x_aret hx hb hlocks hr (⟨Ec, gapF T Z ax47 + 1, ux48, Rx49, Ex50, Sx51, _, _, nx54, tox55, rfl, by omega, by omega, by omega, by have := gapF_ge T Z ax47; omega, by omega, htk61, hRX84, rdsEq hrd9.1 (sing_op (l91 c91).1 c91 (by omega) hE9), hrd9.2⟩) hP hS d_Rd_readOption_22
set_option maxHeartbeats 4000000 in
set_option maxRecDepth 100000 in
theorem m_Rd_readElement_5Y (l : Launch) {D : va_G} {cy : Nat → ClassId} {sz n : Nat} {ad : Nat → Nat} {mem : Nat → va_E} {Z a R Ec lim : Nat} {f T : Nat → Int32} {to : Nat → Int32} {nm : Nat → Int64} {m0 : Nat → va_E} {u S : Nat} {A Bw : Ro} (hlt : l.stackTraces = false) (hn : 224 ≤ n) (hT : TX cy ad Z f m0) (hf : ∀ k, k < Z → f k = T k) (hRX : RX cy ad lim a R Ec to nm m0 mem) (haB : a ≤ 300) (hER : ER ad R Ec Bw mem) (hSR : SR cy ad S Bw mem) (hSa : S ≤ a) (haZ : a ≤ Z) (hLK : LKa Ec A) (hF : FRM A 5 Ec) : NXr l D cy sz n ad y_Rd_readElement c_Rd_readElement 2 (some (.object "AbnfChart$Element")) ({ frames := 22, cells := 1, slots := 6, locals := 516 } : Room) mem [.ref (ad 222), .int (5)] (fun r mem' => ∃ (k' a' u' R' E' S' : Nat) (A' Bw' : Ro) (nm' : Nat → Int64) (to' : Nat → Int32), r = ad (20 + 2 * k') ∧ Ec ≤ k' ∧ k' < E' ∧ R ≤ R' ∧ a < a' ∧ a' ≤ Z ∧ TOK R R' to to' ∧ RX cy ad lim a' R' E' to' nm' m0 mem' ∧ RDS cy ad T Z 5 (singS T Z a u R Ec 5 A nm) (PSf A 5) R Ec S u A Bw k' a' u' R' E' S' A' Bw' nm' mem' ∧ A' 238 5 = A 238 5 ∧ OKc (hereF Z T a)) (fun X mem' => ((X = cIA ∨ X = cIS) ∧ ∃ rc' ec' : Nat, RS cy ad lim rc' ec' m0 mem') ∧ (Fai T Z (singS T Z a u R Ec 5 A nm) ∨ ¬ OKc (hereF Z T a))) := by
  refine vx_ofW (cc := c_Rd_readElement) (maxL := 2) (ret := (some (.object "AbnfChart$Element"))) (by decide) rfl ?_
  intro p e s m args below meth c s₁ B hml hno hv
  obtain ⟨rfl, E, hP, hD⟩ := hv
  have hx := B.exec
  have hb := B.bytes
  have hr := B.returns
  have hlocks := B.notSynchronized
  have Bx : MB p s m [.ref (ad 222), .int (5)].toArray c c_Rd_readElement "AbnfChart$Reader" D cy := ⟨hx, hb, tb_all (atoms_spec B.pre) E.2.1, findClass_of_methodNamed B.named, E.1⟩
  have hS : va_S (Az sz) s.heap s.heap [] := va_S.rf
  have hl := lv_entry ([.ref (ad 222), .int (5)]) (n := 2) (Nat.le_of_ble_eq_true rfl)
  rw [lg_entry_eq]
  generalize (lg_sl ([.ref (ad 222), .int (5)]) ++ List.replicate (2 - (lg_sl ([.ref (ad 222), .int (5)])).length) Slot.unset).toArray = ls at hl ⊢
  have hl : lv_has ls 2 [(0, .ref (ad 222)), (1, .int (5))] := hl
  have hZ9 := hT.2.1
  have hbd9 := hRX.1.1.1
  have hfr0 : ∀ i, 19 ≤ i ∧ i < 222 ∧ i ≠ 20 + 2 * Ec → mem i = mem i := fun _ _ => rfl
  obtain ⟨ft1, h9_2⟩ := hRX.2.1
  have h1_3 : mem 1 = .inr (0, [.ref (ad 2), .int (nI Z)]) := (hRX.1.2.2 1 (by omega)).trans hT.1
  have h2_4 : mem 2 = .inl (cy 0, 240, .inl f) := (hRX.1.2.2 2 (by omega)).trans hT.2.2
  have h5_5 := hRX.1.1.2.1
  have hbd11 := hRX.1.1.1
  obtain ⟨S6, g7, hS_8, h220_9, h221_10⟩ := hRX.1.1.2.2.2.2.2.2
  refine lv_aload_n Bx.1 Bx.2.1 d_Rd_readElement_0 rfl (lv_at hl 0 rfl) ?_
  refine f_callVi (na := 0) (As := []) (rest := []) Bx hml E hP hD hS (by omega) h9_2 rfl (m_Rd_peekX l hn hT hf hRX (by omega)) kw_353 kw_355 sel_Rd_peek kw_6 kw_356 (by decide +kernel) ⟨rfl, rfl⟩ ⟨Nat.le_of_ble_eq_true rfl, Nat.le_of_ble_eq_true rfl⟩ rfl hl.1 (Nat.le_of_ble_eq_true rfl) d_Rd_readElement_1 ⟨Nat.le_of_ble_eq_true rfl, Nat.le_of_ble_eq_true rfl⟩ (fun r13 mem14 H locs hq hP hS => ?_)
  have hD : va_D (Az sz) (fw n ad mem14) := fw_D hD
  obtain ⟨hqe, hpk12⟩ := hq
  rw [hqe] at hP hD
  subst hpk12
  refine lv_topi (fun v16 e_v16 => ?_)
  by_cases c34 : v16 = 34
  · rw [c34]
    refine lv_lookup (off := 58) (tgt := 62) Bx.1 Bx.2.1 d_Rd_readElement_4 (by decide) (by decide) rfl ?_
    rw [e_v16] at c34
    have hlt34 := hereF_lt (show hereF Z T (a) ≠ -1 by rw [c34]; decide)
    refine lv_aload_n Bx.1 Bx.2.1 d_Rd_readElement_62 rfl (lv_at hl 0 rfl) ?_
    refine lv_aload_n Bx.1 Bx.2.1 d_Rd_readElement_63 rfl (lv_at hl 0 rfl) ?_
    refine f_get Bx hP (by omega) h9_2 rfl inRd 2 (by decide) kw_146 rfl rfl d_Rd_readElement_64 ?_
    refine lv_iconst (v := 5) Bx.1 Bx.2.1 d_Rd_readElement_67 (by decide) ?_
    refine f_xVr (na := 2) (As := [.int (nI a), .int (5)]) (rest := []) Bx hml E hP hD hS (by omega) h9_2 rfl (m_Rd_readStringY l hlt hn hT hf hRX (by omega) hSR.1 hSR.2 (by omega) hSa) kw_455 kw_457 sel_Rd_readString kw_6 kw_458 (by decide +kernel) ⟨rfl, rfl⟩ ⟨Nat.le_of_ble_eq_true rfl, Nat.le_of_ble_eq_true rfl⟩ rfl hl.1 (Nat.le_of_ble_eq_true rfl) d_Rd_readElement_68 ⟨Nat.le_of_ble_eq_true rfl, Nat.le_of_ble_eq_true rfl⟩ (fun X ce q9 memx H locs hx9 hP hS g1 g2 g3 => f_out hlocks hno hP hS g1 g2 g3 ⟨Nat.le_of_ble_eq_true rfl, Nat.le_of_ble_eq_true rfl⟩ ⟨hx9.1, Or.inl (fai_str c34 hx9.2 hbd9.2.1)⟩) (fun r17 mem18 H locs hq hP hS => ?_)
    have hD : va_D (Az sz) (fw n ad mem18) := fw_D hD
    obtain ⟨hE9, hq9, hr2, hle9, hRX2, hcl2, ⟨s9, hs0, hs1, hs2, hs3⟩, hfr2⟩ := hq
    subst hr2
    obtain ⟨A2, B2, hrd2, h82⟩ := rds_str (j := 5) (u := u) (nm := nm) c34 hE9 hq9 hLK hF hER hcl2 hs0 hs1 hs2 hs3 (fun k hk => hfr2 (20 + 2 * k) (by omega)) hSa
    exact x_aret hx hb hlocks hr (⟨Ec, _, _, R, Ec + 1, _, A2, B2, nm, to, rfl, by omega, by omega, by omega, by omega, hle9, TOK.of rfl, hRX2, hrd2, h82, (l34 c34).2.2.2⟩) hP hS d_Rd_readElement_71
  by_cases c37 : v16 = 37
  · rw [c37]
    refine lv_lookup (off := 68) (tgt := 72) Bx.1 Bx.2.1 d_Rd_readElement_4 (by decide) (by decide) rfl ?_
    rw [e_v16] at c37
    have hlt37 := hereF_lt (show hereF Z T (a) ≠ -1 by rw [c37]; decide)
    refine lv_aload_n Bx.1 Bx.2.1 d_Rd_readElement_72 rfl (lv_at hl 0 rfl) ?_
    refine f_get Bx hP (by omega) h9_2 rfl inRd 0 (by decide) kw_144 rfl rfl d_Rd_readElement_73 ?_
    refine lv_aload_n Bx.1 Bx.2.1 d_Rd_readElement_76 rfl (lv_at hl 0 rfl) ?_
    refine f_get Bx hP (by omega) h9_2 rfl inRd 2 (by decide) kw_146 rfl rfl d_Rd_readElement_77 ?_
    refine lv_iconst (v := 1) Bx.1 Bx.2.1 d_Rd_readElement_80 (by decide) ?_
    refine lv_iadd Bx.1 Bx.2.1 d_Rd_readElement_81 ?_
    rw [show nI a + 1 = nI (a + 1) from nI_add (a) (1)]
    refine f_callVi (na := 1) (As := [.int (nI (a + 1))]) (rest := []) Bx hml E hP hD hS (by omega) h1_3 rfl (m_Ch_codeAt l (by omega) h1_3 (by omega) h2_4 (by rw [nI_toInt (by omega)]; omega)) kw_341 kw_342 kw_343 kw_2 kw_344 (by decide +kernel) ⟨rfl, rfl⟩ ⟨Nat.le_of_ble_eq_true rfl, Nat.le_of_ble_eq_true rfl⟩ rfl hl.1 (Nat.le_of_ble_eq_true rfl) d_Rd_readElement_82 ⟨Nat.le_of_ble_eq_true rfl, Nat.le_of_ble_eq_true rfl⟩ (fun r19 mem20 H locs hq hP hS => ?_)
    have hD : va_D (Az sz) (fw n ad mem20) := fw_D hD
    obtain ⟨hco21, hqe⟩ := hq
    rw [hqe] at hP hD
    rw [code_here hf hT.2.1 (k := a + 1) (by omega)] at hco21
    subst hco21
    refine f_callSNi (na := 1) (As := [.int (hereF Z T (a + 1))]) (rest := []) Bx hml E.2.1 (m_Ab_smallOfX l (hereF Z T (a + 1))) kw_372 kw_373 kw_1 kw_374 (by decide +kernel) ⟨rfl, rfl⟩ ⟨Nat.le_of_ble_eq_true rfl, Nat.le_of_ble_eq_true rfl⟩ rfl hl.1 (Nat.le_of_ble_eq_true rfl) d_Rd_readElement_85 ⟨Nat.le_of_ble_eq_true rfl, Nat.le_of_ble_eq_true rfl⟩ (fun r23 hs22 => ?_)
    subst hs22
    refine lv_bipush (v := 115) Bx.1 Bx.2.1 d_Rd_readElement_88 (by decide) ?_
    refine lv_icmp_ne Bx.1 Bx.2.1 d_Rd_readElement_90 rfl (fun hb24 => ?_) (fun hb24 => ?_)
    · refine lv_aload_n Bx.1 Bx.2.1 d_Rd_readElement_100 rfl (lv_at hl 0 rfl) ?_
      refine f_xVr (na := 0) (As := []) (rest := []) Bx hml E hP hD hS (by omega) h9_2 rfl (m_Rd_readValueY l hlt hn hT hf hRX (by omega) (u8 := u) (e8 := Ec) (A0 := va_up (elA A Ec 4) 231 (upd (elA A Ec 4 231) Ec (vp_nar .boolean 1))) hSR.1 hSR.2 (by omega) hSa) kw_467 kw_469 sel_Rd_readValue kw_6 kw_470 (by decide +kernel) ⟨rfl, rfl⟩ ⟨Nat.le_of_ble_eq_true rfl, Nat.le_of_ble_eq_true rfl⟩ rfl hl.1 (Nat.le_of_ble_eq_true rfl) d_Rd_readElement_101 ⟨Nat.le_of_ble_eq_true rfl, Nat.le_of_ble_eq_true rfl⟩ (fun X ce q9 memx H locs hx9 hP hS g1 g2 g3 => f_out hlocks hno hP hS g1 g2 g3 ⟨Nat.le_of_ble_eq_true rfl, Nat.le_of_ble_eq_true rfl⟩ ⟨hx9.1, Or.inl (fai_val c37 hb24 hx9.2 hbd9.2.1)⟩) (fun r25 mem26 H locs hq hP hS => ?_)
      have hD : va_D (Az sz) (fw n ad mem26) := fw_D hD
      obtain ⟨hE9, ba, a2, u2, A1, hba, hn9, hr2, x1, x2, hRX2, hsp2, hc2, hfr2⟩ := hq
      subst hr2
      obtain ⟨S2, A2, B2, hrd2, h82⟩ := rds_val (j := 5) (nm := nm) c37 hba hE9 hn9 hsp2 hLK hF hER (fun k hk => hfr2 (20 + 2 * k) (by omega)) hSa x1 hc2
      exact x_aret hx hb hlocks hr (⟨Ec, a2, u2, R, Ec + 1, S2, A2, B2, nm, to, rfl, by omega, by omega, by omega, x1, x2, TOK.of rfl, hRX2, hrd2, h82, (l37 c37).2.2.2.2⟩) hP hS d_Rd_readElement_104
    · refine lv_aload_n Bx.1 Bx.2.1 d_Rd_readElement_93 rfl (lv_at hl 0 rfl) ?_
      refine f_xVr (na := 0) (As := []) (rest := []) Bx hml E hP hD hS (by omega) h9_2 rfl (m_Rd_readExactStringY l hlt hn hT hf hRX (by omega) hSR.1 hSR.2 (by omega) hSa) kw_463 kw_465 sel_Rd_readExactString kw_6 kw_466 (by decide +kernel) ⟨rfl, rfl⟩ ⟨Nat.le_of_ble_eq_true rfl, Nat.le_of_ble_eq_true rfl⟩ rfl hl.1 (Nat.le_of_ble_eq_true rfl) d_Rd_readElement_94 ⟨Nat.le_of_ble_eq_true rfl, Nat.le_of_ble_eq_true rfl⟩ (fun X ce q9 memx H locs hx9 hP hS g1 g2 g3 => f_out hlocks hno hP hS g1 g2 g3 ⟨Nat.le_of_ble_eq_true rfl, Nat.le_of_ble_eq_true rfl⟩ ⟨hx9.1, Or.inl (fai_xst c37 hb24 hx9.2 hbd9.2.1)⟩) (fun r27 mem28 H locs hq hP hS => ?_)
      have hD : va_D (Az sz) (fw n ad mem28) := fw_D hD
      obtain ⟨hq8, hE9, hq9, hr2, hle9, hRX2, hcl2, ⟨s9, hs0, hs1, hs2, hs3⟩, hfr2⟩ := hq
      subst hr2
      obtain ⟨A2, B2, hrd2, h82⟩ := rds_xst (j := 5) (u := u) (nm := nm) c37 hb24 hq8 hE9 hq9 hLK hF hER hcl2 hs0 hs1 hs2 hs3 (fun k hk => hfr2 (20 + 2 * k) (by omega)) hSa
      refine lv_goto Bx.1 Bx.2.1 d_Rd_readElement_97 rfl ?_
      exact x_aret hx hb hlocks hr (⟨Ec, _, _, R, Ec + 1, _, A2, B2, nm, to, rfl, by omega, by omega, by omega, by omega, hle9, TOK.of rfl, hRX2, hrd2, h82, (l37 c37).2.2.2.2⟩) hP hS d_Rd_readElement_104
  by_cases c40 : v16 = 40
  · rw [c40]
    refine lv_lookup (off := 44) (tgt := 48) Bx.1 Bx.2.1 d_Rd_readElement_4 (by decide) (by decide) rfl ?_
    rw [e_v16] at c40
    have hlt40 := hereF_lt (show hereF Z T (a) ≠ -1 by rw [c40]; decide)
    refine lv_aload_n Bx.1 Bx.2.1 d_Rd_readElement_48 rfl (lv_at hl 0 rfl) ?_
    refine lv_iload_n Bx.1 Bx.2.1 d_Rd_readElement_49 rfl (lv_at hl 1 rfl) ?_
    refine lv_bipush (v := 41) Bx.1 Bx.2.1 d_Rd_readElement_50 (by decide) ?_
    refine f_xVr (na := 2) (As := [.int (5), .int (41)]) (rest := []) Bx hml E hP hD hS (by omega) h9_2 rfl (m_Rd_readBracket_5Y l hlt hn hT hf hRX (by omega) (u := u) (A := A) (what := 1) (oe := -1) hER hSR hSa (by omega) (Or.inl ⟨rfl, rfl⟩) hLK) kw_447 kw_449 sel_Rd_readBracket kw_6 kw_450 (by decide +kernel) ⟨rfl, rfl⟩ ⟨Nat.le_of_ble_eq_true rfl, Nat.le_of_ble_eq_true rfl⟩ rfl hl.1 (Nat.le_of_ble_eq_true rfl) d_Rd_readElement_52 ⟨Nat.le_of_ble_eq_true rfl, Nat.le_of_ble_eq_true rfl⟩ (fun X ce q9 memx H locs hx9 hP hS g1 g2 g3 => f_out hlocks hno hP hS g1 g2 g3 ⟨Nat.le_of_ble_eq_true rfl, Nat.le_of_ble_eq_true rfl⟩ ⟨hx9.1, Or.inl (hx9.2.eq (sing_br (l40 c40).1 c40 (by omega)))⟩) (fun r29 mem30 H locs hq hP hS => ?_)
    have hD : va_D (Az sz) (fw n ad mem30) := fw_D hD
    obtain ⟨la31, ax32, ux33, Rx34, Ex35, Sx36, Ax37, Bx_38, nx39, tox40, hr941, h142, h243, h344, h445, htk46, hRX47, ali48, hh49, hent50⟩ := hq
    subst hr941
    have hE9 : Ec < 100 := by have := hRX47.1.1.1; omega
    have hrd9 := brk_rds (nm := nm) hLK hE9 hF hent50 ali48 hh49 ali48.2.1 ali48.2.2.1
    exact x_aret hx hb hlocks hr (⟨Ec, gapF T Z ax32 + 1, ux33, Rx34, Ex35, Sx36, _, _, nx39, tox40, rfl, by omega, by omega, by omega, by have := gapF_ge T Z ax32; omega, by omega, htk46, hRX47, rdsEq hrd9.1 (sing_br (l40 c40).1 c40 (by omega)), hrd9.2, (l40 c40).2⟩) hP hS d_Rd_readElement_55
  by_cases c91 : v16 = 91
  · rw [c91]
    refine lv_lookup (off := 52) (tgt := 56) Bx.1 Bx.2.1 d_Rd_readElement_4 (by decide) (by decide) rfl ?_
    rw [e_v16] at c91
    have hlt91 := hereF_lt (show hereF Z T (a) ≠ -1 by rw [c91]; decide)
    refine lv_aload_n Bx.1 Bx.2.1 d_Rd_readElement_56 rfl (lv_at hl 0 rfl) ?_
    refine lv_iload_n Bx.1 Bx.2.1 d_Rd_readElement_57 rfl (lv_at hl 1 rfl) ?_
    refine f_xVr (na := 1) (As := [.int (5)]) (rest := []) Bx hml E hP hD hS (by omega) h9_2 rfl (m_Rd_readOption_5Y l hlt hn hT hf hRX (by omega) (u := u) (A := A) hER hSR hSa (by omega) hLK hF c91) kw_451 kw_453 sel_Rd_readOption kw_6 kw_454 (by decide +kernel) ⟨rfl, rfl⟩ ⟨Nat.le_of_ble_eq_true rfl, Nat.le_of_ble_eq_true rfl⟩ rfl hl.1 (Nat.le_of_ble_eq_true rfl) d_Rd_readElement_58 ⟨Nat.le_of_ble_eq_true rfl, Nat.le_of_ble_eq_true rfl⟩ (fun X ce q9 memx H locs hx9 hP hS g1 g2 g3 => f_out hlocks hno hP hS g1 g2 g3 ⟨Nat.le_of_ble_eq_true rfl, Nat.le_of_ble_eq_true rfl⟩ ⟨hx9.1, Or.inl hx9.2⟩) (fun r51 mem52 H locs hq hP hS => ?_)
    have hD : va_D (Az sz) (fw n ad mem52) := fw_D hD
    obtain ⟨kx53, ax54, ux55, Rx56, Ex57, Sx58, Ax59, Bx_60, nx61, tox62, hr963, h164, h265, h366, h467, h568, htk69, hRX70, rds71, h872⟩ := hq
    subst hr963
    exact x_aret hx hb hlocks hr (⟨kx53, ax54, ux55, Rx56, Ex57, Sx58, Ax59, Bx_60, nx61, tox62, rfl, h164, h265, h366, h467, h568, htk69, hRX70, rds71, h872, (l91 c91).2⟩) hP hS d_Rd_readElement_61
  refine lv_lookup (off := 101) (tgt := 105) Bx.1 Bx.2.1 d_Rd_readElement_4 (by decide) (by show Op.lookupswitch.offset [(34, 58), (37, 68), (40, 44), (91, 52)] 101 (v16).toInt = 101; rw [lv_osw c34 (by decide), lv_osw c37 (by decide), lv_osw c40 (by decide), lv_osw c91 (by decide)]; rfl) rfl ?_
  rw [e_v16] at c40 c91 c34 c37
  refine lv_aload_n Bx.1 Bx.2.1 d_Rd_readElement_105 rfl (lv_at hl 0 rfl) ?_
  refine f_xVr (na := 0) (As := []) (rest := []) Bx hml E hP hD hS (by omega) h9_2 rfl (m_Rd_readAskedNameY l hlt hn hT hf hRX (by omega) (A := A) (by omega)) kw_478 kw_480 sel_Rd_readAskedName kw_6 kw_481 (by decide +kernel) ⟨rfl, rfl⟩ ⟨Nat.le_of_ble_eq_true rfl, Nat.le_of_ble_eq_true rfl⟩ rfl hl.1 (Nat.le_of_ble_eq_true rfl) d_Rd_readElement_106 ⟨Nat.le_of_ble_eq_true rfl, Nat.le_of_ble_eq_true rfl⟩ (fun X ce q9 memx H locs hx9 hP hS g1 g2 g3 => f_out hlocks hno hP hS g1 g2 g3 ⟨Nat.le_of_ble_eq_true rfl, Nat.le_of_ble_eq_true rfl⟩ ⟨hx9.1, fai_nam c40 c91 c34 c37 hx9.2⟩) (fun r73 mem74 H locs hq hP hS => ?_)
  have hD : va_D (Az sz) (fw n ad mem74) := fw_D hD
  obtain ⟨i9, a2, R2, A3, n2, hsn, hle, hE9, hr2, x1, x2, x3, hA3, htk, ⟨t2, htk2, hRX2⟩, hi9, hcl2, hfr2⟩ := hq
  subst hr2
  have hR12 := hRX2.1.1.1.1
  obtain ⟨A2, B2, hrd2, h82⟩ := rds_nam (j := 5) (u := u) hle hsn hE9 hA3 htk x1 hi9 hR12 hLK hF hER ⟨(hfr2 220 (by omega)).trans hSR.1, (hfr2 221 (by omega)).trans hSR.2⟩ hcl2 (fun k hk => hfr2 (20 + 2 * k) (by omega)) (by omega)
  exact x_aret hx hb hlocks hr (⟨Ec, a2, u, R2, Ec + 1, S, A2, B2, n2, t2, rfl, by omega, by omega, x1, x2, x3, htk2, hRX2, hrd2, h82, lt_ok hle⟩) hP hS d_Rd_readElement_109
set_option maxHeartbeats 4000000 in
set_option maxRecDepth 100000 in
theorem m_Rd_readRepetition_5Y (l : Launch) {D : va_G} {cy : Nat → ClassId} {sz n : Nat} {ad : Nat → Nat} {mem : Nat → va_E} {Z a R Ec lim : Nat} {f T : Nat → Int32} {to : Nat → Int32} {nm : Nat → Int64} {m0 : Nat → va_E} {u S : Nat} {A Bw : Ro} (hlt : l.stackTraces = false) (hn : 224 ≤ n) (hT : TX cy ad Z f m0) (hf : ∀ k, k < Z → f k = T k) (hRX : RX cy ad lim a R Ec to nm m0 mem) (haB : a ≤ 300) (hER : ER ad R Ec Bw mem) (hSR : SR cy ad S Bw mem) (hSa : S ≤ a) (haZ : a ≤ Z) (hLK : LKa Ec A) (hF : FRM A 5 Ec) (h39 : A 239 5 = -1) (hbg : bgF (hereF Z T a) = true) : NXr l D cy sz n ad y_Rd_readRepetition c_Rd_readRepetition 3 (some (.object "AbnfChart$Element")) ({ frames := 23, cells := 1, slots := 6, locals := 538 } : Room) mem [.ref (ad 222), .int (5)] (fun r mem' => ∃ (k' a' u' R' E' S' : Nat) (A' Bw' : Ro) (nm' : Nat → Int64) (to' : Nat → Int32), r = ad (20 + 2 * k') ∧ Ec ≤ k' ∧ k' < E' ∧ R ≤ R' ∧ a < a' ∧ a' ≤ Z ∧ TOK R R' to to' ∧ RX cy ad lim a' R' E' to' nm' m0 mem' ∧ RDS cy ad T Z 5 (repS T Z a u R Ec 5 A nm) (PSf A 5) R Ec S u A Bw k' a' u' R' E' S' A' Bw' nm' mem' ∧ A' 238 5 = A 238 5) (fun X mem' => ((X = cIA ∨ X = cIS) ∧ ∃ rc' ec' : Nat, RS cy ad lim rc' ec' m0 mem') ∧ (Fai T Z (repS T Z a u R Ec 5 A nm))) := by
  refine vx_ofW (cc := c_Rd_readRepetition) (maxL := 3) (ret := (some (.object "AbnfChart$Element"))) (by decide) rfl ?_
  intro p e s m args below meth c s₁ B hml hno hv
  obtain ⟨rfl, E, hP, hD⟩ := hv
  have hx := B.exec
  have hb := B.bytes
  have hr := B.returns
  have hlocks := B.notSynchronized
  have Bx : MB p s m [.ref (ad 222), .int (5)].toArray c c_Rd_readRepetition "AbnfChart$Reader" D cy := ⟨hx, hb, tb_all (atoms_spec B.pre) E.2.1, findClass_of_methodNamed B.named, E.1⟩
  have hS : va_S (Az sz) s.heap s.heap [] := va_S.rf
  have hl := lv_entry ([.ref (ad 222), .int (5)]) (n := 3) (Nat.le_of_ble_eq_true rfl)
  rw [lg_entry_eq]
  generalize (lg_sl ([.ref (ad 222), .int (5)]) ++ List.replicate (3 - (lg_sl ([.ref (ad 222), .int (5)])).length) Slot.unset).toArray = ls at hl ⊢
  have hl : lv_has ls 3 [(0, .ref (ad 222)), (1, .int (5))] := hl
  have hZ9 := hT.2.1
  have hbd9 := hRX.1.1.1
  have hfr0 : ∀ i, 19 ≤ i ∧ i < 222 ∧ i ≠ 20 + 2 * Ec → mem i = mem i := fun _ _ => rfl
  obtain ⟨ft1, h9_2⟩ := hRX.2.1
  have h1_3 : mem 1 = .inr (0, [.ref (ad 2), .int (nI Z)]) := (hRX.1.2.2 1 (by omega)).trans hT.1
  have h2_4 : mem 2 = .inl (cy 0, 240, .inl f) := (hRX.1.2.2 2 (by omega)).trans hT.2.2
  have h5_5 := hRX.1.1.2.1
  have hbd11 := hRX.1.1.1
  obtain ⟨S6, g7, hS_8, h220_9, h221_10⟩ := hRX.1.1.2.2.2.2.2.2
  refine lv_aload_n Bx.1 Bx.2.1 d_Rd_readRepetition_0 rfl (lv_at hl 0 rfl) ?_
  refine f_callVi (na := 0) (As := []) (rest := []) Bx hml E hP hD hS (by omega) h9_2 rfl (m_Rd_peekX l hn hT hf hRX (by omega)) kw_353 kw_355 sel_Rd_peek kw_6 kw_356 (by decide +kernel) ⟨rfl, rfl⟩ ⟨Nat.le_of_ble_eq_true rfl, Nat.le_of_ble_eq_true rfl⟩ rfl hl.1 (Nat.le_of_ble_eq_true rfl) d_Rd_readRepetition_1 ⟨Nat.le_of_ble_eq_true rfl, Nat.le_of_ble_eq_true rfl⟩ (fun r13 mem14 H locs hq hP hS => ?_)
  have hD : va_D (Az sz) (fw n ad mem14) := fw_D hD
  obtain ⟨hqe, hpk12⟩ := hq
  rw [hqe] at hP hD
  subst hpk12
  refine f_callSi (na := 1) (As := [.int (hereF Z T (a))]) (rest := []) Bx hml E.2.1 (m_Rd_beginsRepeatX l (hereF Z T (a))) kw_416 kw_417 kw_6 kw_418 (by decide +kernel) ⟨rfl, rfl⟩ ⟨Nat.le_of_ble_eq_true rfl, Nat.le_of_ble_eq_true rfl⟩ rfl hl.1 (Nat.le_of_ble_eq_true rfl) d_Rd_readRepetition_4 ⟨Nat.le_of_ble_eq_true rfl, Nat.le_of_ble_eq_true rfl⟩ (fun r17 hs16 => ?_)
  subst hs16
  refine lv_if_ne Bx.1 Bx.2.1 d_Rd_readRepetition_7 rfl (fun hb18 => ?_) (fun hb18 => ?_)
  · refine lv_aload_n Bx.1 Bx.2.1 d_Rd_readRepetition_16 rfl (lv_at hl 0 rfl) ?_
    refine lv_iconst (v := 2) Bx.1 Bx.2.1 d_Rd_readRepetition_17 (by decide) ?_
    refine lv_aload_n Bx.1 Bx.2.1 d_Rd_readRepetition_18 rfl (lv_at hl 0 rfl) ?_
    refine f_get Bx hP (by omega) h9_2 rfl inRd 2 (by decide) kw_146 rfl rfl d_Rd_readRepetition_19 ?_
    refine f_xVr (na := 2) (As := [.int (2), .int (nI a)]) (rest := []) Bx hml E hP hD hS (by omega) h9_2 rfl (m_Rd_addElementY l hlt hn hT hf hRX (by omega)) kw_419 kw_421 sel_Rd_addElement kw_6 kw_422 (by decide +kernel) ⟨rfl, rfl⟩ ⟨Nat.le_of_ble_eq_true rfl, Nat.le_of_ble_eq_true rfl⟩ rfl hl.1 (Nat.le_of_ble_eq_true rfl) d_Rd_readRepetition_22 ⟨Nat.le_of_ble_eq_true rfl, Nat.le_of_ble_eq_true rfl⟩ (fun X ce q9 memx H locs hx9 hP hS g1 g2 g3 => f_out hlocks hno hP hS g1 g2 g3 ⟨Nat.le_of_ble_eq_true rfl, Nat.le_of_ble_eq_true rfl⟩ ⟨hx9.1, Or.inl (rep_E (bpF_1 hb18) hx9.2)⟩) (fun r19 mem20 H locs hq hP hS => ?_)
    have hD : va_D (Az sz) (fw n ad mem20) := fw_D hD
    obtain ⟨hr921, hec22, hRX23, hcl24, hfa25⟩ := hq
    subst hr921
    have hfr26 : ∀ i, 19 ≤ i ∧ i < 222 ∧ i ≠ 20 + 2 * Ec → mem20 i = mem i := fun i q => (hfa25 i (by omega)).trans (hfr0 i q)
    obtain ⟨ft27, h9_28⟩ := hRX23.2.1
    have h1_29 : mem20 1 = .inr (0, [.ref (ad 2), .int (nI Z)]) := (hRX23.1.2.2 1 (by omega)).trans hT.1
    have h2_30 : mem20 2 = .inl (cy 0, 240, .inl f) := (hRX23.1.2.2 2 (by omega)).trans hT.2.2
    have h5_31 := hRX23.1.1.2.1
    have hbd37 := hRX23.1.1.1
    obtain ⟨S32, g33, hS_34, h220_35, h221_36⟩ := hRX23.1.1.2.2.2.2.2.2
    obtain ⟨ft38, h9_39⟩ := hRX23.2.1
    have h1_40 : mem20 1 = .inr (0, [.ref (ad 2), .int (nI Z)]) := (hRX23.1.2.2 1 (by omega)).trans hT.1
    have h2_41 : mem20 2 = .inl (cy 0, 240, .inl f) := (hRX23.1.2.2 2 (by omega)).trans hT.2.2
    have h5_42 := hRX23.1.1.2.1
    have hbd48 := hRX23.1.1.1
    obtain ⟨S43, g44, hS_45, h220_46, h221_47⟩ := hRX23.1.1.2.2.2.2.2.2
    refine lv_astore_n (lv' := [(2, .ref (ad (20 + 2 * Ec))), (0, .ref (ad 222)), (1, .int (5))]) Bx.1 Bx.2.1 d_Rd_readRepetition_25 rfl hl (by decide) rfl (fun ls hl => ?_)
    refine lv_aload_n Bx.1 Bx.2.1 d_Rd_readRepetition_26 rfl (lv_at hl 1 rfl) ?_
    refine lv_aload_n Bx.1 Bx.2.1 d_Rd_readRepetition_27 rfl (lv_at hl 0 rfl) ?_
    have hdg := bpF_1 hb18
    have hE9 := hec22
    refine f_xVv (na := 1) (As := [.ref (ad (20 + 2 * Ec))]) (rest := []) Bx hml E hP hD hS (by omega) h9_39 rfl (m_Rd_readRepeatY l hlt hn hT hf hRX23 (by omega) (by omega) hcl24 (by omega) hdg) kw_482 kw_484 sel_Rd_readRepeat kw_6 kw_485 (by decide +kernel) ⟨rfl, rfl⟩ ⟨Nat.le_of_ble_eq_true rfl, Nat.le_of_ble_eq_true rfl⟩ rfl hl.1 (Nat.le_of_ble_eq_true rfl) d_Rd_readRepetition_28 ⟨Nat.le_of_ble_eq_true rfl, Nat.le_of_ble_eq_true rfl⟩ (fun X ce q9 memx H locs hx9 hP hS g1 g2 g3 => f_out hlocks hno hP hS g1 g2 g3 ⟨Nat.le_of_ble_eq_true rfl, Nat.le_of_ble_eq_true rfl⟩ ⟨hx9.1, hx9.2.elim (fun v1 z => z.elim (fun b1 z => z.elim (fun v2 z => z.elim (fun b2 z => Or.inl (rep_bad hdg hE9 z.1 z.2.1 (Or.inl z.2.2))))))⟩) (fun mem50 H locs hq hP hS => ?_)
    have hD : va_D (Az sz) (fw n ad mem50) := fw_D hD
    obtain ⟨v1, b1, v2, b2, hr1, hr2, hnv, hb8, hb9, hRXr, hclr, hfar⟩ := hq
    have hfr51 : ∀ i, 19 ≤ i ∧ i < 222 ∧ i ≠ 20 + 2 * Ec → mem50 i = mem i := fun i q => (hfar i (by omega)).trans (hfr26 i q)
    obtain ⟨ft52, h9_53⟩ := hRXr.2.1
    have h1_54 : mem50 1 = .inr (0, [.ref (ad 2), .int (nI Z)]) := (hRXr.1.2.2 1 (by omega)).trans hT.1
    have h2_55 : mem50 2 = .inl (cy 0, 240, .inl f) := (hRXr.1.2.2 2 (by omega)).trans hT.2.2
    have h5_56 := hRXr.1.1.2.1
    have hbd62 := hRXr.1.1.1
    obtain ⟨S57, g58, hS_59, h220_60, h221_61⟩ := hRXr.1.1.2.2.2.2.2.2
    obtain ⟨ft63, h9_64⟩ := hRXr.2.1
    have h1_65 : mem50 1 = .inr (0, [.ref (ad 2), .int (nI Z)]) := (hRXr.1.2.2 1 (by omega)).trans hT.1
    have h2_66 : mem50 2 = .inl (cy 0, 240, .inl f) := (hRXr.1.2.2 2 (by omega)).trans hT.2.2
    have h5_67 := hRXr.1.1.2.1
    have hbd73 := hRXr.1.1.1
    obtain ⟨S68, g69, hS_70, h220_71, h221_72⟩ := hRXr.1.1.2.2.2.2.2.2
    refine lv_aload_n Bx.1 Bx.2.1 d_Rd_readRepetition_31 rfl (lv_at hl 0 rfl) ?_
    refine lv_aload_n Bx.1 Bx.2.1 d_Rd_readRepetition_32 rfl (lv_at hl 1 rfl) ?_
    refine lv_iload_n Bx.1 Bx.2.1 d_Rd_readRepetition_33 rfl (lv_at hl 2 rfl) ?_
    have her74 : ER ad R (Ec + 1) (bwN Bw Ec 2 (v1) (v2) (-1) (-1) (-1) (Bw 234)) mem50 := hER.new (Nat.le_refl _) (by rw [vR_m]; exact hclr) (Or.inl rfl) (fun i9 hi9 => hfr51 (20 + 2 * i9) (by omega))
    have hsr75 : SR cy ad S (bwN Bw Ec 2 (v1) (v2) (-1) (-1) (-1) (Bw 234)) mem50 := ⟨(hfr51 220 (by omega)).trans hSR.1, (hfr51 221 (by omega)).trans hSR.2⟩
    obtain ⟨hLK1, hF1⟩ := frm_rep (v1 := v1) (v2 := v2) hLK hE9 hF h39
    refine f_xVr (na := 1) (As := [.int (5)]) (rest := [.ref (ad (20 + 2 * Ec))]) Bx hml E hP hD hS (by omega) h9_64 rfl (m_Rd_readElement_5Y l hlt hn hT hf hRXr (by omega) (u := u) (A := repB A 5 Ec v1 v2) her74 hsr75 (by omega) (by omega) hLK1 hF1) kw_443 kw_445 sel_Rd_readElement kw_6 kw_446 (by decide +kernel) ⟨rfl, rfl⟩ ⟨Nat.le_of_ble_eq_true rfl, Nat.le_of_ble_eq_true rfl⟩ rfl hl.1 (Nat.le_of_ble_eq_true rfl) d_Rd_readRepetition_34 ⟨Nat.le_of_ble_eq_true rfl, Nat.le_of_ble_eq_true rfl⟩ (fun X ce q9 memx H locs hx9 hP hS g1 g2 g3 => f_out hlocks hno hP hS g1 g2 g3 ⟨Nat.le_of_ble_eq_true rfl, Nat.le_of_ble_eq_true rfl⟩ ⟨hx9.1, rep_fai hdg hE9 hr1 hr2 hnv hx9.2⟩) (fun r76 mem77 H locs hq hP hS => ?_)
    have hD : va_D (Az sz) (fw n ad mem77) := fw_D hD
    obtain ⟨kx78, ax79, ux80, Rx81, Ex82, Sx83, Ax84, Bx_85, nx86, tox87, hr988, h189, h290, h391, h492, h593, htk94, hRX95, rds96, h897, hok98⟩ := hq
    subst hr988
    obtain ⟨ft99, h9_100⟩ := hRX95.2.1
    have h1_101 : mem77 1 = .inr (0, [.ref (ad 2), .int (nI Z)]) := (hRX95.1.2.2 1 (by omega)).trans hT.1
    have h2_102 : mem77 2 = .inl (cy 0, 240, .inl f) := (hRX95.1.2.2 2 (by omega)).trans hT.2.2
    have h5_103 := hRX95.1.1.2.1
    have hbd109 := hRX95.1.1.1
    obtain ⟨S104, g105, hS_106, h220_107, h221_108⟩ := hRX95.1.1.2.2.2.2.2.2
    have hbd110 := hRX95.1.1.1
    have hce111 := (rds96.2.1 Ec (by omega)).1
    refine f_putN Bx hP hD hS (by omega) hce111 rfl inEl tyEl okEl nmEl 4 (by decide) kw_87 rfl rfl rfl rfl (Nat.le_of_ble_eq_true rfl) d_Rd_readRepetition_37 (fun H locs hP hS => ?_)
    obtain ⟨mem112, e_mem112⟩ : ∃ z, z = va_up mem77 ((20 + 2 * Ec)) (.inr (2, [.int (Bx_85 228 Ec), .int (Bx_85 229 Ec), .int (Bx_85 230 Ec), vR ad (Bx_85 231 Ec), .ref (ad (20 + 2 * kx78)), vE ad (Bx_85 233 Ec), .ref (ad (21 + 2 * Ec))])) := ⟨_, rfl⟩
    have hP : va_P D vcl (fw n ad mem112) H := by rw [e_mem112]; exact hP
    have hD : va_D (Az sz) (fw n ad mem112) := fw_D hD
    have h_mem112 : mem112 ((20 + 2 * Ec)) = .inr (2, [.int (Bx_85 228 Ec), .int (Bx_85 229 Ec), .int (Bx_85 230 Ec), vR ad (Bx_85 231 Ec), .ref (ad (20 + 2 * kx78)), vE ad (Bx_85 233 Ec), .ref (ad (21 + 2 * Ec))]) := by rw [e_mem112, va_up_self]
    have hh113 := (va_up_ne mem77 (.inr (2, [.int (Bx_85 228 Ec), .int (Bx_85 229 Ec), .int (Bx_85 230 Ec), vR ad (Bx_85 231 Ec), .ref (ad (20 + 2 * kx78)), vE ad (Bx_85 233 Ec), .ref (ad (21 + 2 * Ec))])) (show (222 : Nat) ≠ (20 + 2 * Ec) by first | decide | assumption | omega)).trans h9_100
    rw [← e_mem112] at hh113
    have hh114 := (va_up_ne mem77 (.inr (2, [.int (Bx_85 228 Ec), .int (Bx_85 229 Ec), .int (Bx_85 230 Ec), vR ad (Bx_85 231 Ec), .ref (ad (20 + 2 * kx78)), vE ad (Bx_85 233 Ec), .ref (ad (21 + 2 * Ec))])) (show (1 : Nat) ≠ (20 + 2 * Ec) by first | decide | assumption | omega)).trans h1_101
    rw [← e_mem112] at hh114
    have hh115 := (va_up_ne mem77 (.inr (2, [.int (Bx_85 228 Ec), .int (Bx_85 229 Ec), .int (Bx_85 230 Ec), vR ad (Bx_85 231 Ec), .ref (ad (20 + 2 * kx78)), vE ad (Bx_85 233 Ec), .ref (ad (21 + 2 * Ec))])) (show (5 : Nat) ≠ (20 + 2 * Ec) by first | decide | assumption | omega)).trans h5_103
    rw [← e_mem112] at hh115
    have hh116 := (va_up_ne mem77 (.inr (2, [.int (Bx_85 228 Ec), .int (Bx_85 229 Ec), .int (Bx_85 230 Ec), vR ad (Bx_85 231 Ec), .ref (ad (20 + 2 * kx78)), vE ad (Bx_85 233 Ec), .ref (ad (21 + 2 * Ec))])) (show (220 : Nat) ≠ (20 + 2 * Ec) by first | decide | assumption | omega)).trans h220_107
    rw [← e_mem112] at hh116
    have hRX117 : RX cy ad lim (ax79) (Rx81) (Ex82) (tox87) (nx86) m0 mem112 := by rw [e_mem112]; exact hRX95.el (by omega) (hRX95.1.mk (by omega) (hRX95.1.1.upEl (by omega) (fun _ => ⟨(rds96.2.1 Ec (by omega)).2.1.oR ad, Or.inr ⟨kx78, by omega, by omega, rfl⟩, (rds96.2.1 Ec (by omega)).2.2.2.oE ad (by omega)⟩)))
    have her118 : ER ad (Rx81) (Ex82) (va_up Bx_85 232 (upd (Bx_85 232) Ec (nI kx78))) mem112 := rds96.2.1.part (by omega) (by omega) (by omega) h_mem112 (fun i9 q9 hi9 => by rw [e_mem112]; exact va_up_ne _ _ (by omega))
    have hsr119 : SR cy ad (Sx83) (Bx_85) mem112 := ⟨(show mem112 220 = mem77 220 by rw [e_mem112]; exact va_up_ne _ _ (by omega)).trans rds96.2.2.1.1, (show mem112 221 = mem77 221 by rw [e_mem112]; exact va_up_ne _ _ (by omega)).trans rds96.2.2.1.2⟩
    obtain ⟨ft120, h9_121⟩ := hRX117.2.1
    have h1_122 : mem112 1 = .inr (0, [.ref (ad 2), .int (nI Z)]) := (hRX117.1.2.2 1 (by omega)).trans hT.1
    have h2_123 : mem112 2 = .inl (cy 0, 240, .inl f) := (hRX117.1.2.2 2 (by omega)).trans hT.2.2
    have h5_124 := hRX117.1.1.2.1
    have hbd130 := hRX117.1.1.1
    obtain ⟨S125, g126, hS_127, h220_128, h221_129⟩ := hRX117.1.1.2.2.2.2.2.2
    refine lv_aload_n Bx.1 Bx.2.1 d_Rd_readRepetition_40 rfl (lv_at hl 0 rfl) ?_
    have hrd9 := rep_rds hLK hE9 hF h39 rds96 h897 ⟨by omega, by omega⟩ (rep_suc (u := u) (R := R) (f := 5) (A := A) (nm := nm) hdg hE9 hr1 hr2 hnv hok98) her118 hsr119
    exact x_aret hx hb hlocks hr (⟨Ec, ax79, ux80, Rx81, Ex82, Sx83, _, _, nx86, tox87, rfl, by omega, by omega, by omega, by omega, by omega, htk94, hRX117, hrd9.1, hrd9.2⟩) hP hS d_Rd_readRepetition_41
  · refine lv_aload_n Bx.1 Bx.2.1 d_Rd_readRepetition_10 rfl (lv_at hl 0 rfl) ?_
    refine lv_iload_n Bx.1 Bx.2.1 d_Rd_readRepetition_11 rfl (lv_at hl 1 rfl) ?_
    obtain ⟨hd0, h42⟩ := bpF_0 hb18
    refine f_xVr (na := 1) (As := [.int (5)]) (rest := []) Bx hml E hP hD hS (by omega) h9_2 rfl (m_Rd_readElement_5Y l hlt hn hT hf hRX (by omega) (u := u) (A := A) hER hSR hSa (by omega) hLK hF) kw_443 kw_445 sel_Rd_readElement kw_6 kw_446 (by decide +kernel) ⟨rfl, rfl⟩ ⟨Nat.le_of_ble_eq_true rfl, Nat.le_of_ble_eq_true rfl⟩ rfl hl.1 (Nat.le_of_ble_eq_true rfl) d_Rd_readRepetition_12 ⟨Nat.le_of_ble_eq_true rfl, Nat.le_of_ble_eq_true rfl⟩ (fun X ce q9 memx H locs hx9 hP hS g1 g2 g3 => f_out hlocks hno hP hS g1 g2 g3 ⟨Nat.le_of_ble_eq_true rfl, Nat.le_of_ble_eq_true rfl⟩ ⟨hx9.1, (hx9.2.resolve_right (fun z => z ⟨hbg, hd0, h42⟩)).eq (rep_no hd0 h42)⟩) (fun r131 mem132 H locs hq hP hS => ?_)
    have hD : va_D (Az sz) (fw n ad mem132) := fw_D hD
    obtain ⟨kx133, ax134, ux135, Rx136, Ex137, Sx138, Ax139, Bx_140, nx141, tox142, hr9143, h1144, h2145, h3146, h4147, h5148, htk149, hRX150, rds151, h8152, hok153⟩ := hq
    subst hr9143
    obtain ⟨ft154, h9_155⟩ := hRX150.2.1
    have h1_156 : mem132 1 = .inr (0, [.ref (ad 2), .int (nI Z)]) := (hRX150.1.2.2 1 (by omega)).trans hT.1
    have h2_157 : mem132 2 = .inl (cy 0, 240, .inl f) := (hRX150.1.2.2 2 (by omega)).trans hT.2.2
    have h5_158 := hRX150.1.1.2.1
    have hbd164 := hRX150.1.1.1
    obtain ⟨S159, g160, hS_161, h220_162, h221_163⟩ := hRX150.1.1.2.2.2.2.2.2
    have hbd165 := hRX150.1.1.1
    exact x_aret hx hb hlocks hr (⟨kx133, ax134, ux135, Rx136, Ex137, Sx138, Ax139, Bx_140, nx141, tox142, rfl, h1144, h2145, h3146, h4147, h5148, htk149, hRX150, rdsEq rds151 (rep_no hd0 h42), h8152⟩) hP hS d_Rd_readRepetition_15
set_option maxHeartbeats 4000000 in
set_option maxRecDepth 100000 in
theorem m_Rd_readSequence_5Y (l : Launch) {D : va_G} {cy : Nat → ClassId} {sz n : Nat} {ad : Nat → Nat} {mem : Nat → va_E} {Z a R Ec lim : Nat} {f T : Nat → Int32} {to : Nat → Int32} {nm : Nat → Int64} {m0 : Nat → va_E} {u S : Nat} {A Bw : Ro} {cq : Nat} (hlt : l.stackTraces = false) (hn : 224 ≤ n) (hT : TX cy ad Z f m0) (hf : ∀ k, k < Z → f k = T k) (hRX : RX cy ad lim a R Ec to nm m0 mem) (haB : a ≤ 300) (hER : ER ad R Ec Bw mem) (hSR : SR cy ad S Bw mem) (hSa : S ≤ a) (haZ : a ≤ Z) (hLK : LKa Ec A) (hc : A 237 5 = nI cq) (hcl : cq < Ec) (h39 : A 239 5 = -1) : NXr l D cy sz n ad y_Rd_readSequence c_Rd_readSequence 5 (some (.object "AbnfChart$Element")) ({ frames := 24, cells := 1, slots := 6, locals := 562 } : Room) mem [.ref (ad 222), .int (5)] (fun r mem' => ∃ (a' u' R' E' S' : Nat) (A' Bw' : Ro) (nm' : Nat → Int64) (to' : Nat → Int32), r = ad (20 + 2 * Ec) ∧ Ec < E' ∧ R ≤ R' ∧ a < a' ∧ a' ≤ Z ∧ TOK R R' to to' ∧ RX cy ad lim (gapF T Z a') R' E' to' nm' m0 mem' ∧ RDS cy ad T Z 5 (seqS T Z a u R Ec 5 A nm) (slotOf A cq) R Ec S u A Bw Ec a' u' R' E' S' A' Bw' nm' mem' ∧ ¬ (bgF (hereF Z T (gapF T Z a')) = true ∧ a' < gapF T Z a')) (fun X mem' => ((X = cIA ∨ X = cIS) ∧ ∃ rc' ec' : Nat, RS cy ad lim rc' ec' m0 mem') ∧ (Fai T Z (seqS T Z a u R Ec 5 A nm))) := by
  refine vx_ofW (cc := c_Rd_readSequence) (maxL := 5) (ret := (some (.object "AbnfChart$Element"))) (by decide) rfl ?_
  intro p e s m args below meth c s₁ B hml hno hv
  obtain ⟨rfl, E, hP, hD⟩ := hv
  have hx := B.exec
  have hb := B.bytes
  have hr := B.returns
  have hlocks := B.notSynchronized
  have Bx : MB p s m [.ref (ad 222), .int (5)].toArray c c_Rd_readSequence "AbnfChart$Reader" D cy := ⟨hx, hb, tb_all (atoms_spec B.pre) E.2.1, findClass_of_methodNamed B.named, E.1⟩
  have hS : va_S (Az sz) s.heap s.heap [] := va_S.rf
  have hl := lv_entry ([.ref (ad 222), .int (5)]) (n := 5) (Nat.le_of_ble_eq_true rfl)
  rw [lg_entry_eq]
  generalize (lg_sl ([.ref (ad 222), .int (5)]) ++ List.replicate (5 - (lg_sl ([.ref (ad 222), .int (5)])).length) Slot.unset).toArray = ls at hl ⊢
  have hl : lv_has ls 5 [(0, .ref (ad 222)), (1, .int (5))] := hl
  have hZ9 := hT.2.1
  have hbd9 := hRX.1.1.1
  have hfr0 : ∀ i, 19 ≤ i ∧ i < 222 ∧ i ≠ 20 + 2 * Ec → mem i = mem i := fun _ _ => rfl
  obtain ⟨ft1, h9_2⟩ := hRX.2.1
  have h1_3 : mem 1 = .inr (0, [.ref (ad 2), .int (nI Z)]) := (hRX.1.2.2 1 (by omega)).trans hT.1
  have h2_4 : mem 2 = .inl (cy 0, 240, .inl f) := (hRX.1.2.2 2 (by omega)).trans hT.2.2
  have h5_5 := hRX.1.1.2.1
  have hbd11 := hRX.1.1.1
  obtain ⟨S6, g7, hS_8, h220_9, h221_10⟩ := hRX.1.1.2.2.2.2.2.2
  refine lv_aload_n Bx.1 Bx.2.1 d_Rd_readSequence_0 rfl (lv_at hl 0 rfl) ?_
  refine lv_iconst (v := 1) Bx.1 Bx.2.1 d_Rd_readSequence_1 (by decide) ?_
  refine f_xVr (na := 1) (As := [.int (1)]) (rest := []) Bx hml E hP hD hS (by omega) h9_2 rfl (m_Rd_beginRowY l hlt hn hT hf hRX (by omega)) kw_409 kw_411 sel_Rd_beginRow kw_6 kw_412 (by decide +kernel) ⟨rfl, rfl⟩ ⟨Nat.le_of_ble_eq_true rfl, Nat.le_of_ble_eq_true rfl⟩ rfl hl.1 (Nat.le_of_ble_eq_true rfl) d_Rd_readSequence_2 ⟨Nat.le_of_ble_eq_true rfl, Nat.le_of_ble_eq_true rfl⟩ (fun X ce q9 memx H locs hx9 hP hS g1 g2 g3 => f_out hlocks hno hP hS g1 g2 g3 ⟨Nat.le_of_ble_eq_true rfl, Nat.le_of_ble_eq_true rfl⟩ ⟨hx9.1, Or.inl (seq_no hx9.2)⟩) (fun r12 mem13 H locs hq hP hS => ?_)
  have hD : va_D (Az sz) (fw n ad mem13) := fw_D hD
  obtain ⟨hbg, hE9, hr9, hRXb, hclb, hfab⟩ := hq
  subst hr9
  have hfr14 : ∀ i, 19 ≤ i ∧ i < 222 ∧ i ≠ 20 + 2 * Ec → mem13 i = mem i := fun i q => (hfab i (by omega)).trans (hfr0 i q)
  obtain ⟨ft15, h9_16⟩ := hRXb.2.1
  have h1_17 : mem13 1 = .inr (0, [.ref (ad 2), .int (nI Z)]) := (hRXb.1.2.2 1 (by omega)).trans hT.1
  have h2_18 : mem13 2 = .inl (cy 0, 240, .inl f) := (hRXb.1.2.2 2 (by omega)).trans hT.2.2
  have h5_19 := hRXb.1.1.2.1
  have hbd25 := hRXb.1.1.1
  obtain ⟨S20, g21, hS_22, h220_23, h221_24⟩ := hRXb.1.1.2.2.2.2.2.2
  obtain ⟨ft26, h9_27⟩ := hRXb.2.1
  have h1_28 : mem13 1 = .inr (0, [.ref (ad 2), .int (nI Z)]) := (hRXb.1.2.2 1 (by omega)).trans hT.1
  have h2_29 : mem13 2 = .inl (cy 0, 240, .inl f) := (hRXb.1.2.2 2 (by omega)).trans hT.2.2
  have h5_30 := hRXb.1.1.2.1
  have hbd36 := hRXb.1.1.1
  obtain ⟨S31, g32, hS_33, h220_34, h221_35⟩ := hRXb.1.1.2.2.2.2.2.2
  refine lv_astore_n (lv' := [(2, .ref (ad (20 + 2 * Ec))), (0, .ref (ad 222)), (1, .int (5))]) Bx.1 Bx.2.1 d_Rd_readSequence_5 rfl hl (by decide) rfl (fun ls hl => ?_)
  refine lv_aload_n Bx.1 Bx.2.1 d_Rd_readSequence_6 rfl (lv_at hl 1 rfl) ?_
  refine lv_iload_n Bx.1 Bx.2.1 d_Rd_readSequence_7 rfl (lv_at hl 2 rfl) ?_
  have her37 : ER ad R (Ec + 1) (bwN Bw Ec 1 (0) (0) (-1) (-1) (-1) (Bw 234)) mem13 := hER.new (Nat.le_refl _) (by rw [vR_m]; exact hclb) (Or.inl rfl) (fun i9 hi9 => hfr14 (20 + 2 * i9) (by omega))
  have hsr38 : SR cy ad S (bwN Bw Ec 1 (0) (0) (-1) (-1) (-1) (Bw 234)) mem13 := ⟨(hfr14 220 (by omega)).trans hSR.1, (hfr14 221 (by omega)).trans hSR.2⟩
  obtain ⟨hLK1, hF1, h391⟩ := frm_seq hLK hE9 hc hcl h39
  refine f_xVr (na := 1) (As := [.int (5)]) (rest := []) Bx hml E hP hD hS (by omega) h9_27 rfl (m_Rd_readRepetition_5Y l hlt hn hT hf hRXb (by omega) (u := u) (A := seqA A 5 Ec) her37 hsr38 (by omega) (by omega) hLK1 hF1 h391 hbg) kw_439 kw_441 sel_Rd_readRepetition kw_6 kw_442 (by decide +kernel) ⟨rfl, rfl⟩ ⟨Nat.le_of_ble_eq_true rfl, Nat.le_of_ble_eq_true rfl⟩ rfl hl.1 (Nat.le_of_ble_eq_true rfl) d_Rd_readSequence_8 ⟨Nat.le_of_ble_eq_true rfl, Nat.le_of_ble_eq_true rfl⟩ (fun X ce q9 memx H locs hx9 hP hS g1 g2 g3 => f_out hlocks hno hP hS g1 g2 g3 ⟨Nat.le_of_ble_eq_true rfl, Nat.le_of_ble_eq_true rfl⟩ ⟨hx9.1, hx9.2.eq (seq_ok hbg hE9)⟩) (fun r39 mem40 H locs hq hP hS => ?_)
  have hD : va_D (Az sz) (fw n ad mem40) := fw_D hD
  obtain ⟨kx41, ax42, ux43, Rx44, Ex45, Sx46, Ax47, Bx_48, nx49, tox50, hr951, h152, h253, h354, h455, h556, htk57, hRX58, rds59, h860⟩ := hq
  subst hr951
  obtain ⟨ft61, h9_62⟩ := hRX58.2.1
  have h1_63 : mem40 1 = .inr (0, [.ref (ad 2), .int (nI Z)]) := (hRX58.1.2.2 1 (by omega)).trans hT.1
  have h2_64 : mem40 2 = .inl (cy 0, 240, .inl f) := (hRX58.1.2.2 2 (by omega)).trans hT.2.2
  have h5_65 := hRX58.1.1.2.1
  have hbd71 := hRX58.1.1.1
  obtain ⟨S66, g67, hS_68, h220_69, h221_70⟩ := hRX58.1.1.2.2.2.2.2.2
  have hbd72 := hRX58.1.1.1
  refine lv_astore_n (lv' := [(3, .ref (ad (20 + 2 * kx41))), (2, .ref (ad (20 + 2 * Ec))), (0, .ref (ad 222)), (1, .int (5))]) Bx.1 Bx.2.1 d_Rd_readSequence_11 rfl hl (by decide) rfl (fun ls hl => ?_)
  refine lv_aload_n Bx.1 Bx.2.1 d_Rd_readSequence_12 rfl (lv_at hl 1 rfl) ?_
  refine lv_aload_n Bx.1 Bx.2.1 d_Rd_readSequence_13 rfl (lv_at hl 0 rfl) ?_
  have hce73 := (rds59.2.1 Ec (by omega)).1
  refine f_putN Bx hP hD hS (by omega) hce73 rfl inEl tyEl okEl nmEl 4 (by decide) kw_87 rfl rfl rfl rfl (Nat.le_of_ble_eq_true rfl) d_Rd_readSequence_14 (fun H locs hP hS => ?_)
  obtain ⟨mem74, e_mem74⟩ : ∃ z, z = va_up mem40 ((20 + 2 * Ec)) (.inr (2, [.int (Bx_48 228 Ec), .int (Bx_48 229 Ec), .int (Bx_48 230 Ec), vR ad (Bx_48 231 Ec), .ref (ad (20 + 2 * kx41)), vE ad (Bx_48 233 Ec), .ref (ad (21 + 2 * Ec))])) := ⟨_, rfl⟩
  have hP : va_P D vcl (fw n ad mem74) H := by rw [e_mem74]; exact hP
  have hD : va_D (Az sz) (fw n ad mem74) := fw_D hD
  have h_mem74 : mem74 ((20 + 2 * Ec)) = .inr (2, [.int (Bx_48 228 Ec), .int (Bx_48 229 Ec), .int (Bx_48 230 Ec), vR ad (Bx_48 231 Ec), .ref (ad (20 + 2 * kx41)), vE ad (Bx_48 233 Ec), .ref (ad (21 + 2 * Ec))]) := by rw [e_mem74, va_up_self]
  have hh75 := (va_up_ne mem40 (.inr (2, [.int (Bx_48 228 Ec), .int (Bx_48 229 Ec), .int (Bx_48 230 Ec), vR ad (Bx_48 231 Ec), .ref (ad (20 + 2 * kx41)), vE ad (Bx_48 233 Ec), .ref (ad (21 + 2 * Ec))])) (show (222 : Nat) ≠ (20 + 2 * Ec) by first | decide | assumption | omega)).trans h9_62
  rw [← e_mem74] at hh75
  have hh76 := (va_up_ne mem40 (.inr (2, [.int (Bx_48 228 Ec), .int (Bx_48 229 Ec), .int (Bx_48 230 Ec), vR ad (Bx_48 231 Ec), .ref (ad (20 + 2 * kx41)), vE ad (Bx_48 233 Ec), .ref (ad (21 + 2 * Ec))])) (show (1 : Nat) ≠ (20 + 2 * Ec) by first | decide | assumption | omega)).trans h1_63
  rw [← e_mem74] at hh76
  have hh77 := (va_up_ne mem40 (.inr (2, [.int (Bx_48 228 Ec), .int (Bx_48 229 Ec), .int (Bx_48 230 Ec), vR ad (Bx_48 231 Ec), .ref (ad (20 + 2 * kx41)), vE ad (Bx_48 233 Ec), .ref (ad (21 + 2 * Ec))])) (show (5 : Nat) ≠ (20 + 2 * Ec) by first | decide | assumption | omega)).trans h5_65
  rw [← e_mem74] at hh77
  have hh78 := (va_up_ne mem40 (.inr (2, [.int (Bx_48 228 Ec), .int (Bx_48 229 Ec), .int (Bx_48 230 Ec), vR ad (Bx_48 231 Ec), .ref (ad (20 + 2 * kx41)), vE ad (Bx_48 233 Ec), .ref (ad (21 + 2 * Ec))])) (show (220 : Nat) ≠ (20 + 2 * Ec) by first | decide | assumption | omega)).trans h220_69
  rw [← e_mem74] at hh78
  have hRX79 : RX cy ad lim (ax42) (Rx44) (Ex45) (tox50) (nx49) m0 mem74 := by rw [e_mem74]; exact hRX58.el (by omega) (hRX58.1.mk (by omega) (hRX58.1.1.upEl (by omega) (fun _ => ⟨(rds59.2.1 Ec (by omega)).2.1.oR ad, Or.inr ⟨kx41, by omega, by omega, rfl⟩, (rds59.2.1 Ec (by omega)).2.2.2.oE ad (by omega)⟩)))
  have her80 : ER ad (Rx44) (Ex45) (va_up Bx_48 232 (upd (Bx_48 232) Ec (nI kx41))) mem74 := rds59.2.1.part (by omega) (by omega) (by omega) h_mem74 (fun i9 q9 hi9 => by rw [e_mem74]; exact va_up_ne _ _ (by omega))
  have hsr81 : SR cy ad (Sx46) (Bx_48) mem74 := ⟨(show mem74 220 = mem40 220 by rw [e_mem74]; exact va_up_ne _ _ (by omega)).trans rds59.2.2.1.1, (show mem74 221 = mem40 221 by rw [e_mem74]; exact va_up_ne _ _ (by omega)).trans rds59.2.2.1.2⟩
  obtain ⟨ft82, h9_83⟩ := hRX79.2.1
  have h1_84 : mem74 1 = .inr (0, [.ref (ad 2), .int (nI Z)]) := (hRX79.1.2.2 1 (by omega)).trans hT.1
  have h2_85 : mem74 2 = .inl (cy 0, 240, .inl f) := (hRX79.1.2.2 2 (by omega)).trans hT.2.2
  have h5_86 := hRX79.1.1.2.1
  have hbd92 := hRX79.1.1.1
  obtain ⟨S87, g88, hS_89, h220_90, h221_91⟩ := hRX79.1.1.2.2.2.2.2.2
  refine lv_iconst (v := 0) Bx.1 Bx.2.1 d_Rd_readSequence_17 (by decide) ?_
  refine lv_istore (lv' := [(4, .int (0)), (3, .ref (ad (20 + 2 * kx41))), (2, .ref (ad (20 + 2 * Ec))), (0, .ref (ad 222)), (1, .int (5))]) Bx.1 Bx.2.1 d_Rd_readSequence_18 hl (by decide) rfl (fun ls hl => ?_)
  have hsl9 := slot_lt hLK (by omega) hcl
  have hsq0 := seq_first hLK hE9 hc hcl h39 rds59 h860 ⟨by omega, by omega⟩ (by omega) (seq_ok (u := u) (R := R) (f := 5) (A := A) (nm := nm) hbg hE9) her80 hsr81
  have loop93 : ∀ (d94 : Nat) (mem9 : Nat → va_E) (a1 : Nat) (u1 : Nat) (R1 : Nat) (E1 : Nat) (S1 : Nat) (A1 : Ro) (B1 : Ro) (n1 : Nat → Int64) (to1 : Nat → Int32) (la : Nat) (k9 : Nat) (ls : Array Slot) (H : Heap) (locs : List Loc), (240 - k9 < d94) → (RX cy ad lim a1 R1 E1 to1 n1 m0 mem9) → (a < a1 ∧ a1 ≤ Z ∧ R ≤ R1 ∧ k9 < a1 ∧ k9 ≤ 240) → (SQI cy ad T Z 5 (seqS T Z a u R Ec 5 A nm) (slotOf A cq) R Ec S u A Bw la a1 u1 R1 E1 S1 A1 B1 n1 mem9) → (TOK R R1 to to1) → (va_P D vcl (fw n ad mem9) H) → (va_D (Az sz) (fw n ad mem9)) → (va_S (Az sz) s.heap H locs) → (lv_has ls 5 [(4, .int (nI k9)), (3, .ref (ad (20 + 2 * la))), (2, .ref (ad (20 + 2 * Ec))), (0, .ref (ad 222)), (1, .int (5))]) → W p l e (headSpec (Cond.code y_Rd_readSequence c_Rd_readSequence 5 (some (.object "AbnfChart$Element")) :: tg) ({ frames := 24, cells := 1, slots := 6, locals := 562 } : Room)).room s m [.ref (ad 222), .int (5)].toArray below meth c H locs 0 0 (vx_MQ below (QX (QR (fun r mem' => ∃ (a' u' R' E' S' : Nat) (A' Bw' : Ro) (nm' : Nat → Int64) (to' : Nat → Int32), r = ad (20 + 2 * Ec) ∧ Ec < E' ∧ R ≤ R' ∧ a < a' ∧ a' ≤ Z ∧ TOK R R' to to' ∧ RX cy ad lim (gapF T Z a') R' E' to' nm' m0 mem' ∧ RDS cy ad T Z 5 (seqS T Z a u R Ec 5 A nm) (slotOf A cq) R Ec S u A Bw Ec a' u' R' E' S' A' Bw' nm' mem' ∧ ¬ (bgF (hereF Z T (gapF T Z a')) = true ∧ a' < gapF T Z a')) (PP D n ad) (Az sz))) (XQ D sz n ad (fun X mem' => ((X = cIA ∨ X = cIS) ∧ ∃ rc' ec' : Nat, RS cy ad lim rc' ec' m0 mem') ∧ (Fai T Z (seqS T Z a u R Ec 5 A nm)))) [.ref (ad 222), .int (5)].toArray s 1 6 (Az sz)) (F0 m 20 ls []) := by
    intro d94
    induction d94 with
    | zero => intro mem9 a1 u1 R1 E1 S1 A1 B1 n1 to1 la k9 ls H locs hmeas100; exact absurd hmeas100 (Nat.not_lt_zero _)
    | succ d94 ih99 =>
      intro mem9 a1 u1 R1 E1 S1 A1 B1 n1 to1 la k9 ls H locs hmeas100 hz95 hz96 hz97 hz98 hP hD hS hl
      have hbd8 := hz96
      have hsq := hz97
      have hbdE := hz95.1.1.1
      have hla := hsq.2.2.2
      have hSa1 := hsq.1.2.2.2.1.2.1
      have hlka := sqi_lka hsq hLK hsl9
      obtain ⟨ft101, h9_102⟩ := hz95.2.1
      have h1_103 : mem9 1 = .inr (0, [.ref (ad 2), .int (nI Z)]) := (hz95.1.2.2 1 (by omega)).trans hT.1
      have h2_104 : mem9 2 = .inl (cy 0, 240, .inl f) := (hz95.1.2.2 2 (by omega)).trans hT.2.2
      have h5_105 := hz95.1.1.2.1
      have hbd111 := hz95.1.1.1
      obtain ⟨S106, g107, hS_108, h220_109, h221_110⟩ := hz95.1.1.2.2.2.2.2.2
      refine lv_iload Bx.1 Bx.2.1 d_Rd_readSequence_20 (lv_at hl 0 rfl) ?_
      refine lv_sipush (v := 240) Bx.1 Bx.2.1 d_Rd_readSequence_22 (by decide) ?_
      refine lv_icmp_ge Bx.1 Bx.2.1 d_Rd_readSequence_25 rfl (fun hb112 => ?_) (fun hb112 => ?_)
      · have hN113 : 240 ≤ k9 := (nI_leI (by omega) (by omega)).mp (show nI (240) ≤ nI (k9) from hb112)
        exact absurd hbd8 (by omega)
      · have hN114 : ¬ 240 ≤ k9 := fun q9 => hb112 (show nI (240) ≤ nI (k9) from (nI_leI (by omega) (by omega)).mpr q9)
        refine lv_aload_n Bx.1 Bx.2.1 d_Rd_readSequence_28 rfl (lv_at hl 3 rfl) ?_
        refine f_callVi (na := 0) (As := []) (rest := []) Bx hml E hP hD hS (by omega) h9_102 rfl (m_Rd_readGapY l hn hT hf hz95 (by omega) (by omega)) kw_397 kw_399 sel_Rd_readGap kw_6 kw_400 (by decide +kernel) ⟨rfl, rfl⟩ ⟨Nat.le_of_ble_eq_true rfl, Nat.le_of_ble_eq_true rfl⟩ rfl hl.1 (Nat.le_of_ble_eq_true rfl) d_Rd_readSequence_29 ⟨Nat.le_of_ble_eq_true rfl, Nat.le_of_ble_eq_true rfl⟩ (fun r115 mem116 H locs hq hP hS => ?_)
        have hD : va_D (Az sz) (fw n ad mem116) := fw_D hD
        obtain ⟨g117, eg118⟩ : ∃ z, z = gapF T Z (a1) := ⟨_, rfl⟩
        rw [← eg118] at hq
        obtain ⟨hRX119, hgc120, hfa121⟩ := hq
        have hg122 : a1 ≤ g117 := by rw [eg118]; exact gapF_ge T Z _
        have hg123 : g117 ≤ Z := by rw [eg118]; exact gapF_le T (by omega)
        obtain ⟨ft124, h9_125⟩ := hRX119.2.1
        have h1_126 : mem116 1 = .inr (0, [.ref (ad 2), .int (nI Z)]) := (hRX119.1.2.2 1 (by omega)).trans hT.1
        have h2_127 : mem116 2 = .inl (cy 0, 240, .inl f) := (hRX119.1.2.2 2 (by omega)).trans hT.2.2
        have h5_128 := hRX119.1.1.2.1
        have hbd134 := hRX119.1.1.1
        obtain ⟨S129, g130, hS_131, h220_132, h221_133⟩ := hRX119.1.1.2.2.2.2.2.2
        have her135 : ER ad (R1) (E1) (B1) mem116 := hsq.1.2.1.fr (Nat.le_refl _) (fun i9 hi9 => hfa121 _ (by omega))
        have hsr136 : SR cy ad (S1) (B1) mem116 := ⟨(show mem116 220 = _ from hfa121 _ (by omega)).trans hsq.1.2.2.1.1, (show mem116 221 = _ from hfa121 _ (by omega)).trans hsq.1.2.2.1.2⟩
        rcases hgc120 with ⟨hr137, hga138⟩ | ⟨hr137, hga138⟩
        · subst hr137
          refine lv_if_eq Bx.1 Bx.2.1 d_Rd_readSequence_32 rfl (fun hb139 => ?_) (fun hb139 => ?_)
          · exact absurd hb139 (by decide)
          · refine lv_aload_n Bx.1 Bx.2.1 d_Rd_readSequence_35 rfl (lv_at hl 3 rfl) ?_
            refine f_callVi (na := 0) (As := []) (rest := []) Bx hml E hP hD hS (by omega) h9_125 rfl (m_Rd_peekX l hn hT hf hRX119 (by omega)) kw_353 kw_355 sel_Rd_peek kw_6 kw_356 (by decide +kernel) ⟨rfl, rfl⟩ ⟨Nat.le_of_ble_eq_true rfl, Nat.le_of_ble_eq_true rfl⟩ rfl hl.1 (Nat.le_of_ble_eq_true rfl) d_Rd_readSequence_36 ⟨Nat.le_of_ble_eq_true rfl, Nat.le_of_ble_eq_true rfl⟩ (fun r141 mem142 H locs hq hP hS => ?_)
            have hD : va_D (Az sz) (fw n ad mem142) := fw_D hD
            obtain ⟨hqe, hpk140⟩ := hq
            rw [hqe] at hP hD
            subst hpk140
            refine f_callSi (na := 1) (As := [.int (hereF Z T (g117))]) (rest := []) Bx hml E.2.1 (m_Rd_beginsRepetitionX l (hereF Z T (g117))) kw_413 kw_414 kw_6 kw_415 (by decide +kernel) ⟨rfl, rfl⟩ ⟨Nat.le_of_ble_eq_true rfl, Nat.le_of_ble_eq_true rfl⟩ rfl hl.1 (Nat.le_of_ble_eq_true rfl) d_Rd_readSequence_39 ⟨Nat.le_of_ble_eq_true rfl, Nat.le_of_ble_eq_true rfl⟩ (fun r145 hs144 => ?_)
            subst hs144
            refine lv_if_eq Bx.1 Bx.2.1 d_Rd_readSequence_42 rfl (fun hb146 => ?_) (fun hb146 => ?_)
            · refine lv_aload_n Bx.1 Bx.2.1 d_Rd_readSequence_65 rfl (lv_at hl 2 rfl) ?_
              exact x_aret hx hb hlocks hr (⟨a1, u1, R1, E1, S1, A1, B1, n1, to1, rfl, by omega, by omega, by omega, by omega, hz98, by rw [← eg118]; exact hRX119, ⟨hsq.1.1, her135, hsr136, hsq.1.2.2.2⟩, fun z => by have q9 := z.1; rw [← eg118, bg_0 hb146] at q9; exact absurd q9 (by decide)⟩) hP hS d_Rd_readSequence_66
            · have hbg2 : bgF (hereF Z T (gapF T Z a1)) = true := by rw [← eg118]; exact bg_1 hb146
              have hgt2 : a1 < gapF T Z a1 := by rw [← eg118]; omega
              have h238 := hsq.2.1
              have h239 : A1 239 5 = -1 := hsq.1.2.2.2.2.2.2.2.2.2.2
              refine lv_aload_n Bx.1 Bx.2.1 d_Rd_readSequence_45 rfl (lv_at hl 1 rfl) ?_
              refine lv_aload_n Bx.1 Bx.2.1 d_Rd_readSequence_46 rfl (lv_at hl 3 rfl) ?_
              refine lv_iload_n Bx.1 Bx.2.1 d_Rd_readSequence_47 rfl (lv_at hl 4 rfl) ?_
              refine f_xVr (na := 1) (As := [.int (5)]) (rest := [.ref (ad (20 + 2 * la))]) Bx hml E hP hD hS (by omega) h9_125 rfl (m_Rd_readRepetition_5Y l hlt hn hT hf hRX119 (by omega) (u := u1) (A := A1) her135 hsr136 (by omega) (by omega) hlka ⟨⟨Ec, by omega, h238⟩, Or.inl h239⟩ h239 (by rw [eg118]; exact hbg2)) kw_439 kw_441 sel_Rd_readRepetition kw_6 kw_442 (by decide +kernel) ⟨rfl, rfl⟩ ⟨Nat.le_of_ble_eq_true rfl, Nat.le_of_ble_eq_true rfl⟩ rfl hl.1 (Nat.le_of_ble_eq_true rfl) d_Rd_readSequence_48 ⟨Nat.le_of_ble_eq_true rfl, Nat.le_of_ble_eq_true rfl⟩ (fun X ce q9 memx H locs hx9 hP hS g1 g2 g3 => f_out hlocks hno hP hS g1 g2 g3 ⟨Nat.le_of_ble_eq_true rfl, Nat.le_of_ble_eq_true rfl⟩ ⟨hx9.1, hsq.1.1.fai (go_rept hbg2 hgt2) (by rw [← eg118]; exact hx9.2)⟩) (fun r147 mem148 H locs hq hP hS => ?_)
              have hD : va_D (Az sz) (fw n ad mem148) := fw_D hD
              obtain ⟨kx149, ax150, ux151, Rx152, Ex153, Sx154, Ax155, Bx_156, nx157, tox158, hr9159, h1160, h2161, h3162, h4163, h5164, htk165, hRX166, rds167, h8168⟩ := hq
              subst hr9159
              obtain ⟨ft169, h9_170⟩ := hRX166.2.1
              have h1_171 : mem148 1 = .inr (0, [.ref (ad 2), .int (nI Z)]) := (hRX166.1.2.2 1 (by omega)).trans hT.1
              have h2_172 : mem148 2 = .inl (cy 0, 240, .inl f) := (hRX166.1.2.2 2 (by omega)).trans hT.2.2
              have h5_173 := hRX166.1.1.2.1
              have hbd179 := hRX166.1.1.1
              obtain ⟨S174, g175, hS_176, h220_177, h221_178⟩ := hRX166.1.1.2.2.2.2.2.2
              have hbd180 := hRX166.1.1.1
              have hce181 := (rds167.2.1 la (by omega)).1
              refine f_putN Bx hP hD hS (by omega) hce181 rfl inEl tyEl okEl nmEl 5 (by decide) kw_91 rfl rfl rfl rfl (Nat.le_of_ble_eq_true rfl) d_Rd_readSequence_51 (fun H locs hP hS => ?_)
              obtain ⟨mem182, e_mem182⟩ : ∃ z, z = va_up mem148 ((20 + 2 * la)) (.inr (2, [.int (Bx_156 228 la), .int (Bx_156 229 la), .int (Bx_156 230 la), vR ad (Bx_156 231 la), vE ad (Bx_156 232 la), .ref (ad (20 + 2 * kx149)), .ref (ad (21 + 2 * la))])) := ⟨_, rfl⟩
              have hP : va_P D vcl (fw n ad mem182) H := by rw [e_mem182]; exact hP
              have hD : va_D (Az sz) (fw n ad mem182) := fw_D hD
              have h_mem182 : mem182 ((20 + 2 * la)) = .inr (2, [.int (Bx_156 228 la), .int (Bx_156 229 la), .int (Bx_156 230 la), vR ad (Bx_156 231 la), vE ad (Bx_156 232 la), .ref (ad (20 + 2 * kx149)), .ref (ad (21 + 2 * la))]) := by rw [e_mem182, va_up_self]
              have hh183 := (va_up_ne mem148 (.inr (2, [.int (Bx_156 228 la), .int (Bx_156 229 la), .int (Bx_156 230 la), vR ad (Bx_156 231 la), vE ad (Bx_156 232 la), .ref (ad (20 + 2 * kx149)), .ref (ad (21 + 2 * la))])) (show (222 : Nat) ≠ (20 + 2 * la) by first | decide | assumption | omega)).trans h9_170
              rw [← e_mem182] at hh183
              have hh184 := (va_up_ne mem148 (.inr (2, [.int (Bx_156 228 la), .int (Bx_156 229 la), .int (Bx_156 230 la), vR ad (Bx_156 231 la), vE ad (Bx_156 232 la), .ref (ad (20 + 2 * kx149)), .ref (ad (21 + 2 * la))])) (show (1 : Nat) ≠ (20 + 2 * la) by first | decide | assumption | omega)).trans h1_171
              rw [← e_mem182] at hh184
              have hh185 := (va_up_ne mem148 (.inr (2, [.int (Bx_156 228 la), .int (Bx_156 229 la), .int (Bx_156 230 la), vR ad (Bx_156 231 la), vE ad (Bx_156 232 la), .ref (ad (20 + 2 * kx149)), .ref (ad (21 + 2 * la))])) (show (5 : Nat) ≠ (20 + 2 * la) by first | decide | assumption | omega)).trans h5_173
              rw [← e_mem182] at hh185
              have hh186 := (va_up_ne mem148 (.inr (2, [.int (Bx_156 228 la), .int (Bx_156 229 la), .int (Bx_156 230 la), vR ad (Bx_156 231 la), vE ad (Bx_156 232 la), .ref (ad (20 + 2 * kx149)), .ref (ad (21 + 2 * la))])) (show (220 : Nat) ≠ (20 + 2 * la) by first | decide | assumption | omega)).trans h220_177
              rw [← e_mem182] at hh186
              have hRX187 : RX cy ad lim (ax150) (Rx152) (Ex153) (tox158) (nx157) m0 mem182 := by rw [e_mem182]; exact hRX166.el (by omega) (hRX166.1.mk (by omega) (hRX166.1.1.upEl (by omega) (fun _ => ⟨(rds167.2.1 la (by omega)).2.1.oR ad, (rds167.2.1 la (by omega)).2.2.1.oE ad (by omega), Or.inr ⟨kx149, by omega, by omega, rfl⟩⟩)))
              have her188 : ER ad (Rx152) (Ex153) (va_up Bx_156 233 (upd (Bx_156 233) la (nI kx149))) mem182 := rds167.2.1.next (by omega) (by omega) (by omega) h_mem182 (fun i9 q9 hi9 => by rw [e_mem182]; exact va_up_ne _ _ (by omega))
              have hsr189 : SR cy ad (Sx154) (Bx_156) mem182 := ⟨(show mem182 220 = mem148 220 by rw [e_mem182]; exact va_up_ne _ _ (by omega)).trans rds167.2.2.1.1, (show mem182 221 = mem148 221 by rw [e_mem182]; exact va_up_ne _ _ (by omega)).trans rds167.2.2.1.2⟩
              obtain ⟨ft190, h9_191⟩ := hRX187.2.1
              have h1_192 : mem182 1 = .inr (0, [.ref (ad 2), .int (nI Z)]) := (hRX187.1.2.2 1 (by omega)).trans hT.1
              have h2_193 : mem182 2 = .inl (cy 0, 240, .inl f) := (hRX187.1.2.2 2 (by omega)).trans hT.2.2
              have h5_194 := hRX187.1.1.2.1
              have hbd200 := hRX187.1.1.1
              obtain ⟨S195, g196, hS_197, h220_198, h221_199⟩ := hRX187.1.1.2.2.2.2.2.2
              refine lv_aload_n Bx.1 Bx.2.1 d_Rd_readSequence_54 rfl (lv_at hl 1 rfl) ?_
              refine f_getN Bx hP (by omega) h_mem182 rfl inEl 5 (by decide) kw_91 rfl rfl d_Rd_readSequence_55 ?_
              refine lv_astore_n (lv' := [(3, .ref (ad (20 + 2 * kx149))), (4, .int (nI k9)), (2, .ref (ad (20 + 2 * Ec))), (0, .ref (ad 222)), (1, .int (5))]) Bx.1 Bx.2.1 d_Rd_readSequence_58 rfl hl (by decide) rfl (fun ls hl => ?_)
              refine lv_iinc (lv' := [(4, .int ((nI k9 + (1)))), (3, .ref (ad (20 + 2 * kx149))), (2, .ref (ad (20 + 2 * Ec))), (0, .ref (ad 222)), (1, .int (5))]) Bx.1 Bx.2.1 d_Rd_readSequence_59 hl (k := 1) rfl rfl (by decide) rfl (fun ls hl => ?_)
              rw [show (nI k9 + (1) : Int32) = nI (k9 + 1) from nI_1 (k9)] at hl
              refine lv_goto Bx.1 Bx.2.1 d_Rd_readSequence_62 rfl ?_
              have hsq3 := seq_step hsq (by omega) hlka (by omega) hsl9 rds167 h8168 ⟨by omega, by omega⟩ (by omega) (by rw [eg118]; exact go_rept hbg2 hgt2) her188 hsr189
              exact ih99 mem182 (ax150) (ux151) (Rx152) (Ex153) (Sx154) (Ax155) ((va_up Bx_156 233 (upd (Bx_156 233) la (nI kx149)))) (nx157) (tox158) (kx149) (k9 + 1) _ _ _ (by have := hmeas100; omega) (hRX187) (⟨by omega, by omega, by omega, by omega, by omega⟩) (hsq3) (hz98.trans htk165 (by omega)) hP hD hS (lv_sub hl [0, 1, 2, 3, 4] rfl)
        · subst hr137
          refine lv_if_eq Bx.1 Bx.2.1 d_Rd_readSequence_32 rfl (fun hb201 => ?_) (fun hb201 => ?_)
          · refine lv_aload_n Bx.1 Bx.2.1 d_Rd_readSequence_65 rfl (lv_at hl 2 rfl) ?_
            exact x_aret hx hb hlocks hr (⟨a1, u1, R1, E1, S1, A1, B1, n1, to1, rfl, by omega, by omega, by omega, by omega, hz98, by rw [← eg118]; exact hRX119, ⟨hsq.1.1, her135, hsr136, hsq.1.2.2.2⟩, fun z => by have := z.2; rw [← eg118] at this; omega⟩) hP hS d_Rd_readSequence_66
          · exact absurd hb201 (by decide)
  exact loop93 _ mem74 (ax42) (ux43) (Rx44) (Ex45) (Sx46) (Ax47) ((va_up Bx_48 232 (upd (Bx_48 232) Ec (nI kx41)))) (nx49) (tox50) (kx41) (0) _ _ _ (Nat.lt_succ_self _) (hRX79) (⟨by omega, by omega, by omega, by omega, by omega⟩) (hsq0) (htk57) hP hD hS (lv_sub hl [0, 1, 2, 3, 4] rfl)
set_option maxHeartbeats 4000000 in
set_option maxRecDepth 100000 in
theorem m_Rd_readAlternatives_5Y (l : Launch) {D : va_G} {cy : Nat → ClassId} {sz n : Nat} {ad : Nat → Nat} {mem : Nat → va_E} {Z a R Ec lim : Nat} {f T : Nat → Int32} {to : Nat → Int32} {nm : Nat → Int64} {m0 : Nat → va_E} {u S : Nat} {A Bw : Ro} {cq : Nat} (hlt : l.stackTraces = false) (hn : 224 ≤ n) (hT : TX cy ad Z f m0) (hf : ∀ k, k < Z → f k = T k) (hRX : RX cy ad lim a R Ec to nm m0 mem) (haB : a ≤ 300) (hER : ER ad R Ec Bw mem) (hSR : SR cy ad S Bw mem) (hSa : S ≤ a) (haZ : a ≤ Z) (hLK : LKa (Ec + 1) A) (hc : A 237 5 = nI cq) (hcl : cq ≤ Ec) (h39 : A 239 5 = -1) : NXr l D cy sz n ad y_Rd_readAlternatives c_Rd_readAlternatives 5 (some (.object "AbnfChart$Element")) ({ frames := 25, cells := 1, slots := 6, locals := 588 } : Room) mem [.ref (ad 222), .int (5)] (fun r mem' => ∃ (la a' u' R' E' S' : Nat) (A' Bw' : Ro) (nm' : Nat → Int64) (to' : Nat → Int32), r = ad (20 + 2 * Ec) ∧ Ec + 1 < E' ∧ R ≤ R' ∧ a < a' ∧ a' ≤ Z ∧ TOK R R' to to' ∧ RX cy ad lim (gapF T Z a') R' E' to' nm' m0 mem' ∧ ALI cy ad T Z 5 (seqS T Z a u R (Ec + 1) 5 A nm) cq R Ec S u A Bw la a' u' R' E' S' A' Bw' nm' mem' ∧ bgF (hereF Z T a) = true ∧ Ec < 100 ∧ ¬ hereF Z T (gapF T Z a') = 47 ∧ ¬ (bgF (hereF Z T (gapF T Z a')) = true ∧ a' < gapF T Z a')) (fun X mem' => ((X = cIA ∨ X = cIS) ∧ ∃ rc' ec' : Nat, RS cy ad lim rc' ec' m0 mem') ∧ (bgF (hereF Z T a) = false ∨ Ec = 100 ∨ (bgF (hereF Z T a) = true ∧ Ec < 100 ∧ Fai T Z (seqS T Z a u R (Ec + 1) 5 A nm)))) := by
  refine vx_ofW (cc := c_Rd_readAlternatives) (maxL := 5) (ret := (some (.object "AbnfChart$Element"))) (by decide) rfl ?_
  intro p e s m args below meth c s₁ B hml hno hv
  obtain ⟨rfl, E, hP, hD⟩ := hv
  have hx := B.exec
  have hb := B.bytes
  have hr := B.returns
  have hlocks := B.notSynchronized
  have Bx : MB p s m [.ref (ad 222), .int (5)].toArray c c_Rd_readAlternatives "AbnfChart$Reader" D cy := ⟨hx, hb, tb_all (atoms_spec B.pre) E.2.1, findClass_of_methodNamed B.named, E.1⟩
  have hS : va_S (Az sz) s.heap s.heap [] := va_S.rf
  have hl := lv_entry ([.ref (ad 222), .int (5)]) (n := 5) (Nat.le_of_ble_eq_true rfl)
  rw [lg_entry_eq]
  generalize (lg_sl ([.ref (ad 222), .int (5)]) ++ List.replicate (5 - (lg_sl ([.ref (ad 222), .int (5)])).length) Slot.unset).toArray = ls at hl ⊢
  have hl : lv_has ls 5 [(0, .ref (ad 222)), (1, .int (5))] := hl
  have hZ9 := hT.2.1
  have hbd9 := hRX.1.1.1
  have hfr0 : ∀ i, 19 ≤ i ∧ i < 222 ∧ i ≠ 20 + 2 * Ec → mem i = mem i := fun _ _ => rfl
  obtain ⟨ft1, h9_2⟩ := hRX.2.1
  have h1_3 : mem 1 = .inr (0, [.ref (ad 2), .int (nI Z)]) := (hRX.1.2.2 1 (by omega)).trans hT.1
  have h2_4 : mem 2 = .inl (cy 0, 240, .inl f) := (hRX.1.2.2 2 (by omega)).trans hT.2.2
  have h5_5 := hRX.1.1.2.1
  have hbd11 := hRX.1.1.1
  obtain ⟨S6, g7, hS_8, h220_9, h221_10⟩ := hRX.1.1.2.2.2.2.2.2
  refine lv_aload_n Bx.1 Bx.2.1 d_Rd_readAlternatives_0 rfl (lv_at hl 0 rfl) ?_
  refine lv_iconst (v := 0) Bx.1 Bx.2.1 d_Rd_readAlternatives_1 (by decide) ?_
  refine f_xVr (na := 1) (As := [.int (0)]) (rest := []) Bx hml E hP hD hS (by omega) h9_2 rfl (m_Rd_beginRowY l hlt hn hT hf hRX (by omega)) kw_409 kw_411 sel_Rd_beginRow kw_6 kw_412 (by decide +kernel) ⟨rfl, rfl⟩ ⟨Nat.le_of_ble_eq_true rfl, Nat.le_of_ble_eq_true rfl⟩ rfl hl.1 (Nat.le_of_ble_eq_true rfl) d_Rd_readAlternatives_2 ⟨Nat.le_of_ble_eq_true rfl, Nat.le_of_ble_eq_true rfl⟩ (fun X ce q9 memx H locs hx9 hP hS g1 g2 g3 => f_out hlocks hno hP hS g1 g2 g3 ⟨Nat.le_of_ble_eq_true rfl, Nat.le_of_ble_eq_true rfl⟩ ⟨hx9.1, hx9.2.elim Or.inl (fun z => Or.inr (Or.inl z))⟩) (fun r12 mem13 H locs hq hP hS => ?_)
  have hD : va_D (Az sz) (fw n ad mem13) := fw_D hD
  obtain ⟨hbg, hE9, hr9, hRXb, hclb, hfab⟩ := hq
  subst hr9
  have hfr14 : ∀ i, 19 ≤ i ∧ i < 222 ∧ i ≠ 20 + 2 * Ec → mem13 i = mem i := fun i q => (hfab i (by omega)).trans (hfr0 i q)
  obtain ⟨ft15, h9_16⟩ := hRXb.2.1
  have h1_17 : mem13 1 = .inr (0, [.ref (ad 2), .int (nI Z)]) := (hRXb.1.2.2 1 (by omega)).trans hT.1
  have h2_18 : mem13 2 = .inl (cy 0, 240, .inl f) := (hRXb.1.2.2 2 (by omega)).trans hT.2.2
  have h5_19 := hRXb.1.1.2.1
  have hbd25 := hRXb.1.1.1
  obtain ⟨S20, g21, hS_22, h220_23, h221_24⟩ := hRXb.1.1.2.2.2.2.2.2
  obtain ⟨ft26, h9_27⟩ := hRXb.2.1
  have h1_28 : mem13 1 = .inr (0, [.ref (ad 2), .int (nI Z)]) := (hRXb.1.2.2 1 (by omega)).trans hT.1
  have h2_29 : mem13 2 = .inl (cy 0, 240, .inl f) := (hRXb.1.2.2 2 (by omega)).trans hT.2.2
  have h5_30 := hRXb.1.1.2.1
  have hbd36 := hRXb.1.1.1
  obtain ⟨S31, g32, hS_33, h220_34, h221_35⟩ := hRXb.1.1.2.2.2.2.2.2
  refine lv_astore_n (lv' := [(2, .ref (ad (20 + 2 * Ec))), (0, .ref (ad 222)), (1, .int (5))]) Bx.1 Bx.2.1 d_Rd_readAlternatives_5 rfl hl (by decide) rfl (fun ls hl => ?_)
  refine lv_aload_n Bx.1 Bx.2.1 d_Rd_readAlternatives_6 rfl (lv_at hl 1 rfl) ?_
  refine lv_iload_n Bx.1 Bx.2.1 d_Rd_readAlternatives_7 rfl (lv_at hl 2 rfl) ?_
  have her37 : ER ad R (Ec + 1) (bwN Bw Ec 0 (0) (0) (-1) (-1) (-1) (Bw 234)) mem13 := hER.new (Nat.le_refl _) (by rw [vR_m]; exact hclb) (Or.inl rfl) (fun i9 hi9 => hfr14 (20 + 2 * i9) (by omega))
  have hsr38 : SR cy ad S (bwN Bw Ec 0 (0) (0) (-1) (-1) (-1) (Bw 234)) mem13 := ⟨(hfr14 220 (by omega)).trans hSR.1, (hfr14 221 (by omega)).trans hSR.2⟩
  refine f_xVr (na := 1) (As := [.int (5)]) (rest := []) Bx hml E hP hD hS (by omega) h9_27 rfl (m_Rd_readSequence_5Y l hlt hn hT hf hRXb (by omega) (u := u) (A := A) her37 hsr38 (by omega) (by omega) hLK hc (by omega) h39) kw_435 kw_437 sel_Rd_readSequence kw_6 kw_438 (by decide +kernel) ⟨rfl, rfl⟩ ⟨Nat.le_of_ble_eq_true rfl, Nat.le_of_ble_eq_true rfl⟩ rfl hl.1 (Nat.le_of_ble_eq_true rfl) d_Rd_readAlternatives_8 ⟨Nat.le_of_ble_eq_true rfl, Nat.le_of_ble_eq_true rfl⟩ (fun X ce q9 memx H locs hx9 hP hS g1 g2 g3 => f_out hlocks hno hP hS g1 g2 g3 ⟨Nat.le_of_ble_eq_true rfl, Nat.le_of_ble_eq_true rfl⟩ ⟨hx9.1, Or.inr (Or.inr ⟨hbg, hE9, hx9.2⟩)⟩) (fun r39 mem40 H locs hq hP hS => ?_)
  have hD : va_D (Az sz) (fw n ad mem40) := fw_D hD
  obtain ⟨ax41, ux42, Rx43, Ex44, Sx45, Ax46, Bx_47, nx48, tox49, hr950, h251, h352, h453, h554, htk55, hRX56, rds57, hnb58⟩ := hq
  subst hr950
  obtain ⟨g59, eg60⟩ : ∃ z, z = gapF T Z ax41 := ⟨_, rfl⟩
  have hg61 : ax41 ≤ g59 := by rw [eg60]; exact gapF_ge T Z _
  have hg62 : g59 ≤ Z := by rw [eg60]; exact gapF_le T (by omega)
  rw [← eg60] at hRX56
  obtain ⟨ft63, h9_64⟩ := hRX56.2.1
  have h1_65 : mem40 1 = .inr (0, [.ref (ad 2), .int (nI Z)]) := (hRX56.1.2.2 1 (by omega)).trans hT.1
  have h2_66 : mem40 2 = .inl (cy 0, 240, .inl f) := (hRX56.1.2.2 2 (by omega)).trans hT.2.2
  have h5_67 := hRX56.1.1.2.1
  have hbd73 := hRX56.1.1.1
  obtain ⟨S68, g69, hS_70, h220_71, h221_72⟩ := hRX56.1.1.2.2.2.2.2.2
  have hbd74 := hRX56.1.1.1
  refine lv_astore_n (lv' := [(3, .ref (ad (20 + 2 * (Ec + 1)))), (2, .ref (ad (20 + 2 * Ec))), (0, .ref (ad 222)), (1, .int (5))]) Bx.1 Bx.2.1 d_Rd_readAlternatives_11 rfl hl (by decide) rfl (fun ls hl => ?_)
  refine lv_aload_n Bx.1 Bx.2.1 d_Rd_readAlternatives_12 rfl (lv_at hl 1 rfl) ?_
  refine lv_aload_n Bx.1 Bx.2.1 d_Rd_readAlternatives_13 rfl (lv_at hl 0 rfl) ?_
  have hce75 := (rds57.2.1 Ec (by omega)).1
  refine f_putN Bx hP hD hS (by omega) hce75 rfl inEl tyEl okEl nmEl 4 (by decide) kw_87 rfl rfl rfl rfl (Nat.le_of_ble_eq_true rfl) d_Rd_readAlternatives_14 (fun H locs hP hS => ?_)
  obtain ⟨mem76, e_mem76⟩ : ∃ z, z = va_up mem40 ((20 + 2 * Ec)) (.inr (2, [.int (Bx_47 228 Ec), .int (Bx_47 229 Ec), .int (Bx_47 230 Ec), vR ad (Bx_47 231 Ec), .ref (ad (20 + 2 * (Ec + 1))), vE ad (Bx_47 233 Ec), .ref (ad (21 + 2 * Ec))])) := ⟨_, rfl⟩
  have hP : va_P D vcl (fw n ad mem76) H := by rw [e_mem76]; exact hP
  have hD : va_D (Az sz) (fw n ad mem76) := fw_D hD
  have h_mem76 : mem76 ((20 + 2 * Ec)) = .inr (2, [.int (Bx_47 228 Ec), .int (Bx_47 229 Ec), .int (Bx_47 230 Ec), vR ad (Bx_47 231 Ec), .ref (ad (20 + 2 * (Ec + 1))), vE ad (Bx_47 233 Ec), .ref (ad (21 + 2 * Ec))]) := by rw [e_mem76, va_up_self]
  have hh77 := (va_up_ne mem40 (.inr (2, [.int (Bx_47 228 Ec), .int (Bx_47 229 Ec), .int (Bx_47 230 Ec), vR ad (Bx_47 231 Ec), .ref (ad (20 + 2 * (Ec + 1))), vE ad (Bx_47 233 Ec), .ref (ad (21 + 2 * Ec))])) (show (222 : Nat) ≠ (20 + 2 * Ec) by first | decide | assumption | omega)).trans h9_64
  rw [← e_mem76] at hh77
  have hh78 := (va_up_ne mem40 (.inr (2, [.int (Bx_47 228 Ec), .int (Bx_47 229 Ec), .int (Bx_47 230 Ec), vR ad (Bx_47 231 Ec), .ref (ad (20 + 2 * (Ec + 1))), vE ad (Bx_47 233 Ec), .ref (ad (21 + 2 * Ec))])) (show (1 : Nat) ≠ (20 + 2 * Ec) by first | decide | assumption | omega)).trans h1_65
  rw [← e_mem76] at hh78
  have hh79 := (va_up_ne mem40 (.inr (2, [.int (Bx_47 228 Ec), .int (Bx_47 229 Ec), .int (Bx_47 230 Ec), vR ad (Bx_47 231 Ec), .ref (ad (20 + 2 * (Ec + 1))), vE ad (Bx_47 233 Ec), .ref (ad (21 + 2 * Ec))])) (show (5 : Nat) ≠ (20 + 2 * Ec) by first | decide | assumption | omega)).trans h5_67
  rw [← e_mem76] at hh79
  have hh80 := (va_up_ne mem40 (.inr (2, [.int (Bx_47 228 Ec), .int (Bx_47 229 Ec), .int (Bx_47 230 Ec), vR ad (Bx_47 231 Ec), .ref (ad (20 + 2 * (Ec + 1))), vE ad (Bx_47 233 Ec), .ref (ad (21 + 2 * Ec))])) (show (220 : Nat) ≠ (20 + 2 * Ec) by first | decide | assumption | omega)).trans h220_71
  rw [← e_mem76] at hh80
  have hRX81 : RX cy ad lim (g59) (Rx43) (Ex44) (tox49) (nx48) m0 mem76 := by rw [e_mem76]; exact hRX56.el (by omega) (hRX56.1.mk (by omega) (hRX56.1.1.upEl (by omega) (fun _ => ⟨(rds57.2.1 Ec (by omega)).2.1.oR ad, Or.inr ⟨(Ec + 1), by omega, by omega, rfl⟩, (rds57.2.1 Ec (by omega)).2.2.2.oE ad (by omega)⟩)))
  have her82 : ER ad (Rx43) (Ex44) (va_up Bx_47 232 (upd (Bx_47 232) Ec (nI (Ec + 1)))) mem76 := rds57.2.1.part (by omega) (by omega) (by omega) h_mem76 (fun i9 q9 hi9 => by rw [e_mem76]; exact va_up_ne _ _ (by omega))
  have hsr83 : SR cy ad (Sx45) (Bx_47) mem76 := ⟨(show mem76 220 = mem40 220 by rw [e_mem76]; exact va_up_ne _ _ (by omega)).trans rds57.2.2.1.1, (show mem76 221 = mem40 221 by rw [e_mem76]; exact va_up_ne _ _ (by omega)).trans rds57.2.2.1.2⟩
  obtain ⟨ft84, h9_85⟩ := hRX81.2.1
  have h1_86 : mem76 1 = .inr (0, [.ref (ad 2), .int (nI Z)]) := (hRX81.1.2.2 1 (by omega)).trans hT.1
  have h2_87 : mem76 2 = .inl (cy 0, 240, .inl f) := (hRX81.1.2.2 2 (by omega)).trans hT.2.2
  have h5_88 := hRX81.1.1.2.1
  have hbd94 := hRX81.1.1.1
  obtain ⟨S89, g90, hS_91, h220_92, h221_93⟩ := hRX81.1.1.2.2.2.2.2.2
  refine lv_iconst (v := 0) Bx.1 Bx.2.1 d_Rd_readAlternatives_17 (by decide) ?_
  refine lv_istore (lv' := [(4, .int (0)), (3, .ref (ad (20 + 2 * (Ec + 1)))), (2, .ref (ad (20 + 2 * Ec))), (0, .ref (ad 222)), (1, .int (5))]) Bx.1 Bx.2.1 d_Rd_readAlternatives_18 hl (by decide) rfl (fun ls hl => ?_)
  have hal0 := alt_first hLK hE9 hcl rds57 (by omega) (by omega) her82 hsr83
  have loop95 : ∀ (d96 : Nat) (mem9 : Nat → va_E) (a1 : Nat) (u1 : Nat) (R1 : Nat) (E1 : Nat) (S1 : Nat) (A1 : Ro) (B1 : Ro) (n1 : Nat → Int64) (to1 : Nat → Int32) (la : Nat) (k9 : Nat) (ls : Array Slot) (H : Heap) (locs : List Loc), (240 - k9 < d96) → (RX cy ad lim (gapF T Z a1) R1 E1 to1 n1 m0 mem9) → (a < a1 ∧ a1 ≤ Z ∧ R ≤ R1 ∧ k9 < a1 ∧ k9 ≤ 240) → (ALI cy ad T Z 5 (seqS T Z a u R (Ec + 1) 5 A nm) cq R Ec S u A Bw la a1 u1 R1 E1 S1 A1 B1 n1 mem9) → (TOK R R1 to to1) → (¬ (bgF (hereF Z T (gapF T Z a1)) = true ∧ a1 < gapF T Z a1)) → (va_P D vcl (fw n ad mem9) H) → (va_D (Az sz) (fw n ad mem9)) → (va_S (Az sz) s.heap H locs) → (lv_has ls 5 [(4, .int (nI k9)), (3, .ref (ad (20 + 2 * la))), (2, .ref (ad (20 + 2 * Ec))), (0, .ref (ad 222)), (1, .int (5))]) → W p l e (headSpec (Cond.code y_Rd_readAlternatives c_Rd_readAlternatives 5 (some (.object "AbnfChart$Element")) :: tg) ({ frames := 25, cells := 1, slots := 6, locals := 588 } : Room)).room s m [.ref (ad 222), .int (5)].toArray below meth c H locs 0 0 (vx_MQ below (QX (QR (fun r mem' => ∃ (la a' u' R' E' S' : Nat) (A' Bw' : Ro) (nm' : Nat → Int64) (to' : Nat → Int32), r = ad (20 + 2 * Ec) ∧ Ec + 1 < E' ∧ R ≤ R' ∧ a < a' ∧ a' ≤ Z ∧ TOK R R' to to' ∧ RX cy ad lim (gapF T Z a') R' E' to' nm' m0 mem' ∧ ALI cy ad T Z 5 (seqS T Z a u R (Ec + 1) 5 A nm) cq R Ec S u A Bw la a' u' R' E' S' A' Bw' nm' mem' ∧ bgF (hereF Z T a) = true ∧ Ec < 100 ∧ ¬ hereF Z T (gapF T Z a') = 47 ∧ ¬ (bgF (hereF Z T (gapF T Z a')) = true ∧ a' < gapF T Z a')) (PP D n ad) (Az sz))) (XQ D sz n ad (fun X mem' => ((X = cIA ∨ X = cIS) ∧ ∃ rc' ec' : Nat, RS cy ad lim rc' ec' m0 mem') ∧ (bgF (hereF Z T a) = false ∨ Ec = 100 ∨ (bgF (hereF Z T a) = true ∧ Ec < 100 ∧ Fai T Z (seqS T Z a u R (Ec + 1) 5 A nm))))) [.ref (ad 222), .int (5)].toArray s 1 6 (Az sz)) (F0 m 20 ls []) := by
    intro d96
    induction d96 with
    | zero => intro mem9 a1 u1 R1 E1 S1 A1 B1 n1 to1 la k9 ls H locs hmeas103; exact absurd hmeas103 (Nat.not_lt_zero _)
    | succ d96 ih102 =>
      intro mem9 a1 u1 R1 E1 S1 A1 B1 n1 to1 la k9 ls H locs hmeas103 hz97 hz98 hz99 hz100 hz101 hP hD hS hl
      obtain ⟨g1, eg1⟩ : ∃ z, z = gapF T Z a1 := ⟨_, rfl⟩
      rw [← eg1] at hz97
      have hge1 : a1 ≤ g1 := by rw [eg1]; exact gapF_ge T Z _
      have hbd8 := hz98
      have hle1 : g1 ≤ Z := by rw [eg1]; exact gapF_le T (by omega)
      have hal := hz99
      have hbdE := hz97.1.1.1
      have hla := hal.2.2.2.2.2.2.2.2.2.2
      have hSa1 := hal.2.2.2.1.2.1
      have hlka := ali_lka hal hLK hE9 hcl
      obtain ⟨ft104, h9_105⟩ := hz97.2.1
      have h1_106 : mem9 1 = .inr (0, [.ref (ad 2), .int (nI Z)]) := (hz97.1.2.2 1 (by omega)).trans hT.1
      have h2_107 : mem9 2 = .inl (cy 0, 240, .inl f) := (hz97.1.2.2 2 (by omega)).trans hT.2.2
      have h5_108 := hz97.1.1.2.1
      have hbd114 := hz97.1.1.1
      obtain ⟨S109, g110, hS_111, h220_112, h221_113⟩ := hz97.1.1.2.2.2.2.2.2
      refine lv_iload Bx.1 Bx.2.1 d_Rd_readAlternatives_20 (lv_at hl 0 rfl) ?_
      refine lv_sipush (v := 240) Bx.1 Bx.2.1 d_Rd_readAlternatives_22 (by decide) ?_
      refine lv_icmp_ge Bx.1 Bx.2.1 d_Rd_readAlternatives_25 rfl (fun hb115 => ?_) (fun hb115 => ?_)
      · have hN116 : 240 ≤ k9 := (nI_leI (by omega) (by omega)).mp (show nI (240) ≤ nI (k9) from hb115)
        exact absurd hbd8 (by omega)
      · have hN117 : ¬ 240 ≤ k9 := fun q9 => hb115 (show nI (240) ≤ nI (k9) from (nI_leI (by omega) (by omega)).mpr q9)
        refine lv_aload_n Bx.1 Bx.2.1 d_Rd_readAlternatives_28 rfl (lv_at hl 3 rfl) ?_
        refine f_callVi (na := 0) (As := []) (rest := []) Bx hml E hP hD hS (by omega) h9_105 rfl (m_Rd_peekX l hn hT hf hz97 (by omega)) kw_353 kw_355 sel_Rd_peek kw_6 kw_356 (by decide +kernel) ⟨rfl, rfl⟩ ⟨Nat.le_of_ble_eq_true rfl, Nat.le_of_ble_eq_true rfl⟩ rfl hl.1 (Nat.le_of_ble_eq_true rfl) d_Rd_readAlternatives_29 ⟨Nat.le_of_ble_eq_true rfl, Nat.le_of_ble_eq_true rfl⟩ (fun r119 mem120 H locs hq hP hS => ?_)
        have hD : va_D (Az sz) (fw n ad mem120) := fw_D hD
        obtain ⟨hqe, hpk118⟩ := hq
        rw [hqe] at hP hD
        subst hpk118
        refine lv_bipush (v := 47) Bx.1 Bx.2.1 d_Rd_readAlternatives_32 (by decide) ?_
        refine lv_icmp_ne Bx.1 Bx.2.1 d_Rd_readAlternatives_34 rfl (fun hb122 => ?_) (fun hb122 => ?_)
        · refine lv_aload_n Bx.1 Bx.2.1 d_Rd_readAlternatives_72 rfl (lv_at hl 2 rfl) ?_
          exact x_aret hx hb hlocks hr (⟨la, a1, u1, R1, E1, S1, A1, B1, n1, to1, rfl, by omega, by omega, by omega, by omega, hz100, by rw [← eg1]; exact hz97, hal, hbg, hE9, by rw [← eg1]; exact hb122, hz101⟩) hP hS d_Rd_readAlternatives_73
        · have hlt123 := hereF_lt (by rw [hb122]; decide)
          have h47 : hereF Z T (gapF T Z a1) = 47 := by rw [← eg1]; exact hb122
          have h237 : A1 237 5 = nI cq := hal.2.2.2.2.2.2.2.2.1.2.2.1.trans hc
          have h239 : A1 239 5 = -1 := hal.2.2.2.2.2.2.2.2.1.2.2.2
          refine lv_aload_n Bx.1 Bx.2.1 d_Rd_readAlternatives_37 rfl (lv_at hl 3 rfl) ?_
          refine lv_dup Bx.1 Bx.2.1 d_Rd_readAlternatives_38 rfl ?_
          refine f_get Bx hP (by omega) h9_105 rfl inRd 2 (by decide) kw_146 rfl rfl d_Rd_readAlternatives_39 ?_
          refine lv_iconst (v := 1) Bx.1 Bx.2.1 d_Rd_readAlternatives_42 (by decide) ?_
          refine lv_iadd Bx.1 Bx.2.1 d_Rd_readAlternatives_43 ?_
          rw [show nI g1 + 1 = nI (g1 + 1) from nI_add (g1) (1)]
          refine f_put Bx hP hD hS (by omega) h9_105 rfl inRd tyRd okRd nmRd 2 (by decide) kw_146 rfl rfl rfl rfl (Nat.le_of_ble_eq_true rfl) d_Rd_readAlternatives_44 (fun H locs hP hS => ?_)
          obtain ⟨mem124, e_mem124⟩ : ∃ z, z = va_up mem9 (222) (.inr (4, [.ref (ad 1), .ref (ad 5), .int (nI (g1 + 1)), .int (ft104)])) := ⟨_, rfl⟩
          have hP : va_P D vcl (fw n ad mem124) H := by rw [e_mem124]; exact hP
          have hD : va_D (Az sz) (fw n ad mem124) := fw_D hD
          have h_mem124 : mem124 (222) = .inr (4, [.ref (ad 1), .ref (ad 5), .int (nI (g1 + 1)), .int (ft104)]) := by rw [e_mem124, va_up_self]
          have hh125 := (va_up_ne mem9 (.inr (4, [.ref (ad 1), .ref (ad 5), .int (nI (g1 + 1)), .int (ft104)])) (show (1 : Nat) ≠ 222 by first | decide | assumption | omega)).trans h1_106
          rw [← e_mem124] at hh125
          have hh126 := (va_up_ne mem9 (.inr (4, [.ref (ad 1), .ref (ad 5), .int (nI (g1 + 1)), .int (ft104)])) (show (5 : Nat) ≠ 222 by first | decide | assumption | omega)).trans h5_108
          rw [← e_mem124] at hh126
          have hh127 := (va_up_ne mem9 (.inr (4, [.ref (ad 1), .ref (ad 5), .int (nI (g1 + 1)), .int (ft104)])) (show (220 : Nat) ≠ 222 by first | decide | assumption | omega)).trans h220_112
          rw [← e_mem124] at hh127
          have her128 : ER ad (R1) (E1) (B1) mem124 := hal.2.1.fr (Nat.le_refl _) (fun i9 hi9 => by rw [e_mem124]; exact va_up_ne _ _ (by omega))
          have hsr129 : SR cy ad (S1) (B1) mem124 := ⟨(show mem124 220 = _ from by rw [e_mem124]; exact va_up_ne _ _ (by omega)).trans hal.2.2.1.1, (show mem124 221 = _ from by rw [e_mem124]; exact va_up_ne _ _ (by omega)).trans hal.2.2.1.2⟩
          have hRX130 : RX cy ad lim (g1 + 1) (R1) (E1) (to1) (n1) m0 mem124 := by rw [e_mem124]; exact hz97.at
          refine lv_aload_n Bx.1 Bx.2.1 d_Rd_readAlternatives_47 rfl (lv_at hl 3 rfl) ?_
          refine f_callVi (na := 0) (As := []) (rest := []) Bx hml E hP hD hS (by omega) h_mem124 rfl (m_Rd_readGapY l hn hT hf hRX130 (by omega) (by omega)) kw_397 kw_399 sel_Rd_readGap kw_6 kw_400 (by decide +kernel) ⟨rfl, rfl⟩ ⟨Nat.le_of_ble_eq_true rfl, Nat.le_of_ble_eq_true rfl⟩ rfl hl.1 (Nat.le_of_ble_eq_true rfl) d_Rd_readAlternatives_48 ⟨Nat.le_of_ble_eq_true rfl, Nat.le_of_ble_eq_true rfl⟩ (fun r131 mem132 H locs hq hP hS => ?_)
          have hD : va_D (Az sz) (fw n ad mem132) := fw_D hD
          obtain ⟨g133, eg134⟩ : ∃ z, z = gapF T Z (g1 + 1) := ⟨_, rfl⟩
          rw [← eg134] at hq
          obtain ⟨hRX135, hgc136, hfa137⟩ := hq
          have hg138 : g1 + 1 ≤ g133 := by rw [eg134]; exact gapF_ge T Z _
          have hg139 : g133 ≤ Z := by rw [eg134]; exact gapF_le T (by omega)
          obtain ⟨ft140, h9_141⟩ := hRX135.2.1
          have h1_142 : mem132 1 = .inr (0, [.ref (ad 2), .int (nI Z)]) := (hRX135.1.2.2 1 (by omega)).trans hT.1
          have h2_143 : mem132 2 = .inl (cy 0, 240, .inl f) := (hRX135.1.2.2 2 (by omega)).trans hT.2.2
          have h5_144 := hRX135.1.1.2.1
          have hbd150 := hRX135.1.1.1
          obtain ⟨S145, g146, hS_147, h220_148, h221_149⟩ := hRX135.1.1.2.2.2.2.2.2
          have her151 : ER ad (R1) (E1) (B1) mem132 := her128.fr (Nat.le_refl _) (fun i9 hi9 => hfa137 _ (by omega))
          have hsr152 : SR cy ad (S1) (B1) mem132 := ⟨(show mem132 220 = _ from hfa137 _ (by omega)).trans hsr129.1, (show mem132 221 = _ from hfa137 _ (by omega)).trans hsr129.2⟩
          refine lv_pop Bx.1 Bx.2.1 d_Rd_readAlternatives_51 rfl ?_
          refine lv_aload_n Bx.1 Bx.2.1 d_Rd_readAlternatives_52 rfl (lv_at hl 1 rfl) ?_
          refine lv_aload_n Bx.1 Bx.2.1 d_Rd_readAlternatives_53 rfl (lv_at hl 3 rfl) ?_
          refine lv_iload_n Bx.1 Bx.2.1 d_Rd_readAlternatives_54 rfl (lv_at hl 4 rfl) ?_
          refine f_xVr (na := 1) (As := [.int (5)]) (rest := [.ref (ad (20 + 2 * la))]) Bx hml E hP hD hS (by omega) h9_141 rfl (m_Rd_readSequence_5Y l hlt hn hT hf hRX135 (by omega) (u := u1) (A := A1) her151 hsr152 (by omega) (by omega) hlka h237 (by omega) h239) kw_435 kw_437 sel_Rd_readSequence kw_6 kw_438 (by decide +kernel) ⟨rfl, rfl⟩ ⟨Nat.le_of_ble_eq_true rfl, Nat.le_of_ble_eq_true rfl⟩ rfl hl.1 (Nat.le_of_ble_eq_true rfl) d_Rd_readAlternatives_55 ⟨Nat.le_of_ble_eq_true rfl, Nat.le_of_ble_eq_true rfl⟩ (fun X ce q9 memx H locs hx9 hP hS g1 g2 g3 => f_out hlocks hno hP hS g1 g2 g3 ⟨Nat.le_of_ble_eq_true rfl, Nat.le_of_ble_eq_true rfl⟩ ⟨hx9.1, Or.inr (Or.inr ⟨hbg, hE9, hal.1.fai (go_sl h47) (by rw [← eg1, ← eg134]; exact hx9.2)⟩)⟩) (fun r153 mem154 H locs hq hP hS => ?_)
          have hD : va_D (Az sz) (fw n ad mem154) := fw_D hD
          obtain ⟨ax155, ux156, Rx157, Ex158, Sx159, Ax160, Bx_161, nx162, tox163, hr9164, h2165, h3166, h4167, h5168, htk169, hRX170, rds171, hnb172⟩ := hq
          subst hr9164
          obtain ⟨g173, eg174⟩ : ∃ z, z = gapF T Z ax155 := ⟨_, rfl⟩
          have hg175 : ax155 ≤ g173 := by rw [eg174]; exact gapF_ge T Z _
          have hg176 : g173 ≤ Z := by rw [eg174]; exact gapF_le T (by omega)
          rw [← eg174] at hRX170
          obtain ⟨ft177, h9_178⟩ := hRX170.2.1
          have h1_179 : mem154 1 = .inr (0, [.ref (ad 2), .int (nI Z)]) := (hRX170.1.2.2 1 (by omega)).trans hT.1
          have h2_180 : mem154 2 = .inl (cy 0, 240, .inl f) := (hRX170.1.2.2 2 (by omega)).trans hT.2.2
          have h5_181 := hRX170.1.1.2.1
          have hbd187 := hRX170.1.1.1
          obtain ⟨S182, g183, hS_184, h220_185, h221_186⟩ := hRX170.1.1.2.2.2.2.2.2
          have hbd188 := hRX170.1.1.1
          have hce189 := (rds171.2.1 la (by omega)).1
          refine f_putN Bx hP hD hS (by omega) hce189 rfl inEl tyEl okEl nmEl 5 (by decide) kw_91 rfl rfl rfl rfl (Nat.le_of_ble_eq_true rfl) d_Rd_readAlternatives_58 (fun H locs hP hS => ?_)
          obtain ⟨mem190, e_mem190⟩ : ∃ z, z = va_up mem154 ((20 + 2 * la)) (.inr (2, [.int (Bx_161 228 la), .int (Bx_161 229 la), .int (Bx_161 230 la), vR ad (Bx_161 231 la), vE ad (Bx_161 232 la), .ref (ad (20 + 2 * E1)), .ref (ad (21 + 2 * la))])) := ⟨_, rfl⟩
          have hP : va_P D vcl (fw n ad mem190) H := by rw [e_mem190]; exact hP
          have hD : va_D (Az sz) (fw n ad mem190) := fw_D hD
          have h_mem190 : mem190 ((20 + 2 * la)) = .inr (2, [.int (Bx_161 228 la), .int (Bx_161 229 la), .int (Bx_161 230 la), vR ad (Bx_161 231 la), vE ad (Bx_161 232 la), .ref (ad (20 + 2 * E1)), .ref (ad (21 + 2 * la))]) := by rw [e_mem190, va_up_self]
          have hh191 := (va_up_ne mem154 (.inr (2, [.int (Bx_161 228 la), .int (Bx_161 229 la), .int (Bx_161 230 la), vR ad (Bx_161 231 la), vE ad (Bx_161 232 la), .ref (ad (20 + 2 * E1)), .ref (ad (21 + 2 * la))])) (show (222 : Nat) ≠ (20 + 2 * la) by first | decide | assumption | omega)).trans h9_178
          rw [← e_mem190] at hh191
          have hh192 := (va_up_ne mem154 (.inr (2, [.int (Bx_161 228 la), .int (Bx_161 229 la), .int (Bx_161 230 la), vR ad (Bx_161 231 la), vE ad (Bx_161 232 la), .ref (ad (20 + 2 * E1)), .ref (ad (21 + 2 * la))])) (show (1 : Nat) ≠ (20 + 2 * la) by first | decide | assumption | omega)).trans h1_179
          rw [← e_mem190] at hh192
          have hh193 := (va_up_ne mem154 (.inr (2, [.int (Bx_161 228 la), .int (Bx_161 229 la), .int (Bx_161 230 la), vR ad (Bx_161 231 la), vE ad (Bx_161 232 la), .ref (ad (20 + 2 * E1)), .ref (ad (21 + 2 * la))])) (show (5 : Nat) ≠ (20 + 2 * la) by first | decide | assumption | omega)).trans h5_181
          rw [← e_mem190] at hh193
          have hh194 := (va_up_ne mem154 (.inr (2, [.int (Bx_161 228 la), .int (Bx_161 229 la), .int (Bx_161 230 la), vR ad (Bx_161 231 la), vE ad (Bx_161 232 la), .ref (ad (20 + 2 * E1)), .ref (ad (21 + 2 * la))])) (show (220 : Nat) ≠ (20 + 2 * la) by first | decide | assumption | omega)).trans h220_185
          rw [← e_mem190] at hh194
          have hRX195 : RX cy ad lim (g173) (Rx157) (Ex158) (tox163) (nx162) m0 mem190 := by rw [e_mem190]; exact hRX170.el (by omega) (hRX170.1.mk (by omega) (hRX170.1.1.upEl (by omega) (fun _ => ⟨(rds171.2.1 la (by omega)).2.1.oR ad, (rds171.2.1 la (by omega)).2.2.1.oE ad (by omega), Or.inr ⟨E1, by omega, by omega, rfl⟩⟩)))
          have her196 : ER ad (Rx157) (Ex158) (va_up Bx_161 233 (upd (Bx_161 233) la (nI E1))) mem190 := rds171.2.1.next (by omega) (by omega) (by omega) h_mem190 (fun i9 q9 hi9 => by rw [e_mem190]; exact va_up_ne _ _ (by omega))
          have hsr197 : SR cy ad (Sx159) (Bx_161) mem190 := ⟨(show mem190 220 = mem154 220 by rw [e_mem190]; exact va_up_ne _ _ (by omega)).trans rds171.2.2.1.1, (show mem190 221 = mem154 221 by rw [e_mem190]; exact va_up_ne _ _ (by omega)).trans rds171.2.2.1.2⟩
          obtain ⟨ft198, h9_199⟩ := hRX195.2.1
          have h1_200 : mem190 1 = .inr (0, [.ref (ad 2), .int (nI Z)]) := (hRX195.1.2.2 1 (by omega)).trans hT.1
          have h2_201 : mem190 2 = .inl (cy 0, 240, .inl f) := (hRX195.1.2.2 2 (by omega)).trans hT.2.2
          have h5_202 := hRX195.1.1.2.1
          have hbd208 := hRX195.1.1.1
          obtain ⟨S203, g204, hS_205, h220_206, h221_207⟩ := hRX195.1.1.2.2.2.2.2.2
          refine lv_aload_n Bx.1 Bx.2.1 d_Rd_readAlternatives_61 rfl (lv_at hl 1 rfl) ?_
          refine f_getN Bx hP (by omega) h_mem190 rfl inEl 5 (by decide) kw_91 rfl rfl d_Rd_readAlternatives_62 ?_
          refine lv_astore_n (lv' := [(3, .ref (ad (20 + 2 * E1))), (4, .int (nI k9)), (2, .ref (ad (20 + 2 * Ec))), (0, .ref (ad 222)), (1, .int (5))]) Bx.1 Bx.2.1 d_Rd_readAlternatives_65 rfl hl (by decide) rfl (fun ls hl => ?_)
          refine lv_iinc (lv' := [(4, .int ((nI k9 + (1)))), (3, .ref (ad (20 + 2 * E1))), (2, .ref (ad (20 + 2 * Ec))), (0, .ref (ad 222)), (1, .int (5))]) Bx.1 Bx.2.1 d_Rd_readAlternatives_66 hl (k := 1) rfl rfl (by decide) rfl (fun ls hl => ?_)
          rw [show (nI k9 + (1) : Int32) = nI (k9 + 1) from nI_1 (k9)] at hl
          refine lv_goto Bx.1 Bx.2.1 d_Rd_readAlternatives_69 rfl ?_
          have hal3 := alt_step hal (by omega) hLK hlka (by omega) hcl rds171 (by omega) (by omega) (by rw [eg134, eg1]; exact go_sl h47) her196 hsr197
          exact ih102 mem190 (ax155) (ux156) (Rx157) (Ex158) (Sx159) (Ax160) ((va_up Bx_161 233 (upd (Bx_161 233) la (nI E1)))) (nx162) (tox163) (E1) (k9 + 1) _ _ _ (by have := hmeas103; omega) (by rw [← eg174]; exact hRX195) (⟨by omega, by omega, by omega, by omega, by omega⟩) (hal3) (hz100.trans htk169 (by omega)) (hnb172) hP hD hS (lv_sub hl [0, 1, 2, 3, 4] rfl)
  exact loop95 _ mem76 (ax41) (ux42) (Rx43) (Ex44) (Sx45) (Ax46) ((va_up Bx_47 232 (upd (Bx_47 232) Ec (nI (Ec + 1))))) (nx48) (tox49) (Ec + 1) (0) _ _ _ (Nat.lt_succ_self _) (by rw [← eg60]; exact hRX81) (⟨by omega, by omega, by omega, by omega, by omega⟩) (hal0) (htk55) (hnb58) hP hD hS (lv_sub hl [0, 1, 2, 3, 4] rfl)
set_option maxHeartbeats 4000000 in
set_option maxRecDepth 100000 in
theorem m_Rd_readBracket_4Y (l : Launch) {D : va_G} {cy : Nat → ClassId} {sz n : Nat} {ad : Nat → Nat} {mem : Nat → va_E} {Z a R Ec lim : Nat} {f T : Nat → Int32} {to : Nat → Int32} {nm : Nat → Int64} {m0 : Nat → va_E} {u S : Nat} {A Bw : Ro} {what oe en : Int32} (hlt : l.stackTraces = false) (hn : 224 ≤ n) (hT : TX cy ad Z f m0) (hf : ∀ k, k < Z → f k = T k) (hRX : RX cy ad lim a R Ec to nm m0 mem) (haB : a ≤ 300) (hER : ER ad R Ec Bw mem) (hSR : SR cy ad S Bw mem) (hSa : S ≤ a) (haZ : a < Z) (hwe : (what = 1 ∧ en = 41) ∨ (what = 2 ∧ en = 93)) (hLK : LKa Ec A) : NXr l D cy sz n ad y_Rd_readBracket c_Rd_readBracket 4 (some (.object "AbnfChart$Element")) ({ frames := 26, cells := 1, slots := 6, locals := 620 } : Room) mem [.ref (ad 222), .int (4), .int (en)] (fun r mem' => ∃ (la a1 u1 R1 E1 S1 : Nat) (A9 B9 : Ro) (nm1 : Nat → Int64) (to1 : Nat → Int32), r = ad (20 + 2 * Ec) ∧ Ec + 1 < E1 ∧ R ≤ R1 ∧ a + 1 < a1 ∧ gapF T Z a1 + 1 ≤ Z ∧ TOK R R1 to to1 ∧ RX cy ad lim (gapF T Z a1 + 1) R1 E1 to1 nm1 m0 mem' ∧ ALI cy ad T Z 5 (seqS T Z (gapF T Z (a + 1)) u R (Ec + 1) 5 (entA A 5 Ec what oe) nm) Ec R Ec S u (entA A 5 Ec what oe) Bw la a1 u1 R1 E1 S1 A9 B9 nm1 mem' ∧ hereF Z T (gapF T Z a1) = en ∧ entS T Z (a + 1) u R Ec 5 A nm what oe = some (gapF T Z (a + 1), u, R, Ec + 1, 5, (entA A 5 Ec what oe), nm, true)) (fun X mem' => ((X = cIA ∨ X = cIS) ∧ ∃ rc' ec' : Nat, RS cy ad lim rc' ec' m0 mem') ∧ (Fai T Z (entS T Z (a + 1) u R Ec 5 A nm what oe))) := by
  refine vx_ofW (cc := c_Rd_readBracket) (maxL := 4) (ret := (some (.object "AbnfChart$Element"))) (by decide) rfl ?_
  intro p e s m args below meth c s₁ B hml hno hv
  obtain ⟨rfl, E, hP, hD⟩ := hv
  have hx := B.exec
  have hb := B.bytes
  have hr := B.returns
  have hlocks := B.notSynchronized
  have Bx : MB p s m [.ref (ad 222), .int (4), .int (en)].toArray c c_Rd_readBracket "AbnfChart$Reader" D cy := ⟨hx, hb, tb_all (atoms_spec B.pre) E.2.1, findClass_of_methodNamed B.named, E.1⟩
  have hS : va_S (Az sz) s.heap s.heap [] := va_S.rf
  have hl := lv_entry ([.ref (ad 222), .int (4), .int (en)]) (n := 4) (Nat.le_of_ble_eq_true rfl)
  rw [lg_entry_eq]
  generalize (lg_sl ([.ref (ad 222), .int (4), .int (en)]) ++ List.replicate (4 - (lg_sl ([.ref (ad 222), .int (4), .int (en)])).length) Slot.unset).toArray = ls at hl ⊢
  have hl : lv_has ls 4 [(0, .ref (ad 222)), (1, .int (4)), (2, .int (en))] := hl
  have hZ9 := hT.2.1
  have hbd9 := hRX.1.1.1
  have hfr0 : ∀ i, 19 ≤ i ∧ i < 222 → mem i = mem i := fun _ _ => rfl
  obtain ⟨ft1, h9_2⟩ := hRX.2.1
  have h1_3 : mem 1 = .inr (0, [.ref (ad 2), .int (nI Z)]) := (hRX.1.2.2 1 (by omega)).trans hT.1
  have h2_4 : mem 2 = .inl (cy 0, 240, .inl f) := (hRX.1.2.2 2 (by omega)).trans hT.2.2
  have h5_5 := hRX.1.1.2.1
  have hbd11 := hRX.1.1.1
  obtain ⟨S6, g7, hS_8, h220_9, h221_10⟩ := hRX.1.1.2.2.2.2.2.2
  refine lv_aload_n Bx.1 Bx.2.1 d_Rd_readBracket_0 rfl (lv_at hl 0 rfl) ?_
  refine lv_iload_n Bx.1 Bx.2.1 d_Rd_readBracket_1 rfl (lv_at hl 1 rfl) ?_
  refine lv_bipush (v := 6) Bx.1 Bx.2.1 d_Rd_readBracket_2 (by decide) ?_
  refine lv_icmp_ge Bx.1 Bx.2.1 d_Rd_readBracket_4 rfl (fun hb12 => ?_) (fun hb12 => ?_)
  · exact absurd hb12 (by decide)
  · refine lv_iconst (v := 1) Bx.1 Bx.2.1 d_Rd_readBracket_7 (by decide) ?_
    refine lv_goto Bx.1 Bx.2.1 d_Rd_readBracket_8 rfl ?_
    refine lv_aload_n Bx.1 Bx.2.1 d_Rd_readBracket_12 rfl (lv_at hl 0 rfl) ?_
    refine f_get Bx hP (by omega) h9_2 rfl inRd 2 (by decide) kw_146 rfl rfl d_Rd_readBracket_13 ?_
    refine f_xVv (na := 2) (As := [.int (1), .int (nI a)]) (rest := []) Bx hml E hP hD hS (by omega) h9_2 rfl (m_Rd_needRoomX l hlt hn hT hf hRX (by omega)) kw_383 kw_385 sel_Rd_needRoom kw_6 kw_386 (by decide +kernel) ⟨rfl, rfl⟩ ⟨Nat.le_of_ble_eq_true rfl, Nat.le_of_ble_eq_true rfl⟩ rfl hl.1 (Nat.le_of_ble_eq_true rfl) d_Rd_readBracket_16 ⟨Nat.le_of_ble_eq_true rfl, Nat.le_of_ble_eq_true rfl⟩ (fun X ce q9 memx H locs hx9 hP hS g1 g2 g3 => f_out hlocks hno hP hS g1 g2 g3 ⟨Nat.le_of_ble_eq_true rfl, Nat.le_of_ble_eq_true rfl⟩ ⟨hx9.1, absurd hx9.2 (by decide)⟩) (fun mem14 H locs hq hP hS => ?_)
    have hD : va_D (Az sz) (fw n ad mem14) := fw_D hD
    obtain ⟨hqe, hg15⟩ := hq
    rw [hqe] at hP hD
    refine lv_aload_n Bx.1 Bx.2.1 d_Rd_readBracket_19 rfl (lv_at hl 0 rfl) ?_
    refine lv_dup Bx.1 Bx.2.1 d_Rd_readBracket_20 rfl ?_
    refine f_get Bx hP (by omega) h9_2 rfl inRd 2 (by decide) kw_146 rfl rfl d_Rd_readBracket_21 ?_
    refine lv_iconst (v := 1) Bx.1 Bx.2.1 d_Rd_readBracket_24 (by decide) ?_
    refine lv_iadd Bx.1 Bx.2.1 d_Rd_readBracket_25 ?_
    rw [show nI a + 1 = nI (a + 1) from nI_add (a) (1)]
    refine f_put Bx hP hD hS (by omega) h9_2 rfl inRd tyRd okRd nmRd 2 (by decide) kw_146 rfl rfl rfl rfl (Nat.le_of_ble_eq_true rfl) d_Rd_readBracket_26 (fun H locs hP hS => ?_)
    obtain ⟨mem16, e_mem16⟩ : ∃ z, z = va_up mem (222) (.inr (4, [.ref (ad 1), .ref (ad 5), .int (nI (a + 1)), .int (ft1)])) := ⟨_, rfl⟩
    have hP : va_P D vcl (fw n ad mem16) H := by rw [e_mem16]; exact hP
    have hD : va_D (Az sz) (fw n ad mem16) := fw_D hD
    have h_mem16 : mem16 (222) = .inr (4, [.ref (ad 1), .ref (ad 5), .int (nI (a + 1)), .int (ft1)]) := by rw [e_mem16, va_up_self]
    have hh17 := (va_up_ne mem (.inr (4, [.ref (ad 1), .ref (ad 5), .int (nI (a + 1)), .int (ft1)])) (show (1 : Nat) ≠ 222 by first | decide | assumption | omega)).trans h1_3
    rw [← e_mem16] at hh17
    have hh18 := (va_up_ne mem (.inr (4, [.ref (ad 1), .ref (ad 5), .int (nI (a + 1)), .int (ft1)])) (show (5 : Nat) ≠ 222 by first | decide | assumption | omega)).trans h5_5
    rw [← e_mem16] at hh18
    have hh19 := (va_up_ne mem (.inr (4, [.ref (ad 1), .ref (ad 5), .int (nI (a + 1)), .int (ft1)])) (show (220 : Nat) ≠ 222 by first | decide | assumption | omega)).trans h220_9
    rw [← e_mem16] at hh19
    have hfr20 : ∀ i, 19 ≤ i ∧ i < 222 → mem16 i = mem i := fun i q => (show mem16 i = mem i by rw [e_mem16]; exact va_up_ne _ _ (by omega)).trans (hfr0 i q)
    have hRX21 : RX cy ad lim (a + 1) (R) (Ec) (to) (nm) m0 mem16 := by rw [e_mem16]; exact hRX.at
    refine lv_aload_n Bx.1 Bx.2.1 d_Rd_readBracket_29 rfl (lv_at hl 0 rfl) ?_
    refine f_callVi (na := 0) (As := []) (rest := []) Bx hml E hP hD hS (by omega) h_mem16 rfl (m_Rd_readGapY l hn hT hf hRX21 (by omega) (by omega)) kw_397 kw_399 sel_Rd_readGap kw_6 kw_400 (by decide +kernel) ⟨rfl, rfl⟩ ⟨Nat.le_of_ble_eq_true rfl, Nat.le_of_ble_eq_true rfl⟩ rfl hl.1 (Nat.le_of_ble_eq_true rfl) d_Rd_readBracket_30 ⟨Nat.le_of_ble_eq_true rfl, Nat.le_of_ble_eq_true rfl⟩ (fun r22 mem23 H locs hq hP hS => ?_)
    have hD : va_D (Az sz) (fw n ad mem23) := fw_D hD
    obtain ⟨g24, eg25⟩ : ∃ z, z = gapF T Z (a + 1) := ⟨_, rfl⟩
    rw [← eg25] at hq
    obtain ⟨hRX26, hgc27, hfa28⟩ := hq
    have hg29 : a + 1 ≤ g24 := by rw [eg25]; exact gapF_ge T Z _
    have hg30 : g24 ≤ Z := by rw [eg25]; exact gapF_le T (by omega)
    have hfr31 : ∀ i, 19 ≤ i ∧ i < 222 → mem23 i = mem i := fun i q => (hfa28 i (by omega)).trans (hfr20 i q)
    obtain ⟨ft32, h9_33⟩ := hRX26.2.1
    have h1_34 : mem23 1 = .inr (0, [.ref (ad 2), .int (nI Z)]) := (hRX26.1.2.2 1 (by omega)).trans hT.1
    have h2_35 : mem23 2 = .inl (cy 0, 240, .inl f) := (hRX26.1.2.2 2 (by omega)).trans hT.2.2
    have h5_36 := hRX26.1.1.2.1
    have hbd42 := hRX26.1.1.1
    obtain ⟨S37, g38, hS_39, h220_40, h221_41⟩ := hRX26.1.1.2.2.2.2.2.2
    refine lv_pop Bx.1 Bx.2.1 d_Rd_readBracket_33 rfl ?_
    refine lv_aload_n Bx.1 Bx.2.1 d_Rd_readBracket_34 rfl (lv_at hl 0 rfl) ?_
    refine lv_iload_n Bx.1 Bx.2.1 d_Rd_readBracket_35 rfl (lv_at hl 1 rfl) ?_
    refine lv_iconst (v := 1) Bx.1 Bx.2.1 d_Rd_readBracket_36 (by decide) ?_
    refine lv_iadd Bx.1 Bx.2.1 d_Rd_readBracket_37 ?_
    rw [show (4 + 1 : Int32) = 5 from rfl]
    have her43 : ER ad R Ec Bw mem23 := hER.fr (Nat.le_refl _) (fun i9 hi9 => hfr31 (20 + 2 * i9) (by omega))
    have hsr44 : SR cy ad S Bw mem23 := ⟨(hfr31 220 (by omega)).trans hSR.1, (hfr31 221 (by omega)).trans hSR.2⟩
    refine f_xVr (na := 1) (As := [.int (5)]) (rest := []) Bx hml E hP hD hS (by omega) h9_33 rfl (m_Rd_readAlternatives_5Y l hlt hn hT hf hRX26 (by omega) (u := u) (A := (entA A 5 Ec what oe)) her43 hsr44 (by omega) (by omega) (ent_lka hLK) (cq := Ec) entA_f.2.2.2.2.2.2.2.1 (Nat.le_refl _) (by rw [entA_f.2.2.2.2.2.2.1, upd_self])) kw_405 kw_407 sel_Rd_readAlternatives kw_6 kw_408 (by decide +kernel) ⟨rfl, rfl⟩ ⟨Nat.le_of_ble_eq_true rfl, Nat.le_of_ble_eq_true rfl⟩ rfl hl.1 (Nat.le_of_ble_eq_true rfl) d_Rd_readBracket_38 ⟨Nat.le_of_ble_eq_true rfl, Nat.le_of_ble_eq_true rfl⟩ (fun X ce q9 memx H locs hx9 hP hS g1 g2 g3 => f_out hlocks hno hP hS g1 g2 g3 ⟨Nat.le_of_ble_eq_true rfl, Nat.le_of_ble_eq_true rfl⟩ ⟨hx9.1, hx9.2.elim (fun z => Or.inl (entS_no (Or.inl (by rw [← eg25]; exact z)))) (fun z => z.elim (fun z => Or.inl (entS_no (Or.inr z))) (fun z => Fai.br0 (by rw [ent_ok (by rw [← eg25]; exact z.1) z.2.1, ← eg25]) z.2.2))⟩) (fun r45 mem46 H locs hq hP hS => ?_)
    have hD : va_D (Az sz) (fw n ad mem46) := fw_D hD
    obtain ⟨la47, ax48, ux49, Rx50, Ex51, Sx52, Ax53, Bx_54, nx55, tox56, hr957, h158, h259, h360, h461, htk62, hRX63, ali64, hbg65, hE66, h4767, hnb68⟩ := hq
    subst hr957
    obtain ⟨g69, eg70⟩ : ∃ z, z = gapF T Z ax48 := ⟨_, rfl⟩
    have hg71 : ax48 ≤ g69 := by rw [eg70]; exact gapF_ge T Z _
    have hg72 : g69 ≤ Z := by rw [eg70]; exact gapF_le T (by omega)
    rw [← eg70] at hRX63
    obtain ⟨ft73, h9_74⟩ := hRX63.2.1
    have h1_75 : mem46 1 = .inr (0, [.ref (ad 2), .int (nI Z)]) := (hRX63.1.2.2 1 (by omega)).trans hT.1
    have h2_76 : mem46 2 = .inl (cy 0, 240, .inl f) := (hRX63.1.2.2 2 (by omega)).trans hT.2.2
    have h5_77 := hRX63.1.1.2.1
    have hbd83 := hRX63.1.1.1
    obtain ⟨S78, g79, hS_80, h220_81, h221_82⟩ := hRX63.1.1.2.2.2.2.2.2
    have hbd84 := hRX63.1.1.1
    have hent : entS T Z (a + 1) u R Ec 5 A nm what oe = some (g24, u, R, Ec + 1, 5, (entA A 5 Ec what oe), nm, true) := by rw [ent_ok (by rw [← eg25]; exact hbg65) hE66, ← eg25]
    have hA5 : Ax53 235 5 = what := by
      obtain ⟨c1, ho, hg, hk, hs⟩ := ali64.1
      rw [hk 5 (by omega), entA_5, upd_self]
    refine lv_astore_n (lv' := [(3, .ref (ad (20 + 2 * Ec))), (0, .ref (ad 222)), (1, .int (4)), (2, .int (en))]) Bx.1 Bx.2.1 d_Rd_readBracket_41 rfl hl (by decide) rfl (fun ls hl => ?_)
    refine lv_aload_n Bx.1 Bx.2.1 d_Rd_readBracket_42 rfl (lv_at hl 1 rfl) ?_
    refine lv_aload_n Bx.1 Bx.2.1 d_Rd_readBracket_43 rfl (lv_at hl 1 rfl) ?_
    refine f_callVi (na := 0) (As := []) (rest := [.ref (ad 222)]) Bx hml E hP hD hS (by omega) h9_74 rfl (m_Rd_peekX l hn hT hf hRX63 (by omega)) kw_353 kw_355 sel_Rd_peek kw_6 kw_356 (by decide +kernel) ⟨rfl, rfl⟩ ⟨Nat.le_of_ble_eq_true rfl, Nat.le_of_ble_eq_true rfl⟩ rfl hl.1 (Nat.le_of_ble_eq_true rfl) d_Rd_readBracket_44 ⟨Nat.le_of_ble_eq_true rfl, Nat.le_of_ble_eq_true rfl⟩ (fun r86 mem87 H locs hq hP hS => ?_)
    have hD : va_D (Az sz) (fw n ad mem87) := fw_D hD
    obtain ⟨hqe, hpk85⟩ := hq
    rw [hqe] at hP hD
    subst hpk85
    refine lv_iload_n Bx.1 Bx.2.1 d_Rd_readBracket_47 rfl (lv_at hl 3 rfl) ?_
    refine lv_icmp_ne Bx.1 Bx.2.1 d_Rd_readBracket_48 rfl (fun hb89 => ?_) (fun hb89 => ?_)
    · refine lv_iconst (v := 0) Bx.1 Bx.2.1 d_Rd_readBracket_55 (by decide) ?_
      refine lv_aload_n Bx.1 Bx.2.1 d_Rd_readBracket_56 rfl (lv_at hl 1 rfl) ?_
      refine f_get Bx hP (by omega) h9_74 rfl inRd 2 (by decide) kw_146 rfl rfl d_Rd_readBracket_57 ?_
      refine f_xVv (na := 2) (As := [.int (0), .int (nI g69)]) (rest := []) Bx hml E hP hD hS (by omega) h9_74 rfl (m_Rd_needReadableX l hlt hn hT hf hRX63 (by omega)) kw_360 kw_362 sel_Rd_needReadable kw_6 kw_363 (by decide +kernel) ⟨rfl, rfl⟩ ⟨Nat.le_of_ble_eq_true rfl, Nat.le_of_ble_eq_true rfl⟩ rfl hl.1 (Nat.le_of_ble_eq_true rfl) d_Rd_readBracket_60 ⟨Nat.le_of_ble_eq_true rfl, Nat.le_of_ble_eq_true rfl⟩ (fun X ce q9 memx H locs hx9 hP hS g1 g2 g3 => f_out hlocks hno hP hS g1 g2 g3 ⟨Nat.le_of_ble_eq_true rfl, Nat.le_of_ble_eq_true rfl⟩ ⟨hx9.1, Fai.br1 hent ali64.1.suc (br_no hwe hA5 (by rw [← eg70]; exact hb89) h4767 hnb68)⟩) (fun mem91 H locs hq hP hS => ?_)
      have hD : va_D (Az sz) (fw n ad mem91) := fw_D hD
      obtain ⟨hqe, hg92⟩ := hq
      rw [hqe] at hP hD
      exact absurd rfl hg92
    · refine lv_iconst (v := 1) Bx.1 Bx.2.1 d_Rd_readBracket_51 (by decide) ?_
      refine lv_goto Bx.1 Bx.2.1 d_Rd_readBracket_52 rfl ?_
      refine lv_aload_n Bx.1 Bx.2.1 d_Rd_readBracket_56 rfl (lv_at hl 1 rfl) ?_
      refine f_get Bx hP (by omega) h9_74 rfl inRd 2 (by decide) kw_146 rfl rfl d_Rd_readBracket_57 ?_
      refine f_xVv (na := 2) (As := [.int (1), .int (nI g69)]) (rest := []) Bx hml E hP hD hS (by omega) h9_74 rfl (m_Rd_needReadableX l hlt hn hT hf hRX63 (by omega)) kw_360 kw_362 sel_Rd_needReadable kw_6 kw_363 (by decide +kernel) ⟨rfl, rfl⟩ ⟨Nat.le_of_ble_eq_true rfl, Nat.le_of_ble_eq_true rfl⟩ rfl hl.1 (Nat.le_of_ble_eq_true rfl) d_Rd_readBracket_60 ⟨Nat.le_of_ble_eq_true rfl, Nat.le_of_ble_eq_true rfl⟩ (fun X ce q9 memx H locs hx9 hP hS g1 g2 g3 => f_out hlocks hno hP hS g1 g2 g3 ⟨Nat.le_of_ble_eq_true rfl, Nat.le_of_ble_eq_true rfl⟩ ⟨hx9.1, absurd hx9.2 (by decide)⟩) (fun mem94 H locs hq hP hS => ?_)
      have hD : va_D (Az sz) (fw n ad mem94) := fw_D hD
      obtain ⟨hqe, hg95⟩ := hq
      rw [hqe] at hP hD
      refine lv_aload_n Bx.1 Bx.2.1 d_Rd_readBracket_63 rfl (lv_at hl 1 rfl) ?_
      refine lv_dup Bx.1 Bx.2.1 d_Rd_readBracket_64 rfl ?_
      refine f_get Bx hP (by omega) h9_74 rfl inRd 2 (by decide) kw_146 rfl rfl d_Rd_readBracket_65 ?_
      refine lv_iconst (v := 1) Bx.1 Bx.2.1 d_Rd_readBracket_68 (by decide) ?_
      refine lv_iadd Bx.1 Bx.2.1 d_Rd_readBracket_69 ?_
      rw [show nI g69 + 1 = nI (g69 + 1) from nI_add (g69) (1)]
      refine f_put Bx hP hD hS (by omega) h9_74 rfl inRd tyRd okRd nmRd 2 (by decide) kw_146 rfl rfl rfl rfl (Nat.le_of_ble_eq_true rfl) d_Rd_readBracket_70 (fun H locs hP hS => ?_)
      obtain ⟨mem96, e_mem96⟩ : ∃ z, z = va_up mem46 (222) (.inr (4, [.ref (ad 1), .ref (ad 5), .int (nI (g69 + 1)), .int (ft73)])) := ⟨_, rfl⟩
      have hP : va_P D vcl (fw n ad mem96) H := by rw [e_mem96]; exact hP
      have hD : va_D (Az sz) (fw n ad mem96) := fw_D hD
      have h_mem96 : mem96 (222) = .inr (4, [.ref (ad 1), .ref (ad 5), .int (nI (g69 + 1)), .int (ft73)]) := by rw [e_mem96, va_up_self]
      have hh97 := (va_up_ne mem46 (.inr (4, [.ref (ad 1), .ref (ad 5), .int (nI (g69 + 1)), .int (ft73)])) (show (1 : Nat) ≠ 222 by first | decide | assumption | omega)).trans h1_75
      rw [← e_mem96] at hh97
      have hh98 := (va_up_ne mem46 (.inr (4, [.ref (ad 1), .ref (ad 5), .int (nI (g69 + 1)), .int (ft73)])) (show (5 : Nat) ≠ 222 by first | decide | assumption | omega)).trans h5_77
      rw [← e_mem96] at hh98
      have hh99 := (va_up_ne mem46 (.inr (4, [.ref (ad 1), .ref (ad 5), .int (nI (g69 + 1)), .int (ft73)])) (show (220 : Nat) ≠ 222 by first | decide | assumption | omega)).trans h220_81
      rw [← e_mem96] at hh99
      have her100 : ER ad (Rx50) (Ex51) (Bx_54) mem96 := ali64.2.1.fr (Nat.le_refl _) (fun i9 hi9 => by rw [e_mem96]; exact va_up_ne _ _ (by omega))
      have hsr101 : SR cy ad (Sx52) (Bx_54) mem96 := ⟨(show mem96 220 = _ from by rw [e_mem96]; exact va_up_ne _ _ (by omega)).trans ali64.2.2.1.1, (show mem96 221 = _ from by rw [e_mem96]; exact va_up_ne _ _ (by omega)).trans ali64.2.2.1.2⟩
      have hRX102 : RX cy ad lim (g69 + 1) (Rx50) (Ex51) (tox56) (nx55) m0 mem96 := by rw [e_mem96]; exact hRX63.at
      refine lv_aload_n Bx.1 Bx.2.1 d_Rd_readBracket_73 rfl (lv_at hl 0 rfl) ?_
      have hal9 : ALI cy ad T Z 5 (seqS T Z (gapF T Z (a + 1)) u R (Ec + 1) 5 (entA A 5 Ec what oe) nm) Ec R Ec S u (entA A 5 Ec what oe) Bw la47 ax48 ux49 Rx50 Ex51 Sx52 Ax53 Bx_54 nx55 mem96 := by rw [← eg25]; exact ⟨ali64.1, her100, hsr101, ali64.2.2.2⟩
      exact x_aret hx hb hlocks hr (⟨la47, ax48, ux49, Rx50, Ex51, Sx52, Ax53, Bx_54, nx55, tox56, rfl, by omega, by omega, by omega, by rw [← eg70]; have := br_lt hwe hb89; omega, htk62, by rw [← eg70]; exact hRX102, hal9, by rw [← eg70]; exact hb89, by rw [← eg25]; exact hent⟩) hP hS d_Rd_readBracket_74
set_option maxHeartbeats 4000000 in
set_option maxRecDepth 100000 in
theorem m_Rd_readOption_4Y (l : Launch) {D : va_G} {cy : Nat → ClassId} {sz n : Nat} {ad : Nat → Nat} {mem : Nat → va_E} {Z a R Ec lim : Nat} {f T : Nat → Int32} {to : Nat → Int32} {nm : Nat → Int64} {m0 : Nat → va_E} {u S : Nat} {A Bw : Ro} (hlt : l.stackTraces = false) (hn : 224 ≤ n) (hT : TX cy ad Z f m0) (hf : ∀ k, k < Z → f k = T k) (hRX : RX cy ad lim a R Ec to nm m0 mem) (haB : a ≤ 300) (hER : ER ad R Ec Bw mem) (hSR : SR cy ad S Bw mem) (hSa : S ≤ a) (haZ : a < Z) (hLK : LKa Ec A) (hF : FRM A 4 Ec) (c91 : hereF Z T a = 91) : NXr l D cy sz n ad y_Rd_readOption c_Rd_readOption 3 (some (.object "AbnfChart$Element")) ({ frames := 27, cells := 1, slots := 6, locals := 643 } : Room) mem [.ref (ad 222), .int (4)] (fun r mem' => ∃ (k' a' u' R' E' S' : Nat) (A' Bw' : Ro) (nm' : Nat → Int64) (to' : Nat → Int32), r = ad (20 + 2 * k') ∧ Ec ≤ k' ∧ k' < E' ∧ R ≤ R' ∧ a < a' ∧ a' ≤ Z ∧ TOK R R' to to' ∧ RX cy ad lim a' R' E' to' nm' m0 mem' ∧ RDS cy ad T Z 4 (singS T Z a u R Ec 4 A nm) (PSf A 4) R Ec S u A Bw k' a' u' R' E' S' A' Bw' nm' mem' ∧ A' 238 4 = A 238 4) (fun X mem' => ((X = cIA ∨ X = cIS) ∧ ∃ rc' ec' : Nat, RS cy ad lim rc' ec' m0 mem') ∧ (Fai T Z (singS T Z a u R Ec 4 A nm))) := by
  refine vx_ofW (cc := c_Rd_readOption) (maxL := 3) (ret := (some (.object "AbnfChart$Element"))) (by decide) rfl ?_
  intro p e s m args below meth c s₁ B hml hno hv
  obtain ⟨rfl, E, hP, hD⟩ := hv
  have hx := B.exec
  have hb := B.bytes
  have hr := B.returns
  have hlocks := B.notSynchronized
  have Bx : MB p s m [.ref (ad 222), .int (4)].toArray c c_Rd_readOption "AbnfChart$Reader" D cy := ⟨hx, hb, tb_all (atoms_spec B.pre) E.2.1, findClass_of_methodNamed B.named, E.1⟩
  have hS : va_S (Az sz) s.heap s.heap [] := va_S.rf
  have hl := lv_entry ([.ref (ad 222), .int (4)]) (n := 3) (Nat.le_of_ble_eq_true rfl)
  rw [lg_entry_eq]
  generalize (lg_sl ([.ref (ad 222), .int (4)]) ++ List.replicate (3 - (lg_sl ([.ref (ad 222), .int (4)])).length) Slot.unset).toArray = ls at hl ⊢
  have hl : lv_has ls 3 [(0, .ref (ad 222)), (1, .int (4))] := hl
  have hZ9 := hT.2.1
  have hbd9 := hRX.1.1.1
  have hfr0 : ∀ i, 19 ≤ i ∧ i < 222 ∧ i ≠ 20 + 2 * Ec → mem i = mem i := fun _ _ => rfl
  obtain ⟨ft1, h9_2⟩ := hRX.2.1
  have h1_3 : mem 1 = .inr (0, [.ref (ad 2), .int (nI Z)]) := (hRX.1.2.2 1 (by omega)).trans hT.1
  have h2_4 : mem 2 = .inl (cy 0, 240, .inl f) := (hRX.1.2.2 2 (by omega)).trans hT.2.2
  have h5_5 := hRX.1.1.2.1
  have hbd11 := hRX.1.1.1
  obtain ⟨S6, g7, hS_8, h220_9, h221_10⟩ := hRX.1.1.2.2.2.2.2.2
  refine lv_aload_n Bx.1 Bx.2.1 d_Rd_readOption_0 rfl (lv_at hl 0 rfl) ?_
  refine lv_iconst (v := 3) Bx.1 Bx.2.1 d_Rd_readOption_1 (by decide) ?_
  refine lv_aload_n Bx.1 Bx.2.1 d_Rd_readOption_2 rfl (lv_at hl 0 rfl) ?_
  refine f_get Bx hP (by omega) h9_2 rfl inRd 2 (by decide) kw_146 rfl rfl d_Rd_readOption_3 ?_
  refine f_xVr (na := 2) (As := [.int (3), .int (nI a)]) (rest := []) Bx hml E hP hD hS (by omega) h9_2 rfl (m_Rd_addElementY l hlt hn hT hf hRX (by omega)) kw_419 kw_421 sel_Rd_addElement kw_6 kw_422 (by decide +kernel) ⟨rfl, rfl⟩ ⟨Nat.le_of_ble_eq_true rfl, Nat.le_of_ble_eq_true rfl⟩ rfl hl.1 (Nat.le_of_ble_eq_true rfl) d_Rd_readOption_6 ⟨Nat.le_of_ble_eq_true rfl, Nat.le_of_ble_eq_true rfl⟩ (fun X ce q9 memx H locs hx9 hP hS g1 g2 g3 => f_out hlocks hno hP hS g1 g2 g3 ⟨Nat.le_of_ble_eq_true rfl, Nat.le_of_ble_eq_true rfl⟩ ⟨hx9.1, Or.inl (sing_o0 (l91 c91).1 c91 (Or.inr hx9.2))⟩) (fun r12 mem13 H locs hq hP hS => ?_)
  have hD : va_D (Az sz) (fw n ad mem13) := fw_D hD
  obtain ⟨hr914, hec15, hRX16, hcl17, hfa18⟩ := hq
  subst hr914
  have hfr19 : ∀ i, 19 ≤ i ∧ i < 222 ∧ i ≠ 20 + 2 * Ec → mem13 i = mem i := fun i q => (hfa18 i (by omega)).trans (hfr0 i q)
  obtain ⟨ft20, h9_21⟩ := hRX16.2.1
  have h1_22 : mem13 1 = .inr (0, [.ref (ad 2), .int (nI Z)]) := (hRX16.1.2.2 1 (by omega)).trans hT.1
  have h2_23 : mem13 2 = .inl (cy 0, 240, .inl f) := (hRX16.1.2.2 2 (by omega)).trans hT.2.2
  have h5_24 := hRX16.1.1.2.1
  have hbd30 := hRX16.1.1.1
  obtain ⟨S25, g26, hS_27, h220_28, h221_29⟩ := hRX16.1.1.2.2.2.2.2.2
  obtain ⟨ft31, h9_32⟩ := hRX16.2.1
  have h1_33 : mem13 1 = .inr (0, [.ref (ad 2), .int (nI Z)]) := (hRX16.1.2.2 1 (by omega)).trans hT.1
  have h2_34 : mem13 2 = .inl (cy 0, 240, .inl f) := (hRX16.1.2.2 2 (by omega)).trans hT.2.2
  have h5_35 := hRX16.1.1.2.1
  have hbd41 := hRX16.1.1.1
  obtain ⟨S36, g37, hS_38, h220_39, h221_40⟩ := hRX16.1.1.2.2.2.2.2.2
  refine lv_astore_n (lv' := [(2, .ref (ad (20 + 2 * Ec))), (0, .ref (ad 222)), (1, .int (4))]) Bx.1 Bx.2.1 d_Rd_readOption_9 rfl hl (by decide) rfl (fun ls hl => ?_)
  refine lv_aload_n Bx.1 Bx.2.1 d_Rd_readOption_10 rfl (lv_at hl 0 rfl) ?_
  refine lv_aload_n Bx.1 Bx.2.1 d_Rd_readOption_11 rfl (lv_at hl 1 rfl) ?_
  refine lv_iload_n Bx.1 Bx.2.1 d_Rd_readOption_12 rfl (lv_at hl 2 rfl) ?_
  refine lv_bipush (v := 93) Bx.1 Bx.2.1 d_Rd_readOption_13 (by decide) ?_
  have her42 : ER ad R (Ec + 1) (bwN Bw Ec 3 (0) (0) (-1) (-1) (-1) (Bw 234)) mem13 := hER.new (Nat.le_refl _) (by rw [vR_m]; exact hcl17) (Or.inl rfl) (fun i9 hi9 => hfr19 (20 + 2 * i9) (by omega))
  have hsr43 : SR cy ad S (bwN Bw Ec 3 (0) (0) (-1) (-1) (-1) (Bw 234)) mem13 := ⟨(hfr19 220 (by omega)).trans hSR.1, (hfr19 221 (by omega)).trans hSR.2⟩
  have hE9 := hec15
  refine f_xVr (na := 2) (As := [.int (4), .int (93)]) (rest := [.ref (ad (20 + 2 * Ec))]) Bx hml E hP hD hS (by omega) h9_32 rfl (m_Rd_readBracket_4Y l hlt hn hT hf hRX16 (by omega) (u := u) (A := elA A Ec 3) (what := 2) (oe := nI Ec) her42 hsr43 (by omega) (by omega) (Or.inr ⟨rfl, rfl⟩) (elA_lka hLK)) kw_447 kw_449 sel_Rd_readBracket kw_6 kw_450 (by decide +kernel) ⟨rfl, rfl⟩ ⟨Nat.le_of_ble_eq_true rfl, Nat.le_of_ble_eq_true rfl⟩ rfl hl.1 (Nat.le_of_ble_eq_true rfl) d_Rd_readOption_15 ⟨Nat.le_of_ble_eq_true rfl, Nat.le_of_ble_eq_true rfl⟩ (fun X ce q9 memx H locs hx9 hP hS g1 g2 g3 => f_out hlocks hno hP hS g1 g2 g3 ⟨Nat.le_of_ble_eq_true rfl, Nat.le_of_ble_eq_true rfl⟩ ⟨hx9.1, hx9.2.eq (sing_op (l91 c91).1 c91 (by omega) hE9)⟩) (fun r44 mem45 H locs hq hP hS => ?_)
  have hD : va_D (Az sz) (fw n ad mem45) := fw_D hD
  obtain ⟨la46, ax47, ux48, Rx49, Ex50, Sx51, Ax52, Bx_53, nx54, tox55, hr956, h157, h258, h359, h460, htk61, hRX62, ali63, hh64, hent65⟩ := hq
  subst hr956
  obtain ⟨ft66, h9_67⟩ := hRX62.2.1
  have h1_68 : mem45 1 = .inr (0, [.ref (ad 2), .int (nI Z)]) := (hRX62.1.2.2 1 (by omega)).trans hT.1
  have h2_69 : mem45 2 = .inl (cy 0, 240, .inl f) := (hRX62.1.2.2 2 (by omega)).trans hT.2.2
  have h5_70 := hRX62.1.1.2.1
  have hbd76 := hRX62.1.1.1
  obtain ⟨S71, g72, hS_73, h220_74, h221_75⟩ := hRX62.1.1.2.2.2.2.2.2
  have hbd77 := hRX62.1.1.1
  have hce78 := (ali63.2.1 Ec (by omega)).1
  refine f_putN Bx hP hD hS (by omega) hce78 rfl inEl tyEl okEl nmEl 4 (by decide) kw_87 rfl rfl rfl rfl (Nat.le_of_ble_eq_true rfl) d_Rd_readOption_18 (fun H locs hP hS => ?_)
  obtain ⟨mem79, e_mem79⟩ : ∃ z, z = va_up mem45 ((20 + 2 * Ec)) (.inr (2, [.int (Bx_53 228 Ec), .int (Bx_53 229 Ec), .int (Bx_53 230 Ec), vR ad (Bx_53 231 Ec), .ref (ad (20 + 2 * (Ec + 1))), vE ad (Bx_53 233 Ec), .ref (ad (21 + 2 * Ec))])) := ⟨_, rfl⟩
  have hP : va_P D vcl (fw n ad mem79) H := by rw [e_mem79]; exact hP
  have hD : va_D (Az sz) (fw n ad mem79) := fw_D hD
  have h_mem79 : mem79 ((20 + 2 * Ec)) = .inr (2, [.int (Bx_53 228 Ec), .int (Bx_53 229 Ec), .int (Bx_53 230 Ec), vR ad (Bx_53 231 Ec), .ref (ad (20 + 2 * (Ec + 1))), vE ad (Bx_53 233 Ec), .ref (ad (21 + 2 * Ec))]) := by rw [e_mem79, va_up_self]
  have hh80 := (va_up_ne mem45 (.inr (2, [.int (Bx_53 228 Ec), .int (Bx_53 229 Ec), .int (Bx_53 230 Ec), vR ad (Bx_53 231 Ec), .ref (ad (20 + 2 * (Ec + 1))), vE ad (Bx_53 233 Ec), .ref (ad (21 + 2 * Ec))])) (show (222 : Nat) ≠ (20 + 2 * Ec) by first | decide | assumption | omega)).trans h9_67
  rw [← e_mem79] at hh80
  have hh81 := (va_up_ne mem45 (.inr (2, [.int (Bx_53 228 Ec), .int (Bx_53 229 Ec), .int (Bx_53 230 Ec), vR ad (Bx_53 231 Ec), .ref (ad (20 + 2 * (Ec + 1))), vE ad (Bx_53 233 Ec), .ref (ad (21 + 2 * Ec))])) (show (1 : Nat) ≠ (20 + 2 * Ec) by first | decide | assumption | omega)).trans h1_68
  rw [← e_mem79] at hh81
  have hh82 := (va_up_ne mem45 (.inr (2, [.int (Bx_53 228 Ec), .int (Bx_53 229 Ec), .int (Bx_53 230 Ec), vR ad (Bx_53 231 Ec), .ref (ad (20 + 2 * (Ec + 1))), vE ad (Bx_53 233 Ec), .ref (ad (21 + 2 * Ec))])) (show (5 : Nat) ≠ (20 + 2 * Ec) by first | decide | assumption | omega)).trans h5_70
  rw [← e_mem79] at hh82
  have hh83 := (va_up_ne mem45 (.inr (2, [.int (Bx_53 228 Ec), .int (Bx_53 229 Ec), .int (Bx_53 230 Ec), vR ad (Bx_53 231 Ec), .ref (ad (20 + 2 * (Ec + 1))), vE ad (Bx_53 233 Ec), .ref (ad (21 + 2 * Ec))])) (show (220 : Nat) ≠ (20 + 2 * Ec) by first | decide | assumption | omega)).trans h220_74
  rw [← e_mem79] at hh83
  have hRX84 : RX cy ad lim (gapF T Z ax47 + 1) (Rx49) (Ex50) (tox55) (nx54) m0 mem79 := by rw [e_mem79]; exact hRX62.el (by omega) (hRX62.1.mk (by omega) (hRX62.1.1.upEl (by omega) (fun _ => ⟨(ali63.2.1 Ec (by omega)).2.1.oR ad, Or.inr ⟨(Ec + 1), by omega, by omega, rfl⟩, (ali63.2.1 Ec (by omega)).2.2.2.oE ad (by omega)⟩)))
  have her85 : ER ad (Rx49) (Ex50) (va_up Bx_53 232 (upd (Bx_53 232) Ec (nI (Ec + 1)))) mem79 := ali63.2.1.part (by omega) (by omega) (by omega) h_mem79 (fun i9 q9 hi9 => by rw [e_mem79]; exact va_up_ne _ _ (by omega))
  have hsr86 : SR cy ad (Sx51) (Bx_53) mem79 := ⟨(show mem79 220 = mem45 220 by rw [e_mem79]; exact va_up_ne _ _ (by omega)).trans ali63.2.2.1.1, (show mem79 221 = mem45 221 by rw [e_mem79]; exact va_up_ne _ _ (by omega)).trans ali63.2.2.1.2⟩
  obtain ⟨ft87, h9_88⟩ := hRX84.2.1
  have h1_89 : mem79 1 = .inr (0, [.ref (ad 2), .int (nI Z)]) := (hRX84.1.2.2 1 (by omega)).trans hT.1
  have h2_90 : mem79 2 = .inl (cy 0, 240, .inl f) := (hRX84.1.2.2 2 (by omega)).trans hT.2.2
  have h5_91 := hRX84.1.1.2.1
  have hbd97 := hRX84.1.1.1
  obtain ⟨S92, g93, hS_94, h220_95, h221_96⟩ := hRX84.1.1.2.2.2.2.2.2
  refine lv_aload_n Bx.1 Bx.2.1 d_Rd_readOption_21 rfl (lv_at hl 0 rfl) ?_
  have hrd9 := opt_rds (nm := nm) hLK (by omega) hF hent65 ali63 hh64 her85 hsr86
  exact x_aret hx hb hlocks hr (⟨Ec, gapF T Z ax47 + 1, ux48, Rx49, Ex50, Sx51, _, _, nx54, tox55, rfl, by omega, by omega, by omega, by have := gapF_ge T Z ax47; omega, by omega, htk61, hRX84, rdsEq hrd9.1 (sing_op (l91 c91).1 c91 (by omega) hE9), hrd9.2⟩) hP hS d_Rd_readOption_22
set_option maxHeartbeats 4000000 in
set_option maxRecDepth 100000 in
theorem m_Rd_readElement_4Y (l : Launch) {D : va_G} {cy : Nat → ClassId} {sz n : Nat} {ad : Nat → Nat} {mem : Nat → va_E} {Z a R Ec lim : Nat} {f T : Nat → Int32} {to : Nat → Int32} {nm : Nat → Int64} {m0 : Nat → va_E} {u S : Nat} {A Bw : Ro} (hlt : l.stackTraces = false) (hn : 224 ≤ n) (hT : TX cy ad Z f m0) (hf : ∀ k, k < Z → f k = T k) (hRX : RX cy ad lim a R Ec to nm m0 mem) (haB : a ≤ 300) (hER : ER ad R Ec Bw mem) (hSR : SR cy ad S Bw mem) (hSa : S ≤ a) (haZ : a ≤ Z) (hLK : LKa Ec A) (hF : FRM A 4 Ec) : NXr l D cy sz n ad y_Rd_readElement c_Rd_readElement 2 (some (.object "AbnfChart$Element")) ({ frames := 28, cells := 1, slots := 6, locals := 666 } : Room) mem [.ref (ad 222), .int (4)] (fun r mem' => ∃ (k' a' u' R' E' S' : Nat) (A' Bw' : Ro) (nm' : Nat → Int64) (to' : Nat → Int32), r = ad (20 + 2 * k') ∧ Ec ≤ k' ∧ k' < E' ∧ R ≤ R' ∧ a < a' ∧ a' ≤ Z ∧ TOK R R' to to' ∧ RX cy ad lim a' R' E' to' nm' m0 mem' ∧ RDS cy ad T Z 4 (singS T Z a u R Ec 4 A nm) (PSf A 4) R Ec S u A Bw k' a' u' R' E' S' A' Bw' nm' mem' ∧ A' 238 4 = A 238 4 ∧ OKc (hereF Z T a)) (fun X mem' => ((X = cIA ∨ X = cIS) ∧ ∃ rc' ec' : Nat, RS cy ad lim rc' ec' m0 mem') ∧ (Fai T Z (singS T Z a u R Ec 4 A nm) ∨ ¬ OKc (hereF Z T a))) := by
  refine vx_ofW (cc := c_Rd_readElement) (maxL := 2) (ret := (some (.object "AbnfChart$Element"))) (by decide) rfl ?_
  intro p e s m args below meth c s₁ B hml hno hv
  obtain ⟨rfl, E, hP, hD⟩ := hv
  have hx := B.exec
  have hb := B.bytes
  have hr := B.returns
  have hlocks := B.notSynchronized
  have Bx : MB p s m [.ref (ad 222), .int (4)].toArray c c_Rd_readElement "AbnfChart$Reader" D cy := ⟨hx, hb, tb_all (atoms_spec B.pre) E.2.1, findClass_of_methodNamed B.named, E.1⟩
  have hS : va_S (Az sz) s.heap s.heap [] := va_S.rf
  have hl := lv_entry ([.ref (ad 222), .int (4)]) (n := 2) (Nat.le_of_ble_eq_true rfl)
  rw [lg_entry_eq]
  generalize (lg_sl ([.ref (ad 222), .int (4)]) ++ List.replicate (2 - (lg_sl ([.ref (ad 222), .int (4)])).length) Slot.unset).toArray = ls at hl ⊢
  have hl : lv_has ls 2 [(0, .ref (ad 222)), (1, .int (4))] := hl
  have hZ9 := hT.2.1
  have hbd9 := hRX.1.1.1
  have hfr0 : ∀ i, 19 ≤ i ∧ i < 222 ∧ i ≠ 20 + 2 * Ec → mem i = mem i := fun _ _ => rfl
  obtain ⟨ft1, h9_2⟩ := hRX.2.1
  have h1_3 : mem 1 = .inr (0, [.ref (ad 2), .int (nI Z)]) := (hRX.1.2.2 1 (by omega)).trans hT.1
  have h2_4 : mem 2 = .inl (cy 0, 240, .inl f) := (hRX.1.2.2 2 (by omega)).trans hT.2.2
  have h5_5 := hRX.1.1.2.1
  have hbd11 := hRX.1.1.1
  obtain ⟨S6, g7, hS_8, h220_9, h221_10⟩ := hRX.1.1.2.2.2.2.2.2
  refine lv_aload_n Bx.1 Bx.2.1 d_Rd_readElement_0 rfl (lv_at hl 0 rfl) ?_
  refine f_callVi (na := 0) (As := []) (rest := []) Bx hml E hP hD hS (by omega) h9_2 rfl (m_Rd_peekX l hn hT hf hRX (by omega)) kw_353 kw_355 sel_Rd_peek kw_6 kw_356 (by decide +kernel) ⟨rfl, rfl⟩ ⟨Nat.le_of_ble_eq_true rfl, Nat.le_of_ble_eq_true rfl⟩ rfl hl.1 (Nat.le_of_ble_eq_true rfl) d_Rd_readElement_1 ⟨Nat.le_of_ble_eq_true rfl, Nat.le_of_ble_eq_true rfl⟩ (fun r13 mem14 H locs hq hP hS => ?_)
  have hD : va_D (Az sz) (fw n ad mem14) := fw_D hD
  obtain ⟨hqe, hpk12⟩ := hq
  rw [hqe] at hP hD
  subst hpk12
  refine lv_topi (fun v16 e_v16 => ?_)
  by_cases c34 : v16 = 34
  · rw [c34]
    refine lv_lookup (off := 58) (tgt := 62) Bx.1 Bx.2.1 d_Rd_readElement_4 (by decide) (by decide) rfl ?_
    rw [e_v16] at c34
    have hlt34 := hereF_lt (show hereF Z T (a) ≠ -1 by rw [c34]; decide)
    refine lv_aload_n Bx.1 Bx.2.1 d_Rd_readElement_62 rfl (lv_at hl 0 rfl) ?_
    refine lv_aload_n Bx.1 Bx.2.1 d_Rd_readElement_63 rfl (lv_at hl 0 rfl) ?_
    refine f_get Bx hP (by omega) h9_2 rfl inRd 2 (by decide) kw_146 rfl rfl d_Rd_readElement_64 ?_
    refine lv_iconst (v := 5) Bx.1 Bx.2.1 d_Rd_readElement_67 (by decide) ?_
    refine f_xVr (na := 2) (As := [.int (nI a), .int (5)]) (rest := []) Bx hml E hP hD hS (by omega) h9_2 rfl (m_Rd_readStringY l hlt hn hT hf hRX (by omega) hSR.1 hSR.2 (by omega) hSa) kw_455 kw_457 sel_Rd_readString kw_6 kw_458 (by decide +kernel) ⟨rfl, rfl⟩ ⟨Nat.le_of_ble_eq_true rfl, Nat.le_of_ble_eq_true rfl⟩ rfl hl.1 (Nat.le_of_ble_eq_true rfl) d_Rd_readElement_68 ⟨Nat.le_of_ble_eq_true rfl, Nat.le_of_ble_eq_true rfl⟩ (fun X ce q9 memx H locs hx9 hP hS g1 g2 g3 => f_out hlocks hno hP hS g1 g2 g3 ⟨Nat.le_of_ble_eq_true rfl, Nat.le_of_ble_eq_true rfl⟩ ⟨hx9.1, Or.inl (fai_str c34 hx9.2 hbd9.2.1)⟩) (fun r17 mem18 H locs hq hP hS => ?_)
    have hD : va_D (Az sz) (fw n ad mem18) := fw_D hD
    obtain ⟨hE9, hq9, hr2, hle9, hRX2, hcl2, ⟨s9, hs0, hs1, hs2, hs3⟩, hfr2⟩ := hq
    subst hr2
    obtain ⟨A2, B2, hrd2, h82⟩ := rds_str (j := 4) (u := u) (nm := nm) c34 hE9 hq9 hLK hF hER hcl2 hs0 hs1 hs2 hs3 (fun k hk => hfr2 (20 + 2 * k) (by omega)) hSa
    exact x_aret hx hb hlocks hr (⟨Ec, _, _, R, Ec + 1, _, A2, B2, nm, to, rfl, by omega, by omega, by omega, by omega, hle9, TOK.of rfl, hRX2, hrd2, h82, (l34 c34).2.2.2⟩) hP hS d_Rd_readElement_71
  by_cases c37 : v16 = 37
  · rw [c37]
    refine lv_lookup (off := 68) (tgt := 72) Bx.1 Bx.2.1 d_Rd_readElement_4 (by decide) (by decide) rfl ?_
    rw [e_v16] at c37
    have hlt37 := hereF_lt (show hereF Z T (a) ≠ -1 by rw [c37]; decide)
    refine lv_aload_n Bx.1 Bx.2.1 d_Rd_readElement_72 rfl (lv_at hl 0 rfl) ?_
    refine f_get Bx hP (by omega) h9_2 rfl inRd 0 (by decide) kw_144 rfl rfl d_Rd_readElement_73 ?_
    refine lv_aload_n Bx.1 Bx.2.1 d_Rd_readElement_76 rfl (lv_at hl 0 rfl) ?_
    refine f_get Bx hP (by omega) h9_2 rfl inRd 2 (by decide) kw_146 rfl rfl d_Rd_readElement_77 ?_
    refine lv_iconst (v := 1) Bx.1 Bx.2.1 d_Rd_readElement_80 (by decide) ?_
    refine lv_iadd Bx.1 Bx.2.1 d_Rd_readElement_81 ?_
    rw [show nI a + 1 = nI (a + 1) from nI_add (a) (1)]
    refine f_callVi (na := 1) (As := [.int (nI (a + 1))]) (rest := []) Bx hml E hP hD hS (by omega) h1_3 rfl (m_Ch_codeAt l (by omega) h1_3 (by omega) h2_4 (by rw [nI_toInt (by omega)]; omega)) kw_341 kw_342 kw_343 kw_2 kw_344 (by decide +kernel) ⟨rfl, rfl⟩ ⟨Nat.le_of_ble_eq_true rfl, Nat.le_of_ble_eq_true rfl⟩ rfl hl.1 (Nat.le_of_ble_eq_true rfl) d_Rd_readElement_82 ⟨Nat.le_of_ble_eq_true rfl, Nat.le_of_ble_eq_true rfl⟩ (fun r19 mem20 H locs hq hP hS => ?_)
    have hD : va_D (Az sz) (fw n ad mem20) := fw_D hD
    obtain ⟨hco21, hqe⟩ := hq
    rw [hqe] at hP hD
    rw [code_here hf hT.2.1 (k := a + 1) (by omega)] at hco21
    subst hco21
    refine f_callSNi (na := 1) (As := [.int (hereF Z T (a + 1))]) (rest := []) Bx hml E.2.1 (m_Ab_smallOfX l (hereF Z T (a + 1))) kw_372 kw_373 kw_1 kw_374 (by decide +kernel) ⟨rfl, rfl⟩ ⟨Nat.le_of_ble_eq_true rfl, Nat.le_of_ble_eq_true rfl⟩ rfl hl.1 (Nat.le_of_ble_eq_true rfl) d_Rd_readElement_85 ⟨Nat.le_of_ble_eq_true rfl, Nat.le_of_ble_eq_true rfl⟩ (fun r23 hs22 => ?_)
    subst hs22
    refine lv_bipush (v := 115) Bx.1 Bx.2.1 d_Rd_readElement_88 (by decide) ?_
    refine lv_icmp_ne Bx.1 Bx.2.1 d_Rd_readElement_90 rfl (fun hb24 => ?_) (fun hb24 => ?_)
    · refine lv_aload_n Bx.1 Bx.2.1 d_Rd_readElement_100 rfl (lv_at hl 0 rfl) ?_
      refine f_xVr (na := 0) (As := []) (rest := []) Bx hml E hP hD hS (by omega) h9_2 rfl (m_Rd_readValueY l hlt hn hT hf hRX (by omega) (u8 := u) (e8 := Ec) (A0 := va_up (elA A Ec 4) 231 (upd (elA A Ec 4 231) Ec (vp_nar .boolean 1))) hSR.1 hSR.2 (by omega) hSa) kw_467 kw_469 sel_Rd_readValue kw_6 kw_470 (by decide +kernel) ⟨rfl, rfl⟩ ⟨Nat.le_of_ble_eq_true rfl, Nat.le_of_ble_eq_true rfl⟩ rfl hl.1 (Nat.le_of_ble_eq_true rfl) d_Rd_readElement_101 ⟨Nat.le_of_ble_eq_true rfl, Nat.le_of_ble_eq_true rfl⟩ (fun X ce q9 memx H locs hx9 hP hS g1 g2 g3 => f_out hlocks hno hP hS g1 g2 g3 ⟨Nat.le_of_ble_eq_true rfl, Nat.le_of_ble_eq_true rfl⟩ ⟨hx9.1, Or.inl (fai_val c37 hb24 hx9.2 hbd9.2.1)⟩) (fun r25 mem26 H locs hq hP hS => ?_)
      have hD : va_D (Az sz) (fw n ad mem26) := fw_D hD
      obtain ⟨hE9, ba, a2, u2, A1, hba, hn9, hr2, x1, x2, hRX2, hsp2, hc2, hfr2⟩ := hq
      subst hr2
      obtain ⟨S2, A2, B2, hrd2, h82⟩ := rds_val (j := 4) (nm := nm) c37 hba hE9 hn9 hsp2 hLK hF hER (fun k hk => hfr2 (20 + 2 * k) (by omega)) hSa x1 hc2
      exact x_aret hx hb hlocks hr (⟨Ec, a2, u2, R, Ec + 1, S2, A2, B2, nm, to, rfl, by omega, by omega, by omega, x1, x2, TOK.of rfl, hRX2, hrd2, h82, (l37 c37).2.2.2.2⟩) hP hS d_Rd_readElement_104
    · refine lv_aload_n Bx.1 Bx.2.1 d_Rd_readElement_93 rfl (lv_at hl 0 rfl) ?_
      refine f_xVr (na := 0) (As := []) (rest := []) Bx hml E hP hD hS (by omega) h9_2 rfl (m_Rd_readExactStringY l hlt hn hT hf hRX (by omega) hSR.1 hSR.2 (by omega) hSa) kw_463 kw_465 sel_Rd_readExactString kw_6 kw_466 (by decide +kernel) ⟨rfl, rfl⟩ ⟨Nat.le_of_ble_eq_true rfl, Nat.le_of_ble_eq_true rfl⟩ rfl hl.1 (Nat.le_of_ble_eq_true rfl) d_Rd_readElement_94 ⟨Nat.le_of_ble_eq_true rfl, Nat.le_of_ble_eq_true rfl⟩ (fun X ce q9 memx H locs hx9 hP hS g1 g2 g3 => f_out hlocks hno hP hS g1 g2 g3 ⟨Nat.le_of_ble_eq_true rfl, Nat.le_of_ble_eq_true rfl⟩ ⟨hx9.1, Or.inl (fai_xst c37 hb24 hx9.2 hbd9.2.1)⟩) (fun r27 mem28 H locs hq hP hS => ?_)
      have hD : va_D (Az sz) (fw n ad mem28) := fw_D hD
      obtain ⟨hq8, hE9, hq9, hr2, hle9, hRX2, hcl2, ⟨s9, hs0, hs1, hs2, hs3⟩, hfr2⟩ := hq
      subst hr2
      obtain ⟨A2, B2, hrd2, h82⟩ := rds_xst (j := 4) (u := u) (nm := nm) c37 hb24 hq8 hE9 hq9 hLK hF hER hcl2 hs0 hs1 hs2 hs3 (fun k hk => hfr2 (20 + 2 * k) (by omega)) hSa
      refine lv_goto Bx.1 Bx.2.1 d_Rd_readElement_97 rfl ?_
      exact x_aret hx hb hlocks hr (⟨Ec, _, _, R, Ec + 1, _, A2, B2, nm, to, rfl, by omega, by omega, by omega, by omega, hle9, TOK.of rfl, hRX2, hrd2, h82, (l37 c37).2.2.2.2⟩) hP hS d_Rd_readElement_104
  by_cases c40 : v16 = 40
  · rw [c40]
    refine lv_lookup (off := 44) (tgt := 48) Bx.1 Bx.2.1 d_Rd_readElement_4 (by decide) (by decide) rfl ?_
    rw [e_v16] at c40
    have hlt40 := hereF_lt (show hereF Z T (a) ≠ -1 by rw [c40]; decide)
    refine lv_aload_n Bx.1 Bx.2.1 d_Rd_readElement_48 rfl (lv_at hl 0 rfl) ?_
    refine lv_iload_n Bx.1 Bx.2.1 d_Rd_readElement_49 rfl (lv_at hl 1 rfl) ?_
    refine lv_bipush (v := 41) Bx.1 Bx.2.1 d_Rd_readElement_50 (by decide) ?_
    refine f_xVr (na := 2) (As := [.int (4), .int (41)]) (rest := []) Bx hml E hP hD hS (by omega) h9_2 rfl (m_Rd_readBracket_4Y l hlt hn hT hf hRX (by omega) (u := u) (A := A) (what := 1) (oe := -1) hER hSR hSa (by omega) (Or.inl ⟨rfl, rfl⟩) hLK) kw_447 kw_449 sel_Rd_readBracket kw_6 kw_450 (by decide +kernel) ⟨rfl, rfl⟩ ⟨Nat.le_of_ble_eq_true rfl, Nat.le_of_ble_eq_true rfl⟩ rfl hl.1 (Nat.le_of_ble_eq_true rfl) d_Rd_readElement_52 ⟨Nat.le_of_ble_eq_true rfl, Nat.le_of_ble_eq_true rfl⟩ (fun X ce q9 memx H locs hx9 hP hS g1 g2 g3 => f_out hlocks hno hP hS g1 g2 g3 ⟨Nat.le_of_ble_eq_true rfl, Nat.le_of_ble_eq_true rfl⟩ ⟨hx9.1, Or.inl (hx9.2.eq (sing_br (l40 c40).1 c40 (by omega)))⟩) (fun r29 mem30 H locs hq hP hS => ?_)
    have hD : va_D (Az sz) (fw n ad mem30) := fw_D hD
    obtain ⟨la31, ax32, ux33, Rx34, Ex35, Sx36, Ax37, Bx_38, nx39, tox40, hr941, h142, h243, h344, h445, htk46, hRX47, ali48, hh49, hent50⟩ := hq
    subst hr941
    have hE9 : Ec < 100 := by have := hRX47.1.1.1; omega
    have hrd9 := brk_rds (nm := nm) hLK hE9 hF hent50 ali48 hh49 ali48.2.1 ali48.2.2.1
    exact x_aret hx hb hlocks hr (⟨Ec, gapF T Z ax32 + 1, ux33, Rx34, Ex35, Sx36, _, _, nx39, tox40, rfl, by omega, by omega, by omega, by have := gapF_ge T Z ax32; omega, by omega, htk46, hRX47, rdsEq hrd9.1 (sing_br (l40 c40).1 c40 (by omega)), hrd9.2, (l40 c40).2⟩) hP hS d_Rd_readElement_55
  by_cases c91 : v16 = 91
  · rw [c91]
    refine lv_lookup (off := 52) (tgt := 56) Bx.1 Bx.2.1 d_Rd_readElement_4 (by decide) (by decide) rfl ?_
    rw [e_v16] at c91
    have hlt91 := hereF_lt (show hereF Z T (a) ≠ -1 by rw [c91]; decide)
    refine lv_aload_n Bx.1 Bx.2.1 d_Rd_readElement_56 rfl (lv_at hl 0 rfl) ?_
    refine lv_iload_n Bx.1 Bx.2.1 d_Rd_readElement_57 rfl (lv_at hl 1 rfl) ?_
    refine f_xVr (na := 1) (As := [.int (4)]) (rest := []) Bx hml E hP hD hS (by omega) h9_2 rfl (m_Rd_readOption_4Y l hlt hn hT hf hRX (by omega) (u := u) (A := A) hER hSR hSa (by omega) hLK hF c91) kw_451 kw_453 sel_Rd_readOption kw_6 kw_454 (by decide +kernel) ⟨rfl, rfl⟩ ⟨Nat.le_of_ble_eq_true rfl, Nat.le_of_ble_eq_true rfl⟩ rfl hl.1 (Nat.le_of_ble_eq_true rfl) d_Rd_readElement_58 ⟨Nat.le_of_ble_eq_true rfl, Nat.le_of_ble_eq_true rfl⟩ (fun X ce q9 memx H locs hx9 hP hS g1 g2 g3 => f_out hlocks hno hP hS g1 g2 g3 ⟨Nat.le_of_ble_eq_true rfl, Nat.le_of_ble_eq_true rfl⟩ ⟨hx9.1, Or.inl hx9.2⟩) (fun r51 mem52 H locs hq hP hS => ?_)
    have hD : va_D (Az sz) (fw n ad mem52) := fw_D hD
    obtain ⟨kx53, ax54, ux55, Rx56, Ex57, Sx58, Ax59, Bx_60, nx61, tox62, hr963, h164, h265, h366, h467, h568, htk69, hRX70, rds71, h872⟩ := hq
    subst hr963
    exact x_aret hx hb hlocks hr (⟨kx53, ax54, ux55, Rx56, Ex57, Sx58, Ax59, Bx_60, nx61, tox62, rfl, h164, h265, h366, h467, h568, htk69, hRX70, rds71, h872, (l91 c91).2⟩) hP hS d_Rd_readElement_61
  refine lv_lookup (off := 101) (tgt := 105) Bx.1 Bx.2.1 d_Rd_readElement_4 (by decide) (by show Op.lookupswitch.offset [(34, 58), (37, 68), (40, 44), (91, 52)] 101 (v16).toInt = 101; rw [lv_osw c34 (by decide), lv_osw c37 (by decide), lv_osw c40 (by decide), lv_osw c91 (by decide)]; rfl) rfl ?_
  rw [e_v16] at c40 c91 c34 c37
  refine lv_aload_n Bx.1 Bx.2.1 d_Rd_readElement_105 rfl (lv_at hl 0 rfl) ?_
  refine f_xVr (na := 0) (As := []) (rest := []) Bx hml E hP hD hS (by omega) h9_2 rfl (m_Rd_readAskedNameY l hlt hn hT hf hRX (by omega) (A := A) (by omega)) kw_478 kw_480 sel_Rd_readAskedName kw_6 kw_481 (by decide +kernel) ⟨rfl, rfl⟩ ⟨Nat.le_of_ble_eq_true rfl, Nat.le_of_ble_eq_true rfl⟩ rfl hl.1 (Nat.le_of_ble_eq_true rfl) d_Rd_readElement_106 ⟨Nat.le_of_ble_eq_true rfl, Nat.le_of_ble_eq_true rfl⟩ (fun X ce q9 memx H locs hx9 hP hS g1 g2 g3 => f_out hlocks hno hP hS g1 g2 g3 ⟨Nat.le_of_ble_eq_true rfl, Nat.le_of_ble_eq_true rfl⟩ ⟨hx9.1, fai_nam c40 c91 c34 c37 hx9.2⟩) (fun r73 mem74 H locs hq hP hS => ?_)
  have hD : va_D (Az sz) (fw n ad mem74) := fw_D hD
  obtain ⟨i9, a2, R2, A3, n2, hsn, hle, hE9, hr2, x1, x2, x3, hA3, htk, ⟨t2, htk2, hRX2⟩, hi9, hcl2, hfr2⟩ := hq
  subst hr2
  have hR12 := hRX2.1.1.1.1
  obtain ⟨A2, B2, hrd2, h82⟩ := rds_nam (j := 4) (u := u) hle hsn hE9 hA3 htk x1 hi9 hR12 hLK hF hER ⟨(hfr2 220 (by omega)).trans hSR.1, (hfr2 221 (by omega)).trans hSR.2⟩ hcl2 (fun k hk => hfr2 (20 + 2 * k) (by omega)) (by omega)
  exact x_aret hx hb hlocks hr (⟨Ec, a2, u, R2, Ec + 1, S, A2, B2, n2, t2, rfl, by omega, by omega, x1, x2, x3, htk2, hRX2, hrd2, h82, lt_ok hle⟩) hP hS d_Rd_readElement_109
set_option maxHeartbeats 4000000 in
set_option maxRecDepth 100000 in
theorem m_Rd_readRepetition_4Y (l : Launch) {D : va_G} {cy : Nat → ClassId} {sz n : Nat} {ad : Nat → Nat} {mem : Nat → va_E} {Z a R Ec lim : Nat} {f T : Nat → Int32} {to : Nat → Int32} {nm : Nat → Int64} {m0 : Nat → va_E} {u S : Nat} {A Bw : Ro} (hlt : l.stackTraces = false) (hn : 224 ≤ n) (hT : TX cy ad Z f m0) (hf : ∀ k, k < Z → f k = T k) (hRX : RX cy ad lim a R Ec to nm m0 mem) (haB : a ≤ 300) (hER : ER ad R Ec Bw mem) (hSR : SR cy ad S Bw mem) (hSa : S ≤ a) (haZ : a ≤ Z) (hLK : LKa Ec A) (hF : FRM A 4 Ec) (h39 : A 239 4 = -1) (hbg : bgF (hereF Z T a) = true) : NXr l D cy sz n ad y_Rd_readRepetition c_Rd_readRepetition 3 (some (.object "AbnfChart$Element")) ({ frames := 29, cells := 1, slots := 6, locals := 688 } : Room) mem [.ref (ad 222), .int (4)] (fun r mem' => ∃ (k' a' u' R' E' S' : Nat) (A' Bw' : Ro) (nm' : Nat → Int64) (to' : Nat → Int32), r = ad (20 + 2 * k') ∧ Ec ≤ k' ∧ k' < E' ∧ R ≤ R' ∧ a < a' ∧ a' ≤ Z ∧ TOK R R' to to' ∧ RX cy ad lim a' R' E' to' nm' m0 mem' ∧ RDS cy ad T Z 4 (repS T Z a u R Ec 4 A nm) (PSf A 4) R Ec S u A Bw k' a' u' R' E' S' A' Bw' nm' mem' ∧ A' 238 4 = A 238 4) (fun X mem' => ((X = cIA ∨ X = cIS) ∧ ∃ rc' ec' : Nat, RS cy ad lim rc' ec' m0 mem') ∧ (Fai T Z (repS T Z a u R Ec 4 A nm))) := by
  refine vx_ofW (cc := c_Rd_readRepetition) (maxL := 3) (ret := (some (.object "AbnfChart$Element"))) (by decide) rfl ?_
  intro p e s m args below meth c s₁ B hml hno hv
  obtain ⟨rfl, E, hP, hD⟩ := hv
  have hx := B.exec
  have hb := B.bytes
  have hr := B.returns
  have hlocks := B.notSynchronized
  have Bx : MB p s m [.ref (ad 222), .int (4)].toArray c c_Rd_readRepetition "AbnfChart$Reader" D cy := ⟨hx, hb, tb_all (atoms_spec B.pre) E.2.1, findClass_of_methodNamed B.named, E.1⟩
  have hS : va_S (Az sz) s.heap s.heap [] := va_S.rf
  have hl := lv_entry ([.ref (ad 222), .int (4)]) (n := 3) (Nat.le_of_ble_eq_true rfl)
  rw [lg_entry_eq]
  generalize (lg_sl ([.ref (ad 222), .int (4)]) ++ List.replicate (3 - (lg_sl ([.ref (ad 222), .int (4)])).length) Slot.unset).toArray = ls at hl ⊢
  have hl : lv_has ls 3 [(0, .ref (ad 222)), (1, .int (4))] := hl
  have hZ9 := hT.2.1
  have hbd9 := hRX.1.1.1
  have hfr0 : ∀ i, 19 ≤ i ∧ i < 222 ∧ i ≠ 20 + 2 * Ec → mem i = mem i := fun _ _ => rfl
  obtain ⟨ft1, h9_2⟩ := hRX.2.1
  have h1_3 : mem 1 = .inr (0, [.ref (ad 2), .int (nI Z)]) := (hRX.1.2.2 1 (by omega)).trans hT.1
  have h2_4 : mem 2 = .inl (cy 0, 240, .inl f) := (hRX.1.2.2 2 (by omega)).trans hT.2.2
  have h5_5 := hRX.1.1.2.1
  have hbd11 := hRX.1.1.1
  obtain ⟨S6, g7, hS_8, h220_9, h221_10⟩ := hRX.1.1.2.2.2.2.2.2
  refine lv_aload_n Bx.1 Bx.2.1 d_Rd_readRepetition_0 rfl (lv_at hl 0 rfl) ?_
  refine f_callVi (na := 0) (As := []) (rest := []) Bx hml E hP hD hS (by omega) h9_2 rfl (m_Rd_peekX l hn hT hf hRX (by omega)) kw_353 kw_355 sel_Rd_peek kw_6 kw_356 (by decide +kernel) ⟨rfl, rfl⟩ ⟨Nat.le_of_ble_eq_true rfl, Nat.le_of_ble_eq_true rfl⟩ rfl hl.1 (Nat.le_of_ble_eq_true rfl) d_Rd_readRepetition_1 ⟨Nat.le_of_ble_eq_true rfl, Nat.le_of_ble_eq_true rfl⟩ (fun r13 mem14 H locs hq hP hS => ?_)
  have hD : va_D (Az sz) (fw n ad mem14) := fw_D hD
  obtain ⟨hqe, hpk12⟩ := hq
  rw [hqe] at hP hD
  subst hpk12
  refine f_callSi (na := 1) (As := [.int (hereF Z T (a))]) (rest := []) Bx hml E.2.1 (m_Rd_beginsRepeatX l (hereF Z T (a))) kw_416 kw_417 kw_6 kw_418 (by decide +kernel) ⟨rfl, rfl⟩ ⟨Nat.le_of_ble_eq_true rfl, Nat.le_of_ble_eq_true rfl⟩ rfl hl.1 (Nat.le_of_ble_eq_true rfl) d_Rd_readRepetition_4 ⟨Nat.le_of_ble_eq_true rfl, Nat.le_of_ble_eq_true rfl⟩ (fun r17 hs16 => ?_)
  subst hs16
  refine lv_if_ne Bx.1 Bx.2.1 d_Rd_readRepetition_7 rfl (fun hb18 => ?_) (fun hb18 => ?_)
  · refine lv_aload_n Bx.1 Bx.2.1 d_Rd_readRepetition_16 rfl (lv_at hl 0 rfl) ?_
    refine lv_iconst (v := 2) Bx.1 Bx.2.1 d_Rd_readRepetition_17 (by decide) ?_
    refine lv_aload_n Bx.1 Bx.2.1 d_Rd_readRepetition_18 rfl (lv_at hl 0 rfl) ?_
    refine f_get Bx hP (by omega) h9_2 rfl inRd 2 (by decide) kw_146 rfl rfl d_Rd_readRepetition_19 ?_
    refine f_xVr (na := 2) (As := [.int (2), .int (nI a)]) (rest := []) Bx hml E hP hD hS (by omega) h9_2 rfl (m_Rd_addElementY l hlt hn hT hf hRX (by omega)) kw_419 kw_421 sel_Rd_addElement kw_6 kw_422 (by decide +kernel) ⟨rfl, rfl⟩ ⟨Nat.le_of_ble_eq_true rfl, Nat.le_of_ble_eq_true rfl⟩ rfl hl.1 (Nat.le_of_ble_eq_true rfl) d_Rd_readRepetition_22 ⟨Nat.le_of_ble_eq_true rfl, Nat.le_of_ble_eq_true rfl⟩ (fun X ce q9 memx H locs hx9 hP hS g1 g2 g3 => f_out hlocks hno hP hS g1 g2 g3 ⟨Nat.le_of_ble_eq_true rfl, Nat.le_of_ble_eq_true rfl⟩ ⟨hx9.1, Or.inl (rep_E (bpF_1 hb18) hx9.2)⟩) (fun r19 mem20 H locs hq hP hS => ?_)
    have hD : va_D (Az sz) (fw n ad mem20) := fw_D hD
    obtain ⟨hr921, hec22, hRX23, hcl24, hfa25⟩ := hq
    subst hr921
    have hfr26 : ∀ i, 19 ≤ i ∧ i < 222 ∧ i ≠ 20 + 2 * Ec → mem20 i = mem i := fun i q => (hfa25 i (by omega)).trans (hfr0 i q)
    obtain ⟨ft27, h9_28⟩ := hRX23.2.1
    have h1_29 : mem20 1 = .inr (0, [.ref (ad 2), .int (nI Z)]) := (hRX23.1.2.2 1 (by omega)).trans hT.1
    have h2_30 : mem20 2 = .inl (cy 0, 240, .inl f) := (hRX23.1.2.2 2 (by omega)).trans hT.2.2
    have h5_31 := hRX23.1.1.2.1
    have hbd37 := hRX23.1.1.1
    obtain ⟨S32, g33, hS_34, h220_35, h221_36⟩ := hRX23.1.1.2.2.2.2.2.2
    obtain ⟨ft38, h9_39⟩ := hRX23.2.1
    have h1_40 : mem20 1 = .inr (0, [.ref (ad 2), .int (nI Z)]) := (hRX23.1.2.2 1 (by omega)).trans hT.1
    have h2_41 : mem20 2 = .inl (cy 0, 240, .inl f) := (hRX23.1.2.2 2 (by omega)).trans hT.2.2
    have h5_42 := hRX23.1.1.2.1
    have hbd48 := hRX23.1.1.1
    obtain ⟨S43, g44, hS_45, h220_46, h221_47⟩ := hRX23.1.1.2.2.2.2.2.2
    refine lv_astore_n (lv' := [(2, .ref (ad (20 + 2 * Ec))), (0, .ref (ad 222)), (1, .int (4))]) Bx.1 Bx.2.1 d_Rd_readRepetition_25 rfl hl (by decide) rfl (fun ls hl => ?_)
    refine lv_aload_n Bx.1 Bx.2.1 d_Rd_readRepetition_26 rfl (lv_at hl 1 rfl) ?_
    refine lv_aload_n Bx.1 Bx.2.1 d_Rd_readRepetition_27 rfl (lv_at hl 0 rfl) ?_
    have hdg := bpF_1 hb18
    have hE9 := hec22
    refine f_xVv (na := 1) (As := [.ref (ad (20 + 2 * Ec))]) (rest := []) Bx hml E hP hD hS (by omega) h9_39 rfl (m_Rd_readRepeatY l hlt hn hT hf hRX23 (by omega) (by omega) hcl24 (by omega) hdg) kw_482 kw_484 sel_Rd_readRepeat kw_6 kw_485 (by decide +kernel) ⟨rfl, rfl⟩ ⟨Nat.le_of_ble_eq_true rfl, Nat.le_of_ble_eq_true rfl⟩ rfl hl.1 (Nat.le_of_ble_eq_true rfl) d_Rd_readRepetition_28 ⟨Nat.le_of_ble_eq_true rfl, Nat.le_of_ble_eq_true rfl⟩ (fun X ce q9 memx H locs hx9 hP hS g1 g2 g3 => f_out hlocks hno hP hS g1 g2 g3 ⟨Nat.le_of_ble_eq_true rfl, Nat.le_of_ble_eq_true rfl⟩ ⟨hx9.1, hx9.2.elim (fun v1 z => z.elim (fun b1 z => z.elim (fun v2 z => z.elim (fun b2 z => Or.inl (rep_bad hdg hE9 z.1 z.2.1 (Or.inl z.2.2))))))⟩) (fun mem50 H locs hq hP hS => ?_)
    have hD : va_D (Az sz) (fw n ad mem50) := fw_D hD
    obtain ⟨v1, b1, v2, b2, hr1, hr2, hnv, hb8, hb9, hRXr, hclr, hfar⟩ := hq
    have hfr51 : ∀ i, 19 ≤ i ∧ i < 222 ∧ i ≠ 20 + 2 * Ec → mem50 i = mem i := fun i q => (hfar i (by omega)).trans (hfr26 i q)
    obtain ⟨ft52, h9_53⟩ := hRXr.2.1
    have h1_54 : mem50 1 = .inr (0, [.ref (ad 2), .int (nI Z)]) := (hRXr.1.2.2 1 (by omega)).trans hT.1
    have h2_55 : mem50 2 = .inl (cy 0, 240, .inl f) := (hRXr.1.2.2 2 (by omega)).trans hT.2.2
    have h5_56 := hRXr.1.1.2.1
    have hbd62 := hRXr.1.1.1
    obtain ⟨S57, g58, hS_59, h220_60, h221_61⟩ := hRXr.1.1.2.2.2.2.2.2
    obtain ⟨ft63, h9_64⟩ := hRXr.2.1
    have h1_65 : mem50 1 = .inr (0, [.ref (ad 2), .int (nI Z)]) := (hRXr.1.2.2 1 (by omega)).trans hT.1
    have h2_66 : mem50 2 = .inl (cy 0, 240, .inl f) := (hRXr.1.2.2 2 (by omega)).trans hT.2.2
    have h5_67 := hRXr.1.1.2.1
    have hbd73 := hRXr.1.1.1
    obtain ⟨S68, g69, hS_70, h220_71, h221_72⟩ := hRXr.1.1.2.2.2.2.2.2
    refine lv_aload_n Bx.1 Bx.2.1 d_Rd_readRepetition_31 rfl (lv_at hl 0 rfl) ?_
    refine lv_aload_n Bx.1 Bx.2.1 d_Rd_readRepetition_32 rfl (lv_at hl 1 rfl) ?_
    refine lv_iload_n Bx.1 Bx.2.1 d_Rd_readRepetition_33 rfl (lv_at hl 2 rfl) ?_
    have her74 : ER ad R (Ec + 1) (bwN Bw Ec 2 (v1) (v2) (-1) (-1) (-1) (Bw 234)) mem50 := hER.new (Nat.le_refl _) (by rw [vR_m]; exact hclr) (Or.inl rfl) (fun i9 hi9 => hfr51 (20 + 2 * i9) (by omega))
    have hsr75 : SR cy ad S (bwN Bw Ec 2 (v1) (v2) (-1) (-1) (-1) (Bw 234)) mem50 := ⟨(hfr51 220 (by omega)).trans hSR.1, (hfr51 221 (by omega)).trans hSR.2⟩
    obtain ⟨hLK1, hF1⟩ := frm_rep (v1 := v1) (v2 := v2) hLK hE9 hF h39
    refine f_xVr (na := 1) (As := [.int (4)]) (rest := [.ref (ad (20 + 2 * Ec))]) Bx hml E hP hD hS (by omega) h9_64 rfl (m_Rd_readElement_4Y l hlt hn hT hf hRXr (by omega) (u := u) (A := repB A 4 Ec v1 v2) her74 hsr75 (by omega) (by omega) hLK1 hF1) kw_443 kw_445 sel_Rd_readElement kw_6 kw_446 (by decide +kernel) ⟨rfl, rfl⟩ ⟨Nat.le_of_ble_eq_true rfl, Nat.le_of_ble_eq_true rfl⟩ rfl hl.1 (Nat.le_of_ble_eq_true rfl) d_Rd_readRepetition_34 ⟨Nat.le_of_ble_eq_true rfl, Nat.le_of_ble_eq_true rfl⟩ (fun X ce q9 memx H locs hx9 hP hS g1 g2 g3 => f_out hlocks hno hP hS g1 g2 g3 ⟨Nat.le_of_ble_eq_true rfl, Nat.le_of_ble_eq_true rfl⟩ ⟨hx9.1, rep_fai hdg hE9 hr1 hr2 hnv hx9.2⟩) (fun r76 mem77 H locs hq hP hS => ?_)
    have hD : va_D (Az sz) (fw n ad mem77) := fw_D hD
    obtain ⟨kx78, ax79, ux80, Rx81, Ex82, Sx83, Ax84, Bx_85, nx86, tox87, hr988, h189, h290, h391, h492, h593, htk94, hRX95, rds96, h897, hok98⟩ := hq
    subst hr988
    obtain ⟨ft99, h9_100⟩ := hRX95.2.1
    have h1_101 : mem77 1 = .inr (0, [.ref (ad 2), .int (nI Z)]) := (hRX95.1.2.2 1 (by omega)).trans hT.1
    have h2_102 : mem77 2 = .inl (cy 0, 240, .inl f) := (hRX95.1.2.2 2 (by omega)).trans hT.2.2
    have h5_103 := hRX95.1.1.2.1
    have hbd109 := hRX95.1.1.1
    obtain ⟨S104, g105, hS_106, h220_107, h221_108⟩ := hRX95.1.1.2.2.2.2.2.2
    have hbd110 := hRX95.1.1.1
    have hce111 := (rds96.2.1 Ec (by omega)).1
    refine f_putN Bx hP hD hS (by omega) hce111 rfl inEl tyEl okEl nmEl 4 (by decide) kw_87 rfl rfl rfl rfl (Nat.le_of_ble_eq_true rfl) d_Rd_readRepetition_37 (fun H locs hP hS => ?_)
    obtain ⟨mem112, e_mem112⟩ : ∃ z, z = va_up mem77 ((20 + 2 * Ec)) (.inr (2, [.int (Bx_85 228 Ec), .int (Bx_85 229 Ec), .int (Bx_85 230 Ec), vR ad (Bx_85 231 Ec), .ref (ad (20 + 2 * kx78)), vE ad (Bx_85 233 Ec), .ref (ad (21 + 2 * Ec))])) := ⟨_, rfl⟩
    have hP : va_P D vcl (fw n ad mem112) H := by rw [e_mem112]; exact hP
    have hD : va_D (Az sz) (fw n ad mem112) := fw_D hD
    have h_mem112 : mem112 ((20 + 2 * Ec)) = .inr (2, [.int (Bx_85 228 Ec), .int (Bx_85 229 Ec), .int (Bx_85 230 Ec), vR ad (Bx_85 231 Ec), .ref (ad (20 + 2 * kx78)), vE ad (Bx_85 233 Ec), .ref (ad (21 + 2 * Ec))]) := by rw [e_mem112, va_up_self]
    have hh113 := (va_up_ne mem77 (.inr (2, [.int (Bx_85 228 Ec), .int (Bx_85 229 Ec), .int (Bx_85 230 Ec), vR ad (Bx_85 231 Ec), .ref (ad (20 + 2 * kx78)), vE ad (Bx_85 233 Ec), .ref (ad (21 + 2 * Ec))])) (show (222 : Nat) ≠ (20 + 2 * Ec) by first | decide | assumption | omega)).trans h9_100
    rw [← e_mem112] at hh113
    have hh114 := (va_up_ne mem77 (.inr (2, [.int (Bx_85 228 Ec), .int (Bx_85 229 Ec), .int (Bx_85 230 Ec), vR ad (Bx_85 231 Ec), .ref (ad (20 + 2 * kx78)), vE ad (Bx_85 233 Ec), .ref (ad (21 + 2 * Ec))])) (show (1 : Nat) ≠ (20 + 2 * Ec) by first | decide | assumption | omega)).trans h1_101
    rw [← e_mem112] at hh114
    have hh115 := (va_up_ne mem77 (.inr (2, [.int (Bx_85 228 Ec), .int (Bx_85 229 Ec), .int (Bx_85 230 Ec), vR ad (Bx_85 231 Ec), .ref (ad (20 + 2 * kx78)), vE ad (Bx_85 233 Ec), .ref (ad (21 + 2 * Ec))])) (show (5 : Nat) ≠ (20 + 2 * Ec) by first | decide | assumption | omega)).trans h5_103
    rw [← e_mem112] at hh115
    have hh116 := (va_up_ne mem77 (.inr (2, [.int (Bx_85 228 Ec), .int (Bx_85 229 Ec), .int (Bx_85 230 Ec), vR ad (Bx_85 231 Ec), .ref (ad (20 + 2 * kx78)), vE ad (Bx_85 233 Ec), .ref (ad (21 + 2 * Ec))])) (show (220 : Nat) ≠ (20 + 2 * Ec) by first | decide | assumption | omega)).trans h220_107
    rw [← e_mem112] at hh116
    have hRX117 : RX cy ad lim (ax79) (Rx81) (Ex82) (tox87) (nx86) m0 mem112 := by rw [e_mem112]; exact hRX95.el (by omega) (hRX95.1.mk (by omega) (hRX95.1.1.upEl (by omega) (fun _ => ⟨(rds96.2.1 Ec (by omega)).2.1.oR ad, Or.inr ⟨kx78, by omega, by omega, rfl⟩, (rds96.2.1 Ec (by omega)).2.2.2.oE ad (by omega)⟩)))
    have her118 : ER ad (Rx81) (Ex82) (va_up Bx_85 232 (upd (Bx_85 232) Ec (nI kx78))) mem112 := rds96.2.1.part (by omega) (by omega) (by omega) h_mem112 (fun i9 q9 hi9 => by rw [e_mem112]; exact va_up_ne _ _ (by omega))
    have hsr119 : SR cy ad (Sx83) (Bx_85) mem112 := ⟨(show mem112 220 = mem77 220 by rw [e_mem112]; exact va_up_ne _ _ (by omega)).trans rds96.2.2.1.1, (show mem112 221 = mem77 221 by rw [e_mem112]; exact va_up_ne _ _ (by omega)).trans rds96.2.2.1.2⟩
    obtain ⟨ft120, h9_121⟩ := hRX117.2.1
    have h1_122 : mem112 1 = .inr (0, [.ref (ad 2), .int (nI Z)]) := (hRX117.1.2.2 1 (by omega)).trans hT.1
    have h2_123 : mem112 2 = .inl (cy 0, 240, .inl f) := (hRX117.1.2.2 2 (by omega)).trans hT.2.2
    have h5_124 := hRX117.1.1.2.1
    have hbd130 := hRX117.1.1.1
    obtain ⟨S125, g126, hS_127, h220_128, h221_129⟩ := hRX117.1.1.2.2.2.2.2.2
    refine lv_aload_n Bx.1 Bx.2.1 d_Rd_readRepetition_40 rfl (lv_at hl 0 rfl) ?_
    have hrd9 := rep_rds hLK hE9 hF h39 rds96 h897 ⟨by omega, by omega⟩ (rep_suc (u := u) (R := R) (f := 4) (A := A) (nm := nm) hdg hE9 hr1 hr2 hnv hok98) her118 hsr119
    exact x_aret hx hb hlocks hr (⟨Ec, ax79, ux80, Rx81, Ex82, Sx83, _, _, nx86, tox87, rfl, by omega, by omega, by omega, by omega, by omega, htk94, hRX117, hrd9.1, hrd9.2⟩) hP hS d_Rd_readRepetition_41
  · refine lv_aload_n Bx.1 Bx.2.1 d_Rd_readRepetition_10 rfl (lv_at hl 0 rfl) ?_
    refine lv_iload_n Bx.1 Bx.2.1 d_Rd_readRepetition_11 rfl (lv_at hl 1 rfl) ?_
    obtain ⟨hd0, h42⟩ := bpF_0 hb18
    refine f_xVr (na := 1) (As := [.int (4)]) (rest := []) Bx hml E hP hD hS (by omega) h9_2 rfl (m_Rd_readElement_4Y l hlt hn hT hf hRX (by omega) (u := u) (A := A) hER hSR hSa (by omega) hLK hF) kw_443 kw_445 sel_Rd_readElement kw_6 kw_446 (by decide +kernel) ⟨rfl, rfl⟩ ⟨Nat.le_of_ble_eq_true rfl, Nat.le_of_ble_eq_true rfl⟩ rfl hl.1 (Nat.le_of_ble_eq_true rfl) d_Rd_readRepetition_12 ⟨Nat.le_of_ble_eq_true rfl, Nat.le_of_ble_eq_true rfl⟩ (fun X ce q9 memx H locs hx9 hP hS g1 g2 g3 => f_out hlocks hno hP hS g1 g2 g3 ⟨Nat.le_of_ble_eq_true rfl, Nat.le_of_ble_eq_true rfl⟩ ⟨hx9.1, (hx9.2.resolve_right (fun z => z ⟨hbg, hd0, h42⟩)).eq (rep_no hd0 h42)⟩) (fun r131 mem132 H locs hq hP hS => ?_)
    have hD : va_D (Az sz) (fw n ad mem132) := fw_D hD
    obtain ⟨kx133, ax134, ux135, Rx136, Ex137, Sx138, Ax139, Bx_140, nx141, tox142, hr9143, h1144, h2145, h3146, h4147, h5148, htk149, hRX150, rds151, h8152, hok153⟩ := hq
    subst hr9143
    obtain ⟨ft154, h9_155⟩ := hRX150.2.1
    have h1_156 : mem132 1 = .inr (0, [.ref (ad 2), .int (nI Z)]) := (hRX150.1.2.2 1 (by omega)).trans hT.1
    have h2_157 : mem132 2 = .inl (cy 0, 240, .inl f) := (hRX150.1.2.2 2 (by omega)).trans hT.2.2
    have h5_158 := hRX150.1.1.2.1
    have hbd164 := hRX150.1.1.1
    obtain ⟨S159, g160, hS_161, h220_162, h221_163⟩ := hRX150.1.1.2.2.2.2.2.2
    have hbd165 := hRX150.1.1.1
    exact x_aret hx hb hlocks hr (⟨kx133, ax134, ux135, Rx136, Ex137, Sx138, Ax139, Bx_140, nx141, tox142, rfl, h1144, h2145, h3146, h4147, h5148, htk149, hRX150, rdsEq rds151 (rep_no hd0 h42), h8152⟩) hP hS d_Rd_readRepetition_15
set_option maxHeartbeats 4000000 in
set_option maxRecDepth 100000 in
theorem m_Rd_readSequence_4Y (l : Launch) {D : va_G} {cy : Nat → ClassId} {sz n : Nat} {ad : Nat → Nat} {mem : Nat → va_E} {Z a R Ec lim : Nat} {f T : Nat → Int32} {to : Nat → Int32} {nm : Nat → Int64} {m0 : Nat → va_E} {u S : Nat} {A Bw : Ro} {cq : Nat} (hlt : l.stackTraces = false) (hn : 224 ≤ n) (hT : TX cy ad Z f m0) (hf : ∀ k, k < Z → f k = T k) (hRX : RX cy ad lim a R Ec to nm m0 mem) (haB : a ≤ 300) (hER : ER ad R Ec Bw mem) (hSR : SR cy ad S Bw mem) (hSa : S ≤ a) (haZ : a ≤ Z) (hLK : LKa Ec A) (hc : A 237 4 = nI cq) (hcl : cq < Ec) (h39 : A 239 4 = -1) : NXr l D cy sz n ad y_Rd_readSequence c_Rd_readSequence 5 (some (.object "AbnfChart$Element")) ({ frames := 30, cells := 1, slots := 6, locals := 712 } : Room) mem [.ref (ad 222), .int (4)] (fun r mem' => ∃ (a' u' R' E' S' : Nat) (A' Bw' : Ro) (nm' : Nat → Int64) (to' : Nat → Int32), r = ad (20 + 2 * Ec) ∧ Ec < E' ∧ R ≤ R' ∧ a < a' ∧ a' ≤ Z ∧ TOK R R' to to' ∧ RX cy ad lim (gapF T Z a') R' E' to' nm' m0 mem' ∧ RDS cy ad T Z 4 (seqS T Z a u R Ec 4 A nm) (slotOf A cq) R Ec S u A Bw Ec a' u' R' E' S' A' Bw' nm' mem' ∧ ¬ (bgF (hereF Z T (gapF T Z a')) = true ∧ a' < gapF T Z a')) (fun X mem' => ((X = cIA ∨ X = cIS) ∧ ∃ rc' ec' : Nat, RS cy ad lim rc' ec' m0 mem') ∧ (Fai T Z (seqS T Z a u R Ec 4 A nm))) := by
  refine vx_ofW (cc := c_Rd_readSequence) (maxL := 5) (ret := (some (.object "AbnfChart$Element"))) (by decide) rfl ?_
  intro p e s m args below meth c s₁ B hml hno hv
  obtain ⟨rfl, E, hP, hD⟩ := hv
  have hx := B.exec
  have hb := B.bytes
  have hr := B.returns
  have hlocks := B.notSynchronized
  have Bx : MB p s m [.ref (ad 222), .int (4)].toArray c c_Rd_readSequence "AbnfChart$Reader" D cy := ⟨hx, hb, tb_all (atoms_spec B.pre) E.2.1, findClass_of_methodNamed B.named, E.1⟩
  have hS : va_S (Az sz) s.heap s.heap [] := va_S.rf
  have hl := lv_entry ([.ref (ad 222), .int (4)]) (n := 5) (Nat.le_of_ble_eq_true rfl)
  rw [lg_entry_eq]
  generalize (lg_sl ([.ref (ad 222), .int (4)]) ++ List.replicate (5 - (lg_sl ([.ref (ad 222), .int (4)])).length) Slot.unset).toArray = ls at hl ⊢
  have hl : lv_has ls 5 [(0, .ref (ad 222)), (1, .int (4))] := hl
  have hZ9 := hT.2.1
  have hbd9 := hRX.1.1.1
  have hfr0 : ∀ i, 19 ≤ i ∧ i < 222 ∧ i ≠ 20 + 2 * Ec → mem i = mem i := fun _ _ => rfl
  obtain ⟨ft1, h9_2⟩ := hRX.2.1
  have h1_3 : mem 1 = .inr (0, [.ref (ad 2), .int (nI Z)]) := (hRX.1.2.2 1 (by omega)).trans hT.1
  have h2_4 : mem 2 = .inl (cy 0, 240, .inl f) := (hRX.1.2.2 2 (by omega)).trans hT.2.2
  have h5_5 := hRX.1.1.2.1
  have hbd11 := hRX.1.1.1
  obtain ⟨S6, g7, hS_8, h220_9, h221_10⟩ := hRX.1.1.2.2.2.2.2.2
  refine lv_aload_n Bx.1 Bx.2.1 d_Rd_readSequence_0 rfl (lv_at hl 0 rfl) ?_
  refine lv_iconst (v := 1) Bx.1 Bx.2.1 d_Rd_readSequence_1 (by decide) ?_
  refine f_xVr (na := 1) (As := [.int (1)]) (rest := []) Bx hml E hP hD hS (by omega) h9_2 rfl (m_Rd_beginRowY l hlt hn hT hf hRX (by omega)) kw_409 kw_411 sel_Rd_beginRow kw_6 kw_412 (by decide +kernel) ⟨rfl, rfl⟩ ⟨Nat.le_of_ble_eq_true rfl, Nat.le_of_ble_eq_true rfl⟩ rfl hl.1 (Nat.le_of_ble_eq_true rfl) d_Rd_readSequence_2 ⟨Nat.le_of_ble_eq_true rfl, Nat.le_of_ble_eq_true rfl⟩ (fun X ce q9 memx H locs hx9 hP hS g1 g2 g3 => f_out hlocks hno hP hS g1 g2 g3 ⟨Nat.le_of_ble_eq_true rfl, Nat.le_of_ble_eq_true rfl⟩ ⟨hx9.1, Or.inl (seq_no hx9.2)⟩) (fun r12 mem13 H locs hq hP hS => ?_)
  have hD : va_D (Az sz) (fw n ad mem13) := fw_D hD
  obtain ⟨hbg, hE9, hr9, hRXb, hclb, hfab⟩ := hq
  subst hr9
  have hfr14 : ∀ i, 19 ≤ i ∧ i < 222 ∧ i ≠ 20 + 2 * Ec → mem13 i = mem i := fun i q => (hfab i (by omega)).trans (hfr0 i q)
  obtain ⟨ft15, h9_16⟩ := hRXb.2.1
  have h1_17 : mem13 1 = .inr (0, [.ref (ad 2), .int (nI Z)]) := (hRXb.1.2.2 1 (by omega)).trans hT.1
  have h2_18 : mem13 2 = .inl (cy 0, 240, .inl f) := (hRXb.1.2.2 2 (by omega)).trans hT.2.2
  have h5_19 := hRXb.1.1.2.1
  have hbd25 := hRXb.1.1.1
  obtain ⟨S20, g21, hS_22, h220_23, h221_24⟩ := hRXb.1.1.2.2.2.2.2.2
  obtain ⟨ft26, h9_27⟩ := hRXb.2.1
  have h1_28 : mem13 1 = .inr (0, [.ref (ad 2), .int (nI Z)]) := (hRXb.1.2.2 1 (by omega)).trans hT.1
  have h2_29 : mem13 2 = .inl (cy 0, 240, .inl f) := (hRXb.1.2.2 2 (by omega)).trans hT.2.2
  have h5_30 := hRXb.1.1.2.1
  have hbd36 := hRXb.1.1.1
  obtain ⟨S31, g32, hS_33, h220_34, h221_35⟩ := hRXb.1.1.2.2.2.2.2.2
  refine lv_astore_n (lv' := [(2, .ref (ad (20 + 2 * Ec))), (0, .ref (ad 222)), (1, .int (4))]) Bx.1 Bx.2.1 d_Rd_readSequence_5 rfl hl (by decide) rfl (fun ls hl => ?_)
  refine lv_aload_n Bx.1 Bx.2.1 d_Rd_readSequence_6 rfl (lv_at hl 1 rfl) ?_
  refine lv_iload_n Bx.1 Bx.2.1 d_Rd_readSequence_7 rfl (lv_at hl 2 rfl) ?_
  have her37 : ER ad R (Ec + 1) (bwN Bw Ec 1 (0) (0) (-1) (-1) (-1) (Bw 234)) mem13 := hER.new (Nat.le_refl _) (by rw [vR_m]; exact hclb) (Or.inl rfl) (fun i9 hi9 => hfr14 (20 + 2 * i9) (by omega))
  have hsr38 : SR cy ad S (bwN Bw Ec 1 (0) (0) (-1) (-1) (-1) (Bw 234)) mem13 := ⟨(hfr14 220 (by omega)).trans hSR.1, (hfr14 221 (by omega)).trans hSR.2⟩
  obtain ⟨hLK1, hF1, h391⟩ := frm_seq hLK hE9 hc hcl h39
  refine f_xVr (na := 1) (As := [.int (4)]) (rest := []) Bx hml E hP hD hS (by omega) h9_27 rfl (m_Rd_readRepetition_4Y l hlt hn hT hf hRXb (by omega) (u := u) (A := seqA A 4 Ec) her37 hsr38 (by omega) (by omega) hLK1 hF1 h391 hbg) kw_439 kw_441 sel_Rd_readRepetition kw_6 kw_442 (by decide +kernel) ⟨rfl, rfl⟩ ⟨Nat.le_of_ble_eq_true rfl, Nat.le_of_ble_eq_true rfl⟩ rfl hl.1 (Nat.le_of_ble_eq_true rfl) d_Rd_readSequence_8 ⟨Nat.le_of_ble_eq_true rfl, Nat.le_of_ble_eq_true rfl⟩ (fun X ce q9 memx H locs hx9 hP hS g1 g2 g3 => f_out hlocks hno hP hS g1 g2 g3 ⟨Nat.le_of_ble_eq_true rfl, Nat.le_of_ble_eq_true rfl⟩ ⟨hx9.1, hx9.2.eq (seq_ok hbg hE9)⟩) (fun r39 mem40 H locs hq hP hS => ?_)
  have hD : va_D (Az sz) (fw n ad mem40) := fw_D hD
  obtain ⟨kx41, ax42, ux43, Rx44, Ex45, Sx46, Ax47, Bx_48, nx49, tox50, hr951, h152, h253, h354, h455, h556, htk57, hRX58, rds59, h860⟩ := hq
  subst hr951
  obtain ⟨ft61, h9_62⟩ := hRX58.2.1
  have h1_63 : mem40 1 = .inr (0, [.ref (ad 2), .int (nI Z)]) := (hRX58.1.2.2 1 (by omega)).trans hT.1
  have h2_64 : mem40 2 = .inl (cy 0, 240, .inl f) := (hRX58.1.2.2 2 (by omega)).trans hT.2.2
  have h5_65 := hRX58.1.1.2.1
  have hbd71 := hRX58.1.1.1
  obtain ⟨S66, g67, hS_68, h220_69, h221_70⟩ := hRX58.1.1.2.2.2.2.2.2
  have hbd72 := hRX58.1.1.1
  refine lv_astore_n (lv' := [(3, .ref (ad (20 + 2 * kx41))), (2, .ref (ad (20 + 2 * Ec))), (0, .ref (ad 222)), (1, .int (4))]) Bx.1 Bx.2.1 d_Rd_readSequence_11 rfl hl (by decide) rfl (fun ls hl => ?_)
  refine lv_aload_n Bx.1 Bx.2.1 d_Rd_readSequence_12 rfl (lv_at hl 1 rfl) ?_
  refine lv_aload_n Bx.1 Bx.2.1 d_Rd_readSequence_13 rfl (lv_at hl 0 rfl) ?_
  have hce73 := (rds59.2.1 Ec (by omega)).1
  refine f_putN Bx hP hD hS (by omega) hce73 rfl inEl tyEl okEl nmEl 4 (by decide) kw_87 rfl rfl rfl rfl (Nat.le_of_ble_eq_true rfl) d_Rd_readSequence_14 (fun H locs hP hS => ?_)
  obtain ⟨mem74, e_mem74⟩ : ∃ z, z = va_up mem40 ((20 + 2 * Ec)) (.inr (2, [.int (Bx_48 228 Ec), .int (Bx_48 229 Ec), .int (Bx_48 230 Ec), vR ad (Bx_48 231 Ec), .ref (ad (20 + 2 * kx41)), vE ad (Bx_48 233 Ec), .ref (ad (21 + 2 * Ec))])) := ⟨_, rfl⟩
  have hP : va_P D vcl (fw n ad mem74) H := by rw [e_mem74]; exact hP
  have hD : va_D (Az sz) (fw n ad mem74) := fw_D hD
  have h_mem74 : mem74 ((20 + 2 * Ec)) = .inr (2, [.int (Bx_48 228 Ec), .int (Bx_48 229 Ec), .int (Bx_48 230 Ec), vR ad (Bx_48 231 Ec), .ref (ad (20 + 2 * kx41)), vE ad (Bx_48 233 Ec), .ref (ad (21 + 2 * Ec))]) := by rw [e_mem74, va_up_self]
  have hh75 := (va_up_ne mem40 (.inr (2, [.int (Bx_48 228 Ec), .int (Bx_48 229 Ec), .int (Bx_48 230 Ec), vR ad (Bx_48 231 Ec), .ref (ad (20 + 2 * kx41)), vE ad (Bx_48 233 Ec), .ref (ad (21 + 2 * Ec))])) (show (222 : Nat) ≠ (20 + 2 * Ec) by first | decide | assumption | omega)).trans h9_62
  rw [← e_mem74] at hh75
  have hh76 := (va_up_ne mem40 (.inr (2, [.int (Bx_48 228 Ec), .int (Bx_48 229 Ec), .int (Bx_48 230 Ec), vR ad (Bx_48 231 Ec), .ref (ad (20 + 2 * kx41)), vE ad (Bx_48 233 Ec), .ref (ad (21 + 2 * Ec))])) (show (1 : Nat) ≠ (20 + 2 * Ec) by first | decide | assumption | omega)).trans h1_63
  rw [← e_mem74] at hh76
  have hh77 := (va_up_ne mem40 (.inr (2, [.int (Bx_48 228 Ec), .int (Bx_48 229 Ec), .int (Bx_48 230 Ec), vR ad (Bx_48 231 Ec), .ref (ad (20 + 2 * kx41)), vE ad (Bx_48 233 Ec), .ref (ad (21 + 2 * Ec))])) (show (5 : Nat) ≠ (20 + 2 * Ec) by first | decide | assumption | omega)).trans h5_65
  rw [← e_mem74] at hh77
  have hh78 := (va_up_ne mem40 (.inr (2, [.int (Bx_48 228 Ec), .int (Bx_48 229 Ec), .int (Bx_48 230 Ec), vR ad (Bx_48 231 Ec), .ref (ad (20 + 2 * kx41)), vE ad (Bx_48 233 Ec), .ref (ad (21 + 2 * Ec))])) (show (220 : Nat) ≠ (20 + 2 * Ec) by first | decide | assumption | omega)).trans h220_69
  rw [← e_mem74] at hh78
  have hRX79 : RX cy ad lim (ax42) (Rx44) (Ex45) (tox50) (nx49) m0 mem74 := by rw [e_mem74]; exact hRX58.el (by omega) (hRX58.1.mk (by omega) (hRX58.1.1.upEl (by omega) (fun _ => ⟨(rds59.2.1 Ec (by omega)).2.1.oR ad, Or.inr ⟨kx41, by omega, by omega, rfl⟩, (rds59.2.1 Ec (by omega)).2.2.2.oE ad (by omega)⟩)))
  have her80 : ER ad (Rx44) (Ex45) (va_up Bx_48 232 (upd (Bx_48 232) Ec (nI kx41))) mem74 := rds59.2.1.part (by omega) (by omega) (by omega) h_mem74 (fun i9 q9 hi9 => by rw [e_mem74]; exact va_up_ne _ _ (by omega))
  have hsr81 : SR cy ad (Sx46) (Bx_48) mem74 := ⟨(show mem74 220 = mem40 220 by rw [e_mem74]; exact va_up_ne _ _ (by omega)).trans rds59.2.2.1.1, (show mem74 221 = mem40 221 by rw [e_mem74]; exact va_up_ne _ _ (by omega)).trans rds59.2.2.1.2⟩
  obtain ⟨ft82, h9_83⟩ := hRX79.2.1
  have h1_84 : mem74 1 = .inr (0, [.ref (ad 2), .int (nI Z)]) := (hRX79.1.2.2 1 (by omega)).trans hT.1
  have h2_85 : mem74 2 = .inl (cy 0, 240, .inl f) := (hRX79.1.2.2 2 (by omega)).trans hT.2.2
  have h5_86 := hRX79.1.1.2.1
  have hbd92 := hRX79.1.1.1
  obtain ⟨S87, g88, hS_89, h220_90, h221_91⟩ := hRX79.1.1.2.2.2.2.2.2
  refine lv_iconst (v := 0) Bx.1 Bx.2.1 d_Rd_readSequence_17 (by decide) ?_
  refine lv_istore (lv' := [(4, .int (0)), (3, .ref (ad (20 + 2 * kx41))), (2, .ref (ad (20 + 2 * Ec))), (0, .ref (ad 222)), (1, .int (4))]) Bx.1 Bx.2.1 d_Rd_readSequence_18 hl (by decide) rfl (fun ls hl => ?_)
  have hsl9 := slot_lt hLK (by omega) hcl
  have hsq0 := seq_first hLK hE9 hc hcl h39 rds59 h860 ⟨by omega, by omega⟩ (by omega) (seq_ok (u := u) (R := R) (f := 4) (A := A) (nm := nm) hbg hE9) her80 hsr81
  have loop93 : ∀ (d94 : Nat) (mem9 : Nat → va_E) (a1 : Nat) (u1 : Nat) (R1 : Nat) (E1 : Nat) (S1 : Nat) (A1 : Ro) (B1 : Ro) (n1 : Nat → Int64) (to1 : Nat → Int32) (la : Nat) (k9 : Nat) (ls : Array Slot) (H : Heap) (locs : List Loc), (240 - k9 < d94) → (RX cy ad lim a1 R1 E1 to1 n1 m0 mem9) → (a < a1 ∧ a1 ≤ Z ∧ R ≤ R1 ∧ k9 < a1 ∧ k9 ≤ 240) → (SQI cy ad T Z 4 (seqS T Z a u R Ec 4 A nm) (slotOf A cq) R Ec S u A Bw la a1 u1 R1 E1 S1 A1 B1 n1 mem9) → (TOK R R1 to to1) → (va_P D vcl (fw n ad mem9) H) → (va_D (Az sz) (fw n ad mem9)) → (va_S (Az sz) s.heap H locs) → (lv_has ls 5 [(4, .int (nI k9)), (3, .ref (ad (20 + 2 * la))), (2, .ref (ad (20 + 2 * Ec))), (0, .ref (ad 222)), (1, .int (4))]) → W p l e (headSpec (Cond.code y_Rd_readSequence c_Rd_readSequence 5 (some (.object "AbnfChart$Element")) :: tg) ({ frames := 30, cells := 1, slots := 6, locals := 712 } : Room)).room s m [.ref (ad 222), .int (4)].toArray below meth c H locs 0 0 (vx_MQ below (QX (QR (fun r mem' => ∃ (a' u' R' E' S' : Nat) (A' Bw' : Ro) (nm' : Nat → Int64) (to' : Nat → Int32), r = ad (20 + 2 * Ec) ∧ Ec < E' ∧ R ≤ R' ∧ a < a' ∧ a' ≤ Z ∧ TOK R R' to to' ∧ RX cy ad lim (gapF T Z a') R' E' to' nm' m0 mem' ∧ RDS cy ad T Z 4 (seqS T Z a u R Ec 4 A nm) (slotOf A cq) R Ec S u A Bw Ec a' u' R' E' S' A' Bw' nm' mem' ∧ ¬ (bgF (hereF Z T (gapF T Z a')) = true ∧ a' < gapF T Z a')) (PP D n ad) (Az sz))) (XQ D sz n ad (fun X mem' => ((X = cIA ∨ X = cIS) ∧ ∃ rc' ec' : Nat, RS cy ad lim rc' ec' m0 mem') ∧ (Fai T Z (seqS T Z a u R Ec 4 A nm)))) [.ref (ad 222), .int (4)].toArray s 1 6 (Az sz)) (F0 m 20 ls []) := by
    intro d94
    induction d94 with
    | zero => intro mem9 a1 u1 R1 E1 S1 A1 B1 n1 to1 la k9 ls H locs hmeas100; exact absurd hmeas100 (Nat.not_lt_zero _)
    | succ d94 ih99 =>
      intro mem9 a1 u1 R1 E1 S1 A1 B1 n1 to1 la k9 ls H locs hmeas100 hz95 hz96 hz97 hz98 hP hD hS hl
      have hbd8 := hz96
      have hsq := hz97
      have hbdE := hz95.1.1.1
      have hla := hsq.2.2.2
      have hSa1 := hsq.1.2.2.2.1.2.1
      have hlka := sqi_lka hsq hLK hsl9
      obtain ⟨ft101, h9_102⟩ := hz95.2.1
      have h1_103 : mem9 1 = .inr (0, [.ref (ad 2), .int (nI Z)]) := (hz95.1.2.2 1 (by omega)).trans hT.1
      have h2_104 : mem9 2 = .inl (cy 0, 240, .inl f) := (hz95.1.2.2 2 (by omega)).trans hT.2.2
      have h5_105 := hz95.1.1.2.1
      have hbd111 := hz95.1.1.1
      obtain ⟨S106, g107, hS_108, h220_109, h221_110⟩ := hz95.1.1.2.2.2.2.2.2
      refine lv_iload Bx.1 Bx.2.1 d_Rd_readSequence_20 (lv_at hl 0 rfl) ?_
      refine lv_sipush (v := 240) Bx.1 Bx.2.1 d_Rd_readSequence_22 (by decide) ?_
      refine lv_icmp_ge Bx.1 Bx.2.1 d_Rd_readSequence_25 rfl (fun hb112 => ?_) (fun hb112 => ?_)
      · have hN113 : 240 ≤ k9 := (nI_leI (by omega) (by omega)).mp (show nI (240) ≤ nI (k9) from hb112)
        exact absurd hbd8 (by omega)
      · have hN114 : ¬ 240 ≤ k9 := fun q9 => hb112 (show nI (240) ≤ nI (k9) from (nI_leI (by omega) (by omega)).mpr q9)
        refine lv_aload_n Bx.1 Bx.2.1 d_Rd_readSequence_28 rfl (lv_at hl 3 rfl) ?_
        refine f_callVi (na := 0) (As := []) (rest := []) Bx hml E hP hD hS (by omega) h9_102 rfl (m_Rd_readGapY l hn hT hf hz95 (by omega) (by omega)) kw_397 kw_399 sel_Rd_readGap kw_6 kw_400 (by decide +kernel) ⟨rfl, rfl⟩ ⟨Nat.le_of_ble_eq_true rfl, Nat.le_of_ble_eq_true rfl⟩ rfl hl.1 (Nat.le_of_ble_eq_true rfl) d_Rd_readSequence_29 ⟨Nat.le_of_ble_eq_true rfl, Nat.le_of_ble_eq_true rfl⟩ (fun r115 mem116 H locs hq hP hS => ?_)
        have hD : va_D (Az sz) (fw n ad mem116) := fw_D hD
        obtain ⟨g117, eg118⟩ : ∃ z, z = gapF T Z (a1) := ⟨_, rfl⟩
        rw [← eg118] at hq
        obtain ⟨hRX119, hgc120, hfa121⟩ := hq
        have hg122 : a1 ≤ g117 := by rw [eg118]; exact gapF_ge T Z _
        have hg123 : g117 ≤ Z := by rw [eg118]; exact gapF_le T (by omega)
        obtain ⟨ft124, h9_125⟩ := hRX119.2.1
        have h1_126 : mem116 1 = .inr (0, [.ref (ad 2), .int (nI Z)]) := (hRX119.1.2.2 1 (by omega)).trans hT.1
        have h2_127 : mem116 2 = .inl (cy 0, 240, .inl f) := (hRX119.1.2.2 2 (by omega)).trans hT.2.2
        have h5_128 := hRX119.1.1.2.1
        have hbd134 := hRX119.1.1.1
        obtain ⟨S129, g130, hS_131, h220_132, h221_133⟩ := hRX119.1.1.2.2.2.2.2.2
        have her135 : ER ad (R1) (E1) (B1) mem116 := hsq.1.2.1.fr (Nat.le_refl _) (fun i9 hi9 => hfa121 _ (by omega))
        have hsr136 : SR cy ad (S1) (B1) mem116 := ⟨(show mem116 220 = _ from hfa121 _ (by omega)).trans hsq.1.2.2.1.1, (show mem116 221 = _ from hfa121 _ (by omega)).trans hsq.1.2.2.1.2⟩
        rcases hgc120 with ⟨hr137, hga138⟩ | ⟨hr137, hga138⟩
        · subst hr137
          refine lv_if_eq Bx.1 Bx.2.1 d_Rd_readSequence_32 rfl (fun hb139 => ?_) (fun hb139 => ?_)
          · exact absurd hb139 (by decide)
          · refine lv_aload_n Bx.1 Bx.2.1 d_Rd_readSequence_35 rfl (lv_at hl 3 rfl) ?_
            refine f_callVi (na := 0) (As := []) (rest := []) Bx hml E hP hD hS (by omega) h9_125 rfl (m_Rd_peekX l hn hT hf hRX119 (by omega)) kw_353 kw_355 sel_Rd_peek kw_6 kw_356 (by decide +kernel) ⟨rfl, rfl⟩ ⟨Nat.le_of_ble_eq_true rfl, Nat.le_of_ble_eq_true rfl⟩ rfl hl.1 (Nat.le_of_ble_eq_true rfl) d_Rd_readSequence_36 ⟨Nat.le_of_ble_eq_true rfl, Nat.le_of_ble_eq_true rfl⟩ (fun r141 mem142 H locs hq hP hS => ?_)
            have hD : va_D (Az sz) (fw n ad mem142) := fw_D hD
            obtain ⟨hqe, hpk140⟩ := hq
            rw [hqe] at hP hD
            subst hpk140
            refine f_callSi (na := 1) (As := [.int (hereF Z T (g117))]) (rest := []) Bx hml E.2.1 (m_Rd_beginsRepetitionX l (hereF Z T (g117))) kw_413 kw_414 kw_6 kw_415 (by decide +kernel) ⟨rfl, rfl⟩ ⟨Nat.le_of_ble_eq_true rfl, Nat.le_of_ble_eq_true rfl⟩ rfl hl.1 (Nat.le_of_ble_eq_true rfl) d_Rd_readSequence_39 ⟨Nat.le_of_ble_eq_true rfl, Nat.le_of_ble_eq_true rfl⟩ (fun r145 hs144 => ?_)
            subst hs144
            refine lv_if_eq Bx.1 Bx.2.1 d_Rd_readSequence_42 rfl (fun hb146 => ?_) (fun hb146 => ?_)
            · refine lv_aload_n Bx.1 Bx.2.1 d_Rd_readSequence_65 rfl (lv_at hl 2 rfl) ?_
              exact x_aret hx hb hlocks hr (⟨a1, u1, R1, E1, S1, A1, B1, n1, to1, rfl, by omega, by omega, by omega, by omega, hz98, by rw [← eg118]; exact hRX119, ⟨hsq.1.1, her135, hsr136, hsq.1.2.2.2⟩, fun z => by have q9 := z.1; rw [← eg118, bg_0 hb146] at q9; exact absurd q9 (by decide)⟩) hP hS d_Rd_readSequence_66
            · have hbg2 : bgF (hereF Z T (gapF T Z a1)) = true := by rw [← eg118]; exact bg_1 hb146
              have hgt2 : a1 < gapF T Z a1 := by rw [← eg118]; omega
              have h238 := hsq.2.1
              have h239 : A1 239 4 = -1 := hsq.1.2.2.2.2.2.2.2.2.2.2
              refine lv_aload_n Bx.1 Bx.2.1 d_Rd_readSequence_45 rfl (lv_at hl 1 rfl) ?_
              refine lv_aload_n Bx.1 Bx.2.1 d_Rd_readSequence_46 rfl (lv_at hl 3 rfl) ?_
              refine lv_iload_n Bx.1 Bx.2.1 d_Rd_readSequence_47 rfl (lv_at hl 4 rfl) ?_
              refine f_xVr (na := 1) (As := [.int (4)]) (rest := [.ref (ad (20 + 2 * la))]) Bx hml E hP hD hS (by omega) h9_125 rfl (m_Rd_readRepetition_4Y l hlt hn hT hf hRX119 (by omega) (u := u1) (A := A1) her135 hsr136 (by omega) (by omega) hlka ⟨⟨Ec, by omega, h238⟩, Or.inl h239⟩ h239 (by rw [eg118]; exact hbg2)) kw_439 kw_441 sel_Rd_readRepetition kw_6 kw_442 (by decide +kernel) ⟨rfl, rfl⟩ ⟨Nat.le_of_ble_eq_true rfl, Nat.le_of_ble_eq_true rfl⟩ rfl hl.1 (Nat.le_of_ble_eq_true rfl) d_Rd_readSequence_48 ⟨Nat.le_of_ble_eq_true rfl, Nat.le_of_ble_eq_true rfl⟩ (fun X ce q9 memx H locs hx9 hP hS g1 g2 g3 => f_out hlocks hno hP hS g1 g2 g3 ⟨Nat.le_of_ble_eq_true rfl, Nat.le_of_ble_eq_true rfl⟩ ⟨hx9.1, hsq.1.1.fai (go_rept hbg2 hgt2) (by rw [← eg118]; exact hx9.2)⟩) (fun r147 mem148 H locs hq hP hS => ?_)
              have hD : va_D (Az sz) (fw n ad mem148) := fw_D hD
              obtain ⟨kx149, ax150, ux151, Rx152, Ex153, Sx154, Ax155, Bx_156, nx157, tox158, hr9159, h1160, h2161, h3162, h4163, h5164, htk165, hRX166, rds167, h8168⟩ := hq
              subst hr9159
              obtain ⟨ft169, h9_170⟩ := hRX166.2.1
              have h1_171 : mem148 1 = .inr (0, [.ref (ad 2), .int (nI Z)]) := (hRX166.1.2.2 1 (by omega)).trans hT.1
              have h2_172 : mem148 2 = .inl (cy 0, 240, .inl f) := (hRX166.1.2.2 2 (by omega)).trans hT.2.2
              have h5_173 := hRX166.1.1.2.1
              have hbd179 := hRX166.1.1.1
              obtain ⟨S174, g175, hS_176, h220_177, h221_178⟩ := hRX166.1.1.2.2.2.2.2.2
              have hbd180 := hRX166.1.1.1
              have hce181 := (rds167.2.1 la (by omega)).1
              refine f_putN Bx hP hD hS (by omega) hce181 rfl inEl tyEl okEl nmEl 5 (by decide) kw_91 rfl rfl rfl rfl (Nat.le_of_ble_eq_true rfl) d_Rd_readSequence_51 (fun H locs hP hS => ?_)
              obtain ⟨mem182, e_mem182⟩ : ∃ z, z = va_up mem148 ((20 + 2 * la)) (.inr (2, [.int (Bx_156 228 la), .int (Bx_156 229 la), .int (Bx_156 230 la), vR ad (Bx_156 231 la), vE ad (Bx_156 232 la), .ref (ad (20 + 2 * kx149)), .ref (ad (21 + 2 * la))])) := ⟨_, rfl⟩
              have hP : va_P D vcl (fw n ad mem182) H := by rw [e_mem182]; exact hP
              have hD : va_D (Az sz) (fw n ad mem182) := fw_D hD
              have h_mem182 : mem182 ((20 + 2 * la)) = .inr (2, [.int (Bx_156 228 la), .int (Bx_156 229 la), .int (Bx_156 230 la), vR ad (Bx_156 231 la), vE ad (Bx_156 232 la), .ref (ad (20 + 2 * kx149)), .ref (ad (21 + 2 * la))]) := by rw [e_mem182, va_up_self]
              have hh183 := (va_up_ne mem148 (.inr (2, [.int (Bx_156 228 la), .int (Bx_156 229 la), .int (Bx_156 230 la), vR ad (Bx_156 231 la), vE ad (Bx_156 232 la), .ref (ad (20 + 2 * kx149)), .ref (ad (21 + 2 * la))])) (show (222 : Nat) ≠ (20 + 2 * la) by first | decide | assumption | omega)).trans h9_170
              rw [← e_mem182] at hh183
              have hh184 := (va_up_ne mem148 (.inr (2, [.int (Bx_156 228 la), .int (Bx_156 229 la), .int (Bx_156 230 la), vR ad (Bx_156 231 la), vE ad (Bx_156 232 la), .ref (ad (20 + 2 * kx149)), .ref (ad (21 + 2 * la))])) (show (1 : Nat) ≠ (20 + 2 * la) by first | decide | assumption | omega)).trans h1_171
              rw [← e_mem182] at hh184
              have hh185 := (va_up_ne mem148 (.inr (2, [.int (Bx_156 228 la), .int (Bx_156 229 la), .int (Bx_156 230 la), vR ad (Bx_156 231 la), vE ad (Bx_156 232 la), .ref (ad (20 + 2 * kx149)), .ref (ad (21 + 2 * la))])) (show (5 : Nat) ≠ (20 + 2 * la) by first | decide | assumption | omega)).trans h5_173
              rw [← e_mem182] at hh185
              have hh186 := (va_up_ne mem148 (.inr (2, [.int (Bx_156 228 la), .int (Bx_156 229 la), .int (Bx_156 230 la), vR ad (Bx_156 231 la), vE ad (Bx_156 232 la), .ref (ad (20 + 2 * kx149)), .ref (ad (21 + 2 * la))])) (show (220 : Nat) ≠ (20 + 2 * la) by first | decide | assumption | omega)).trans h220_177
              rw [← e_mem182] at hh186
              have hRX187 : RX cy ad lim (ax150) (Rx152) (Ex153) (tox158) (nx157) m0 mem182 := by rw [e_mem182]; exact hRX166.el (by omega) (hRX166.1.mk (by omega) (hRX166.1.1.upEl (by omega) (fun _ => ⟨(rds167.2.1 la (by omega)).2.1.oR ad, (rds167.2.1 la (by omega)).2.2.1.oE ad (by omega), Or.inr ⟨kx149, by omega, by omega, rfl⟩⟩)))
              have her188 : ER ad (Rx152) (Ex153) (va_up Bx_156 233 (upd (Bx_156 233) la (nI kx149))) mem182 := rds167.2.1.next (by omega) (by omega) (by omega) h_mem182 (fun i9 q9 hi9 => by rw [e_mem182]; exact va_up_ne _ _ (by omega))
              have hsr189 : SR cy ad (Sx154) (Bx_156) mem182 := ⟨(show mem182 220 = mem148 220 by rw [e_mem182]; exact va_up_ne _ _ (by omega)).trans rds167.2.2.1.1, (show mem182 221 = mem148 221 by rw [e_mem182]; exact va_up_ne _ _ (by omega)).trans rds167.2.2.1.2⟩
              obtain ⟨ft190, h9_191⟩ := hRX187.2.1
              have h1_192 : mem182 1 = .inr (0, [.ref (ad 2), .int (nI Z)]) := (hRX187.1.2.2 1 (by omega)).trans hT.1
              have h2_193 : mem182 2 = .inl (cy 0, 240, .inl f) := (hRX187.1.2.2 2 (by omega)).trans hT.2.2
              have h5_194 := hRX187.1.1.2.1
              have hbd200 := hRX187.1.1.1
              obtain ⟨S195, g196, hS_197, h220_198, h221_199⟩ := hRX187.1.1.2.2.2.2.2.2
              refine lv_aload_n Bx.1 Bx.2.1 d_Rd_readSequence_54 rfl (lv_at hl 1 rfl) ?_
              refine f_getN Bx hP (by omega) h_mem182 rfl inEl 5 (by decide) kw_91 rfl rfl d_Rd_readSequence_55 ?_
              refine lv_astore_n (lv' := [(3, .ref (ad (20 + 2 * kx149))), (4, .int (nI k9)), (2, .ref (ad (20 + 2 * Ec))), (0, .ref (ad 222)), (1, .int (4))]) Bx.1 Bx.2.1 d_Rd_readSequence_58 rfl hl (by decide) rfl (fun ls hl => ?_)
              refine lv_iinc (lv' := [(4, .int ((nI k9 + (1)))), (3, .ref (ad (20 + 2 * kx149))), (2, .ref (ad (20 + 2 * Ec))), (0, .ref (ad 222)), (1, .int (4))]) Bx.1 Bx.2.1 d_Rd_readSequence_59 hl (k := 1) rfl rfl (by decide) rfl (fun ls hl => ?_)
              rw [show (nI k9 + (1) : Int32) = nI (k9 + 1) from nI_1 (k9)] at hl
              refine lv_goto Bx.1 Bx.2.1 d_Rd_readSequence_62 rfl ?_
              have hsq3 := seq_step hsq (by omega) hlka (by omega) hsl9 rds167 h8168 ⟨by omega, by omega⟩ (by omega) (by rw [eg118]; exact go_rept hbg2 hgt2) her188 hsr189
              exact ih99 mem182 (ax150) (ux151) (Rx152) (Ex153) (Sx154) (Ax155) ((va_up Bx_156 233 (upd (Bx_156 233) la (nI kx149)))) (nx157) (tox158) (kx149) (k9 + 1) _ _ _ (by have := hmeas100; omega) (hRX187) (⟨by omega, by omega, by omega, by omega, by omega⟩) (hsq3) (hz98.trans htk165 (by omega)) hP hD hS (lv_sub hl [0, 1, 2, 3, 4] rfl)
        · subst hr137
          refine lv_if_eq Bx.1 Bx.2.1 d_Rd_readSequence_32 rfl (fun hb201 => ?_) (fun hb201 => ?_)
          · refine lv_aload_n Bx.1 Bx.2.1 d_Rd_readSequence_65 rfl (lv_at hl 2 rfl) ?_
            exact x_aret hx hb hlocks hr (⟨a1, u1, R1, E1, S1, A1, B1, n1, to1, rfl, by omega, by omega, by omega, by omega, hz98, by rw [← eg118]; exact hRX119, ⟨hsq.1.1, her135, hsr136, hsq.1.2.2.2⟩, fun z => by have := z.2; rw [← eg118] at this; omega⟩) hP hS d_Rd_readSequence_66
          · exact absurd hb201 (by decide)
  exact loop93 _ mem74 (ax42) (ux43) (Rx44) (Ex45) (Sx46) (Ax47) ((va_up Bx_48 232 (upd (Bx_48 232) Ec (nI kx41)))) (nx49) (tox50) (kx41) (0) _ _ _ (Nat.lt_succ_self _) (hRX79) (⟨by omega, by omega, by omega, by omega, by omega⟩) (hsq0) (htk57) hP hD hS (lv_sub hl [0, 1, 2, 3, 4] rfl)
set_option maxHeartbeats 4000000 in
set_option maxRecDepth 100000 in
theorem m_Rd_readAlternatives_4Y (l : Launch) {D : va_G} {cy : Nat → ClassId} {sz n : Nat} {ad : Nat → Nat} {mem : Nat → va_E} {Z a R Ec lim : Nat} {f T : Nat → Int32} {to : Nat → Int32} {nm : Nat → Int64} {m0 : Nat → va_E} {u S : Nat} {A Bw : Ro} {cq : Nat} (hlt : l.stackTraces = false) (hn : 224 ≤ n) (hT : TX cy ad Z f m0) (hf : ∀ k, k < Z → f k = T k) (hRX : RX cy ad lim a R Ec to nm m0 mem) (haB : a ≤ 300) (hER : ER ad R Ec Bw mem) (hSR : SR cy ad S Bw mem) (hSa : S ≤ a) (haZ : a ≤ Z) (hLK : LKa (Ec + 1) A) (hc : A 237 4 = nI cq) (hcl : cq ≤ Ec) (h39 : A 239 4 = -1) : NXr l D cy sz n ad y_Rd_readAlternatives c_Rd_readAlternatives 5 (some (.object "AbnfChart$Element")) ({ frames := 31, cells := 1, slots := 6, locals := 738 } : Room) mem [.ref (ad 222), .int (4)] (fun r mem' => ∃ (la a' u' R' E' S' : Nat) (A' Bw' : Ro) (nm' : Nat → Int64) (to' : Nat → Int32), r = ad (20 + 2 * Ec) ∧ Ec + 1 < E' ∧ R ≤ R' ∧ a < a' ∧ a' ≤ Z ∧ TOK R R' to to' ∧ RX cy ad lim (gapF T Z a') R' E' to' nm' m0 mem' ∧ ALI cy ad T Z 4 (seqS T Z a u R (Ec + 1) 4 A nm) cq R Ec S u A Bw la a' u' R' E' S' A' Bw' nm' mem' ∧ bgF (hereF Z T a) = true ∧ Ec < 100 ∧ ¬ hereF Z T (gapF T Z a') = 47 ∧ ¬ (bgF (hereF Z T (gapF T Z a')) = true ∧ a' < gapF T Z a')) (fun X mem' => ((X = cIA ∨ X = cIS) ∧ ∃ rc' ec' : Nat, RS cy ad lim rc' ec' m0 mem') ∧ (bgF (hereF Z T a) = false ∨ Ec = 100 ∨ (bgF (hereF Z T a) = true ∧ Ec < 100 ∧ Fai T Z (seqS T Z a u R (Ec + 1) 4 A nm)))) := by
  refine vx_ofW (cc := c_Rd_readAlternatives) (maxL := 5) (ret := (some (.object "AbnfChart$Element"))) (by decide) rfl ?_
  intro p e s m args below meth c s₁ B hml hno hv
  obtain ⟨rfl, E, hP, hD⟩ := hv
  have hx := B.exec
  have hb := B.bytes
  have hr := B.returns
  have hlocks := B.notSynchronized
  have Bx : MB p s m [.ref (ad 222), .int (4)].toArray c c_Rd_readAlternatives "AbnfChart$Reader" D cy := ⟨hx, hb, tb_all (atoms_spec B.pre) E.2.1, findClass_of_methodNamed B.named, E.1⟩
  have hS : va_S (Az sz) s.heap s.heap [] := va_S.rf
  have hl := lv_entry ([.ref (ad 222), .int (4)]) (n := 5) (Nat.le_of_ble_eq_true rfl)
  rw [lg_entry_eq]
  generalize (lg_sl ([.ref (ad 222), .int (4)]) ++ List.replicate (5 - (lg_sl ([.ref (ad 222), .int (4)])).length) Slot.unset).toArray = ls at hl ⊢
  have hl : lv_has ls 5 [(0, .ref (ad 222)), (1, .int (4))] := hl
  have hZ9 := hT.2.1
  have hbd9 := hRX.1.1.1
  have hfr0 : ∀ i, 19 ≤ i ∧ i < 222 ∧ i ≠ 20 + 2 * Ec → mem i = mem i := fun _ _ => rfl
  obtain ⟨ft1, h9_2⟩ := hRX.2.1
  have h1_3 : mem 1 = .inr (0, [.ref (ad 2), .int (nI Z)]) := (hRX.1.2.2 1 (by omega)).trans hT.1
  have h2_4 : mem 2 = .inl (cy 0, 240, .inl f) := (hRX.1.2.2 2 (by omega)).trans hT.2.2
  have h5_5 := hRX.1.1.2.1
  have hbd11 := hRX.1.1.1
  obtain ⟨S6, g7, hS_8, h220_9, h221_10⟩ := hRX.1.1.2.2.2.2.2.2
  refine lv_aload_n Bx.1 Bx.2.1 d_Rd_readAlternatives_0 rfl (lv_at hl 0 rfl) ?_
  refine lv_iconst (v := 0) Bx.1 Bx.2.1 d_Rd_readAlternatives_1 (by decide) ?_
  refine f_xVr (na := 1) (As := [.int (0)]) (rest := []) Bx hml E hP hD hS (by omega) h9_2 rfl (m_Rd_beginRowY l hlt hn hT hf hRX (by omega)) kw_409 kw_411 sel_Rd_beginRow kw_6 kw_412 (by decide +kernel) ⟨rfl, rfl⟩ ⟨Nat.le_of_ble_eq_true rfl, Nat.le_of_ble_eq_true rfl⟩ rfl hl.1 (Nat.le_of_ble_eq_true rfl) d_Rd_readAlternatives_2 ⟨Nat.le_of_ble_eq_true rfl, Nat.le_of_ble_eq_true rfl⟩ (fun X ce q9 memx H locs hx9 hP hS g1 g2 g3 => f_out hlocks hno hP hS g1 g2 g3 ⟨Nat.le_of_ble_eq_true rfl, Nat.le_of_ble_eq_true rfl⟩ ⟨hx9.1, hx9.2.elim Or.inl (fun z => Or.inr (Or.inl z))⟩) (fun r12 mem13 H locs hq hP hS => ?_)
  have hD : va_D (Az sz) (fw n ad mem13) := fw_D hD
  obtain ⟨hbg, hE9, hr9, hRXb, hclb, hfab⟩ := hq
  subst hr9
  have hfr14 : ∀ i, 19 ≤ i ∧ i < 222 ∧ i ≠ 20 + 2 * Ec → mem13 i = mem i := fun i q => (hfab i (by omega)).trans (hfr0 i q)
  obtain ⟨ft15, h9_16⟩ := hRXb.2.1
  have h1_17 : mem13 1 = .inr (0, [.ref (ad 2), .int (nI Z)]) := (hRXb.1.2.2 1 (by omega)).trans hT.1
  have h2_18 : mem13 2 = .inl (cy 0, 240, .inl f) := (hRXb.1.2.2 2 (by omega)).trans hT.2.2
  have h5_19 := hRXb.1.1.2.1
  have hbd25 := hRXb.1.1.1
  obtain ⟨S20, g21, hS_22, h220_23, h221_24⟩ := hRXb.1.1.2.2.2.2.2.2
  obtain ⟨ft26, h9_27⟩ := hRXb.2.1
  have h1_28 : mem13 1 = .inr (0, [.ref (ad 2), .int (nI Z)]) := (hRXb.1.2.2 1 (by omega)).trans hT.1
  have h2_29 : mem13 2 = .inl (cy 0, 240, .inl f) := (hRXb.1.2.2 2 (by omega)).trans hT.2.2
  have h5_30 := hRXb.1.1.2.1
  have hbd36 := hRXb.1.1.1
  obtain ⟨S31, g32, hS_33, h220_34, h221_35⟩ := hRXb.1.1.2.2.2.2.2.2
  refine lv_astore_n (lv' := [(2, .ref (ad (20 + 2 * Ec))), (0, .ref (ad 222)), (1, .int (4))]) Bx.1 Bx.2.1 d_Rd_readAlternatives_5 rfl hl (by decide) rfl (fun ls hl => ?_)
  refine lv_aload_n Bx.1 Bx.2.1 d_Rd_readAlternatives_6 rfl (lv_at hl 1 rfl) ?_
  refine lv_iload_n Bx.1 Bx.2.1 d_Rd_readAlternatives_7 rfl (lv_at hl 2 rfl) ?_
  have her37 : ER ad R (Ec + 1) (bwN Bw Ec 0 (0) (0) (-1) (-1) (-1) (Bw 234)) mem13 := hER.new (Nat.le_refl _) (by rw [vR_m]; exact hclb) (Or.inl rfl) (fun i9 hi9 => hfr14 (20 + 2 * i9) (by omega))
  have hsr38 : SR cy ad S (bwN Bw Ec 0 (0) (0) (-1) (-1) (-1) (Bw 234)) mem13 := ⟨(hfr14 220 (by omega)).trans hSR.1, (hfr14 221 (by omega)).trans hSR.2⟩
  refine f_xVr (na := 1) (As := [.int (4)]) (rest := []) Bx hml E hP hD hS (by omega) h9_27 rfl (m_Rd_readSequence_4Y l hlt hn hT hf hRXb (by omega) (u := u) (A := A) her37 hsr38 (by omega) (by omega) hLK hc (by omega) h39) kw_435 kw_437 sel_Rd_readSequence kw_6 kw_438 (by decide +kernel) ⟨rfl, rfl⟩ ⟨Nat.le_of_ble_eq_true rfl, Nat.le_of_ble_eq_true rfl⟩ rfl hl.1 (Nat.le_of_ble_eq_true rfl) d_Rd_readAlternatives_8 ⟨Nat.le_of_ble_eq_true rfl, Nat.le_of_ble_eq_true rfl⟩ (fun X ce q9 memx H locs hx9 hP hS g1 g2 g3 => f_out hlocks hno hP hS g1 g2 g3 ⟨Nat.le_of_ble_eq_true rfl, Nat.le_of_ble_eq_true rfl⟩ ⟨hx9.1, Or.inr (Or.inr ⟨hbg, hE9, hx9.2⟩)⟩) (fun r39 mem40 H locs hq hP hS => ?_)
  have hD : va_D (Az sz) (fw n ad mem40) := fw_D hD
  obtain ⟨ax41, ux42, Rx43, Ex44, Sx45, Ax46, Bx_47, nx48, tox49, hr950, h251, h352, h453, h554, htk55, hRX56, rds57, hnb58⟩ := hq
  subst hr950
  obtain ⟨g59, eg60⟩ : ∃ z, z = gapF T Z ax41 := ⟨_, rfl⟩
  have hg61 : ax41 ≤ g59 := by rw [eg60]; exact gapF_ge T Z _
  have hg62 : g59 ≤ Z := by rw [eg60]; exact gapF_le T (by omega)
  rw [← eg60] at hRX56
  obtain ⟨ft63, h9_64⟩ := hRX56.2.1
  have h1_65 : mem40 1 = .inr (0, [.ref (ad 2), .int (nI Z)]) := (hRX56.1.2.2 1 (by omega)).trans hT.1
  have h2_66 : mem40 2 = .inl (cy 0, 240, .inl f) := (hRX56.1.2.2 2 (by omega)).trans hT.2.2
  have h5_67 := hRX56.1.1.2.1
  have hbd73 := hRX56.1.1.1
  obtain ⟨S68, g69, hS_70, h220_71, h221_72⟩ := hRX56.1.1.2.2.2.2.2.2
  have hbd74 := hRX56.1.1.1
  refine lv_astore_n (lv' := [(3, .ref (ad (20 + 2 * (Ec + 1)))), (2, .ref (ad (20 + 2 * Ec))), (0, .ref (ad 222)), (1, .int (4))]) Bx.1 Bx.2.1 d_Rd_readAlternatives_11 rfl hl (by decide) rfl (fun ls hl => ?_)
  refine lv_aload_n Bx.1 Bx.2.1 d_Rd_readAlternatives_12 rfl (lv_at hl 1 rfl) ?_
  refine lv_aload_n Bx.1 Bx.2.1 d_Rd_readAlternatives_13 rfl (lv_at hl 0 rfl) ?_
  have hce75 := (rds57.2.1 Ec (by omega)).1
  refine f_putN Bx hP hD hS (by omega) hce75 rfl inEl tyEl okEl nmEl 4 (by decide) kw_87 rfl rfl rfl rfl (Nat.le_of_ble_eq_true rfl) d_Rd_readAlternatives_14 (fun H locs hP hS => ?_)
  obtain ⟨mem76, e_mem76⟩ : ∃ z, z = va_up mem40 ((20 + 2 * Ec)) (.inr (2, [.int (Bx_47 228 Ec), .int (Bx_47 229 Ec), .int (Bx_47 230 Ec), vR ad (Bx_47 231 Ec), .ref (ad (20 + 2 * (Ec + 1))), vE ad (Bx_47 233 Ec), .ref (ad (21 + 2 * Ec))])) := ⟨_, rfl⟩
  have hP : va_P D vcl (fw n ad mem76) H := by rw [e_mem76]; exact hP
  have hD : va_D (Az sz) (fw n ad mem76) := fw_D hD
  have h_mem76 : mem76 ((20 + 2 * Ec)) = .inr (2, [.int (Bx_47 228 Ec), .int (Bx_47 229 Ec), .int (Bx_47 230 Ec), vR ad (Bx_47 231 Ec), .ref (ad (20 + 2 * (Ec + 1))), vE ad (Bx_47 233 Ec), .ref (ad (21 + 2 * Ec))]) := by rw [e_mem76, va_up_self]
  have hh77 := (va_up_ne mem40 (.inr (2, [.int (Bx_47 228 Ec), .int (Bx_47 229 Ec), .int (Bx_47 230 Ec), vR ad (Bx_47 231 Ec), .ref (ad (20 + 2 * (Ec + 1))), vE ad (Bx_47 233 Ec), .ref (ad (21 + 2 * Ec))])) (show (222 : Nat) ≠ (20 + 2 * Ec) by first | decide | assumption | omega)).trans h9_64
  rw [← e_mem76] at hh77
  have hh78 := (va_up_ne mem40 (.inr (2, [.int (Bx_47 228 Ec), .int (Bx_47 229 Ec), .int (Bx_47 230 Ec), vR ad (Bx_47 231 Ec), .ref (ad (20 + 2 * (Ec + 1))), vE ad (Bx_47 233 Ec), .ref (ad (21 + 2 * Ec))])) (show (1 : Nat) ≠ (20 + 2 * Ec) by first | decide | assumption | omega)).trans h1_65
  rw [← e_mem76] at hh78
  have hh79 := (va_up_ne mem40 (.inr (2, [.int (Bx_47 228 Ec), .int (Bx_47 229 Ec), .int (Bx_47 230 Ec), vR ad (Bx_47 231 Ec), .ref (ad (20 + 2 * (Ec + 1))), vE ad (Bx_47 233 Ec), .ref (ad (21 + 2 * Ec))])) (show (5 : Nat) ≠ (20 + 2 * Ec) by first | decide | assumption | omega)).trans h5_67
  rw [← e_mem76] at hh79
  have hh80 := (va_up_ne mem40 (.inr (2, [.int (Bx_47 228 Ec), .int (Bx_47 229 Ec), .int (Bx_47 230 Ec), vR ad (Bx_47 231 Ec), .ref (ad (20 + 2 * (Ec + 1))), vE ad (Bx_47 233 Ec), .ref (ad (21 + 2 * Ec))])) (show (220 : Nat) ≠ (20 + 2 * Ec) by first | decide | assumption | omega)).trans h220_71
  rw [← e_mem76] at hh80
  have hRX81 : RX cy ad lim (g59) (Rx43) (Ex44) (tox49) (nx48) m0 mem76 := by rw [e_mem76]; exact hRX56.el (by omega) (hRX56.1.mk (by omega) (hRX56.1.1.upEl (by omega) (fun _ => ⟨(rds57.2.1 Ec (by omega)).2.1.oR ad, Or.inr ⟨(Ec + 1), by omega, by omega, rfl⟩, (rds57.2.1 Ec (by omega)).2.2.2.oE ad (by omega)⟩)))
  have her82 : ER ad (Rx43) (Ex44) (va_up Bx_47 232 (upd (Bx_47 232) Ec (nI (Ec + 1)))) mem76 := rds57.2.1.part (by omega) (by omega) (by omega) h_mem76 (fun i9 q9 hi9 => by rw [e_mem76]; exact va_up_ne _ _ (by omega))
  have hsr83 : SR cy ad (Sx45) (Bx_47) mem76 := ⟨(show mem76 220 = mem40 220 by rw [e_mem76]; exact va_up_ne _ _ (by omega)).trans rds57.2.2.1.1, (show mem76 221 = mem40 221 by rw [e_mem76]; exact va_up_ne _ _ (by omega)).trans rds57.2.2.1.2⟩
  obtain ⟨ft84, h9_85⟩ := hRX81.2.1
  have h1_86 : mem76 1 = .inr (0, [.ref (ad 2), .int (nI Z)]) := (hRX81.1.2.2 1 (by omega)).trans hT.1
  have h2_87 : mem76 2 = .inl (cy 0, 240, .inl f) := (hRX81.1.2.2 2 (by omega)).trans hT.2.2
  have h5_88 := hRX81.1.1.2.1
  have hbd94 := hRX81.1.1.1
  obtain ⟨S89, g90, hS_91, h220_92, h221_93⟩ := hRX81.1.1.2.2.2.2.2.2
  refine lv_iconst (v := 0) Bx.1 Bx.2.1 d_Rd_readAlternatives_17 (by decide) ?_
  refine lv_istore (lv' := [(4, .int (0)), (3, .ref (ad (20 + 2 * (Ec + 1)))), (2, .ref (ad (20 + 2 * Ec))), (0, .ref (ad 222)), (1, .int (4))]) Bx.1 Bx.2.1 d_Rd_readAlternatives_18 hl (by decide) rfl (fun ls hl => ?_)
  have hal0 := alt_first hLK hE9 hcl rds57 (by omega) (by omega) her82 hsr83
  have loop95 : ∀ (d96 : Nat) (mem9 : Nat → va_E) (a1 : Nat) (u1 : Nat) (R1 : Nat) (E1 : Nat) (S1 : Nat) (A1 : Ro) (B1 : Ro) (n1 : Nat → Int64) (to1 : Nat → Int32) (la : Nat) (k9 : Nat) (ls : Array Slot) (H : Heap) (locs : List Loc), (240 - k9 < d96) → (RX cy ad lim (gapF T Z a1) R1 E1 to1 n1 m0 mem9) → (a < a1 ∧ a1 ≤ Z ∧ R ≤ R1 ∧ k9 < a1 ∧ k9 ≤ 240) → (ALI cy ad T Z 4 (seqS T Z a u R (Ec + 1) 4 A nm) cq R Ec S u A Bw la a1 u1 R1 E1 S1 A1 B1 n1 mem9) → (TOK R R1 to to1) → (¬ (bgF (hereF Z T (gapF T Z a1)) = true ∧ a1 < gapF T Z a1)) → (va_P D vcl (fw n ad mem9) H) → (va_D (Az sz) (fw n ad mem9)) → (va_S (Az sz) s.heap H locs) → (lv_has ls 5 [(4, .int (nI k9)), (3, .ref (ad (20 + 2 * la))), (2, .ref (ad (20 + 2 * Ec))), (0, .ref (ad 222)), (1, .int (4))]) → W p l e (headSpec (Cond.code y_Rd_readAlternatives c_Rd_readAlternatives 5 (some (.object "AbnfChart$Element")) :: tg) ({ frames := 31, cells := 1, slots := 6, locals := 738 } : Room)).room s m [.ref (ad 222), .int (4)].toArray below meth c H locs 0 0 (vx_MQ below (QX (QR (fun r mem' => ∃ (la a' u' R' E' S' : Nat) (A' Bw' : Ro) (nm' : Nat → Int64) (to' : Nat → Int32), r = ad (20 + 2 * Ec) ∧ Ec + 1 < E' ∧ R ≤ R' ∧ a < a' ∧ a' ≤ Z ∧ TOK R R' to to' ∧ RX cy ad lim (gapF T Z a') R' E' to' nm' m0 mem' ∧ ALI cy ad T Z 4 (seqS T Z a u R (Ec + 1) 4 A nm) cq R Ec S u A Bw la a' u' R' E' S' A' Bw' nm' mem' ∧ bgF (hereF Z T a) = true ∧ Ec < 100 ∧ ¬ hereF Z T (gapF T Z a') = 47 ∧ ¬ (bgF (hereF Z T (gapF T Z a')) = true ∧ a' < gapF T Z a')) (PP D n ad) (Az sz))) (XQ D sz n ad (fun X mem' => ((X = cIA ∨ X = cIS) ∧ ∃ rc' ec' : Nat, RS cy ad lim rc' ec' m0 mem') ∧ (bgF (hereF Z T a) = false ∨ Ec = 100 ∨ (bgF (hereF Z T a) = true ∧ Ec < 100 ∧ Fai T Z (seqS T Z a u R (Ec + 1) 4 A nm))))) [.ref (ad 222), .int (4)].toArray s 1 6 (Az sz)) (F0 m 20 ls []) := by
    intro d96
    induction d96 with
    | zero => intro mem9 a1 u1 R1 E1 S1 A1 B1 n1 to1 la k9 ls H locs hmeas103; exact absurd hmeas103 (Nat.not_lt_zero _)
    | succ d96 ih102 =>
      intro mem9 a1 u1 R1 E1 S1 A1 B1 n1 to1 la k9 ls H locs hmeas103 hz97 hz98 hz99 hz100 hz101 hP hD hS hl
      obtain ⟨g1, eg1⟩ : ∃ z, z = gapF T Z a1 := ⟨_, rfl⟩
      rw [← eg1] at hz97
      have hge1 : a1 ≤ g1 := by rw [eg1]; exact gapF_ge T Z _
      have hbd8 := hz98
      have hle1 : g1 ≤ Z := by rw [eg1]; exact gapF_le T (by omega)
      have hal := hz99
      have hbdE := hz97.1.1.1
      have hla := hal.2.2.2.2.2.2.2.2.2.2
      have hSa1 := hal.2.2.2.1.2.1
      have hlka := ali_lka hal hLK hE9 hcl
      obtain ⟨ft104, h9_105⟩ := hz97.2.1
      have h1_106 : mem9 1 = .inr (0, [.ref (ad 2), .int (nI Z)]) := (hz97.1.2.2 1 (by omega)).trans hT.1
      have h2_107 : mem9 2 = .inl (cy 0, 240, .inl f) := (hz97.1.2.2 2 (by omega)).trans hT.2.2
      have h5_108 := hz97.1.1.2.1
      have hbd114 := hz97.1.1.1
      obtain ⟨S109, g110, hS_111, h220_112, h221_113⟩ := hz97.1.1.2.2.2.2.2.2
      refine lv_iload Bx.1 Bx.2.1 d_Rd_readAlternatives_20 (lv_at hl 0 rfl) ?_
      refine lv_sipush (v := 240) Bx.1 Bx.2.1 d_Rd_readAlternatives_22 (by decide) ?_
      refine lv_icmp_ge Bx.1 Bx.2.1 d_Rd_readAlternatives_25 rfl (fun hb115 => ?_) (fun hb115 => ?_)
      · have hN116 : 240 ≤ k9 := (nI_leI (by omega) (by omega)).mp (show nI (240) ≤ nI (k9) from hb115)
        exact absurd hbd8 (by omega)
      · have hN117 : ¬ 240 ≤ k9 := fun q9 => hb115 (show nI (240) ≤ nI (k9) from (nI_leI (by omega) (by omega)).mpr q9)
        refine lv_aload_n Bx.1 Bx.2.1 d_Rd_readAlternatives_28 rfl (lv_at hl 3 rfl) ?_
        refine f_callVi (na := 0) (As := []) (rest := []) Bx hml E hP hD hS (by omega) h9_105 rfl (m_Rd_peekX l hn hT hf hz97 (by omega)) kw_353 kw_355 sel_Rd_peek kw_6 kw_356 (by decide +kernel) ⟨rfl, rfl⟩ ⟨Nat.le_of_ble_eq_true rfl, Nat.le_of_ble_eq_true rfl⟩ rfl hl.1 (Nat.le_of_ble_eq_true rfl) d_Rd_readAlternatives_29 ⟨Nat.le_of_ble_eq_true rfl, Nat.le_of_ble_eq_true rfl⟩ (fun r119 mem120 H locs hq hP hS => ?_)
        have hD : va_D (Az sz) (fw n ad mem120) := fw_D hD
        obtain ⟨hqe, hpk118⟩ := hq
        rw [hqe] at hP hD
        subst hpk118
        refine lv_bipush (v := 47) Bx.1 Bx.2.1 d_Rd_readAlternatives_32 (by decide) ?_
        refine lv_icmp_ne Bx.1 Bx.2.1 d_Rd_readAlternatives_34 rfl (fun hb122 => ?_) (fun hb122 => ?_)
        · refine lv_aload_n Bx.1 Bx.2.1 d_Rd_readAlternatives_72 rfl (lv_at hl 2 rfl) ?_
          exact x_aret hx hb hlocks hr (⟨la, a1, u1, R1, E1, S1, A1, B1, n1, to1, rfl, by omega, by omega, by omega, by omega, hz100, by rw [← eg1]; exact hz97, hal, hbg, hE9, by rw [← eg1]; exact hb122, hz101⟩) hP hS d_Rd_readAlternatives_73
        · have hlt123 := hereF_lt (by rw [hb122]; decide)
          have h47 : hereF Z T (gapF T Z a1) = 47 := by rw [← eg1]; exact hb122
          have h237 : A1 237 4 = nI cq := hal.2.2.2.2.2.2.2.2.1.2.2.1.trans hc
          have h239 : A1 239 4 = -1 := hal.2.2.2.2.2.2.2.2.1.2.2.2
          refine lv_aload_n Bx.1 Bx.2.1 d_Rd_readAlternatives_37 rfl (lv_at hl 3 rfl) ?_
          refine lv_dup Bx.1 Bx.2.1 d_Rd_readAlternatives_38 rfl ?_
          refine f_get Bx hP (by omega) h9_105 rfl inRd 2 (by decide) kw_146 rfl rfl d_Rd_readAlternatives_39 ?_
          refine lv_iconst (v := 1) Bx.1 Bx.2.1 d_Rd_readAlternatives_42 (by decide) ?_
          refine lv_iadd Bx.1 Bx.2.1 d_Rd_readAlternatives_43 ?_
          rw [show nI g1 + 1 = nI (g1 + 1) from nI_add (g1) (1)]
          refine f_put Bx hP hD hS (by omega) h9_105 rfl inRd tyRd okRd nmRd 2 (by decide) kw_146 rfl rfl rfl rfl (Nat.le_of_ble_eq_true rfl) d_Rd_readAlternatives_44 (fun H locs hP hS => ?_)
          obtain ⟨mem124, e_mem124⟩ : ∃ z, z = va_up mem9 (222) (.inr (4, [.ref (ad 1), .ref (ad 5), .int (nI (g1 + 1)), .int (ft104)])) := ⟨_, rfl⟩
          have hP : va_P D vcl (fw n ad mem124) H := by rw [e_mem124]; exact hP
          have hD : va_D (Az sz) (fw n ad mem124) := fw_D hD
          have h_mem124 : mem124 (222) = .inr (4, [.ref (ad 1), .ref (ad 5), .int (nI (g1 + 1)), .int (ft104)]) := by rw [e_mem124, va_up_self]
          have hh125 := (va_up_ne mem9 (.inr (4, [.ref (ad 1), .ref (ad 5), .int (nI (g1 + 1)), .int (ft104)])) (show (1 : Nat) ≠ 222 by first | decide | assumption | omega)).trans h1_106
          rw [← e_mem124] at hh125
          have hh126 := (va_up_ne mem9 (.inr (4, [.ref (ad 1), .ref (ad 5), .int (nI (g1 + 1)), .int (ft104)])) (show (5 : Nat) ≠ 222 by first | decide | assumption | omega)).trans h5_108
          rw [← e_mem124] at hh126
          have hh127 := (va_up_ne mem9 (.inr (4, [.ref (ad 1), .ref (ad 5), .int (nI (g1 + 1)), .int (ft104)])) (show (220 : Nat) ≠ 222 by first | decide | assumption | omega)).trans h220_112
          rw [← e_mem124] at hh127
          have her128 : ER ad (R1) (E1) (B1) mem124 := hal.2.1.fr (Nat.le_refl _) (fun i9 hi9 => by rw [e_mem124]; exact va_up_ne _ _ (by omega))
          have hsr129 : SR cy ad (S1) (B1) mem124 := ⟨(show mem124 220 = _ from by rw [e_mem124]; exact va_up_ne _ _ (by omega)).trans hal.2.2.1.1, (show mem124 221 = _ from by rw [e_mem124]; exact va_up_ne _ _ (by omega)).trans hal.2.2.1.2⟩
          have hRX130 : RX cy ad lim (g1 + 1) (R1) (E1) (to1) (n1) m0 mem124 := by rw [e_mem124]; exact hz97.at
          refine lv_aload_n Bx.1 Bx.2.1 d_Rd_readAlternatives_47 rfl (lv_at hl 3 rfl) ?_
          refine f_callVi (na := 0) (As := []) (rest := []) Bx hml E hP hD hS (by omega) h_mem124 rfl (m_Rd_readGapY l hn hT hf hRX130 (by omega) (by omega)) kw_397 kw_399 sel_Rd_readGap kw_6 kw_400 (by decide +kernel) ⟨rfl, rfl⟩ ⟨Nat.le_of_ble_eq_true rfl, Nat.le_of_ble_eq_true rfl⟩ rfl hl.1 (Nat.le_of_ble_eq_true rfl) d_Rd_readAlternatives_48 ⟨Nat.le_of_ble_eq_true rfl, Nat.le_of_ble_eq_true rfl⟩ (fun r131 mem132 H locs hq hP hS => ?_)
          have hD : va_D (Az sz) (fw n ad mem132) := fw_D hD
          obtain ⟨g133, eg134⟩ : ∃ z, z = gapF T Z (g1 + 1) := ⟨_, rfl⟩
          rw [← eg134] at hq
          obtain ⟨hRX135, hgc136, hfa137⟩ := hq
          have hg138 : g1 + 1 ≤ g133 := by rw [eg134]; exact gapF_ge T Z _
          have hg139 : g133 ≤ Z := by rw [eg134]; exact gapF_le T (by omega)
          obtain ⟨ft140, h9_141⟩ := hRX135.2.1
          have h1_142 : mem132 1 = .inr (0, [.ref (ad 2), .int (nI Z)]) := (hRX135.1.2.2 1 (by omega)).trans hT.1
          have h2_143 : mem132 2 = .inl (cy 0, 240, .inl f) := (hRX135.1.2.2 2 (by omega)).trans hT.2.2
          have h5_144 := hRX135.1.1.2.1
          have hbd150 := hRX135.1.1.1
          obtain ⟨S145, g146, hS_147, h220_148, h221_149⟩ := hRX135.1.1.2.2.2.2.2.2
          have her151 : ER ad (R1) (E1) (B1) mem132 := her128.fr (Nat.le_refl _) (fun i9 hi9 => hfa137 _ (by omega))
          have hsr152 : SR cy ad (S1) (B1) mem132 := ⟨(show mem132 220 = _ from hfa137 _ (by omega)).trans hsr129.1, (show mem132 221 = _ from hfa137 _ (by omega)).trans hsr129.2⟩
          refine lv_pop Bx.1 Bx.2.1 d_Rd_readAlternatives_51 rfl ?_
          refine lv_aload_n Bx.1 Bx.2.1 d_Rd_readAlternatives_52 rfl (lv_at hl 1 rfl) ?_
          refine lv_aload_n Bx.1 Bx.2.1 d_Rd_readAlternatives_53 rfl (lv_at hl 3 rfl) ?_
          refine lv_iload_n Bx.1 Bx.2.1 d_Rd_readAlternatives_54 rfl (lv_at hl 4 rfl) ?_
          refine f_xVr (na := 1) (As := [.int (4)]) (rest := [.ref (ad (20 + 2 * la))]) Bx hml E hP hD hS (by omega) h9_141 rfl (m_Rd_readSequence_4Y l hlt hn hT hf hRX135 (by omega) (u := u1) (A := A1) her151 hsr152 (by omega) (by omega) hlka h237 (by omega) h239) kw_435 kw_437 sel_Rd_readSequence kw_6 kw_438 (by decide +kernel) ⟨rfl, rfl⟩ ⟨Nat.le_of_ble_eq_true rfl, Nat.le_of_ble_eq_true rfl⟩ rfl hl.1 (Nat.le_of_ble_eq_true rfl) d_Rd_readAlternatives_55 ⟨Nat.le_of_ble_eq_true rfl, Nat.le_of_ble_eq_true rfl⟩ (fun X ce q9 memx H locs hx9 hP hS g1 g2 g3 => f_out hlocks hno hP hS g1 g2 g3 ⟨Nat.le_of_ble_eq_true rfl, Nat.le_of_ble_eq_true rfl⟩ ⟨hx9.1, Or.inr (Or.inr ⟨hbg, hE9, hal.1.fai (go_sl h47) (by rw [← eg1, ← eg134]; exact hx9.2)⟩)⟩) (fun r153 mem154 H locs hq hP hS => ?_)
          have hD : va_D (Az sz) (fw n ad mem154) := fw_D hD
          obtain ⟨ax155, ux156, Rx157, Ex158, Sx159, Ax160, Bx_161, nx162, tox163, hr9164, h2165, h3166, h4167, h5168, htk169, hRX170, rds171, hnb172⟩ := hq
          subst hr9164
          obtain ⟨g173, eg174⟩ : ∃ z, z = gapF T Z ax155 := ⟨_, rfl⟩
          have hg175 : ax155 ≤ g173 := by rw [eg174]; exact gapF_ge T Z _
          have hg176 : g173 ≤ Z := by rw [eg174]; exact gapF_le T (by omega)
          rw [← eg174] at hRX170
          obtain ⟨ft177, h9_178⟩ := hRX170.2.1
          have h1_179 : mem154 1 = .inr (0, [.ref (ad 2), .int (nI Z)]) := (hRX170.1.2.2 1 (by omega)).trans hT.1
          have h2_180 : mem154 2 = .inl (cy 0, 240, .inl f) := (hRX170.1.2.2 2 (by omega)).trans hT.2.2
          have h5_181 := hRX170.1.1.2.1
          have hbd187 := hRX170.1.1.1
          obtain ⟨S182, g183, hS_184, h220_185, h221_186⟩ := hRX170.1.1.2.2.2.2.2.2
          have hbd188 := hRX170.1.1.1
          have hce189 := (rds171.2.1 la (by omega)).1
          refine f_putN Bx hP hD hS (by omega) hce189 rfl inEl tyEl okEl nmEl 5 (by decide) kw_91 rfl rfl rfl rfl (Nat.le_of_ble_eq_true rfl) d_Rd_readAlternatives_58 (fun H locs hP hS => ?_)
          obtain ⟨mem190, e_mem190⟩ : ∃ z, z = va_up mem154 ((20 + 2 * la)) (.inr (2, [.int (Bx_161 228 la), .int (Bx_161 229 la), .int (Bx_161 230 la), vR ad (Bx_161 231 la), vE ad (Bx_161 232 la), .ref (ad (20 + 2 * E1)), .ref (ad (21 + 2 * la))])) := ⟨_, rfl⟩
          have hP : va_P D vcl (fw n ad mem190) H := by rw [e_mem190]; exact hP
          have hD : va_D (Az sz) (fw n ad mem190) := fw_D hD
          have h_mem190 : mem190 ((20 + 2 * la)) = .inr (2, [.int (Bx_161 228 la), .int (Bx_161 229 la), .int (Bx_161 230 la), vR ad (Bx_161 231 la), vE ad (Bx_161 232 la), .ref (ad (20 + 2 * E1)), .ref (ad (21 + 2 * la))]) := by rw [e_mem190, va_up_self]
          have hh191 := (va_up_ne mem154 (.inr (2, [.int (Bx_161 228 la), .int (Bx_161 229 la), .int (Bx_161 230 la), vR ad (Bx_161 231 la), vE ad (Bx_161 232 la), .ref (ad (20 + 2 * E1)), .ref (ad (21 + 2 * la))])) (show (222 : Nat) ≠ (20 + 2 * la) by first | decide | assumption | omega)).trans h9_178
          rw [← e_mem190] at hh191
          have hh192 := (va_up_ne mem154 (.inr (2, [.int (Bx_161 228 la), .int (Bx_161 229 la), .int (Bx_161 230 la), vR ad (Bx_161 231 la), vE ad (Bx_161 232 la), .ref (ad (20 + 2 * E1)), .ref (ad (21 + 2 * la))])) (show (1 : Nat) ≠ (20 + 2 * la) by first | decide | assumption | omega)).trans h1_179
          rw [← e_mem190] at hh192
          have hh193 := (va_up_ne mem154 (.inr (2, [.int (Bx_161 228 la), .int (Bx_161 229 la), .int (Bx_161 230 la), vR ad (Bx_161 231 la), vE ad (Bx_161 232 la), .ref (ad (20 + 2 * E1)), .ref (ad (21 + 2 * la))])) (show (5 : Nat) ≠ (20 + 2 * la) by first | decide | assumption | omega)).trans h5_181
          rw [← e_mem190] at hh193
          have hh194 := (va_up_ne mem154 (.inr (2, [.int (Bx_161 228 la), .int (Bx_161 229 la), .int (Bx_161 230 la), vR ad (Bx_161 231 la), vE ad (Bx_161 232 la), .ref (ad (20 + 2 * E1)), .ref (ad (21 + 2 * la))])) (show (220 : Nat) ≠ (20 + 2 * la) by first | decide | assumption | omega)).trans h220_185
          rw [← e_mem190] at hh194
          have hRX195 : RX cy ad lim (g173) (Rx157) (Ex158) (tox163) (nx162) m0 mem190 := by rw [e_mem190]; exact hRX170.el (by omega) (hRX170.1.mk (by omega) (hRX170.1.1.upEl (by omega) (fun _ => ⟨(rds171.2.1 la (by omega)).2.1.oR ad, (rds171.2.1 la (by omega)).2.2.1.oE ad (by omega), Or.inr ⟨E1, by omega, by omega, rfl⟩⟩)))
          have her196 : ER ad (Rx157) (Ex158) (va_up Bx_161 233 (upd (Bx_161 233) la (nI E1))) mem190 := rds171.2.1.next (by omega) (by omega) (by omega) h_mem190 (fun i9 q9 hi9 => by rw [e_mem190]; exact va_up_ne _ _ (by omega))
          have hsr197 : SR cy ad (Sx159) (Bx_161) mem190 := ⟨(show mem190 220 = mem154 220 by rw [e_mem190]; exact va_up_ne _ _ (by omega)).trans rds171.2.2.1.1, (show mem190 221 = mem154 221 by rw [e_mem190]; exact va_up_ne _ _ (by omega)).trans rds171.2.2.1.2⟩
          obtain ⟨ft198, h9_199⟩ := hRX195.2.1
          have h1_200 : mem190 1 = .inr (0, [.ref (ad 2), .int (nI Z)]) := (hRX195.1.2.2 1 (by omega)).trans hT.1
          have h2_201 : mem190 2 = .inl (cy 0, 240, .inl f) := (hRX195.1.2.2 2 (by omega)).trans hT.2.2
          have h5_202 := hRX195.1.1.2.1
          have hbd208 := hRX195.1.1.1
          obtain ⟨S203, g204, hS_205, h220_206, h221_207⟩ := hRX195.1.1.2.2.2.2.2.2
          refine lv_aload_n Bx.1 Bx.2.1 d_Rd_readAlternatives_61 rfl (lv_at hl 1 rfl) ?_
          refine f_getN Bx hP (by omega) h_mem190 rfl inEl 5 (by decide) kw_91 rfl rfl d_Rd_readAlternatives_62 ?_
          refine lv_astore_n (lv' := [(3, .ref (ad (20 + 2 * E1))), (4, .int (nI k9)), (2, .ref (ad (20 + 2 * Ec))), (0, .ref (ad 222)), (1, .int (4))]) Bx.1 Bx.2.1 d_Rd_readAlternatives_65 rfl hl (by decide) rfl (fun ls hl => ?_)
          refine lv_iinc (lv' := [(4, .int ((nI k9 + (1)))), (3, .ref (ad (20 + 2 * E1))), (2, .ref (ad (20 + 2 * Ec))), (0, .ref (ad 222)), (1, .int (4))]) Bx.1 Bx.2.1 d_Rd_readAlternatives_66 hl (k := 1) rfl rfl (by decide) rfl (fun ls hl => ?_)
          rw [show (nI k9 + (1) : Int32) = nI (k9 + 1) from nI_1 (k9)] at hl
          refine lv_goto Bx.1 Bx.2.1 d_Rd_readAlternatives_69 rfl ?_
          have hal3 := alt_step hal (by omega) hLK hlka (by omega) hcl rds171 (by omega) (by omega) (by rw [eg134, eg1]; exact go_sl h47) her196 hsr197
          exact ih102 mem190 (ax155) (ux156) (Rx157) (Ex158) (Sx159) (Ax160) ((va_up Bx_161 233 (upd (Bx_161 233) la (nI E1)))) (nx162) (tox163) (E1) (k9 + 1) _ _ _ (by have := hmeas103; omega) (by rw [← eg174]; exact hRX195) (⟨by omega, by omega, by omega, by omega, by omega⟩) (hal3) (hz100.trans htk169 (by omega)) (hnb172) hP hD hS (lv_sub hl [0, 1, 2, 3, 4] rfl)
  exact loop95 _ mem76 (ax41) (ux42) (Rx43) (Ex44) (Sx45) (Ax46) ((va_up Bx_47 232 (upd (Bx_47 232) Ec (nI (Ec + 1))))) (nx48) (tox49) (Ec + 1) (0) _ _ _ (Nat.lt_succ_self _) (by rw [← eg60]; exact hRX81) (⟨by omega, by omega, by omega, by omega, by omega⟩) (hal0) (htk55) (hnb58) hP hD hS (lv_sub hl [0, 1, 2, 3, 4] rfl)
set_option maxHeartbeats 4000000 in
set_option maxRecDepth 100000 in
theorem m_Rd_readBracket_3Y (l : Launch) {D : va_G} {cy : Nat → ClassId} {sz n : Nat} {ad : Nat → Nat} {mem : Nat → va_E} {Z a R Ec lim : Nat} {f T : Nat → Int32} {to : Nat → Int32} {nm : Nat → Int64} {m0 : Nat → va_E} {u S : Nat} {A Bw : Ro} {what oe en : Int32} (hlt : l.stackTraces = false) (hn : 224 ≤ n) (hT : TX cy ad Z f m0) (hf : ∀ k, k < Z → f k = T k) (hRX : RX cy ad lim a R Ec to nm m0 mem) (haB : a ≤ 300) (hER : ER ad R Ec Bw mem) (hSR : SR cy ad S Bw mem) (hSa : S ≤ a) (haZ : a < Z) (hwe : (what = 1 ∧ en = 41) ∨ (what = 2 ∧ en = 93)) (hLK : LKa Ec A) : NXr l D cy sz n ad y_Rd_readBracket c_Rd_readBracket 4 (some (.object "AbnfChart$Element")) ({ frames := 32, cells := 1, slots := 6, locals := 770 } : Room) mem [.ref (ad 222), .int (3), .int (en)] (fun r mem' => ∃ (la a1 u1 R1 E1 S1 : Nat) (A9 B9 : Ro) (nm1 : Nat → Int64) (to1 : Nat → Int32), r = ad (20 + 2 * Ec) ∧ Ec + 1 < E1 ∧ R ≤ R1 ∧ a + 1 < a1 ∧ gapF T Z a1 + 1 ≤ Z ∧ TOK R R1 to to1 ∧ RX cy ad lim (gapF T Z a1 + 1) R1 E1 to1 nm1 m0 mem' ∧ ALI cy ad T Z 4 (seqS T Z (gapF T Z (a + 1)) u R (Ec + 1) 4 (entA A 4 Ec what oe) nm) Ec R Ec S u (entA A 4 Ec what oe) Bw la a1 u1 R1 E1 S1 A9 B9 nm1 mem' ∧ hereF Z T (gapF T Z a1) = en ∧ entS T Z (a + 1) u R Ec 4 A nm what oe = some (gapF T Z (a + 1), u, R, Ec + 1, 4, (entA A 4 Ec what oe), nm, true)) (fun X mem' => ((X = cIA ∨ X = cIS) ∧ ∃ rc' ec' : Nat, RS cy ad lim rc' ec' m0 mem') ∧ (Fai T Z (entS T Z (a + 1) u R Ec 4 A nm what oe))) := by
  refine vx_ofW (cc := c_Rd_readBracket) (maxL := 4) (ret := (some (.object "AbnfChart$Element"))) (by decide) rfl ?_
  intro p e s m args below meth c s₁ B hml hno hv
  obtain ⟨rfl, E, hP, hD⟩ := hv
  have hx := B.exec
  have hb := B.bytes
  have hr := B.returns
  have hlocks := B.notSynchronized
  have Bx : MB p s m [.ref (ad 222), .int (3), .int (en)].toArray c c_Rd_readBracket "AbnfChart$Reader" D cy := ⟨hx, hb, tb_all (atoms_spec B.pre) E.2.1, findClass_of_methodNamed B.named, E.1⟩
  have hS : va_S (Az sz) s.heap s.heap [] := va_S.rf
  have hl := lv_entry ([.ref (ad 222), .int (3), .int (en)]) (n := 4) (Nat.le_of_ble_eq_true rfl)
  rw [lg_entry_eq]
  generalize (lg_sl ([.ref (ad 222), .int (3), .int (en)]) ++ List.replicate (4 - (lg_sl ([.ref (ad 222), .int (3), .int (en)])).length) Slot.unset).toArray = ls at hl ⊢
  have hl : lv_has ls 4 [(0, .ref (ad 222)), (1, .int (3)), (2, .int (en))] := hl
  have hZ9 := hT.2.1
  have hbd9 := hRX.1.1.1
  have hfr0 : ∀ i, 19 ≤ i ∧ i < 222 → mem i = mem i := fun _ _ => rfl
  obtain ⟨ft1, h9_2⟩ := hRX.2.1
  have h1_3 : mem 1 = .inr (0, [.ref (ad 2), .int (nI Z)]) := (hRX.1.2.2 1 (by omega)).trans hT.1
  have h2_4 : mem 2 = .inl (cy 0, 240, .inl f) := (hRX.1.2.2 2 (by omega)).trans hT.2.2
  have h5_5 := hRX.1.1.2.1
  have hbd11 := hRX.1.1.1
  obtain ⟨S6, g7, hS_8, h220_9, h221_10⟩ := hRX.1.1.2.2.2.2.2.2
  refine lv_aload_n Bx.1 Bx.2.1 d_Rd_readBracket_0 rfl (lv_at hl 0 rfl) ?_
  refine lv_iload_n Bx.1 Bx.2.1 d_Rd_readBracket_1 rfl (lv_at hl 1 rfl) ?_
  refine lv_bipush (v := 6) Bx.1 Bx.2.1 d_Rd_readBracket_2 (by decide) ?_
  refine lv_icmp_ge Bx.1 Bx.2.1 d_Rd_readBracket_4 rfl (fun hb12 => ?_) (fun hb12 => ?_)
  · exact absurd hb12 (by decide)
  · refine lv_iconst (v := 1) Bx.1 Bx.2.1 d_Rd_readBracket_7 (by decide) ?_
    refine lv_goto Bx.1 Bx.2.1 d_Rd_readBracket_8 rfl ?_
    refine lv_aload_n Bx.1 Bx.2.1 d_Rd_readBracket_12 rfl (lv_at hl 0 rfl) ?_
    refine f_get Bx hP (by omega) h9_2 rfl inRd 2 (by decide) kw_146 rfl rfl d_Rd_readBracket_13 ?_
    refine f_xVv (na := 2) (As := [.int (1), .int (nI a)]) (rest := []) Bx hml E hP hD hS (by omega) h9_2 rfl (m_Rd_needRoomX l hlt hn hT hf hRX (by omega)) kw_383 kw_385 sel_Rd_needRoom kw_6 kw_386 (by decide +kernel) ⟨rfl, rfl⟩ ⟨Nat.le_of_ble_eq_true rfl, Nat.le_of_ble_eq_true rfl⟩ rfl hl.1 (Nat.le_of_ble_eq_true rfl) d_Rd_readBracket_16 ⟨Nat.le_of_ble_eq_true rfl, Nat.le_of_ble_eq_true rfl⟩ (fun X ce q9 memx H locs hx9 hP hS g1 g2 g3 => f_out hlocks hno hP hS g1 g2 g3 ⟨Nat.le_of_ble_eq_true rfl, Nat.le_of_ble_eq_true rfl⟩ ⟨hx9.1, absurd hx9.2 (by decide)⟩) (fun mem14 H locs hq hP hS => ?_)
    have hD : va_D (Az sz) (fw n ad mem14) := fw_D hD
    obtain ⟨hqe, hg15⟩ := hq
    rw [hqe] at hP hD
    refine lv_aload_n Bx.1 Bx.2.1 d_Rd_readBracket_19 rfl (lv_at hl 0 rfl) ?_
    refine lv_dup Bx.1 Bx.2.1 d_Rd_readBracket_20 rfl ?_
    refine f_get Bx hP (by omega) h9_2 rfl inRd 2 (by decide) kw_146 rfl rfl d_Rd_readBracket_21 ?_
    refine lv_iconst (v := 1) Bx.1 Bx.2.1 d_Rd_readBracket_24 (by decide) ?_
    refine lv_iadd Bx.1 Bx.2.1 d_Rd_readBracket_25 ?_
    rw [show nI a + 1 = nI (a + 1) from nI_add (a) (1)]
    refine f_put Bx hP hD hS (by omega) h9_2 rfl inRd tyRd okRd nmRd 2 (by decide) kw_146 rfl rfl rfl rfl (Nat.le_of_ble_eq_true rfl) d_Rd_readBracket_26 (fun H locs hP hS => ?_)
    obtain ⟨mem16, e_mem16⟩ : ∃ z, z = va_up mem (222) (.inr (4, [.ref (ad 1), .ref (ad 5), .int (nI (a + 1)), .int (ft1)])) := ⟨_, rfl⟩
    have hP : va_P D vcl (fw n ad mem16) H := by rw [e_mem16]; exact hP
    have hD : va_D (Az sz) (fw n ad mem16) := fw_D hD
    have h_mem16 : mem16 (222) = .inr (4, [.ref (ad 1), .ref (ad 5), .int (nI (a + 1)), .int (ft1)]) := by rw [e_mem16, va_up_self]
    have hh17 := (va_up_ne mem (.inr (4, [.ref (ad 1), .ref (ad 5), .int (nI (a + 1)), .int (ft1)])) (show (1 : Nat) ≠ 222 by first | decide | assumption | omega)).trans h1_3
    rw [← e_mem16] at hh17
    have hh18 := (va_up_ne mem (.inr (4, [.ref (ad 1), .ref (ad 5), .int (nI (a + 1)), .int (ft1)])) (show (5 : Nat) ≠ 222 by first | decide | assumption | omega)).trans h5_5
    rw [← e_mem16] at hh18
    have hh19 := (va_up_ne mem (.inr (4, [.ref (ad 1), .ref (ad 5), .int (nI (a + 1)), .int (ft1)])) (show (220 : Nat) ≠ 222 by first | decide | assumption | omega)).trans h220_9
    rw [← e_mem16] at hh19
    have hfr20 : ∀ i, 19 ≤ i ∧ i < 222 → mem16 i = mem i := fun i q => (show mem16 i = mem i by rw [e_mem16]; exact va_up_ne _ _ (by omega)).trans (hfr0 i q)
    have hRX21 : RX cy ad lim (a + 1) (R) (Ec) (to) (nm) m0 mem16 := by rw [e_mem16]; exact hRX.at
    refine lv_aload_n Bx.1 Bx.2.1 d_Rd_readBracket_29 rfl (lv_at hl 0 rfl) ?_
    refine f_callVi (na := 0) (As := []) (rest := []) Bx hml E hP hD hS (by omega) h_mem16 rfl (m_Rd_readGapY l hn hT hf hRX21 (by omega) (by omega)) kw_397 kw_399 sel_Rd_readGap kw_6 kw_400 (by decide +kernel) ⟨rfl, rfl⟩ ⟨Nat.le_of_ble_eq_true rfl, Nat.le_of_ble_eq_true rfl⟩ rfl hl.1 (Nat.le_of_ble_eq_true rfl) d_Rd_readBracket_30 ⟨Nat.le_of_ble_eq_true rfl, Nat.le_of_ble_eq_true rfl⟩ (fun r22 mem23 H locs hq hP hS => ?_)
    have hD : va_D (Az sz) (fw n ad mem23) := fw_D hD
    obtain ⟨g24, eg25⟩ : ∃ z, z = gapF T Z (a + 1) := ⟨_, rfl⟩
    rw [← eg25] at hq
    obtain ⟨hRX26, hgc27, hfa28⟩ := hq
    have hg29 : a + 1 ≤ g24 := by rw [eg25]; exact gapF_ge T Z _
    have hg30 : g24 ≤ Z := by rw [eg25]; exact gapF_le T (by omega)
    have hfr31 : ∀ i, 19 ≤ i ∧ i < 222 → mem23 i = mem i := fun i q => (hfa28 i (by omega)).trans (hfr20 i q)
    obtain ⟨ft32, h9_33⟩ := hRX26.2.1
    have h1_34 : mem23 1 = .inr (0, [.ref (ad 2), .int (nI Z)]) := (hRX26.1.2.2 1 (by omega)).trans hT.1
    have h2_35 : mem23 2 = .inl (cy 0, 240, .inl f) := (hRX26.1.2.2 2 (by omega)).trans hT.2.2
    have h5_36 := hRX26.1.1.2.1
    have hbd42 := hRX26.1.1.1
    obtain ⟨S37, g38, hS_39, h220_40, h221_41⟩ := hRX26.1.1.2.2.2.2.2.2
    refine lv_pop Bx.1 Bx.2.1 d_Rd_readBracket_33 rfl ?_
    refine lv_aload_n Bx.1 Bx.2.1 d_Rd_readBracket_34 rfl (lv_at hl 0 rfl) ?_
    refine lv_iload_n Bx.1 Bx.2.1 d_Rd_readBracket_35 rfl (lv_at hl 1 rfl) ?_
    refine lv_iconst (v := 1) Bx.1 Bx.2.1 d_Rd_readBracket_36 (by decide) ?_
    refine lv_iadd Bx.1 Bx.2.1 d_Rd_readBracket_37 ?_
    rw [show (3 + 1 : Int32) = 4 from rfl]
    have her43 : ER ad R Ec Bw mem23 := hER.fr (Nat.le_refl _) (fun i9 hi9 => hfr31 (20 + 2 * i9) (by omega))
    have hsr44 : SR cy ad S Bw mem23 := ⟨(hfr31 220 (by omega)).trans hSR.1, (hfr31 221 (by omega)).trans hSR.2⟩
    refine f_xVr (na := 1) (As := [.int (4)]) (rest := []) Bx hml E hP hD hS (by omega) h9_33 rfl (m_Rd_readAlternatives_4Y l hlt hn hT hf hRX26 (by omega) (u := u) (A := (entA A 4 Ec what oe)) her43 hsr44 (by omega) (by omega) (ent_lka hLK) (cq := Ec) entA_f.2.2.2.2.2.2.2.1 (Nat.le_refl _) (by rw [entA_f.2.2.2.2.2.2.1, upd_self])) kw_405 kw_407 sel_Rd_readAlternatives kw_6 kw_408 (by decide +kernel) ⟨rfl, rfl⟩ ⟨Nat.le_of_ble_eq_true rfl, Nat.le_of_ble_eq_true rfl⟩ rfl hl.1 (Nat.le_of_ble_eq_true rfl) d_Rd_readBracket_38 ⟨Nat.le_of_ble_eq_true rfl, Nat.le_of_ble_eq_true rfl⟩ (fun X ce q9 memx H locs hx9 hP hS g1 g2 g3 => f_out hlocks hno hP hS g1 g2 g3 ⟨Nat.le_of_ble_eq_true rfl, Nat.le_of_ble_eq_true rfl⟩ ⟨hx9.1, hx9.2.elim (fun z => Or.inl (entS_no (Or.inl (by rw [← eg25]; exact z)))) (fun z => z.elim (fun z => Or.inl (entS_no (Or.inr z))) (fun z => Fai.br0 (by rw [ent_ok (by rw [← eg25]; exact z.1) z.2.1, ← eg25]) z.2.2))⟩) (fun r45 mem46 H locs hq hP hS => ?_)
    have hD : va_D (Az sz) (fw n ad mem46) := fw_D hD
    obtain ⟨la47, ax48, ux49, Rx50, Ex51, Sx52, Ax53, Bx_54, nx55, tox56, hr957, h158, h259, h360, h461, htk62, hRX63, ali64, hbg65, hE66, h4767, hnb68⟩ := hq
    subst hr957
    obtain ⟨g69, eg70⟩ : ∃ z, z = gapF T Z ax48 := ⟨_, rfl⟩
    have hg71 : ax48 ≤ g69 := by rw [eg70]; exact gapF_ge T Z _
    have hg72 : g69 ≤ Z := by rw [eg70]; exact gapF_le T (by omega)
    rw [← eg70] at hRX63
    obtain ⟨ft73, h9_74⟩ := hRX63.2.1
    have h1_75 : mem46 1 = .inr (0, [.ref (ad 2), .int (nI Z)]) := (hRX63.1.2.2 1 (by omega)).trans hT.1
    have h2_76 : mem46 2 = .inl (cy 0, 240, .inl f) := (hRX63.1.2.2 2 (by omega)).trans hT.2.2
    have h5_77 := hRX63.1.1.2.1
    have hbd83 := hRX63.1.1.1
    obtain ⟨S78, g79, hS_80, h220_81, h221_82⟩ := hRX63.1.1.2.2.2.2.2.2
    have hbd84 := hRX63.1.1.1
    have hent : entS T Z (a + 1) u R Ec 4 A nm what oe = some (g24, u, R, Ec + 1, 4, (entA A 4 Ec what oe), nm, true) := by rw [ent_ok (by rw [← eg25]; exact hbg65) hE66, ← eg25]
    have hA5 : Ax53 235 4 = what := by
      obtain ⟨c1, ho, hg, hk, hs⟩ := ali64.1
      rw [hk 4 (by omega), entA_5, upd_self]
    refine lv_astore_n (lv' := [(3, .ref (ad (20 + 2 * Ec))), (0, .ref (ad 222)), (1, .int (3)), (2, .int (en))]) Bx.1 Bx.2.1 d_Rd_readBracket_41 rfl hl (by decide) rfl (fun ls hl => ?_)
    refine lv_aload_n Bx.1 Bx.2.1 d_Rd_readBracket_42 rfl (lv_at hl 1 rfl) ?_
    refine lv_aload_n Bx.1 Bx.2.1 d_Rd_readBracket_43 rfl (lv_at hl 1 rfl) ?_
    refine f_callVi (na := 0) (As := []) (rest := [.ref (ad 222)]) Bx hml E hP hD hS (by omega) h9_74 rfl (m_Rd_peekX l hn hT hf hRX63 (by omega)) kw_353 kw_355 sel_Rd_peek kw_6 kw_356 (by decide +kernel) ⟨rfl, rfl⟩ ⟨Nat.le_of_ble_eq_true rfl, Nat.le_of_ble_eq_true rfl⟩ rfl hl.1 (Nat.le_of_ble_eq_true rfl) d_Rd_readBracket_44 ⟨Nat.le_of_ble_eq_true rfl, Nat.le_of_ble_eq_true rfl⟩ (fun r86 mem87 H locs hq hP hS => ?_)
    have hD : va_D (Az sz) (fw n ad mem87) := fw_D hD
    obtain ⟨hqe, hpk85⟩ := hq
    rw [hqe] at hP hD
    subst hpk85
    refine lv_iload_n Bx.1 Bx.2.1 d_Rd_readBracket_47 rfl (lv_at hl 3 rfl) ?_
    refine lv_icmp_ne Bx.1 Bx.2.1 d_Rd_readBracket_48 rfl (fun hb89 => ?_) (fun hb89 => ?_)
    · refine lv_iconst (v := 0) Bx.1 Bx.2.1 d_Rd_readBracket_55 (by decide) ?_
      refine lv_aload_n Bx.1 Bx.2.1 d_Rd_readBracket_56 rfl (lv_at hl 1 rfl) ?_
      refine f_get Bx hP (by omega) h9_74 rfl inRd 2 (by decide) kw_146 rfl rfl d_Rd_readBracket_57 ?_
      refine f_xVv (na := 2) (As := [.int (0), .int (nI g69)]) (rest := []) Bx hml E hP hD hS (by omega) h9_74 rfl (m_Rd_needReadableX l hlt hn hT hf hRX63 (by omega)) kw_360 kw_362 sel_Rd_needReadable kw_6 kw_363 (by decide +kernel) ⟨rfl, rfl⟩ ⟨Nat.le_of_ble_eq_true rfl, Nat.le_of_ble_eq_true rfl⟩ rfl hl.1 (Nat.le_of_ble_eq_true rfl) d_Rd_readBracket_60 ⟨Nat.le_of_ble_eq_true rfl, Nat.le_of_ble_eq_true rfl⟩ (fun X ce q9 memx H locs hx9 hP hS g1 g2 g3 => f_out hlocks hno hP hS g1 g2 g3 ⟨Nat.le_of_ble_eq_true rfl, Nat.le_of_ble_eq_true rfl⟩ ⟨hx9.1, Fai.br1 hent ali64.1.suc (br_no hwe hA5 (by rw [← eg70]; exact hb89) h4767 hnb68)⟩) (fun mem91 H locs hq hP hS => ?_)
      have hD : va_D (Az sz) (fw n ad mem91) := fw_D hD
      obtain ⟨hqe, hg92⟩ := hq
      rw [hqe] at hP hD
      exact absurd rfl hg92
    · refine lv_iconst (v := 1) Bx.1 Bx.2.1 d_Rd_readBracket_51 (by decide) ?_
      refine lv_goto Bx.1 Bx.2.1 d_Rd_readBracket_52 rfl ?_
      refine lv_aload_n Bx.1 Bx.2.1 d_Rd_readBracket_56 rfl (lv_at hl 1 rfl) ?_
      refine f_get Bx hP (by omega) h9_74 rfl inRd 2 (by decide) kw_146 rfl rfl d_Rd_readBracket_57 ?_
      refine f_xVv (na := 2) (As := [.int (1), .int (nI g69)]) (rest := []) Bx hml E hP hD hS (by omega) h9_74 rfl (m_Rd_needReadableX l hlt hn hT hf hRX63 (by omega)) kw_360 kw_362 sel_Rd_needReadable kw_6 kw_363 (by decide +kernel) ⟨rfl, rfl⟩ ⟨Nat.le_of_ble_eq_true rfl, Nat.le_of_ble_eq_true rfl⟩ rfl hl.1 (Nat.le_of_ble_eq_true rfl) d_Rd_readBracket_60 ⟨Nat.le_of_ble_eq_true rfl, Nat.le_of_ble_eq_true rfl⟩ (fun X ce q9 memx H locs hx9 hP hS g1 g2 g3 => f_out hlocks hno hP hS g1 g2 g3 ⟨Nat.le_of_ble_eq_true rfl, Nat.le_of_ble_eq_true rfl⟩ ⟨hx9.1, absurd hx9.2 (by decide)⟩) (fun mem94 H locs hq hP hS => ?_)
      have hD : va_D (Az sz) (fw n ad mem94) := fw_D hD
      obtain ⟨hqe, hg95⟩ := hq
      rw [hqe] at hP hD
      refine lv_aload_n Bx.1 Bx.2.1 d_Rd_readBracket_63 rfl (lv_at hl 1 rfl) ?_
      refine lv_dup Bx.1 Bx.2.1 d_Rd_readBracket_64 rfl ?_
      refine f_get Bx hP (by omega) h9_74 rfl inRd 2 (by decide) kw_146 rfl rfl d_Rd_readBracket_65 ?_
      refine lv_iconst (v := 1) Bx.1 Bx.2.1 d_Rd_readBracket_68 (by decide) ?_
      refine lv_iadd Bx.1 Bx.2.1 d_Rd_readBracket_69 ?_
      rw [show nI g69 + 1 = nI (g69 + 1) from nI_add (g69) (1)]
      refine f_put Bx hP hD hS (by omega) h9_74 rfl inRd tyRd okRd nmRd 2 (by decide) kw_146 rfl rfl rfl rfl (Nat.le_of_ble_eq_true rfl) d_Rd_readBracket_70 (fun H locs hP hS => ?_)
      obtain ⟨mem96, e_mem96⟩ : ∃ z, z = va_up mem46 (222) (.inr (4, [.ref (ad 1), .ref (ad 5), .int (nI (g69 + 1)), .int (ft73)])) := ⟨_, rfl⟩
      have hP : va_P D vcl (fw n ad mem96) H := by rw [e_mem96]; exact hP
      have hD : va_D (Az sz) (fw n ad mem96) := fw_D hD
      have h_mem96 : mem96 (222) = .inr (4, [.ref (ad 1), .ref (ad 5), .int (nI (g69 + 1)), .int (ft73)]) := by rw [e_mem96, va_up_self]
      have hh97 := (va_up_ne mem46 (.inr (4, [.ref (ad 1), .ref (ad 5), .int (nI (g69 + 1)), .int (ft73)])) (show (1 : Nat) ≠ 222 by first | decide | assumption | omega)).trans h1_75
      rw [← e_mem96] at hh97
      have hh98 := (va_up_ne mem46 (.inr (4, [.ref (ad 1), .ref (ad 5), .int (nI (g69 + 1)), .int (ft73)])) (show (5 : Nat) ≠ 222 by first | decide | assumption | omega)).trans h5_77
      rw [← e_mem96] at hh98
      have hh99 := (va_up_ne mem46 (.inr (4, [.ref (ad 1), .ref (ad 5), .int (nI (g69 + 1)), .int (ft73)])) (show (220 : Nat) ≠ 222 by first | decide | assumption | omega)).trans h220_81
      rw [← e_mem96] at hh99
      have her100 : ER ad (Rx50) (Ex51) (Bx_54) mem96 := ali64.2.1.fr (Nat.le_refl _) (fun i9 hi9 => by rw [e_mem96]; exact va_up_ne _ _ (by omega))
      have hsr101 : SR cy ad (Sx52) (Bx_54) mem96 := ⟨(show mem96 220 = _ from by rw [e_mem96]; exact va_up_ne _ _ (by omega)).trans ali64.2.2.1.1, (show mem96 221 = _ from by rw [e_mem96]; exact va_up_ne _ _ (by omega)).trans ali64.2.2.1.2⟩
      have hRX102 : RX cy ad lim (g69 + 1) (Rx50) (Ex51) (tox56) (nx55) m0 mem96 := by rw [e_mem96]; exact hRX63.at
      refine lv_aload_n Bx.1 Bx.2.1 d_Rd_readBracket_73 rfl (lv_at hl 0 rfl) ?_
      have hal9 : ALI cy ad T Z 4 (seqS T Z (gapF T Z (a + 1)) u R (Ec + 1) 4 (entA A 4 Ec what oe) nm) Ec R Ec S u (entA A 4 Ec what oe) Bw la47 ax48 ux49 Rx50 Ex51 Sx52 Ax53 Bx_54 nx55 mem96 := by rw [← eg25]; exact ⟨ali64.1, her100, hsr101, ali64.2.2.2⟩
      exact x_aret hx hb hlocks hr (⟨la47, ax48, ux49, Rx50, Ex51, Sx52, Ax53, Bx_54, nx55, tox56, rfl, by omega, by omega, by omega, by rw [← eg70]; have := br_lt hwe hb89; omega, htk62, by rw [← eg70]; exact hRX102, hal9, by rw [← eg70]; exact hb89, by rw [← eg25]; exact hent⟩) hP hS d_Rd_readBracket_74
set_option maxHeartbeats 4000000 in
set_option maxRecDepth 100000 in
theorem m_Rd_readOption_3Y (l : Launch) {D : va_G} {cy : Nat → ClassId} {sz n : Nat} {ad : Nat → Nat} {mem : Nat → va_E} {Z a R Ec lim : Nat} {f T : Nat → Int32} {to : Nat → Int32} {nm : Nat → Int64} {m0 : Nat → va_E} {u S : Nat} {A Bw : Ro} (hlt : l.stackTraces = false) (hn : 224 ≤ n) (hT : TX cy ad Z f m0) (hf : ∀ k, k < Z → f k = T k) (hRX : RX cy ad lim a R Ec to nm m0 mem) (haB : a ≤ 300) (hER : ER ad R Ec Bw mem) (hSR : SR cy ad S Bw mem) (hSa : S ≤ a) (haZ : a < Z) (hLK : LKa Ec A) (hF : FRM A 3 Ec) (c91 : hereF Z T a = 91) : NXr l D cy sz n ad y_Rd_readOption c_Rd_readOption 3 (some (.object "AbnfChart$Element")) ({ frames := 33, cells := 1, slots := 6, locals := 793 } : Room) mem [.ref (ad 222), .int (3)] (fun r mem' => ∃ (k' a' u' R' E' S' : Nat) (A' Bw' : Ro) (nm' : Nat → Int64) (to' : Nat → Int32), r = ad (20 + 2 * k') ∧ Ec ≤ k' ∧ k' < E' ∧ R ≤ R' ∧ a < a' ∧ a' ≤ Z ∧ TOK R R' to to' ∧ RX cy ad lim a' R' E' to' nm' m0 mem' ∧ RDS cy ad T Z 3 (singS T Z a u R Ec 3 A nm) (PSf A 3) R Ec S u A Bw k' a' u' R' E' S' A' Bw' nm' mem' ∧ A' 238 3 = A 238 3) (fun X mem' => ((X = cIA ∨ X = cIS) ∧ ∃ rc' ec' : Nat, RS cy ad lim rc' ec' m0 mem') ∧ (Fai T Z (singS T Z a u R Ec 3 A nm))) := by
  refine vx_ofW (cc := c_Rd_readOption) (maxL := 3) (ret := (some (.object "AbnfChart$Element"))) (by decide) rfl ?_
  intro p e s m args below meth c s₁ B hml hno hv
  obtain ⟨rfl, E, hP, hD⟩ := hv
  have hx := B.exec
  have hb := B.bytes
  have hr := B.returns
  have hlocks := B.notSynchronized
  have Bx : MB p s m [.ref (ad 222), .int (3)].toArray c c_Rd_readOption "AbnfChart$Reader" D cy := ⟨hx, hb, tb_all (atoms_spec B.pre) E.2.1, findClass_of_methodNamed B.named, E.1⟩
  have hS : va_S (Az sz) s.heap s.heap [] := va_S.rf
  have hl := lv_entry ([.ref (ad 222), .int (3)]) (n := 3) (Nat.le_of_ble_eq_true rfl)
  rw [lg_entry_eq]
  generalize (lg_sl ([.ref (ad 222), .int (3)]) ++ List.replicate (3 - (lg_sl ([.ref (ad 222), .int (3)])).length) Slot.unset).toArray = ls at hl ⊢
  have hl : lv_has ls 3 [(0, .ref (ad 222)), (1, .int (3))] := hl
  have hZ9 := hT.2.1
  have hbd9 := hRX.1.1.1
  have hfr0 : ∀ i, 19 ≤ i ∧ i < 222 ∧ i ≠ 20 + 2 * Ec → mem i = mem i := fun _ _ => rfl
  obtain ⟨ft1, h9_2⟩ := hRX.2.1
  have h1_3 : mem 1 = .inr (0, [.ref (ad 2), .int (nI Z)]) := (hRX.1.2.2 1 (by omega)).trans hT.1
  have h2_4 : mem 2 = .inl (cy 0, 240, .inl f) := (hRX.1.2.2 2 (by omega)).trans hT.2.2
  have h5_5 := hRX.1.1.2.1
  have hbd11 := hRX.1.1.1
  obtain ⟨S6, g7, hS_8, h220_9, h221_10⟩ := hRX.1.1.2.2.2.2.2.2
  refine lv_aload_n Bx.1 Bx.2.1 d_Rd_readOption_0 rfl (lv_at hl 0 rfl) ?_
  refine lv_iconst (v := 3) Bx.1 Bx.2.1 d_Rd_readOption_1 (by decide) ?_
  refine lv_aload_n Bx.1 Bx.2.1 d_Rd_readOption_2 rfl (lv_at hl 0 rfl) ?_
  refine f_get Bx hP (by omega) h9_2 rfl inRd 2 (by decide) kw_146 rfl rfl d_Rd_readOption_3 ?_
  refine f_xVr (na := 2) (As := [.int (3), .int (nI a)]) (rest := []) Bx hml E hP hD hS (by omega) h9_2 rfl (m_Rd_addElementY l hlt hn hT hf hRX (by omega)) kw_419 kw_421 sel_Rd_addElement kw_6 kw_422 (by decide +kernel) ⟨rfl, rfl⟩ ⟨Nat.le_of_ble_eq_true rfl, Nat.le_of_ble_eq_true rfl⟩ rfl hl.1 (Nat.le_of_ble_eq_true rfl) d_Rd_readOption_6 ⟨Nat.le_of_ble_eq_true rfl, Nat.le_of_ble_eq_true rfl⟩ (fun X ce q9 memx H locs hx9 hP hS g1 g2 g3 => f_out hlocks hno hP hS g1 g2 g3 ⟨Nat.le_of_ble_eq_true rfl, Nat.le_of_ble_eq_true rfl⟩ ⟨hx9.1, Or.inl (sing_o0 (l91 c91).1 c91 (Or.inr hx9.2))⟩) (fun r12 mem13 H locs hq hP hS => ?_)
  have hD : va_D (Az sz) (fw n ad mem13) := fw_D hD
  obtain ⟨hr914, hec15, hRX16, hcl17, hfa18⟩ := hq
  subst hr914
  have hfr19 : ∀ i, 19 ≤ i ∧ i < 222 ∧ i ≠ 20 + 2 * Ec → mem13 i = mem i := fun i q => (hfa18 i (by omega)).trans (hfr0 i q)
  obtain ⟨ft20, h9_21⟩ := hRX16.2.1
  have h1_22 : mem13 1 = .inr (0, [.ref (ad 2), .int (nI Z)]) := (hRX16.1.2.2 1 (by omega)).trans hT.1
  have h2_23 : mem13 2 = .inl (cy 0, 240, .inl f) := (hRX16.1.2.2 2 (by omega)).trans hT.2.2
  have h5_24 := hRX16.1.1.2.1
  have hbd30 := hRX16.1.1.1
  obtain ⟨S25, g26, hS_27, h220_28, h221_29⟩ := hRX16.1.1.2.2.2.2.2.2
  obtain ⟨ft31, h9_32⟩ := hRX16.2.1
  have h1_33 : mem13 1 = .inr (0, [.ref (ad 2), .int (nI Z)]) := (hRX16.1.2.2 1 (by omega)).trans hT.1
  have h2_34 : mem13 2 = .inl (cy 0, 240, .inl f) := (hRX16.1.2.2 2 (by omega)).trans hT.2.2
  have h5_35 := hRX16.1.1.2.1
  have hbd41 := hRX16.1.1.1
  obtain ⟨S36, g37, hS_38, h220_39, h221_40⟩ := hRX16.1.1.2.2.2.2.2.2
  refine lv_astore_n (lv' := [(2, .ref (ad (20 + 2 * Ec))), (0, .ref (ad 222)), (1, .int (3))]) Bx.1 Bx.2.1 d_Rd_readOption_9 rfl hl (by decide) rfl (fun ls hl => ?_)
  refine lv_aload_n Bx.1 Bx.2.1 d_Rd_readOption_10 rfl (lv_at hl 0 rfl) ?_
  refine lv_aload_n Bx.1 Bx.2.1 d_Rd_readOption_11 rfl (lv_at hl 1 rfl) ?_
  refine lv_iload_n Bx.1 Bx.2.1 d_Rd_readOption_12 rfl (lv_at hl 2 rfl) ?_
  refine lv_bipush (v := 93) Bx.1 Bx.2.1 d_Rd_readOption_13 (by decide) ?_
  have her42 : ER ad R (Ec + 1) (bwN Bw Ec 3 (0) (0) (-1) (-1) (-1) (Bw 234)) mem13 := hER.new (Nat.le_refl _) (by rw [vR_m]; exact hcl17) (Or.inl rfl) (fun i9 hi9 => hfr19 (20 + 2 * i9) (by omega))
  have hsr43 : SR cy ad S (bwN Bw Ec 3 (0) (0) (-1) (-1) (-1) (Bw 234)) mem13 := ⟨(hfr19 220 (by omega)).trans hSR.1, (hfr19 221 (by omega)).trans hSR.2⟩
  have hE9 := hec15
  refine f_xVr (na := 2) (As := [.int (3), .int (93)]) (rest := [.ref (ad (20 + 2 * Ec))]) Bx hml E hP hD hS (by omega) h9_32 rfl (m_Rd_readBracket_3Y l hlt hn hT hf hRX16 (by omega) (u := u) (A := elA A Ec 3) (what := 2) (oe := nI Ec) her42 hsr43 (by omega) (by omega) (Or.inr ⟨rfl, rfl⟩) (elA_lka hLK)) kw_447 kw_449 sel_Rd_readBracket kw_6 kw_450 (by decide +kernel) ⟨rfl, rfl⟩ ⟨Nat.le_of_ble_eq_true rfl, Nat.le_of_ble_eq_true rfl⟩ rfl hl.1 (Nat.le_of_ble_eq_true rfl) d_Rd_readOption_15 ⟨Nat.le_of_ble_eq_true rfl, Nat.le_of_ble_eq_true rfl⟩ (fun X ce q9 memx H locs hx9 hP hS g1 g2 g3 => f_out hlocks hno hP hS g1 g2 g3 ⟨Nat.le_of_ble_eq_true rfl, Nat.le_of_ble_eq_true rfl⟩ ⟨hx9.1, hx9.2.eq (sing_op (l91 c91).1 c91 (by omega) hE9)⟩) (fun r44 mem45 H locs hq hP hS => ?_)
  have hD : va_D (Az sz) (fw n ad mem45) := fw_D hD
  obtain ⟨la46, ax47, ux48, Rx49, Ex50, Sx51, Ax52, Bx_53, nx54, tox55, hr956, h157, h258, h359, h460, htk61, hRX62, ali63, hh64, hent65⟩ := hq
  subst hr956
  obtain ⟨ft66, h9_67⟩ := hRX62.2.1
  have h1_68 : mem45 1 = .inr (0, [.ref (ad 2), .int (nI Z)]) := (hRX62.1.2.2 1 (by omega)).trans hT.1
  have h2_69 : mem45 2 = .inl (cy 0, 240, .inl f) := (hRX62.1.2.2 2 (by omega)).trans hT.2.2
  have h5_70 := hRX62.1.1.2.1
  have hbd76 := hRX62.1.1.1
  obtain ⟨S71, g72, hS_73, h220_74, h221_75⟩ := hRX62.1.1.2.2.2.2.2.2
  have hbd77 := hRX62.1.1.1
  have hce78 := (ali63.2.1 Ec (by omega)).1
  refine f_putN Bx hP hD hS (by omega) hce78 rfl inEl tyEl okEl nmEl 4 (by decide) kw_87 rfl rfl rfl rfl (Nat.le_of_ble_eq_true rfl) d_Rd_readOption_18 (fun H locs hP hS => ?_)
  obtain ⟨mem79, e_mem79⟩ : ∃ z, z = va_up mem45 ((20 + 2 * Ec)) (.inr (2, [.int (Bx_53 228 Ec), .int (Bx_53 229 Ec), .int (Bx_53 230 Ec), vR ad (Bx_53 231 Ec), .ref (ad (20 + 2 * (Ec + 1))), vE ad (Bx_53 233 Ec), .ref (ad (21 + 2 * Ec))])) := ⟨_, rfl⟩
  have hP : va_P D vcl (fw n ad mem79) H := by rw [e_mem79]; exact hP
  have hD : va_D (Az sz) (fw n ad mem79) := fw_D hD
  have h_mem79 : mem79 ((20 + 2 * Ec)) = .inr (2, [.int (Bx_53 228 Ec), .int (Bx_53 229 Ec), .int (Bx_53 230 Ec), vR ad (Bx_53 231 Ec), .ref (ad (20 + 2 * (Ec + 1))), vE ad (Bx_53 233 Ec), .ref (ad (21 + 2 * Ec))]) := by rw [e_mem79, va_up_self]
  have hh80 := (va_up_ne mem45 (.inr (2, [.int (Bx_53 228 Ec), .int (Bx_53 229 Ec), .int (Bx_53 230 Ec), vR ad (Bx_53 231 Ec), .ref (ad (20 + 2 * (Ec + 1))), vE ad (Bx_53 233 Ec), .ref (ad (21 + 2 * Ec))])) (show (222 : Nat) ≠ (20 + 2 * Ec) by first | decide | assumption | omega)).trans h9_67
  rw [← e_mem79] at hh80
  have hh81 := (va_up_ne mem45 (.inr (2, [.int (Bx_53 228 Ec), .int (Bx_53 229 Ec), .int (Bx_53 230 Ec), vR ad (Bx_53 231 Ec), .ref (ad (20 + 2 * (Ec + 1))), vE ad (Bx_53 233 Ec), .ref (ad (21 + 2 * Ec))])) (show (1 : Nat) ≠ (20 + 2 * Ec) by first | decide | assumption | omega)).trans h1_68
  rw [← e_mem79] at hh81
  have hh82 := (va_up_ne mem45 (.inr (2, [.int (Bx_53 228 Ec), .int (Bx_53 229 Ec), .int (Bx_53 230 Ec), vR ad (Bx_53 231 Ec), .ref (ad (20 + 2 * (Ec + 1))), vE ad (Bx_53 233 Ec), .ref (ad (21 + 2 * Ec))])) (show (5 : Nat) ≠ (20 + 2 * Ec) by first | decide | assumption | omega)).trans h5_70
  rw [← e_mem79] at hh82
  have hh83 := (va_up_ne mem45 (.inr (2, [.int (Bx_53 228 Ec), .int (Bx_53 229 Ec), .int (Bx_53 230 Ec), vR ad (Bx_53 231 Ec), .ref (ad (20 + 2 * (Ec + 1))), vE ad (Bx_53 233 Ec), .ref (ad (21 + 2 * Ec))])) (show (220 : Nat) ≠ (20 + 2 * Ec) by first | decide | assumption | omega)).trans h220_74
  rw [← e_mem79] at hh83
  have hRX84 : RX cy ad lim (gapF T Z ax47 + 1) (Rx49) (Ex50) (tox55) (nx54) m0 mem79 := by rw [e_mem79]; exact hRX62.el (by omega) (hRX62.1.mk (by omega) (hRX62.1.1.upEl (by omega) (fun _ => ⟨(ali63.2.1 Ec (by omega)).2.1.oR ad, Or.inr ⟨(Ec + 1), by omega, by omega, rfl⟩, (ali63.2.1 Ec (by omega)).2.2.2.oE ad (by omega)⟩)))
  have her85 : ER ad (Rx49) (Ex50) (va_up Bx_53 232 (upd (Bx_53 232) Ec (nI (Ec + 1)))) mem79 := ali63.2.1.part (by omega) (by omega) (by omega) h_mem79 (fun i9 q9 hi9 => by rw [e_mem79]; exact va_up_ne _ _ (by omega))
  have hsr86 : SR cy ad (Sx51) (Bx_53) mem79 := ⟨(show mem79 220 = mem45 220 by rw [e_mem79]; exact va_up_ne _ _ (by omega)).trans ali63.2.2.1.1, (show mem79 221 = mem45 221 by rw [e_mem79]; exact va_up_ne _ _ (by omega)).trans ali63.2.2.1.2⟩
  obtain ⟨ft87, h9_88⟩ := hRX84.2.1
  have h1_89 : mem79 1 = .inr (0, [.ref (ad 2), .int (nI Z)]) := (hRX84.1.2.2 1 (by omega)).trans hT.1
  have h2_90 : mem79 2 = .inl (cy 0, 240, .inl f) := (hRX84.1.2.2 2 (by omega)).trans hT.2.2
  have h5_91 := hRX84.1.1.2.1
  have hbd97 := hRX84.1.1.1
  obtain ⟨S92, g93, hS_94, h220_95, h221_96⟩ := hRX84.1.1.2.2.2.2.2.2
  refine lv_aload_n Bx.1 Bx.2.1 d_Rd_readOption_21 rfl (lv_at hl 0 rfl) ?_
  have hrd9 := opt_rds (nm := nm) hLK (by omega) hF hent65 ali63 hh64 her85 hsr86
  exact x_aret hx hb hlocks hr (⟨Ec, gapF T Z ax47 + 1, ux48, Rx49, Ex50, Sx51, _, _, nx54, tox55, rfl, by omega, by omega, by omega, by have := gapF_ge T Z ax47; omega, by omega, htk61, hRX84, rdsEq hrd9.1 (sing_op (l91 c91).1 c91 (by omega) hE9), hrd9.2⟩) hP hS d_Rd_readOption_22
set_option maxHeartbeats 4000000 in
set_option maxRecDepth 100000 in
theorem m_Rd_readElement_3Y (l : Launch) {D : va_G} {cy : Nat → ClassId} {sz n : Nat} {ad : Nat → Nat} {mem : Nat → va_E} {Z a R Ec lim : Nat} {f T : Nat → Int32} {to : Nat → Int32} {nm : Nat → Int64} {m0 : Nat → va_E} {u S : Nat} {A Bw : Ro} (hlt : l.stackTraces = false) (hn : 224 ≤ n) (hT : TX cy ad Z f m0) (hf : ∀ k, k < Z → f k = T k) (hRX : RX cy ad lim a R Ec to nm m0 mem) (haB : a ≤ 300) (hER : ER ad R Ec Bw mem) (hSR : SR cy ad S Bw mem) (hSa : S ≤ a) (haZ : a ≤ Z) (hLK : LKa Ec A) (hF : FRM A 3 Ec) : NXr l D cy sz n ad y_Rd_readElement c_Rd_readElement 2 (some (.object "AbnfChart$Element")) ({ frames := 34, cells := 1, slots := 6, locals := 816 } : Room) mem [.ref (ad 222), .int (3)] (fun r mem' => ∃ (k' a' u' R' E' S' : Nat) (A' Bw' : Ro) (nm' : Nat → Int64) (to' : Nat → Int32), r = ad (20 + 2 * k') ∧ Ec ≤ k' ∧ k' < E' ∧ R ≤ R' ∧ a < a' ∧ a' ≤ Z ∧ TOK R R' to to' ∧ RX cy ad lim a' R' E' to' nm' m0 mem' ∧ RDS cy ad T Z 3 (singS T Z a u R Ec 3 A nm) (PSf A 3) R Ec S u A Bw k' a' u' R' E' S' A' Bw' nm' mem' ∧ A' 238 3 = A 238 3 ∧ OKc (hereF Z T a)) (fun X mem' => ((X = cIA ∨ X = cIS) ∧ ∃ rc' ec' : Nat, RS cy ad lim rc' ec' m0 mem') ∧ (Fai T Z (singS T Z a u R Ec 3 A nm) ∨ ¬ OKc (hereF Z T a))) := by
  refine vx_ofW (cc := c_Rd_readElement) (maxL := 2) (ret := (some (.object "AbnfChart$Element"))) (by decide) rfl ?_
  intro p e s m args below meth c s₁ B hml hno hv
  obtain ⟨rfl, E, hP, hD⟩ := hv
  have hx := B.exec
  have hb := B.bytes
  have hr := B.returns
  have hlocks := B.notSynchronized
  have Bx : MB p s m [.ref (ad 222), .int (3)].toArray c c_Rd_readElement "AbnfChart$Reader" D cy := ⟨hx, hb, tb_all (atoms_spec B.pre) E.2.1, findClass_of_methodNamed B.named, E.1⟩
  have hS : va_S (Az sz) s.heap s.heap [] := va_S.rf
  have hl := lv_entry ([.ref (ad 222), .int (3)]) (n := 2) (Nat.le_of_ble_eq_true rfl)
  rw [lg_entry_eq]
  generalize (lg_sl ([.ref (ad 222), .int (3)]) ++ List.replicate (2 - (lg_sl ([.ref (ad 222), .int (3)])).length) Slot.unset).toArray = ls at hl ⊢
  have hl : lv_has ls 2 [(0, .ref (ad 222)), (1, .int (3))] := hl
  have hZ9 := hT.2.1
  have hbd9 := hRX.1.1.1
  have hfr0 : ∀ i, 19 ≤ i ∧ i < 222 ∧ i ≠ 20 + 2 * Ec → mem i = mem i := fun _ _ => rfl
  obtain ⟨ft1, h9_2⟩ := hRX.2.1
  have h1_3 : mem 1 = .inr (0, [.ref (ad 2), .int (nI Z)]) := (hRX.1.2.2 1 (by omega)).trans hT.1
  have h2_4 : mem 2 = .inl (cy 0, 240, .inl f) := (hRX.1.2.2 2 (by omega)).trans hT.2.2
  have h5_5 := hRX.1.1.2.1
  have hbd11 := hRX.1.1.1
  obtain ⟨S6, g7, hS_8, h220_9, h221_10⟩ := hRX.1.1.2.2.2.2.2.2
  refine lv_aload_n Bx.1 Bx.2.1 d_Rd_readElement_0 rfl (lv_at hl 0 rfl) ?_
  refine f_callVi (na := 0) (As := []) (rest := []) Bx hml E hP hD hS (by omega) h9_2 rfl (m_Rd_peekX l hn hT hf hRX (by omega)) kw_353 kw_355 sel_Rd_peek kw_6 kw_356 (by decide +kernel) ⟨rfl, rfl⟩ ⟨Nat.le_of_ble_eq_true rfl, Nat.le_of_ble_eq_true rfl⟩ rfl hl.1 (Nat.le_of_ble_eq_true rfl) d_Rd_readElement_1 ⟨Nat.le_of_ble_eq_true rfl, Nat.le_of_ble_eq_true rfl⟩ (fun r13 mem14 H locs hq hP hS => ?_)
  have hD : va_D (Az sz) (fw n ad mem14) := fw_D hD
  obtain ⟨hqe, hpk12⟩ := hq
  rw [hqe] at hP hD
  subst hpk12
  refine lv_topi (fun v16 e_v16 => ?_)
  by_cases c34 : v16 = 34
  · rw [c34]
    refine lv_lookup (off := 58) (tgt := 62) Bx.1 Bx.2.1 d_Rd_readElement_4 (by decide) (by decide) rfl ?_
    rw [e_v16] at c34
    have hlt34 := hereF_lt (show hereF Z T (a) ≠ -1 by rw [c34]; decide)
    refine lv_aload_n Bx.1 Bx.2.1 d_Rd_readElement_62 rfl (lv_at hl 0 rfl) ?_
    refine lv_aload_n Bx.1 Bx.2.1 d_Rd_readElement_63 rfl (lv_at hl 0 rfl) ?_
    refine f_get Bx hP (by omega) h9_2 rfl inRd 2 (by decide) kw_146 rfl rfl d_Rd_readElement_64 ?_
    refine lv_iconst (v := 5) Bx.1 Bx.2.1 d_Rd_readElement_67 (by decide) ?_
    refine f_xVr (na := 2) (As := [.int (nI a), .int (5)]) (rest := []) Bx hml E hP hD hS (by omega) h9_2 rfl (m_Rd_readStringY l hlt hn hT hf hRX (by omega) hSR.1 hSR.2 (by omega) hSa) kw_455 kw_457 sel_Rd_readString kw_6 kw_458 (by decide +kernel) ⟨rfl, rfl⟩ ⟨Nat.le_of_ble_eq_true rfl, Nat.le_of_ble_eq_true rfl⟩ rfl hl.1 (Nat.le_of_ble_eq_true rfl) d_Rd_readElement_68 ⟨Nat.le_of_ble_eq_true rfl, Nat.le_of_ble_eq_true rfl⟩ (fun X ce q9 memx H locs hx9 hP hS g1 g2 g3 => f_out hlocks hno hP hS g1 g2 g3 ⟨Nat.le_of_ble_eq_true rfl, Nat.le_of_ble_eq_true rfl⟩ ⟨hx9.1, Or.inl (fai_str c34 hx9.2 hbd9.2.1)⟩) (fun r17 mem18 H locs hq hP hS => ?_)
    have hD : va_D (Az sz) (fw n ad mem18) := fw_D hD
    obtain ⟨hE9, hq9, hr2, hle9, hRX2, hcl2, ⟨s9, hs0, hs1, hs2, hs3⟩, hfr2⟩ := hq
    subst hr2
    obtain ⟨A2, B2, hrd2, h82⟩ := rds_str (j := 3) (u := u) (nm := nm) c34 hE9 hq9 hLK hF hER hcl2 hs0 hs1 hs2 hs3 (fun k hk => hfr2 (20 + 2 * k) (by omega)) hSa
    exact x_aret hx hb hlocks hr (⟨Ec, _, _, R, Ec + 1, _, A2, B2, nm, to, rfl, by omega, by omega, by omega, by omega, hle9, TOK.of rfl, hRX2, hrd2, h82, (l34 c34).2.2.2⟩) hP hS d_Rd_readElement_71
  by_cases c37 : v16 = 37
  · rw [c37]
    refine lv_lookup (off := 68) (tgt := 72) Bx.1 Bx.2.1 d_Rd_readElement_4 (by decide) (by decide) rfl ?_
    rw [e_v16] at c37
    have hlt37 := hereF_lt (show hereF Z T (a) ≠ -1 by rw [c37]; decide)
    refine lv_aload_n Bx.1 Bx.2.1 d_Rd_readElement_72 rfl (lv_at hl 0 rfl) ?_
    refine f_get Bx hP (by omega) h9_2 rfl inRd 0 (by decide) kw_144 rfl rfl d_Rd_readElement_73 ?_
    refine lv_aload_n Bx.1 Bx.2.1 d_Rd_readElement_76 rfl (lv_at hl 0 rfl) ?_
    refine f_get Bx hP (by omega) h9_2 rfl inRd 2 (by decide) kw_146 rfl rfl d_Rd_readElement_77 ?_
    refine lv_iconst (v := 1) Bx.1 Bx.2.1 d_Rd_readElement_80 (by decide) ?_
    refine lv_iadd Bx.1 Bx.2.1 d_Rd_readElement_81 ?_
    rw [show nI a + 1 = nI (a + 1) from nI_add (a) (1)]
    refine f_callVi (na := 1) (As := [.int (nI (a + 1))]) (rest := []) Bx hml E hP hD hS (by omega) h1_3 rfl (m_Ch_codeAt l (by omega) h1_3 (by omega) h2_4 (by rw [nI_toInt (by omega)]; omega)) kw_341 kw_342 kw_343 kw_2 kw_344 (by decide +kernel) ⟨rfl, rfl⟩ ⟨Nat.le_of_ble_eq_true rfl, Nat.le_of_ble_eq_true rfl⟩ rfl hl.1 (Nat.le_of_ble_eq_true rfl) d_Rd_readElement_82 ⟨Nat.le_of_ble_eq_true rfl, Nat.le_of_ble_eq_true rfl⟩ (fun r19 mem20 H locs hq hP hS => ?_)
    have hD : va_D (Az sz) (fw n ad mem20) := fw_D hD
    obtain ⟨hco21, hqe⟩ := hq
    rw [hqe] at hP hD
    rw [code_here hf hT.2.1 (k := a + 1) (by omega)] at hco21
    subst hco21
    refine f_callSNi (na := 1) (As := [.int (hereF Z T (a + 1))]) (rest := []) Bx hml E.2.1 (m_Ab_smallOfX l (hereF Z T (a + 1))) kw_372 kw_373 kw_1 kw_374 (by decide +kernel) ⟨rfl, rfl⟩ ⟨Nat.le_of_ble_eq_true rfl, Nat.le_of_ble_eq_true rfl⟩ rfl hl.1 (Nat.le_of_ble_eq_true rfl) d_Rd_readElement_85 ⟨Nat.le_of_ble_eq_true rfl, Nat.le_of_ble_eq_true rfl⟩ (fun r23 hs22 => ?_)
    subst hs22
    refine lv_bipush (v := 115) Bx.1 Bx.2.1 d_Rd_readElement_88 (by decide) ?_
    refine lv_icmp_ne Bx.1 Bx.2.1 d_Rd_readElement_90 rfl (fun hb24 => ?_) (fun hb24 => ?_)
    · refine lv_aload_n Bx.1 Bx.2.1 d_Rd_readElement_100 rfl (lv_at hl 0 rfl) ?_
      refine f_xVr (na := 0) (As := []) (rest := []) Bx hml E hP hD hS (by omega) h9_2 rfl (m_Rd_readValueY l hlt hn hT hf hRX (by omega) (u8 := u) (e8 := Ec) (A0 := va_up (elA A Ec 4) 231 (upd (elA A Ec 4 231) Ec (vp_nar .boolean 1))) hSR.1 hSR.2 (by omega) hSa) kw_467 kw_469 sel_Rd_readValue kw_6 kw_470 (by decide +kernel) ⟨rfl, rfl⟩ ⟨Nat.le_of_ble_eq_true rfl, Nat.le_of_ble_eq_true rfl⟩ rfl hl.1 (Nat.le_of_ble_eq_true rfl) d_Rd_readElement_101 ⟨Nat.le_of_ble_eq_true rfl, Nat.le_of_ble_eq_true rfl⟩ (fun X ce q9 memx H locs hx9 hP hS g1 g2 g3 => f_out hlocks hno hP hS g1 g2 g3 ⟨Nat.le_of_ble_eq_true rfl, Nat.le_of_ble_eq_true rfl⟩ ⟨hx9.1, Or.inl (fai_val c37 hb24 hx9.2 hbd9.2.1)⟩) (fun r25 mem26 H locs hq hP hS => ?_)
      have hD : va_D (Az sz) (fw n ad mem26) := fw_D hD
      obtain ⟨hE9, ba, a2, u2, A1, hba, hn9, hr2, x1, x2, hRX2, hsp2, hc2, hfr2⟩ := hq
      subst hr2
      obtain ⟨S2, A2, B2, hrd2, h82⟩ := rds_val (j := 3) (nm := nm) c37 hba hE9 hn9 hsp2 hLK hF hER (fun k hk => hfr2 (20 + 2 * k) (by omega)) hSa x1 hc2
      exact x_aret hx hb hlocks hr (⟨Ec, a2, u2, R, Ec + 1, S2, A2, B2, nm, to, rfl, by omega, by omega, by omega, x1, x2, TOK.of rfl, hRX2, hrd2, h82, (l37 c37).2.2.2.2⟩) hP hS d_Rd_readElement_104
    · refine lv_aload_n Bx.1 Bx.2.1 d_Rd_readElement_93 rfl (lv_at hl 0 rfl) ?_
      refine f_xVr (na := 0) (As := []) (rest := []) Bx hml E hP hD hS (by omega) h9_2 rfl (m_Rd_readExactStringY l hlt hn hT hf hRX (by omega) hSR.1 hSR.2 (by omega) hSa) kw_463 kw_465 sel_Rd_readExactString kw_6 kw_466 (by decide +kernel) ⟨rfl, rfl⟩ ⟨Nat.le_of_ble_eq_true rfl, Nat.le_of_ble_eq_true rfl⟩ rfl hl.1 (Nat.le_of_ble_eq_true rfl) d_Rd_readElement_94 ⟨Nat.le_of_ble_eq_true rfl, Nat.le_of_ble_eq_true rfl⟩ (fun X ce q9 memx H locs hx9 hP hS g1 g2 g3 => f_out hlocks hno hP hS g1 g2 g3 ⟨Nat.le_of_ble_eq_true rfl, Nat.le_of_ble_eq_true rfl⟩ ⟨hx9.1, Or.inl (fai_xst c37 hb24 hx9.2 hbd9.2.1)⟩) (fun r27 mem28 H locs hq hP hS => ?_)
      have hD : va_D (Az sz) (fw n ad mem28) := fw_D hD
      obtain ⟨hq8, hE9, hq9, hr2, hle9, hRX2, hcl2, ⟨s9, hs0, hs1, hs2, hs3⟩, hfr2⟩ := hq
      subst hr2
      obtain ⟨A2, B2, hrd2, h82⟩ := rds_xst (j := 3) (u := u) (nm := nm) c37 hb24 hq8 hE9 hq9 hLK hF hER hcl2 hs0 hs1 hs2 hs3 (fun k hk => hfr2 (20 + 2 * k) (by omega)) hSa
      refine lv_goto Bx.1 Bx.2.1 d_Rd_readElement_97 rfl ?_
      exact x_aret hx hb hlocks hr (⟨Ec, _, _, R, Ec + 1, _, A2, B2, nm, to, rfl, by omega, by omega, by omega, by omega, hle9, TOK.of rfl, hRX2, hrd2, h82, (l37 c37).2.2.2.2⟩) hP hS d_Rd_readElement_104
  by_cases c40 : v16 = 40
  · rw [c40]
    refine lv_lookup (off := 44) (tgt := 48) Bx.1 Bx.2.1 d_Rd_readElement_4 (by decide) (by decide) rfl ?_
    rw [e_v16] at c40
    have hlt40 := hereF_lt (show hereF Z T (a) ≠ -1 by rw [c40]; decide)
    refine lv_aload_n Bx.1 Bx.2.1 d_Rd_readElement_48 rfl (lv_at hl 0 rfl) ?_
    refine lv_iload_n Bx.1 Bx.2.1 d_Rd_readElement_49 rfl (lv_at hl 1 rfl) ?_
    refine lv_bipush (v := 41) Bx.1 Bx.2.1 d_Rd_readElement_50 (by decide) ?_
    refine f_xVr (na := 2) (As := [.int (3), .int (41)]) (rest := []) Bx hml E hP hD hS (by omega) h9_2 rfl (m_Rd_readBracket_3Y l hlt hn hT hf hRX (by omega) (u := u) (A := A) (what := 1) (oe := -1) hER hSR hSa (by omega) (Or.inl ⟨rfl, rfl⟩) hLK) kw_447 kw_449 sel_Rd_readBracket kw_6 kw_450 (by decide +kernel) ⟨rfl, rfl⟩ ⟨Nat.le_of_ble_eq_true rfl, Nat.le_of_ble_eq_true rfl⟩ rfl hl.1 (Nat.le_of_ble_eq_true rfl) d_Rd_readElement_52 ⟨Nat.le_of_ble_eq_true rfl, Nat.le_of_ble_eq_true rfl⟩ (fun X ce q9 memx H locs hx9 hP hS g1 g2 g3 => f_out hlocks hno hP hS g1 g2 g3 ⟨Nat.le_of_ble_eq_true rfl, Nat.le_of_ble_eq_true rfl⟩ ⟨hx9.1, Or.inl (hx9.2.eq (sing_br (l40 c40).1 c40 (by omega)))⟩) (fun r29 mem30 H locs hq hP hS => ?_)
    have hD : va_D (Az sz) (fw n ad mem30) := fw_D hD
    obtain ⟨la31, ax32, ux33, Rx34, Ex35, Sx36, Ax37, Bx_38, nx39, tox40, hr941, h142, h243, h344, h445, htk46, hRX47, ali48, hh49, hent50⟩ := hq
    subst hr941
    have hE9 : Ec < 100 := by have := hRX47.1.1.1; omega
    have hrd9 := brk_rds (nm := nm) hLK hE9 hF hent50 ali48 hh49 ali48.2.1 ali48.2.2.1
    exact x_aret hx hb hlocks hr (⟨Ec, gapF T Z ax32 + 1, ux33, Rx34, Ex35, Sx36, _, _, nx39, tox40, rfl, by omega, by omega, by omega, by have := gapF_ge T Z ax32; omega, by omega, htk46, hRX47, rdsEq hrd9.1 (sing_br (l40 c40).1 c40 (by omega)), hrd9.2, (l40 c40).2⟩) hP hS d_Rd_readElement_55
  by_cases c91 : v16 = 91
  · rw [c91]
    refine lv_lookup (off := 52) (tgt := 56) Bx.1 Bx.2.1 d_Rd_readElement_4 (by decide) (by decide) rfl ?_
    rw [e_v16] at c91
    have hlt91 := hereF_lt (show hereF Z T (a) ≠ -1 by rw [c91]; decide)
    refine lv_aload_n Bx.1 Bx.2.1 d_Rd_readElement_56 rfl (lv_at hl 0 rfl) ?_
    refine lv_iload_n Bx.1 Bx.2.1 d_Rd_readElement_57 rfl (lv_at hl 1 rfl) ?_
    refine f_xVr (na := 1) (As := [.int (3)]) (rest := []) Bx hml E hP hD hS (by omega) h9_2 rfl (m_Rd_readOption_3Y l hlt hn hT hf hRX (by omega) (u := u) (A := A) hER hSR hSa (by omega) hLK hF c91) kw_451 kw_453 sel_Rd_readOption kw_6 kw_454 (by decide +kernel) ⟨rfl, rfl⟩ ⟨Nat.le_of_ble_eq_true rfl, Nat.le_of_ble_eq_true rfl⟩ rfl hl.1 (Nat.le_of_ble_eq_true rfl) d_Rd_readElement_58 ⟨Nat.le_of_ble_eq_true rfl, Nat.le_of_ble_eq_true rfl⟩ (fun X ce q9 memx H locs hx9 hP hS g1 g2 g3 => f_out hlocks hno hP hS g1 g2 g3 ⟨Nat.le_of_ble_eq_true rfl, Nat.le_of_ble_eq_true rfl⟩ ⟨hx9.1, Or.inl hx9.2⟩) (fun r51 mem52 H locs hq hP hS => ?_)
    have hD : va_D (Az sz) (fw n ad mem52) := fw_D hD
    obtain ⟨kx53, ax54, ux55, Rx56, Ex57, Sx58, Ax59, Bx_60, nx61, tox62, hr963, h164, h265, h366, h467, h568, htk69, hRX70, rds71, h872⟩ := hq
    subst hr963
    exact x_aret hx hb hlocks hr (⟨kx53, ax54, ux55, Rx56, Ex57, Sx58, Ax59, Bx_60, nx61, tox62, rfl, h164, h265, h366, h467, h568, htk69, hRX70, rds71, h872, (l91 c91).2⟩) hP hS d_Rd_readElement_61
  refine lv_lookup (off := 101) (tgt := 105) Bx.1 Bx.2.1 d_Rd_readElement_4 (by decide) (by show Op.lookupswitch.offset [(34, 58), (37, 68), (40, 44), (91, 52)] 101 (v16).toInt = 101; rw [lv_osw c34 (by decide), lv_osw c37 (by decide), lv_osw c40 (by decide), lv_osw c91 (by decide)]; rfl) rfl ?_
  rw [e_v16] at c40 c91 c34 c37
  refine lv_aload_n Bx.1 Bx.2.1 d_Rd_readElement_105 rfl (lv_at hl 0 rfl) ?_
  refine f_xVr (na := 0) (As := []) (rest := []) Bx hml E hP hD hS (by omega) h9_2 rfl (m_Rd_readAskedNameY l hlt hn hT hf hRX (by omega) (A := A) (by omega)) kw_478 kw_480 sel_Rd_readAskedName kw_6 kw_481 (by decide +kernel) ⟨rfl, rfl⟩ ⟨Nat.le_of_ble_eq_true rfl, Nat.le_of_ble_eq_true rfl⟩ rfl hl.1 (Nat.le_of_ble_eq_true rfl) d_Rd_readElement_106 ⟨Nat.le_of_ble_eq_true rfl, Nat.le_of_ble_eq_true rfl⟩ (fun X ce q9 memx H locs hx9 hP hS g1 g2 g3 => f_out hlocks hno hP hS g1 g2 g3 ⟨Nat.le_of_ble_eq_true rfl, Nat.le_of_ble_eq_true rfl⟩ ⟨hx9.1, fai_nam c40 c91 c34 c37 hx9.2⟩) (fun r73 mem74 H locs hq hP hS => ?_)
  have hD : va_D (Az sz) (fw n ad mem74) := fw_D hD
  obtain ⟨i9, a2, R2, A3, n2, hsn, hle, hE9, hr2, x1, x2, x3, hA3, htk, ⟨t2, htk2, hRX2⟩, hi9, hcl2, hfr2⟩ := hq
  subst hr2
  have hR12 := hRX2.1.1.1.1
  obtain ⟨A2, B2, hrd2, h82⟩ := rds_nam (j := 3) (u := u) hle hsn hE9 hA3 htk x1 hi9 hR12 hLK hF hER ⟨(hfr2 220 (by omega)).trans hSR.1, (hfr2 221 (by omega)).trans hSR.2⟩ hcl2 (fun k hk => hfr2 (20 + 2 * k) (by omega)) (by omega)
  exact x_aret hx hb hlocks hr (⟨Ec, a2, u, R2, Ec + 1, S, A2, B2, n2, t2, rfl, by omega, by omega, x1, x2, x3, htk2, hRX2, hrd2, h82, lt_ok hle⟩) hP hS d_Rd_readElement_109
set_option maxHeartbeats 4000000 in
set_option maxRecDepth 100000 in
theorem m_Rd_readRepetition_3Y (l : Launch) {D : va_G} {cy : Nat → ClassId} {sz n : Nat} {ad : Nat → Nat} {mem : Nat → va_E} {Z a R Ec lim : Nat} {f T : Nat → Int32} {to : Nat → Int32} {nm : Nat → Int64} {m0 : Nat → va_E} {u S : Nat} {A Bw : Ro} (hlt : l.stackTraces = false) (hn : 224 ≤ n) (hT : TX cy ad Z f m0) (hf : ∀ k, k < Z → f k = T k) (hRX : RX cy ad lim a R Ec to nm m0 mem) (haB : a ≤ 300) (hER : ER ad R Ec Bw mem) (hSR : SR cy ad S Bw mem) (hSa : S ≤ a) (haZ : a ≤ Z) (hLK : LKa Ec A) (hF : FRM A 3 Ec) (h39 : A 239 3 = -1) (hbg : bgF (hereF Z T a) = true) : NXr l D cy sz n ad y_Rd_readRepetition c_Rd_readRepetition 3 (some (.object "AbnfChart$Element")) ({ frames := 35, cells := 1, slots := 6, locals := 838 } : Room) mem [.ref (ad 222), .int (3)] (fun r mem' => ∃ (k' a' u' R' E' S' : Nat) (A' Bw' : Ro) (nm' : Nat → Int64) (to' : Nat → Int32), r = ad (20 + 2 * k') ∧ Ec ≤ k' ∧ k' < E' ∧ R ≤ R' ∧ a < a' ∧ a' ≤ Z ∧ TOK R R' to to' ∧ RX cy ad lim a' R' E' to' nm' m0 mem' ∧ RDS cy ad T Z 3 (repS T Z a u R Ec 3 A nm) (PSf A 3) R Ec S u A Bw k' a' u' R' E' S' A' Bw' nm' mem' ∧ A' 238 3 = A 238 3) (fun X mem' => ((X = cIA ∨ X = cIS) ∧ ∃ rc' ec' : Nat, RS cy ad lim rc' ec' m0 mem') ∧ (Fai T Z (repS T Z a u R Ec 3 A nm))) := by
  refine vx_ofW (cc := c_Rd_readRepetition) (maxL := 3) (ret := (some (.object "AbnfChart$Element"))) (by decide) rfl ?_
  intro p e s m args below meth c s₁ B hml hno hv
  obtain ⟨rfl, E, hP, hD⟩ := hv
  have hx := B.exec
  have hb := B.bytes
  have hr := B.returns
  have hlocks := B.notSynchronized
  have Bx : MB p s m [.ref (ad 222), .int (3)].toArray c c_Rd_readRepetition "AbnfChart$Reader" D cy := ⟨hx, hb, tb_all (atoms_spec B.pre) E.2.1, findClass_of_methodNamed B.named, E.1⟩
  have hS : va_S (Az sz) s.heap s.heap [] := va_S.rf
  have hl := lv_entry ([.ref (ad 222), .int (3)]) (n := 3) (Nat.le_of_ble_eq_true rfl)
  rw [lg_entry_eq]
  generalize (lg_sl ([.ref (ad 222), .int (3)]) ++ List.replicate (3 - (lg_sl ([.ref (ad 222), .int (3)])).length) Slot.unset).toArray = ls at hl ⊢
  have hl : lv_has ls 3 [(0, .ref (ad 222)), (1, .int (3))] := hl
  have hZ9 := hT.2.1
  have hbd9 := hRX.1.1.1
  have hfr0 : ∀ i, 19 ≤ i ∧ i < 222 ∧ i ≠ 20 + 2 * Ec → mem i = mem i := fun _ _ => rfl
  obtain ⟨ft1, h9_2⟩ := hRX.2.1
  have h1_3 : mem 1 = .inr (0, [.ref (ad 2), .int (nI Z)]) := (hRX.1.2.2 1 (by omega)).trans hT.1
  have h2_4 : mem 2 = .inl (cy 0, 240, .inl f) := (hRX.1.2.2 2 (by omega)).trans hT.2.2
  have h5_5 := hRX.1.1.2.1
  have hbd11 := hRX.1.1.1
  obtain ⟨S6, g7, hS_8, h220_9, h221_10⟩ := hRX.1.1.2.2.2.2.2.2
  refine lv_aload_n Bx.1 Bx.2.1 d_Rd_readRepetition_0 rfl (lv_at hl 0 rfl) ?_
  refine f_callVi (na := 0) (As := []) (rest := []) Bx hml E hP hD hS (by omega) h9_2 rfl (m_Rd_peekX l hn hT hf hRX (by omega)) kw_353 kw_355 sel_Rd_peek kw_6 kw_356 (by decide +kernel) ⟨rfl, rfl⟩ ⟨Nat.le_of_ble_eq_true rfl, Nat.le_of_ble_eq_true rfl⟩ rfl hl.1 (Nat.le_of_ble_eq_true rfl) d_Rd_readRepetition_1 ⟨Nat.le_of_ble_eq_true rfl, Nat.le_of_ble_eq_true rfl⟩ (fun r13 mem14 H locs hq hP hS => ?_)
  have hD : va_D (Az sz) (fw n ad mem14) := fw_D hD
  obtain ⟨hqe, hpk12⟩ := hq
  rw [hqe] at hP hD
  subst hpk12
  refine f_callSi (na := 1) (As := [.int (hereF Z T (a))]) (rest := []) Bx hml E.2.1 (m_Rd_beginsRepeatX l (hereF Z T (a))) kw_416 kw_417 kw_6 kw_418 (by decide +kernel) ⟨rfl, rfl⟩ ⟨Nat.le_of_ble_eq_true rfl, Nat.le_of_ble_eq_true rfl⟩ rfl hl.1 (Nat.le_of_ble_eq_true rfl) d_Rd_readRepetition_4 ⟨Nat.le_of_ble_eq_true rfl, Nat.le_of_ble_eq_true rfl⟩ (fun r17 hs16 => ?_)
  subst hs16
  refine lv_if_ne Bx.1 Bx.2.1 d_Rd_readRepetition_7 rfl (fun hb18 => ?_) (fun hb18 => ?_)
  · refine lv_aload_n Bx.1 Bx.2.1 d_Rd_readRepetition_16 rfl (lv_at hl 0 rfl) ?_
    refine lv_iconst (v := 2) Bx.1 Bx.2.1 d_Rd_readRepetition_17 (by decide) ?_
    refine lv_aload_n Bx.1 Bx.2.1 d_Rd_readRepetition_18 rfl (lv_at hl 0 rfl) ?_
    refine f_get Bx hP (by omega) h9_2 rfl inRd 2 (by decide) kw_146 rfl rfl d_Rd_readRepetition_19 ?_
    refine f_xVr (na := 2) (As := [.int (2), .int (nI a)]) (rest := []) Bx hml E hP hD hS (by omega) h9_2 rfl (m_Rd_addElementY l hlt hn hT hf hRX (by omega)) kw_419 kw_421 sel_Rd_addElement kw_6 kw_422 (by decide +kernel) ⟨rfl, rfl⟩ ⟨Nat.le_of_ble_eq_true rfl, Nat.le_of_ble_eq_true rfl⟩ rfl hl.1 (Nat.le_of_ble_eq_true rfl) d_Rd_readRepetition_22 ⟨Nat.le_of_ble_eq_true rfl, Nat.le_of_ble_eq_true rfl⟩ (fun X ce q9 memx H locs hx9 hP hS g1 g2 g3 => f_out hlocks hno hP hS g1 g2 g3 ⟨Nat.le_of_ble_eq_true rfl, Nat.le_of_ble_eq_true rfl⟩ ⟨hx9.1, Or.inl (rep_E (bpF_1 hb18) hx9.2)⟩) (fun r19 mem20 H locs hq hP hS => ?_)
    have hD : va_D (Az sz) (fw n ad mem20) := fw_D hD
    obtain ⟨hr921, hec22, hRX23, hcl24, hfa25⟩ := hq
    subst hr921
    have hfr26 : ∀ i, 19 ≤ i ∧ i < 222 ∧ i ≠ 20 + 2 * Ec → mem20 i = mem i := fun i q => (hfa25 i (by omega)).trans (hfr0 i q)
    obtain ⟨ft27, h9_28⟩ := hRX23.2.1
    have h1_29 : mem20 1 = .inr (0, [.ref (ad 2), .int (nI Z)]) := (hRX23.1.2.2 1 (by omega)).trans hT.1
    have h2_30 : mem20 2 = .inl (cy 0, 240, .inl f) := (hRX23.1.2.2 2 (by omega)).trans hT.2.2
    have h5_31 := hRX23.1.1.2.1
    have hbd37 := hRX23.1.1.1
    obtain ⟨S32, g33, hS_34, h220_35, h221_36⟩ := hRX23.1.1.2.2.2.2.2.2
    obtain ⟨ft38, h9_39⟩ := hRX23.2.1
    have h1_40 : mem20 1 = .inr (0, [.ref (ad 2), .int (nI Z)]) := (hRX23.1.2.2 1 (by omega)).trans hT.1
    have h2_41 : mem20 2 = .inl (cy 0, 240, .inl f) := (hRX23.1.2.2 2 (by omega)).trans hT.2.2
    have h5_42 := hRX23.1.1.2.1
    have hbd48 := hRX23.1.1.1
    obtain ⟨S43, g44, hS_45, h220_46, h221_47⟩ := hRX23.1.1.2.2.2.2.2.2
    refine lv_astore_n (lv' := [(2, .ref (ad (20 + 2 * Ec))), (0, .ref (ad 222)), (1, .int (3))]) Bx.1 Bx.2.1 d_Rd_readRepetition_25 rfl hl (by decide) rfl (fun ls hl => ?_)
    refine lv_aload_n Bx.1 Bx.2.1 d_Rd_readRepetition_26 rfl (lv_at hl 1 rfl) ?_
    refine lv_aload_n Bx.1 Bx.2.1 d_Rd_readRepetition_27 rfl (lv_at hl 0 rfl) ?_
    have hdg := bpF_1 hb18
    have hE9 := hec22
    refine f_xVv (na := 1) (As := [.ref (ad (20 + 2 * Ec))]) (rest := []) Bx hml E hP hD hS (by omega) h9_39 rfl (m_Rd_readRepeatY l hlt hn hT hf hRX23 (by omega) (by omega) hcl24 (by omega) hdg) kw_482 kw_484 sel_Rd_readRepeat kw_6 kw_485 (by decide +kernel) ⟨rfl, rfl⟩ ⟨Nat.le_of_ble_eq_true rfl, Nat.le_of_ble_eq_true rfl⟩ rfl hl.1 (Nat.le_of_ble_eq_true rfl) d_Rd_readRepetition_28 ⟨Nat.le_of_ble_eq_true rfl, Nat.le_of_ble_eq_true rfl⟩ (fun X ce q9 memx H locs hx9 hP hS g1 g2 g3 => f_out hlocks hno hP hS g1 g2 g3 ⟨Nat.le_of_ble_eq_true rfl, Nat.le_of_ble_eq_true rfl⟩ ⟨hx9.1, hx9.2.elim (fun v1 z => z.elim (fun b1 z => z.elim (fun v2 z => z.elim (fun b2 z => Or.inl (rep_bad hdg hE9 z.1 z.2.1 (Or.inl z.2.2))))))⟩) (fun mem50 H locs hq hP hS => ?_)
    have hD : va_D (Az sz) (fw n ad mem50) := fw_D hD
    obtain ⟨v1, b1, v2, b2, hr1, hr2, hnv, hb8, hb9, hRXr, hclr, hfar⟩ := hq
    have hfr51 : ∀ i, 19 ≤ i ∧ i < 222 ∧ i ≠ 20 + 2 * Ec → mem50 i = mem i := fun i q => (hfar i (by omega)).trans (hfr26 i q)
    obtain ⟨ft52, h9_53⟩ := hRXr.2.1
    have h1_54 : mem50 1 = .inr (0, [.ref (ad 2), .int (nI Z)]) := (hRXr.1.2.2 1 (by omega)).trans hT.1
    have h2_55 : mem50 2 = .inl (cy 0, 240, .inl f) := (hRXr.1.2.2 2 (by omega)).trans hT.2.2
    have h5_56 := hRXr.1.1.2.1
    have hbd62 := hRXr.1.1.1
    obtain ⟨S57, g58, hS_59, h220_60, h221_61⟩ := hRXr.1.1.2.2.2.2.2.2
    obtain ⟨ft63, h9_64⟩ := hRXr.2.1
    have h1_65 : mem50 1 = .inr (0, [.ref (ad 2), .int (nI Z)]) := (hRXr.1.2.2 1 (by omega)).trans hT.1
    have h2_66 : mem50 2 = .inl (cy 0, 240, .inl f) := (hRXr.1.2.2 2 (by omega)).trans hT.2.2
    have h5_67 := hRXr.1.1.2.1
    have hbd73 := hRXr.1.1.1
    obtain ⟨S68, g69, hS_70, h220_71, h221_72⟩ := hRXr.1.1.2.2.2.2.2.2
    refine lv_aload_n Bx.1 Bx.2.1 d_Rd_readRepetition_31 rfl (lv_at hl 0 rfl) ?_
    refine lv_aload_n Bx.1 Bx.2.1 d_Rd_readRepetition_32 rfl (lv_at hl 1 rfl) ?_
    refine lv_iload_n Bx.1 Bx.2.1 d_Rd_readRepetition_33 rfl (lv_at hl 2 rfl) ?_
    have her74 : ER ad R (Ec + 1) (bwN Bw Ec 2 (v1) (v2) (-1) (-1) (-1) (Bw 234)) mem50 := hER.new (Nat.le_refl _) (by rw [vR_m]; exact hclr) (Or.inl rfl) (fun i9 hi9 => hfr51 (20 + 2 * i9) (by omega))
    have hsr75 : SR cy ad S (bwN Bw Ec 2 (v1) (v2) (-1) (-1) (-1) (Bw 234)) mem50 := ⟨(hfr51 220 (by omega)).trans hSR.1, (hfr51 221 (by omega)).trans hSR.2⟩
    obtain ⟨hLK1, hF1⟩ := frm_rep (v1 := v1) (v2 := v2) hLK hE9 hF h39
    refine f_xVr (na := 1) (As := [.int (3)]) (rest := [.ref (ad (20 + 2 * Ec))]) Bx hml E hP hD hS (by omega) h9_64 rfl (m_Rd_readElement_3Y l hlt hn hT hf hRXr (by omega) (u := u) (A := repB A 3 Ec v1 v2) her74 hsr75 (by omega) (by omega) hLK1 hF1) kw_443 kw_445 sel_Rd_readElement kw_6 kw_446 (by decide +kernel) ⟨rfl, rfl⟩ ⟨Nat.le_of_ble_eq_true rfl, Nat.le_of_ble_eq_true rfl⟩ rfl hl.1 (Nat.le_of_ble_eq_true rfl) d_Rd_readRepetition_34 ⟨Nat.le_of_ble_eq_true rfl, Nat.le_of_ble_eq_true rfl⟩ (fun X ce q9 memx H locs hx9 hP hS g1 g2 g3 => f_out hlocks hno hP hS g1 g2 g3 ⟨Nat.le_of_ble_eq_true rfl, Nat.le_of_ble_eq_true rfl⟩ ⟨hx9.1, rep_fai hdg hE9 hr1 hr2 hnv hx9.2⟩) (fun r76 mem77 H locs hq hP hS => ?_)
    have hD : va_D (Az sz) (fw n ad mem77) := fw_D hD
    obtain ⟨kx78, ax79, ux80, Rx81, Ex82, Sx83, Ax84, Bx_85, nx86, tox87, hr988, h189, h290, h391, h492, h593, htk94, hRX95, rds96, h897, hok98⟩ := hq
    subst hr988
    obtain ⟨ft99, h9_100⟩ := hRX95.2.1
    have h1_101 : mem77 1 = .inr (0, [.ref (ad 2), .int (nI Z)]) := (hRX95.1.2.2 1 (by omega)).trans hT.1
    have h2_102 : mem77 2 = .inl (cy 0, 240, .inl f) := (hRX95.1.2.2 2 (by omega)).trans hT.2.2
    have h5_103 := hRX95.1.1.2.1
    have hbd109 := hRX95.1.1.1
    obtain ⟨S104, g105, hS_106, h220_107, h221_108⟩ := hRX95.1.1.2.2.2.2.2.2
    have hbd110 := hRX95.1.1.1
    have hce111 := (rds96.2.1 Ec (by omega)).1
    refine f_putN Bx hP hD hS (by omega) hce111 rfl inEl tyEl okEl nmEl 4 (by decide) kw_87 rfl rfl rfl rfl (Nat.le_of_ble_eq_true rfl) d_Rd_readRepetition_37 (fun H locs hP hS => ?_)
    obtain ⟨mem112, e_mem112⟩ : ∃ z, z = va_up mem77 ((20 + 2 * Ec)) (.inr (2, [.int (Bx_85 228 Ec), .int (Bx_85 229 Ec), .int (Bx_85 230 Ec), vR ad (Bx_85 231 Ec), .ref (ad (20 + 2 * kx78)), vE ad (Bx_85 233 Ec), .ref (ad (21 + 2 * Ec))])) := ⟨_, rfl⟩
    have hP : va_P D vcl (fw n ad mem112) H := by rw [e_mem112]; exact hP
    have hD : va_D (Az sz) (fw n ad mem112) := fw_D hD
    have h_mem112 : mem112 ((20 + 2 * Ec)) = .inr (2, [.int (Bx_85 228 Ec), .int (Bx_85 229 Ec), .int (Bx_85 230 Ec), vR ad (Bx_85 231 Ec), .ref (ad (20 + 2 * kx78)), vE ad (Bx_85 233 Ec), .ref (ad (21 + 2 * Ec))]) := by rw [e_mem112, va_up_self]
    have hh113 := (va_up_ne mem77 (.inr (2, [.int (Bx_85 228 Ec), .int (Bx_85 229 Ec), .int (Bx_85 230 Ec), vR ad (Bx_85 231 Ec), .ref (ad (20 + 2 * kx78)), vE ad (Bx_85 233 Ec), .ref (ad (21 + 2 * Ec))])) (show (222 : Nat) ≠ (20 + 2 * Ec) by first | decide | assumption | omega)).trans h9_100
    rw [← e_mem112] at hh113
    have hh114 := (va_up_ne mem77 (.inr (2, [.int (Bx_85 228 Ec), .int (Bx_85 229 Ec), .int (Bx_85 230 Ec), vR ad (Bx_85 231 Ec), .ref (ad (20 + 2 * kx78)), vE ad (Bx_85 233 Ec), .ref (ad (21 + 2 * Ec))])) (show (1 : Nat) ≠ (20 + 2 * Ec) by first | decide | assumption | omega)).trans h1_101
    rw [← e_mem112] at hh114
    have hh115 := (va_up_ne mem77 (.inr (2, [.int (Bx_85 228 Ec), .int (Bx_85 229 Ec), .int (Bx_85 230 Ec), vR ad (Bx_85 231 Ec), .ref (ad (20 + 2 * kx78)), vE ad (Bx_85 233 Ec), .ref (ad (21 + 2 * Ec))])) (show (5 : Nat) ≠ (20 + 2 * Ec) by first | decide | assumption | omega)).trans h5_103
    rw [← e_mem112] at hh115
    have hh116 := (va_up_ne mem77 (.inr (2, [.int (Bx_85 228 Ec), .int (Bx_85 229 Ec), .int (Bx_85 230 Ec), vR ad (Bx_85 231 Ec), .ref (ad (20 + 2 * kx78)), vE ad (Bx_85 233 Ec), .ref (ad (21 + 2 * Ec))])) (show (220 : Nat) ≠ (20 + 2 * Ec) by first | decide | assumption | omega)).trans h220_107
    rw [← e_mem112] at hh116
    have hRX117 : RX cy ad lim (ax79) (Rx81) (Ex82) (tox87) (nx86) m0 mem112 := by rw [e_mem112]; exact hRX95.el (by omega) (hRX95.1.mk (by omega) (hRX95.1.1.upEl (by omega) (fun _ => ⟨(rds96.2.1 Ec (by omega)).2.1.oR ad, Or.inr ⟨kx78, by omega, by omega, rfl⟩, (rds96.2.1 Ec (by omega)).2.2.2.oE ad (by omega)⟩)))
    have her118 : ER ad (Rx81) (Ex82) (va_up Bx_85 232 (upd (Bx_85 232) Ec (nI kx78))) mem112 := rds96.2.1.part (by omega) (by omega) (by omega) h_mem112 (fun i9 q9 hi9 => by rw [e_mem112]; exact va_up_ne _ _ (by omega))
    have hsr119 : SR cy ad (Sx83) (Bx_85) mem112 := ⟨(show mem112 220 = mem77 220 by rw [e_mem112]; exact va_up_ne _ _ (by omega)).trans rds96.2.2.1.1, (show mem112 221 = mem77 221 by rw [e_mem112]; exact va_up_ne _ _ (by omega)).trans rds96.2.2.1.2⟩
    obtain ⟨ft120, h9_121⟩ := hRX117.2.1
    have h1_122 : mem112 1 = .inr (0, [.ref (ad 2), .int (nI Z)]) := (hRX117.1.2.2 1 (by omega)).trans hT.1
    have h2_123 : mem112 2 = .inl (cy 0, 240, .inl f) := (hRX117.1.2.2 2 (by omega)).trans hT.2.2
    have h5_124 := hRX117.1.1.2.1
    have hbd130 := hRX117.1.1.1
    obtain ⟨S125, g126, hS_127, h220_128, h221_129⟩ := hRX117.1.1.2.2.2.2.2.2
    refine lv_aload_n Bx.1 Bx.2.1 d_Rd_readRepetition_40 rfl (lv_at hl 0 rfl) ?_
    have hrd9 := rep_rds hLK hE9 hF h39 rds96 h897 ⟨by omega, by omega⟩ (rep_suc (u := u) (R := R) (f := 3) (A := A) (nm := nm) hdg hE9 hr1 hr2 hnv hok98) her118 hsr119
    exact x_aret hx hb hlocks hr (⟨Ec, ax79, ux80, Rx81, Ex82, Sx83, _, _, nx86, tox87, rfl, by omega, by omega, by omega, by omega, by omega, htk94, hRX117, hrd9.1, hrd9.2⟩) hP hS d_Rd_readRepetition_41
  · refine lv_aload_n Bx.1 Bx.2.1 d_Rd_readRepetition_10 rfl (lv_at hl 0 rfl) ?_
    refine lv_iload_n Bx.1 Bx.2.1 d_Rd_readRepetition_11 rfl (lv_at hl 1 rfl) ?_
    obtain ⟨hd0, h42⟩ := bpF_0 hb18
    refine f_xVr (na := 1) (As := [.int (3)]) (rest := []) Bx hml E hP hD hS (by omega) h9_2 rfl (m_Rd_readElement_3Y l hlt hn hT hf hRX (by omega) (u := u) (A := A) hER hSR hSa (by omega) hLK hF) kw_443 kw_445 sel_Rd_readElement kw_6 kw_446 (by decide +kernel) ⟨rfl, rfl⟩ ⟨Nat.le_of_ble_eq_true rfl, Nat.le_of_ble_eq_true rfl⟩ rfl hl.1 (Nat.le_of_ble_eq_true rfl) d_Rd_readRepetition_12 ⟨Nat.le_of_ble_eq_true rfl, Nat.le_of_ble_eq_true rfl⟩ (fun X ce q9 memx H locs hx9 hP hS g1 g2 g3 => f_out hlocks hno hP hS g1 g2 g3 ⟨Nat.le_of_ble_eq_true rfl, Nat.le_of_ble_eq_true rfl⟩ ⟨hx9.1, (hx9.2.resolve_right (fun z => z ⟨hbg, hd0, h42⟩)).eq (rep_no hd0 h42)⟩) (fun r131 mem132 H locs hq hP hS => ?_)
    have hD : va_D (Az sz) (fw n ad mem132) := fw_D hD
    obtain ⟨kx133, ax134, ux135, Rx136, Ex137, Sx138, Ax139, Bx_140, nx141, tox142, hr9143, h1144, h2145, h3146, h4147, h5148, htk149, hRX150, rds151, h8152, hok153⟩ := hq
    subst hr9143
    obtain ⟨ft154, h9_155⟩ := hRX150.2.1
    have h1_156 : mem132 1 = .inr (0, [.ref (ad 2), .int (nI Z)]) := (hRX150.1.2.2 1 (by omega)).trans hT.1
    have h2_157 : mem132 2 = .inl (cy 0, 240, .inl f) := (hRX150.1.2.2 2 (by omega)).trans hT.2.2
    have h5_158 := hRX150.1.1.2.1
    have hbd164 := hRX150.1.1.1
    obtain ⟨S159, g160, hS_161, h220_162, h221_163⟩ := hRX150.1.1.2.2.2.2.2.2
    have hbd165 := hRX150.1.1.1
    exact x_aret hx hb hlocks hr (⟨kx133, ax134, ux135, Rx136, Ex137, Sx138, Ax139, Bx_140, nx141, tox142, rfl, h1144, h2145, h3146, h4147, h5148, htk149, hRX150, rdsEq rds151 (rep_no hd0 h42), h8152⟩) hP hS d_Rd_readRepetition_15
set_option maxHeartbeats 4000000 in
set_option maxRecDepth 100000 in
theorem m_Rd_readSequence_3Y (l : Launch) {D : va_G} {cy : Nat → ClassId} {sz n : Nat} {ad : Nat → Nat} {mem : Nat → va_E} {Z a R Ec lim : Nat} {f T : Nat → Int32} {to : Nat → Int32} {nm : Nat → Int64} {m0 : Nat → va_E} {u S : Nat} {A Bw : Ro} {cq : Nat} (hlt : l.stackTraces = false) (hn : 224 ≤ n) (hT : TX cy ad Z f m0) (hf : ∀ k, k < Z → f k = T k) (hRX : RX cy ad lim a R Ec to nm m0 mem) (haB : a ≤ 300) (hER : ER ad R Ec Bw mem) (hSR : SR cy ad S Bw mem) (hSa : S ≤ a) (haZ : a ≤ Z) (hLK : LKa Ec A) (hc : A 237 3 = nI cq) (hcl : cq < Ec) (h39 : A 239 3 = -1) : NXr l D cy sz n ad y_Rd_readSequence c_Rd_readSequence 5 (some (.object "AbnfChart$Element")) ({ frames := 36, cells := 1, slots := 6, locals := 862 } : Room) mem [.ref (ad 222), .int (3)] (fun r mem' => ∃ (a' u' R' E' S' : Nat) (A' Bw' : Ro) (nm' : Nat → Int64) (to' : Nat → Int32), r = ad (20 + 2 * Ec) ∧ Ec < E' ∧ R ≤ R' ∧ a < a' ∧ a' ≤ Z ∧ TOK R R' to to' ∧ RX cy ad lim (gapF T Z a') R' E' to' nm' m0 mem' ∧ RDS cy ad T Z 3 (seqS T Z a u R Ec 3 A nm) (slotOf A cq) R Ec S u A Bw Ec a' u' R' E' S' A' Bw' nm' mem' ∧ ¬ (bgF (hereF Z T (gapF T Z a')) = true ∧ a' < gapF T Z a')) (fun X mem' => ((X = cIA ∨ X = cIS) ∧ ∃ rc' ec' : Nat, RS cy ad lim rc' ec' m0 mem') ∧ (Fai T Z (seqS T Z a u R Ec 3 A nm))) := by
  refine vx_ofW (cc := c_Rd_readSequence) (maxL := 5) (ret := (some (.object "AbnfChart$Element"))) (by decide) rfl ?_
  intro p e s m args below meth c s₁ B hml hno hv
  obtain ⟨rfl, E, hP, hD⟩ := hv
  have hx := B.exec
  have hb := B.bytes
  have hr := B.returns
  have hlocks := B.notSynchronized
  have Bx : MB p s m [.ref (ad 222), .int (3)].toArray c c_Rd_readSequence "AbnfChart$Reader" D cy := ⟨hx, hb, tb_all (atoms_spec B.pre) E.2.1, findClass_of_methodNamed B.named, E.1⟩
  have hS : va_S (Az sz) s.heap s.heap [] := va_S.rf
  have hl := lv_entry ([.ref (ad 222), .int (3)]) (n := 5) (Nat.le_of_ble_eq_true rfl)
  rw [lg_entry_eq]
  generalize (lg_sl ([.ref (ad 222), .int (3)]) ++ List.replicate (5 - (lg_sl ([.ref (ad 222), .int (3)])).length) Slot.unset).toArray = ls at hl ⊢
  have hl : lv_has ls 5 [(0, .ref (ad 222)), (1, .int (3))] := hl
  have hZ9 := hT.2.1
  have hbd9 := hRX.1.1.1
  have hfr0 : ∀ i, 19 ≤ i ∧ i < 222 ∧ i ≠ 20 + 2 * Ec → mem i = mem i := fun _ _ => rfl
  obtain ⟨ft1, h9_2⟩ := hRX.2.1
  have h1_3 : mem 1 = .inr (0, [.ref (ad 2), .int (nI Z)]) := (hRX.1.2.2 1 (by omega)).trans hT.1
  have h2_4 : mem 2 = .inl (cy 0, 240, .inl f) := (hRX.1.2.2 2 (by omega)).trans hT.2.2
  have h5_5 := hRX.1.1.2.1
  have hbd11 := hRX.1.1.1
  obtain ⟨S6, g7, hS_8, h220_9, h221_10⟩ := hRX.1.1.2.2.2.2.2.2
  refine lv_aload_n Bx.1 Bx.2.1 d_Rd_readSequence_0 rfl (lv_at hl 0 rfl) ?_
  refine lv_iconst (v := 1) Bx.1 Bx.2.1 d_Rd_readSequence_1 (by decide) ?_
  refine f_xVr (na := 1) (As := [.int (1)]) (rest := []) Bx hml E hP hD hS (by omega) h9_2 rfl (m_Rd_beginRowY l hlt hn hT hf hRX (by omega)) kw_409 kw_411 sel_Rd_beginRow kw_6 kw_412 (by decide +kernel) ⟨rfl, rfl⟩ ⟨Nat.le_of_ble_eq_true rfl, Nat.le_of_ble_eq_true rfl⟩ rfl hl.1 (Nat.le_of_ble_eq_true rfl) d_Rd_readSequence_2 ⟨Nat.le_of_ble_eq_true rfl, Nat.le_of_ble_eq_true rfl⟩ (fun X ce q9 memx H locs hx9 hP hS g1 g2 g3 => f_out hlocks hno hP hS g1 g2 g3 ⟨Nat.le_of_ble_eq_true rfl, Nat.le_of_ble_eq_true rfl⟩ ⟨hx9.1, Or.inl (seq_no hx9.2)⟩) (fun r12 mem13 H locs hq hP hS => ?_)
  have hD : va_D (Az sz) (fw n ad mem13) := fw_D hD
  obtain ⟨hbg, hE9, hr9, hRXb, hclb, hfab⟩ := hq
  subst hr9
  have hfr14 : ∀ i, 19 ≤ i ∧ i < 222 ∧ i ≠ 20 + 2 * Ec → mem13 i = mem i := fun i q => (hfab i (by omega)).trans (hfr0 i q)
  obtain ⟨ft15, h9_16⟩ := hRXb.2.1
  have h1_17 : mem13 1 = .inr (0, [.ref (ad 2), .int (nI Z)]) := (hRXb.1.2.2 1 (by omega)).trans hT.1
  have h2_18 : mem13 2 = .inl (cy 0, 240, .inl f) := (hRXb.1.2.2 2 (by omega)).trans hT.2.2
  have h5_19 := hRXb.1.1.2.1
  have hbd25 := hRXb.1.1.1
  obtain ⟨S20, g21, hS_22, h220_23, h221_24⟩ := hRXb.1.1.2.2.2.2.2.2
  obtain ⟨ft26, h9_27⟩ := hRXb.2.1
  have h1_28 : mem13 1 = .inr (0, [.ref (ad 2), .int (nI Z)]) := (hRXb.1.2.2 1 (by omega)).trans hT.1
  have h2_29 : mem13 2 = .inl (cy 0, 240, .inl f) := (hRXb.1.2.2 2 (by omega)).trans hT.2.2
  have h5_30 := hRXb.1.1.2.1
  have hbd36 := hRXb.1.1.1
  obtain ⟨S31, g32, hS_33, h220_34, h221_35⟩ := hRXb.1.1.2.2.2.2.2.2
  refine lv_astore_n (lv' := [(2, .ref (ad (20 + 2 * Ec))), (0, .ref (ad 222)), (1, .int (3))]) Bx.1 Bx.2.1 d_Rd_readSequence_5 rfl hl (by decide) rfl (fun ls hl => ?_)
  refine lv_aload_n Bx.1 Bx.2.1 d_Rd_readSequence_6 rfl (lv_at hl 1 rfl) ?_
  refine lv_iload_n Bx.1 Bx.2.1 d_Rd_readSequence_7 rfl (lv_at hl 2 rfl) ?_
  have her37 : ER ad R (Ec + 1) (bwN Bw Ec 1 (0) (0) (-1) (-1) (-1) (Bw 234)) mem13 := hER.new (Nat.le_refl _) (by rw [vR_m]; exact hclb) (Or.inl rfl) (fun i9 hi9 => hfr14 (20 + 2 * i9) (by omega))
  have hsr38 : SR cy ad S (bwN Bw Ec 1 (0) (0) (-1) (-1) (-1) (Bw 234)) mem13 := ⟨(hfr14 220 (by omega)).trans hSR.1, (hfr14 221 (by omega)).trans hSR.2⟩
  obtain ⟨hLK1, hF1, h391⟩ := frm_seq hLK hE9 hc hcl h39
  refine f_xVr (na := 1) (As := [.int (3)]) (rest := []) Bx hml E hP hD hS (by omega) h9_27 rfl (m_Rd_readRepetition_3Y l hlt hn hT hf hRXb (by omega) (u := u) (A := seqA A 3 Ec) her37 hsr38 (by omega) (by omega) hLK1 hF1 h391 hbg) kw_439 kw_441 sel_Rd_readRepetition kw_6 kw_442 (by decide +kernel) ⟨rfl, rfl⟩ ⟨Nat.le_of_ble_eq_true rfl, Nat.le_of_ble_eq_true rfl⟩ rfl hl.1 (Nat.le_of_ble_eq_true rfl) d_Rd_readSequence_8 ⟨Nat.le_of_ble_eq_true rfl, Nat.le_of_ble_eq_true rfl⟩ (fun X ce q9 memx H locs hx9 hP hS g1 g2 g3 => f_out hlocks hno hP hS g1 g2 g3 ⟨Nat.le_of_ble_eq_true rfl, Nat.le_of_ble_eq_true rfl⟩ ⟨hx9.1, hx9.2.eq (seq_ok hbg hE9)⟩) (fun r39 mem40 H locs hq hP hS => ?_)
  have hD : va_D (Az sz) (fw n ad mem40) := fw_D hD
  obtain ⟨kx41, ax42, ux43, Rx44, Ex45, Sx46, Ax47, Bx_48, nx49, tox50, hr951, h152, h253, h354, h455, h556, htk57, hRX58, rds59, h860⟩ := hq
  subst hr951
  obtain ⟨ft61, h9_62⟩ := hRX58.2.1
  have h1_63 : mem40 1 = .inr (0, [.ref (ad 2), .int (nI Z)]) := (hRX58.1.2.2 1 (by omega)).trans hT.1
  have h2_64 : mem40 2 = .inl (cy 0, 240, .inl f) := (hRX58.1.2.2 2 (by omega)).trans hT.2.2
  have h5_65 := hRX58.1.1.2.1
  have hbd71 := hRX58.1.1.1
  obtain ⟨S66, g67, hS_68, h220_69, h221_70⟩ := hRX58.1.1.2.2.2.2.2.2
  have hbd72 := hRX58.1.1.1
  refine lv_astore_n (lv' := [(3, .ref (ad (20 + 2 * kx41))), (2, .ref (ad (20 + 2 * Ec))), (0, .ref (ad 222)), (1, .int (3))]) Bx.1 Bx.2.1 d_Rd_readSequence_11 rfl hl (by decide) rfl (fun ls hl => ?_)
  refine lv_aload_n Bx.1 Bx.2.1 d_Rd_readSequence_12 rfl (lv_at hl 1 rfl) ?_
  refine lv_aload_n Bx.1 Bx.2.1 d_Rd_readSequence_13 rfl (lv_at hl 0 rfl) ?_
  have hce73 := (rds59.2.1 Ec (by omega)).1
  refine f_putN Bx hP hD hS (by omega) hce73 rfl inEl tyEl okEl nmEl 4 (by decide) kw_87 rfl rfl rfl rfl (Nat.le_of_ble_eq_true rfl) d_Rd_readSequence_14 (fun H locs hP hS => ?_)
  obtain ⟨mem74, e_mem74⟩ : ∃ z, z = va_up mem40 ((20 + 2 * Ec)) (.inr (2, [.int (Bx_48 228 Ec), .int (Bx_48 229 Ec), .int (Bx_48 230 Ec), vR ad (Bx_48 231 Ec), .ref (ad (20 + 2 * kx41)), vE ad (Bx_48 233 Ec), .ref (ad (21 + 2 * Ec))])) := ⟨_, rfl⟩
  have hP : va_P D vcl (fw n ad mem74) H := by rw [e_mem74]; exact hP
  have hD : va_D (Az sz) (fw n ad mem74) := fw_D hD
  have h_mem74 : mem74 ((20 + 2 * Ec)) = .inr (2, [.int (Bx_48 228 Ec), .int (Bx_48 229 Ec), .int (Bx_48 230 Ec), vR ad (Bx_48 231 Ec), .ref (ad (20 + 2 * kx41)), vE ad (Bx_48 233 Ec), .ref (ad (21 + 2 * Ec))]) := by rw [e_mem74, va_up_self]
  have hh75 := (va_up_ne mem40 (.inr (2, [.int (Bx_48 228 Ec), .int (Bx_48 229 Ec), .int (Bx_48 230 Ec), vR ad (Bx_48 231 Ec), .ref (ad (20 + 2 * kx41)), vE ad (Bx_48 233 Ec), .ref (ad (21 + 2 * Ec))])) (show (222 : Nat) ≠ (20 + 2 * Ec) by first | decide | assumption | omega)).trans h9_62
  rw [← e_mem74] at hh75
  have hh76 := (va_up_ne mem40 (.inr (2, [.int (Bx_48 228 Ec), .int (Bx_48 229 Ec), .int (Bx_48 230 Ec), vR ad (Bx_48 231 Ec), .ref (ad (20 + 2 * kx41)), vE ad (Bx_48 233 Ec), .ref (ad (21 + 2 * Ec))])) (show (1 : Nat) ≠ (20 + 2 * Ec) by first | decide | assumption | omega)).trans h1_63
  rw [← e_mem74] at hh76
  have hh77 := (va_up_ne mem40 (.inr (2, [.int (Bx_48 228 Ec), .int (Bx_48 229 Ec), .int (Bx_48 230 Ec), vR ad (Bx_48 231 Ec), .ref (ad (20 + 2 * kx41)), vE ad (Bx_48 233 Ec), .ref (ad (21 + 2 * Ec))])) (show (5 : Nat) ≠ (20 + 2 * Ec) by first | decide | assumption | omega)).trans h5_65
  rw [← e_mem74] at hh77
  have hh78 := (va_up_ne mem40 (.inr (2, [.int (Bx_48 228 Ec), .int (Bx_48 229 Ec), .int (Bx_48 230 Ec), vR ad (Bx_48 231 Ec), .ref (ad (20 + 2 * kx41)), vE ad (Bx_48 233 Ec), .ref (ad (21 + 2 * Ec))])) (show (220 : Nat) ≠ (20 + 2 * Ec) by first | decide | assumption | omega)).trans h220_69
  rw [← e_mem74] at hh78
  have hRX79 : RX cy ad lim (ax42) (Rx44) (Ex45) (tox50) (nx49) m0 mem74 := by rw [e_mem74]; exact hRX58.el (by omega) (hRX58.1.mk (by omega) (hRX58.1.1.upEl (by omega) (fun _ => ⟨(rds59.2.1 Ec (by omega)).2.1.oR ad, Or.inr ⟨kx41, by omega, by omega, rfl⟩, (rds59.2.1 Ec (by omega)).2.2.2.oE ad (by omega)⟩)))
  have her80 : ER ad (Rx44) (Ex45) (va_up Bx_48 232 (upd (Bx_48 232) Ec (nI kx41))) mem74 := rds59.2.1.part (by omega) (by omega) (by omega) h_mem74 (fun i9 q9 hi9 => by rw [e_mem74]; exact va_up_ne _ _ (by omega))
  have hsr81 : SR cy ad (Sx46) (Bx_48) mem74 := ⟨(show mem74 220 = mem40 220 by rw [e_mem74]; exact va_up_ne _ _ (by omega)).trans rds59.2.2.1.1, (show mem74 221 = mem40 221 by rw [e_mem74]; exact va_up_ne _ _ (by omega)).trans rds59.2.2.1.2⟩
  obtain ⟨ft82, h9_83⟩ := hRX79.2.1
  have h1_84 : mem74 1 = .inr (0, [.ref (ad 2), .int (nI Z)]) := (hRX79.1.2.2 1 (by omega)).trans hT.1
  have h2_85 : mem74 2 = .inl (cy 0, 240, .inl f) := (hRX79.1.2.2 2 (by omega)).trans hT.2.2
  have h5_86 := hRX79.1.1.2.1
  have hbd92 := hRX79.1.1.1
  obtain ⟨S87, g88, hS_89, h220_90, h221_91⟩ := hRX79.1.1.2.2.2.2.2.2
  refine lv_iconst (v := 0) Bx.1 Bx.2.1 d_Rd_readSequence_17 (by decide) ?_
  refine lv_istore (lv' := [(4, .int (0)), (3, .ref (ad (20 + 2 * kx41))), (2, .ref (ad (20 + 2 * Ec))), (0, .ref (ad 222)), (1, .int (3))]) Bx.1 Bx.2.1 d_Rd_readSequence_18 hl (by decide) rfl (fun ls hl => ?_)
  have hsl9 := slot_lt hLK (by omega) hcl
  have hsq0 := seq_first hLK hE9 hc hcl h39 rds59 h860 ⟨by omega, by omega⟩ (by omega) (seq_ok (u := u) (R := R) (f := 3) (A := A) (nm := nm) hbg hE9) her80 hsr81
  have loop93 : ∀ (d94 : Nat) (mem9 : Nat → va_E) (a1 : Nat) (u1 : Nat) (R1 : Nat) (E1 : Nat) (S1 : Nat) (A1 : Ro) (B1 : Ro) (n1 : Nat → Int64) (to1 : Nat → Int32) (la : Nat) (k9 : Nat) (ls : Array Slot) (H : Heap) (locs : List Loc), (240 - k9 < d94) → (RX cy ad lim a1 R1 E1 to1 n1 m0 mem9) → (a < a1 ∧ a1 ≤ Z ∧ R ≤ R1 ∧ k9 < a1 ∧ k9 ≤ 240) → (SQI cy ad T Z 3 (seqS T Z a u R Ec 3 A nm) (slotOf A cq) R Ec S u A Bw la a1 u1 R1 E1 S1 A1 B1 n1 mem9) → (TOK R R1 to to1) → (va_P D vcl (fw n ad mem9) H) → (va_D (Az sz) (fw n ad mem9)) → (va_S (Az sz) s.heap H locs) → (lv_has ls 5 [(4, .int (nI k9)), (3, .ref (ad (20 + 2 * la))), (2, .ref (ad (20 + 2 * Ec))), (0, .ref (ad 222)), (1, .int (3))]) → W p l e (headSpec (Cond.code y_Rd_readSequence c_Rd_readSequence 5 (some (.object "AbnfChart$Element")) :: tg) ({ frames := 36, cells := 1, slots := 6, locals := 862 } : Room)).room s m [.ref (ad 222), .int (3)].toArray below meth c H locs 0 0 (vx_MQ below (QX (QR (fun r mem' => ∃ (a' u' R' E' S' : Nat) (A' Bw' : Ro) (nm' : Nat → Int64) (to' : Nat → Int32), r = ad (20 + 2 * Ec) ∧ Ec < E' ∧ R ≤ R' ∧ a < a' ∧ a' ≤ Z ∧ TOK R R' to to' ∧ RX cy ad lim (gapF T Z a') R' E' to' nm' m0 mem' ∧ RDS cy ad T Z 3 (seqS T Z a u R Ec 3 A nm) (slotOf A cq) R Ec S u A Bw Ec a' u' R' E' S' A' Bw' nm' mem' ∧ ¬ (bgF (hereF Z T (gapF T Z a')) = true ∧ a' < gapF T Z a')) (PP D n ad) (Az sz))) (XQ D sz n ad (fun X mem' => ((X = cIA ∨ X = cIS) ∧ ∃ rc' ec' : Nat, RS cy ad lim rc' ec' m0 mem') ∧ (Fai T Z (seqS T Z a u R Ec 3 A nm)))) [.ref (ad 222), .int (3)].toArray s 1 6 (Az sz)) (F0 m 20 ls []) := by
    intro d94
    induction d94 with
    | zero => intro mem9 a1 u1 R1 E1 S1 A1 B1 n1 to1 la k9 ls H locs hmeas100; exact absurd hmeas100 (Nat.not_lt_zero _)
    | succ d94 ih99 =>
      intro mem9 a1 u1 R1 E1 S1 A1 B1 n1 to1 la k9 ls H locs hmeas100 hz95 hz96 hz97 hz98 hP hD hS hl
      have hbd8 := hz96
      have hsq := hz97
      have hbdE := hz95.1.1.1
      have hla := hsq.2.2.2
      have hSa1 := hsq.1.2.2.2.1.2.1
      have hlka := sqi_lka hsq hLK hsl9
      obtain ⟨ft101, h9_102⟩ := hz95.2.1
      have h1_103 : mem9 1 = .inr (0, [.ref (ad 2), .int (nI Z)]) := (hz95.1.2.2 1 (by omega)).trans hT.1
      have h2_104 : mem9 2 = .inl (cy 0, 240, .inl f) := (hz95.1.2.2 2 (by omega)).trans hT.2.2
      have h5_105 := hz95.1.1.2.1
      have hbd111 := hz95.1.1.1
      obtain ⟨S106, g107, hS_108, h220_109, h221_110⟩ := hz95.1.1.2.2.2.2.2.2
      refine lv_iload Bx.1 Bx.2.1 d_Rd_readSequence_20 (lv_at hl 0 rfl) ?_
      refine lv_sipush (v := 240) Bx.1 Bx.2.1 d_Rd_readSequence_22 (by decide) ?_
      refine lv_icmp_ge Bx.1 Bx.2.1 d_Rd_readSequence_25 rfl (fun hb112 => ?_) (fun hb112 => ?_)
      · have hN113 : 240 ≤ k9 := (nI_leI (by omega) (by omega)).mp (show nI (240) ≤ nI (k9) from hb112)
        exact absurd hbd8 (by omega)
      · have hN114 : ¬ 240 ≤ k9 := fun q9 => hb112 (show nI (240) ≤ nI (k9) from (nI_leI (by omega) (by omega)).mpr q9)
        refine lv_aload_n Bx.1 Bx.2.1 d_Rd_readSequence_28 rfl (lv_at hl 3 rfl) ?_
        refine f_callVi (na := 0) (As := []) (rest := []) Bx hml E hP hD hS (by omega) h9_102 rfl (m_Rd_readGapY l hn hT hf hz95 (by omega) (by omega)) kw_397 kw_399 sel_Rd_readGap kw_6 kw_400 (by decide +kernel) ⟨rfl, rfl⟩ ⟨Nat.le_of_ble_eq_true rfl, Nat.le_of_ble_eq_true rfl⟩ rfl hl.1 (Nat.le_of_ble_eq_true rfl) d_Rd_readSequence_29 ⟨Nat.le_of_ble_eq_true rfl, Nat.le_of_ble_eq_true rfl⟩ (fun r115 mem116 H locs hq hP hS => ?_)
        have hD : va_D (Az sz) (fw n ad mem116) := fw_D hD
        obtain ⟨g117, eg118⟩ : ∃ z, z = gapF T Z (a1) := ⟨_, rfl⟩
        rw [← eg118] at hq
        obtain ⟨hRX119, hgc120, hfa121⟩ := hq
        have hg122 : a1 ≤ g117 := by rw [eg118]; exact gapF_ge T Z _
        have hg123 : g117 ≤ Z := by rw [eg118]; exact gapF_le T (by omega)
        obtain ⟨ft124, h9_125⟩ := hRX119.2.1
        have h1_126 : mem116 1 = .inr (0, [.ref (ad 2), .int (nI Z)]) := (hRX119.1.2.2 1 (by omega)).trans hT.1
        have h2_127 : mem116 2 = .inl (cy 0, 240, .inl f) := (hRX119.1.2.2 2 (by omega)).trans hT.2.2
        have h5_128 := hRX119.1.1.2.1
        have hbd134 := hRX119.1.1.1
        obtain ⟨S129, g130, hS_131, h220_132, h221_133⟩ := hRX119.1.1.2.2.2.2.2.2
        have her135 : ER ad (R1) (E1) (B1) mem116 := hsq.1.2.1.fr (Nat.le_refl _) (fun i9 hi9 => hfa121 _ (by omega))
        have hsr136 : SR cy ad (S1) (B1) mem116 := ⟨(show mem116 220 = _ from hfa121 _ (by omega)).trans hsq.1.2.2.1.1, (show mem116 221 = _ from hfa121 _ (by omega)).trans hsq.1.2.2.1.2⟩
        rcases hgc120 with ⟨hr137, hga138⟩ | ⟨hr137, hga138⟩
        · subst hr137
          refine lv_if_eq Bx.1 Bx.2.1 d_Rd_readSequence_32 rfl (fun hb139 => ?_) (fun hb139 => ?_)
          · exact absurd hb139 (by decide)
          · refine lv_aload_n Bx.1 Bx.2.1 d_Rd_readSequence_35 rfl (lv_at hl 3 rfl) ?_
            refine f_callVi (na := 0) (As := []) (rest := []) Bx hml E hP hD hS (by omega) h9_125 rfl (m_Rd_peekX l hn hT hf hRX119 (by omega)) kw_353 kw_355 sel_Rd_peek kw_6 kw_356 (by decide +kernel) ⟨rfl, rfl⟩ ⟨Nat.le_of_ble_eq_true rfl, Nat.le_of_ble_eq_true rfl⟩ rfl hl.1 (Nat.le_of_ble_eq_true rfl) d_Rd_readSequence_36 ⟨Nat.le_of_ble_eq_true rfl, Nat.le_of_ble_eq_true rfl⟩ (fun r141 mem142 H locs hq hP hS => ?_)
            have hD : va_D (Az sz) (fw n ad mem142) := fw_D hD
            obtain ⟨hqe, hpk140⟩ := hq
            rw [hqe] at hP hD
            subst hpk140
            refine f_callSi (na := 1) (As := [.int (hereF Z T (g117))]) (rest := []) Bx hml E.2.1 (m_Rd_beginsRepetitionX l (hereF Z T (g117))) kw_413 kw_414 kw_6 kw_415 (by decide +kernel) ⟨rfl, rfl⟩ ⟨Nat.le_of_ble_eq_true rfl, Nat.le_of_ble_eq_true rfl⟩ rfl hl.1 (Nat.le_of_ble_eq_true rfl) d_Rd_readSequence_39 ⟨Nat.le_of_ble_eq_true rfl, Nat.le_of_ble_eq_true rfl⟩ (fun r145 hs144 => ?_)
            subst hs144
            refine lv_if_eq Bx.1 Bx.2.1 d_Rd_readSequence_42 rfl (fun hb146 => ?_) (fun hb146 => ?_)
            · refine lv_aload_n Bx.1 Bx.2.1 d_Rd_readSequence_65 rfl (lv_at hl 2 rfl) ?_
              exact x_aret hx hb hlocks hr (⟨a1, u1, R1, E1, S1, A1, B1, n1, to1, rfl, by omega, by omega, by omega, by omega, hz98, by rw [← eg118]; exact hRX119, ⟨hsq.1.1, her135, hsr136, hsq.1.2.2.2⟩, fun z => by have q9 := z.1; rw [← eg118, bg_0 hb146] at q9; exact absurd q9 (by decide)⟩) hP hS d_Rd_readSequence_66
            · have hbg2 : bgF (hereF Z T (gapF T Z a1)) = true := by rw [← eg118]; exact bg_1 hb146
              have hgt2 : a1 < gapF T Z a1 := by rw [← eg118]; omega
              have h238 := hsq.2.1
              have h239 : A1 239 3 = -1 := hsq.1.2.2.2.2.2.2.2.2.2.2
              refine lv_aload_n Bx.1 Bx.2.1 d_Rd_readSequence_45 rfl (lv_at hl 1 rfl) ?_
              refine lv_aload_n Bx.1 Bx.2.1 d_Rd_readSequence_46 rfl (lv_at hl 3 rfl) ?_
              refine lv_iload_n Bx.1 Bx.2.1 d_Rd_readSequence_47 rfl (lv_at hl 4 rfl) ?_
              refine f_xVr (na := 1) (As := [.int (3)]) (rest := [.ref (ad (20 + 2 * la))]) Bx hml E hP hD hS (by omega) h9_125 rfl (m_Rd_readRepetition_3Y l hlt hn hT hf hRX119 (by omega) (u := u1) (A := A1) her135 hsr136 (by omega) (by omega) hlka ⟨⟨Ec, by omega, h238⟩, Or.inl h239⟩ h239 (by rw [eg118]; exact hbg2)) kw_439 kw_441 sel_Rd_readRepetition kw_6 kw_442 (by decide +kernel) ⟨rfl, rfl⟩ ⟨Nat.le_of_ble_eq_true rfl, Nat.le_of_ble_eq_true rfl⟩ rfl hl.1 (Nat.le_of_ble_eq_true rfl) d_Rd_readSequence_48 ⟨Nat.le_of_ble_eq_true rfl, Nat.le_of_ble_eq_true rfl⟩ (fun X ce q9 memx H locs hx9 hP hS g1 g2 g3 => f_out hlocks hno hP hS g1 g2 g3 ⟨Nat.le_of_ble_eq_true rfl, Nat.le_of_ble_eq_true rfl⟩ ⟨hx9.1, hsq.1.1.fai (go_rept hbg2 hgt2) (by rw [← eg118]; exact hx9.2)⟩) (fun r147 mem148 H locs hq hP hS => ?_)
              have hD : va_D (Az sz) (fw n ad mem148) := fw_D hD
              obtain ⟨kx149, ax150, ux151, Rx152, Ex153, Sx154, Ax155, Bx_156, nx157, tox158, hr9159, h1160, h2161, h3162, h4163, h5164, htk165, hRX166, rds167, h8168⟩ := hq
              subst hr9159
              obtain ⟨ft169, h9_170⟩ := hRX166.2.1
              have h1_171 : mem148 1 = .inr (0, [.ref (ad 2), .int (nI Z)]) := (hRX166.1.2.2 1 (by omega)).trans hT.1
              have h2_172 : mem148 2 = .inl (cy 0, 240, .inl f) := (hRX166.1.2.2 2 (by omega)).trans hT.2.2
              have h5_173 := hRX166.1.1.2.1
              have hbd179 := hRX166.1.1.1
              obtain ⟨S174, g175, hS_176, h220_177, h221_178⟩ := hRX166.1.1.2.2.2.2.2.2
              have hbd180 := hRX166.1.1.1
              have hce181 := (rds167.2.1 la (by omega)).1
              refine f_putN Bx hP hD hS (by omega) hce181 rfl inEl tyEl okEl nmEl 5 (by decide) kw_91 rfl rfl rfl rfl (Nat.le_of_ble_eq_true rfl) d_Rd_readSequence_51 (fun H locs hP hS => ?_)
              obtain ⟨mem182, e_mem182⟩ : ∃ z, z = va_up mem148 ((20 + 2 * la)) (.inr (2, [.int (Bx_156 228 la), .int (Bx_156 229 la), .int (Bx_156 230 la), vR ad (Bx_156 231 la), vE ad (Bx_156 232 la), .ref (ad (20 + 2 * kx149)), .ref (ad (21 + 2 * la))])) := ⟨_, rfl⟩
              have hP : va_P D vcl (fw n ad mem182) H := by rw [e_mem182]; exact hP
              have hD : va_D (Az sz) (fw n ad mem182) := fw_D hD
              have h_mem182 : mem182 ((20 + 2 * la)) = .inr (2, [.int (Bx_156 228 la), .int (Bx_156 229 la), .int (Bx_156 230 la), vR ad (Bx_156 231 la), vE ad (Bx_156 232 la), .ref (ad (20 + 2 * kx149)), .ref (ad (21 + 2 * la))]) := by rw [e_mem182, va_up_self]
              have hh183 := (va_up_ne mem148 (.inr (2, [.int (Bx_156 228 la), .int (Bx_156 229 la), .int (Bx_156 230 la), vR ad (Bx_156 231 la), vE ad (Bx_156 232 la), .ref (ad (20 + 2 * kx149)), .ref (ad (21 + 2 * la))])) (show (222 : Nat) ≠ (20 + 2 * la) by first | decide | assumption | omega)).trans h9_170
              rw [← e_mem182] at hh183
              have hh184 := (va_up_ne mem148 (.inr (2, [.int (Bx_156 228 la), .int (Bx_156 229 la), .int (Bx_156 230 la), vR ad (Bx_156 231 la), vE ad (Bx_156 232 la), .ref (ad (20 + 2 * kx149)), .ref (ad (21 + 2 * la))])) (show (1 : Nat) ≠ (20 + 2 * la) by first | decide | assumption | omega)).trans h1_171
              rw [← e_mem182] at hh184
              have hh185 := (va_up_ne mem148 (.inr (2, [.int (Bx_156 228 la), .int (Bx_156 229 la), .int (Bx_156 230 la), vR ad (Bx_156 231 la), vE ad (Bx_156 232 la), .ref (ad (20 + 2 * kx149)), .ref (ad (21 + 2 * la))])) (show (5 : Nat) ≠ (20 + 2 * la) by first | decide | assumption | omega)).trans h5_173
              rw [← e_mem182] at hh185
              have hh186 := (va_up_ne mem148 (.inr (2, [.int (Bx_156 228 la), .int (Bx_156 229 la), .int (Bx_156 230 la), vR ad (Bx_156 231 la), vE ad (Bx_156 232 la), .ref (ad (20 + 2 * kx149)), .ref (ad (21 + 2 * la))])) (show (220 : Nat) ≠ (20 + 2 * la) by first | decide | assumption | omega)).trans h220_177
              rw [← e_mem182] at hh186
              have hRX187 : RX cy ad lim (ax150) (Rx152) (Ex153) (tox158) (nx157) m0 mem182 := by rw [e_mem182]; exact hRX166.el (by omega) (hRX166.1.mk (by omega) (hRX166.1.1.upEl (by omega) (fun _ => ⟨(rds167.2.1 la (by omega)).2.1.oR ad, (rds167.2.1 la (by omega)).2.2.1.oE ad (by omega), Or.inr ⟨kx149, by omega, by omega, rfl⟩⟩)))
              have her188 : ER ad (Rx152) (Ex153) (va_up Bx_156 233 (upd (Bx_156 233) la (nI kx149))) mem182 := rds167.2.1.next (by omega) (by omega) (by omega) h_mem182 (fun i9 q9 hi9 => by rw [e_mem182]; exact va_up_ne _ _ (by omega))
              have hsr189 : SR cy ad (Sx154) (Bx_156) mem182 := ⟨(show mem182 220 = mem148 220 by rw [e_mem182]; exact va_up_ne _ _ (by omega)).trans rds167.2.2.1.1, (show mem182 221 = mem148 221 by rw [e_mem182]; exact va_up_ne _ _ (by omega)).trans rds167.2.2.1.2⟩
              obtain ⟨ft190, h9_191⟩ := hRX187.2.1
              have h1_192 : mem182 1 = .inr (0, [.ref (ad 2), .int (nI Z)]) := (hRX187.1.2.2 1 (by omega)).trans hT.1
              have h2_193 : mem182 2 = .inl (cy 0, 240, .inl f) := (hRX187.1.2.2 2 (by omega)).trans hT.2.2
              have h5_194 := hRX187.1.1.2.1
              have hbd200 := hRX187.1.1.1
              obtain ⟨S195, g196, hS_197, h220_198, h221_199⟩ := hRX187.1.1.2.2.2.2.2.2
              refine lv_aload_n Bx.1 Bx.2.1 d_Rd_readSequence_54 rfl (lv_at hl 1 rfl) ?_
              refine f_getN Bx hP (by omega) h_mem182 rfl inEl 5 (by decide) kw_91 rfl rfl d_Rd_readSequence_55 ?_
              refine lv_astore_n (lv' := [(3, .ref (ad (20 + 2 * kx149))), (4, .int (nI k9)), (2, .ref (ad (20 + 2 * Ec))), (0, .ref (ad 222)), (1, .int (3))]) Bx.1 Bx.2.1 d_Rd_readSequence_58 rfl hl (by decide) rfl (fun ls hl => ?_)
              refine lv_iinc (lv' := [(4, .int ((nI k9 + (1)))), (3, .ref (ad (20 + 2 * kx149))), (2, .ref (ad (20 + 2 * Ec))), (0, .ref (ad 222)), (1, .int (3))]) Bx.1 Bx.2.1 d_Rd_readSequence_59 hl (k := 1) rfl rfl (by decide) rfl (fun ls hl => ?_)
              rw [show (nI k9 + (1) : Int32) = nI (k9 + 1) from nI_1 (k9)] at hl
              refine lv_goto Bx.1 Bx.2.1 d_Rd_readSequence_62 rfl ?_
              have hsq3 := seq_step hsq (by omega) hlka (by omega) hsl9 rds167 h8168 ⟨by omega, by omega⟩ (by omega) (by rw [eg118]; exact go_rept hbg2 hgt2) her188 hsr189
              exact ih99 mem182 (ax150) (ux151) (Rx152) (Ex153) (Sx154) (Ax155) ((va_up Bx_156 233 (upd (Bx_156 233) la (nI kx149)))) (nx157) (tox158) (kx149) (k9 + 1) _ _ _ (by have := hmeas100; omega) (hRX187) (⟨by omega, by omega, by omega, by omega, by omega⟩) (hsq3) (hz98.trans htk165 (by omega)) hP hD hS (lv_sub hl [0, 1, 2, 3, 4] rfl)
        · subst hr137
          refine lv_if_eq Bx.1 Bx.2.1 d_Rd_readSequence_32 rfl (fun hb201 => ?_) (fun hb201 => ?_)
          · refine lv_aload_n Bx.1 Bx.2.1 d_Rd_readSequence_65 rfl (lv_at hl 2 rfl) ?_
            exact x_aret hx hb hlocks hr (⟨a1, u1, R1, E1, S1, A1, B1, n1, to1, rfl, by omega, by omega, by omega, by omega, hz98, by rw [← eg118]; exact hRX119, ⟨hsq.1.1, her135, hsr136, hsq.1.2.2.2⟩, fun z => by have := z.2; rw [← eg118] at this; omega⟩) hP hS d_Rd_readSequence_66
          · exact absurd hb201 (by decide)
  exact loop93 _ mem74 (ax42) (ux43) (Rx44) (Ex45) (Sx46) (Ax47) ((va_up Bx_48 232 (upd (Bx_48 232) Ec (nI kx41)))) (nx49) (tox50) (kx41) (0) _ _ _ (Nat.lt_succ_self _) (hRX79) (⟨by omega, by omega, by omega, by omega, by omega⟩) (hsq0) (htk57) hP hD hS (lv_sub hl [0, 1, 2, 3, 4] rfl)
set_option maxHeartbeats 4000000 in
set_option maxRecDepth 100000 in
theorem m_Rd_readAlternatives_3Y (l : Launch) {D : va_G} {cy : Nat → ClassId} {sz n : Nat} {ad : Nat → Nat} {mem : Nat → va_E} {Z a R Ec lim : Nat} {f T : Nat → Int32} {to : Nat → Int32} {nm : Nat → Int64} {m0 : Nat → va_E} {u S : Nat} {A Bw : Ro} {cq : Nat} (hlt : l.stackTraces = false) (hn : 224 ≤ n) (hT : TX cy ad Z f m0) (hf : ∀ k, k < Z → f k = T k) (hRX : RX cy ad lim a R Ec to nm m0 mem) (haB : a ≤ 300) (hER : ER ad R Ec Bw mem) (hSR : SR cy ad S Bw mem) (hSa : S ≤ a) (haZ : a ≤ Z) (hLK : LKa (Ec + 1) A) (hc : A 237 3 = nI cq) (hcl : cq ≤ Ec) (h39 : A 239 3 = -1) : NXr l D cy sz n ad y_Rd_readAlternatives c_Rd_readAlternatives 5 (some (.object "AbnfChart$Element")) ({ frames := 37, cells := 1, slots := 6, locals := 888 } : Room) mem [.ref (ad 222), .int (3)] (fun r mem' => ∃ (la a' u' R' E' S' : Nat) (A' Bw' : Ro) (nm' : Nat → Int64) (to' : Nat → Int32), r = ad (20 + 2 * Ec) ∧ Ec + 1 < E' ∧ R ≤ R' ∧ a < a' ∧ a' ≤ Z ∧ TOK R R' to to' ∧ RX cy ad lim (gapF T Z a') R' E' to' nm' m0 mem' ∧ ALI cy ad T Z 3 (seqS T Z a u R (Ec + 1) 3 A nm) cq R Ec S u A Bw la a' u' R' E' S' A' Bw' nm' mem' ∧ bgF (hereF Z T a) = true ∧ Ec < 100 ∧ ¬ hereF Z T (gapF T Z a') = 47 ∧ ¬ (bgF (hereF Z T (gapF T Z a')) = true ∧ a' < gapF T Z a')) (fun X mem' => ((X = cIA ∨ X = cIS) ∧ ∃ rc' ec' : Nat, RS cy ad lim rc' ec' m0 mem') ∧ (bgF (hereF Z T a) = false ∨ Ec = 100 ∨ (bgF (hereF Z T a) = true ∧ Ec < 100 ∧ Fai T Z (seqS T Z a u R (Ec + 1) 3 A nm)))) := by
  refine vx_ofW (cc := c_Rd_readAlternatives) (maxL := 5) (ret := (some (.object "AbnfChart$Element"))) (by decide) rfl ?_
  intro p e s m args below meth c s₁ B hml hno hv
  obtain ⟨rfl, E, hP, hD⟩ := hv
  have hx := B.exec
  have hb := B.bytes
  have hr := B.returns
  have hlocks := B.notSynchronized
  have Bx : MB p s m [.ref (ad 222), .int (3)].toArray c c_Rd_readAlternatives "AbnfChart$Reader" D cy := ⟨hx, hb, tb_all (atoms_spec B.pre) E.2.1, findClass_of_methodNamed B.named, E.1⟩
  have hS : va_S (Az sz) s.heap s.heap [] := va_S.rf
  have hl := lv_entry ([.ref (ad 222), .int (3)]) (n := 5) (Nat.le_of_ble_eq_true rfl)
  rw [lg_entry_eq]
  generalize (lg_sl ([.ref (ad 222), .int (3)]) ++ List.replicate (5 - (lg_sl ([.ref (ad 222), .int (3)])).length) Slot.unset).toArray = ls at hl ⊢
  have hl : lv_has ls 5 [(0, .ref (ad 222)), (1, .int (3))] := hl
  have hZ9 := hT.2.1
  have hbd9 := hRX.1.1.1
  have hfr0 : ∀ i, 19 ≤ i ∧ i < 222 ∧ i ≠ 20 + 2 * Ec → mem i = mem i := fun _ _ => rfl
  obtain ⟨ft1, h9_2⟩ := hRX.2.1
  have h1_3 : mem 1 = .inr (0, [.ref (ad 2), .int (nI Z)]) := (hRX.1.2.2 1 (by omega)).trans hT.1
  have h2_4 : mem 2 = .inl (cy 0, 240, .inl f) := (hRX.1.2.2 2 (by omega)).trans hT.2.2
  have h5_5 := hRX.1.1.2.1
  have hbd11 := hRX.1.1.1
  obtain ⟨S6, g7, hS_8, h220_9, h221_10⟩ := hRX.1.1.2.2.2.2.2.2
  refine lv_aload_n Bx.1 Bx.2.1 d_Rd_readAlternatives_0 rfl (lv_at hl 0 rfl) ?_
  refine lv_iconst (v := 0) Bx.1 Bx.2.1 d_Rd_readAlternatives_1 (by decide) ?_
  refine f_xVr (na := 1) (As := [.int (0)]) (rest := []) Bx hml E hP hD hS (by omega) h9_2 rfl (m_Rd_beginRowY l hlt hn hT hf hRX (by omega)) kw_409 kw_411 sel_Rd_beginRow kw_6 kw_412 (by decide +kernel) ⟨rfl, rfl⟩ ⟨Nat.le_of_ble_eq_true rfl, Nat.le_of_ble_eq_true rfl⟩ rfl hl.1 (Nat.le_of_ble_eq_true rfl) d_Rd_readAlternatives_2 ⟨Nat.le_of_ble_eq_true rfl, Nat.le_of_ble_eq_true rfl⟩ (fun X ce q9 memx H locs hx9 hP hS g1 g2 g3 => f_out hlocks hno hP hS g1 g2 g3 ⟨Nat.le_of_ble_eq_true rfl, Nat.le_of_ble_eq_true rfl⟩ ⟨hx9.1, hx9.2.elim Or.inl (fun z => Or.inr (Or.inl z))⟩) (fun r12 mem13 H locs hq hP hS => ?_)
  have hD : va_D (Az sz) (fw n ad mem13) := fw_D hD
  obtain ⟨hbg, hE9, hr9, hRXb, hclb, hfab⟩ := hq
  subst hr9
  have hfr14 : ∀ i, 19 ≤ i ∧ i < 222 ∧ i ≠ 20 + 2 * Ec → mem13 i = mem i := fun i q => (hfab i (by omega)).trans (hfr0 i q)
  obtain ⟨ft15, h9_16⟩ := hRXb.2.1
  have h1_17 : mem13 1 = .inr (0, [.ref (ad 2), .int (nI Z)]) := (hRXb.1.2.2 1 (by omega)).trans hT.1
  have h2_18 : mem13 2 = .inl (cy 0, 240, .inl f) := (hRXb.1.2.2 2 (by omega)).trans hT.2.2
  have h5_19 := hRXb.1.1.2.1
  have hbd25 := hRXb.1.1.1
  obtain ⟨S20, g21, hS_22, h220_23, h221_24⟩ := hRXb.1.1.2.2.2.2.2.2
  obtain ⟨ft26, h9_27⟩ := hRXb.2.1
  have h1_28 : mem13 1 = .inr (0, [.ref (ad 2), .int (nI Z)]) := (hRXb.1.2.2 1 (by omega)).trans hT.1
  have h2_29 : mem13 2 = .inl (cy 0, 240, .inl f) := (hRXb.1.2.2 2 (by omega)).trans hT.2.2
  have h5_30 := hRXb.1.1.2.1
  have hbd36 := hRXb.1.1.1
  obtain ⟨S31, g32, hS_33, h220_34, h221_35⟩ := hRXb.1.1.2.2.2.2.2.2
  refine lv_astore_n (lv' := [(2, .ref (ad (20 + 2 * Ec))), (0, .ref (ad 222)), (1, .int (3))]) Bx.1 Bx.2.1 d_Rd_readAlternatives_5 rfl hl (by decide) rfl (fun ls hl => ?_)
  refine lv_aload_n Bx.1 Bx.2.1 d_Rd_readAlternatives_6 rfl (lv_at hl 1 rfl) ?_
  refine lv_iload_n Bx.1 Bx.2.1 d_Rd_readAlternatives_7 rfl (lv_at hl 2 rfl) ?_
  have her37 : ER ad R (Ec + 1) (bwN Bw Ec 0 (0) (0) (-1) (-1) (-1) (Bw 234)) mem13 := hER.new (Nat.le_refl _) (by rw [vR_m]; exact hclb) (Or.inl rfl) (fun i9 hi9 => hfr14 (20 + 2 * i9) (by omega))
  have hsr38 : SR cy ad S (bwN Bw Ec 0 (0) (0) (-1) (-1) (-1) (Bw 234)) mem13 := ⟨(hfr14 220 (by omega)).trans hSR.1, (hfr14 221 (by omega)).trans hSR.2⟩
  refine f_xVr (na := 1) (As := [.int (3)]) (rest := []) Bx hml E hP hD hS (by omega) h9_27 rfl (m_Rd_readSequence_3Y l hlt hn hT hf hRXb (by omega) (u := u) (A := A) her37 hsr38 (by omega) (by omega) hLK hc (by omega) h39) kw_435 kw_437 sel_Rd_readSequence kw_6 kw_438 (by decide +kernel) ⟨rfl, rfl⟩ ⟨Nat.le_of_ble_eq_true rfl, Nat.le_of_ble_eq_true rfl⟩ rfl hl.1 (Nat.le_of_ble_eq_true rfl) d_Rd_readAlternatives_8 ⟨Nat.le_of_ble_eq_true rfl, Nat.le_of_ble_eq_true rfl⟩ (fun X ce q9 memx H locs hx9 hP hS g1 g2 g3 => f_out hlocks hno hP hS g1 g2 g3 ⟨Nat.le_of_ble_eq_true rfl, Nat.le_of_ble_eq_true rfl⟩ ⟨hx9.1, Or.inr (Or.inr ⟨hbg, hE9, hx9.2⟩)⟩) (fun r39 mem40 H locs hq hP hS => ?_)
  have hD : va_D (Az sz) (fw n ad mem40) := fw_D hD
  obtain ⟨ax41, ux42, Rx43, Ex44, Sx45, Ax46, Bx_47, nx48, tox49, hr950, h251, h352, h453, h554, htk55, hRX56, rds57, hnb58⟩ := hq
  subst hr950
  obtain ⟨g59, eg60⟩ : ∃ z, z = gapF T Z ax41 := ⟨_, rfl⟩
  have hg61 : ax41 ≤ g59 := by rw [eg60]; exact gapF_ge T Z _
  have hg62 : g59 ≤ Z := by rw [eg60]; exact gapF_le T (by omega)
  rw [← eg60] at hRX56
  obtain ⟨ft63, h9_64⟩ := hRX56.2.1
  have h1_65 : mem40 1 = .inr (0, [.ref (ad 2), .int (nI Z)]) := (hRX56.1.2.2 1 (by omega)).trans hT.1
  have h2_66 : mem40 2 = .inl (cy 0, 240, .inl f) := (hRX56.1.2.2 2 (by omega)).trans hT.2.2
  have h5_67 := hRX56.1.1.2.1
  have hbd73 := hRX56.1.1.1
  obtain ⟨S68, g69, hS_70, h220_71, h221_72⟩ := hRX56.1.1.2.2.2.2.2.2
  have hbd74 := hRX56.1.1.1
  refine lv_astore_n (lv' := [(3, .ref (ad (20 + 2 * (Ec + 1)))), (2, .ref (ad (20 + 2 * Ec))), (0, .ref (ad 222)), (1, .int (3))]) Bx.1 Bx.2.1 d_Rd_readAlternatives_11 rfl hl (by decide) rfl (fun ls hl => ?_)
  refine lv_aload_n Bx.1 Bx.2.1 d_Rd_readAlternatives_12 rfl (lv_at hl 1 rfl) ?_
  refine lv_aload_n Bx.1 Bx.2.1 d_Rd_readAlternatives_13 rfl (lv_at hl 0 rfl) ?_
  have hce75 := (rds57.2.1 Ec (by omega)).1
  refine f_putN Bx hP hD hS (by omega) hce75 rfl inEl tyEl okEl nmEl 4 (by decide) kw_87 rfl rfl rfl rfl (Nat.le_of_ble_eq_true rfl) d_Rd_readAlternatives_14 (fun H locs hP hS => ?_)
  obtain ⟨mem76, e_mem76⟩ : ∃ z, z = va_up mem40 ((20 + 2 * Ec)) (.inr (2, [.int (Bx_47 228 Ec), .int (Bx_47 229 Ec), .int (Bx_47 230 Ec), vR ad (Bx_47 231 Ec), .ref (ad (20 + 2 * (Ec + 1))), vE ad (Bx_47 233 Ec), .ref (ad (21 + 2 * Ec))])) := ⟨_, rfl⟩
  have hP : va_P D vcl (fw n ad mem76) H := by rw [e_mem76]; exact hP
  have hD : va_D (Az sz) (fw n ad mem76) := fw_D hD
  have h_mem76 : mem76 ((20 + 2 * Ec)) = .inr (2, [.int (Bx_47 228 Ec), .int (Bx_47 229 Ec), .int (Bx_47 230 Ec), vR ad (Bx_47 231 Ec), .ref (ad (20 + 2 * (Ec + 1))), vE ad (Bx_47 233 Ec), .ref (ad (21 + 2 * Ec))]) := by rw [e_mem76, va_up_self]
  have hh77 := (va_up_ne mem40 (.inr (2, [.int (Bx_47 228 Ec), .int (Bx_47 229 Ec), .int (Bx_47 230 Ec), vR ad (Bx_47 231 Ec), .ref (ad (20 + 2 * (Ec + 1))), vE ad (Bx_47 233 Ec), .ref (ad (21 + 2 * Ec))])) (show (222 : Nat) ≠ (20 + 2 * Ec) by first | decide | assumption | omega)).trans h9_64
  rw [← e_mem76] at hh77
  have hh78 := (va_up_ne mem40 (.inr (2, [.int (Bx_47 228 Ec), .int (Bx_47 229 Ec), .int (Bx_47 230 Ec), vR ad (Bx_47 231 Ec), .ref (ad (20 + 2 * (Ec + 1))), vE ad (Bx_47 233 Ec), .ref (ad (21 + 2 * Ec))])) (show (1 : Nat) ≠ (20 + 2 * Ec) by first | decide | assumption | omega)).trans h1_65
  rw [← e_mem76] at hh78
  have hh79 := (va_up_ne mem40 (.inr (2, [.int (Bx_47 228 Ec), .int (Bx_47 229 Ec), .int (Bx_47 230 Ec), vR ad (Bx_47 231 Ec), .ref (ad (20 + 2 * (Ec + 1))), vE ad (Bx_47 233 Ec), .ref (ad (21 + 2 * Ec))])) (show (5 : Nat) ≠ (20 + 2 * Ec) by first | decide | assumption | omega)).trans h5_67
  rw [← e_mem76] at hh79
  have hh80 := (va_up_ne mem40 (.inr (2, [.int (Bx_47 228 Ec), .int (Bx_47 229 Ec), .int (Bx_47 230 Ec), vR ad (Bx_47 231 Ec), .ref (ad (20 + 2 * (Ec + 1))), vE ad (Bx_47 233 Ec), .ref (ad (21 + 2 * Ec))])) (show (220 : Nat) ≠ (20 + 2 * Ec) by first | decide | assumption | omega)).trans h220_71
  rw [← e_mem76] at hh80
  have hRX81 : RX cy ad lim (g59) (Rx43) (Ex44) (tox49) (nx48) m0 mem76 := by rw [e_mem76]; exact hRX56.el (by omega) (hRX56.1.mk (by omega) (hRX56.1.1.upEl (by omega) (fun _ => ⟨(rds57.2.1 Ec (by omega)).2.1.oR ad, Or.inr ⟨(Ec + 1), by omega, by omega, rfl⟩, (rds57.2.1 Ec (by omega)).2.2.2.oE ad (by omega)⟩)))
  have her82 : ER ad (Rx43) (Ex44) (va_up Bx_47 232 (upd (Bx_47 232) Ec (nI (Ec + 1)))) mem76 := rds57.2.1.part (by omega) (by omega) (by omega) h_mem76 (fun i9 q9 hi9 => by rw [e_mem76]; exact va_up_ne _ _ (by omega))
  have hsr83 : SR cy ad (Sx45) (Bx_47) mem76 := ⟨(show mem76 220 = mem40 220 by rw [e_mem76]; exact va_up_ne _ _ (by omega)).trans rds57.2.2.1.1, (show mem76 221 = mem40 221 by rw [e_mem76]; exact va_up_ne _ _ (by omega)).trans rds57.2.2.1.2⟩
  obtain ⟨ft84, h9_85⟩ := hRX81.2.1
  have h1_86 : mem76 1 = .inr (0, [.ref (ad 2), .int (nI Z)]) := (hRX81.1.2.2 1 (by omega)).trans hT.1
  have h2_87 : mem76 2 = .inl (cy 0, 240, .inl f) := (hRX81.1.2.2 2 (by omega)).trans hT.2.2
  have h5_88 := hRX81.1.1.2.1
  have hbd94 := hRX81.1.1.1
  obtain ⟨S89, g90, hS_91, h220_92, h221_93⟩ := hRX81.1.1.2.2.2.2.2.2
  refine lv_iconst (v := 0) Bx.1 Bx.2.1 d_Rd_readAlternatives_17 (by decide) ?_
  refine lv_istore (lv' := [(4, .int (0)), (3, .ref (ad (20 + 2 * (Ec + 1)))), (2, .ref (ad (20 + 2 * Ec))), (0, .ref (ad 222)), (1, .int (3))]) Bx.1 Bx.2.1 d_Rd_readAlternatives_18 hl (by decide) rfl (fun ls hl => ?_)
  have hal0 := alt_first hLK hE9 hcl rds57 (by omega) (by omega) her82 hsr83
  have loop95 : ∀ (d96 : Nat) (mem9 : Nat → va_E) (a1 : Nat) (u1 : Nat) (R1 : Nat) (E1 : Nat) (S1 : Nat) (A1 : Ro) (B1 : Ro) (n1 : Nat → Int64) (to1 : Nat → Int32) (la : Nat) (k9 : Nat) (ls : Array Slot) (H : Heap) (locs : List Loc), (240 - k9 < d96) → (RX cy ad lim (gapF T Z a1) R1 E1 to1 n1 m0 mem9) → (a < a1 ∧ a1 ≤ Z ∧ R ≤ R1 ∧ k9 < a1 ∧ k9 ≤ 240) → (ALI cy ad T Z 3 (seqS T Z a u R (Ec + 1) 3 A nm) cq R Ec S u A Bw la a1 u1 R1 E1 S1 A1 B1 n1 mem9) → (TOK R R1 to to1) → (¬ (bgF (hereF Z T (gapF T Z a1)) = true ∧ a1 < gapF T Z a1)) → (va_P D vcl (fw n ad mem9) H) → (va_D (Az sz) (fw n ad mem9)) → (va_S (Az sz) s.heap H locs) → (lv_has ls 5 [(4, .int (nI k9)), (3, .ref (ad (20 + 2 * la))), (2, .ref (ad (20 + 2 * Ec))), (0, .ref (ad 222)), (1, .int (3))]) → W p l e (headSpec (Cond.code y_Rd_readAlternatives c_Rd_readAlternatives 5 (some (.object "AbnfChart$Element")) :: tg) ({ frames := 37, cells := 1, slots := 6, locals := 888 } : Room)).room s m [.ref (ad 222), .int (3)].toArray below meth c H locs 0 0 (vx_MQ below (QX (QR (fun r mem' => ∃ (la a' u' R' E' S' : Nat) (A' Bw' : Ro) (nm' : Nat → Int64) (to' : Nat → Int32), r = ad (20 + 2 * Ec) ∧ Ec + 1 < E' ∧ R ≤ R' ∧ a < a' ∧ a' ≤ Z ∧ TOK R R' to to' ∧ RX cy ad lim (gapF T Z a') R' E' to' nm' m0 mem' ∧ ALI cy ad T Z 3 (seqS T Z a u R (Ec + 1) 3 A nm) cq R Ec S u A Bw la a' u' R' E' S' A' Bw' nm' mem' ∧ bgF (hereF Z T a) = true ∧ Ec < 100 ∧ ¬ hereF Z T (gapF T Z a') = 47 ∧ ¬ (bgF (hereF Z T (gapF T Z a')) = true ∧ a' < gapF T Z a')) (PP D n ad) (Az sz))) (XQ D sz n ad (fun X mem' => ((X = cIA ∨ X = cIS) ∧ ∃ rc' ec' : Nat, RS cy ad lim rc' ec' m0 mem') ∧ (bgF (hereF Z T a) = false ∨ Ec = 100 ∨ (bgF (hereF Z T a) = true ∧ Ec < 100 ∧ Fai T Z (seqS T Z a u R (Ec + 1) 3 A nm))))) [.ref (ad 222), .int (3)].toArray s 1 6 (Az sz)) (F0 m 20 ls []) := by
    intro d96
    induction d96 with
    | zero => intro mem9 a1 u1 R1 E1 S1 A1 B1 n1 to1 la k9 ls H locs hmeas103; exact absurd hmeas103 (Nat.not_lt_zero _)
    | succ d96 ih102 =>
      intro mem9 a1 u1 R1 E1 S1 A1 B1 n1 to1 la k9 ls H locs hmeas103 hz97 hz98 hz99 hz100 hz101 hP hD hS hl
      obtain ⟨g1, eg1⟩ : ∃ z, z = gapF T Z a1 := ⟨_, rfl⟩
      rw [← eg1] at hz97
      have hge1 : a1 ≤ g1 := by rw [eg1]; exact gapF_ge T Z _
      have hbd8 := hz98
      have hle1 : g1 ≤ Z := by rw [eg1]; exact gapF_le T (by omega)
      have hal := hz99
      have hbdE := hz97.1.1.1
      have hla := hal.2.2.2.2.2.2.2.2.2.2
      have hSa1 := hal.2.2.2.1.2.1
      have hlka := ali_lka hal hLK hE9 hcl
      obtain ⟨ft104, h9_105⟩ := hz97.2.1
      have h1_106 : mem9 1 = .inr (0, [.ref (ad 2), .int (nI Z)]) := (hz97.1.2.2 1 (by omega)).trans hT.1
      have h2_107 : mem9 2 = .inl (cy 0, 240, .inl f) := (hz97.1.2.2 2 (by omega)).trans hT.2.2
      have h5_108 := hz97.1.1.2.1
      have hbd114 := hz97.1.1.1
      obtain ⟨S109, g110, hS_111, h220_112, h221_113⟩ := hz97.1.1.2.2.2.2.2.2
      refine lv_iload Bx.1 Bx.2.1 d_Rd_readAlternatives_20 (lv_at hl 0 rfl) ?_
      refine lv_sipush (v := 240) Bx.1 Bx.2.1 d_Rd_readAlternatives_22 (by decide) ?_
      refine lv_icmp_ge Bx.1 Bx.2.1 d_Rd_readAlternatives_25 rfl (fun hb115 => ?_) (fun hb115 => ?_)
      · have hN116 : 240 ≤ k9 := (nI_leI (by omega) (by omega)).mp (show nI (240) ≤ nI (k9) from hb115)
        exact absurd hbd8 (by omega)
      · have hN117 : ¬ 240 ≤ k9 := fun q9 => hb115 (show nI (240) ≤ nI (k9) from (nI_leI (by omega) (by omega)).mpr q9)
        refine lv_aload_n Bx.1 Bx.2.1 d_Rd_readAlternatives_28 rfl (lv_at hl 3 rfl) ?_
        refine f_callVi (na := 0) (As := []) (rest := []) Bx hml E hP hD hS (by omega) h9_105 rfl (m_Rd_peekX l hn hT hf hz97 (by omega)) kw_353 kw_355 sel_Rd_peek kw_6 kw_356 (by decide +kernel) ⟨rfl, rfl⟩ ⟨Nat.le_of_ble_eq_true rfl, Nat.le_of_ble_eq_true rfl⟩ rfl hl.1 (Nat.le_of_ble_eq_true rfl) d_Rd_readAlternatives_29 ⟨Nat.le_of_ble_eq_true rfl, Nat.le_of_ble_eq_true rfl⟩ (fun r119 mem120 H locs hq hP hS => ?_)
        have hD : va_D (Az sz) (fw n ad mem120) := fw_D hD
        obtain ⟨hqe, hpk118⟩ := hq
        rw [hqe] at hP hD
        subst hpk118
        refine lv_bipush (v := 47) Bx.1 Bx.2.1 d_Rd_readAlternatives_32 (by decide) ?_
        refine lv_icmp_ne Bx.1 Bx.2.1 d_Rd_readAlternatives_34 rfl (fun hb122 => ?_) (fun hb122 => ?_)
        · refine lv_aload_n Bx.1 Bx.2.1 d_Rd_readAlternatives_72 rfl (lv_at hl 2 rfl) ?_
          exact x_aret hx hb hlocks hr (⟨la, a1, u1, R1, E1, S1, A1, B1, n1, to1, rfl, by omega, by omega, by omega, by omega, hz100, by rw [← eg1]; exact hz97, hal, hbg, hE9, by rw [← eg1]; exact hb122, hz101⟩) hP hS d_Rd_readAlternatives_73
        · have hlt123 := hereF_lt (by rw [hb122]; decide)
          have h47 : hereF Z T (gapF T Z a1) = 47 := by rw [← eg1]; exact hb122
          have h237 : A1 237 3 = nI cq := hal.2.2.2.2.2.2.2.2.1.2.2.1.trans hc
          have h239 : A1 239 3 = -1 := hal.2.2.2.2.2.2.2.2.1.2.2.2
          refine lv_aload_n Bx.1 Bx.2.1 d_Rd_readAlternatives_37 rfl (lv_at hl 3 rfl) ?_
          refine lv_dup Bx.1 Bx.2.1 d_Rd_readAlternatives_38 rfl ?_
          refine f_get Bx hP (by omega) h9_105 rfl inRd 2 (by decide) kw_146 rfl rfl d_Rd_readAlternatives_39 ?_
          refine lv_iconst (v := 1) Bx.1 Bx.2.1 d_Rd_readAlternatives_42 (by decide) ?_
          refine lv_iadd Bx.1 Bx.2.1 d_Rd_readAlternatives_43 ?_
          rw [show nI g1 + 1 = nI (g1 + 1) from nI_add (g1) (1)]
          refine f_put Bx hP hD hS (by omega) h9_105 rfl inRd tyRd okRd nmRd 2 (by decide) kw_146 rfl rfl rfl rfl (Nat.le_of_ble_eq_true rfl) d_Rd_readAlternatives_44 (fun H locs hP hS => ?_)
          obtain ⟨mem124, e_mem124⟩ : ∃ z, z = va_up mem9 (222) (.inr (4, [.ref (ad 1), .ref (ad 5), .int (nI (g1 + 1)), .int (ft104)])) := ⟨_, rfl⟩
          have hP : va_P D vcl (fw n ad mem124) H := by rw [e_mem124]; exact hP
          have hD : va_D (Az sz) (fw n ad mem124) := fw_D hD
          have h_mem124 : mem124 (222) = .inr (4, [.ref (ad 1), .ref (ad 5), .int (nI (g1 + 1)), .int (ft104)]) := by rw [e_mem124, va_up_self]
          have hh125 := (va_up_ne mem9 (.inr (4, [.ref (ad 1), .ref (ad 5), .int (nI (g1 + 1)), .int (ft104)])) (show (1 : Nat) ≠ 222 by first | decide | assumption | omega)).trans h1_106
          rw [← e_mem124] at hh125
          have hh126 := (va_up_ne mem9 (.inr (4, [.ref (ad 1), .ref (ad 5), .int (nI (g1 + 1)), .int (ft104)])) (show (5 : Nat) ≠ 222 by first | decide | assumption | omega)).trans h5_108
          rw [← e_mem124] at hh126
          have hh127 := (va_up_ne mem9 (.inr (4, [.ref (ad 1), .ref (ad 5), .int (nI (g1 + 1)), .int (ft104)])) (show (220 : Nat) ≠ 222 by first | decide | assumption | omega)).trans h220_112
          rw [← e_mem124] at hh127
          have her128 : ER ad (R1) (E1) (B1) mem124 := hal.2.1.fr (Nat.le_refl _) (fun i9 hi9 => by rw [e_mem124]; exact va_up_ne _ _ (by omega))
          have hsr129 : SR cy ad (S1) (B1) mem124 := ⟨(show mem124 220 = _ from by rw [e_mem124]; exact va_up_ne _ _ (by omega)).trans hal.2.2.1.1, (show mem124 221 = _ from by rw [e_mem124]; exact va_up_ne _ _ (by omega)).trans hal.2.2.1.2⟩
          have hRX130 : RX cy ad lim (g1 + 1) (R1) (E1) (to1) (n1) m0 mem124 := by rw [e_mem124]; exact hz97.at
          refine lv_aload_n Bx.1 Bx.2.1 d_Rd_readAlternatives_47 rfl (lv_at hl 3 rfl) ?_
          refine f_callVi (na := 0) (As := []) (rest := []) Bx hml E hP hD hS (by omega) h_mem124 rfl (m_Rd_readGapY l hn hT hf hRX130 (by omega) (by omega)) kw_397 kw_399 sel_Rd_readGap kw_6 kw_400 (by decide +kernel) ⟨rfl, rfl⟩ ⟨Nat.le_of_ble_eq_true rfl, Nat.le_of_ble_eq_true rfl⟩ rfl hl.1 (Nat.le_of_ble_eq_true rfl) d_Rd_readAlternatives_48 ⟨Nat.le_of_ble_eq_true rfl, Nat.le_of_ble_eq_true rfl⟩ (fun r131 mem132 H locs hq hP hS => ?_)
          have hD : va_D (Az sz) (fw n ad mem132) := fw_D hD
          obtain ⟨g133, eg134⟩ : ∃ z, z = gapF T Z (g1 + 1) := ⟨_, rfl⟩
          rw [← eg134] at hq
          obtain ⟨hRX135, hgc136, hfa137⟩ := hq
          have hg138 : g1 + 1 ≤ g133 := by rw [eg134]; exact gapF_ge T Z _
          have hg139 : g133 ≤ Z := by rw [eg134]; exact gapF_le T (by omega)
          obtain ⟨ft140, h9_141⟩ := hRX135.2.1
          have h1_142 : mem132 1 = .inr (0, [.ref (ad 2), .int (nI Z)]) := (hRX135.1.2.2 1 (by omega)).trans hT.1
          have h2_143 : mem132 2 = .inl (cy 0, 240, .inl f) := (hRX135.1.2.2 2 (by omega)).trans hT.2.2
          have h5_144 := hRX135.1.1.2.1
          have hbd150 := hRX135.1.1.1
          obtain ⟨S145, g146, hS_147, h220_148, h221_149⟩ := hRX135.1.1.2.2.2.2.2.2
          have her151 : ER ad (R1) (E1) (B1) mem132 := her128.fr (Nat.le_refl _) (fun i9 hi9 => hfa137 _ (by omega))
          have hsr152 : SR cy ad (S1) (B1) mem132 := ⟨(show mem132 220 = _ from hfa137 _ (by omega)).trans hsr129.1, (show mem132 221 = _ from hfa137 _ (by omega)).trans hsr129.2⟩
          refine lv_pop Bx.1 Bx.2.1 d_Rd_readAlternatives_51 rfl ?_
          refine lv_aload_n Bx.1 Bx.2.1 d_Rd_readAlternatives_52 rfl (lv_at hl 1 rfl) ?_
          refine lv_aload_n Bx.1 Bx.2.1 d_Rd_readAlternatives_53 rfl (lv_at hl 3 rfl) ?_
          refine lv_iload_n Bx.1 Bx.2.1 d_Rd_readAlternatives_54 rfl (lv_at hl 4 rfl) ?_
          refine f_xVr (na := 1) (As := [.int (3)]) (rest := [.ref (ad (20 + 2 * la))]) Bx hml E hP hD hS (by omega) h9_141 rfl (m_Rd_readSequence_3Y l hlt hn hT hf hRX135 (by omega) (u := u1) (A := A1) her151 hsr152 (by omega) (by omega) hlka h237 (by omega) h239) kw_435 kw_437 sel_Rd_readSequence kw_6 kw_438 (by decide +kernel) ⟨rfl, rfl⟩ ⟨Nat.le_of_ble_eq_true rfl, Nat.le_of_ble_eq_true rfl⟩ rfl hl.1 (Nat.le_of_ble_eq_true rfl) d_Rd_readAlternatives_55 ⟨Nat.le_of_ble_eq_true rfl, Nat.le_of_ble_eq_true rfl⟩ (fun X ce q9 memx H locs hx9 hP hS g1 g2 g3 => f_out hlocks hno hP hS g1 g2 g3 ⟨Nat.le_of_ble_eq_true rfl, Nat.le_of_ble_eq_true rfl⟩ ⟨hx9.1, Or.inr (Or.inr ⟨hbg, hE9, hal.1.fai (go_sl h47) (by rw [← eg1, ← eg134]; exact hx9.2)⟩)⟩) (fun r153 mem154 H locs hq hP hS => ?_)
          have hD : va_D (Az sz) (fw n ad mem154) := fw_D hD
          obtain ⟨ax155, ux156, Rx157, Ex158, Sx159, Ax160, Bx_161, nx162, tox163, hr9164, h2165, h3166, h4167, h5168, htk169, hRX170, rds171, hnb172⟩ := hq
          subst hr9164
          obtain ⟨g173, eg174⟩ : ∃ z, z = gapF T Z ax155 := ⟨_, rfl⟩
          have hg175 : ax155 ≤ g173 := by rw [eg174]; exact gapF_ge T Z _
          have hg176 : g173 ≤ Z := by rw [eg174]; exact gapF_le T (by omega)
          rw [← eg174] at hRX170
          obtain ⟨ft177, h9_178⟩ := hRX170.2.1
          have h1_179 : mem154 1 = .inr (0, [.ref (ad 2), .int (nI Z)]) := (hRX170.1.2.2 1 (by omega)).trans hT.1
          have h2_180 : mem154 2 = .inl (cy 0, 240, .inl f) := (hRX170.1.2.2 2 (by omega)).trans hT.2.2
          have h5_181 := hRX170.1.1.2.1
          have hbd187 := hRX170.1.1.1
          obtain ⟨S182, g183, hS_184, h220_185, h221_186⟩ := hRX170.1.1.2.2.2.2.2.2
          have hbd188 := hRX170.1.1.1
          have hce189 := (rds171.2.1 la (by omega)).1
          refine f_putN Bx hP hD hS (by omega) hce189 rfl inEl tyEl okEl nmEl 5 (by decide) kw_91 rfl rfl rfl rfl (Nat.le_of_ble_eq_true rfl) d_Rd_readAlternatives_58 (fun H locs hP hS => ?_)
          obtain ⟨mem190, e_mem190⟩ : ∃ z, z = va_up mem154 ((20 + 2 * la)) (.inr (2, [.int (Bx_161 228 la), .int (Bx_161 229 la), .int (Bx_161 230 la), vR ad (Bx_161 231 la), vE ad (Bx_161 232 la), .ref (ad (20 + 2 * E1)), .ref (ad (21 + 2 * la))])) := ⟨_, rfl⟩
          have hP : va_P D vcl (fw n ad mem190) H := by rw [e_mem190]; exact hP
          have hD : va_D (Az sz) (fw n ad mem190) := fw_D hD
          have h_mem190 : mem190 ((20 + 2 * la)) = .inr (2, [.int (Bx_161 228 la), .int (Bx_161 229 la), .int (Bx_161 230 la), vR ad (Bx_161 231 la), vE ad (Bx_161 232 la), .ref (ad (20 + 2 * E1)), .ref (ad (21 + 2 * la))]) := by rw [e_mem190, va_up_self]
          have hh191 := (va_up_ne mem154 (.inr (2, [.int (Bx_161 228 la), .int (Bx_161 229 la), .int (Bx_161 230 la), vR ad (Bx_161 231 la), vE ad (Bx_161 232 la), .ref (ad (20 + 2 * E1)), .ref (ad (21 + 2 * la))])) (show (222 : Nat) ≠ (20 + 2 * la) by first | decide | assumption | omega)).trans h9_178
          rw [← e_mem190] at hh191
          have hh192 := (va_up_ne mem154 (.inr (2, [.int (Bx_161 228 la), .int (Bx_161 229 la), .int (Bx_161 230 la), vR ad (Bx_161 231 la), vE ad (Bx_161 232 la), .ref (ad (20 + 2 * E1)), .ref (ad (21 + 2 * la))])) (show (1 : Nat) ≠ (20 + 2 * la) by first | decide | assumption | omega)).trans h1_179
          rw [← e_mem190] at hh192
          have hh193 := (va_up_ne mem154 (.inr (2, [.int (Bx_161 228 la), .int (Bx_161 229 la), .int (Bx_161 230 la), vR ad (Bx_161 231 la), vE ad (Bx_161 232 la), .ref (ad (20 + 2 * E1)), .ref (ad (21 + 2 * la))])) (show (5 : Nat) ≠ (20 + 2 * la) by first | decide | assumption | omega)).trans h5_181
          rw [← e_mem190] at hh193
          have hh194 := (va_up_ne mem154 (.inr (2, [.int (Bx_161 228 la), .int (Bx_161 229 la), .int (Bx_161 230 la), vR ad (Bx_161 231 la), vE ad (Bx_161 232 la), .ref (ad (20 + 2 * E1)), .ref (ad (21 + 2 * la))])) (show (220 : Nat) ≠ (20 + 2 * la) by first | decide | assumption | omega)).trans h220_185
          rw [← e_mem190] at hh194
          have hRX195 : RX cy ad lim (g173) (Rx157) (Ex158) (tox163) (nx162) m0 mem190 := by rw [e_mem190]; exact hRX170.el (by omega) (hRX170.1.mk (by omega) (hRX170.1.1.upEl (by omega) (fun _ => ⟨(rds171.2.1 la (by omega)).2.1.oR ad, (rds171.2.1 la (by omega)).2.2.1.oE ad (by omega), Or.inr ⟨E1, by omega, by omega, rfl⟩⟩)))
          have her196 : ER ad (Rx157) (Ex158) (va_up Bx_161 233 (upd (Bx_161 233) la (nI E1))) mem190 := rds171.2.1.next (by omega) (by omega) (by omega) h_mem190 (fun i9 q9 hi9 => by rw [e_mem190]; exact va_up_ne _ _ (by omega))
          have hsr197 : SR cy ad (Sx159) (Bx_161) mem190 := ⟨(show mem190 220 = mem154 220 by rw [e_mem190]; exact va_up_ne _ _ (by omega)).trans rds171.2.2.1.1, (show mem190 221 = mem154 221 by rw [e_mem190]; exact va_up_ne _ _ (by omega)).trans rds171.2.2.1.2⟩
          obtain ⟨ft198, h9_199⟩ := hRX195.2.1
          have h1_200 : mem190 1 = .inr (0, [.ref (ad 2), .int (nI Z)]) := (hRX195.1.2.2 1 (by omega)).trans hT.1
          have h2_201 : mem190 2 = .inl (cy 0, 240, .inl f) := (hRX195.1.2.2 2 (by omega)).trans hT.2.2
          have h5_202 := hRX195.1.1.2.1
          have hbd208 := hRX195.1.1.1
          obtain ⟨S203, g204, hS_205, h220_206, h221_207⟩ := hRX195.1.1.2.2.2.2.2.2
          refine lv_aload_n Bx.1 Bx.2.1 d_Rd_readAlternatives_61 rfl (lv_at hl 1 rfl) ?_
          refine f_getN Bx hP (by omega) h_mem190 rfl inEl 5 (by decide) kw_91 rfl rfl d_Rd_readAlternatives_62 ?_
          refine lv_astore_n (lv' := [(3, .ref (ad (20 + 2 * E1))), (4, .int (nI k9)), (2, .ref (ad (20 + 2 * Ec))), (0, .ref (ad 222)), (1, .int (3))]) Bx.1 Bx.2.1 d_Rd_readAlternatives_65 rfl hl (by decide) rfl (fun ls hl => ?_)
          refine lv_iinc (lv' := [(4, .int ((nI k9 + (1)))), (3, .ref (ad (20 + 2 * E1))), (2, .ref (ad (20 + 2 * Ec))), (0, .ref (ad 222)), (1, .int (3))]) Bx.1 Bx.2.1 d_Rd_readAlternatives_66 hl (k := 1) rfl rfl (by decide) rfl (fun ls hl => ?_)
          rw [show (nI k9 + (1) : Int32) = nI (k9 + 1) from nI_1 (k9)] at hl
          refine lv_goto Bx.1 Bx.2.1 d_Rd_readAlternatives_69 rfl ?_
          have hal3 := alt_step hal (by omega) hLK hlka (by omega) hcl rds171 (by omega) (by omega) (by rw [eg134, eg1]; exact go_sl h47) her196 hsr197
          exact ih102 mem190 (ax155) (ux156) (Rx157) (Ex158) (Sx159) (Ax160) ((va_up Bx_161 233 (upd (Bx_161 233) la (nI E1)))) (nx162) (tox163) (E1) (k9 + 1) _ _ _ (by have := hmeas103; omega) (by rw [← eg174]; exact hRX195) (⟨by omega, by omega, by omega, by omega, by omega⟩) (hal3) (hz100.trans htk169 (by omega)) (hnb172) hP hD hS (lv_sub hl [0, 1, 2, 3, 4] rfl)
  exact loop95 _ mem76 (ax41) (ux42) (Rx43) (Ex44) (Sx45) (Ax46) ((va_up Bx_47 232 (upd (Bx_47 232) Ec (nI (Ec + 1))))) (nx48) (tox49) (Ec + 1) (0) _ _ _ (Nat.lt_succ_self _) (by rw [← eg60]; exact hRX81) (⟨by omega, by omega, by omega, by omega, by omega⟩) (hal0) (htk55) (hnb58) hP hD hS (lv_sub hl [0, 1, 2, 3, 4] rfl)
set_option maxHeartbeats 4000000 in
set_option maxRecDepth 100000 in
theorem m_Rd_readBracket_2Y (l : Launch) {D : va_G} {cy : Nat → ClassId} {sz n : Nat} {ad : Nat → Nat} {mem : Nat → va_E} {Z a R Ec lim : Nat} {f T : Nat → Int32} {to : Nat → Int32} {nm : Nat → Int64} {m0 : Nat → va_E} {u S : Nat} {A Bw : Ro} {what oe en : Int32} (hlt : l.stackTraces = false) (hn : 224 ≤ n) (hT : TX cy ad Z f m0) (hf : ∀ k, k < Z → f k = T k) (hRX : RX cy ad lim a R Ec to nm m0 mem) (haB : a ≤ 300) (hER : ER ad R Ec Bw mem) (hSR : SR cy ad S Bw mem) (hSa : S ≤ a) (haZ : a < Z) (hwe : (what = 1 ∧ en = 41) ∨ (what = 2 ∧ en = 93)) (hLK : LKa Ec A) : NXr l D cy sz n ad y_Rd_readBracket c_Rd_readBracket 4 (some (.object "AbnfChart$Element")) ({ frames := 38, cells := 1, slots := 6, locals := 920 } : Room) mem [.ref (ad 222), .int (2), .int (en)] (fun r mem' => ∃ (la a1 u1 R1 E1 S1 : Nat) (A9 B9 : Ro) (nm1 : Nat → Int64) (to1 : Nat → Int32), r = ad (20 + 2 * Ec) ∧ Ec + 1 < E1 ∧ R ≤ R1 ∧ a + 1 < a1 ∧ gapF T Z a1 + 1 ≤ Z ∧ TOK R R1 to to1 ∧ RX cy ad lim (gapF T Z a1 + 1) R1 E1 to1 nm1 m0 mem' ∧ ALI cy ad T Z 3 (seqS T Z (gapF T Z (a + 1)) u R (Ec + 1) 3 (entA A 3 Ec what oe) nm) Ec R Ec S u (entA A 3 Ec what oe) Bw la a1 u1 R1 E1 S1 A9 B9 nm1 mem' ∧ hereF Z T (gapF T Z a1) = en ∧ entS T Z (a + 1) u R Ec 3 A nm what oe = some (gapF T Z (a + 1), u, R, Ec + 1, 3, (entA A 3 Ec what oe), nm, true)) (fun X mem' => ((X = cIA ∨ X = cIS) ∧ ∃ rc' ec' : Nat, RS cy ad lim rc' ec' m0 mem') ∧ (Fai T Z (entS T Z (a + 1) u R Ec 3 A nm what oe))) := by
  refine vx_ofW (cc := c_Rd_readBracket) (maxL := 4) (ret := (some (.object "AbnfChart$Element"))) (by decide) rfl ?_
  intro p e s m args below meth c s₁ B hml hno hv
  obtain ⟨rfl, E, hP, hD⟩ := hv
  have hx := B.exec
  have hb := B.bytes
  have hr := B.returns
  have hlocks := B.notSynchronized
  have Bx : MB p s m [.ref (ad 222), .int (2), .int (en)].toArray c c_Rd_readBracket "AbnfChart$Reader" D cy := ⟨hx, hb, tb_all (atoms_spec B.pre) E.2.1, findClass_of_methodNamed B.named, E.1⟩
  have hS : va_S (Az sz) s.heap s.heap [] := va_S.rf
  have hl := lv_entry ([.ref (ad 222), .int (2), .int (en)]) (n := 4) (Nat.le_of_ble_eq_true rfl)
  rw [lg_entry_eq]
  generalize (lg_sl ([.ref (ad 222), .int (2), .int (en)]) ++ List.replicate (4 - (lg_sl ([.ref (ad 222), .int (2), .int (en)])).length) Slot.unset).toArray = ls at hl ⊢
  have hl : lv_has ls 4 [(0, .ref (ad 222)), (1, .int (2)), (2, .int (en))] := hl
  have hZ9 := hT.2.1
  have hbd9 := hRX.1.1.1
  have hfr0 : ∀ i, 19 ≤ i ∧ i < 222 → mem i = mem i := fun _ _ => rfl
  obtain ⟨ft1, h9_2⟩ := hRX.2.1
  have h1_3 : mem 1 = .inr (0, [.ref (ad 2), .int (nI Z)]) := (hRX.1.2.2 1 (by omega)).trans hT.1
  have h2_4 : mem 2 = .inl (cy 0, 240, .inl f) := (hRX.1.2.2 2 (by omega)).trans hT.2.2
  have h5_5 := hRX.1.1.2.1
  have hbd11 := hRX.1.1.1
  obtain ⟨S6, g7, hS_8, h220_9, h221_10⟩ := hRX.1.1.2.2.2.2.2.2
  refine lv_aload_n Bx.1 Bx.2.1 d_Rd_readBracket_0 rfl (lv_at hl 0 rfl) ?_
  refine lv_iload_n Bx.1 Bx.2.1 d_Rd_readBracket_1 rfl (lv_at hl 1 rfl) ?_
  refine lv_bipush (v := 6) Bx.1 Bx.2.1 d_Rd_readBracket_2 (by decide) ?_
  refine lv_icmp_ge Bx.1 Bx.2.1 d_Rd_readBracket_4 rfl (fun hb12 => ?_) (fun hb12 => ?_)
  · exact absurd hb12 (by decide)
  · refine lv_iconst (v := 1) Bx.1 Bx.2.1 d_Rd_readBracket_7 (by decide) ?_
    refine lv_goto Bx.1 Bx.2.1 d_Rd_readBracket_8 rfl ?_
    refine lv_aload_n Bx.1 Bx.2.1 d_Rd_readBracket_12 rfl (lv_at hl 0 rfl) ?_
    refine f_get Bx hP (by omega) h9_2 rfl inRd 2 (by decide) kw_146 rfl rfl d_Rd_readBracket_13 ?_
    refine f_xVv (na := 2) (As := [.int (1), .int (nI a)]) (rest := []) Bx hml E hP hD hS (by omega) h9_2 rfl (m_Rd_needRoomX l hlt hn hT hf hRX (by omega)) kw_383 kw_385 sel_Rd_needRoom kw_6 kw_386 (by decide +kernel) ⟨rfl, rfl⟩ ⟨Nat.le_of_ble_eq_true rfl, Nat.le_of_ble_eq_true rfl⟩ rfl hl.1 (Nat.le_of_ble_eq_true rfl) d_Rd_readBracket_16 ⟨Nat.le_of_ble_eq_true rfl, Nat.le_of_ble_eq_true rfl⟩ (fun X ce q9 memx H locs hx9 hP hS g1 g2 g3 => f_out hlocks hno hP hS g1 g2 g3 ⟨Nat.le_of_ble_eq_true rfl, Nat.le_of_ble_eq_true rfl⟩ ⟨hx9.1, absurd hx9.2 (by decide)⟩) (fun mem14 H locs hq hP hS => ?_)
    have hD : va_D (Az sz) (fw n ad mem14) := fw_D hD
    obtain ⟨hqe, hg15⟩ := hq
    rw [hqe] at hP hD
    refine lv_aload_n Bx.1 Bx.2.1 d_Rd_readBracket_19 rfl (lv_at hl 0 rfl) ?_
    refine lv_dup Bx.1 Bx.2.1 d_Rd_readBracket_20 rfl ?_
    refine f_get Bx hP (by omega) h9_2 rfl inRd 2 (by decide) kw_146 rfl rfl d_Rd_readBracket_21 ?_
    refine lv_iconst (v := 1) Bx.1 Bx.2.1 d_Rd_readBracket_24 (by decide) ?_
    refine lv_iadd Bx.1 Bx.2.1 d_Rd_readBracket_25 ?_
    rw [show nI a + 1 = nI (a + 1) from nI_add (a) (1)]
    refine f_put Bx hP hD hS (by omega) h9_2 rfl inRd tyRd okRd nmRd 2 (by decide) kw_146 rfl rfl rfl rfl (Nat.le_of_ble_eq_true rfl) d_Rd_readBracket_26 (fun H locs hP hS => ?_)
    obtain ⟨mem16, e_mem16⟩ : ∃ z, z = va_up mem (222) (.inr (4, [.ref (ad 1), .ref (ad 5), .int (nI (a + 1)), .int (ft1)])) := ⟨_, rfl⟩
    have hP : va_P D vcl (fw n ad mem16) H := by rw [e_mem16]; exact hP
    have hD : va_D (Az sz) (fw n ad mem16) := fw_D hD
    have h_mem16 : mem16 (222) = .inr (4, [.ref (ad 1), .ref (ad 5), .int (nI (a + 1)), .int (ft1)]) := by rw [e_mem16, va_up_self]
    have hh17 := (va_up_ne mem (.inr (4, [.ref (ad 1), .ref (ad 5), .int (nI (a + 1)), .int (ft1)])) (show (1 : Nat) ≠ 222 by first | decide | assumption | omega)).trans h1_3
    rw [← e_mem16] at hh17
    have hh18 := (va_up_ne mem (.inr (4, [.ref (ad 1), .ref (ad 5), .int (nI (a + 1)), .int (ft1)])) (show (5 : Nat) ≠ 222 by first | decide | assumption | omega)).trans h5_5
    rw [← e_mem16] at hh18
    have hh19 := (va_up_ne mem (.inr (4, [.ref (ad 1), .ref (ad 5), .int (nI (a + 1)), .int (ft1)])) (show (220 : Nat) ≠ 222 by first | decide | assumption | omega)).trans h220_9
    rw [← e_mem16] at hh19
    have hfr20 : ∀ i, 19 ≤ i ∧ i < 222 → mem16 i = mem i := fun i q => (show mem16 i = mem i by rw [e_mem16]; exact va_up_ne _ _ (by omega)).trans (hfr0 i q)
    have hRX21 : RX cy ad lim (a + 1) (R) (Ec) (to) (nm) m0 mem16 := by rw [e_mem16]; exact hRX.at
    refine lv_aload_n Bx.1 Bx.2.1 d_Rd_readBracket_29 rfl (lv_at hl 0 rfl) ?_
    refine f_callVi (na := 0) (As := []) (rest := []) Bx hml E hP hD hS (by omega) h_mem16 rfl (m_Rd_readGapY l hn hT hf hRX21 (by omega) (by omega)) kw_397 kw_399 sel_Rd_readGap kw_6 kw_400 (by decide +kernel) ⟨rfl, rfl⟩ ⟨Nat.le_of_ble_eq_true rfl, Nat.le_of_ble_eq_true rfl⟩ rfl hl.1 (Nat.le_of_ble_eq_true rfl) d_Rd_readBracket_30 ⟨Nat.le_of_ble_eq_true rfl, Nat.le_of_ble_eq_true rfl⟩ (fun r22 mem23 H locs hq hP hS => ?_)
    have hD : va_D (Az sz) (fw n ad mem23) := fw_D hD
    obtain ⟨g24, eg25⟩ : ∃ z, z = gapF T Z (a + 1) := ⟨_, rfl⟩
    rw [← eg25] at hq
    obtain ⟨hRX26, hgc27, hfa28⟩ := hq
    have hg29 : a + 1 ≤ g24 := by rw [eg25]; exact gapF_ge T Z _
    have hg30 : g24 ≤ Z := by rw [eg25]; exact gapF_le T (by omega)
    have hfr31 : ∀ i, 19 ≤ i ∧ i < 222 → mem23 i = mem i := fun i q => (hfa28 i (by omega)).trans (hfr20 i q)
    obtain ⟨ft32, h9_33⟩ := hRX26.2.1
    have h1_34 : mem23 1 = .inr (0, [.ref (ad 2), .int (nI Z)]) := (hRX26.1.2.2 1 (by omega)).trans hT.1
    have h2_35 : mem23 2 = .inl (cy 0, 240, .inl f) := (hRX26.1.2.2 2 (by omega)).trans hT.2.2
    have h5_36 := hRX26.1.1.2.1
    have hbd42 := hRX26.1.1.1
    obtain ⟨S37, g38, hS_39, h220_40, h221_41⟩ := hRX26.1.1.2.2.2.2.2.2
    refine lv_pop Bx.1 Bx.2.1 d_Rd_readBracket_33 rfl ?_
    refine lv_aload_n Bx.1 Bx.2.1 d_Rd_readBracket_34 rfl (lv_at hl 0 rfl) ?_
    refine lv_iload_n Bx.1 Bx.2.1 d_Rd_readBracket_35 rfl (lv_at hl 1 rfl) ?_
    refine lv_iconst (v := 1) Bx.1 Bx.2.1 d_Rd_readBracket_36 (by decide) ?_
    refine lv_iadd Bx.1 Bx.2.1 d_Rd_readBracket_37 ?_
    rw [show (2 + 1 : Int32) = 3 from rfl]
    have her43 : ER ad R Ec Bw mem23 := hER.fr (Nat.le_refl _) (fun i9 hi9 => hfr31 (20 + 2 * i9) (by omega))
    have hsr44 : SR cy ad S Bw mem23 := ⟨(hfr31 220 (by omega)).trans hSR.1, (hfr31 221 (by omega)).trans hSR.2⟩
    refine f_xVr (na := 1) (As := [.int (3)]) (rest := []) Bx hml E hP hD hS (by omega) h9_33 rfl (m_Rd_readAlternatives_3Y l hlt hn hT hf hRX26 (by omega) (u := u) (A := (entA A 3 Ec what oe)) her43 hsr44 (by omega) (by omega) (ent_lka hLK) (cq := Ec) entA_f.2.2.2.2.2.2.2.1 (Nat.le_refl _) (by rw [entA_f.2.2.2.2.2.2.1, upd_self])) kw_405 kw_407 sel_Rd_readAlternatives kw_6 kw_408 (by decide +kernel) ⟨rfl, rfl⟩ ⟨Nat.le_of_ble_eq_true rfl, Nat.le_of_ble_eq_true rfl⟩ rfl hl.1 (Nat.le_of_ble_eq_true rfl) d_Rd_readBracket_38 ⟨Nat.le_of_ble_eq_true rfl, Nat.le_of_ble_eq_true rfl⟩ (fun X ce q9 memx H locs hx9 hP hS g1 g2 g3 => f_out hlocks hno hP hS g1 g2 g3 ⟨Nat.le_of_ble_eq_true rfl, Nat.le_of_ble_eq_true rfl⟩ ⟨hx9.1, hx9.2.elim (fun z => Or.inl (entS_no (Or.inl (by rw [← eg25]; exact z)))) (fun z => z.elim (fun z => Or.inl (entS_no (Or.inr z))) (fun z => Fai.br0 (by rw [ent_ok (by rw [← eg25]; exact z.1) z.2.1, ← eg25]) z.2.2))⟩) (fun r45 mem46 H locs hq hP hS => ?_)
    have hD : va_D (Az sz) (fw n ad mem46) := fw_D hD
    obtain ⟨la47, ax48, ux49, Rx50, Ex51, Sx52, Ax53, Bx_54, nx55, tox56, hr957, h158, h259, h360, h461, htk62, hRX63, ali64, hbg65, hE66, h4767, hnb68⟩ := hq
    subst hr957
    obtain ⟨g69, eg70⟩ : ∃ z, z = gapF T Z ax48 := ⟨_, rfl⟩
    have hg71 : ax48 ≤ g69 := by rw [eg70]; exact gapF_ge T Z _
    have hg72 : g69 ≤ Z := by rw [eg70]; exact gapF_le T (by omega)
    rw [← eg70] at hRX63
    obtain ⟨ft73, h9_74⟩ := hRX63.2.1
    have h1_75 : mem46 1 = .inr (0, [.ref (ad 2), .int (nI Z)]) := (hRX63.1.2.2 1 (by omega)).trans hT.1
    have h2_76 : mem46 2 = .inl (cy 0, 240, .inl f) := (hRX63.1.2.2 2 (by omega)).trans hT.2.2
    have h5_77 := hRX63.1.1.2.1
    have hbd83 := hRX63.1.1.1
    obtain ⟨S78, g79, hS_80, h220_81, h221_82⟩ := hRX63.1.1.2.2.2.2.2.2
    have hbd84 := hRX63.1.1.1
    have hent : entS T Z (a + 1) u R Ec 3 A nm what oe = some (g24, u, R, Ec + 1, 3, (entA A 3 Ec what oe), nm, true) := by rw [ent_ok (by rw [← eg25]; exact hbg65) hE66, ← eg25]
    have hA5 : Ax53 235 3 = what := by
      obtain ⟨c1, ho, hg, hk, hs⟩ := ali64.1
      rw [hk 3 (by omega), entA_5, upd_self]
    refine lv_astore_n (lv' := [(3, .ref (ad (20 + 2 * Ec))), (0, .ref (ad 222)), (1, .int (2)), (2, .int (en))]) Bx.1 Bx.2.1 d_Rd_readBracket_41 rfl hl (by decide) rfl (fun ls hl => ?_)
    refine lv_aload_n Bx.1 Bx.2.1 d_Rd_readBracket_42 rfl (lv_at hl 1 rfl) ?_
    refine lv_aload_n Bx.1 Bx.2.1 d_Rd_readBracket_43 rfl (lv_at hl 1 rfl) ?_
    refine f_callVi (na := 0) (As := []) (rest := [.ref (ad 222)]) Bx hml E hP hD hS (by omega) h9_74 rfl (m_Rd_peekX l hn hT hf hRX63 (by omega)) kw_353 kw_355 sel_Rd_peek kw_6 kw_356 (by decide +kernel) ⟨rfl, rfl⟩ ⟨Nat.le_of_ble_eq_true rfl, Nat.le_of_ble_eq_true rfl⟩ rfl hl.1 (Nat.le_of_ble_eq_true rfl) d_Rd_readBracket_44 ⟨Nat.le_of_ble_eq_true rfl, Nat.le_of_ble_eq_true rfl⟩ (fun r86 mem87 H locs hq hP hS => ?_)
    have hD : va_D (Az sz) (fw n ad mem87) := fw_D hD
    obtain ⟨hqe, hpk85⟩ := hq
    rw [hqe] at hP hD
    subst hpk85
    refine lv_iload_n Bx.1 Bx.2.1 d_Rd_readBracket_47 rfl (lv_at hl 3 rfl) ?_
    refine lv_icmp_ne Bx.1 Bx.2.1 d_Rd_readBracket_48 rfl (fun hb89 => ?_) (fun hb89 => ?_)
    · refine lv_iconst (v := 0) Bx.1 Bx.2.1 d_Rd_readBracket_55 (by decide) ?_
      refine lv_aload_n Bx.1 Bx.2.1 d_Rd_readBracket_56 rfl (lv_at hl 1 rfl) ?_
      refine f_get Bx hP (by omega) h9_74 rfl inRd 2 (by decide) kw_146 rfl rfl d_Rd_readBracket_57 ?_
      refine f_xVv (na := 2) (As := [.int (0), .int (nI g69)]) (rest := []) Bx hml E hP hD hS (by omega) h9_74 rfl (m_Rd_needReadableX l hlt hn hT hf hRX63 (by omega)) kw_360 kw_362 sel_Rd_needReadable kw_6 kw_363 (by decide +kernel) ⟨rfl, rfl⟩ ⟨Nat.le_of_ble_eq_true rfl, Nat.le_of_ble_eq_true rfl⟩ rfl hl.1 (Nat.le_of_ble_eq_true rfl) d_Rd_readBracket_60 ⟨Nat.le_of_ble_eq_true rfl, Nat.le_of_ble_eq_true rfl⟩ (fun X ce q9 memx H locs hx9 hP hS g1 g2 g3 => f_out hlocks hno hP hS g1 g2 g3 ⟨Nat.le_of_ble_eq_true rfl, Nat.le_of_ble_eq_true rfl⟩ ⟨hx9.1, Fai.br1 hent ali64.1.suc (br_no hwe hA5 (by rw [← eg70]; exact hb89) h4767 hnb68)⟩) (fun mem91 H locs hq hP hS => ?_)
      have hD : va_D (Az sz) (fw n ad mem91) := fw_D hD
      obtain ⟨hqe, hg92⟩ := hq
      rw [hqe] at hP hD
      exact absurd rfl hg92
    · refine lv_iconst (v := 1) Bx.1 Bx.2.1 d_Rd_readBracket_51 (by decide) ?_
      refine lv_goto Bx.1 Bx.2.1 d_Rd_readBracket_52 rfl ?_
      refine lv_aload_n Bx.1 Bx.2.1 d_Rd_readBracket_56 rfl (lv_at hl 1 rfl) ?_
      refine f_get Bx hP (by omega) h9_74 rfl inRd 2 (by decide) kw_146 rfl rfl d_Rd_readBracket_57 ?_
      refine f_xVv (na := 2) (As := [.int (1), .int (nI g69)]) (rest := []) Bx hml E hP hD hS (by omega) h9_74 rfl (m_Rd_needReadableX l hlt hn hT hf hRX63 (by omega)) kw_360 kw_362 sel_Rd_needReadable kw_6 kw_363 (by decide +kernel) ⟨rfl, rfl⟩ ⟨Nat.le_of_ble_eq_true rfl, Nat.le_of_ble_eq_true rfl⟩ rfl hl.1 (Nat.le_of_ble_eq_true rfl) d_Rd_readBracket_60 ⟨Nat.le_of_ble_eq_true rfl, Nat.le_of_ble_eq_true rfl⟩ (fun X ce q9 memx H locs hx9 hP hS g1 g2 g3 => f_out hlocks hno hP hS g1 g2 g3 ⟨Nat.le_of_ble_eq_true rfl, Nat.le_of_ble_eq_true rfl⟩ ⟨hx9.1, absurd hx9.2 (by decide)⟩) (fun mem94 H locs hq hP hS => ?_)
      have hD : va_D (Az sz) (fw n ad mem94) := fw_D hD
      obtain ⟨hqe, hg95⟩ := hq
      rw [hqe] at hP hD
      refine lv_aload_n Bx.1 Bx.2.1 d_Rd_readBracket_63 rfl (lv_at hl 1 rfl) ?_
      refine lv_dup Bx.1 Bx.2.1 d_Rd_readBracket_64 rfl ?_
      refine f_get Bx hP (by omega) h9_74 rfl inRd 2 (by decide) kw_146 rfl rfl d_Rd_readBracket_65 ?_
      refine lv_iconst (v := 1) Bx.1 Bx.2.1 d_Rd_readBracket_68 (by decide) ?_
      refine lv_iadd Bx.1 Bx.2.1 d_Rd_readBracket_69 ?_
      rw [show nI g69 + 1 = nI (g69 + 1) from nI_add (g69) (1)]
      refine f_put Bx hP hD hS (by omega) h9_74 rfl inRd tyRd okRd nmRd 2 (by decide) kw_146 rfl rfl rfl rfl (Nat.le_of_ble_eq_true rfl) d_Rd_readBracket_70 (fun H locs hP hS => ?_)
      obtain ⟨mem96, e_mem96⟩ : ∃ z, z = va_up mem46 (222) (.inr (4, [.ref (ad 1), .ref (ad 5), .int (nI (g69 + 1)), .int (ft73)])) := ⟨_, rfl⟩
      have hP : va_P D vcl (fw n ad mem96) H := by rw [e_mem96]; exact hP
      have hD : va_D (Az sz) (fw n ad mem96) := fw_D hD
      have h_mem96 : mem96 (222) = .inr (4, [.ref (ad 1), .ref (ad 5), .int (nI (g69 + 1)), .int (ft73)]) := by rw [e_mem96, va_up_self]
      have hh97 := (va_up_ne mem46 (.inr (4, [.ref (ad 1), .ref (ad 5), .int (nI (g69 + 1)), .int (ft73)])) (show (1 : Nat) ≠ 222 by first | decide | assumption | omega)).trans h1_75
      rw [← e_mem96] at hh97
      have hh98 := (va_up_ne mem46 (.inr (4, [.ref (ad 1), .ref (ad 5), .int (nI (g69 + 1)), .int (ft73)])) (show (5 : Nat) ≠ 222 by first | decide | assumption | omega)).trans h5_77
      rw [← e_mem96] at hh98
      have hh99 := (va_up_ne mem46 (.inr (4, [.ref (ad 1), .ref (ad 5), .int (nI (g69 + 1)), .int (ft73)])) (show (220 : Nat) ≠ 222 by first | decide | assumption | omega)).trans h220_81
      rw [← e_mem96] at hh99
      have her100 : ER ad (Rx50) (Ex51) (Bx_54) mem96 := ali64.2.1.fr (Nat.le_refl _) (fun i9 hi9 => by rw [e_mem96]; exact va_up_ne _ _ (by omega))
      have hsr101 : SR cy ad (Sx52) (Bx_54) mem96 := ⟨(show mem96 220 = _ from by rw [e_mem96]; exact va_up_ne _ _ (by omega)).trans ali64.2.2.1.1, (show mem96 221 = _ from by rw [e_mem96]; exact va_up_ne _ _ (by omega)).trans ali64.2.2.1.2⟩
      have hRX102 : RX cy ad lim (g69 + 1) (Rx50) (Ex51) (tox56) (nx55) m0 mem96 := by rw [e_mem96]; exact hRX63.at
      refine lv_aload_n Bx.1 Bx.2.1 d_Rd_readBracket_73 rfl (lv_at hl 0 rfl) ?_
      have hal9 : ALI cy ad T Z 3 (seqS T Z (gapF T Z (a + 1)) u R (Ec + 1) 3 (entA A 3 Ec what oe) nm) Ec R Ec S u (entA A 3 Ec what oe) Bw la47 ax48 ux49 Rx50 Ex51 Sx52 Ax53 Bx_54 nx55 mem96 := by rw [← eg25]; exact ⟨ali64.1, her100, hsr101, ali64.2.2.2⟩
      exact x_aret hx hb hlocks hr (⟨la47, ax48, ux49, Rx50, Ex51, Sx52, Ax53, Bx_54, nx55, tox56, rfl, by omega, by omega, by omega, by rw [← eg70]; have := br_lt hwe hb89; omega, htk62, by rw [← eg70]; exact hRX102, hal9, by rw [← eg70]; exact hb89, by rw [← eg25]; exact hent⟩) hP hS d_Rd_readBracket_74
set_option maxHeartbeats 4000000 in
set_option maxRecDepth 100000 in
theorem m_Rd_readOption_2Y (l : Launch) {D : va_G} {cy : Nat → ClassId} {sz n : Nat} {ad : Nat → Nat} {mem : Nat → va_E} {Z a R Ec lim : Nat} {f T : Nat → Int32} {to : Nat → Int32} {nm : Nat → Int64} {m0 : Nat → va_E} {u S : Nat} {A Bw : Ro} (hlt : l.stackTraces = false) (hn : 224 ≤ n) (hT : TX cy ad Z f m0) (hf : ∀ k, k < Z → f k = T k) (hRX : RX cy ad lim a R Ec to nm m0 mem) (haB : a ≤ 300) (hER : ER ad R Ec Bw mem) (hSR : SR cy ad S Bw mem) (hSa : S ≤ a) (haZ : a < Z) (hLK : LKa Ec A) (hF : FRM A 2 Ec) (c91 : hereF Z T a = 91) : NXr l D cy sz n ad y_Rd_readOption c_Rd_readOption 3 (some (.object "AbnfChart$Element")) ({ frames := 39, cells := 1, slots := 6, locals := 943 } : Room) mem [.ref (ad 222), .int (2)] (fun r mem' => ∃ (k' a' u' R' E' S' : Nat) (A' Bw' : Ro) (nm' : Nat → Int64) (to' : Nat → Int32), r = ad (20 + 2 * k') ∧ Ec ≤ k' ∧ k' < E' ∧ R ≤ R' ∧ a < a' ∧ a' ≤ Z ∧ TOK R R' to to' ∧ RX cy ad lim a' R' E' to' nm' m0 mem' ∧ RDS cy ad T Z 2 (singS T Z a u R Ec 2 A nm) (PSf A 2) R Ec S u A Bw k' a' u' R' E' S' A' Bw' nm' mem' ∧ A' 238 2 = A 238 2) (fun X mem' => ((X = cIA ∨ X = cIS) ∧ ∃ rc' ec' : Nat, RS cy ad lim rc' ec' m0 mem') ∧ (Fai T Z (singS T Z a u R Ec 2 A nm))) := by
  refine vx_ofW (cc := c_Rd_readOption) (maxL := 3) (ret := (some (.object "AbnfChart$Element"))) (by decide) rfl ?_
  intro p e s m args below meth c s₁ B hml hno hv
  obtain ⟨rfl, E, hP, hD⟩ := hv
  have hx := B.exec
  have hb := B.bytes
  have hr := B.returns
  have hlocks := B.notSynchronized
  have Bx : MB p s m [.ref (ad 222), .int (2)].toArray c c_Rd_readOption "AbnfChart$Reader" D cy := ⟨hx, hb, tb_all (atoms_spec B.pre) E.2.1, findClass_of_methodNamed B.named, E.1⟩
  have hS : va_S (Az sz) s.heap s.heap [] := va_S.rf
  have hl := lv_entry ([.ref (ad 222), .int (2)]) (n := 3) (Nat.le_of_ble_eq_true rfl)
  rw [lg_entry_eq]
  generalize (lg_sl ([.ref (ad 222), .int (2)]) ++ List.replicate (3 - (lg_sl ([.ref (ad 222), .int (2)])).length) Slot.unset).toArray = ls at hl ⊢
  have hl : lv_has ls 3 [(0, .ref (ad 222)), (1, .int (2))] := hl
  have hZ9 := hT.2.1
  have hbd9 := hRX.1.1.1
  have hfr0 : ∀ i, 19 ≤ i ∧ i < 222 ∧ i ≠ 20 + 2 * Ec → mem i = mem i := fun _ _ => rfl
  obtain ⟨ft1, h9_2⟩ := hRX.2.1
  have h1_3 : mem 1 = .inr (0, [.ref (ad 2), .int (nI Z)]) := (hRX.1.2.2 1 (by omega)).trans hT.1
  have h2_4 : mem 2 = .inl (cy 0, 240, .inl f) := (hRX.1.2.2 2 (by omega)).trans hT.2.2
  have h5_5 := hRX.1.1.2.1
  have hbd11 := hRX.1.1.1
  obtain ⟨S6, g7, hS_8, h220_9, h221_10⟩ := hRX.1.1.2.2.2.2.2.2
  refine lv_aload_n Bx.1 Bx.2.1 d_Rd_readOption_0 rfl (lv_at hl 0 rfl) ?_
  refine lv_iconst (v := 3) Bx.1 Bx.2.1 d_Rd_readOption_1 (by decide) ?_
  refine lv_aload_n Bx.1 Bx.2.1 d_Rd_readOption_2 rfl (lv_at hl 0 rfl) ?_
  refine f_get Bx hP (by omega) h9_2 rfl inRd 2 (by decide) kw_146 rfl rfl d_Rd_readOption_3 ?_
  refine f_xVr (na := 2) (As := [.int (3), .int (nI a)]) (rest := []) Bx hml E hP hD hS (by omega) h9_2 rfl (m_Rd_addElementY l hlt hn hT hf hRX (by omega)) kw_419 kw_421 sel_Rd_addElement kw_6 kw_422 (by decide +kernel) ⟨rfl, rfl⟩ ⟨Nat.le_of_ble_eq_true rfl, Nat.le_of_ble_eq_true rfl⟩ rfl hl.1 (Nat.le_of_ble_eq_true rfl) d_Rd_readOption_6 ⟨Nat.le_of_ble_eq_true rfl, Nat.le_of_ble_eq_true rfl⟩ (fun X ce q9 memx H locs hx9 hP hS g1 g2 g3 => f_out hlocks hno hP hS g1 g2 g3 ⟨Nat.le_of_ble_eq_true rfl, Nat.le_of_ble_eq_true rfl⟩ ⟨hx9.1, Or.inl (sing_o0 (l91 c91).1 c91 (Or.inr hx9.2))⟩) (fun r12 mem13 H locs hq hP hS => ?_)
  have hD : va_D (Az sz) (fw n ad mem13) := fw_D hD
  obtain ⟨hr914, hec15, hRX16, hcl17, hfa18⟩ := hq
  subst hr914
  have hfr19 : ∀ i, 19 ≤ i ∧ i < 222 ∧ i ≠ 20 + 2 * Ec → mem13 i = mem i := fun i q => (hfa18 i (by omega)).trans (hfr0 i q)
  obtain ⟨ft20, h9_21⟩ := hRX16.2.1
  have h1_22 : mem13 1 = .inr (0, [.ref (ad 2), .int (nI Z)]) := (hRX16.1.2.2 1 (by omega)).trans hT.1
  have h2_23 : mem13 2 = .inl (cy 0, 240, .inl f) := (hRX16.1.2.2 2 (by omega)).trans hT.2.2
  have h5_24 := hRX16.1.1.2.1
  have hbd30 := hRX16.1.1.1
  obtain ⟨S25, g26, hS_27, h220_28, h221_29⟩ := hRX16.1.1.2.2.2.2.2.2
  obtain ⟨ft31, h9_32⟩ := hRX16.2.1
  have h1_33 : mem13 1 = .inr (0, [.ref (ad 2), .int (nI Z)]) := (hRX16.1.2.2 1 (by omega)).trans hT.1
  have h2_34 : mem13 2 = .inl (cy 0, 240, .inl f) := (hRX16.1.2.2 2 (by omega)).trans hT.2.2
  have h5_35 := hRX16.1.1.2.1
  have hbd41 := hRX16.1.1.1
  obtain ⟨S36, g37, hS_38, h220_39, h221_40⟩ := hRX16.1.1.2.2.2.2.2.2
  refine lv_astore_n (lv' := [(2, .ref (ad (20 + 2 * Ec))), (0, .ref (ad 222)), (1, .int (2))]) Bx.1 Bx.2.1 d_Rd_readOption_9 rfl hl (by decide) rfl (fun ls hl => ?_)
  refine lv_aload_n Bx.1 Bx.2.1 d_Rd_readOption_10 rfl (lv_at hl 0 rfl) ?_
  refine lv_aload_n Bx.1 Bx.2.1 d_Rd_readOption_11 rfl (lv_at hl 1 rfl) ?_
  refine lv_iload_n Bx.1 Bx.2.1 d_Rd_readOption_12 rfl (lv_at hl 2 rfl) ?_
  refine lv_bipush (v := 93) Bx.1 Bx.2.1 d_Rd_readOption_13 (by decide) ?_
  have her42 : ER ad R (Ec + 1) (bwN Bw Ec 3 (0) (0) (-1) (-1) (-1) (Bw 234)) mem13 := hER.new (Nat.le_refl _) (by rw [vR_m]; exact hcl17) (Or.inl rfl) (fun i9 hi9 => hfr19 (20 + 2 * i9) (by omega))
  have hsr43 : SR cy ad S (bwN Bw Ec 3 (0) (0) (-1) (-1) (-1) (Bw 234)) mem13 := ⟨(hfr19 220 (by omega)).trans hSR.1, (hfr19 221 (by omega)).trans hSR.2⟩
  have hE9 := hec15
  refine f_xVr (na := 2) (As := [.int (2), .int (93)]) (rest := [.ref (ad (20 + 2 * Ec))]) Bx hml E hP hD hS (by omega) h9_32 rfl (m_Rd_readBracket_2Y l hlt hn hT hf hRX16 (by omega) (u := u) (A := elA A Ec 3) (what := 2) (oe := nI Ec) her42 hsr43 (by omega) (by omega) (Or.inr ⟨rfl, rfl⟩) (elA_lka hLK)) kw_447 kw_449 sel_Rd_readBracket kw_6 kw_450 (by decide +kernel) ⟨rfl, rfl⟩ ⟨Nat.le_of_ble_eq_true rfl, Nat.le_of_ble_eq_true rfl⟩ rfl hl.1 (Nat.le_of_ble_eq_true rfl) d_Rd_readOption_15 ⟨Nat.le_of_ble_eq_true rfl, Nat.le_of_ble_eq_true rfl⟩ (fun X ce q9 memx H locs hx9 hP hS g1 g2 g3 => f_out hlocks hno hP hS g1 g2 g3 ⟨Nat.le_of_ble_eq_true rfl, Nat.le_of_ble_eq_true rfl⟩ ⟨hx9.1, hx9.2.eq (sing_op (l91 c91).1 c91 (by omega) hE9)⟩) (fun r44 mem45 H locs hq hP hS => ?_)
  have hD : va_D (Az sz) (fw n ad mem45) := fw_D hD
  obtain ⟨la46, ax47, ux48, Rx49, Ex50, Sx51, Ax52, Bx_53, nx54, tox55, hr956, h157, h258, h359, h460, htk61, hRX62, ali63, hh64, hent65⟩ := hq
  subst hr956
  obtain ⟨ft66, h9_67⟩ := hRX62.2.1
  have h1_68 : mem45 1 = .inr (0, [.ref (ad 2), .int (nI Z)]) := (hRX62.1.2.2 1 (by omega)).trans hT.1
  have h2_69 : mem45 2 = .inl (cy 0, 240, .inl f) := (hRX62.1.2.2 2 (by omega)).trans hT.2.2
  have h5_70 := hRX62.1.1.2.1
  have hbd76 := hRX62.1.1.1
  obtain ⟨S71, g72, hS_73, h220_74, h221_75⟩ := hRX62.1.1.2.2.2.2.2.2
  have hbd77 := hRX62.1.1.1
  have hce78 := (ali63.2.1 Ec (by omega)).1
  refine f_putN Bx hP hD hS (by omega) hce78 rfl inEl tyEl okEl nmEl 4 (by decide) kw_87 rfl rfl rfl rfl (Nat.le_of_ble_eq_true rfl) d_Rd_readOption_18 (fun H locs hP hS => ?_)
  obtain ⟨mem79, e_mem79⟩ : ∃ z, z = va_up mem45 ((20 + 2 * Ec)) (.inr (2, [.int (Bx_53 228 Ec), .int (Bx_53 229 Ec), .int (Bx_53 230 Ec), vR ad (Bx_53 231 Ec), .ref (ad (20 + 2 * (Ec + 1))), vE ad (Bx_53 233 Ec), .ref (ad (21 + 2 * Ec))])) := ⟨_, rfl⟩
  have hP : va_P D vcl (fw n ad mem79) H := by rw [e_mem79]; exact hP
  have hD : va_D (Az sz) (fw n ad mem79) := fw_D hD
  have h_mem79 : mem79 ((20 + 2 * Ec)) = .inr (2, [.int (Bx_53 228 Ec), .int (Bx_53 229 Ec), .int (Bx_53 230 Ec), vR ad (Bx_53 231 Ec), .ref (ad (20 + 2 * (Ec + 1))), vE ad (Bx_53 233 Ec), .ref (ad (21 + 2 * Ec))]) := by rw [e_mem79, va_up_self]
  have hh80 := (va_up_ne mem45 (.inr (2, [.int (Bx_53 228 Ec), .int (Bx_53 229 Ec), .int (Bx_53 230 Ec), vR ad (Bx_53 231 Ec), .ref (ad (20 + 2 * (Ec + 1))), vE ad (Bx_53 233 Ec), .ref (ad (21 + 2 * Ec))])) (show (222 : Nat) ≠ (20 + 2 * Ec) by first | decide | assumption | omega)).trans h9_67
  rw [← e_mem79] at hh80
  have hh81 := (va_up_ne mem45 (.inr (2, [.int (Bx_53 228 Ec), .int (Bx_53 229 Ec), .int (Bx_53 230 Ec), vR ad (Bx_53 231 Ec), .ref (ad (20 + 2 * (Ec + 1))), vE ad (Bx_53 233 Ec), .ref (ad (21 + 2 * Ec))])) (show (1 : Nat) ≠ (20 + 2 * Ec) by first | decide | assumption | omega)).trans h1_68
  rw [← e_mem79] at hh81
  have hh82 := (va_up_ne mem45 (.inr (2, [.int (Bx_53 228 Ec), .int (Bx_53 229 Ec), .int (Bx_53 230 Ec), vR ad (Bx_53 231 Ec), .ref (ad (20 + 2 * (Ec + 1))), vE ad (Bx_53 233 Ec), .ref (ad (21 + 2 * Ec))])) (show (5 : Nat) ≠ (20 + 2 * Ec) by first | decide | assumption | omega)).trans h5_70
  rw [← e_mem79] at hh82
  have hh83 := (va_up_ne mem45 (.inr (2, [.int (Bx_53 228 Ec), .int (Bx_53 229 Ec), .int (Bx_53 230 Ec), vR ad (Bx_53 231 Ec), .ref (ad (20 + 2 * (Ec + 1))), vE ad (Bx_53 233 Ec), .ref (ad (21 + 2 * Ec))])) (show (220 : Nat) ≠ (20 + 2 * Ec) by first | decide | assumption | omega)).trans h220_74
  rw [← e_mem79] at hh83
  have hRX84 : RX cy ad lim (gapF T Z ax47 + 1) (Rx49) (Ex50) (tox55) (nx54) m0 mem79 := by rw [e_mem79]; exact hRX62.el (by omega) (hRX62.1.mk (by omega) (hRX62.1.1.upEl (by omega) (fun _ => ⟨(ali63.2.1 Ec (by omega)).2.1.oR ad, Or.inr ⟨(Ec + 1), by omega, by omega, rfl⟩, (ali63.2.1 Ec (by omega)).2.2.2.oE ad (by omega)⟩)))
  have her85 : ER ad (Rx49) (Ex50) (va_up Bx_53 232 (upd (Bx_53 232) Ec (nI (Ec + 1)))) mem79 := ali63.2.1.part (by omega) (by omega) (by omega) h_mem79 (fun i9 q9 hi9 => by rw [e_mem79]; exact va_up_ne _ _ (by omega))
  have hsr86 : SR cy ad (Sx51) (Bx_53) mem79 := ⟨(show mem79 220 = mem45 220 by rw [e_mem79]; exact va_up_ne _ _ (by omega)).trans ali63.2.2.1.1, (show mem79 221 = mem45 221 by rw [e_mem79]; exact va_up_ne _ _ (by omega)).trans ali63.2.2.1.2⟩
  obtain ⟨ft87, h9_88⟩ := hRX84.2.1
  have h1_89 : mem79 1 = .inr (0, [.ref (ad 2), .int (nI Z)]) := (hRX84.1.2.2 1 (by omega)).trans hT.1
  have h2_90 : mem79 2 = .inl (cy 0, 240, .inl f) := (hRX84.1.2.2 2 (by omega)).trans hT.2.2
  have h5_91 := hRX84.1.1.2.1
  have hbd97 := hRX84.1.1.1
  obtain ⟨S92, g93, hS_94, h220_95, h221_96⟩ := hRX84.1.1.2.2.2.2.2.2
  refine lv_aload_n Bx.1 Bx.2.1 d_Rd_readOption_21 rfl (lv_at hl 0 rfl) ?_
  have hrd9 := opt_rds (nm := nm) hLK (by omega) hF hent65 ali63 hh64 her85 hsr86
  exact x_aret hx hb hlocks hr (⟨Ec, gapF T Z ax47 + 1, ux48, Rx49, Ex50, Sx51, _, _, nx54, tox55, rfl, by omega, by omega, by omega, by have := gapF_ge T Z ax47; omega, by omega, htk61, hRX84, rdsEq hrd9.1 (sing_op (l91 c91).1 c91 (by omega) hE9), hrd9.2⟩) hP hS d_Rd_readOption_22
set_option maxHeartbeats 4000000 in
set_option maxRecDepth 100000 in
theorem m_Rd_readElement_2Y (l : Launch) {D : va_G} {cy : Nat → ClassId} {sz n : Nat} {ad : Nat → Nat} {mem : Nat → va_E} {Z a R Ec lim : Nat} {f T : Nat → Int32} {to : Nat → Int32} {nm : Nat → Int64} {m0 : Nat → va_E} {u S : Nat} {A Bw : Ro} (hlt : l.stackTraces = false) (hn : 224 ≤ n) (hT : TX cy ad Z f m0) (hf : ∀ k, k < Z → f k = T k) (hRX : RX cy ad lim a R Ec to nm m0 mem) (haB : a ≤ 300) (hER : ER ad R Ec Bw mem) (hSR : SR cy ad S Bw mem) (hSa : S ≤ a) (haZ : a ≤ Z) (hLK : LKa Ec A) (hF : FRM A 2 Ec) : NXr l D cy sz n ad y_Rd_readElement c_Rd_readElement 2 (some (.object "AbnfChart$Element")) ({ frames := 40, cells := 1, slots := 6, locals := 966 } : Room) mem [.ref (ad 222), .int (2)] (fun r mem' => ∃ (k' a' u' R' E' S' : Nat) (A' Bw' : Ro) (nm' : Nat → Int64) (to' : Nat → Int32), r = ad (20 + 2 * k') ∧ Ec ≤ k' ∧ k' < E' ∧ R ≤ R' ∧ a < a' ∧ a' ≤ Z ∧ TOK R R' to to' ∧ RX cy ad lim a' R' E' to' nm' m0 mem' ∧ RDS cy ad T Z 2 (singS T Z a u R Ec 2 A nm) (PSf A 2) R Ec S u A Bw k' a' u' R' E' S' A' Bw' nm' mem' ∧ A' 238 2 = A 238 2 ∧ OKc (hereF Z T a)) (fun X mem' => ((X = cIA ∨ X = cIS) ∧ ∃ rc' ec' : Nat, RS cy ad lim rc' ec' m0 mem') ∧ (Fai T Z (singS T Z a u R Ec 2 A nm) ∨ ¬ OKc (hereF Z T a))) := by
  refine vx_ofW (cc := c_Rd_readElement) (maxL := 2) (ret := (some (.object "AbnfChart$Element"))) (by decide) rfl ?_
  intro p e s m args below meth c s₁ B hml hno hv
  obtain ⟨rfl, E, hP, hD⟩ := hv
  have hx := B.exec
  have hb := B.bytes
  have hr := B.returns
  have hlocks := B.notSynchronized
  have Bx : MB p s m [.ref (ad 222), .int (2)].toArray c c_Rd_readElement "AbnfChart$Reader" D cy := ⟨hx, hb, tb_all (atoms_spec B.pre) E.2.1, findClass_of_methodNamed B.named, E.1⟩
  have hS : va_S (Az sz) s.heap s.heap [] := va_S.rf
  have hl := lv_entry ([.ref (ad 222), .int (2)]) (n := 2) (Nat.le_of_ble_eq_true rfl)
  rw [lg_entry_eq]
  generalize (lg_sl ([.ref (ad 222), .int (2)]) ++ List.replicate (2 - (lg_sl ([.ref (ad 222), .int (2)])).length) Slot.unset).toArray = ls at hl ⊢
  have hl : lv_has ls 2 [(0, .ref (ad 222)), (1, .int (2))] := hl
  have hZ9 := hT.2.1
  have hbd9 := hRX.1.1.1
  have hfr0 : ∀ i, 19 ≤ i ∧ i < 222 ∧ i ≠ 20 + 2 * Ec → mem i = mem i := fun _ _ => rfl
  obtain ⟨ft1, h9_2⟩ := hRX.2.1
  have h1_3 : mem 1 = .inr (0, [.ref (ad 2), .int (nI Z)]) := (hRX.1.2.2 1 (by omega)).trans hT.1
  have h2_4 : mem 2 = .inl (cy 0, 240, .inl f) := (hRX.1.2.2 2 (by omega)).trans hT.2.2
  have h5_5 := hRX.1.1.2.1
  have hbd11 := hRX.1.1.1
  obtain ⟨S6, g7, hS_8, h220_9, h221_10⟩ := hRX.1.1.2.2.2.2.2.2
  refine lv_aload_n Bx.1 Bx.2.1 d_Rd_readElement_0 rfl (lv_at hl 0 rfl) ?_
  refine f_callVi (na := 0) (As := []) (rest := []) Bx hml E hP hD hS (by omega) h9_2 rfl (m_Rd_peekX l hn hT hf hRX (by omega)) kw_353 kw_355 sel_Rd_peek kw_6 kw_356 (by decide +kernel) ⟨rfl, rfl⟩ ⟨Nat.le_of_ble_eq_true rfl, Nat.le_of_ble_eq_true rfl⟩ rfl hl.1 (Nat.le_of_ble_eq_true rfl) d_Rd_readElement_1 ⟨Nat.le_of_ble_eq_true rfl, Nat.le_of_ble_eq_true rfl⟩ (fun r13 mem14 H locs hq hP hS => ?_)
  have hD : va_D (Az sz) (fw n ad mem14) := fw_D hD
  obtain ⟨hqe, hpk12⟩ := hq
  rw [hqe] at hP hD
  subst hpk12
  refine lv_topi (fun v16 e_v16 => ?_)
  by_cases c34 : v16 = 34
  · rw [c34]
    refine lv_lookup (off := 58) (tgt := 62) Bx.1 Bx.2.1 d_Rd_readElement_4 (by decide) (by decide) rfl ?_
    rw [e_v16] at c34
    have hlt34 := hereF_lt (show hereF Z T (a) ≠ -1 by rw [c34]; decide)
    refine lv_aload_n Bx.1 Bx.2.1 d_Rd_readElement_62 rfl (lv_at hl 0 rfl) ?_
    refine lv_aload_n Bx.1 Bx.2.1 d_Rd_readElement_63 rfl (lv_at hl 0 rfl) ?_
    refine f_get Bx hP (by omega) h9_2 rfl inRd 2 (by decide) kw_146 rfl rfl d_Rd_readElement_64 ?_
    refine lv_iconst (v := 5) Bx.1 Bx.2.1 d_Rd_readElement_67 (by decide) ?_
    refine f_xVr (na := 2) (As := [.int (nI a), .int (5)]) (rest := []) Bx hml E hP hD hS (by omega) h9_2 rfl (m_Rd_readStringY l hlt hn hT hf hRX (by omega) hSR.1 hSR.2 (by omega) hSa) kw_455 kw_457 sel_Rd_readString kw_6 kw_458 (by decide +kernel) ⟨rfl, rfl⟩ ⟨Nat.le_of_ble_eq_true rfl, Nat.le_of_ble_eq_true rfl⟩ rfl hl.1 (Nat.le_of_ble_eq_true rfl) d_Rd_readElement_68 ⟨Nat.le_of_ble_eq_true rfl, Nat.le_of_ble_eq_true rfl⟩ (fun X ce q9 memx H locs hx9 hP hS g1 g2 g3 => f_out hlocks hno hP hS g1 g2 g3 ⟨Nat.le_of_ble_eq_true rfl, Nat.le_of_ble_eq_true rfl⟩ ⟨hx9.1, Or.inl (fai_str c34 hx9.2 hbd9.2.1)⟩) (fun r17 mem18 H locs hq hP hS => ?_)
    have hD : va_D (Az sz) (fw n ad mem18) := fw_D hD
    obtain ⟨hE9, hq9, hr2, hle9, hRX2, hcl2, ⟨s9, hs0, hs1, hs2, hs3⟩, hfr2⟩ := hq
    subst hr2
    obtain ⟨A2, B2, hrd2, h82⟩ := rds_str (j := 2) (u := u) (nm := nm) c34 hE9 hq9 hLK hF hER hcl2 hs0 hs1 hs2 hs3 (fun k hk => hfr2 (20 + 2 * k) (by omega)) hSa
    exact x_aret hx hb hlocks hr (⟨Ec, _, _, R, Ec + 1, _, A2, B2, nm, to, rfl, by omega, by omega, by omega, by omega, hle9, TOK.of rfl, hRX2, hrd2, h82, (l34 c34).2.2.2⟩) hP hS d_Rd_readElement_71
  by_cases c37 : v16 = 37
  · rw [c37]
    refine lv_lookup (off := 68) (tgt := 72) Bx.1 Bx.2.1 d_Rd_readElement_4 (by decide) (by decide) rfl ?_
    rw [e_v16] at c37
    have hlt37 := hereF_lt (show hereF Z T (a) ≠ -1 by rw [c37]; decide)
    refine lv_aload_n Bx.1 Bx.2.1 d_Rd_readElement_72 rfl (lv_at hl 0 rfl) ?_
    refine f_get Bx hP (by omega) h9_2 rfl inRd 0 (by decide) kw_144 rfl rfl d_Rd_readElement_73 ?_
    refine lv_aload_n Bx.1 Bx.2.1 d_Rd_readElement_76 rfl (lv_at hl 0 rfl) ?_
    refine f_get Bx hP (by omega) h9_2 rfl inRd 2 (by decide) kw_146 rfl rfl d_Rd_readElement_77 ?_
    refine lv_iconst (v := 1) Bx.1 Bx.2.1 d_Rd_readElement_80 (by decide) ?_
    refine lv_iadd Bx.1 Bx.2.1 d_Rd_readElement_81 ?_
    rw [show nI a + 1 = nI (a + 1) from nI_add (a) (1)]
    refine f_callVi (na := 1) (As := [.int (nI (a + 1))]) (rest := []) Bx hml E hP hD hS (by omega) h1_3 rfl (m_Ch_codeAt l (by omega) h1_3 (by omega) h2_4 (by rw [nI_toInt (by omega)]; omega)) kw_341 kw_342 kw_343 kw_2 kw_344 (by decide +kernel) ⟨rfl, rfl⟩ ⟨Nat.le_of_ble_eq_true rfl, Nat.le_of_ble_eq_true rfl⟩ rfl hl.1 (Nat.le_of_ble_eq_true rfl) d_Rd_readElement_82 ⟨Nat.le_of_ble_eq_true rfl, Nat.le_of_ble_eq_true rfl⟩ (fun r19 mem20 H locs hq hP hS => ?_)
    have hD : va_D (Az sz) (fw n ad mem20) := fw_D hD
    obtain ⟨hco21, hqe⟩ := hq
    rw [hqe] at hP hD
    rw [code_here hf hT.2.1 (k := a + 1) (by omega)] at hco21
    subst hco21
    refine f_callSNi (na := 1) (As := [.int (hereF Z T (a + 1))]) (rest := []) Bx hml E.2.1 (m_Ab_smallOfX l (hereF Z T (a + 1))) kw_372 kw_373 kw_1 kw_374 (by decide +kernel) ⟨rfl, rfl⟩ ⟨Nat.le_of_ble_eq_true rfl, Nat.le_of_ble_eq_true rfl⟩ rfl hl.1 (Nat.le_of_ble_eq_true rfl) d_Rd_readElement_85 ⟨Nat.le_of_ble_eq_true rfl, Nat.le_of_ble_eq_true rfl⟩ (fun r23 hs22 => ?_)
    subst hs22
    refine lv_bipush (v := 115) Bx.1 Bx.2.1 d_Rd_readElement_88 (by decide) ?_
    refine lv_icmp_ne Bx.1 Bx.2.1 d_Rd_readElement_90 rfl (fun hb24 => ?_) (fun hb24 => ?_)
    · refine lv_aload_n Bx.1 Bx.2.1 d_Rd_readElement_100 rfl (lv_at hl 0 rfl) ?_
      refine f_xVr (na := 0) (As := []) (rest := []) Bx hml E hP hD hS (by omega) h9_2 rfl (m_Rd_readValueY l hlt hn hT hf hRX (by omega) (u8 := u) (e8 := Ec) (A0 := va_up (elA A Ec 4) 231 (upd (elA A Ec 4 231) Ec (vp_nar .boolean 1))) hSR.1 hSR.2 (by omega) hSa) kw_467 kw_469 sel_Rd_readValue kw_6 kw_470 (by decide +kernel) ⟨rfl, rfl⟩ ⟨Nat.le_of_ble_eq_true rfl, Nat.le_of_ble_eq_true rfl⟩ rfl hl.1 (Nat.le_of_ble_eq_true rfl) d_Rd_readElement_101 ⟨Nat.le_of_ble_eq_true rfl, Nat.le_of_ble_eq_true rfl⟩ (fun X ce q9 memx H locs hx9 hP hS g1 g2 g3 => f_out hlocks hno hP hS g1 g2 g3 ⟨Nat.le_of_ble_eq_true rfl, Nat.le_of_ble_eq_true rfl⟩ ⟨hx9.1, Or.inl (fai_val c37 hb24 hx9.2 hbd9.2.1)⟩) (fun r25 mem26 H locs hq hP hS => ?_)
      have hD : va_D (Az sz) (fw n ad mem26) := fw_D hD
      obtain ⟨hE9, ba, a2, u2, A1, hba, hn9, hr2, x1, x2, hRX2, hsp2, hc2, hfr2⟩ := hq
      subst hr2
      obtain ⟨S2, A2, B2, hrd2, h82⟩ := rds_val (j := 2) (nm := nm) c37 hba hE9 hn9 hsp2 hLK hF hER (fun k hk => hfr2 (20 + 2 * k) (by omega)) hSa x1 hc2
      exact x_aret hx hb hlocks hr (⟨Ec, a2, u2, R, Ec + 1, S2, A2, B2, nm, to, rfl, by omega, by omega, by omega, x1, x2, TOK.of rfl, hRX2, hrd2, h82, (l37 c37).2.2.2.2⟩) hP hS d_Rd_readElement_104
    · refine lv_aload_n Bx.1 Bx.2.1 d_Rd_readElement_93 rfl (lv_at hl 0 rfl) ?_
      refine f_xVr (na := 0) (As := []) (rest := []) Bx hml E hP hD hS (by omega) h9_2 rfl (m_Rd_readExactStringY l hlt hn hT hf hRX (by omega) hSR.1 hSR.2 (by omega) hSa) kw_463 kw_465 sel_Rd_readExactString kw_6 kw_466 (by decide +kernel) ⟨rfl, rfl⟩ ⟨Nat.le_of_ble_eq_true rfl, Nat.le_of_ble_eq_true rfl⟩ rfl hl.1 (Nat.le_of_ble_eq_true rfl) d_Rd_readElement_94 ⟨Nat.le_of_ble_eq_true rfl, Nat.le_of_ble_eq_true rfl⟩ (fun X ce q9 memx H locs hx9 hP hS g1 g2 g3 => f_out hlocks hno hP hS g1 g2 g3 ⟨Nat.le_of_ble_eq_true rfl, Nat.le_of_ble_eq_true rfl⟩ ⟨hx9.1, Or.inl (fai_xst c37 hb24 hx9.2 hbd9.2.1)⟩) (fun r27 mem28 H locs hq hP hS => ?_)
      have hD : va_D (Az sz) (fw n ad mem28) := fw_D hD
      obtain ⟨hq8, hE9, hq9, hr2, hle9, hRX2, hcl2, ⟨s9, hs0, hs1, hs2, hs3⟩, hfr2⟩ := hq
      subst hr2
      obtain ⟨A2, B2, hrd2, h82⟩ := rds_xst (j := 2) (u := u) (nm := nm) c37 hb24 hq8 hE9 hq9 hLK hF hER hcl2 hs0 hs1 hs2 hs3 (fun k hk => hfr2 (20 + 2 * k) (by omega)) hSa
      refine lv_goto Bx.1 Bx.2.1 d_Rd_readElement_97 rfl ?_
      exact x_aret hx hb hlocks hr (⟨Ec, _, _, R, Ec + 1, _, A2, B2, nm, to, rfl, by omega, by omega, by omega, by omega, hle9, TOK.of rfl, hRX2, hrd2, h82, (l37 c37).2.2.2.2⟩) hP hS d_Rd_readElement_104
  by_cases c40 : v16 = 40
  · rw [c40]
    refine lv_lookup (off := 44) (tgt := 48) Bx.1 Bx.2.1 d_Rd_readElement_4 (by decide) (by decide) rfl ?_
    rw [e_v16] at c40
    have hlt40 := hereF_lt (show hereF Z T (a) ≠ -1 by rw [c40]; decide)
    refine lv_aload_n Bx.1 Bx.2.1 d_Rd_readElement_48 rfl (lv_at hl 0 rfl) ?_
    refine lv_iload_n Bx.1 Bx.2.1 d_Rd_readElement_49 rfl (lv_at hl 1 rfl) ?_
    refine lv_bipush (v := 41) Bx.1 Bx.2.1 d_Rd_readElement_50 (by decide) ?_
    refine f_xVr (na := 2) (As := [.int (2), .int (41)]) (rest := []) Bx hml E hP hD hS (by omega) h9_2 rfl (m_Rd_readBracket_2Y l hlt hn hT hf hRX (by omega) (u := u) (A := A) (what := 1) (oe := -1) hER hSR hSa (by omega) (Or.inl ⟨rfl, rfl⟩) hLK) kw_447 kw_449 sel_Rd_readBracket kw_6 kw_450 (by decide +kernel) ⟨rfl, rfl⟩ ⟨Nat.le_of_ble_eq_true rfl, Nat.le_of_ble_eq_true rfl⟩ rfl hl.1 (Nat.le_of_ble_eq_true rfl) d_Rd_readElement_52 ⟨Nat.le_of_ble_eq_true rfl, Nat.le_of_ble_eq_true rfl⟩ (fun X ce q9 memx H locs hx9 hP hS g1 g2 g3 => f_out hlocks hno hP hS g1 g2 g3 ⟨Nat.le_of_ble_eq_true rfl, Nat.le_of_ble_eq_true rfl⟩ ⟨hx9.1, Or.inl (hx9.2.eq (sing_br (l40 c40).1 c40 (by omega)))⟩) (fun r29 mem30 H locs hq hP hS => ?_)
    have hD : va_D (Az sz) (fw n ad mem30) := fw_D hD
    obtain ⟨la31, ax32, ux33, Rx34, Ex35, Sx36, Ax37, Bx_38, nx39, tox40, hr941, h142, h243, h344, h445, htk46, hRX47, ali48, hh49, hent50⟩ := hq
    subst hr941
    have hE9 : Ec < 100 := by have := hRX47.1.1.1; omega
    have hrd9 := brk_rds (nm := nm) hLK hE9 hF hent50 ali48 hh49 ali48.2.1 ali48.2.2.1
    exact x_aret hx hb hlocks hr (⟨Ec, gapF T Z ax32 + 1, ux33, Rx34, Ex35, Sx36, _, _, nx39, tox40, rfl, by omega, by omega, by omega, by have := gapF_ge T Z ax32; omega, by omega, htk46, hRX47, rdsEq hrd9.1 (sing_br (l40 c40).1 c40 (by omega)), hrd9.2, (l40 c40).2⟩) hP hS d_Rd_readElement_55
  by_cases c91 : v16 = 91
  · rw [c91]
    refine lv_lookup (off := 52) (tgt := 56) Bx.1 Bx.2.1 d_Rd_readElement_4 (by decide) (by decide) rfl ?_
    rw [e_v16] at c91
    have hlt91 := hereF_lt (show hereF Z T (a) ≠ -1 by rw [c91]; decide)
    refine lv_aload_n Bx.1 Bx.2.1 d_Rd_readElement_56 rfl (lv_at hl 0 rfl) ?_
    refine lv_iload_n Bx.1 Bx.2.1 d_Rd_readElement_57 rfl (lv_at hl 1 rfl) ?_
    refine f_xVr (na := 1) (As := [.int (2)]) (rest := []) Bx hml E hP hD hS (by omega) h9_2 rfl (m_Rd_readOption_2Y l hlt hn hT hf hRX (by omega) (u := u) (A := A) hER hSR hSa (by omega) hLK hF c91) kw_451 kw_453 sel_Rd_readOption kw_6 kw_454 (by decide +kernel) ⟨rfl, rfl⟩ ⟨Nat.le_of_ble_eq_true rfl, Nat.le_of_ble_eq_true rfl⟩ rfl hl.1 (Nat.le_of_ble_eq_true rfl) d_Rd_readElement_58 ⟨Nat.le_of_ble_eq_true rfl, Nat.le_of_ble_eq_true rfl⟩ (fun X ce q9 memx H locs hx9 hP hS g1 g2 g3 => f_out hlocks hno hP hS g1 g2 g3 ⟨Nat.le_of_ble_eq_true rfl, Nat.le_of_ble_eq_true rfl⟩ ⟨hx9.1, Or.inl hx9.2⟩) (fun r51 mem52 H locs hq hP hS => ?_)
    have hD : va_D (Az sz) (fw n ad mem52) := fw_D hD
    obtain ⟨kx53, ax54, ux55, Rx56, Ex57, Sx58, Ax59, Bx_60, nx61, tox62, hr963, h164, h265, h366, h467, h568, htk69, hRX70, rds71, h872⟩ := hq
    subst hr963
    exact x_aret hx hb hlocks hr (⟨kx53, ax54, ux55, Rx56, Ex57, Sx58, Ax59, Bx_60, nx61, tox62, rfl, h164, h265, h366, h467, h568, htk69, hRX70, rds71, h872, (l91 c91).2⟩) hP hS d_Rd_readElement_61
  refine lv_lookup (off := 101) (tgt := 105) Bx.1 Bx.2.1 d_Rd_readElement_4 (by decide) (by show Op.lookupswitch.offset [(34, 58), (37, 68), (40, 44), (91, 52)] 101 (v16).toInt = 101; rw [lv_osw c34 (by decide), lv_osw c37 (by decide), lv_osw c40 (by decide), lv_osw c91 (by decide)]; rfl) rfl ?_
  rw [e_v16] at c40 c91 c34 c37
  refine lv_aload_n Bx.1 Bx.2.1 d_Rd_readElement_105 rfl (lv_at hl 0 rfl) ?_
  refine f_xVr (na := 0) (As := []) (rest := []) Bx hml E hP hD hS (by omega) h9_2 rfl (m_Rd_readAskedNameY l hlt hn hT hf hRX (by omega) (A := A) (by omega)) kw_478 kw_480 sel_Rd_readAskedName kw_6 kw_481 (by decide +kernel) ⟨rfl, rfl⟩ ⟨Nat.le_of_ble_eq_true rfl, Nat.le_of_ble_eq_true rfl⟩ rfl hl.1 (Nat.le_of_ble_eq_true rfl) d_Rd_readElement_106 ⟨Nat.le_of_ble_eq_true rfl, Nat.le_of_ble_eq_true rfl⟩ (fun X ce q9 memx H locs hx9 hP hS g1 g2 g3 => f_out hlocks hno hP hS g1 g2 g3 ⟨Nat.le_of_ble_eq_true rfl, Nat.le_of_ble_eq_true rfl⟩ ⟨hx9.1, fai_nam c40 c91 c34 c37 hx9.2⟩) (fun r73 mem74 H locs hq hP hS => ?_)
  have hD : va_D (Az sz) (fw n ad mem74) := fw_D hD
  obtain ⟨i9, a2, R2, A3, n2, hsn, hle, hE9, hr2, x1, x2, x3, hA3, htk, ⟨t2, htk2, hRX2⟩, hi9, hcl2, hfr2⟩ := hq
  subst hr2
  have hR12 := hRX2.1.1.1.1
  obtain ⟨A2, B2, hrd2, h82⟩ := rds_nam (j := 2) (u := u) hle hsn hE9 hA3 htk x1 hi9 hR12 hLK hF hER ⟨(hfr2 220 (by omega)).trans hSR.1, (hfr2 221 (by omega)).trans hSR.2⟩ hcl2 (fun k hk => hfr2 (20 + 2 * k) (by omega)) (by omega)
  exact x_aret hx hb hlocks hr (⟨Ec, a2, u, R2, Ec + 1, S, A2, B2, n2, t2, rfl, by omega, by omega, x1, x2, x3, htk2, hRX2, hrd2, h82, lt_ok hle⟩) hP hS d_Rd_readElement_109
set_option maxHeartbeats 4000000 in
set_option maxRecDepth 100000 in
theorem m_Rd_readRepetition_2Y (l : Launch) {D : va_G} {cy : Nat → ClassId} {sz n : Nat} {ad : Nat → Nat} {mem : Nat → va_E} {Z a R Ec lim : Nat} {f T : Nat → Int32} {to : Nat → Int32} {nm : Nat → Int64} {m0 : Nat → va_E} {u S : Nat} {A Bw : Ro} (hlt : l.stackTraces = false) (hn : 224 ≤ n) (hT : TX cy ad Z f m0) (hf : ∀ k, k < Z → f k = T k) (hRX : RX cy ad lim a R Ec to nm m0 mem) (haB : a ≤ 300) (hER : ER ad R Ec Bw mem) (hSR : SR cy ad S Bw mem) (hSa : S ≤ a) (haZ : a ≤ Z) (hLK : LKa Ec A) (hF : FRM A 2 Ec) (h39 : A 239 2 = -1) (hbg : bgF (hereF Z T a) = true) : NXr l D cy sz n ad y_Rd_readRepetition c_Rd_readRepetition 3 (some (.object "AbnfChart$Element")) ({ frames := 41, cells := 1, slots := 6, locals := 988 } : Room) mem [.ref (ad 222), .int (2)] (fun r mem' => ∃ (k' a' u' R' E' S' : Nat) (A' Bw' : Ro) (nm' : Nat → Int64) (to' : Nat → Int32), r = ad (20 + 2 * k') ∧ Ec ≤ k' ∧ k' < E' ∧ R ≤ R' ∧ a < a' ∧ a' ≤ Z ∧ TOK R R' to to' ∧ RX cy ad lim a' R' E' to' nm' m0 mem' ∧ RDS cy ad T Z 2 (repS T Z a u R Ec 2 A nm) (PSf A 2) R Ec S u A Bw k' a' u' R' E' S' A' Bw' nm' mem' ∧ A' 238 2 = A 238 2) (fun X mem' => ((X = cIA ∨ X = cIS) ∧ ∃ rc' ec' : Nat, RS cy ad lim rc' ec' m0 mem') ∧ (Fai T Z (repS T Z a u R Ec 2 A nm))) := by
  refine vx_ofW (cc := c_Rd_readRepetition) (maxL := 3) (ret := (some (.object "AbnfChart$Element"))) (by decide) rfl ?_
  intro p e s m args below meth c s₁ B hml hno hv
  obtain ⟨rfl, E, hP, hD⟩ := hv
  have hx := B.exec
  have hb := B.bytes
  have hr := B.returns
  have hlocks := B.notSynchronized
  have Bx : MB p s m [.ref (ad 222), .int (2)].toArray c c_Rd_readRepetition "AbnfChart$Reader" D cy := ⟨hx, hb, tb_all (atoms_spec B.pre) E.2.1, findClass_of_methodNamed B.named, E.1⟩
  have hS : va_S (Az sz) s.heap s.heap [] := va_S.rf
  have hl := lv_entry ([.ref (ad 222), .int (2)]) (n := 3) (Nat.le_of_ble_eq_true rfl)
  rw [lg_entry_eq]
  generalize (lg_sl ([.ref (ad 222), .int (2)]) ++ List.replicate (3 - (lg_sl ([.ref (ad 222), .int (2)])).length) Slot.unset).toArray = ls at hl ⊢
  have hl : lv_has ls 3 [(0, .ref (ad 222)), (1, .int (2))] := hl
  have hZ9 := hT.2.1
  have hbd9 := hRX.1.1.1
  have hfr0 : ∀ i, 19 ≤ i ∧ i < 222 ∧ i ≠ 20 + 2 * Ec → mem i = mem i := fun _ _ => rfl
  obtain ⟨ft1, h9_2⟩ := hRX.2.1
  have h1_3 : mem 1 = .inr (0, [.ref (ad 2), .int (nI Z)]) := (hRX.1.2.2 1 (by omega)).trans hT.1
  have h2_4 : mem 2 = .inl (cy 0, 240, .inl f) := (hRX.1.2.2 2 (by omega)).trans hT.2.2
  have h5_5 := hRX.1.1.2.1
  have hbd11 := hRX.1.1.1
  obtain ⟨S6, g7, hS_8, h220_9, h221_10⟩ := hRX.1.1.2.2.2.2.2.2
  refine lv_aload_n Bx.1 Bx.2.1 d_Rd_readRepetition_0 rfl (lv_at hl 0 rfl) ?_
  refine f_callVi (na := 0) (As := []) (rest := []) Bx hml E hP hD hS (by omega) h9_2 rfl (m_Rd_peekX l hn hT hf hRX (by omega)) kw_353 kw_355 sel_Rd_peek kw_6 kw_356 (by decide +kernel) ⟨rfl, rfl⟩ ⟨Nat.le_of_ble_eq_true rfl, Nat.le_of_ble_eq_true rfl⟩ rfl hl.1 (Nat.le_of_ble_eq_true rfl) d_Rd_readRepetition_1 ⟨Nat.le_of_ble_eq_true rfl, Nat.le_of_ble_eq_true rfl⟩ (fun r13 mem14 H locs hq hP hS => ?_)
  have hD : va_D (Az sz) (fw n ad mem14) := fw_D hD
  obtain ⟨hqe, hpk12⟩ := hq
  rw [hqe] at hP hD
  subst hpk12
  refine f_callSi (na := 1) (As := [.int (hereF Z T (a))]) (rest := []) Bx hml E.2.1 (m_Rd_beginsRepeatX l (hereF Z T (a))) kw_416 kw_417 kw_6 kw_418 (by decide +kernel) ⟨rfl, rfl⟩ ⟨Nat.le_of_ble_eq_true rfl, Nat.le_of_ble_eq_true rfl⟩ rfl hl.1 (Nat.le_of_ble_eq_true rfl) d_Rd_readRepetition_4 ⟨Nat.le_of_ble_eq_true rfl, Nat.le_of_ble_eq_true rfl⟩ (fun r17 hs16 => ?_)
  subst hs16
  refine lv_if_ne Bx.1 Bx.2.1 d_Rd_readRepetition_7 rfl (fun hb18 => ?_) (fun hb18 => ?_)
  · refine lv_aload_n Bx.1 Bx.2.1 d_Rd_readRepetition_16 rfl (lv_at hl 0 rfl) ?_
    refine lv_iconst (v := 2) Bx.1 Bx.2.1 d_Rd_readRepetition_17 (by decide) ?_
    refine lv_aload_n Bx.1 Bx.2.1 d_Rd_readRepetition_18 rfl (lv_at hl 0 rfl) ?_
    refine f_get Bx hP (by omega) h9_2 rfl inRd 2 (by decide) kw_146 rfl rfl d_Rd_readRepetition_19 ?_
    refine f_xVr (na := 2) (As := [.int (2), .int (nI a)]) (rest := []) Bx hml E hP hD hS (by omega) h9_2 rfl (m_Rd_addElementY l hlt hn hT hf hRX (by omega)) kw_419 kw_421 sel_Rd_addElement kw_6 kw_422 (by decide +kernel) ⟨rfl, rfl⟩ ⟨Nat.le_of_ble_eq_true rfl, Nat.le_of_ble_eq_true rfl⟩ rfl hl.1 (Nat.le_of_ble_eq_true rfl) d_Rd_readRepetition_22 ⟨Nat.le_of_ble_eq_true rfl, Nat.le_of_ble_eq_true rfl⟩ (fun X ce q9 memx H locs hx9 hP hS g1 g2 g3 => f_out hlocks hno hP hS g1 g2 g3 ⟨Nat.le_of_ble_eq_true rfl, Nat.le_of_ble_eq_true rfl⟩ ⟨hx9.1, Or.inl (rep_E (bpF_1 hb18) hx9.2)⟩) (fun r19 mem20 H locs hq hP hS => ?_)
    have hD : va_D (Az sz) (fw n ad mem20) := fw_D hD
    obtain ⟨hr921, hec22, hRX23, hcl24, hfa25⟩ := hq
    subst hr921
    have hfr26 : ∀ i, 19 ≤ i ∧ i < 222 ∧ i ≠ 20 + 2 * Ec → mem20 i = mem i := fun i q => (hfa25 i (by omega)).trans (hfr0 i q)
    obtain ⟨ft27, h9_28⟩ := hRX23.2.1
    have h1_29 : mem20 1 = .inr (0, [.ref (ad 2), .int (nI Z)]) := (hRX23.1.2.2 1 (by omega)).trans hT.1
    have h2_30 : mem20 2 = .inl (cy 0, 240, .inl f) := (hRX23.1.2.2 2 (by omega)).trans hT.2.2
    have h5_31 := hRX23.1.1.2.1
    have hbd37 := hRX23.1.1.1
    obtain ⟨S32, g33, hS_34, h220_35, h221_36⟩ := hRX23.1.1.2.2.2.2.2.2
    obtain ⟨ft38, h9_39⟩ := hRX23.2.1
    have h1_40 : mem20 1 = .inr (0, [.ref (ad 2), .int (nI Z)]) := (hRX23.1.2.2 1 (by omega)).trans hT.1
    have h2_41 : mem20 2 = .inl (cy 0, 240, .inl f) := (hRX23.1.2.2 2 (by omega)).trans hT.2.2
    have h5_42 := hRX23.1.1.2.1
    have hbd48 := hRX23.1.1.1
    obtain ⟨S43, g44, hS_45, h220_46, h221_47⟩ := hRX23.1.1.2.2.2.2.2.2
    refine lv_astore_n (lv' := [(2, .ref (ad (20 + 2 * Ec))), (0, .ref (ad 222)), (1, .int (2))]) Bx.1 Bx.2.1 d_Rd_readRepetition_25 rfl hl (by decide) rfl (fun ls hl => ?_)
    refine lv_aload_n Bx.1 Bx.2.1 d_Rd_readRepetition_26 rfl (lv_at hl 1 rfl) ?_
    refine lv_aload_n Bx.1 Bx.2.1 d_Rd_readRepetition_27 rfl (lv_at hl 0 rfl) ?_
    have hdg := bpF_1 hb18
    have hE9 := hec22
    refine f_xVv (na := 1) (As := [.ref (ad (20 + 2 * Ec))]) (rest := []) Bx hml E hP hD hS (by omega) h9_39 rfl (m_Rd_readRepeatY l hlt hn hT hf hRX23 (by omega) (by omega) hcl24 (by omega) hdg) kw_482 kw_484 sel_Rd_readRepeat kw_6 kw_485 (by decide +kernel) ⟨rfl, rfl⟩ ⟨Nat.le_of_ble_eq_true rfl, Nat.le_of_ble_eq_true rfl⟩ rfl hl.1 (Nat.le_of_ble_eq_true rfl) d_Rd_readRepetition_28 ⟨Nat.le_of_ble_eq_true rfl, Nat.le_of_ble_eq_true rfl⟩ (fun X ce q9 memx H locs hx9 hP hS g1 g2 g3 => f_out hlocks hno hP hS g1 g2 g3 ⟨Nat.le_of_ble_eq_true rfl, Nat.le_of_ble_eq_true rfl⟩ ⟨hx9.1, hx9.2.elim (fun v1 z => z.elim (fun b1 z => z.elim (fun v2 z => z.elim (fun b2 z => Or.inl (rep_bad hdg hE9 z.1 z.2.1 (Or.inl z.2.2))))))⟩) (fun mem50 H locs hq hP hS => ?_)
    have hD : va_D (Az sz) (fw n ad mem50) := fw_D hD
    obtain ⟨v1, b1, v2, b2, hr1, hr2, hnv, hb8, hb9, hRXr, hclr, hfar⟩ := hq
    have hfr51 : ∀ i, 19 ≤ i ∧ i < 222 ∧ i ≠ 20 + 2 * Ec → mem50 i = mem i := fun i q => (hfar i (by omega)).trans (hfr26 i q)
    obtain ⟨ft52, h9_53⟩ := hRXr.2.1
    have h1_54 : mem50 1 = .inr (0, [.ref (ad 2), .int (nI Z)]) := (hRXr.1.2.2 1 (by omega)).trans hT.1
    have h2_55 : mem50 2 = .inl (cy 0, 240, .inl f) := (hRXr.1.2.2 2 (by omega)).trans hT.2.2
    have h5_56 := hRXr.1.1.2.1
    have hbd62 := hRXr.1.1.1
    obtain ⟨S57, g58, hS_59, h220_60, h221_61⟩ := hRXr.1.1.2.2.2.2.2.2
    obtain ⟨ft63, h9_64⟩ := hRXr.2.1
    have h1_65 : mem50 1 = .inr (0, [.ref (ad 2), .int (nI Z)]) := (hRXr.1.2.2 1 (by omega)).trans hT.1
    have h2_66 : mem50 2 = .inl (cy 0, 240, .inl f) := (hRXr.1.2.2 2 (by omega)).trans hT.2.2
    have h5_67 := hRXr.1.1.2.1
    have hbd73 := hRXr.1.1.1
    obtain ⟨S68, g69, hS_70, h220_71, h221_72⟩ := hRXr.1.1.2.2.2.2.2.2
    refine lv_aload_n Bx.1 Bx.2.1 d_Rd_readRepetition_31 rfl (lv_at hl 0 rfl) ?_
    refine lv_aload_n Bx.1 Bx.2.1 d_Rd_readRepetition_32 rfl (lv_at hl 1 rfl) ?_
    refine lv_iload_n Bx.1 Bx.2.1 d_Rd_readRepetition_33 rfl (lv_at hl 2 rfl) ?_
    have her74 : ER ad R (Ec + 1) (bwN Bw Ec 2 (v1) (v2) (-1) (-1) (-1) (Bw 234)) mem50 := hER.new (Nat.le_refl _) (by rw [vR_m]; exact hclr) (Or.inl rfl) (fun i9 hi9 => hfr51 (20 + 2 * i9) (by omega))
    have hsr75 : SR cy ad S (bwN Bw Ec 2 (v1) (v2) (-1) (-1) (-1) (Bw 234)) mem50 := ⟨(hfr51 220 (by omega)).trans hSR.1, (hfr51 221 (by omega)).trans hSR.2⟩
    obtain ⟨hLK1, hF1⟩ := frm_rep (v1 := v1) (v2 := v2) hLK hE9 hF h39
    refine f_xVr (na := 1) (As := [.int (2)]) (rest := [.ref (ad (20 + 2 * Ec))]) Bx hml E hP hD hS (by omega) h9_64 rfl (m_Rd_readElement_2Y l hlt hn hT hf hRXr (by omega) (u := u) (A := repB A 2 Ec v1 v2) her74 hsr75 (by omega) (by omega) hLK1 hF1) kw_443 kw_445 sel_Rd_readElement kw_6 kw_446 (by decide +kernel) ⟨rfl, rfl⟩ ⟨Nat.le_of_ble_eq_true rfl, Nat.le_of_ble_eq_true rfl⟩ rfl hl.1 (Nat.le_of_ble_eq_true rfl) d_Rd_readRepetition_34 ⟨Nat.le_of_ble_eq_true rfl, Nat.le_of_ble_eq_true rfl⟩ (fun X ce q9 memx H locs hx9 hP hS g1 g2 g3 => f_out hlocks hno hP hS g1 g2 g3 ⟨Nat.le_of_ble_eq_true rfl, Nat.le_of_ble_eq_true rfl⟩ ⟨hx9.1, rep_fai hdg hE9 hr1 hr2 hnv hx9.2⟩) (fun r76 mem77 H locs hq hP hS => ?_)
    have hD : va_D (Az sz) (fw n ad mem77) := fw_D hD
    obtain ⟨kx78, ax79, ux80, Rx81, Ex82, Sx83, Ax84, Bx_85, nx86, tox87, hr988, h189, h290, h391, h492, h593, htk94, hRX95, rds96, h897, hok98⟩ := hq
    subst hr988
    obtain ⟨ft99, h9_100⟩ := hRX95.2.1
    have h1_101 : mem77 1 = .inr (0, [.ref (ad 2), .int (nI Z)]) := (hRX95.1.2.2 1 (by omega)).trans hT.1
    have h2_102 : mem77 2 = .inl (cy 0, 240, .inl f) := (hRX95.1.2.2 2 (by omega)).trans hT.2.2
    have h5_103 := hRX95.1.1.2.1
    have hbd109 := hRX95.1.1.1
    obtain ⟨S104, g105, hS_106, h220_107, h221_108⟩ := hRX95.1.1.2.2.2.2.2.2
    have hbd110 := hRX95.1.1.1
    have hce111 := (rds96.2.1 Ec (by omega)).1
    refine f_putN Bx hP hD hS (by omega) hce111 rfl inEl tyEl okEl nmEl 4 (by decide) kw_87 rfl rfl rfl rfl (Nat.le_of_ble_eq_true rfl) d_Rd_readRepetition_37 (fun H locs hP hS => ?_)
    obtain ⟨mem112, e_mem112⟩ : ∃ z, z = va_up mem77 ((20 + 2 * Ec)) (.inr (2, [.int (Bx_85 228 Ec), .int (Bx_85 229 Ec), .int (Bx_85 230 Ec), vR ad (Bx_85 231 Ec), .ref (ad (20 + 2 * kx78)), vE ad (Bx_85 233 Ec), .ref (ad (21 + 2 * Ec))])) := ⟨_, rfl⟩
    have hP : va_P D vcl (fw n ad mem112) H := by rw [e_mem112]; exact hP
    have hD : va_D (Az sz) (fw n ad mem112) := fw_D hD
    have h_mem112 : mem112 ((20 + 2 * Ec)) = .inr (2, [.int (Bx_85 228 Ec), .int (Bx_85 229 Ec), .int (Bx_85 230 Ec), vR ad (Bx_85 231 Ec), .ref (ad (20 + 2 * kx78)), vE ad (Bx_85 233 Ec), .ref (ad (21 + 2 * Ec))]) := by rw [e_mem112, va_up_self]
    have hh113 := (va_up_ne mem77 (.inr (2, [.int (Bx_85 228 Ec), .int (Bx_85 229 Ec), .int (Bx_85 230 Ec), vR ad (Bx_85 231 Ec), .ref (ad (20 + 2 * kx78)), vE ad (Bx_85 233 Ec), .ref (ad (21 + 2 * Ec))])) (show (222 : Nat) ≠ (20 + 2 * Ec) by first | decide | assumption | omega)).trans h9_100
    rw [← e_mem112] at hh113
    have hh114 := (va_up_ne mem77 (.inr (2, [.int (Bx_85 228 Ec), .int (Bx_85 229 Ec), .int (Bx_85 230 Ec), vR ad (Bx_85 231 Ec), .ref (ad (20 + 2 * kx78)), vE ad (Bx_85 233 Ec), .ref (ad (21 + 2 * Ec))])) (show (1 : Nat) ≠ (20 + 2 * Ec) by first | decide | assumption | omega)).trans h1_101
    rw [← e_mem112] at hh114
    have hh115 := (va_up_ne mem77 (.inr (2, [.int (Bx_85 228 Ec), .int (Bx_85 229 Ec), .int (Bx_85 230 Ec), vR ad (Bx_85 231 Ec), .ref (ad (20 + 2 * kx78)), vE ad (Bx_85 233 Ec), .ref (ad (21 + 2 * Ec))])) (show (5 : Nat) ≠ (20 + 2 * Ec) by first | decide | assumption | omega)).trans h5_103
    rw [← e_mem112] at hh115
    have hh116 := (va_up_ne mem77 (.inr (2, [.int (Bx_85 228 Ec), .int (Bx_85 229 Ec), .int (Bx_85 230 Ec), vR ad (Bx_85 231 Ec), .ref (ad (20 + 2 * kx78)), vE ad (Bx_85 233 Ec), .ref (ad (21 + 2 * Ec))])) (show (220 : Nat) ≠ (20 + 2 * Ec) by first | decide | assumption | omega)).trans h220_107
    rw [← e_mem112] at hh116
    have hRX117 : RX cy ad lim (ax79) (Rx81) (Ex82) (tox87) (nx86) m0 mem112 := by rw [e_mem112]; exact hRX95.el (by omega) (hRX95.1.mk (by omega) (hRX95.1.1.upEl (by omega) (fun _ => ⟨(rds96.2.1 Ec (by omega)).2.1.oR ad, Or.inr ⟨kx78, by omega, by omega, rfl⟩, (rds96.2.1 Ec (by omega)).2.2.2.oE ad (by omega)⟩)))
    have her118 : ER ad (Rx81) (Ex82) (va_up Bx_85 232 (upd (Bx_85 232) Ec (nI kx78))) mem112 := rds96.2.1.part (by omega) (by omega) (by omega) h_mem112 (fun i9 q9 hi9 => by rw [e_mem112]; exact va_up_ne _ _ (by omega))
    have hsr119 : SR cy ad (Sx83) (Bx_85) mem112 := ⟨(show mem112 220 = mem77 220 by rw [e_mem112]; exact va_up_ne _ _ (by omega)).trans rds96.2.2.1.1, (show mem112 221 = mem77 221 by rw [e_mem112]; exact va_up_ne _ _ (by omega)).trans rds96.2.2.1.2⟩
    obtain ⟨ft120, h9_121⟩ := hRX117.2.1
    have h1_122 : mem112 1 = .inr (0, [.ref (ad 2), .int (nI Z)]) := (hRX117.1.2.2 1 (by omega)).trans hT.1
    have h2_123 : mem112 2 = .inl (cy 0, 240, .inl f) := (hRX117.1.2.2 2 (by omega)).trans hT.2.2
    have h5_124 := hRX117.1.1.2.1
    have hbd130 := hRX117.1.1.1
    obtain ⟨S125, g126, hS_127, h220_128, h221_129⟩ := hRX117.1.1.2.2.2.2.2.2
    refine lv_aload_n Bx.1 Bx.2.1 d_Rd_readRepetition_40 rfl (lv_at hl 0 rfl) ?_
    have hrd9 := rep_rds hLK hE9 hF h39 rds96 h897 ⟨by omega, by omega⟩ (rep_suc (u := u) (R := R) (f := 2) (A := A) (nm := nm) hdg hE9 hr1 hr2 hnv hok98) her118 hsr119
    exact x_aret hx hb hlocks hr (⟨Ec, ax79, ux80, Rx81, Ex82, Sx83, _, _, nx86, tox87, rfl, by omega, by omega, by omega, by omega, by omega, htk94, hRX117, hrd9.1, hrd9.2⟩) hP hS d_Rd_readRepetition_41
  · refine lv_aload_n Bx.1 Bx.2.1 d_Rd_readRepetition_10 rfl (lv_at hl 0 rfl) ?_
    refine lv_iload_n Bx.1 Bx.2.1 d_Rd_readRepetition_11 rfl (lv_at hl 1 rfl) ?_
    obtain ⟨hd0, h42⟩ := bpF_0 hb18
    refine f_xVr (na := 1) (As := [.int (2)]) (rest := []) Bx hml E hP hD hS (by omega) h9_2 rfl (m_Rd_readElement_2Y l hlt hn hT hf hRX (by omega) (u := u) (A := A) hER hSR hSa (by omega) hLK hF) kw_443 kw_445 sel_Rd_readElement kw_6 kw_446 (by decide +kernel) ⟨rfl, rfl⟩ ⟨Nat.le_of_ble_eq_true rfl, Nat.le_of_ble_eq_true rfl⟩ rfl hl.1 (Nat.le_of_ble_eq_true rfl) d_Rd_readRepetition_12 ⟨Nat.le_of_ble_eq_true rfl, Nat.le_of_ble_eq_true rfl⟩ (fun X ce q9 memx H locs hx9 hP hS g1 g2 g3 => f_out hlocks hno hP hS g1 g2 g3 ⟨Nat.le_of_ble_eq_true rfl, Nat.le_of_ble_eq_true rfl⟩ ⟨hx9.1, (hx9.2.resolve_right (fun z => z ⟨hbg, hd0, h42⟩)).eq (rep_no hd0 h42)⟩) (fun r131 mem132 H locs hq hP hS => ?_)
    have hD : va_D (Az sz) (fw n ad mem132) := fw_D hD
    obtain ⟨kx133, ax134, ux135, Rx136, Ex137, Sx138, Ax139, Bx_140, nx141, tox142, hr9143, h1144, h2145, h3146, h4147, h5148, htk149, hRX150, rds151, h8152, hok153⟩ := hq
    subst hr9143
    obtain ⟨ft154, h9_155⟩ := hRX150.2.1
    have h1_156 : mem132 1 = .inr (0, [.ref (ad 2), .int (nI Z)]) := (hRX150.1.2.2 1 (by omega)).trans hT.1
    have h2_157 : mem132 2 = .inl (cy 0, 240, .inl f) := (hRX150.1.2.2 2 (by omega)).trans hT.2.2
    have h5_158 := hRX150.1.1.2.1
    have hbd164 := hRX150.1.1.1
    obtain ⟨S159, g160, hS_161, h220_162, h221_163⟩ := hRX150.1.1.2.2.2.2.2.2
    have hbd165 := hRX150.1.1.1
    exact x_aret hx hb hlocks hr (⟨kx133, ax134, ux135, Rx136, Ex137, Sx138, Ax139, Bx_140, nx141, tox142, rfl, h1144, h2145, h3146, h4147, h5148, htk149, hRX150, rdsEq rds151 (rep_no hd0 h42), h8152⟩) hP hS d_Rd_readRepetition_15
set_option maxHeartbeats 4000000 in
set_option maxRecDepth 100000 in
theorem m_Rd_readSequence_2Y (l : Launch) {D : va_G} {cy : Nat → ClassId} {sz n : Nat} {ad : Nat → Nat} {mem : Nat → va_E} {Z a R Ec lim : Nat} {f T : Nat → Int32} {to : Nat → Int32} {nm : Nat → Int64} {m0 : Nat → va_E} {u S : Nat} {A Bw : Ro} {cq : Nat} (hlt : l.stackTraces = false) (hn : 224 ≤ n) (hT : TX cy ad Z f m0) (hf : ∀ k, k < Z → f k = T k) (hRX : RX cy ad lim a R Ec to nm m0 mem) (haB : a ≤ 300) (hER : ER ad R Ec Bw mem) (hSR : SR cy ad S Bw mem) (hSa : S ≤ a) (haZ : a ≤ Z) (hLK : LKa Ec A) (hc : A 237 2 = nI cq) (hcl : cq < Ec) (h39 : A 239 2 = -1) : NXr l D cy sz n ad y_Rd_readSequence c_Rd_readSequence 5 (some (.object "AbnfChart$Element")) ({ frames := 42, cells := 1, slots := 6, locals := 1012 } : Room) mem [.ref (ad 222), .int (2)] (fun r mem' => ∃ (a' u' R' E' S' : Nat) (A' Bw' : Ro) (nm' : Nat → Int64) (to' : Nat → Int32), r = ad (20 + 2 * Ec) ∧ Ec < E' ∧ R ≤ R' ∧ a < a' ∧ a' ≤ Z ∧ TOK R R' to to' ∧ RX cy ad lim (gapF T Z a') R' E' to' nm' m0 mem' ∧ RDS cy ad T Z 2 (seqS T Z a u R Ec 2 A nm) (slotOf A cq) R Ec S u A Bw Ec a' u' R' E' S' A' Bw' nm' mem' ∧ ¬ (bgF (hereF Z T (gapF T Z a')) = true ∧ a' < gapF T Z a')) (fun X mem' => ((X = cIA ∨ X = cIS) ∧ ∃ rc' ec' : Nat, RS cy ad lim rc' ec' m0 mem') ∧ (Fai T Z (seqS T Z a u R Ec 2 A nm))) := by
  refine vx_ofW (cc := c_Rd_readSequence) (maxL := 5) (ret := (some (.object "AbnfChart$Element"))) (by decide) rfl ?_
  intro p e s m args below meth c s₁ B hml hno hv
  obtain ⟨rfl, E, hP, hD⟩ := hv
  have hx := B.exec
  have hb := B.bytes
  have hr := B.returns
  have hlocks := B.notSynchronized
  have Bx : MB p s m [.ref (ad 222), .int (2)].toArray c c_Rd_readSequence "AbnfChart$Reader" D cy := ⟨hx, hb, tb_all (atoms_spec B.pre) E.2.1, findClass_of_methodNamed B.named, E.1⟩
  have hS : va_S (Az sz) s.heap s.heap [] := va_S.rf
  have hl := lv_entry ([.ref (ad 222), .int (2)]) (n := 5) (Nat.le_of_ble_eq_true rfl)
  rw [lg_entry_eq]
  generalize (lg_sl ([.ref (ad 222), .int (2)]) ++ List.replicate (5 - (lg_sl ([.ref (ad 222), .int (2)])).length) Slot.unset).toArray = ls at hl ⊢
  have hl : lv_has ls 5 [(0, .ref (ad 222)), (1, .int (2))] := hl
  have hZ9 := hT.2.1
  have hbd9 := hRX.1.1.1
  have hfr0 : ∀ i, 19 ≤ i ∧ i < 222 ∧ i ≠ 20 + 2 * Ec → mem i = mem i := fun _ _ => rfl
  obtain ⟨ft1, h9_2⟩ := hRX.2.1
  have h1_3 : mem 1 = .inr (0, [.ref (ad 2), .int (nI Z)]) := (hRX.1.2.2 1 (by omega)).trans hT.1
  have h2_4 : mem 2 = .inl (cy 0, 240, .inl f) := (hRX.1.2.2 2 (by omega)).trans hT.2.2
  have h5_5 := hRX.1.1.2.1
  have hbd11 := hRX.1.1.1
  obtain ⟨S6, g7, hS_8, h220_9, h221_10⟩ := hRX.1.1.2.2.2.2.2.2
  refine lv_aload_n Bx.1 Bx.2.1 d_Rd_readSequence_0 rfl (lv_at hl 0 rfl) ?_
  refine lv_iconst (v := 1) Bx.1 Bx.2.1 d_Rd_readSequence_1 (by decide) ?_
  refine f_xVr (na := 1) (As := [.int (1)]) (rest := []) Bx hml E hP hD hS (by omega) h9_2 rfl (m_Rd_beginRowY l hlt hn hT hf hRX (by omega)) kw_409 kw_411 sel_Rd_beginRow kw_6 kw_412 (by decide +kernel) ⟨rfl, rfl⟩ ⟨Nat.le_of_ble_eq_true rfl, Nat.le_of_ble_eq_true rfl⟩ rfl hl.1 (Nat.le_of_ble_eq_true rfl) d_Rd_readSequence_2 ⟨Nat.le_of_ble_eq_true rfl, Nat.le_of_ble_eq_true rfl⟩ (fun X ce q9 memx H locs hx9 hP hS g1 g2 g3 => f_out hlocks hno hP hS g1 g2 g3 ⟨Nat.le_of_ble_eq_true rfl, Nat.le_of_ble_eq_true rfl⟩ ⟨hx9.1, Or.inl (seq_no hx9.2)⟩) (fun r12 mem13 H locs hq hP hS => ?_)
  have hD : va_D (Az sz) (fw n ad mem13) := fw_D hD
  obtain ⟨hbg, hE9, hr9, hRXb, hclb, hfab⟩ := hq
  subst hr9
  have hfr14 : ∀ i, 19 ≤ i ∧ i < 222 ∧ i ≠ 20 + 2 * Ec → mem13 i = mem i := fun i q => (hfab i (by omega)).trans (hfr0 i q)
  obtain ⟨ft15, h9_16⟩ := hRXb.2.1
  have h1_17 : mem13 1 = .inr (0, [.ref (ad 2), .int (nI Z)]) := (hRXb.1.2.2 1 (by omega)).trans hT.1
  have h2_18 : mem13 2 = .inl (cy 0, 240, .inl f) := (hRXb.1.2.2 2 (by omega)).trans hT.2.2
  have h5_19 := hRXb.1.1.2.1
  have hbd25 := hRXb.1.1.1
  obtain ⟨S20, g21, hS_22, h220_23, h221_24⟩ := hRXb.1.1.2.2.2.2.2.2
  obtain ⟨ft26, h9_27⟩ := hRXb.2.1
  have h1_28 : mem13 1 = .inr (0, [.ref (ad 2), .int (nI Z)]) := (hRXb.1.2.2 1 (by omega)).trans hT.1
  have h2_29 : mem13 2 = .inl (cy 0, 240, .inl f) := (hRXb.1.2.2 2 (by omega)).trans hT.2.2
  have h5_30 := hRXb.1.1.2.1
  have hbd36 := hRXb.1.1.1
  obtain ⟨S31, g32, hS_33, h220_34, h221_35⟩ := hRXb.1.1.2.2.2.2.2.2
  refine lv_astore_n (lv' := [(2, .ref (ad (20 + 2 * Ec))), (0, .ref (ad 222)), (1, .int (2))]) Bx.1 Bx.2.1 d_Rd_readSequence_5 rfl hl (by decide) rfl (fun ls hl => ?_)
  refine lv_aload_n Bx.1 Bx.2.1 d_Rd_readSequence_6 rfl (lv_at hl 1 rfl) ?_
  refine lv_iload_n Bx.1 Bx.2.1 d_Rd_readSequence_7 rfl (lv_at hl 2 rfl) ?_
  have her37 : ER ad R (Ec + 1) (bwN Bw Ec 1 (0) (0) (-1) (-1) (-1) (Bw 234)) mem13 := hER.new (Nat.le_refl _) (by rw [vR_m]; exact hclb) (Or.inl rfl) (fun i9 hi9 => hfr14 (20 + 2 * i9) (by omega))
  have hsr38 : SR cy ad S (bwN Bw Ec 1 (0) (0) (-1) (-1) (-1) (Bw 234)) mem13 := ⟨(hfr14 220 (by omega)).trans hSR.1, (hfr14 221 (by omega)).trans hSR.2⟩
  obtain ⟨hLK1, hF1, h391⟩ := frm_seq hLK hE9 hc hcl h39
  refine f_xVr (na := 1) (As := [.int (2)]) (rest := []) Bx hml E hP hD hS (by omega) h9_27 rfl (m_Rd_readRepetition_2Y l hlt hn hT hf hRXb (by omega) (u := u) (A := seqA A 2 Ec) her37 hsr38 (by omega) (by omega) hLK1 hF1 h391 hbg) kw_439 kw_441 sel_Rd_readRepetition kw_6 kw_442 (by decide +kernel) ⟨rfl, rfl⟩ ⟨Nat.le_of_ble_eq_true rfl, Nat.le_of_ble_eq_true rfl⟩ rfl hl.1 (Nat.le_of_ble_eq_true rfl) d_Rd_readSequence_8 ⟨Nat.le_of_ble_eq_true rfl, Nat.le_of_ble_eq_true rfl⟩ (fun X ce q9 memx H locs hx9 hP hS g1 g2 g3 => f_out hlocks hno hP hS g1 g2 g3 ⟨Nat.le_of_ble_eq_true rfl, Nat.le_of_ble_eq_true rfl⟩ ⟨hx9.1, hx9.2.eq (seq_ok hbg hE9)⟩) (fun r39 mem40 H locs hq hP hS => ?_)
  have hD : va_D (Az sz) (fw n ad mem40) := fw_D hD
  obtain ⟨kx41, ax42, ux43, Rx44, Ex45, Sx46, Ax47, Bx_48, nx49, tox50, hr951, h152, h253, h354, h455, h556, htk57, hRX58, rds59, h860⟩ := hq
  subst hr951
  obtain ⟨ft61, h9_62⟩ := hRX58.2.1
  have h1_63 : mem40 1 = .inr (0, [.ref (ad 2), .int (nI Z)]) := (hRX58.1.2.2 1 (by omega)).trans hT.1
  have h2_64 : mem40 2 = .inl (cy 0, 240, .inl f) := (hRX58.1.2.2 2 (by omega)).trans hT.2.2
  have h5_65 := hRX58.1.1.2.1
  have hbd71 := hRX58.1.1.1
  obtain ⟨S66, g67, hS_68, h220_69, h221_70⟩ := hRX58.1.1.2.2.2.2.2.2
  have hbd72 := hRX58.1.1.1
  refine lv_astore_n (lv' := [(3, .ref (ad (20 + 2 * kx41))), (2, .ref (ad (20 + 2 * Ec))), (0, .ref (ad 222)), (1, .int (2))]) Bx.1 Bx.2.1 d_Rd_readSequence_11 rfl hl (by decide) rfl (fun ls hl => ?_)
  refine lv_aload_n Bx.1 Bx.2.1 d_Rd_readSequence_12 rfl (lv_at hl 1 rfl) ?_
  refine lv_aload_n Bx.1 Bx.2.1 d_Rd_readSequence_13 rfl (lv_at hl 0 rfl) ?_
  have hce73 := (rds59.2.1 Ec (by omega)).1
  refine f_putN Bx hP hD hS (by omega) hce73 rfl inEl tyEl okEl nmEl 4 (by decide) kw_87 rfl rfl rfl rfl (Nat.le_of_ble_eq_true rfl) d_Rd_readSequence_14 (fun H locs hP hS => ?_)
  obtain ⟨mem74, e_mem74⟩ : ∃ z, z = va_up mem40 ((20 + 2 * Ec)) (.inr (2, [.int (Bx_48 228 Ec), .int (Bx_48 229 Ec), .int (Bx_48 230 Ec), vR ad (Bx_48 231 Ec), .ref (ad (20 + 2 * kx41)), vE ad (Bx_48 233 Ec), .ref (ad (21 + 2 * Ec))])) := ⟨_, rfl⟩
  have hP : va_P D vcl (fw n ad mem74) H := by rw [e_mem74]; exact hP
  have hD : va_D (Az sz) (fw n ad mem74) := fw_D hD
  have h_mem74 : mem74 ((20 + 2 * Ec)) = .inr (2, [.int (Bx_48 228 Ec), .int (Bx_48 229 Ec), .int (Bx_48 230 Ec), vR ad (Bx_48 231 Ec), .ref (ad (20 + 2 * kx41)), vE ad (Bx_48 233 Ec), .ref (ad (21 + 2 * Ec))]) := by rw [e_mem74, va_up_self]
  have hh75 := (va_up_ne mem40 (.inr (2, [.int (Bx_48 228 Ec), .int (Bx_48 229 Ec), .int (Bx_48 230 Ec), vR ad (Bx_48 231 Ec), .ref (ad (20 + 2 * kx41)), vE ad (Bx_48 233 Ec), .ref (ad (21 + 2 * Ec))])) (show (222 : Nat) ≠ (20 + 2 * Ec) by first | decide | assumption | omega)).trans h9_62
  rw [← e_mem74] at hh75
  have hh76 := (va_up_ne mem40 (.inr (2, [.int (Bx_48 228 Ec), .int (Bx_48 229 Ec), .int (Bx_48 230 Ec), vR ad (Bx_48 231 Ec), .ref (ad (20 + 2 * kx41)), vE ad (Bx_48 233 Ec), .ref (ad (21 + 2 * Ec))])) (show (1 : Nat) ≠ (20 + 2 * Ec) by first | decide | assumption | omega)).trans h1_63
  rw [← e_mem74] at hh76
  have hh77 := (va_up_ne mem40 (.inr (2, [.int (Bx_48 228 Ec), .int (Bx_48 229 Ec), .int (Bx_48 230 Ec), vR ad (Bx_48 231 Ec), .ref (ad (20 + 2 * kx41)), vE ad (Bx_48 233 Ec), .ref (ad (21 + 2 * Ec))])) (show (5 : Nat) ≠ (20 + 2 * Ec) by first | decide | assumption | omega)).trans h5_65
  rw [← e_mem74] at hh77
  have hh78 := (va_up_ne mem40 (.inr (2, [.int (Bx_48 228 Ec), .int (Bx_48 229 Ec), .int (Bx_48 230 Ec), vR ad (Bx_48 231 Ec), .ref (ad (20 + 2 * kx41)), vE ad (Bx_48 233 Ec), .ref (ad (21 + 2 * Ec))])) (show (220 : Nat) ≠ (20 + 2 * Ec) by first | decide | assumption | omega)).trans h220_69
  rw [← e_mem74] at hh78
  have hRX79 : RX cy ad lim (ax42) (Rx44) (Ex45) (tox50) (nx49) m0 mem74 := by rw [e_mem74]; exact hRX58.el (by omega) (hRX58.1.mk (by omega) (hRX58.1.1.upEl (by omega) (fun _ => ⟨(rds59.2.1 Ec (by omega)).2.1.oR ad, Or.inr ⟨kx41, by omega, by omega, rfl⟩, (rds59.2.1 Ec (by omega)).2.2.2.oE ad (by omega)⟩)))
  have her80 : ER ad (Rx44) (Ex45) (va_up Bx_48 232 (upd (Bx_48 232) Ec (nI kx41))) mem74 := rds59.2.1.part (by omega) (by omega) (by omega) h_mem74 (fun i9 q9 hi9 => by rw [e_mem74]; exact va_up_ne _ _ (by omega))
  have hsr81 : SR cy ad (Sx46) (Bx_48) mem74 := ⟨(show mem74 220 = mem40 220 by rw [e_mem74]; exact va_up_ne _ _ (by omega)).trans rds59.2.2.1.1, (show mem74 221 = mem40 221 by rw [e_mem74]; exact va_up_ne _ _ (by omega)).trans rds59.2.2.1.2⟩
  obtain ⟨ft82, h9_83⟩ := hRX79.2.1
  have h1_84 : mem74 1 = .inr (0, [.ref (ad 2), .int (nI Z)]) := (hRX79.1.2.2 1 (by omega)).trans hT.1
  have h2_85 : mem74 2 = .inl (cy 0, 240, .inl f) := (hRX79.1.2.2 2 (by omega)).trans hT.2.2
  have h5_86 := hRX79.1.1.2.1
  have hbd92 := hRX79.1.1.1
  obtain ⟨S87, g88, hS_89, h220_90, h221_91⟩ := hRX79.1.1.2.2.2.2.2.2
  refine lv_iconst (v := 0) Bx.1 Bx.2.1 d_Rd_readSequence_17 (by decide) ?_
  refine lv_istore (lv' := [(4, .int (0)), (3, .ref (ad (20 + 2 * kx41))), (2, .ref (ad (20 + 2 * Ec))), (0, .ref (ad 222)), (1, .int (2))]) Bx.1 Bx.2.1 d_Rd_readSequence_18 hl (by decide) rfl (fun ls hl => ?_)
  have hsl9 := slot_lt hLK (by omega) hcl
  have hsq0 := seq_first hLK hE9 hc hcl h39 rds59 h860 ⟨by omega, by omega⟩ (by omega) (seq_ok (u := u) (R := R) (f := 2) (A := A) (nm := nm) hbg hE9) her80 hsr81
  have loop93 : ∀ (d94 : Nat) (mem9 : Nat → va_E) (a1 : Nat) (u1 : Nat) (R1 : Nat) (E1 : Nat) (S1 : Nat) (A1 : Ro) (B1 : Ro) (n1 : Nat → Int64) (to1 : Nat → Int32) (la : Nat) (k9 : Nat) (ls : Array Slot) (H : Heap) (locs : List Loc), (240 - k9 < d94) → (RX cy ad lim a1 R1 E1 to1 n1 m0 mem9) → (a < a1 ∧ a1 ≤ Z ∧ R ≤ R1 ∧ k9 < a1 ∧ k9 ≤ 240) → (SQI cy ad T Z 2 (seqS T Z a u R Ec 2 A nm) (slotOf A cq) R Ec S u A Bw la a1 u1 R1 E1 S1 A1 B1 n1 mem9) → (TOK R R1 to to1) → (va_P D vcl (fw n ad mem9) H) → (va_D (Az sz) (fw n ad mem9)) → (va_S (Az sz) s.heap H locs) → (lv_has ls 5 [(4, .int (nI k9)), (3, .ref (ad (20 + 2 * la))), (2, .ref (ad (20 + 2 * Ec))), (0, .ref (ad 222)), (1, .int (2))]) → W p l e (headSpec (Cond.code y_Rd_readSequence c_Rd_readSequence 5 (some (.object "AbnfChart$Element")) :: tg) ({ frames := 42, cells := 1, slots := 6, locals := 1012 } : Room)).room s m [.ref (ad 222), .int (2)].toArray below meth c H locs 0 0 (vx_MQ below (QX (QR (fun r mem' => ∃ (a' u' R' E' S' : Nat) (A' Bw' : Ro) (nm' : Nat → Int64) (to' : Nat → Int32), r = ad (20 + 2 * Ec) ∧ Ec < E' ∧ R ≤ R' ∧ a < a' ∧ a' ≤ Z ∧ TOK R R' to to' ∧ RX cy ad lim (gapF T Z a') R' E' to' nm' m0 mem' ∧ RDS cy ad T Z 2 (seqS T Z a u R Ec 2 A nm) (slotOf A cq) R Ec S u A Bw Ec a' u' R' E' S' A' Bw' nm' mem' ∧ ¬ (bgF (hereF Z T (gapF T Z a')) = true ∧ a' < gapF T Z a')) (PP D n ad) (Az sz))) (XQ D sz n ad (fun X mem' => ((X = cIA ∨ X = cIS) ∧ ∃ rc' ec' : Nat, RS cy ad lim rc' ec' m0 mem') ∧ (Fai T Z (seqS T Z a u R Ec 2 A nm)))) [.ref (ad 222), .int (2)].toArray s 1 6 (Az sz)) (F0 m 20 ls []) := by
    intro d94
    induction d94 with
    | zero => intro mem9 a1 u1 R1 E1 S1 A1 B1 n1 to1 la k9 ls H locs hmeas100; exact absurd hmeas100 (Nat.not_lt_zero _)
    | succ d94 ih99 =>
      intro mem9 a1 u1 R1 E1 S1 A1 B1 n1 to1 la k9 ls H locs hmeas100 hz95 hz96 hz97 hz98 hP hD hS hl
      have hbd8 := hz96
      have hsq := hz97
      have hbdE := hz95.1.1.1
      have hla := hsq.2.2.2
      have hSa1 := hsq.1.2.2.2.1.2.1
      have hlka := sqi_lka hsq hLK hsl9
      obtain ⟨ft101, h9_102⟩ := hz95.2.1
      have h1_103 : mem9 1 = .inr (0, [.ref (ad 2), .int (nI Z)]) := (hz95.1.2.2 1 (by omega)).trans hT.1
      have h2_104 : mem9 2 = .inl (cy 0, 240, .inl f) := (hz95.1.2.2 2 (by omega)).trans hT.2.2
      have h5_105 := hz95.1.1.2.1
      have hbd111 := hz95.1.1.1
      obtain ⟨S106, g107, hS_108, h220_109, h221_110⟩ := hz95.1.1.2.2.2.2.2.2
      refine lv_iload Bx.1 Bx.2.1 d_Rd_readSequence_20 (lv_at hl 0 rfl) ?_
      refine lv_sipush (v := 240) Bx.1 Bx.2.1 d_Rd_readSequence_22 (by decide) ?_
      refine lv_icmp_ge Bx.1 Bx.2.1 d_Rd_readSequence_25 rfl (fun hb112 => ?_) (fun hb112 => ?_)
      · have hN113 : 240 ≤ k9 := (nI_leI (by omega) (by omega)).mp (show nI (240) ≤ nI (k9) from hb112)
        exact absurd hbd8 (by omega)
      · have hN114 : ¬ 240 ≤ k9 := fun q9 => hb112 (show nI (240) ≤ nI (k9) from (nI_leI (by omega) (by omega)).mpr q9)
        refine lv_aload_n Bx.1 Bx.2.1 d_Rd_readSequence_28 rfl (lv_at hl 3 rfl) ?_
        refine f_callVi (na := 0) (As := []) (rest := []) Bx hml E hP hD hS (by omega) h9_102 rfl (m_Rd_readGapY l hn hT hf hz95 (by omega) (by omega)) kw_397 kw_399 sel_Rd_readGap kw_6 kw_400 (by decide +kernel) ⟨rfl, rfl⟩ ⟨Nat.le_of_ble_eq_true rfl, Nat.le_of_ble_eq_true rfl⟩ rfl hl.1 (Nat.le_of_ble_eq_true rfl) d_Rd_readSequence_29 ⟨Nat.le_of_ble_eq_true rfl, Nat.le_of_ble_eq_true rfl⟩ (fun r115 mem116 H locs hq hP hS => ?_)
        have hD : va_D (Az sz) (fw n ad mem116) := fw_D hD
        obtain ⟨g117, eg118⟩ : ∃ z, z = gapF T Z (a1) := ⟨_, rfl⟩
        rw [← eg118] at hq
        obtain ⟨hRX119, hgc120, hfa121⟩ := hq
        have hg122 : a1 ≤ g117 := by rw [eg118]; exact gapF_ge T Z _
        have hg123 : g117 ≤ Z := by rw [eg118]; exact gapF_le T (by omega)
        obtain ⟨ft124, h9_125⟩ := hRX119.2.1
        have h1_126 : mem116 1 = .inr (0, [.ref (ad 2), .int (nI Z)]) := (hRX119.1.2.2 1 (by omega)).trans hT.1
        have h2_127 : mem116 2 = .inl (cy 0, 240, .inl f) := (hRX119.1.2.2 2 (by omega)).trans hT.2.2
        have h5_128 := hRX119.1.1.2.1
        have hbd134 := hRX119.1.1.1
        obtain ⟨S129, g130, hS_131, h220_132, h221_133⟩ := hRX119.1.1.2.2.2.2.2.2
        have her135 : ER ad (R1) (E1) (B1) mem116 := hsq.1.2.1.fr (Nat.le_refl _) (fun i9 hi9 => hfa121 _ (by omega))
        have hsr136 : SR cy ad (S1) (B1) mem116 := ⟨(show mem116 220 = _ from hfa121 _ (by omega)).trans hsq.1.2.2.1.1, (show mem116 221 = _ from hfa121 _ (by omega)).trans hsq.1.2.2.1.2⟩
        rcases hgc120 with ⟨hr137, hga138⟩ | ⟨hr137, hga138⟩
        · subst hr137
          refine lv_if_eq Bx.1 Bx.2.1 d_Rd_readSequence_32 rfl (fun hb139 => ?_) (fun hb139 => ?_)
          · exact absurd hb139 (by decide)
          · refine lv_aload_n Bx.1 Bx.2.1 d_Rd_readSequence_35 rfl (lv_at hl 3 rfl) ?_
            refine f_callVi (na := 0) (As := []) (rest := []) Bx hml E hP hD hS (by omega) h9_125 rfl (m_Rd_peekX l hn hT hf hRX119 (by omega)) kw_353 kw_355 sel_Rd_peek kw_6 kw_356 (by decide +kernel) ⟨rfl, rfl⟩ ⟨Nat.le_of_ble_eq_true rfl, Nat.le_of_ble_eq_true rfl⟩ rfl hl.1 (Nat.le_of_ble_eq_true rfl) d_Rd_readSequence_36 ⟨Nat.le_of_ble_eq_true rfl, Nat.le_of_ble_eq_true rfl⟩ (fun r141 mem142 H locs hq hP hS => ?_)
            have hD : va_D (Az sz) (fw n ad mem142) := fw_D hD
            obtain ⟨hqe, hpk140⟩ := hq
            rw [hqe] at hP hD
            subst hpk140
            refine f_callSi (na := 1) (As := [.int (hereF Z T (g117))]) (rest := []) Bx hml E.2.1 (m_Rd_beginsRepetitionX l (hereF Z T (g117))) kw_413 kw_414 kw_6 kw_415 (by decide +kernel) ⟨rfl, rfl⟩ ⟨Nat.le_of_ble_eq_true rfl, Nat.le_of_ble_eq_true rfl⟩ rfl hl.1 (Nat.le_of_ble_eq_true rfl) d_Rd_readSequence_39 ⟨Nat.le_of_ble_eq_true rfl, Nat.le_of_ble_eq_true rfl⟩ (fun r145 hs144 => ?_)
            subst hs144
            refine lv_if_eq Bx.1 Bx.2.1 d_Rd_readSequence_42 rfl (fun hb146 => ?_) (fun hb146 => ?_)
            · refine lv_aload_n Bx.1 Bx.2.1 d_Rd_readSequence_65 rfl (lv_at hl 2 rfl) ?_
              exact x_aret hx hb hlocks hr (⟨a1, u1, R1, E1, S1, A1, B1, n1, to1, rfl, by omega, by omega, by omega, by omega, hz98, by rw [← eg118]; exact hRX119, ⟨hsq.1.1, her135, hsr136, hsq.1.2.2.2⟩, fun z => by have q9 := z.1; rw [← eg118, bg_0 hb146] at q9; exact absurd q9 (by decide)⟩) hP hS d_Rd_readSequence_66
            · have hbg2 : bgF (hereF Z T (gapF T Z a1)) = true := by rw [← eg118]; exact bg_1 hb146
              have hgt2 : a1 < gapF T Z a1 := by rw [← eg118]; omega
              have h238 := hsq.2.1
              have h239 : A1 239 2 = -1 := hsq.1.2.2.2.2.2.2.2.2.2.2
              refine lv_aload_n Bx.1 Bx.2.1 d_Rd_readSequence_45 rfl (lv_at hl 1 rfl) ?_
              refine lv_aload_n Bx.1 Bx.2.1 d_Rd_readSequence_46 rfl (lv_at hl 3 rfl) ?_
              refine lv_iload_n Bx.1 Bx.2.1 d_Rd_readSequence_47 rfl (lv_at hl 4 rfl) ?_
              refine f_xVr (na := 1) (As := [.int (2)]) (rest := [.ref (ad (20 + 2 * la))]) Bx hml E hP hD hS (by omega) h9_125 rfl (m_Rd_readRepetition_2Y l hlt hn hT hf hRX119 (by omega) (u := u1) (A := A1) her135 hsr136 (by omega) (by omega) hlka ⟨⟨Ec, by omega, h238⟩, Or.inl h239⟩ h239 (by rw [eg118]; exact hbg2)) kw_439 kw_441 sel_Rd_readRepetition kw_6 kw_442 (by decide +kernel) ⟨rfl, rfl⟩ ⟨Nat.le_of_ble_eq_true rfl, Nat.le_of_ble_eq_true rfl⟩ rfl hl.1 (Nat.le_of_ble_eq_true rfl) d_Rd_readSequence_48 ⟨Nat.le_of_ble_eq_true rfl, Nat.le_of_ble_eq_true rfl⟩ (fun X ce q9 memx H locs hx9 hP hS g1 g2 g3 => f_out hlocks hno hP hS g1 g2 g3 ⟨Nat.le_of_ble_eq_true rfl, Nat.le_of_ble_eq_true rfl⟩ ⟨hx9.1, hsq.1.1.fai (go_rept hbg2 hgt2) (by rw [← eg118]; exact hx9.2)⟩) (fun r147 mem148 H locs hq hP hS => ?_)
              have hD : va_D (Az sz) (fw n ad mem148) := fw_D hD
              obtain ⟨kx149, ax150, ux151, Rx152, Ex153, Sx154, Ax155, Bx_156, nx157, tox158, hr9159, h1160, h2161, h3162, h4163, h5164, htk165, hRX166, rds167, h8168⟩ := hq
              subst hr9159
              obtain ⟨ft169, h9_170⟩ := hRX166.2.1
              have h1_171 : mem148 1 = .inr (0, [.ref (ad 2), .int (nI Z)]) := (hRX166.1.2.2 1 (by omega)).trans hT.1
              have h2_172 : mem148 2 = .inl (cy 0, 240, .inl f) := (hRX166.1.2.2 2 (by omega)).trans hT.2.2
              have h5_173 := hRX166.1.1.2.1
              have hbd179 := hRX166.1.1.1
              obtain ⟨S174, g175, hS_176, h220_177, h221_178⟩ := hRX166.1.1.2.2.2.2.2.2
              have hbd180 := hRX166.1.1.1
              have hce181 := (rds167.2.1 la (by omega)).1
              refine f_putN Bx hP hD hS (by omega) hce181 rfl inEl tyEl okEl nmEl 5 (by decide) kw_91 rfl rfl rfl rfl (Nat.le_of_ble_eq_true rfl) d_Rd_readSequence_51 (fun H locs hP hS => ?_)
              obtain ⟨mem182, e_mem182⟩ : ∃ z, z = va_up mem148 ((20 + 2 * la)) (.inr (2, [.int (Bx_156 228 la), .int (Bx_156 229 la), .int (Bx_156 230 la), vR ad (Bx_156 231 la), vE ad (Bx_156 232 la), .ref (ad (20 + 2 * kx149)), .ref (ad (21 + 2 * la))])) := ⟨_, rfl⟩
              have hP : va_P D vcl (fw n ad mem182) H := by rw [e_mem182]; exact hP
              have hD : va_D (Az sz) (fw n ad mem182) := fw_D hD
              have h_mem182 : mem182 ((20 + 2 * la)) = .inr (2, [.int (Bx_156 228 la), .int (Bx_156 229 la), .int (Bx_156 230 la), vR ad (Bx_156 231 la), vE ad (Bx_156 232 la), .ref (ad (20 + 2 * kx149)), .ref (ad (21 + 2 * la))]) := by rw [e_mem182, va_up_self]
              have hh183 := (va_up_ne mem148 (.inr (2, [.int (Bx_156 228 la), .int (Bx_156 229 la), .int (Bx_156 230 la), vR ad (Bx_156 231 la), vE ad (Bx_156 232 la), .ref (ad (20 + 2 * kx149)), .ref (ad (21 + 2 * la))])) (show (222 : Nat) ≠ (20 + 2 * la) by first | decide | assumption | omega)).trans h9_170
              rw [← e_mem182] at hh183
              have hh184 := (va_up_ne mem148 (.inr (2, [.int (Bx_156 228 la), .int (Bx_156 229 la), .int (Bx_156 230 la), vR ad (Bx_156 231 la), vE ad (Bx_156 232 la), .ref (ad (20 + 2 * kx149)), .ref (ad (21 + 2 * la))])) (show (1 : Nat) ≠ (20 + 2 * la) by first | decide | assumption | omega)).trans h1_171
              rw [← e_mem182] at hh184
              have hh185 := (va_up_ne mem148 (.inr (2, [.int (Bx_156 228 la), .int (Bx_156 229 la), .int (Bx_156 230 la), vR ad (Bx_156 231 la), vE ad (Bx_156 232 la), .ref (ad (20 + 2 * kx149)), .ref (ad (21 + 2 * la))])) (show (5 : Nat) ≠ (20 + 2 * la) by first | decide | assumption | omega)).trans h5_173
              rw [← e_mem182] at hh185
              have hh186 := (va_up_ne mem148 (.inr (2, [.int (Bx_156 228 la), .int (Bx_156 229 la), .int (Bx_156 230 la), vR ad (Bx_156 231 la), vE ad (Bx_156 232 la), .ref (ad (20 + 2 * kx149)), .ref (ad (21 + 2 * la))])) (show (220 : Nat) ≠ (20 + 2 * la) by first | decide | assumption | omega)).trans h220_177
              rw [← e_mem182] at hh186
              have hRX187 : RX cy ad lim (ax150) (Rx152) (Ex153) (tox158) (nx157) m0 mem182 := by rw [e_mem182]; exact hRX166.el (by omega) (hRX166.1.mk (by omega) (hRX166.1.1.upEl (by omega) (fun _ => ⟨(rds167.2.1 la (by omega)).2.1.oR ad, (rds167.2.1 la (by omega)).2.2.1.oE ad (by omega), Or.inr ⟨kx149, by omega, by omega, rfl⟩⟩)))
              have her188 : ER ad (Rx152) (Ex153) (va_up Bx_156 233 (upd (Bx_156 233) la (nI kx149))) mem182 := rds167.2.1.next (by omega) (by omega) (by omega) h_mem182 (fun i9 q9 hi9 => by rw [e_mem182]; exact va_up_ne _ _ (by omega))
              have hsr189 : SR cy ad (Sx154) (Bx_156) mem182 := ⟨(show mem182 220 = mem148 220 by rw [e_mem182]; exact va_up_ne _ _ (by omega)).trans rds167.2.2.1.1, (show mem182 221 = mem148 221 by rw [e_mem182]; exact va_up_ne _ _ (by omega)).trans rds167.2.2.1.2⟩
              obtain ⟨ft190, h9_191⟩ := hRX187.2.1
              have h1_192 : mem182 1 = .inr (0, [.ref (ad 2), .int (nI Z)]) := (hRX187.1.2.2 1 (by omega)).trans hT.1
              have h2_193 : mem182 2 = .inl (cy 0, 240, .inl f) := (hRX187.1.2.2 2 (by omega)).trans hT.2.2
              have h5_194 := hRX187.1.1.2.1
              have hbd200 := hRX187.1.1.1
              obtain ⟨S195, g196, hS_197, h220_198, h221_199⟩ := hRX187.1.1.2.2.2.2.2.2
              refine lv_aload_n Bx.1 Bx.2.1 d_Rd_readSequence_54 rfl (lv_at hl 1 rfl) ?_
              refine f_getN Bx hP (by omega) h_mem182 rfl inEl 5 (by decide) kw_91 rfl rfl d_Rd_readSequence_55 ?_
              refine lv_astore_n (lv' := [(3, .ref (ad (20 + 2 * kx149))), (4, .int (nI k9)), (2, .ref (ad (20 + 2 * Ec))), (0, .ref (ad 222)), (1, .int (2))]) Bx.1 Bx.2.1 d_Rd_readSequence_58 rfl hl (by decide) rfl (fun ls hl => ?_)
              refine lv_iinc (lv' := [(4, .int ((nI k9 + (1)))), (3, .ref (ad (20 + 2 * kx149))), (2, .ref (ad (20 + 2 * Ec))), (0, .ref (ad 222)), (1, .int (2))]) Bx.1 Bx.2.1 d_Rd_readSequence_59 hl (k := 1) rfl rfl (by decide) rfl (fun ls hl => ?_)
              rw [show (nI k9 + (1) : Int32) = nI (k9 + 1) from nI_1 (k9)] at hl
              refine lv_goto Bx.1 Bx.2.1 d_Rd_readSequence_62 rfl ?_
              have hsq3 := seq_step hsq (by omega) hlka (by omega) hsl9 rds167 h8168 ⟨by omega, by omega⟩ (by omega) (by rw [eg118]; exact go_rept hbg2 hgt2) her188 hsr189
              exact ih99 mem182 (ax150) (ux151) (Rx152) (Ex153) (Sx154) (Ax155) ((va_up Bx_156 233 (upd (Bx_156 233) la (nI kx149)))) (nx157) (tox158) (kx149) (k9 + 1) _ _ _ (by have := hmeas100; omega) (hRX187) (⟨by omega, by omega, by omega, by omega, by omega⟩) (hsq3) (hz98.trans htk165 (by omega)) hP hD hS (lv_sub hl [0, 1, 2, 3, 4] rfl)
        · subst hr137
          refine lv_if_eq Bx.1 Bx.2.1 d_Rd_readSequence_32 rfl (fun hb201 => ?_) (fun hb201 => ?_)
          · refine lv_aload_n Bx.1 Bx.2.1 d_Rd_readSequence_65 rfl (lv_at hl 2 rfl) ?_
            exact x_aret hx hb hlocks hr (⟨a1, u1, R1, E1, S1, A1, B1, n1, to1, rfl, by omega, by omega, by omega, by omega, hz98, by rw [← eg118]; exact hRX119, ⟨hsq.1.1, her135, hsr136, hsq.1.2.2.2⟩, fun z => by have := z.2; rw [← eg118] at this; omega⟩) hP hS d_Rd_readSequence_66
          · exact absurd hb201 (by decide)
  exact loop93 _ mem74 (ax42) (ux43) (Rx44) (Ex45) (Sx46) (Ax47) ((va_up Bx_48 232 (upd (Bx_48 232) Ec (nI kx41)))) (nx49) (tox50) (kx41) (0) _ _ _ (Nat.lt_succ_self _) (hRX79) (⟨by omega, by omega, by omega, by omega, by omega⟩) (hsq0) (htk57) hP hD hS (lv_sub hl [0, 1, 2, 3, 4] rfl)
set_option maxHeartbeats 4000000 in
set_option maxRecDepth 100000 in
theorem m_Rd_readAlternatives_2Y (l : Launch) {D : va_G} {cy : Nat → ClassId} {sz n : Nat} {ad : Nat → Nat} {mem : Nat → va_E} {Z a R Ec lim : Nat} {f T : Nat → Int32} {to : Nat → Int32} {nm : Nat → Int64} {m0 : Nat → va_E} {u S : Nat} {A Bw : Ro} {cq : Nat} (hlt : l.stackTraces = false) (hn : 224 ≤ n) (hT : TX cy ad Z f m0) (hf : ∀ k, k < Z → f k = T k) (hRX : RX cy ad lim a R Ec to nm m0 mem) (haB : a ≤ 300) (hER : ER ad R Ec Bw mem) (hSR : SR cy ad S Bw mem) (hSa : S ≤ a) (haZ : a ≤ Z) (hLK : LKa (Ec + 1) A) (hc : A 237 2 = nI cq) (hcl : cq ≤ Ec) (h39 : A 239 2 = -1) : NXr l D cy sz n ad y_Rd_readAlternatives c_Rd_readAlternatives 5 (some (.object "AbnfChart$Element")) ({ frames := 43, cells := 1, slots := 6, locals := 1038 } : Room) mem [.ref (ad 222), .int (2)] (fun r mem' => ∃ (la a' u' R' E' S' : Nat) (A' Bw' : Ro) (nm' : Nat → Int64) (to' : Nat → Int32), r = ad (20 + 2 * Ec) ∧ Ec + 1 < E' ∧ R ≤ R' ∧ a < a' ∧ a' ≤ Z ∧ TOK R R' to to' ∧ RX cy ad lim (gapF T Z a') R' E' to' nm' m0 mem' ∧ ALI cy ad T Z 2 (seqS T Z a u R (Ec + 1) 2 A nm) cq R Ec S u A Bw la a' u' R' E' S' A' Bw' nm' mem' ∧ bgF (hereF Z T a) = true ∧ Ec < 100 ∧ ¬ hereF Z T (gapF T Z a') = 47 ∧ ¬ (bgF (hereF Z T (gapF T Z a')) = true ∧ a' < gapF T Z a')) (fun X mem' => ((X = cIA ∨ X = cIS) ∧ ∃ rc' ec' : Nat, RS cy ad lim rc' ec' m0 mem') ∧ (bgF (hereF Z T a) = false ∨ Ec = 100 ∨ (bgF (hereF Z T a) = true ∧ Ec < 100 ∧ Fai T Z (seqS T Z a u R (Ec + 1) 2 A nm)))) := by
  refine vx_ofW (cc := c_Rd_readAlternatives) (maxL := 5) (ret := (some (.object "AbnfChart$Element"))) (by decide) rfl ?_
  intro p e s m args below meth c s₁ B hml hno hv
  obtain ⟨rfl, E, hP, hD⟩ := hv
  have hx := B.exec
  have hb := B.bytes
  have hr := B.returns
  have hlocks := B.notSynchronized
  have Bx : MB p s m [.ref (ad 222), .int (2)].toArray c c_Rd_readAlternatives "AbnfChart$Reader" D cy := ⟨hx, hb, tb_all (atoms_spec B.pre) E.2.1, findClass_of_methodNamed B.named, E.1⟩
  have hS : va_S (Az sz) s.heap s.heap [] := va_S.rf
  have hl := lv_entry ([.ref (ad 222), .int (2)]) (n := 5) (Nat.le_of_ble_eq_true rfl)
  rw [lg_entry_eq]
  generalize (lg_sl ([.ref (ad 222), .int (2)]) ++ List.replicate (5 - (lg_sl ([.ref (ad 222), .int (2)])).length) Slot.unset).toArray = ls at hl ⊢
  have hl : lv_has ls 5 [(0, .ref (ad 222)), (1, .int (2))] := hl
  have hZ9 := hT.2.1
  have hbd9 := hRX.1.1.1
  have hfr0 : ∀ i, 19 ≤ i ∧ i < 222 ∧ i ≠ 20 + 2 * Ec → mem i = mem i := fun _ _ => rfl
  obtain ⟨ft1, h9_2⟩ := hRX.2.1
  have h1_3 : mem 1 = .inr (0, [.ref (ad 2), .int (nI Z)]) := (hRX.1.2.2 1 (by omega)).trans hT.1
  have h2_4 : mem 2 = .inl (cy 0, 240, .inl f) := (hRX.1.2.2 2 (by omega)).trans hT.2.2
  have h5_5 := hRX.1.1.2.1
  have hbd11 := hRX.1.1.1
  obtain ⟨S6, g7, hS_8, h220_9, h221_10⟩ := hRX.1.1.2.2.2.2.2.2
  refine lv_aload_n Bx.1 Bx.2.1 d_Rd_readAlternatives_0 rfl (lv_at hl 0 rfl) ?_
  refine lv_iconst (v := 0) Bx.1 Bx.2.1 d_Rd_readAlternatives_1 (by decide) ?_
  refine f_xVr (na := 1) (As := [.int (0)]) (rest := []) Bx hml E hP hD hS (by omega) h9_2 rfl (m_Rd_beginRowY l hlt hn hT hf hRX (by omega)) kw_409 kw_411 sel_Rd_beginRow kw_6 kw_412 (by decide +kernel) ⟨rfl, rfl⟩ ⟨Nat.le_of_ble_eq_true rfl, Nat.le_of_ble_eq_true rfl⟩ rfl hl.1 (Nat.le_of_ble_eq_true rfl) d_Rd_readAlternatives_2 ⟨Nat.le_of_ble_eq_true rfl, Nat.le_of_ble_eq_true rfl⟩ (fun X ce q9 memx H locs hx9 hP hS g1 g2 g3 => f_out hlocks hno hP hS g1 g2 g3 ⟨Nat.le_of_ble_eq_true rfl, Nat.le_of_ble_eq_true rfl⟩ ⟨hx9.1, hx9.2.elim Or.inl (fun z => Or.inr (Or.inl z))⟩) (fun r12 mem13 H locs hq hP hS => ?_)
  have hD : va_D (Az sz) (fw n ad mem13) := fw_D hD
  obtain ⟨hbg, hE9, hr9, hRXb, hclb, hfab⟩ := hq
  subst hr9
  have hfr14 : ∀ i, 19 ≤ i ∧ i < 222 ∧ i ≠ 20 + 2 * Ec → mem13 i = mem i := fun i q => (hfab i (by omega)).trans (hfr0 i q)
  obtain ⟨ft15, h9_16⟩ := hRXb.2.1
  have h1_17 : mem13 1 = .inr (0, [.ref (ad 2), .int (nI Z)]) := (hRXb.1.2.2 1 (by omega)).trans hT.1
  have h2_18 : mem13 2 = .inl (cy 0, 240, .inl f) := (hRXb.1.2.2 2 (by omega)).trans hT.2.2
  have h5_19 := hRXb.1.1.2.1
  have hbd25 := hRXb.1.1.1
  obtain ⟨S20, g21, hS_22, h220_23, h221_24⟩ := hRXb.1.1.2.2.2.2.2.2
  obtain ⟨ft26, h9_27⟩ := hRXb.2.1
  have h1_28 : mem13 1 = .inr (0, [.ref (ad 2), .int (nI Z)]) := (hRXb.1.2.2 1 (by omega)).trans hT.1
  have h2_29 : mem13 2 = .inl (cy 0, 240, .inl f) := (hRXb.1.2.2 2 (by omega)).trans hT.2.2
  have h5_30 := hRXb.1.1.2.1
  have hbd36 := hRXb.1.1.1
  obtain ⟨S31, g32, hS_33, h220_34, h221_35⟩ := hRXb.1.1.2.2.2.2.2.2
  refine lv_astore_n (lv' := [(2, .ref (ad (20 + 2 * Ec))), (0, .ref (ad 222)), (1, .int (2))]) Bx.1 Bx.2.1 d_Rd_readAlternatives_5 rfl hl (by decide) rfl (fun ls hl => ?_)
  refine lv_aload_n Bx.1 Bx.2.1 d_Rd_readAlternatives_6 rfl (lv_at hl 1 rfl) ?_
  refine lv_iload_n Bx.1 Bx.2.1 d_Rd_readAlternatives_7 rfl (lv_at hl 2 rfl) ?_
  have her37 : ER ad R (Ec + 1) (bwN Bw Ec 0 (0) (0) (-1) (-1) (-1) (Bw 234)) mem13 := hER.new (Nat.le_refl _) (by rw [vR_m]; exact hclb) (Or.inl rfl) (fun i9 hi9 => hfr14 (20 + 2 * i9) (by omega))
  have hsr38 : SR cy ad S (bwN Bw Ec 0 (0) (0) (-1) (-1) (-1) (Bw 234)) mem13 := ⟨(hfr14 220 (by omega)).trans hSR.1, (hfr14 221 (by omega)).trans hSR.2⟩
  refine f_xVr (na := 1) (As := [.int (2)]) (rest := []) Bx hml E hP hD hS (by omega) h9_27 rfl (m_Rd_readSequence_2Y l hlt hn hT hf hRXb (by omega) (u := u) (A := A) her37 hsr38 (by omega) (by omega) hLK hc (by omega) h39) kw_435 kw_437 sel_Rd_readSequence kw_6 kw_438 (by decide +kernel) ⟨rfl, rfl⟩ ⟨Nat.le_of_ble_eq_true rfl, Nat.le_of_ble_eq_true rfl⟩ rfl hl.1 (Nat.le_of_ble_eq_true rfl) d_Rd_readAlternatives_8 ⟨Nat.le_of_ble_eq_true rfl, Nat.le_of_ble_eq_true rfl⟩ (fun X ce q9 memx H locs hx9 hP hS g1 g2 g3 => f_out hlocks hno hP hS g1 g2 g3 ⟨Nat.le_of_ble_eq_true rfl, Nat.le_of_ble_eq_true rfl⟩ ⟨hx9.1, Or.inr (Or.inr ⟨hbg, hE9, hx9.2⟩)⟩) (fun r39 mem40 H locs hq hP hS => ?_)
  have hD : va_D (Az sz) (fw n ad mem40) := fw_D hD
  obtain ⟨ax41, ux42, Rx43, Ex44, Sx45, Ax46, Bx_47, nx48, tox49, hr950, h251, h352, h453, h554, htk55, hRX56, rds57, hnb58⟩ := hq
  subst hr950
  obtain ⟨g59, eg60⟩ : ∃ z, z = gapF T Z ax41 := ⟨_, rfl⟩
  have hg61 : ax41 ≤ g59 := by rw [eg60]; exact gapF_ge T Z _
  have hg62 : g59 ≤ Z := by rw [eg60]; exact gapF_le T (by omega)
  rw [← eg60] at hRX56
  obtain ⟨ft63, h9_64⟩ := hRX56.2.1
  have h1_65 : mem40 1 = .inr (0, [.ref (ad 2), .int (nI Z)]) := (hRX56.1.2.2 1 (by omega)).trans hT.1
  have h2_66 : mem40 2 = .inl (cy 0, 240, .inl f) := (hRX56.1.2.2 2 (by omega)).trans hT.2.2
  have h5_67 := hRX56.1.1.2.1
  have hbd73 := hRX56.1.1.1
  obtain ⟨S68, g69, hS_70, h220_71, h221_72⟩ := hRX56.1.1.2.2.2.2.2.2
  have hbd74 := hRX56.1.1.1
  refine lv_astore_n (lv' := [(3, .ref (ad (20 + 2 * (Ec + 1)))), (2, .ref (ad (20 + 2 * Ec))), (0, .ref (ad 222)), (1, .int (2))]) Bx.1 Bx.2.1 d_Rd_readAlternatives_11 rfl hl (by decide) rfl (fun ls hl => ?_)
  refine lv_aload_n Bx.1 Bx.2.1 d_Rd_readAlternatives_12 rfl (lv_at hl 1 rfl) ?_
  refine lv_aload_n Bx.1 Bx.2.1 d_Rd_readAlternatives_13 rfl (lv_at hl 0 rfl) ?_
  have hce75 := (rds57.2.1 Ec (by omega)).1
  refine f_putN Bx hP hD hS (by omega) hce75 rfl inEl tyEl okEl nmEl 4 (by decide) kw_87 rfl rfl rfl rfl (Nat.le_of_ble_eq_true rfl) d_Rd_readAlternatives_14 (fun H locs hP hS => ?_)
  obtain ⟨mem76, e_mem76⟩ : ∃ z, z = va_up mem40 ((20 + 2 * Ec)) (.inr (2, [.int (Bx_47 228 Ec), .int (Bx_47 229 Ec), .int (Bx_47 230 Ec), vR ad (Bx_47 231 Ec), .ref (ad (20 + 2 * (Ec + 1))), vE ad (Bx_47 233 Ec), .ref (ad (21 + 2 * Ec))])) := ⟨_, rfl⟩
  have hP : va_P D vcl (fw n ad mem76) H := by rw [e_mem76]; exact hP
  have hD : va_D (Az sz) (fw n ad mem76) := fw_D hD
  have h_mem76 : mem76 ((20 + 2 * Ec)) = .inr (2, [.int (Bx_47 228 Ec), .int (Bx_47 229 Ec), .int (Bx_47 230 Ec), vR ad (Bx_47 231 Ec), .ref (ad (20 + 2 * (Ec + 1))), vE ad (Bx_47 233 Ec), .ref (ad (21 + 2 * Ec))]) := by rw [e_mem76, va_up_self]
  have hh77 := (va_up_ne mem40 (.inr (2, [.int (Bx_47 228 Ec), .int (Bx_47 229 Ec), .int (Bx_47 230 Ec), vR ad (Bx_47 231 Ec), .ref (ad (20 + 2 * (Ec + 1))), vE ad (Bx_47 233 Ec), .ref (ad (21 + 2 * Ec))])) (show (222 : Nat) ≠ (20 + 2 * Ec) by first | decide | assumption | omega)).trans h9_64
  rw [← e_mem76] at hh77
  have hh78 := (va_up_ne mem40 (.inr (2, [.int (Bx_47 228 Ec), .int (Bx_47 229 Ec), .int (Bx_47 230 Ec), vR ad (Bx_47 231 Ec), .ref (ad (20 + 2 * (Ec + 1))), vE ad (Bx_47 233 Ec), .ref (ad (21 + 2 * Ec))])) (show (1 : Nat) ≠ (20 + 2 * Ec) by first | decide | assumption | omega)).trans h1_65
  rw [← e_mem76] at hh78
  have hh79 := (va_up_ne mem40 (.inr (2, [.int (Bx_47 228 Ec), .int (Bx_47 229 Ec), .int (Bx_47 230 Ec), vR ad (Bx_47 231 Ec), .ref (ad (20 + 2 * (Ec + 1))), vE ad (Bx_47 233 Ec), .ref (ad (21 + 2 * Ec))])) (show (5 : Nat) ≠ (20 + 2 * Ec) by first | decide | assumption | omega)).trans h5_67
  rw [← e_mem76] at hh79
  have hh80 := (va_up_ne mem40 (.inr (2, [.int (Bx_47 228 Ec), .int (Bx_47 229 Ec), .int (Bx_47 230 Ec), vR ad (Bx_47 231 Ec), .ref (ad (20 + 2 * (Ec + 1))), vE ad (Bx_47 233 Ec), .ref (ad (21 + 2 * Ec))])) (show (220 : Nat) ≠ (20 + 2 * Ec) by first | decide | assumption | omega)).trans h220_71
  rw [← e_mem76] at hh80
  have hRX81 : RX cy ad lim (g59) (Rx43) (Ex44) (tox49) (nx48) m0 mem76 := by rw [e_mem76]; exact hRX56.el (by omega) (hRX56.1.mk (by omega) (hRX56.1.1.upEl (by omega) (fun _ => ⟨(rds57.2.1 Ec (by omega)).2.1.oR ad, Or.inr ⟨(Ec + 1), by omega, by omega, rfl⟩, (rds57.2.1 Ec (by omega)).2.2.2.oE ad (by omega)⟩)))
  have her82 : ER ad (Rx43) (Ex44) (va_up Bx_47 232 (upd (Bx_47 232) Ec (nI (Ec + 1)))) mem76 := rds57.2.1.part (by omega) (by omega) (by omega) h_mem76 (fun i9 q9 hi9 => by rw [e_mem76]; exact va_up_ne _ _ (by omega))
  have hsr83 : SR cy ad (Sx45) (Bx_47) mem76 := ⟨(show mem76 220 = mem40 220 by rw [e_mem76]; exact va_up_ne _ _ (by omega)).trans rds57.2.2.1.1, (show mem76 221 = mem40 221 by rw [e_mem76]; exact va_up_ne _ _ (by omega)).trans rds57.2.2.1.2⟩
  obtain ⟨ft84, h9_85⟩ := hRX81.2.1
  have h1_86 : mem76 1 = .inr (0, [.ref (ad 2), .int (nI Z)]) := (hRX81.1.2.2 1 (by omega)).trans hT.1
  have h2_87 : mem76 2 = .inl (cy 0, 240, .inl f) := (hRX81.1.2.2 2 (by omega)).trans hT.2.2
  have h5_88 := hRX81.1.1.2.1
  have hbd94 := hRX81.1.1.1
  obtain ⟨S89, g90, hS_91, h220_92, h221_93⟩ := hRX81.1.1.2.2.2.2.2.2
  refine lv_iconst (v := 0) Bx.1 Bx.2.1 d_Rd_readAlternatives_17 (by decide) ?_
  refine lv_istore (lv' := [(4, .int (0)), (3, .ref (ad (20 + 2 * (Ec + 1)))), (2, .ref (ad (20 + 2 * Ec))), (0, .ref (ad 222)), (1, .int (2))]) Bx.1 Bx.2.1 d_Rd_readAlternatives_18 hl (by decide) rfl (fun ls hl => ?_)
  have hal0 := alt_first hLK hE9 hcl rds57 (by omega) (by omega) her82 hsr83
  have loop95 : ∀ (d96 : Nat) (mem9 : Nat → va_E) (a1 : Nat) (u1 : Nat) (R1 : Nat) (E1 : Nat) (S1 : Nat) (A1 : Ro) (B1 : Ro) (n1 : Nat → Int64) (to1 : Nat → Int32) (la : Nat) (k9 : Nat) (ls : Array Slot) (H : Heap) (locs : List Loc), (240 - k9 < d96) → (RX cy ad lim (gapF T Z a1) R1 E1 to1 n1 m0 mem9) → (a < a1 ∧ a1 ≤ Z ∧ R ≤ R1 ∧ k9 < a1 ∧ k9 ≤ 240) → (ALI cy ad T Z 2 (seqS T Z a u R (Ec + 1) 2 A nm) cq R Ec S u A Bw la a1 u1 R1 E1 S1 A1 B1 n1 mem9) → (TOK R R1 to to1) → (¬ (bgF (hereF Z T (gapF T Z a1)) = true ∧ a1 < gapF T Z a1)) → (va_P D vcl (fw n ad mem9) H) → (va_D (Az sz) (fw n ad mem9)) → (va_S (Az sz) s.heap H locs) → (lv_has ls 5 [(4, .int (nI k9)), (3, .ref (ad (20 + 2 * la))), (2, .ref (ad (20 + 2 * Ec))), (0, .ref (ad 222)), (1, .int (2))]) → W p l e (headSpec (Cond.code y_Rd_readAlternatives c_Rd_readAlternatives 5 (some (.object "AbnfChart$Element")) :: tg) ({ frames := 43, cells := 1, slots := 6, locals := 1038 } : Room)).room s m [.ref (ad 222), .int (2)].toArray below meth c H locs 0 0 (vx_MQ below (QX (QR (fun r mem' => ∃ (la a' u' R' E' S' : Nat) (A' Bw' : Ro) (nm' : Nat → Int64) (to' : Nat → Int32), r = ad (20 + 2 * Ec) ∧ Ec + 1 < E' ∧ R ≤ R' ∧ a < a' ∧ a' ≤ Z ∧ TOK R R' to to' ∧ RX cy ad lim (gapF T Z a') R' E' to' nm' m0 mem' ∧ ALI cy ad T Z 2 (seqS T Z a u R (Ec + 1) 2 A nm) cq R Ec S u A Bw la a' u' R' E' S' A' Bw' nm' mem' ∧ bgF (hereF Z T a) = true ∧ Ec < 100 ∧ ¬ hereF Z T (gapF T Z a') = 47 ∧ ¬ (bgF (hereF Z T (gapF T Z a')) = true ∧ a' < gapF T Z a')) (PP D n ad) (Az sz))) (XQ D sz n ad (fun X mem' => ((X = cIA ∨ X = cIS) ∧ ∃ rc' ec' : Nat, RS cy ad lim rc' ec' m0 mem') ∧ (bgF (hereF Z T a) = false ∨ Ec = 100 ∨ (bgF (hereF Z T a) = true ∧ Ec < 100 ∧ Fai T Z (seqS T Z a u R (Ec + 1) 2 A nm))))) [.ref (ad 222), .int (2)].toArray s 1 6 (Az sz)) (F0 m 20 ls []) := by
    intro d96
    induction d96 with
    | zero => intro mem9 a1 u1 R1 E1 S1 A1 B1 n1 to1 la k9 ls H locs hmeas103; exact absurd hmeas103 (Nat.not_lt_zero _)
    | succ d96 ih102 =>
      intro mem9 a1 u1 R1 E1 S1 A1 B1 n1 to1 la k9 ls H locs hmeas103 hz97 hz98 hz99 hz100 hz101 hP hD hS hl
      obtain ⟨g1, eg1⟩ : ∃ z, z = gapF T Z a1 := ⟨_, rfl⟩
      rw [← eg1] at hz97
      have hge1 : a1 ≤ g1 := by rw [eg1]; exact gapF_ge T Z _
      have hbd8 := hz98
      have hle1 : g1 ≤ Z := by rw [eg1]; exact gapF_le T (by omega)
      have hal := hz99
      have hbdE := hz97.1.1.1
      have hla := hal.2.2.2.2.2.2.2.2.2.2
      have hSa1 := hal.2.2.2.1.2.1
      have hlka := ali_lka hal hLK hE9 hcl
      obtain ⟨ft104, h9_105⟩ := hz97.2.1
      have h1_106 : mem9 1 = .inr (0, [.ref (ad 2), .int (nI Z)]) := (hz97.1.2.2 1 (by omega)).trans hT.1
      have h2_107 : mem9 2 = .inl (cy 0, 240, .inl f) := (hz97.1.2.2 2 (by omega)).trans hT.2.2
      have h5_108 := hz97.1.1.2.1
      have hbd114 := hz97.1.1.1
      obtain ⟨S109, g110, hS_111, h220_112, h221_113⟩ := hz97.1.1.2.2.2.2.2.2
      refine lv_iload Bx.1 Bx.2.1 d_Rd_readAlternatives_20 (lv_at hl 0 rfl) ?_
      refine lv_sipush (v := 240) Bx.1 Bx.2.1 d_Rd_readAlternatives_22 (by decide) ?_
      refine lv_icmp_ge Bx.1 Bx.2.1 d_Rd_readAlternatives_25 rfl (fun hb115 => ?_) (fun hb115 => ?_)
      · have hN116 : 240 ≤ k9 := (nI_leI (by omega) (by omega)).mp (show nI (240) ≤ nI (k9) from hb115)
        exact absurd hbd8 (by omega)
      · have hN117 : ¬ 240 ≤ k9 := fun q9 => hb115 (show nI (240) ≤ nI (k9) from (nI_leI (by omega) (by omega)).mpr q9)
        refine lv_aload_n Bx.1 Bx.2.1 d_Rd_readAlternatives_28 rfl (lv_at hl 3 rfl) ?_
        refine f_callVi (na := 0) (As := []) (rest := []) Bx hml E hP hD hS (by omega) h9_105 rfl (m_Rd_peekX l hn hT hf hz97 (by omega)) kw_353 kw_355 sel_Rd_peek kw_6 kw_356 (by decide +kernel) ⟨rfl, rfl⟩ ⟨Nat.le_of_ble_eq_true rfl, Nat.le_of_ble_eq_true rfl⟩ rfl hl.1 (Nat.le_of_ble_eq_true rfl) d_Rd_readAlternatives_29 ⟨Nat.le_of_ble_eq_true rfl, Nat.le_of_ble_eq_true rfl⟩ (fun r119 mem120 H locs hq hP hS => ?_)
        have hD : va_D (Az sz) (fw n ad mem120) := fw_D hD
        obtain ⟨hqe, hpk118⟩ := hq
        rw [hqe] at hP hD
        subst hpk118
        refine lv_bipush (v := 47) Bx.1 Bx.2.1 d_Rd_readAlternatives_32 (by decide) ?_
        refine lv_icmp_ne Bx.1 Bx.2.1 d_Rd_readAlternatives_34 rfl (fun hb122 => ?_) (fun hb122 => ?_)
        · refine lv_aload_n Bx.1 Bx.2.1 d_Rd_readAlternatives_72 rfl (lv_at hl 2 rfl) ?_
          exact x_aret hx hb hlocks hr (⟨la, a1, u1, R1, E1, S1, A1, B1, n1, to1, rfl, by omega, by omega, by omega, by omega, hz100, by rw [← eg1]; exact hz97, hal, hbg, hE9, by rw [← eg1]; exact hb122, hz101⟩) hP hS d_Rd_readAlternatives_73
        · have hlt123 := hereF_lt (by rw [hb122]; decide)
          have h47 : hereF Z T (gapF T Z a1) = 47 := by rw [← eg1]; exact hb122
          have h237 : A1 237 2 = nI cq := hal.2.2.2.2.2.2.2.2.1.2.2.1.trans hc
          have h239 : A1 239 2 = -1 := hal.2.2.2.2.2.2.2.2.1.2.2.2
          refine lv_aload_n Bx.1 Bx.2.1 d_Rd_readAlternatives_37 rfl (lv_at hl 3 rfl) ?_
          refine lv_dup Bx.1 Bx.2.1 d_Rd_readAlternatives_38 rfl ?_
          refine f_get Bx hP (by omega) h9_105 rfl inRd 2 (by decide) kw_146 rfl rfl d_Rd_readAlternatives_39 ?_
          refine lv_iconst (v := 1) Bx.1 Bx.2.1 d_Rd_readAlternatives_42 (by decide) ?_
          refine lv_iadd Bx.1 Bx.2.1 d_Rd_readAlternatives_43 ?_
          rw [show nI g1 + 1 = nI (g1 + 1) from nI_add (g1) (1)]
          refine f_put Bx hP hD hS (by omega) h9_105 rfl inRd tyRd okRd nmRd 2 (by decide) kw_146 rfl rfl rfl rfl (Nat.le_of_ble_eq_true rfl) d_Rd_readAlternatives_44 (fun H locs hP hS => ?_)
          obtain ⟨mem124, e_mem124⟩ : ∃ z, z = va_up mem9 (222) (.inr (4, [.ref (ad 1), .ref (ad 5), .int (nI (g1 + 1)), .int (ft104)])) := ⟨_, rfl⟩
          have hP : va_P D vcl (fw n ad mem124) H := by rw [e_mem124]; exact hP
          have hD : va_D (Az sz) (fw n ad mem124) := fw_D hD
          have h_mem124 : mem124 (222) = .inr (4, [.ref (ad 1), .ref (ad 5), .int (nI (g1 + 1)), .int (ft104)]) := by rw [e_mem124, va_up_self]
          have hh125 := (va_up_ne mem9 (.inr (4, [.ref (ad 1), .ref (ad 5), .int (nI (g1 + 1)), .int (ft104)])) (show (1 : Nat) ≠ 222 by first | decide | assumption | omega)).trans h1_106
          rw [← e_mem124] at hh125
          have hh126 := (va_up_ne mem9 (.inr (4, [.ref (ad 1), .ref (ad 5), .int (nI (g1 + 1)), .int (ft104)])) (show (5 : Nat) ≠ 222 by first | decide | assumption | omega)).trans h5_108
          rw [← e_mem124] at hh126
          have hh127 := (va_up_ne mem9 (.inr (4, [.ref (ad 1), .ref (ad 5), .int (nI (g1 + 1)), .int (ft104)])) (show (220 : Nat) ≠ 222 by first | decide | assumption | omega)).trans h220_112
          rw [← e_mem124] at hh127
          have her128 : ER ad (R1) (E1) (B1) mem124 := hal.2.1.fr (Nat.le_refl _) (fun i9 hi9 => by rw [e_mem124]; exact va_up_ne _ _ (by omega))
          have hsr129 : SR cy ad (S1) (B1) mem124 := ⟨(show mem124 220 = _ from by rw [e_mem124]; exact va_up_ne _ _ (by omega)).trans hal.2.2.1.1, (show mem124 221 = _ from by rw [e_mem124]; exact va_up_ne _ _ (by omega)).trans hal.2.2.1.2⟩
          have hRX130 : RX cy ad lim (g1 + 1) (R1) (E1) (to1) (n1) m0 mem124 := by rw [e_mem124]; exact hz97.at
          refine lv_aload_n Bx.1 Bx.2.1 d_Rd_readAlternatives_47 rfl (lv_at hl 3 rfl) ?_
          refine f_callVi (na := 0) (As := []) (rest := []) Bx hml E hP hD hS (by omega) h_mem124 rfl (m_Rd_readGapY l hn hT hf hRX130 (by omega) (by omega)) kw_397 kw_399 sel_Rd_readGap kw_6 kw_400 (by decide +kernel) ⟨rfl, rfl⟩ ⟨Nat.le_of_ble_eq_true rfl, Nat.le_of_ble_eq_true rfl⟩ rfl hl.1 (Nat.le_of_ble_eq_true rfl) d_Rd_readAlternatives_48 ⟨Nat.le_of_ble_eq_true rfl, Nat.le_of_ble_eq_true rfl⟩ (fun r131 mem132 H locs hq hP hS => ?_)
          have hD : va_D (Az sz) (fw n ad mem132) := fw_D hD
          obtain ⟨g133, eg134⟩ : ∃ z, z = gapF T Z (g1 + 1) := ⟨_, rfl⟩
          rw [← eg134] at hq
          obtain ⟨hRX135, hgc136, hfa137⟩ := hq
          have hg138 : g1 + 1 ≤ g133 := by rw [eg134]; exact gapF_ge T Z _
          have hg139 : g133 ≤ Z := by rw [eg134]; exact gapF_le T (by omega)
          obtain ⟨ft140, h9_141⟩ := hRX135.2.1
          have h1_142 : mem132 1 = .inr (0, [.ref (ad 2), .int (nI Z)]) := (hRX135.1.2.2 1 (by omega)).trans hT.1
          have h2_143 : mem132 2 = .inl (cy 0, 240, .inl f) := (hRX135.1.2.2 2 (by omega)).trans hT.2.2
          have h5_144 := hRX135.1.1.2.1
          have hbd150 := hRX135.1.1.1
          obtain ⟨S145, g146, hS_147, h220_148, h221_149⟩ := hRX135.1.1.2.2.2.2.2.2
          have her151 : ER ad (R1) (E1) (B1) mem132 := her128.fr (Nat.le_refl _) (fun i9 hi9 => hfa137 _ (by omega))
          have hsr152 : SR cy ad (S1) (B1) mem132 := ⟨(show mem132 220 = _ from hfa137 _ (by omega)).trans hsr129.1, (show mem132 221 = _ from hfa137 _ (by omega)).trans hsr129.2⟩
          refine lv_pop Bx.1 Bx.2.1 d_Rd_readAlternatives_51 rfl ?_
          refine lv_aload_n Bx.1 Bx.2.1 d_Rd_readAlternatives_52 rfl (lv_at hl 1 rfl) ?_
          refine lv_aload_n Bx.1 Bx.2.1 d_Rd_readAlternatives_53 rfl (lv_at hl 3 rfl) ?_
          refine lv_iload_n Bx.1 Bx.2.1 d_Rd_readAlternatives_54 rfl (lv_at hl 4 rfl) ?_
          refine f_xVr (na := 1) (As := [.int (2)]) (rest := [.ref (ad (20 + 2 * la))]) Bx hml E hP hD hS (by omega) h9_141 rfl (m_Rd_readSequence_2Y l hlt hn hT hf hRX135 (by omega) (u := u1) (A := A1) her151 hsr152 (by omega) (by omega) hlka h237 (by omega) h239) kw_435 kw_437 sel_Rd_readSequence kw_6 kw_438 (by decide +kernel) ⟨rfl, rfl⟩ ⟨Nat.le_of_ble_eq_true rfl, Nat.le_of_ble_eq_true rfl⟩ rfl hl.1 (Nat.le_of_ble_eq_true rfl) d_Rd_readAlternatives_55 ⟨Nat.le_of_ble_eq_true rfl, Nat.le_of_ble_eq_true rfl⟩ (fun X ce q9 memx H locs hx9 hP hS g1 g2 g3 => f_out hlocks hno hP hS g1 g2 g3 ⟨Nat.le_of_ble_eq_true rfl, Nat.le_of_ble_eq_true rfl⟩ ⟨hx9.1, Or.inr (Or.inr ⟨hbg, hE9, hal.1.fai (go_sl h47) (by rw [← eg1, ← eg134]; exact hx9.2)⟩)⟩) (fun r153 mem154 H locs hq hP hS => ?_)
          have hD : va_D (Az sz) (fw n ad mem154) := fw_D hD
          obtain ⟨ax155, ux156, Rx157, Ex158, Sx159, Ax160, Bx_161, nx162, tox163, hr9164, h2165, h3166, h4167, h5168, htk169, hRX170, rds171, hnb172⟩ := hq
          subst hr9164
          obtain ⟨g173, eg174⟩ : ∃ z, z = gapF T Z ax155 := ⟨_, rfl⟩
          have hg175 : ax155 ≤ g173 := by rw [eg174]; exact gapF_ge T Z _
          have hg176 : g173 ≤ Z := by rw [eg174]; exact gapF_le T (by omega)
          rw [← eg174] at hRX170
          obtain ⟨ft177, h9_178⟩ := hRX170.2.1
          have h1_179 : mem154 1 = .inr (0, [.ref (ad 2), .int (nI Z)]) := (hRX170.1.2.2 1 (by omega)).trans hT.1
          have h2_180 : mem154 2 = .inl (cy 0, 240, .inl f) := (hRX170.1.2.2 2 (by omega)).trans hT.2.2
          have h5_181 := hRX170.1.1.2.1
          have hbd187 := hRX170.1.1.1
          obtain ⟨S182, g183, hS_184, h220_185, h221_186⟩ := hRX170.1.1.2.2.2.2.2.2
          have hbd188 := hRX170.1.1.1
          have hce189 := (rds171.2.1 la (by omega)).1
          refine f_putN Bx hP hD hS (by omega) hce189 rfl inEl tyEl okEl nmEl 5 (by decide) kw_91 rfl rfl rfl rfl (Nat.le_of_ble_eq_true rfl) d_Rd_readAlternatives_58 (fun H locs hP hS => ?_)
          obtain ⟨mem190, e_mem190⟩ : ∃ z, z = va_up mem154 ((20 + 2 * la)) (.inr (2, [.int (Bx_161 228 la), .int (Bx_161 229 la), .int (Bx_161 230 la), vR ad (Bx_161 231 la), vE ad (Bx_161 232 la), .ref (ad (20 + 2 * E1)), .ref (ad (21 + 2 * la))])) := ⟨_, rfl⟩
          have hP : va_P D vcl (fw n ad mem190) H := by rw [e_mem190]; exact hP
          have hD : va_D (Az sz) (fw n ad mem190) := fw_D hD
          have h_mem190 : mem190 ((20 + 2 * la)) = .inr (2, [.int (Bx_161 228 la), .int (Bx_161 229 la), .int (Bx_161 230 la), vR ad (Bx_161 231 la), vE ad (Bx_161 232 la), .ref (ad (20 + 2 * E1)), .ref (ad (21 + 2 * la))]) := by rw [e_mem190, va_up_self]
          have hh191 := (va_up_ne mem154 (.inr (2, [.int (Bx_161 228 la), .int (Bx_161 229 la), .int (Bx_161 230 la), vR ad (Bx_161 231 la), vE ad (Bx_161 232 la), .ref (ad (20 + 2 * E1)), .ref (ad (21 + 2 * la))])) (show (222 : Nat) ≠ (20 + 2 * la) by first | decide | assumption | omega)).trans h9_178
          rw [← e_mem190] at hh191
          have hh192 := (va_up_ne mem154 (.inr (2, [.int (Bx_161 228 la), .int (Bx_161 229 la), .int (Bx_161 230 la), vR ad (Bx_161 231 la), vE ad (Bx_161 232 la), .ref (ad (20 + 2 * E1)), .ref (ad (21 + 2 * la))])) (show (1 : Nat) ≠ (20 + 2 * la) by first | decide | assumption | omega)).trans h1_179
          rw [← e_mem190] at hh192
          have hh193 := (va_up_ne mem154 (.inr (2, [.int (Bx_161 228 la), .int (Bx_161 229 la), .int (Bx_161 230 la), vR ad (Bx_161 231 la), vE ad (Bx_161 232 la), .ref (ad (20 + 2 * E1)), .ref (ad (21 + 2 * la))])) (show (5 : Nat) ≠ (20 + 2 * la) by first | decide | assumption | omega)).trans h5_181
          rw [← e_mem190] at hh193
          have hh194 := (va_up_ne mem154 (.inr (2, [.int (Bx_161 228 la), .int (Bx_161 229 la), .int (Bx_161 230 la), vR ad (Bx_161 231 la), vE ad (Bx_161 232 la), .ref (ad (20 + 2 * E1)), .ref (ad (21 + 2 * la))])) (show (220 : Nat) ≠ (20 + 2 * la) by first | decide | assumption | omega)).trans h220_185
          rw [← e_mem190] at hh194
          have hRX195 : RX cy ad lim (g173) (Rx157) (Ex158) (tox163) (nx162) m0 mem190 := by rw [e_mem190]; exact hRX170.el (by omega) (hRX170.1.mk (by omega) (hRX170.1.1.upEl (by omega) (fun _ => ⟨(rds171.2.1 la (by omega)).2.1.oR ad, (rds171.2.1 la (by omega)).2.2.1.oE ad (by omega), Or.inr ⟨E1, by omega, by omega, rfl⟩⟩)))
          have her196 : ER ad (Rx157) (Ex158) (va_up Bx_161 233 (upd (Bx_161 233) la (nI E1))) mem190 := rds171.2.1.next (by omega) (by omega) (by omega) h_mem190 (fun i9 q9 hi9 => by rw [e_mem190]; exact va_up_ne _ _ (by omega))
          have hsr197 : SR cy ad (Sx159) (Bx_161) mem190 := ⟨(show mem190 220 = mem154 220 by rw [e_mem190]; exact va_up_ne _ _ (by omega)).trans rds171.2.2.1.1, (show mem190 221 = mem154 221 by rw [e_mem190]; exact va_up_ne _ _ (by omega)).trans rds171.2.2.1.2⟩
          obtain ⟨ft198, h9_199⟩ := hRX195.2.1
          have h1_200 : mem190 1 = .inr (0, [.ref (ad 2), .int (nI Z)]) := (hRX195.1.2.2 1 (by omega)).trans hT.1
          have h2_201 : mem190 2 = .inl (cy 0, 240, .inl f) := (hRX195.1.2.2 2 (by omega)).trans hT.2.2
          have h5_202 := hRX195.1.1.2.1
          have hbd208 := hRX195.1.1.1
          obtain ⟨S203, g204, hS_205, h220_206, h221_207⟩ := hRX195.1.1.2.2.2.2.2.2
          refine lv_aload_n Bx.1 Bx.2.1 d_Rd_readAlternatives_61 rfl (lv_at hl 1 rfl) ?_
          refine f_getN Bx hP (by omega) h_mem190 rfl inEl 5 (by decide) kw_91 rfl rfl d_Rd_readAlternatives_62 ?_
          refine lv_astore_n (lv' := [(3, .ref (ad (20 + 2 * E1))), (4, .int (nI k9)), (2, .ref (ad (20 + 2 * Ec))), (0, .ref (ad 222)), (1, .int (2))]) Bx.1 Bx.2.1 d_Rd_readAlternatives_65 rfl hl (by decide) rfl (fun ls hl => ?_)
          refine lv_iinc (lv' := [(4, .int ((nI k9 + (1)))), (3, .ref (ad (20 + 2 * E1))), (2, .ref (ad (20 + 2 * Ec))), (0, .ref (ad 222)), (1, .int (2))]) Bx.1 Bx.2.1 d_Rd_readAlternatives_66 hl (k := 1) rfl rfl (by decide) rfl (fun ls hl => ?_)
          rw [show (nI k9 + (1) : Int32) = nI (k9 + 1) from nI_1 (k9)] at hl
          refine lv_goto Bx.1 Bx.2.1 d_Rd_readAlternatives_69 rfl ?_
          have hal3 := alt_step hal (by omega) hLK hlka (by omega) hcl rds171 (by omega) (by omega) (by rw [eg134, eg1]; exact go_sl h47) her196 hsr197
          exact ih102 mem190 (ax155) (ux156) (Rx157) (Ex158) (Sx159) (Ax160) ((va_up Bx_161 233 (upd (Bx_161 233) la (nI E1)))) (nx162) (tox163) (E1) (k9 + 1) _ _ _ (by have := hmeas103; omega) (by rw [← eg174]; exact hRX195) (⟨by omega, by omega, by omega, by omega, by omega⟩) (hal3) (hz100.trans htk169 (by omega)) (hnb172) hP hD hS (lv_sub hl [0, 1, 2, 3, 4] rfl)
  exact loop95 _ mem76 (ax41) (ux42) (Rx43) (Ex44) (Sx45) (Ax46) ((va_up Bx_47 232 (upd (Bx_47 232) Ec (nI (Ec + 1))))) (nx48) (tox49) (Ec + 1) (0) _ _ _ (Nat.lt_succ_self _) (by rw [← eg60]; exact hRX81) (⟨by omega, by omega, by omega, by omega, by omega⟩) (hal0) (htk55) (hnb58) hP hD hS (lv_sub hl [0, 1, 2, 3, 4] rfl)
set_option maxHeartbeats 4000000 in
set_option maxRecDepth 100000 in
theorem m_Rd_readBracket_1Y (l : Launch) {D : va_G} {cy : Nat → ClassId} {sz n : Nat} {ad : Nat → Nat} {mem : Nat → va_E} {Z a R Ec lim : Nat} {f T : Nat → Int32} {to : Nat → Int32} {nm : Nat → Int64} {m0 : Nat → va_E} {u S : Nat} {A Bw : Ro} {what oe en : Int32} (hlt : l.stackTraces = false) (hn : 224 ≤ n) (hT : TX cy ad Z f m0) (hf : ∀ k, k < Z → f k = T k) (hRX : RX cy ad lim a R Ec to nm m0 mem) (haB : a ≤ 300) (hER : ER ad R Ec Bw mem) (hSR : SR cy ad S Bw mem) (hSa : S ≤ a) (haZ : a < Z) (hwe : (what = 1 ∧ en = 41) ∨ (what = 2 ∧ en = 93)) (hLK : LKa Ec A) : NXr l D cy sz n ad y_Rd_readBracket c_Rd_readBracket 4 (some (.object "AbnfChart$Element")) ({ frames := 44, cells := 1, slots := 6, locals := 1070 } : Room) mem [.ref (ad 222), .int (1), .int (en)] (fun r mem' => ∃ (la a1 u1 R1 E1 S1 : Nat) (A9 B9 : Ro) (nm1 : Nat → Int64) (to1 : Nat → Int32), r = ad (20 + 2 * Ec) ∧ Ec + 1 < E1 ∧ R ≤ R1 ∧ a + 1 < a1 ∧ gapF T Z a1 + 1 ≤ Z ∧ TOK R R1 to to1 ∧ RX cy ad lim (gapF T Z a1 + 1) R1 E1 to1 nm1 m0 mem' ∧ ALI cy ad T Z 2 (seqS T Z (gapF T Z (a + 1)) u R (Ec + 1) 2 (entA A 2 Ec what oe) nm) Ec R Ec S u (entA A 2 Ec what oe) Bw la a1 u1 R1 E1 S1 A9 B9 nm1 mem' ∧ hereF Z T (gapF T Z a1) = en ∧ entS T Z (a + 1) u R Ec 2 A nm what oe = some (gapF T Z (a + 1), u, R, Ec + 1, 2, (entA A 2 Ec what oe), nm, true)) (fun X mem' => ((X = cIA ∨ X = cIS) ∧ ∃ rc' ec' : Nat, RS cy ad lim rc' ec' m0 mem') ∧ (Fai T Z (entS T Z (a + 1) u R Ec 2 A nm what oe))) := by
  refine vx_ofW (cc := c_Rd_readBracket) (maxL := 4) (ret := (some (.object "AbnfChart$Element"))) (by decide) rfl ?_
  intro p e s m args below meth c s₁ B hml hno hv
  obtain ⟨rfl, E, hP, hD⟩ := hv
  have hx := B.exec
  have hb := B.bytes
  have hr := B.returns
  have hlocks := B.notSynchronized
  have Bx : MB p s m [.ref (ad 222), .int (1), .int (en)].toArray c c_Rd_readBracket "AbnfChart$Reader" D cy := ⟨hx, hb, tb_all (atoms_spec B.pre) E.2.1, findClass_of_methodNamed B.named, E.1⟩
  have hS : va_S (Az sz) s.heap s.heap [] := va_S.rf
  have hl := lv_entry ([.ref (ad 222), .int (1), .int (en)]) (n := 4) (Nat.le_of_ble_eq_true rfl)
  rw [lg_entry_eq]
  generalize (lg_sl ([.ref (ad 222), .int (1), .int (en)]) ++ List.replicate (4 - (lg_sl ([.ref (ad 222), .int (1), .int (en)])).length) Slot.unset).toArray = ls at hl ⊢
  have hl : lv_has ls 4 [(0, .ref (ad 222)), (1, .int (1)), (2, .int (en))] := hl
  have hZ9 := hT.2.1
  have hbd9 := hRX.1.1.1
  have hfr0 : ∀ i, 19 ≤ i ∧ i < 222 → mem i = mem i := fun _ _ => rfl
  obtain ⟨ft1, h9_2⟩ := hRX.2.1
  have h1_3 : mem 1 = .inr (0, [.ref (ad 2), .int (nI Z)]) := (hRX.1.2.2 1 (by omega)).trans hT.1
  have h2_4 : mem 2 = .inl (cy 0, 240, .inl f) := (hRX.1.2.2 2 (by omega)).trans hT.2.2
  have h5_5 := hRX.1.1.2.1
  have hbd11 := hRX.1.1.1
  obtain ⟨S6, g7, hS_8, h220_9, h221_10⟩ := hRX.1.1.2.2.2.2.2.2
  refine lv_aload_n Bx.1 Bx.2.1 d_Rd_readBracket_0 rfl (lv_at hl 0 rfl) ?_
  refine lv_iload_n Bx.1 Bx.2.1 d_Rd_readBracket_1 rfl (lv_at hl 1 rfl) ?_
  refine lv_bipush (v := 6) Bx.1 Bx.2.1 d_Rd_readBracket_2 (by decide) ?_
  refine lv_icmp_ge Bx.1 Bx.2.1 d_Rd_readBracket_4 rfl (fun hb12 => ?_) (fun hb12 => ?_)
  · exact absurd hb12 (by decide)
  · refine lv_iconst (v := 1) Bx.1 Bx.2.1 d_Rd_readBracket_7 (by decide) ?_
    refine lv_goto Bx.1 Bx.2.1 d_Rd_readBracket_8 rfl ?_
    refine lv_aload_n Bx.1 Bx.2.1 d_Rd_readBracket_12 rfl (lv_at hl 0 rfl) ?_
    refine f_get Bx hP (by omega) h9_2 rfl inRd 2 (by decide) kw_146 rfl rfl d_Rd_readBracket_13 ?_
    refine f_xVv (na := 2) (As := [.int (1), .int (nI a)]) (rest := []) Bx hml E hP hD hS (by omega) h9_2 rfl (m_Rd_needRoomX l hlt hn hT hf hRX (by omega)) kw_383 kw_385 sel_Rd_needRoom kw_6 kw_386 (by decide +kernel) ⟨rfl, rfl⟩ ⟨Nat.le_of_ble_eq_true rfl, Nat.le_of_ble_eq_true rfl⟩ rfl hl.1 (Nat.le_of_ble_eq_true rfl) d_Rd_readBracket_16 ⟨Nat.le_of_ble_eq_true rfl, Nat.le_of_ble_eq_true rfl⟩ (fun X ce q9 memx H locs hx9 hP hS g1 g2 g3 => f_out hlocks hno hP hS g1 g2 g3 ⟨Nat.le_of_ble_eq_true rfl, Nat.le_of_ble_eq_true rfl⟩ ⟨hx9.1, absurd hx9.2 (by decide)⟩) (fun mem14 H locs hq hP hS => ?_)
    have hD : va_D (Az sz) (fw n ad mem14) := fw_D hD
    obtain ⟨hqe, hg15⟩ := hq
    rw [hqe] at hP hD
    refine lv_aload_n Bx.1 Bx.2.1 d_Rd_readBracket_19 rfl (lv_at hl 0 rfl) ?_
    refine lv_dup Bx.1 Bx.2.1 d_Rd_readBracket_20 rfl ?_
    refine f_get Bx hP (by omega) h9_2 rfl inRd 2 (by decide) kw_146 rfl rfl d_Rd_readBracket_21 ?_
    refine lv_iconst (v := 1) Bx.1 Bx.2.1 d_Rd_readBracket_24 (by decide) ?_
    refine lv_iadd Bx.1 Bx.2.1 d_Rd_readBracket_25 ?_
    rw [show nI a + 1 = nI (a + 1) from nI_add (a) (1)]
    refine f_put Bx hP hD hS (by omega) h9_2 rfl inRd tyRd okRd nmRd 2 (by decide) kw_146 rfl rfl rfl rfl (Nat.le_of_ble_eq_true rfl) d_Rd_readBracket_26 (fun H locs hP hS => ?_)
    obtain ⟨mem16, e_mem16⟩ : ∃ z, z = va_up mem (222) (.inr (4, [.ref (ad 1), .ref (ad 5), .int (nI (a + 1)), .int (ft1)])) := ⟨_, rfl⟩
    have hP : va_P D vcl (fw n ad mem16) H := by rw [e_mem16]; exact hP
    have hD : va_D (Az sz) (fw n ad mem16) := fw_D hD
    have h_mem16 : mem16 (222) = .inr (4, [.ref (ad 1), .ref (ad 5), .int (nI (a + 1)), .int (ft1)]) := by rw [e_mem16, va_up_self]
    have hh17 := (va_up_ne mem (.inr (4, [.ref (ad 1), .ref (ad 5), .int (nI (a + 1)), .int (ft1)])) (show (1 : Nat) ≠ 222 by first | decide | assumption | omega)).trans h1_3
    rw [← e_mem16] at hh17
    have hh18 := (va_up_ne mem (.inr (4, [.ref (ad 1), .ref (ad 5), .int (nI (a + 1)), .int (ft1)])) (show (5 : Nat) ≠ 222 by first | decide | assumption | omega)).trans h5_5
    rw [← e_mem16] at hh18
    have hh19 := (va_up_ne mem (.inr (4, [.ref (ad 1), .ref (ad 5), .int (nI (a + 1)), .int (ft1)])) (show (220 : Nat) ≠ 222 by first | decide | assumption | omega)).trans h220_9
    rw [← e_mem16] at hh19
    have hfr20 : ∀ i, 19 ≤ i ∧ i < 222 → mem16 i = mem i := fun i q => (show mem16 i = mem i by rw [e_mem16]; exact va_up_ne _ _ (by omega)).trans (hfr0 i q)
    have hRX21 : RX cy ad lim (a + 1) (R) (Ec) (to) (nm) m0 mem16 := by rw [e_mem16]; exact hRX.at
    refine lv_aload_n Bx.1 Bx.2.1 d_Rd_readBracket_29 rfl (lv_at hl 0 rfl) ?_
    refine f_callVi (na := 0) (As := []) (rest := []) Bx hml E hP hD hS (by omega) h_mem16 rfl (m_Rd_readGapY l hn hT hf hRX21 (by omega) (by omega)) kw_397 kw_399 sel_Rd_readGap kw_6 kw_400 (by decide +kernel) ⟨rfl, rfl⟩ ⟨Nat.le_of_ble_eq_true rfl, Nat.le_of_ble_eq_true rfl⟩ rfl hl.1 (Nat.le_of_ble_eq_true rfl) d_Rd_readBracket_30 ⟨Nat.le_of_ble_eq_true rfl, Nat.le_of_ble_eq_true rfl⟩ (fun r22 mem23 H locs hq hP hS => ?_)
    have hD : va_D (Az sz) (fw n ad mem23) := fw_D hD
    obtain ⟨g24, eg25⟩ : ∃ z, z = gapF T Z (a + 1) := ⟨_, rfl⟩
    rw [← eg25] at hq
    obtain ⟨hRX26, hgc27, hfa28⟩ := hq
    have hg29 : a + 1 ≤ g24 := by rw [eg25]; exact gapF_ge T Z _
    have hg30 : g24 ≤ Z := by rw [eg25]; exact gapF_le T (by omega)
    have hfr31 : ∀ i, 19 ≤ i ∧ i < 222 → mem23 i = mem i := fun i q => (hfa28 i (by omega)).trans (hfr20 i q)
    obtain ⟨ft32, h9_33⟩ := hRX26.2.1
    have h1_34 : mem23 1 = .inr (0, [.ref (ad 2), .int (nI Z)]) := (hRX26.1.2.2 1 (by omega)).trans hT.1
    have h2_35 : mem23 2 = .inl (cy 0, 240, .inl f) := (hRX26.1.2.2 2 (by omega)).trans hT.2.2
    have h5_36 := hRX26.1.1.2.1
    have hbd42 := hRX26.1.1.1
    obtain ⟨S37, g38, hS_39, h220_40, h221_41⟩ := hRX26.1.1.2.2.2.2.2.2
    refine lv_pop Bx.1 Bx.2.1 d_Rd_readBracket_33 rfl ?_
    refine lv_aload_n Bx.1 Bx.2.1 d_Rd_readBracket_34 rfl (lv_at hl 0 rfl) ?_
    refine lv_iload_n Bx.1 Bx.2.1 d_Rd_readBracket_35 rfl (lv_at hl 1 rfl) ?_
    refine lv_iconst (v := 1) Bx.1 Bx.2.1 d_Rd_readBracket_36 (by decide) ?_
    refine lv_iadd Bx.1 Bx.2.1 d_Rd_readBracket_37 ?_
    rw [show (1 + 1 : Int32) = 2 from rfl]
    have her43 : ER ad R Ec Bw mem23 := hER.fr (Nat.le_refl _) (fun i9 hi9 => hfr31 (20 + 2 * i9) (by omega))
    have hsr44 : SR cy ad S Bw mem23 := ⟨(hfr31 220 (by omega)).trans hSR.1, (hfr31 221 (by omega)).trans hSR.2⟩
    refine f_xVr (na := 1) (As := [.int (2)]) (rest := []) Bx hml E hP hD hS (by omega) h9_33 rfl (m_Rd_readAlternatives_2Y l hlt hn hT hf hRX26 (by omega) (u := u) (A := (entA A 2 Ec what oe)) her43 hsr44 (by omega) (by omega) (ent_lka hLK) (cq := Ec) entA_f.2.2.2.2.2.2.2.1 (Nat.le_refl _) (by rw [entA_f.2.2.2.2.2.2.1, upd_self])) kw_405 kw_407 sel_Rd_readAlternatives kw_6 kw_408 (by decide +kernel) ⟨rfl, rfl⟩ ⟨Nat.le_of_ble_eq_true rfl, Nat.le_of_ble_eq_true rfl⟩ rfl hl.1 (Nat.le_of_ble_eq_true rfl) d_Rd_readBracket_38 ⟨Nat.le_of_ble_eq_true rfl, Nat.le_of_ble_eq_true rfl⟩ (fun X ce q9 memx H locs hx9 hP hS g1 g2 g3 => f_out hlocks hno hP hS g1 g2 g3 ⟨Nat.le_of_ble_eq_true rfl, Nat.le_of_ble_eq_true rfl⟩ ⟨hx9.1, hx9.2.elim (fun z => Or.inl (entS_no (Or.inl (by rw [← eg25]; exact z)))) (fun z => z.elim (fun z => Or.inl (entS_no (Or.inr z))) (fun z => Fai.br0 (by rw [ent_ok (by rw [← eg25]; exact z.1) z.2.1, ← eg25]) z.2.2))⟩) (fun r45 mem46 H locs hq hP hS => ?_)
    have hD : va_D (Az sz) (fw n ad mem46) := fw_D hD
    obtain ⟨la47, ax48, ux49, Rx50, Ex51, Sx52, Ax53, Bx_54, nx55, tox56, hr957, h158, h259, h360, h461, htk62, hRX63, ali64, hbg65, hE66, h4767, hnb68⟩ := hq
    subst hr957
    obtain ⟨g69, eg70⟩ : ∃ z, z = gapF T Z ax48 := ⟨_, rfl⟩
    have hg71 : ax48 ≤ g69 := by rw [eg70]; exact gapF_ge T Z _
    have hg72 : g69 ≤ Z := by rw [eg70]; exact gapF_le T (by omega)
    rw [← eg70] at hRX63
    obtain ⟨ft73, h9_74⟩ := hRX63.2.1
    have h1_75 : mem46 1 = .inr (0, [.ref (ad 2), .int (nI Z)]) := (hRX63.1.2.2 1 (by omega)).trans hT.1
    have h2_76 : mem46 2 = .inl (cy 0, 240, .inl f) := (hRX63.1.2.2 2 (by omega)).trans hT.2.2
    have h5_77 := hRX63.1.1.2.1
    have hbd83 := hRX63.1.1.1
    obtain ⟨S78, g79, hS_80, h220_81, h221_82⟩ := hRX63.1.1.2.2.2.2.2.2
    have hbd84 := hRX63.1.1.1
    have hent : entS T Z (a + 1) u R Ec 2 A nm what oe = some (g24, u, R, Ec + 1, 2, (entA A 2 Ec what oe), nm, true) := by rw [ent_ok (by rw [← eg25]; exact hbg65) hE66, ← eg25]
    have hA5 : Ax53 235 2 = what := by
      obtain ⟨c1, ho, hg, hk, hs⟩ := ali64.1
      rw [hk 2 (by omega), entA_5, upd_self]
    refine lv_astore_n (lv' := [(3, .ref (ad (20 + 2 * Ec))), (0, .ref (ad 222)), (1, .int (1)), (2, .int (en))]) Bx.1 Bx.2.1 d_Rd_readBracket_41 rfl hl (by decide) rfl (fun ls hl => ?_)
    refine lv_aload_n Bx.1 Bx.2.1 d_Rd_readBracket_42 rfl (lv_at hl 1 rfl) ?_
    refine lv_aload_n Bx.1 Bx.2.1 d_Rd_readBracket_43 rfl (lv_at hl 1 rfl) ?_
    refine f_callVi (na := 0) (As := []) (rest := [.ref (ad 222)]) Bx hml E hP hD hS (by omega) h9_74 rfl (m_Rd_peekX l hn hT hf hRX63 (by omega)) kw_353 kw_355 sel_Rd_peek kw_6 kw_356 (by decide +kernel) ⟨rfl, rfl⟩ ⟨Nat.le_of_ble_eq_true rfl, Nat.le_of_ble_eq_true rfl⟩ rfl hl.1 (Nat.le_of_ble_eq_true rfl) d_Rd_readBracket_44 ⟨Nat.le_of_ble_eq_true rfl, Nat.le_of_ble_eq_true rfl⟩ (fun r86 mem87 H locs hq hP hS => ?_)
    have hD : va_D (Az sz) (fw n ad mem87) := fw_D hD
    obtain ⟨hqe, hpk85⟩ := hq
    rw [hqe] at hP hD
    subst hpk85
    refine lv_iload_n Bx.1 Bx.2.1 d_Rd_readBracket_47 rfl (lv_at hl 3 rfl) ?_
    refine lv_icmp_ne Bx.1 Bx.2.1 d_Rd_readBracket_48 rfl (fun hb89 => ?_) (fun hb89 => ?_)
    · refine lv_iconst (v := 0) Bx.1 Bx.2.1 d_Rd_readBracket_55 (by decide) ?_
      refine lv_aload_n Bx.1 Bx.2.1 d_Rd_readBracket_56 rfl (lv_at hl 1 rfl) ?_
      refine f_get Bx hP (by omega) h9_74 rfl inRd 2 (by decide) kw_146 rfl rfl d_Rd_readBracket_57 ?_
      refine f_xVv (na := 2) (As := [.int (0), .int (nI g69)]) (rest := []) Bx hml E hP hD hS (by omega) h9_74 rfl (m_Rd_needReadableX l hlt hn hT hf hRX63 (by omega)) kw_360 kw_362 sel_Rd_needReadable kw_6 kw_363 (by decide +kernel) ⟨rfl, rfl⟩ ⟨Nat.le_of_ble_eq_true rfl, Nat.le_of_ble_eq_true rfl⟩ rfl hl.1 (Nat.le_of_ble_eq_true rfl) d_Rd_readBracket_60 ⟨Nat.le_of_ble_eq_true rfl, Nat.le_of_ble_eq_true rfl⟩ (fun X ce q9 memx H locs hx9 hP hS g1 g2 g3 => f_out hlocks hno hP hS g1 g2 g3 ⟨Nat.le_of_ble_eq_true rfl, Nat.le_of_ble_eq_true rfl⟩ ⟨hx9.1, Fai.br1 hent ali64.1.suc (br_no hwe hA5 (by rw [← eg70]; exact hb89) h4767 hnb68)⟩) (fun mem91 H locs hq hP hS => ?_)
      have hD : va_D (Az sz) (fw n ad mem91) := fw_D hD
      obtain ⟨hqe, hg92⟩ := hq
      rw [hqe] at hP hD
      exact absurd rfl hg92
    · refine lv_iconst (v := 1) Bx.1 Bx.2.1 d_Rd_readBracket_51 (by decide) ?_
      refine lv_goto Bx.1 Bx.2.1 d_Rd_readBracket_52 rfl ?_
      refine lv_aload_n Bx.1 Bx.2.1 d_Rd_readBracket_56 rfl (lv_at hl 1 rfl) ?_
      refine f_get Bx hP (by omega) h9_74 rfl inRd 2 (by decide) kw_146 rfl rfl d_Rd_readBracket_57 ?_
      refine f_xVv (na := 2) (As := [.int (1), .int (nI g69)]) (rest := []) Bx hml E hP hD hS (by omega) h9_74 rfl (m_Rd_needReadableX l hlt hn hT hf hRX63 (by omega)) kw_360 kw_362 sel_Rd_needReadable kw_6 kw_363 (by decide +kernel) ⟨rfl, rfl⟩ ⟨Nat.le_of_ble_eq_true rfl, Nat.le_of_ble_eq_true rfl⟩ rfl hl.1 (Nat.le_of_ble_eq_true rfl) d_Rd_readBracket_60 ⟨Nat.le_of_ble_eq_true rfl, Nat.le_of_ble_eq_true rfl⟩ (fun X ce q9 memx H locs hx9 hP hS g1 g2 g3 => f_out hlocks hno hP hS g1 g2 g3 ⟨Nat.le_of_ble_eq_true rfl, Nat.le_of_ble_eq_true rfl⟩ ⟨hx9.1, absurd hx9.2 (by decide)⟩) (fun mem94 H locs hq hP hS => ?_)
      have hD : va_D (Az sz) (fw n ad mem94) := fw_D hD
      obtain ⟨hqe, hg95⟩ := hq
      rw [hqe] at hP hD
      refine lv_aload_n Bx.1 Bx.2.1 d_Rd_readBracket_63 rfl (lv_at hl 1 rfl) ?_
      refine lv_dup Bx.1 Bx.2.1 d_Rd_readBracket_64 rfl ?_
      refine f_get Bx hP (by omega) h9_74 rfl inRd 2 (by decide) kw_146 rfl rfl d_Rd_readBracket_65 ?_
      refine lv_iconst (v := 1) Bx.1 Bx.2.1 d_Rd_readBracket_68 (by decide) ?_
      refine lv_iadd Bx.1 Bx.2.1 d_Rd_readBracket_69 ?_
      rw [show nI g69 + 1 = nI (g69 + 1) from nI_add (g69) (1)]
      refine f_put Bx hP hD hS (by omega) h9_74 rfl inRd tyRd okRd nmRd 2 (by decide) kw_146 rfl rfl rfl rfl (Nat.le_of_ble_eq_true rfl) d_Rd_readBracket_70 (fun H locs hP hS => ?_)
      obtain ⟨mem96, e_mem96⟩ : ∃ z, z = va_up mem46 (222) (.inr (4, [.ref (ad 1), .ref (ad 5), .int (nI (g69 + 1)), .int (ft73)])) := ⟨_, rfl⟩
      have hP : va_P D vcl (fw n ad mem96) H := by rw [e_mem96]; exact hP
      have hD : va_D (Az sz) (fw n ad mem96) := fw_D hD
      have h_mem96 : mem96 (222) = .inr (4, [.ref (ad 1), .ref (ad 5), .int (nI (g69 + 1)), .int (ft73)]) := by rw [e_mem96, va_up_self]
      have hh97 := (va_up_ne mem46 (.inr (4, [.ref (ad 1), .ref (ad 5), .int (nI (g69 + 1)), .int (ft73)])) (show (1 : Nat) ≠ 222 by first | decide | assumption | omega)).trans h1_75
      rw [← e_mem96] at hh97
      have hh98 := (va_up_ne mem46 (.inr (4, [.ref (ad 1), .ref (ad 5), .int (nI (g69 + 1)), .int (ft73)])) (show (5 : Nat) ≠ 222 by first | decide | assumption | omega)).trans h5_77
      rw [← e_mem96] at hh98
      have hh99 := (va_up_ne mem46 (.inr (4, [.ref (ad 1), .ref (ad 5), .int (nI (g69 + 1)), .int (ft73)])) (show (220 : Nat) ≠ 222 by first | decide | assumption | omega)).trans h220_81
      rw [← e_mem96] at hh99
      have her100 : ER ad (Rx50) (Ex51) (Bx_54) mem96 := ali64.2.1.fr (Nat.le_refl _) (fun i9 hi9 => by rw [e_mem96]; exact va_up_ne _ _ (by omega))
      have hsr101 : SR cy ad (Sx52) (Bx_54) mem96 := ⟨(show mem96 220 = _ from by rw [e_mem96]; exact va_up_ne _ _ (by omega)).trans ali64.2.2.1.1, (show mem96 221 = _ from by rw [e_mem96]; exact va_up_ne _ _ (by omega)).trans ali64.2.2.1.2⟩
      have hRX102 : RX cy ad lim (g69 + 1) (Rx50) (Ex51) (tox56) (nx55) m0 mem96 := by rw [e_mem96]; exact hRX63.at
      refine lv_aload_n Bx.1 Bx.2.1 d_Rd_readBracket_73 rfl (lv_at hl 0 rfl) ?_
      have hal9 : ALI cy ad T Z 2 (seqS T Z (gapF T Z (a + 1)) u R (Ec + 1) 2 (entA A 2 Ec what oe) nm) Ec R Ec S u (entA A 2 Ec what oe) Bw la47 ax48 ux49 Rx50 Ex51 Sx52 Ax53 Bx_54 nx55 mem96 := by rw [← eg25]; exact ⟨ali64.1, her100, hsr101, ali64.2.2.2⟩
      exact x_aret hx hb hlocks hr (⟨la47, ax48, ux49, Rx50, Ex51, Sx52, Ax53, Bx_54, nx55, tox56, rfl, by omega, by omega, by omega, by rw [← eg70]; have := br_lt hwe hb89; omega, htk62, by rw [← eg70]; exact hRX102, hal9, by rw [← eg70]; exact hb89, by rw [← eg25]; exact hent⟩) hP hS d_Rd_readBracket_74
set_option maxHeartbeats 4000000 in
set_option maxRecDepth 100000 in
theorem m_Rd_readOption_1Y (l : Launch) {D : va_G} {cy : Nat → ClassId} {sz n : Nat} {ad : Nat → Nat} {mem : Nat → va_E} {Z a R Ec lim : Nat} {f T : Nat → Int32} {to : Nat → Int32} {nm : Nat → Int64} {m0 : Nat → va_E} {u S : Nat} {A Bw : Ro} (hlt : l.stackTraces = false) (hn : 224 ≤ n) (hT : TX cy ad Z f m0) (hf : ∀ k, k < Z → f k = T k) (hRX : RX cy ad lim a R Ec to nm m0 mem) (haB : a ≤ 300) (hER : ER ad R Ec Bw mem) (hSR : SR cy ad S Bw mem) (hSa : S ≤ a) (haZ : a < Z) (hLK : LKa Ec A) (hF : FRM A 1 Ec) (c91 : hereF Z T a = 91) : NXr l D cy sz n ad y_Rd_readOption c_Rd_readOption 3 (some (.object "AbnfChart$Element")) ({ frames := 45, cells := 1, slots := 6, locals := 1093 } : Room) mem [.ref (ad 222), .int (1)] (fun r mem' => ∃ (k' a' u' R' E' S' : Nat) (A' Bw' : Ro) (nm' : Nat → Int64) (to' : Nat → Int32), r = ad (20 + 2 * k') ∧ Ec ≤ k' ∧ k' < E' ∧ R ≤ R' ∧ a < a' ∧ a' ≤ Z ∧ TOK R R' to to' ∧ RX cy ad lim a' R' E' to' nm' m0 mem' ∧ RDS cy ad T Z 1 (singS T Z a u R Ec 1 A nm) (PSf A 1) R Ec S u A Bw k' a' u' R' E' S' A' Bw' nm' mem' ∧ A' 238 1 = A 238 1) (fun X mem' => ((X = cIA ∨ X = cIS) ∧ ∃ rc' ec' : Nat, RS cy ad lim rc' ec' m0 mem') ∧ (Fai T Z (singS T Z a u R Ec 1 A nm))) := by
  refine vx_ofW (cc := c_Rd_readOption) (maxL := 3) (ret := (some (.object "AbnfChart$Element"))) (by decide) rfl ?_
  intro p e s m args below meth c s₁ B hml hno hv
  obtain ⟨rfl, E, hP, hD⟩ := hv
  have hx := B.exec
  have hb := B.bytes
  have hr := B.returns
  have hlocks := B.notSynchronized
  have Bx : MB p s m [.ref (ad 222), .int (1)].toArray c c_Rd_readOption "AbnfChart$Reader" D cy := ⟨hx, hb, tb_all (atoms_spec B.pre) E.2.1, findClass_of_methodNamed B.named, E.1⟩
  have hS : va_S (Az sz) s.heap s.heap [] := va_S.rf
  have hl := lv_entry ([.ref (ad 222), .int (1)]) (n := 3) (Nat.le_of_ble_eq_true rfl)
  rw [lg_entry_eq]
  generalize (lg_sl ([.ref (ad 222), .int (1)]) ++ List.replicate (3 - (lg_sl ([.ref (ad 222), .int (1)])).length) Slot.unset).toArray = ls at hl ⊢
  have hl : lv_has ls 3 [(0, .ref (ad 222)), (1, .int (1))] := hl
  have hZ9 := hT.2.1
  have hbd9 := hRX.1.1.1
  have hfr0 : ∀ i, 19 ≤ i ∧ i < 222 ∧ i ≠ 20 + 2 * Ec → mem i = mem i := fun _ _ => rfl
  obtain ⟨ft1, h9_2⟩ := hRX.2.1
  have h1_3 : mem 1 = .inr (0, [.ref (ad 2), .int (nI Z)]) := (hRX.1.2.2 1 (by omega)).trans hT.1
  have h2_4 : mem 2 = .inl (cy 0, 240, .inl f) := (hRX.1.2.2 2 (by omega)).trans hT.2.2
  have h5_5 := hRX.1.1.2.1
  have hbd11 := hRX.1.1.1
  obtain ⟨S6, g7, hS_8, h220_9, h221_10⟩ := hRX.1.1.2.2.2.2.2.2
  refine lv_aload_n Bx.1 Bx.2.1 d_Rd_readOption_0 rfl (lv_at hl 0 rfl) ?_
  refine lv_iconst (v := 3) Bx.1 Bx.2.1 d_Rd_readOption_1 (by decide) ?_
  refine lv_aload_n Bx.1 Bx.2.1 d_Rd_readOption_2 rfl (lv_at hl 0 rfl) ?_
  refine f_get Bx hP (by omega) h9_2 rfl inRd 2 (by decide) kw_146 rfl rfl d_Rd_readOption_3 ?_
  refine f_xVr (na := 2) (As := [.int (3), .int (nI a)]) (rest := []) Bx hml E hP hD hS (by omega) h9_2 rfl (m_Rd_addElementY l hlt hn hT hf hRX (by omega)) kw_419 kw_421 sel_Rd_addElement kw_6 kw_422 (by decide +kernel) ⟨rfl, rfl⟩ ⟨Nat.le_of_ble_eq_true rfl, Nat.le_of_ble_eq_true rfl⟩ rfl hl.1 (Nat.le_of_ble_eq_true rfl) d_Rd_readOption_6 ⟨Nat.le_of_ble_eq_true rfl, Nat.le_of_ble_eq_true rfl⟩ (fun X ce q9 memx H locs hx9 hP hS g1 g2 g3 => f_out hlocks hno hP hS g1 g2 g3 ⟨Nat.le_of_ble_eq_true rfl, Nat.le_of_ble_eq_true rfl⟩ ⟨hx9.1, Or.inl (sing_o0 (l91 c91).1 c91 (Or.inr hx9.2))⟩) (fun r12 mem13 H locs hq hP hS => ?_)
  have hD : va_D (Az sz) (fw n ad mem13) := fw_D hD
  obtain ⟨hr914, hec15, hRX16, hcl17, hfa18⟩ := hq
  subst hr914
  have hfr19 : ∀ i, 19 ≤ i ∧ i < 222 ∧ i ≠ 20 + 2 * Ec → mem13 i = mem i := fun i q => (hfa18 i (by omega)).trans (hfr0 i q)
  obtain ⟨ft20, h9_21⟩ := hRX16.2.1
  have h1_22 : mem13 1 = .inr (0, [.ref (ad 2), .int (nI Z)]) := (hRX16.1.2.2 1 (by omega)).trans hT.1
  have h2_23 : mem13 2 = .inl (cy 0, 240, .inl f) := (hRX16.1.2.2 2 (by omega)).trans hT.2.2
  have h5_24 := hRX16.1.1.2.1
  have hbd30 := hRX16.1.1.1
  obtain ⟨S25, g26, hS_27, h220_28, h221_29⟩ := hRX16.1.1.2.2.2.2.2.2
  obtain ⟨ft31, h9_32⟩ := hRX16.2.1
  have h1_33 : mem13 1 = .inr (0, [.ref (ad 2), .int (nI Z)]) := (hRX16.1.2.2 1 (by omega)).trans hT.1
  have h2_34 : mem13 2 = .inl (cy 0, 240, .inl f) := (hRX16.1.2.2 2 (by omega)).trans hT.2.2
  have h5_35 := hRX16.1.1.2.1
  have hbd41 := hRX16.1.1.1
  obtain ⟨S36, g37, hS_38, h220_39, h221_40⟩ := hRX16.1.1.2.2.2.2.2.2
  refine lv_astore_n (lv' := [(2, .ref (ad (20 + 2 * Ec))), (0, .ref (ad 222)), (1, .int (1))]) Bx.1 Bx.2.1 d_Rd_readOption_9 rfl hl (by decide) rfl (fun ls hl => ?_)
  refine lv_aload_n Bx.1 Bx.2.1 d_Rd_readOption_10 rfl (lv_at hl 0 rfl) ?_
  refine lv_aload_n Bx.1 Bx.2.1 d_Rd_readOption_11 rfl (lv_at hl 1 rfl) ?_
  refine lv_iload_n Bx.1 Bx.2.1 d_Rd_readOption_12 rfl (lv_at hl 2 rfl) ?_
  refine lv_bipush (v := 93) Bx.1 Bx.2.1 d_Rd_readOption_13 (by decide) ?_
  have her42 : ER ad R (Ec + 1) (bwN Bw Ec 3 (0) (0) (-1) (-1) (-1) (Bw 234)) mem13 := hER.new (Nat.le_refl _) (by rw [vR_m]; exact hcl17) (Or.inl rfl) (fun i9 hi9 => hfr19 (20 + 2 * i9) (by omega))
  have hsr43 : SR cy ad S (bwN Bw Ec 3 (0) (0) (-1) (-1) (-1) (Bw 234)) mem13 := ⟨(hfr19 220 (by omega)).trans hSR.1, (hfr19 221 (by omega)).trans hSR.2⟩
  have hE9 := hec15
  refine f_xVr (na := 2) (As := [.int (1), .int (93)]) (rest := [.ref (ad (20 + 2 * Ec))]) Bx hml E hP hD hS (by omega) h9_32 rfl (m_Rd_readBracket_1Y l hlt hn hT hf hRX16 (by omega) (u := u) (A := elA A Ec 3) (what := 2) (oe := nI Ec) her42 hsr43 (by omega) (by omega) (Or.inr ⟨rfl, rfl⟩) (elA_lka hLK)) kw_447 kw_449 sel_Rd_readBracket kw_6 kw_450 (by decide +kernel) ⟨rfl, rfl⟩ ⟨Nat.le_of_ble_eq_true rfl, Nat.le_of_ble_eq_true rfl⟩ rfl hl.1 (Nat.le_of_ble_eq_true rfl) d_Rd_readOption_15 ⟨Nat.le_of_ble_eq_true rfl, Nat.le_of_ble_eq_true rfl⟩ (fun X ce q9 memx H locs hx9 hP hS g1 g2 g3 => f_out hlocks hno hP hS g1 g2 g3 ⟨Nat.le_of_ble_eq_true rfl, Nat.le_of_ble_eq_true rfl⟩ ⟨hx9.1, hx9.2.eq (sing_op (l91 c91).1 c91 (by omega) hE9)⟩) (fun r44 mem45 H locs hq hP hS => ?_)
  have hD : va_D (Az sz) (fw n ad mem45) := fw_D hD
  obtain ⟨la46, ax47, ux48, Rx49, Ex50, Sx51, Ax52, Bx_53, nx54, tox55, hr956, h157, h258, h359, h460, htk61, hRX62, ali63, hh64, hent65⟩ := hq
  subst hr956
  obtain ⟨ft66, h9_67⟩ := hRX62.2.1
  have h1_68 : mem45 1 = .inr (0, [.ref (ad 2), .int (nI Z)]) := (hRX62.1.2.2 1 (by omega)).trans hT.1
  have h2_69 : mem45 2 = .inl (cy 0, 240, .inl f) := (hRX62.1.2.2 2 (by omega)).trans hT.2.2
  have h5_70 := hRX62.1.1.2.1
  have hbd76 := hRX62.1.1.1
  obtain ⟨S71, g72, hS_73, h220_74, h221_75⟩ := hRX62.1.1.2.2.2.2.2.2
  have hbd77 := hRX62.1.1.1
  have hce78 := (ali63.2.1 Ec (by omega)).1
  refine f_putN Bx hP hD hS (by omega) hce78 rfl inEl tyEl okEl nmEl 4 (by decide) kw_87 rfl rfl rfl rfl (Nat.le_of_ble_eq_true rfl) d_Rd_readOption_18 (fun H locs hP hS => ?_)
  obtain ⟨mem79, e_mem79⟩ : ∃ z, z = va_up mem45 ((20 + 2 * Ec)) (.inr (2, [.int (Bx_53 228 Ec), .int (Bx_53 229 Ec), .int (Bx_53 230 Ec), vR ad (Bx_53 231 Ec), .ref (ad (20 + 2 * (Ec + 1))), vE ad (Bx_53 233 Ec), .ref (ad (21 + 2 * Ec))])) := ⟨_, rfl⟩
  have hP : va_P D vcl (fw n ad mem79) H := by rw [e_mem79]; exact hP
  have hD : va_D (Az sz) (fw n ad mem79) := fw_D hD
  have h_mem79 : mem79 ((20 + 2 * Ec)) = .inr (2, [.int (Bx_53 228 Ec), .int (Bx_53 229 Ec), .int (Bx_53 230 Ec), vR ad (Bx_53 231 Ec), .ref (ad (20 + 2 * (Ec + 1))), vE ad (Bx_53 233 Ec), .ref (ad (21 + 2 * Ec))]) := by rw [e_mem79, va_up_self]
  have hh80 := (va_up_ne mem45 (.inr (2, [.int (Bx_53 228 Ec), .int (Bx_53 229 Ec), .int (Bx_53 230 Ec), vR ad (Bx_53 231 Ec), .ref (ad (20 + 2 * (Ec + 1))), vE ad (Bx_53 233 Ec), .ref (ad (21 + 2 * Ec))])) (show (222 : Nat) ≠ (20 + 2 * Ec) by first | decide | assumption | omega)).trans h9_67
  rw [← e_mem79] at hh80
  have hh81 := (va_up_ne mem45 (.inr (2, [.int (Bx_53 228 Ec), .int (Bx_53 229 Ec), .int (Bx_53 230 Ec), vR ad (Bx_53 231 Ec), .ref (ad (20 + 2 * (Ec + 1))), vE ad (Bx_53 233 Ec), .ref (ad (21 + 2 * Ec))])) (show (1 : Nat) ≠ (20 + 2 * Ec) by first | decide | assumption | omega)).trans h1_68
  rw [← e_mem79] at hh81
  have hh82 := (va_up_ne mem45 (.inr (2, [.int (Bx_53 228 Ec), .int (Bx_53 229 Ec), .int (Bx_53 230 Ec), vR ad (Bx_53 231 Ec), .ref (ad (20 + 2 * (Ec + 1))), vE ad (Bx_53 233 Ec), .ref (ad (21 + 2 * Ec))])) (show (5 : Nat) ≠ (20 + 2 * Ec) by first | decide | assumption | omega)).trans h5_70
  rw [← e_mem79] at hh82
  have hh83 := (va_up_ne mem45 (.inr (2, [.int (Bx_53 228 Ec), .int (Bx_53 229 Ec), .int (Bx_53 230 Ec), vR ad (Bx_53 231 Ec), .ref (ad (20 + 2 * (Ec + 1))), vE ad (Bx_53 233 Ec), .ref (ad (21 + 2 * Ec))])) (show (220 : Nat) ≠ (20 + 2 * Ec) by first | decide | assumption | omega)).trans h220_74
  rw [← e_mem79] at hh83
  have hRX84 : RX cy ad lim (gapF T Z ax47 + 1) (Rx49) (Ex50) (tox55) (nx54) m0 mem79 := by rw [e_mem79]; exact hRX62.el (by omega) (hRX62.1.mk (by omega) (hRX62.1.1.upEl (by omega) (fun _ => ⟨(ali63.2.1 Ec (by omega)).2.1.oR ad, Or.inr ⟨(Ec + 1), by omega, by omega, rfl⟩, (ali63.2.1 Ec (by omega)).2.2.2.oE ad (by omega)⟩)))
  have her85 : ER ad (Rx49) (Ex50) (va_up Bx_53 232 (upd (Bx_53 232) Ec (nI (Ec + 1)))) mem79 := ali63.2.1.part (by omega) (by omega) (by omega) h_mem79 (fun i9 q9 hi9 => by rw [e_mem79]; exact va_up_ne _ _ (by omega))
  have hsr86 : SR cy ad (Sx51) (Bx_53) mem79 := ⟨(show mem79 220 = mem45 220 by rw [e_mem79]; exact va_up_ne _ _ (by omega)).trans ali63.2.2.1.1, (show mem79 221 = mem45 221 by rw [e_mem79]; exact va_up_ne _ _ (by omega)).trans ali63.2.2.1.2⟩
  obtain ⟨ft87, h9_88⟩ := hRX84.2.1
  have h1_89 : mem79 1 = .inr (0, [.ref (ad 2), .int (nI Z)]) := (hRX84.1.2.2 1 (by omega)).trans hT.1
  have h2_90 : mem79 2 = .inl (cy 0, 240, .inl f) := (hRX84.1.2.2 2 (by omega)).trans hT.2.2
  have h5_91 := hRX84.1.1.2.1
  have hbd97 := hRX84.1.1.1
  obtain ⟨S92, g93, hS_94, h220_95, h221_96⟩ := hRX84.1.1.2.2.2.2.2.2
  refine lv_aload_n Bx.1 Bx.2.1 d_Rd_readOption_21 rfl (lv_at hl 0 rfl) ?_
  have hrd9 := opt_rds (nm := nm) hLK (by omega) hF hent65 ali63 hh64 her85 hsr86
  exact x_aret hx hb hlocks hr (⟨Ec, gapF T Z ax47 + 1, ux48, Rx49, Ex50, Sx51, _, _, nx54, tox55, rfl, by omega, by omega, by omega, by have := gapF_ge T Z ax47; omega, by omega, htk61, hRX84, rdsEq hrd9.1 (sing_op (l91 c91).1 c91 (by omega) hE9), hrd9.2⟩) hP hS d_Rd_readOption_22
set_option maxHeartbeats 4000000 in
set_option maxRecDepth 100000 in
theorem m_Rd_readElement_1Y (l : Launch) {D : va_G} {cy : Nat → ClassId} {sz n : Nat} {ad : Nat → Nat} {mem : Nat → va_E} {Z a R Ec lim : Nat} {f T : Nat → Int32} {to : Nat → Int32} {nm : Nat → Int64} {m0 : Nat → va_E} {u S : Nat} {A Bw : Ro} (hlt : l.stackTraces = false) (hn : 224 ≤ n) (hT : TX cy ad Z f m0) (hf : ∀ k, k < Z → f k = T k) (hRX : RX cy ad lim a R Ec to nm m0 mem) (haB : a ≤ 300) (hER : ER ad R Ec Bw mem) (hSR : SR cy ad S Bw mem) (hSa : S ≤ a) (haZ : a ≤ Z) (hLK : LKa Ec A) (hF : FRM A 1 Ec) : NXr l D cy sz n ad y_Rd_readElement c_Rd_readElement 2 (some (.object "AbnfChart$Element")) ({ frames := 46, cells := 1, slots := 6, locals := 1116 } : Room) mem [.ref (ad 222), .int (1)] (fun r mem' => ∃ (k' a' u' R' E' S' : Nat) (A' Bw' : Ro) (nm' : Nat → Int64) (to' : Nat → Int32), r = ad (20 + 2 * k') ∧ Ec ≤ k' ∧ k' < E' ∧ R ≤ R' ∧ a < a' ∧ a' ≤ Z ∧ TOK R R' to to' ∧ RX cy ad lim a' R' E' to' nm' m0 mem' ∧ RDS cy ad T Z 1 (singS T Z a u R Ec 1 A nm) (PSf A 1) R Ec S u A Bw k' a' u' R' E' S' A' Bw' nm' mem' ∧ A' 238 1 = A 238 1 ∧ OKc (hereF Z T a)) (fun X mem' => ((X = cIA ∨ X = cIS) ∧ ∃ rc' ec' : Nat, RS cy ad lim rc' ec' m0 mem') ∧ (Fai T Z (singS T Z a u R Ec 1 A nm) ∨ ¬ OKc (hereF Z T a))) := by
  refine vx_ofW (cc := c_Rd_readElement) (maxL := 2) (ret := (some (.object "AbnfChart$Element"))) (by decide) rfl ?_
  intro p e s m args below meth c s₁ B hml hno hv
  obtain ⟨rfl, E, hP, hD⟩ := hv
  have hx := B.exec
  have hb := B.bytes
  have hr := B.returns
  have hlocks := B.notSynchronized
  have Bx : MB p s m [.ref (ad 222), .int (1)].toArray c c_Rd_readElement "AbnfChart$Reader" D cy := ⟨hx, hb, tb_all (atoms_spec B.pre) E.2.1, findClass_of_methodNamed B.named, E.1⟩
  have hS : va_S (Az sz) s.heap s.heap [] := va_S.rf
  have hl := lv_entry ([.ref (ad 222), .int (1)]) (n := 2) (Nat.le_of_ble_eq_true rfl)
  rw [lg_entry_eq]
  generalize (lg_sl ([.ref (ad 222), .int (1)]) ++ List.replicate (2 - (lg_sl ([.ref (ad 222), .int (1)])).length) Slot.unset).toArray = ls at hl ⊢
  have hl : lv_has ls 2 [(0, .ref (ad 222)), (1, .int (1))] := hl
  have hZ9 := hT.2.1
  have hbd9 := hRX.1.1.1
  have hfr0 : ∀ i, 19 ≤ i ∧ i < 222 ∧ i ≠ 20 + 2 * Ec → mem i = mem i := fun _ _ => rfl
  obtain ⟨ft1, h9_2⟩ := hRX.2.1
  have h1_3 : mem 1 = .inr (0, [.ref (ad 2), .int (nI Z)]) := (hRX.1.2.2 1 (by omega)).trans hT.1
  have h2_4 : mem 2 = .inl (cy 0, 240, .inl f) := (hRX.1.2.2 2 (by omega)).trans hT.2.2
  have h5_5 := hRX.1.1.2.1
  have hbd11 := hRX.1.1.1
  obtain ⟨S6, g7, hS_8, h220_9, h221_10⟩ := hRX.1.1.2.2.2.2.2.2
  refine lv_aload_n Bx.1 Bx.2.1 d_Rd_readElement_0 rfl (lv_at hl 0 rfl) ?_
  refine f_callVi (na := 0) (As := []) (rest := []) Bx hml E hP hD hS (by omega) h9_2 rfl (m_Rd_peekX l hn hT hf hRX (by omega)) kw_353 kw_355 sel_Rd_peek kw_6 kw_356 (by decide +kernel) ⟨rfl, rfl⟩ ⟨Nat.le_of_ble_eq_true rfl, Nat.le_of_ble_eq_true rfl⟩ rfl hl.1 (Nat.le_of_ble_eq_true rfl) d_Rd_readElement_1 ⟨Nat.le_of_ble_eq_true rfl, Nat.le_of_ble_eq_true rfl⟩ (fun r13 mem14 H locs hq hP hS => ?_)
  have hD : va_D (Az sz) (fw n ad mem14) := fw_D hD
  obtain ⟨hqe, hpk12⟩ := hq
  rw [hqe] at hP hD
  subst hpk12
  refine lv_topi (fun v16 e_v16 => ?_)
  by_cases c34 : v16 = 34
  · rw [c34]
    refine lv_lookup (off := 58) (tgt := 62) Bx.1 Bx.2.1 d_Rd_readElement_4 (by decide) (by decide) rfl ?_
    rw [e_v16] at c34
    have hlt34 := hereF_lt (show hereF Z T (a) ≠ -1 by rw [c34]; decide)
    refine lv_aload_n Bx.1 Bx.2.1 d_Rd_readElement_62 rfl (lv_at hl 0 rfl) ?_
    refine lv_aload_n Bx.1 Bx.2.1 d_Rd_readElement_63 rfl (lv_at hl 0 rfl) ?_
    refine f_get Bx hP (by omega) h9_2 rfl inRd 2 (by decide) kw_146 rfl rfl d_Rd_readElement_64 ?_
    refine lv_iconst (v := 5) Bx.1 Bx.2.1 d_Rd_readElement_67 (by decide) ?_
    refine f_xVr (na := 2) (As := [.int (nI a), .int (5)]) (rest := []) Bx hml E hP hD hS (by omega) h9_2 rfl (m_Rd_readStringY l hlt hn hT hf hRX (by omega) hSR.1 hSR.2 (by omega) hSa) kw_455 kw_457 sel_Rd_readString kw_6 kw_458 (by decide +kernel) ⟨rfl, rfl⟩ ⟨Nat.le_of_ble_eq_true rfl, Nat.le_of_ble_eq_true rfl⟩ rfl hl.1 (Nat.le_of_ble_eq_true rfl) d_Rd_readElement_68 ⟨Nat.le_of_ble_eq_true rfl, Nat.le_of_ble_eq_true rfl⟩ (fun X ce q9 memx H locs hx9 hP hS g1 g2 g3 => f_out hlocks hno hP hS g1 g2 g3 ⟨Nat.le_of_ble_eq_true rfl, Nat.le_of_ble_eq_true rfl⟩ ⟨hx9.1, Or.inl (fai_str c34 hx9.2 hbd9.2.1)⟩) (fun r17 mem18 H locs hq hP hS => ?_)
    have hD : va_D (Az sz) (fw n ad mem18) := fw_D hD
    obtain ⟨hE9, hq9, hr2, hle9, hRX2, hcl2, ⟨s9, hs0, hs1, hs2, hs3⟩, hfr2⟩ := hq
    subst hr2
    obtain ⟨A2, B2, hrd2, h82⟩ := rds_str (j := 1) (u := u) (nm := nm) c34 hE9 hq9 hLK hF hER hcl2 hs0 hs1 hs2 hs3 (fun k hk => hfr2 (20 + 2 * k) (by omega)) hSa
    exact x_aret hx hb hlocks hr (⟨Ec, _, _, R, Ec + 1, _, A2, B2, nm, to, rfl, by omega, by omega, by omega, by omega, hle9, TOK.of rfl, hRX2, hrd2, h82, (l34 c34).2.2.2⟩) hP hS d_Rd_readElement_71
  by_cases c37 : v16 = 37
  · rw [c37]
    refine lv_lookup (off := 68) (tgt := 72) Bx.1 Bx.2.1 d_Rd_readElement_4 (by decide) (by decide) rfl ?_
    rw [e_v16] at c37
    have hlt37 := hereF_lt (show hereF Z T (a) ≠ -1 by rw [c37]; decide)
    refine lv_aload_n Bx.1 Bx.2.1 d_Rd_readElement_72 rfl (lv_at hl 0 rfl) ?_
    refine f_get Bx hP (by omega) h9_2 rfl inRd 0 (by decide) kw_144 rfl rfl d_Rd_readElement_73 ?_
    refine lv_aload_n Bx.1 Bx.2.1 d_Rd_readElement_76 rfl (lv_at hl 0 rfl) ?_
    refine f_get Bx hP (by omega) h9_2 rfl inRd 2 (by decide) kw_146 rfl rfl d_Rd_readElement_77 ?_
    refine lv_iconst (v := 1) Bx.1 Bx.2.1 d_Rd_readElement_80 (by decide) ?_
    refine lv_iadd Bx.1 Bx.2.1 d_Rd_readElement_81 ?_
    rw [show nI a + 1 = nI (a + 1) from nI_add (a) (1)]
    refine f_callVi (na := 1) (As := [.int (nI (a + 1))]) (rest := []) Bx hml E hP hD hS (by omega) h1_3 rfl (m_Ch_codeAt l (by omega) h1_3 (by omega) h2_4 (by rw [nI_toInt (by omega)]; omega)) kw_341 kw_342 kw_343 kw_2 kw_344 (by decide +kernel) ⟨rfl, rfl⟩ ⟨Nat.le_of_ble_eq_true rfl, Nat.le_of_ble_eq_true rfl⟩ rfl hl.1 (Nat.le_of_ble_eq_true rfl) d_Rd_readElement_82 ⟨Nat.le_of_ble_eq_true rfl, Nat.le_of_ble_eq_true rfl⟩ (fun r19 mem20 H locs hq hP hS => ?_)
    have hD : va_D (Az sz) (fw n ad mem20) := fw_D hD
    obtain ⟨hco21, hqe⟩ := hq
    rw [hqe] at hP hD
    rw [code_here hf hT.2.1 (k := a + 1) (by omega)] at hco21
    subst hco21
    refine f_callSNi (na := 1) (As := [.int (hereF Z T (a + 1))]) (rest := []) Bx hml E.2.1 (m_Ab_smallOfX l (hereF Z T (a + 1))) kw_372 kw_373 kw_1 kw_374 (by decide +kernel) ⟨rfl, rfl⟩ ⟨Nat.le_of_ble_eq_true rfl, Nat.le_of_ble_eq_true rfl⟩ rfl hl.1 (Nat.le_of_ble_eq_true rfl) d_Rd_readElement_85 ⟨Nat.le_of_ble_eq_true rfl, Nat.le_of_ble_eq_true rfl⟩ (fun r23 hs22 => ?_)
    subst hs22
    refine lv_bipush (v := 115) Bx.1 Bx.2.1 d_Rd_readElement_88 (by decide) ?_
    refine lv_icmp_ne Bx.1 Bx.2.1 d_Rd_readElement_90 rfl (fun hb24 => ?_) (fun hb24 => ?_)
    · refine lv_aload_n Bx.1 Bx.2.1 d_Rd_readElement_100 rfl (lv_at hl 0 rfl) ?_
      refine f_xVr (na := 0) (As := []) (rest := []) Bx hml E hP hD hS (by omega) h9_2 rfl (m_Rd_readValueY l hlt hn hT hf hRX (by omega) (u8 := u) (e8 := Ec) (A0 := va_up (elA A Ec 4) 231 (upd (elA A Ec 4 231) Ec (vp_nar .boolean 1))) hSR.1 hSR.2 (by omega) hSa) kw_467 kw_469 sel_Rd_readValue kw_6 kw_470 (by decide +kernel) ⟨rfl, rfl⟩ ⟨Nat.le_of_ble_eq_true rfl, Nat.le_of_ble_eq_true rfl⟩ rfl hl.1 (Nat.le_of_ble_eq_true rfl) d_Rd_readElement_101 ⟨Nat.le_of_ble_eq_true rfl, Nat.le_of_ble_eq_true rfl⟩ (fun X ce q9 memx H locs hx9 hP hS g1 g2 g3 => f_out hlocks hno hP hS g1 g2 g3 ⟨Nat.le_of_ble_eq_true rfl, Nat.le_of_ble_eq_true rfl⟩ ⟨hx9.1, Or.inl (fai_val c37 hb24 hx9.2 hbd9.2.1)⟩) (fun r25 mem26 H locs hq hP hS => ?_)
      have hD : va_D (Az sz) (fw n ad mem26) := fw_D hD
      obtain ⟨hE9, ba, a2, u2, A1, hba, hn9, hr2, x1, x2, hRX2, hsp2, hc2, hfr2⟩ := hq
      subst hr2
      obtain ⟨S2, A2, B2, hrd2, h82⟩ := rds_val (j := 1) (nm := nm) c37 hba hE9 hn9 hsp2 hLK hF hER (fun k hk => hfr2 (20 + 2 * k) (by omega)) hSa x1 hc2
      exact x_aret hx hb hlocks hr (⟨Ec, a2, u2, R, Ec + 1, S2, A2, B2, nm, to, rfl, by omega, by omega, by omega, x1, x2, TOK.of rfl, hRX2, hrd2, h82, (l37 c37).2.2.2.2⟩) hP hS d_Rd_readElement_104
    · refine lv_aload_n Bx.1 Bx.2.1 d_Rd_readElement_93 rfl (lv_at hl 0 rfl) ?_
      refine f_xVr (na := 0) (As := []) (rest := []) Bx hml E hP hD hS (by omega) h9_2 rfl (m_Rd_readExactStringY l hlt hn hT hf hRX (by omega) hSR.1 hSR.2 (by omega) hSa) kw_463 kw_465 sel_Rd_readExactString kw_6 kw_466 (by decide +kernel) ⟨rfl, rfl⟩ ⟨Nat.le_of_ble_eq_true rfl, Nat.le_of_ble_eq_true rfl⟩ rfl hl.1 (Nat.le_of_ble_eq_true rfl) d_Rd_readElement_94 ⟨Nat.le_of_ble_eq_true rfl, Nat.le_of_ble_eq_true rfl⟩ (fun X ce q9 memx H locs hx9 hP hS g1 g2 g3 => f_out hlocks hno hP hS g1 g2 g3 ⟨Nat.le_of_ble_eq_true rfl, Nat.le_of_ble_eq_true rfl⟩ ⟨hx9.1, Or.inl (fai_xst c37 hb24 hx9.2 hbd9.2.1)⟩) (fun r27 mem28 H locs hq hP hS => ?_)
      have hD : va_D (Az sz) (fw n ad mem28) := fw_D hD
      obtain ⟨hq8, hE9, hq9, hr2, hle9, hRX2, hcl2, ⟨s9, hs0, hs1, hs2, hs3⟩, hfr2⟩ := hq
      subst hr2
      obtain ⟨A2, B2, hrd2, h82⟩ := rds_xst (j := 1) (u := u) (nm := nm) c37 hb24 hq8 hE9 hq9 hLK hF hER hcl2 hs0 hs1 hs2 hs3 (fun k hk => hfr2 (20 + 2 * k) (by omega)) hSa
      refine lv_goto Bx.1 Bx.2.1 d_Rd_readElement_97 rfl ?_
      exact x_aret hx hb hlocks hr (⟨Ec, _, _, R, Ec + 1, _, A2, B2, nm, to, rfl, by omega, by omega, by omega, by omega, hle9, TOK.of rfl, hRX2, hrd2, h82, (l37 c37).2.2.2.2⟩) hP hS d_Rd_readElement_104
  by_cases c40 : v16 = 40
  · rw [c40]
    refine lv_lookup (off := 44) (tgt := 48) Bx.1 Bx.2.1 d_Rd_readElement_4 (by decide) (by decide) rfl ?_
    rw [e_v16] at c40
    have hlt40 := hereF_lt (show hereF Z T (a) ≠ -1 by rw [c40]; decide)
    refine lv_aload_n Bx.1 Bx.2.1 d_Rd_readElement_48 rfl (lv_at hl 0 rfl) ?_
    refine lv_iload_n Bx.1 Bx.2.1 d_Rd_readElement_49 rfl (lv_at hl 1 rfl) ?_
    refine lv_bipush (v := 41) Bx.1 Bx.2.1 d_Rd_readElement_50 (by decide) ?_
    refine f_xVr (na := 2) (As := [.int (1), .int (41)]) (rest := []) Bx hml E hP hD hS (by omega) h9_2 rfl (m_Rd_readBracket_1Y l hlt hn hT hf hRX (by omega) (u := u) (A := A) (what := 1) (oe := -1) hER hSR hSa (by omega) (Or.inl ⟨rfl, rfl⟩) hLK) kw_447 kw_449 sel_Rd_readBracket kw_6 kw_450 (by decide +kernel) ⟨rfl, rfl⟩ ⟨Nat.le_of_ble_eq_true rfl, Nat.le_of_ble_eq_true rfl⟩ rfl hl.1 (Nat.le_of_ble_eq_true rfl) d_Rd_readElement_52 ⟨Nat.le_of_ble_eq_true rfl, Nat.le_of_ble_eq_true rfl⟩ (fun X ce q9 memx H locs hx9 hP hS g1 g2 g3 => f_out hlocks hno hP hS g1 g2 g3 ⟨Nat.le_of_ble_eq_true rfl, Nat.le_of_ble_eq_true rfl⟩ ⟨hx9.1, Or.inl (hx9.2.eq (sing_br (l40 c40).1 c40 (by omega)))⟩) (fun r29 mem30 H locs hq hP hS => ?_)
    have hD : va_D (Az sz) (fw n ad mem30) := fw_D hD
    obtain ⟨la31, ax32, ux33, Rx34, Ex35, Sx36, Ax37, Bx_38, nx39, tox40, hr941, h142, h243, h344, h445, htk46, hRX47, ali48, hh49, hent50⟩ := hq
    subst hr941
    have hE9 : Ec < 100 := by have := hRX47.1.1.1; omega
    have hrd9 := brk_rds (nm := nm) hLK hE9 hF hent50 ali48 hh49 ali48.2.1 ali48.2.2.1
    exact x_aret hx hb hlocks hr (⟨Ec, gapF T Z ax32 + 1, ux33, Rx34, Ex35, Sx36, _, _, nx39, tox40, rfl, by omega, by omega, by omega, by have := gapF_ge T Z ax32; omega, by omega, htk46, hRX47, rdsEq hrd9.1 (sing_br (l40 c40).1 c40 (by omega)), hrd9.2, (l40 c40).2⟩) hP hS d_Rd_readElement_55
  by_cases c91 : v16 = 91
  · rw [c91]
    refine lv_lookup (off := 52) (tgt := 56) Bx.1 Bx.2.1 d_Rd_readElement_4 (by decide) (by decide) rfl ?_
    rw [e_v16] at c91
    have hlt91 := hereF_lt (show hereF Z T (a) ≠ -1 by rw [c91]; decide)
    refine lv_aload_n Bx.1 Bx.2.1 d_Rd_readElement_56 rfl (lv_at hl 0 rfl) ?_
    refine lv_iload_n Bx.1 Bx.2.1 d_Rd_readElement_57 rfl (lv_at hl 1 rfl) ?_
    refine f_xVr (na := 1) (As := [.int (1)]) (rest := []) Bx hml E hP hD hS (by omega) h9_2 rfl (m_Rd_readOption_1Y l hlt hn hT hf hRX (by omega) (u := u) (A := A) hER hSR hSa (by omega) hLK hF c91) kw_451 kw_453 sel_Rd_readOption kw_6 kw_454 (by decide +kernel) ⟨rfl, rfl⟩ ⟨Nat.le_of_ble_eq_true rfl, Nat.le_of_ble_eq_true rfl⟩ rfl hl.1 (Nat.le_of_ble_eq_true rfl) d_Rd_readElement_58 ⟨Nat.le_of_ble_eq_true rfl, Nat.le_of_ble_eq_true rfl⟩ (fun X ce q9 memx H locs hx9 hP hS g1 g2 g3 => f_out hlocks hno hP hS g1 g2 g3 ⟨Nat.le_of_ble_eq_true rfl, Nat.le_of_ble_eq_true rfl⟩ ⟨hx9.1, Or.inl hx9.2⟩) (fun r51 mem52 H locs hq hP hS => ?_)
    have hD : va_D (Az sz) (fw n ad mem52) := fw_D hD
    obtain ⟨kx53, ax54, ux55, Rx56, Ex57, Sx58, Ax59, Bx_60, nx61, tox62, hr963, h164, h265, h366, h467, h568, htk69, hRX70, rds71, h872⟩ := hq
    subst hr963
    exact x_aret hx hb hlocks hr (⟨kx53, ax54, ux55, Rx56, Ex57, Sx58, Ax59, Bx_60, nx61, tox62, rfl, h164, h265, h366, h467, h568, htk69, hRX70, rds71, h872, (l91 c91).2⟩) hP hS d_Rd_readElement_61
  refine lv_lookup (off := 101) (tgt := 105) Bx.1 Bx.2.1 d_Rd_readElement_4 (by decide) (by show Op.lookupswitch.offset [(34, 58), (37, 68), (40, 44), (91, 52)] 101 (v16).toInt = 101; rw [lv_osw c34 (by decide), lv_osw c37 (by decide), lv_osw c40 (by decide), lv_osw c91 (by decide)]; rfl) rfl ?_
  rw [e_v16] at c40 c91 c34 c37
  refine lv_aload_n Bx.1 Bx.2.1 d_Rd_readElement_105 rfl (lv_at hl 0 rfl) ?_
  refine f_xVr (na := 0) (As := []) (rest := []) Bx hml E hP hD hS (by omega) h9_2 rfl (m_Rd_readAskedNameY l hlt hn hT hf hRX (by omega) (A := A) (by omega)) kw_478 kw_480 sel_Rd_readAskedName kw_6 kw_481 (by decide +kernel) ⟨rfl, rfl⟩ ⟨Nat.le_of_ble_eq_true rfl, Nat.le_of_ble_eq_true rfl⟩ rfl hl.1 (Nat.le_of_ble_eq_true rfl) d_Rd_readElement_106 ⟨Nat.le_of_ble_eq_true rfl, Nat.le_of_ble_eq_true rfl⟩ (fun X ce q9 memx H locs hx9 hP hS g1 g2 g3 => f_out hlocks hno hP hS g1 g2 g3 ⟨Nat.le_of_ble_eq_true rfl, Nat.le_of_ble_eq_true rfl⟩ ⟨hx9.1, fai_nam c40 c91 c34 c37 hx9.2⟩) (fun r73 mem74 H locs hq hP hS => ?_)
  have hD : va_D (Az sz) (fw n ad mem74) := fw_D hD
  obtain ⟨i9, a2, R2, A3, n2, hsn, hle, hE9, hr2, x1, x2, x3, hA3, htk, ⟨t2, htk2, hRX2⟩, hi9, hcl2, hfr2⟩ := hq
  subst hr2
  have hR12 := hRX2.1.1.1.1
  obtain ⟨A2, B2, hrd2, h82⟩ := rds_nam (j := 1) (u := u) hle hsn hE9 hA3 htk x1 hi9 hR12 hLK hF hER ⟨(hfr2 220 (by omega)).trans hSR.1, (hfr2 221 (by omega)).trans hSR.2⟩ hcl2 (fun k hk => hfr2 (20 + 2 * k) (by omega)) (by omega)
  exact x_aret hx hb hlocks hr (⟨Ec, a2, u, R2, Ec + 1, S, A2, B2, n2, t2, rfl, by omega, by omega, x1, x2, x3, htk2, hRX2, hrd2, h82, lt_ok hle⟩) hP hS d_Rd_readElement_109
set_option maxHeartbeats 4000000 in
set_option maxRecDepth 100000 in
theorem m_Rd_readRepetition_1Y (l : Launch) {D : va_G} {cy : Nat → ClassId} {sz n : Nat} {ad : Nat → Nat} {mem : Nat → va_E} {Z a R Ec lim : Nat} {f T : Nat → Int32} {to : Nat → Int32} {nm : Nat → Int64} {m0 : Nat → va_E} {u S : Nat} {A Bw : Ro} (hlt : l.stackTraces = false) (hn : 224 ≤ n) (hT : TX cy ad Z f m0) (hf : ∀ k, k < Z → f k = T k) (hRX : RX cy ad lim a R Ec to nm m0 mem) (haB : a ≤ 300) (hER : ER ad R Ec Bw mem) (hSR : SR cy ad S Bw mem) (hSa : S ≤ a) (haZ : a ≤ Z) (hLK : LKa Ec A) (hF : FRM A 1 Ec) (h39 : A 239 1 = -1) (hbg : bgF (hereF Z T a) = true) : NXr l D cy sz n ad y_Rd_readRepetition c_Rd_readRepetition 3 (some (.object "AbnfChart$Element")) ({ frames := 47, cells := 1, slots := 6, locals := 1138 } : Room) mem [.ref (ad 222), .int (1)] (fun r mem' => ∃ (k' a' u' R' E' S' : Nat) (A' Bw' : Ro) (nm' : Nat → Int64) (to' : Nat → Int32), r = ad (20 + 2 * k') ∧ Ec ≤ k' ∧ k' < E' ∧ R ≤ R' ∧ a < a' ∧ a' ≤ Z ∧ TOK R R' to to' ∧ RX cy ad lim a' R' E' to' nm' m0 mem' ∧ RDS cy ad T Z 1 (repS T Z a u R Ec 1 A nm) (PSf A 1) R Ec S u A Bw k' a' u' R' E' S' A' Bw' nm' mem' ∧ A' 238 1 = A 238 1) (fun X mem' => ((X = cIA ∨ X = cIS) ∧ ∃ rc' ec' : Nat, RS cy ad lim rc' ec' m0 mem') ∧ (Fai T Z (repS T Z a u R Ec 1 A nm))) := by
  refine vx_ofW (cc := c_Rd_readRepetition) (maxL := 3) (ret := (some (.object "AbnfChart$Element"))) (by decide) rfl ?_
  intro p e s m args below meth c s₁ B hml hno hv
  obtain ⟨rfl, E, hP, hD⟩ := hv
  have hx := B.exec
  have hb := B.bytes
  have hr := B.returns
  have hlocks := B.notSynchronized
  have Bx : MB p s m [.ref (ad 222), .int (1)].toArray c c_Rd_readRepetition "AbnfChart$Reader" D cy := ⟨hx, hb, tb_all (atoms_spec B.pre) E.2.1, findClass_of_methodNamed B.named, E.1⟩
  have hS : va_S (Az sz) s.heap s.heap [] := va_S.rf
  have hl := lv_entry ([.ref (ad 222), .int (1)]) (n := 3) (Nat.le_of_ble_eq_true rfl)
  rw [lg_entry_eq]
  generalize (lg_sl ([.ref (ad 222), .int (1)]) ++ List.replicate (3 - (lg_sl ([.ref (ad 222), .int (1)])).length) Slot.unset).toArray = ls at hl ⊢
  have hl : lv_has ls 3 [(0, .ref (ad 222)), (1, .int (1))] := hl
  have hZ9 := hT.2.1
  have hbd9 := hRX.1.1.1
  have hfr0 : ∀ i, 19 ≤ i ∧ i < 222 ∧ i ≠ 20 + 2 * Ec → mem i = mem i := fun _ _ => rfl
  obtain ⟨ft1, h9_2⟩ := hRX.2.1
  have h1_3 : mem 1 = .inr (0, [.ref (ad 2), .int (nI Z)]) := (hRX.1.2.2 1 (by omega)).trans hT.1
  have h2_4 : mem 2 = .inl (cy 0, 240, .inl f) := (hRX.1.2.2 2 (by omega)).trans hT.2.2
  have h5_5 := hRX.1.1.2.1
  have hbd11 := hRX.1.1.1
  obtain ⟨S6, g7, hS_8, h220_9, h221_10⟩ := hRX.1.1.2.2.2.2.2.2
  refine lv_aload_n Bx.1 Bx.2.1 d_Rd_readRepetition_0 rfl (lv_at hl 0 rfl) ?_
  refine f_callVi (na := 0) (As := []) (rest := []) Bx hml E hP hD hS (by omega) h9_2 rfl (m_Rd_peekX l hn hT hf hRX (by omega)) kw_353 kw_355 sel_Rd_peek kw_6 kw_356 (by decide +kernel) ⟨rfl, rfl⟩ ⟨Nat.le_of_ble_eq_true rfl, Nat.le_of_ble_eq_true rfl⟩ rfl hl.1 (Nat.le_of_ble_eq_true rfl) d_Rd_readRepetition_1 ⟨Nat.le_of_ble_eq_true rfl, Nat.le_of_ble_eq_true rfl⟩ (fun r13 mem14 H locs hq hP hS => ?_)
  have hD : va_D (Az sz) (fw n ad mem14) := fw_D hD
  obtain ⟨hqe, hpk12⟩ := hq
  rw [hqe] at hP hD
  subst hpk12
  refine f_callSi (na := 1) (As := [.int (hereF Z T (a))]) (rest := []) Bx hml E.2.1 (m_Rd_beginsRepeatX l (hereF Z T (a))) kw_416 kw_417 kw_6 kw_418 (by decide +kernel) ⟨rfl, rfl⟩ ⟨Nat.le_of_ble_eq_true rfl, Nat.le_of_ble_eq_true rfl⟩ rfl hl.1 (Nat.le_of_ble_eq_true rfl) d_Rd_readRepetition_4 ⟨Nat.le_of_ble_eq_true rfl, Nat.le_of_ble_eq_true rfl⟩ (fun r17 hs16 => ?_)
  subst hs16
  refine lv_if_ne Bx.1 Bx.2.1 d_Rd_readRepetition_7 rfl (fun hb18 => ?_) (fun hb18 => ?_)
  · refine lv_aload_n Bx.1 Bx.2.1 d_Rd_readRepetition_16 rfl (lv_at hl 0 rfl) ?_
    refine lv_iconst (v := 2) Bx.1 Bx.2.1 d_Rd_readRepetition_17 (by decide) ?_
    refine lv_aload_n Bx.1 Bx.2.1 d_Rd_readRepetition_18 rfl (lv_at hl 0 rfl) ?_
    refine f_get Bx hP (by omega) h9_2 rfl inRd 2 (by decide) kw_146 rfl rfl d_Rd_readRepetition_19 ?_
    refine f_xVr (na := 2) (As := [.int (2), .int (nI a)]) (rest := []) Bx hml E hP hD hS (by omega) h9_2 rfl (m_Rd_addElementY l hlt hn hT hf hRX (by omega)) kw_419 kw_421 sel_Rd_addElement kw_6 kw_422 (by decide +kernel) ⟨rfl, rfl⟩ ⟨Nat.le_of_ble_eq_true rfl, Nat.le_of_ble_eq_true rfl⟩ rfl hl.1 (Nat.le_of_ble_eq_true rfl) d_Rd_readRepetition_22 ⟨Nat.le_of_ble_eq_true rfl, Nat.le_of_ble_eq_true rfl⟩ (fun X ce q9 memx H locs hx9 hP hS g1 g2 g3 => f_out hlocks hno hP hS g1 g2 g3 ⟨Nat.le_of_ble_eq_true rfl, Nat.le_of_ble_eq_true rfl⟩ ⟨hx9.1, Or.inl (rep_E (bpF_1 hb18) hx9.2)⟩) (fun r19 mem20 H locs hq hP hS => ?_)
    have hD : va_D (Az sz) (fw n ad mem20) := fw_D hD
    obtain ⟨hr921, hec22, hRX23, hcl24, hfa25⟩ := hq
    subst hr921
    have hfr26 : ∀ i, 19 ≤ i ∧ i < 222 ∧ i ≠ 20 + 2 * Ec → mem20 i = mem i := fun i q => (hfa25 i (by omega)).trans (hfr0 i q)
    obtain ⟨ft27, h9_28⟩ := hRX23.2.1
    have h1_29 : mem20 1 = .inr (0, [.ref (ad 2), .int (nI Z)]) := (hRX23.1.2.2 1 (by omega)).trans hT.1
    have h2_30 : mem20 2 = .inl (cy 0, 240, .inl f) := (hRX23.1.2.2 2 (by omega)).trans hT.2.2
    have h5_31 := hRX23.1.1.2.1
    have hbd37 := hRX23.1.1.1
    obtain ⟨S32, g33, hS_34, h220_35, h221_36⟩ := hRX23.1.1.2.2.2.2.2.2
    obtain ⟨ft38, h9_39⟩ := hRX23.2.1
    have h1_40 : mem20 1 = .inr (0, [.ref (ad 2), .int (nI Z)]) := (hRX23.1.2.2 1 (by omega)).trans hT.1
    have h2_41 : mem20 2 = .inl (cy 0, 240, .inl f) := (hRX23.1.2.2 2 (by omega)).trans hT.2.2
    have h5_42 := hRX23.1.1.2.1
    have hbd48 := hRX23.1.1.1
    obtain ⟨S43, g44, hS_45, h220_46, h221_47⟩ := hRX23.1.1.2.2.2.2.2.2
    refine lv_astore_n (lv' := [(2, .ref (ad (20 + 2 * Ec))), (0, .ref (ad 222)), (1, .int (1))]) Bx.1 Bx.2.1 d_Rd_readRepetition_25 rfl hl (by decide) rfl (fun ls hl => ?_)
    refine lv_aload_n Bx.1 Bx.2.1 d_Rd_readRepetition_26 rfl (lv_at hl 1 rfl) ?_
    refine lv_aload_n Bx.1 Bx.2.1 d_Rd_readRepetition_27 rfl (lv_at hl 0 rfl) ?_
    have hdg := bpF_1 hb18
    have hE9 := hec22
    refine f_xVv (na := 1) (As := [.ref (ad (20 + 2 * Ec))]) (rest := []) Bx hml E hP hD hS (by omega) h9_39 rfl (m_Rd_readRepeatY l hlt hn hT hf hRX23 (by omega) (by omega) hcl24 (by omega) hdg) kw_482 kw_484 sel_Rd_readRepeat kw_6 kw_485 (by decide +kernel) ⟨rfl, rfl⟩ ⟨Nat.le_of_ble_eq_true rfl, Nat.le_of_ble_eq_true rfl⟩ rfl hl.1 (Nat.le_of_ble_eq_true rfl) d_Rd_readRepetition_28 ⟨Nat.le_of_ble_eq_true rfl, Nat.le_of_ble_eq_true rfl⟩ (fun X ce q9 memx H locs hx9 hP hS g1 g2 g3 => f_out hlocks hno hP hS g1 g2 g3 ⟨Nat.le_of_ble_eq_true rfl, Nat.le_of_ble_eq_true rfl⟩ ⟨hx9.1, hx9.2.elim (fun v1 z => z.elim (fun b1 z => z.elim (fun v2 z => z.elim (fun b2 z => Or.inl (rep_bad hdg hE9 z.1 z.2.1 (Or.inl z.2.2))))))⟩) (fun mem50 H locs hq hP hS => ?_)
    have hD : va_D (Az sz) (fw n ad mem50) := fw_D hD
    obtain ⟨v1, b1, v2, b2, hr1, hr2, hnv, hb8, hb9, hRXr, hclr, hfar⟩ := hq
    have hfr51 : ∀ i, 19 ≤ i ∧ i < 222 ∧ i ≠ 20 + 2 * Ec → mem50 i = mem i := fun i q => (hfar i (by omega)).trans (hfr26 i q)
    obtain ⟨ft52, h9_53⟩ := hRXr.2.1
    have h1_54 : mem50 1 = .inr (0, [.ref (ad 2), .int (nI Z)]) := (hRXr.1.2.2 1 (by omega)).trans hT.1
    have h2_55 : mem50 2 = .inl (cy 0, 240, .inl f) := (hRXr.1.2.2 2 (by omega)).trans hT.2.2
    have h5_56 := hRXr.1.1.2.1
    have hbd62 := hRXr.1.1.1
    obtain ⟨S57, g58, hS_59, h220_60, h221_61⟩ := hRXr.1.1.2.2.2.2.2.2
    obtain ⟨ft63, h9_64⟩ := hRXr.2.1
    have h1_65 : mem50 1 = .inr (0, [.ref (ad 2), .int (nI Z)]) := (hRXr.1.2.2 1 (by omega)).trans hT.1
    have h2_66 : mem50 2 = .inl (cy 0, 240, .inl f) := (hRXr.1.2.2 2 (by omega)).trans hT.2.2
    have h5_67 := hRXr.1.1.2.1
    have hbd73 := hRXr.1.1.1
    obtain ⟨S68, g69, hS_70, h220_71, h221_72⟩ := hRXr.1.1.2.2.2.2.2.2
    refine lv_aload_n Bx.1 Bx.2.1 d_Rd_readRepetition_31 rfl (lv_at hl 0 rfl) ?_
    refine lv_aload_n Bx.1 Bx.2.1 d_Rd_readRepetition_32 rfl (lv_at hl 1 rfl) ?_
    refine lv_iload_n Bx.1 Bx.2.1 d_Rd_readRepetition_33 rfl (lv_at hl 2 rfl) ?_
    have her74 : ER ad R (Ec + 1) (bwN Bw Ec 2 (v1) (v2) (-1) (-1) (-1) (Bw 234)) mem50 := hER.new (Nat.le_refl _) (by rw [vR_m]; exact hclr) (Or.inl rfl) (fun i9 hi9 => hfr51 (20 + 2 * i9) (by omega))
    have hsr75 : SR cy ad S (bwN Bw Ec 2 (v1) (v2) (-1) (-1) (-1) (Bw 234)) mem50 := ⟨(hfr51 220 (by omega)).trans hSR.1, (hfr51 221 (by omega)).trans hSR.2⟩
    obtain ⟨hLK1, hF1⟩ := frm_rep (v1 := v1) (v2 := v2) hLK hE9 hF h39
    refine f_xVr (na := 1) (As := [.int (1)]) (rest := [.ref (ad (20 + 2 * Ec))]) Bx hml E hP hD hS (by omega) h9_64 rfl (m_Rd_readElement_1Y l hlt hn hT hf hRXr (by omega) (u := u) (A := repB A 1 Ec v1 v2) her74 hsr75 (by omega) (by omega) hLK1 hF1) kw_443 kw_445 sel_Rd_readElement kw_6 kw_446 (by decide +kernel) ⟨rfl, rfl⟩ ⟨Nat.le_of_ble_eq_true rfl, Nat.le_of_ble_eq_true rfl⟩ rfl hl.1 (Nat.le_of_ble_eq_true rfl) d_Rd_readRepetition_34 ⟨Nat.le_of_ble_eq_true rfl, Nat.le_of_ble_eq_true rfl⟩ (fun X ce q9 memx H locs hx9 hP hS g1 g2 g3 => f_out hlocks hno hP hS g1 g2 g3 ⟨Nat.le_of_ble_eq_true rfl, Nat.le_of_ble_eq_true rfl⟩ ⟨hx9.1, rep_fai hdg hE9 hr1 hr2 hnv hx9.2⟩) (fun r76 mem77 H locs hq hP hS => ?_)
    have hD : va_D (Az sz) (fw n ad mem77) := fw_D hD
    obtain ⟨kx78, ax79, ux80, Rx81, Ex82, Sx83, Ax84, Bx_85, nx86, tox87, hr988, h189, h290, h391, h492, h593, htk94, hRX95, rds96, h897, hok98⟩ := hq
    subst hr988
    obtain ⟨ft99, h9_100⟩ := hRX95.2.1
    have h1_101 : mem77 1 = .inr (0, [.ref (ad 2), .int (nI Z)]) := (hRX95.1.2.2 1 (by omega)).trans hT.1
    have h2_102 : mem77 2 = .inl (cy 0, 240, .inl f) := (hRX95.1.2.2 2 (by omega)).trans hT.2.2
    have h5_103 := hRX95.1.1.2.1
    have hbd109 := hRX95.1.1.1
    obtain ⟨S104, g105, hS_106, h220_107, h221_108⟩ := hRX95.1.1.2.2.2.2.2.2
    have hbd110 := hRX95.1.1.1
    have hce111 := (rds96.2.1 Ec (by omega)).1
    refine f_putN Bx hP hD hS (by omega) hce111 rfl inEl tyEl okEl nmEl 4 (by decide) kw_87 rfl rfl rfl rfl (Nat.le_of_ble_eq_true rfl) d_Rd_readRepetition_37 (fun H locs hP hS => ?_)
    obtain ⟨mem112, e_mem112⟩ : ∃ z, z = va_up mem77 ((20 + 2 * Ec)) (.inr (2, [.int (Bx_85 228 Ec), .int (Bx_85 229 Ec), .int (Bx_85 230 Ec), vR ad (Bx_85 231 Ec), .ref (ad (20 + 2 * kx78)), vE ad (Bx_85 233 Ec), .ref (ad (21 + 2 * Ec))])) := ⟨_, rfl⟩
    have hP : va_P D vcl (fw n ad mem112) H := by rw [e_mem112]; exact hP
    have hD : va_D (Az sz) (fw n ad mem112) := fw_D hD
    have h_mem112 : mem112 ((20 + 2 * Ec)) = .inr (2, [.int (Bx_85 228 Ec), .int (Bx_85 229 Ec), .int (Bx_85 230 Ec), vR ad (Bx_85 231 Ec), .ref (ad (20 + 2 * kx78)), vE ad (Bx_85 233 Ec), .ref (ad (21 + 2 * Ec))]) := by rw [e_mem112, va_up_self]
    have hh113 := (va_up_ne mem77 (.inr (2, [.int (Bx_85 228 Ec), .int (Bx_85 229 Ec), .int (Bx_85 230 Ec), vR ad (Bx_85 231 Ec), .ref (ad (20 + 2 * kx78)), vE ad (Bx_85 233 Ec), .ref (ad (21 + 2 * Ec))])) (show (222 : Nat) ≠ (20 + 2 * Ec) by first | decide | assumption | omega)).trans h9_100
    rw [← e_mem112] at hh113
    have hh114 := (va_up_ne mem77 (.inr (2, [.int (Bx_85 228 Ec), .int (Bx_85 229 Ec), .int (Bx_85 230 Ec), vR ad (Bx_85 231 Ec), .ref (ad (20 + 2 * kx78)), vE ad (Bx_85 233 Ec), .ref (ad (21 + 2 * Ec))])) (show (1 : Nat) ≠ (20 + 2 * Ec) by first | decide | assumption | omega)).trans h1_101
    rw [← e_mem112] at hh114
    have hh115 := (va_up_ne mem77 (.inr (2, [.int (Bx_85 228 Ec), .int (Bx_85 229 Ec), .int (Bx_85 230 Ec), vR ad (Bx_85 231 Ec), .ref (ad (20 + 2 * kx78)), vE ad (Bx_85 233 Ec), .ref (ad (21 + 2 * Ec))])) (show (5 : Nat) ≠ (20 + 2 * Ec) by first | decide | assumption | omega)).trans h5_103
    rw [← e_mem112] at hh115
    have hh116 := (va_up_ne mem77 (.inr (2, [.int (Bx_85 228 Ec), .int (Bx_85 229 Ec), .int (Bx_85 230 Ec), vR ad (Bx_85 231 Ec), .ref (ad (20 + 2 * kx78)), vE ad (Bx_85 233 Ec), .ref (ad (21 + 2 * Ec))])) (show (220 : Nat) ≠ (20 + 2 * Ec) by first | decide | assumption | omega)).trans h220_107
    rw [← e_mem112] at hh116
    have hRX117 : RX cy ad lim (ax79) (Rx81) (Ex82) (tox87) (nx86) m0 mem112 := by rw [e_mem112]; exact hRX95.el (by omega) (hRX95.1.mk (by omega) (hRX95.1.1.upEl (by omega) (fun _ => ⟨(rds96.2.1 Ec (by omega)).2.1.oR ad, Or.inr ⟨kx78, by omega, by omega, rfl⟩, (rds96.2.1 Ec (by omega)).2.2.2.oE ad (by omega)⟩)))
    have her118 : ER ad (Rx81) (Ex82) (va_up Bx_85 232 (upd (Bx_85 232) Ec (nI kx78))) mem112 := rds96.2.1.part (by omega) (by omega) (by omega) h_mem112 (fun i9 q9 hi9 => by rw [e_mem112]; exact va_up_ne _ _ (by omega))
    have hsr119 : SR cy ad (Sx83) (Bx_85) mem112 := ⟨(show mem112 220 = mem77 220 by rw [e_mem112]; exact va_up_ne _ _ (by omega)).trans rds96.2.2.1.1, (show mem112 221 = mem77 221 by rw [e_mem112]; exact va_up_ne _ _ (by omega)).trans rds96.2.2.1.2⟩
    obtain ⟨ft120, h9_121⟩ := hRX117.2.1
    have h1_122 : mem112 1 = .inr (0, [.ref (ad 2), .int (nI Z)]) := (hRX117.1.2.2 1 (by omega)).trans hT.1
    have h2_123 : mem112 2 = .inl (cy 0, 240, .inl f) := (hRX117.1.2.2 2 (by omega)).trans hT.2.2
    have h5_124 := hRX117.1.1.2.1
    have hbd130 := hRX117.1.1.1
    obtain ⟨S125, g126, hS_127, h220_128, h221_129⟩ := hRX117.1.1.2.2.2.2.2.2
    refine lv_aload_n Bx.1 Bx.2.1 d_Rd_readRepetition_40 rfl (lv_at hl 0 rfl) ?_
    have hrd9 := rep_rds hLK hE9 hF h39 rds96 h897 ⟨by omega, by omega⟩ (rep_suc (u := u) (R := R) (f := 1) (A := A) (nm := nm) hdg hE9 hr1 hr2 hnv hok98) her118 hsr119
    exact x_aret hx hb hlocks hr (⟨Ec, ax79, ux80, Rx81, Ex82, Sx83, _, _, nx86, tox87, rfl, by omega, by omega, by omega, by omega, by omega, htk94, hRX117, hrd9.1, hrd9.2⟩) hP hS d_Rd_readRepetition_41
  · refine lv_aload_n Bx.1 Bx.2.1 d_Rd_readRepetition_10 rfl (lv_at hl 0 rfl) ?_
    refine lv_iload_n Bx.1 Bx.2.1 d_Rd_readRepetition_11 rfl (lv_at hl 1 rfl) ?_
    obtain ⟨hd0, h42⟩ := bpF_0 hb18
    refine f_xVr (na := 1) (As := [.int (1)]) (rest := []) Bx hml E hP hD hS (by omega) h9_2 rfl (m_Rd_readElement_1Y l hlt hn hT hf hRX (by omega) (u := u) (A := A) hER hSR hSa (by omega) hLK hF) kw_443 kw_445 sel_Rd_readElement kw_6 kw_446 (by decide +kernel) ⟨rfl, rfl⟩ ⟨Nat.le_of_ble_eq_true rfl, Nat.le_of_ble_eq_true rfl⟩ rfl hl.1 (Nat.le_of_ble_eq_true rfl) d_Rd_readRepetition_12 ⟨Nat.le_of_ble_eq_true rfl, Nat.le_of_ble_eq_true rfl⟩ (fun X ce q9 memx H locs hx9 hP hS g1 g2 g3 => f_out hlocks hno hP hS g1 g2 g3 ⟨Nat.le_of_ble_eq_true rfl, Nat.le_of_ble_eq_true rfl⟩ ⟨hx9.1, (hx9.2.resolve_right (fun z => z ⟨hbg, hd0, h42⟩)).eq (rep_no hd0 h42)⟩) (fun r131 mem132 H locs hq hP hS => ?_)
    have hD : va_D (Az sz) (fw n ad mem132) := fw_D hD
    obtain ⟨kx133, ax134, ux135, Rx136, Ex137, Sx138, Ax139, Bx_140, nx141, tox142, hr9143, h1144, h2145, h3146, h4147, h5148, htk149, hRX150, rds151, h8152, hok153⟩ := hq
    subst hr9143
    obtain ⟨ft154, h9_155⟩ := hRX150.2.1
    have h1_156 : mem132 1 = .inr (0, [.ref (ad 2), .int (nI Z)]) := (hRX150.1.2.2 1 (by omega)).trans hT.1
    have h2_157 : mem132 2 = .inl (cy 0, 240, .inl f) := (hRX150.1.2.2 2 (by omega)).trans hT.2.2
    have h5_158 := hRX150.1.1.2.1
    have hbd164 := hRX150.1.1.1
    obtain ⟨S159, g160, hS_161, h220_162, h221_163⟩ := hRX150.1.1.2.2.2.2.2.2
    have hbd165 := hRX150.1.1.1
    exact x_aret hx hb hlocks hr (⟨kx133, ax134, ux135, Rx136, Ex137, Sx138, Ax139, Bx_140, nx141, tox142, rfl, h1144, h2145, h3146, h4147, h5148, htk149, hRX150, rdsEq rds151 (rep_no hd0 h42), h8152⟩) hP hS d_Rd_readRepetition_15
set_option maxHeartbeats 4000000 in
set_option maxRecDepth 100000 in
theorem m_Rd_readSequence_1Y (l : Launch) {D : va_G} {cy : Nat → ClassId} {sz n : Nat} {ad : Nat → Nat} {mem : Nat → va_E} {Z a R Ec lim : Nat} {f T : Nat → Int32} {to : Nat → Int32} {nm : Nat → Int64} {m0 : Nat → va_E} {u S : Nat} {A Bw : Ro} {cq : Nat} (hlt : l.stackTraces = false) (hn : 224 ≤ n) (hT : TX cy ad Z f m0) (hf : ∀ k, k < Z → f k = T k) (hRX : RX cy ad lim a R Ec to nm m0 mem) (haB : a ≤ 300) (hER : ER ad R Ec Bw mem) (hSR : SR cy ad S Bw mem) (hSa : S ≤ a) (haZ : a ≤ Z) (hLK : LKa Ec A) (hc : A 237 1 = nI cq) (hcl : cq < Ec) (h39 : A 239 1 = -1) : NXr l D cy sz n ad y_Rd_readSequence c_Rd_readSequence 5 (some (.object "AbnfChart$Element")) ({ frames := 48, cells := 1, slots := 6, locals := 1162 } : Room) mem [.ref (ad 222), .int (1)] (fun r mem' => ∃ (a' u' R' E' S' : Nat) (A' Bw' : Ro) (nm' : Nat → Int64) (to' : Nat → Int32), r = ad (20 + 2 * Ec) ∧ Ec < E' ∧ R ≤ R' ∧ a < a' ∧ a' ≤ Z ∧ TOK R R' to to' ∧ RX cy ad lim (gapF T Z a') R' E' to' nm' m0 mem' ∧ RDS cy ad T Z 1 (seqS T Z a u R Ec 1 A nm) (slotOf A cq) R Ec S u A Bw Ec a' u' R' E' S' A' Bw' nm' mem' ∧ ¬ (bgF (hereF Z T (gapF T Z a')) = true ∧ a' < gapF T Z a')) (fun X mem' => ((X = cIA ∨ X = cIS) ∧ ∃ rc' ec' : Nat, RS cy ad lim rc' ec' m0 mem') ∧ (Fai T Z (seqS T Z a u R Ec 1 A nm))) := by
  refine vx_ofW (cc := c_Rd_readSequence) (maxL := 5) (ret := (some (.object "AbnfChart$Element"))) (by decide) rfl ?_
  intro p e s m args below meth c s₁ B hml hno hv
  obtain ⟨rfl, E, hP, hD⟩ := hv
  have hx := B.exec
  have hb := B.bytes
  have hr := B.returns
  have hlocks := B.notSynchronized
  have Bx : MB p s m [.ref (ad 222), .int (1)].toArray c c_Rd_readSequence "AbnfChart$Reader" D cy := ⟨hx, hb, tb_all (atoms_spec B.pre) E.2.1, findClass_of_methodNamed B.named, E.1⟩
  have hS : va_S (Az sz) s.heap s.heap [] := va_S.rf
  have hl := lv_entry ([.ref (ad 222), .int (1)]) (n := 5) (Nat.le_of_ble_eq_true rfl)
  rw [lg_entry_eq]
  generalize (lg_sl ([.ref (ad 222), .int (1)]) ++ List.replicate (5 - (lg_sl ([.ref (ad 222), .int (1)])).length) Slot.unset).toArray = ls at hl ⊢
  have hl : lv_has ls 5 [(0, .ref (ad 222)), (1, .int (1))] := hl
  have hZ9 := hT.2.1
  have hbd9 := hRX.1.1.1
  have hfr0 : ∀ i, 19 ≤ i ∧ i < 222 ∧ i ≠ 20 + 2 * Ec → mem i = mem i := fun _ _ => rfl
  obtain ⟨ft1, h9_2⟩ := hRX.2.1
  have h1_3 : mem 1 = .inr (0, [.ref (ad 2), .int (nI Z)]) := (hRX.1.2.2 1 (by omega)).trans hT.1
  have h2_4 : mem 2 = .inl (cy 0, 240, .inl f) := (hRX.1.2.2 2 (by omega)).trans hT.2.2
  have h5_5 := hRX.1.1.2.1
  have hbd11 := hRX.1.1.1
  obtain ⟨S6, g7, hS_8, h220_9, h221_10⟩ := hRX.1.1.2.2.2.2.2.2
  refine lv_aload_n Bx.1 Bx.2.1 d_Rd_readSequence_0 rfl (lv_at hl 0 rfl) ?_
  refine lv_iconst (v := 1) Bx.1 Bx.2.1 d_Rd_readSequence_1 (by decide) ?_
  refine f_xVr (na := 1) (As := [.int (1)]) (rest := []) Bx hml E hP hD hS (by omega) h9_2 rfl (m_Rd_beginRowY l hlt hn hT hf hRX (by omega)) kw_409 kw_411 sel_Rd_beginRow kw_6 kw_412 (by decide +kernel) ⟨rfl, rfl⟩ ⟨Nat.le_of_ble_eq_true rfl, Nat.le_of_ble_eq_true rfl⟩ rfl hl.1 (Nat.le_of_ble_eq_true rfl) d_Rd_readSequence_2 ⟨Nat.le_of_ble_eq_true rfl, Nat.le_of_ble_eq_true rfl⟩ (fun X ce q9 memx H locs hx9 hP hS g1 g2 g3 => f_out hlocks hno hP hS g1 g2 g3 ⟨Nat.le_of_ble_eq_true rfl, Nat.le_of_ble_eq_true rfl⟩ ⟨hx9.1, Or.inl (seq_no hx9.2)⟩) (fun r12 mem13 H locs hq hP hS => ?_)
  have hD : va_D (Az sz) (fw n ad mem13) := fw_D hD
  obtain ⟨hbg, hE9, hr9, hRXb, hclb, hfab⟩ := hq
  subst hr9
  have hfr14 : ∀ i, 19 ≤ i ∧ i < 222 ∧ i ≠ 20 + 2 * Ec → mem13 i = mem i := fun i q => (hfab i (by omega)).trans (hfr0 i q)
  obtain ⟨ft15, h9_16⟩ := hRXb.2.1
  have h1_17 : mem13 1 = .inr (0, [.ref (ad 2), .int (nI Z)]) := (hRXb.1.2.2 1 (by omega)).trans hT.1
  have h2_18 : mem13 2 = .inl (cy 0, 240, .inl f) := (hRXb.1.2.2 2 (by omega)).trans hT.2.2
  have h5_19 := hRXb.1.1.2.1
  have hbd25 := hRXb.1.1.1
  obtain ⟨S20, g21, hS_22, h220_23, h221_24⟩ := hRXb.1.1.2.2.2.2.2.2
  obtain ⟨ft26, h9_27⟩ := hRXb.2.1
  have h1_28 : mem13 1 = .inr (0, [.ref (ad 2), .int (nI Z)]) := (hRXb.1.2.2 1 (by omega)).trans hT.1
  have h2_29 : mem13 2 = .inl (cy 0, 240, .inl f) := (hRXb.1.2.2 2 (by omega)).trans hT.2.2
  have h5_30 := hRXb.1.1.2.1
  have hbd36 := hRXb.1.1.1
  obtain ⟨S31, g32, hS_33, h220_34, h221_35⟩ := hRXb.1.1.2.2.2.2.2.2
  refine lv_astore_n (lv' := [(2, .ref (ad (20 + 2 * Ec))), (0, .ref (ad 222)), (1, .int (1))]) Bx.1 Bx.2.1 d_Rd_readSequence_5 rfl hl (by decide) rfl (fun ls hl => ?_)
  refine lv_aload_n Bx.1 Bx.2.1 d_Rd_readSequence_6 rfl (lv_at hl 1 rfl) ?_
  refine lv_iload_n Bx.1 Bx.2.1 d_Rd_readSequence_7 rfl (lv_at hl 2 rfl) ?_
  have her37 : ER ad R (Ec + 1) (bwN Bw Ec 1 (0) (0) (-1) (-1) (-1) (Bw 234)) mem13 := hER.new (Nat.le_refl _) (by rw [vR_m]; exact hclb) (Or.inl rfl) (fun i9 hi9 => hfr14 (20 + 2 * i9) (by omega))
  have hsr38 : SR cy ad S (bwN Bw Ec 1 (0) (0) (-1) (-1) (-1) (Bw 234)) mem13 := ⟨(hfr14 220 (by omega)).trans hSR.1, (hfr14 221 (by omega)).trans hSR.2⟩
  obtain ⟨hLK1, hF1, h391⟩ := frm_seq hLK hE9 hc hcl h39
  refine f_xVr (na := 1) (As := [.int (1)]) (rest := []) Bx hml E hP hD hS (by omega) h9_27 rfl (m_Rd_readRepetition_1Y l hlt hn hT hf hRXb (by omega) (u := u) (A := seqA A 1 Ec) her37 hsr38 (by omega) (by omega) hLK1 hF1 h391 hbg) kw_439 kw_441 sel_Rd_readRepetition kw_6 kw_442 (by decide +kernel) ⟨rfl, rfl⟩ ⟨Nat.le_of_ble_eq_true rfl, Nat.le_of_ble_eq_true rfl⟩ rfl hl.1 (Nat.le_of_ble_eq_true rfl) d_Rd_readSequence_8 ⟨Nat.le_of_ble_eq_true rfl, Nat.le_of_ble_eq_true rfl⟩ (fun X ce q9 memx H locs hx9 hP hS g1 g2 g3 => f_out hlocks hno hP hS g1 g2 g3 ⟨Nat.le_of_ble_eq_true rfl, Nat.le_of_ble_eq_true rfl⟩ ⟨hx9.1, hx9.2.eq (seq_ok hbg hE9)⟩) (fun r39 mem40 H locs hq hP hS => ?_)
  have hD : va_D (Az sz) (fw n ad mem40) := fw_D hD
  obtain ⟨kx41, ax42, ux43, Rx44, Ex45, Sx46, Ax47, Bx_48, nx49, tox50, hr951, h152, h253, h354, h455, h556, htk57, hRX58, rds59, h860⟩ := hq
  subst hr951
  obtain ⟨ft61, h9_62⟩ := hRX58.2.1
  have h1_63 : mem40 1 = .inr (0, [.ref (ad 2), .int (nI Z)]) := (hRX58.1.2.2 1 (by omega)).trans hT.1
  have h2_64 : mem40 2 = .inl (cy 0, 240, .inl f) := (hRX58.1.2.2 2 (by omega)).trans hT.2.2
  have h5_65 := hRX58.1.1.2.1
  have hbd71 := hRX58.1.1.1
  obtain ⟨S66, g67, hS_68, h220_69, h221_70⟩ := hRX58.1.1.2.2.2.2.2.2
  have hbd72 := hRX58.1.1.1
  refine lv_astore_n (lv' := [(3, .ref (ad (20 + 2 * kx41))), (2, .ref (ad (20 + 2 * Ec))), (0, .ref (ad 222)), (1, .int (1))]) Bx.1 Bx.2.1 d_Rd_readSequence_11 rfl hl (by decide) rfl (fun ls hl => ?_)
  refine lv_aload_n Bx.1 Bx.2.1 d_Rd_readSequence_12 rfl (lv_at hl 1 rfl) ?_
  refine lv_aload_n Bx.1 Bx.2.1 d_Rd_readSequence_13 rfl (lv_at hl 0 rfl) ?_
  have hce73 := (rds59.2.1 Ec (by omega)).1
  refine f_putN Bx hP hD hS (by omega) hce73 rfl inEl tyEl okEl nmEl 4 (by decide) kw_87 rfl rfl rfl rfl (Nat.le_of_ble_eq_true rfl) d_Rd_readSequence_14 (fun H locs hP hS => ?_)
  obtain ⟨mem74, e_mem74⟩ : ∃ z, z = va_up mem40 ((20 + 2 * Ec)) (.inr (2, [.int (Bx_48 228 Ec), .int (Bx_48 229 Ec), .int (Bx_48 230 Ec), vR ad (Bx_48 231 Ec), .ref (ad (20 + 2 * kx41)), vE ad (Bx_48 233 Ec), .ref (ad (21 + 2 * Ec))])) := ⟨_, rfl⟩
  have hP : va_P D vcl (fw n ad mem74) H := by rw [e_mem74]; exact hP
  have hD : va_D (Az sz) (fw n ad mem74) := fw_D hD
  have h_mem74 : mem74 ((20 + 2 * Ec)) = .inr (2, [.int (Bx_48 228 Ec), .int (Bx_48 229 Ec), .int (Bx_48 230 Ec), vR ad (Bx_48 231 Ec), .ref (ad (20 + 2 * kx41)), vE ad (Bx_48 233 Ec), .ref (ad (21 + 2 * Ec))]) := by rw [e_mem74, va_up_self]
  have hh75 := (va_up_ne mem40 (.inr (2, [.int (Bx_48 228 Ec), .int (Bx_48 229 Ec), .int (Bx_48 230 Ec), vR ad (Bx_48 231 Ec), .ref (ad (20 + 2 * kx41)), vE ad (Bx_48 233 Ec), .ref (ad (21 + 2 * Ec))])) (show (222 : Nat) ≠ (20 + 2 * Ec) by first | decide | assumption | omega)).trans h9_62
  rw [← e_mem74] at hh75
  have hh76 := (va_up_ne mem40 (.inr (2, [.int (Bx_48 228 Ec), .int (Bx_48 229 Ec), .int (Bx_48 230 Ec), vR ad (Bx_48 231 Ec), .ref (ad (20 + 2 * kx41)), vE ad (Bx_48 233 Ec), .ref (ad (21 + 2 * Ec))])) (show (1 : Nat) ≠ (20 + 2 * Ec) by first | decide | assumption | omega)).trans h1_63
  rw [← e_mem74] at hh76
  have hh77 := (va_up_ne mem40 (.inr (2, [.int (Bx_48 228 Ec), .int (Bx_48 229 Ec), .int (Bx_48 230 Ec), vR ad (Bx_48 231 Ec), .ref (ad (20 + 2 * kx41)), vE ad (Bx_48 233 Ec), .ref (ad (21 + 2 * Ec))])) (show (5 : Nat) ≠ (20 + 2 * Ec) by first | decide | assumption | omega)).trans h5_65
  rw [← e_mem74] at hh77
  have hh78 := (va_up_ne mem40 (.inr (2, [.int (Bx_48 228 Ec), .int (Bx_48 229 Ec), .int (Bx_48 230 Ec), vR ad (Bx_48 231 Ec), .ref (ad (20 + 2 * kx41)), vE ad (Bx_48 233 Ec), .ref (ad (21 + 2 * Ec))])) (show (220 : Nat) ≠ (20 + 2 * Ec) by first | decide | assumption | omega)).trans h220_69
  rw [← e_mem74] at hh78
  have hRX79 : RX cy ad lim (ax42) (Rx44) (Ex45) (tox50) (nx49) m0 mem74 := by rw [e_mem74]; exact hRX58.el (by omega) (hRX58.1.mk (by omega) (hRX58.1.1.upEl (by omega) (fun _ => ⟨(rds59.2.1 Ec (by omega)).2.1.oR ad, Or.inr ⟨kx41, by omega, by omega, rfl⟩, (rds59.2.1 Ec (by omega)).2.2.2.oE ad (by omega)⟩)))
  have her80 : ER ad (Rx44) (Ex45) (va_up Bx_48 232 (upd (Bx_48 232) Ec (nI kx41))) mem74 := rds59.2.1.part (by omega) (by omega) (by omega) h_mem74 (fun i9 q9 hi9 => by rw [e_mem74]; exact va_up_ne _ _ (by omega))
  have hsr81 : SR cy ad (Sx46) (Bx_48) mem74 := ⟨(show mem74 220 = mem40 220 by rw [e_mem74]; exact va_up_ne _ _ (by omega)).trans rds59.2.2.1.1, (show mem74 221 = mem40 221 by rw [e_mem74]; exact va_up_ne _ _ (by omega)).trans rds59.2.2.1.2⟩
  obtain ⟨ft82, h9_83⟩ := hRX79.2.1
  have h1_84 : mem74 1 = .inr (0, [.ref (ad 2), .int (nI Z)]) := (hRX79.1.2.2 1 (by omega)).trans hT.1
  have h2_85 : mem74 2 = .inl (cy 0, 240, .inl f) := (hRX79.1.2.2 2 (by omega)).trans hT.2.2
  have h5_86 := hRX79.1.1.2.1
  have hbd92 := hRX79.1.1.1
  obtain ⟨S87, g88, hS_89, h220_90, h221_91⟩ := hRX79.1.1.2.2.2.2.2.2
  refine lv_iconst (v := 0) Bx.1 Bx.2.1 d_Rd_readSequence_17 (by decide) ?_
  refine lv_istore (lv' := [(4, .int (0)), (3, .ref (ad (20 + 2 * kx41))), (2, .ref (ad (20 + 2 * Ec))), (0, .ref (ad 222)), (1, .int (1))]) Bx.1 Bx.2.1 d_Rd_readSequence_18 hl (by decide) rfl (fun ls hl => ?_)
  have hsl9 := slot_lt hLK (by omega) hcl
  have hsq0 := seq_first hLK hE9 hc hcl h39 rds59 h860 ⟨by omega, by omega⟩ (by omega) (seq_ok (u := u) (R := R) (f := 1) (A := A) (nm := nm) hbg hE9) her80 hsr81
  have loop93 : ∀ (d94 : Nat) (mem9 : Nat → va_E) (a1 : Nat) (u1 : Nat) (R1 : Nat) (E1 : Nat) (S1 : Nat) (A1 : Ro) (B1 : Ro) (n1 : Nat → Int64) (to1 : Nat → Int32) (la : Nat) (k9 : Nat) (ls : Array Slot) (H : Heap) (locs : List Loc), (240 - k9 < d94) → (RX cy ad lim a1 R1 E1 to1 n1 m0 mem9) → (a < a1 ∧ a1 ≤ Z ∧ R ≤ R1 ∧ k9 < a1 ∧ k9 ≤ 240) → (SQI cy ad T Z 1 (seqS T Z a u R Ec 1 A nm) (slotOf A cq) R Ec S u A Bw la a1 u1 R1 E1 S1 A1 B1 n1 mem9) → (TOK R R1 to to1) → (va_P D vcl (fw n ad mem9) H) → (va_D (Az sz) (fw n ad mem9)) → (va_S (Az sz) s.heap H locs) → (lv_has ls 5 [(4, .int (nI k9)), (3, .ref (ad (20 + 2 * la))), (2, .ref (ad (20 + 2 * Ec))), (0, .ref (ad 222)), (1, .int (1))]) → W p l e (headSpec (Cond.code y_Rd_readSequence c_Rd_readSequence 5 (some (.object "AbnfChart$Element")) :: tg) ({ frames := 48, cells := 1, slots := 6, locals := 1162 } : Room)).room s m [.ref (ad 222), .int (1)].toArray below meth c H locs 0 0 (vx_MQ below (QX (QR (fun r mem' => ∃ (a' u' R' E' S' : Nat) (A' Bw' : Ro) (nm' : Nat → Int64) (to' : Nat → Int32), r = ad (20 + 2 * Ec) ∧ Ec < E' ∧ R ≤ R' ∧ a < a' ∧ a' ≤ Z ∧ TOK R R' to to' ∧ RX cy ad lim (gapF T Z a') R' E' to' nm' m0 mem' ∧ RDS cy ad T Z 1 (seqS T Z a u R Ec 1 A nm) (slotOf A cq) R Ec S u A Bw Ec a' u' R' E' S' A' Bw' nm' mem' ∧ ¬ (bgF (hereF Z T (gapF T Z a')) = true ∧ a' < gapF T Z a')) (PP D n ad) (Az sz))) (XQ D sz n ad (fun X mem' => ((X = cIA ∨ X = cIS) ∧ ∃ rc' ec' : Nat, RS cy ad lim rc' ec' m0 mem') ∧ (Fai T Z (seqS T Z a u R Ec 1 A nm)))) [.ref (ad 222), .int (1)].toArray s 1 6 (Az sz)) (F0 m 20 ls []) := by
    intro d94
    induction d94 with
    | zero => intro mem9 a1 u1 R1 E1 S1 A1 B1 n1 to1 la k9 ls H locs hmeas100; exact absurd hmeas100 (Nat.not_lt_zero _)
    | succ d94 ih99 =>
      intro mem9 a1 u1 R1 E1 S1 A1 B1 n1 to1 la k9 ls H locs hmeas100 hz95 hz96 hz97 hz98 hP hD hS hl
      have hbd8 := hz96
      have hsq := hz97
      have hbdE := hz95.1.1.1
      have hla := hsq.2.2.2
      have hSa1 := hsq.1.2.2.2.1.2.1
      have hlka := sqi_lka hsq hLK hsl9
      obtain ⟨ft101, h9_102⟩ := hz95.2.1
      have h1_103 : mem9 1 = .inr (0, [.ref (ad 2), .int (nI Z)]) := (hz95.1.2.2 1 (by omega)).trans hT.1
      have h2_104 : mem9 2 = .inl (cy 0, 240, .inl f) := (hz95.1.2.2 2 (by omega)).trans hT.2.2
      have h5_105 := hz95.1.1.2.1
      have hbd111 := hz95.1.1.1
      obtain ⟨S106, g107, hS_108, h220_109, h221_110⟩ := hz95.1.1.2.2.2.2.2.2
      refine lv_iload Bx.1 Bx.2.1 d_Rd_readSequence_20 (lv_at hl 0 rfl) ?_
      refine lv_sipush (v := 240) Bx.1 Bx.2.1 d_Rd_readSequence_22 (by decide) ?_
      refine lv_icmp_ge Bx.1 Bx.2.1 d_Rd_readSequence_25 rfl (fun hb112 => ?_) (fun hb112 => ?_)
      · have hN113 : 240 ≤ k9 := (nI_leI (by omega) (by omega)).mp (show nI (240) ≤ nI (k9) from hb112)
        exact absurd hbd8 (by omega)
      · have hN114 : ¬ 240 ≤ k9 := fun q9 => hb112 (show nI (240) ≤ nI (k9) from (nI_leI (by omega) (by omega)).mpr q9)
        refine lv_aload_n Bx.1 Bx.2.1 d_Rd_readSequence_28 rfl (lv_at hl 3 rfl) ?_
        refine f_callVi (na := 0) (As := []) (rest := []) Bx hml E hP hD hS (by omega) h9_102 rfl (m_Rd_readGapY l hn hT hf hz95 (by omega) (by omega)) kw_397 kw_399 sel_Rd_readGap kw_6 kw_400 (by decide +kernel) ⟨rfl, rfl⟩ ⟨Nat.le_of_ble_eq_true rfl, Nat.le_of_ble_eq_true rfl⟩ rfl hl.1 (Nat.le_of_ble_eq_true rfl) d_Rd_readSequence_29 ⟨Nat.le_of_ble_eq_true rfl, Nat.le_of_ble_eq_true rfl⟩ (fun r115 mem116 H locs hq hP hS => ?_)
        have hD : va_D (Az sz) (fw n ad mem116) := fw_D hD
        obtain ⟨g117, eg118⟩ : ∃ z, z = gapF T Z (a1) := ⟨_, rfl⟩
        rw [← eg118] at hq
        obtain ⟨hRX119, hgc120, hfa121⟩ := hq
        have hg122 : a1 ≤ g117 := by rw [eg118]; exact gapF_ge T Z _
        have hg123 : g117 ≤ Z := by rw [eg118]; exact gapF_le T (by omega)
        obtain ⟨ft124, h9_125⟩ := hRX119.2.1
        have h1_126 : mem116 1 = .inr (0, [.ref (ad 2), .int (nI Z)]) := (hRX119.1.2.2 1 (by omega)).trans hT.1
        have h2_127 : mem116 2 = .inl (cy 0, 240, .inl f) := (hRX119.1.2.2 2 (by omega)).trans hT.2.2
        have h5_128 := hRX119.1.1.2.1
        have hbd134 := hRX119.1.1.1
        obtain ⟨S129, g130, hS_131, h220_132, h221_133⟩ := hRX119.1.1.2.2.2.2.2.2
        have her135 : ER ad (R1) (E1) (B1) mem116 := hsq.1.2.1.fr (Nat.le_refl _) (fun i9 hi9 => hfa121 _ (by omega))
        have hsr136 : SR cy ad (S1) (B1) mem116 := ⟨(show mem116 220 = _ from hfa121 _ (by omega)).trans hsq.1.2.2.1.1, (show mem116 221 = _ from hfa121 _ (by omega)).trans hsq.1.2.2.1.2⟩
        rcases hgc120 with ⟨hr137, hga138⟩ | ⟨hr137, hga138⟩
        · subst hr137
          refine lv_if_eq Bx.1 Bx.2.1 d_Rd_readSequence_32 rfl (fun hb139 => ?_) (fun hb139 => ?_)
          · exact absurd hb139 (by decide)
          · refine lv_aload_n Bx.1 Bx.2.1 d_Rd_readSequence_35 rfl (lv_at hl 3 rfl) ?_
            refine f_callVi (na := 0) (As := []) (rest := []) Bx hml E hP hD hS (by omega) h9_125 rfl (m_Rd_peekX l hn hT hf hRX119 (by omega)) kw_353 kw_355 sel_Rd_peek kw_6 kw_356 (by decide +kernel) ⟨rfl, rfl⟩ ⟨Nat.le_of_ble_eq_true rfl, Nat.le_of_ble_eq_true rfl⟩ rfl hl.1 (Nat.le_of_ble_eq_true rfl) d_Rd_readSequence_36 ⟨Nat.le_of_ble_eq_true rfl, Nat.le_of_ble_eq_true rfl⟩ (fun r141 mem142 H locs hq hP hS => ?_)
            have hD : va_D (Az sz) (fw n ad mem142) := fw_D hD
            obtain ⟨hqe, hpk140⟩ := hq
            rw [hqe] at hP hD
            subst hpk140
            refine f_callSi (na := 1) (As := [.int (hereF Z T (g117))]) (rest := []) Bx hml E.2.1 (m_Rd_beginsRepetitionX l (hereF Z T (g117))) kw_413 kw_414 kw_6 kw_415 (by decide +kernel) ⟨rfl, rfl⟩ ⟨Nat.le_of_ble_eq_true rfl, Nat.le_of_ble_eq_true rfl⟩ rfl hl.1 (Nat.le_of_ble_eq_true rfl) d_Rd_readSequence_39 ⟨Nat.le_of_ble_eq_true rfl, Nat.le_of_ble_eq_true rfl⟩ (fun r145 hs144 => ?_)
            subst hs144
            refine lv_if_eq Bx.1 Bx.2.1 d_Rd_readSequence_42 rfl (fun hb146 => ?_) (fun hb146 => ?_)
            · refine lv_aload_n Bx.1 Bx.2.1 d_Rd_readSequence_65 rfl (lv_at hl 2 rfl) ?_
              exact x_aret hx hb hlocks hr (⟨a1, u1, R1, E1, S1, A1, B1, n1, to1, rfl, by omega, by omega, by omega, by omega, hz98, by rw [← eg118]; exact hRX119, ⟨hsq.1.1, her135, hsr136, hsq.1.2.2.2⟩, fun z => by have q9 := z.1; rw [← eg118, bg_0 hb146] at q9; exact absurd q9 (by decide)⟩) hP hS d_Rd_readSequence_66
            · have hbg2 : bgF (hereF Z T (gapF T Z a1)) = true := by rw [← eg118]; exact bg_1 hb146
              have hgt2 : a1 < gapF T Z a1 := by rw [← eg118]; omega
              have h238 := hsq.2.1
              have h239 : A1 239 1 = -1 := hsq.1.2.2.2.2.2.2.2.2.2.2
              refine lv_aload_n Bx.1 Bx.2.1 d_Rd_readSequence_45 rfl (lv_at hl 1 rfl) ?_
              refine lv_aload_n Bx.1 Bx.2.1 d_Rd_readSequence_46 rfl (lv_at hl 3 rfl) ?_
              refine lv_iload_n Bx.1 Bx.2.1 d_Rd_readSequence_47 rfl (lv_at hl 4 rfl) ?_
              refine f_xVr (na := 1) (As := [.int (1)]) (rest := [.ref (ad (20 + 2 * la))]) Bx hml E hP hD hS (by omega) h9_125 rfl (m_Rd_readRepetition_1Y l hlt hn hT hf hRX119 (by omega) (u := u1) (A := A1) her135 hsr136 (by omega) (by omega) hlka ⟨⟨Ec, by omega, h238⟩, Or.inl h239⟩ h239 (by rw [eg118]; exact hbg2)) kw_439 kw_441 sel_Rd_readRepetition kw_6 kw_442 (by decide +kernel) ⟨rfl, rfl⟩ ⟨Nat.le_of_ble_eq_true rfl, Nat.le_of_ble_eq_true rfl⟩ rfl hl.1 (Nat.le_of_ble_eq_true rfl) d_Rd_readSequence_48 ⟨Nat.le_of_ble_eq_true rfl, Nat.le_of_ble_eq_true rfl⟩ (fun X ce q9 memx H locs hx9 hP hS g1 g2 g3 => f_out hlocks hno hP hS g1 g2 g3 ⟨Nat.le_of_ble_eq_true rfl, Nat.le_of_ble_eq_true rfl⟩ ⟨hx9.1, hsq.1.1.fai (go_rept hbg2 hgt2) (by rw [← eg118]; exact hx9.2)⟩) (fun r147 mem148 H locs hq hP hS => ?_)
              have hD : va_D (Az sz) (fw n ad mem148) := fw_D hD
              obtain ⟨kx149, ax150, ux151, Rx152, Ex153, Sx154, Ax155, Bx_156, nx157, tox158, hr9159, h1160, h2161, h3162, h4163, h5164, htk165, hRX166, rds167, h8168⟩ := hq
              subst hr9159
              obtain ⟨ft169, h9_170⟩ := hRX166.2.1
              have h1_171 : mem148 1 = .inr (0, [.ref (ad 2), .int (nI Z)]) := (hRX166.1.2.2 1 (by omega)).trans hT.1
              have h2_172 : mem148 2 = .inl (cy 0, 240, .inl f) := (hRX166.1.2.2 2 (by omega)).trans hT.2.2
              have h5_173 := hRX166.1.1.2.1
              have hbd179 := hRX166.1.1.1
              obtain ⟨S174, g175, hS_176, h220_177, h221_178⟩ := hRX166.1.1.2.2.2.2.2.2
              have hbd180 := hRX166.1.1.1
              have hce181 := (rds167.2.1 la (by omega)).1
              refine f_putN Bx hP hD hS (by omega) hce181 rfl inEl tyEl okEl nmEl 5 (by decide) kw_91 rfl rfl rfl rfl (Nat.le_of_ble_eq_true rfl) d_Rd_readSequence_51 (fun H locs hP hS => ?_)
              obtain ⟨mem182, e_mem182⟩ : ∃ z, z = va_up mem148 ((20 + 2 * la)) (.inr (2, [.int (Bx_156 228 la), .int (Bx_156 229 la), .int (Bx_156 230 la), vR ad (Bx_156 231 la), vE ad (Bx_156 232 la), .ref (ad (20 + 2 * kx149)), .ref (ad (21 + 2 * la))])) := ⟨_, rfl⟩
              have hP : va_P D vcl (fw n ad mem182) H := by rw [e_mem182]; exact hP
              have hD : va_D (Az sz) (fw n ad mem182) := fw_D hD
              have h_mem182 : mem182 ((20 + 2 * la)) = .inr (2, [.int (Bx_156 228 la), .int (Bx_156 229 la), .int (Bx_156 230 la), vR ad (Bx_156 231 la), vE ad (Bx_156 232 la), .ref (ad (20 + 2 * kx149)), .ref (ad (21 + 2 * la))]) := by rw [e_mem182, va_up_self]
              have hh183 := (va_up_ne mem148 (.inr (2, [.int (Bx_156 228 la), .int (Bx_156 229 la), .int (Bx_156 230 la), vR ad (Bx_156 231 la), vE ad (Bx_156 232 la), .ref (ad (20 + 2 * kx149)), .ref (ad (21 + 2 * la))])) (show (222 : Nat) ≠ (20 + 2 * la) by first | decide | assumption | omega)).trans h9_170
              rw [← e_mem182] at hh183
              have hh184 := (va_up_ne mem148 (.inr (2, [.int (Bx_156 228 la), .int (Bx_156 229 la), .int (Bx_156 230 la), vR ad (Bx_156 231 la), vE ad (Bx_156 232 la), .ref (ad (20 + 2 * kx149)), .ref (ad (21 + 2 * la))])) (show (1 : Nat) ≠ (20 + 2 * la) by first | decide | assumption | omega)).trans h1_171
              rw [← e_mem182] at hh184
              have hh185 := (va_up_ne mem148 (.inr (2, [.int (Bx_156 228 la), .int (Bx_156 229 la), .int (Bx_156 230 la), vR ad (Bx_156 231 la), vE ad (Bx_156 232 la), .ref (ad (20 + 2 * kx149)), .ref (ad (21 + 2 * la))])) (show (5 : Nat) ≠ (20 + 2 * la) by first | decide | assumption | omega)).trans h5_173
              rw [← e_mem182] at hh185
              have hh186 := (va_up_ne mem148 (.inr (2, [.int (Bx_156 228 la), .int (Bx_156 229 la), .int (Bx_156 230 la), vR ad (Bx_156 231 la), vE ad (Bx_156 232 la), .ref (ad (20 + 2 * kx149)), .ref (ad (21 + 2 * la))])) (show (220 : Nat) ≠ (20 + 2 * la) by first | decide | assumption | omega)).trans h220_177
              rw [← e_mem182] at hh186
              have hRX187 : RX cy ad lim (ax150) (Rx152) (Ex153) (tox158) (nx157) m0 mem182 := by rw [e_mem182]; exact hRX166.el (by omega) (hRX166.1.mk (by omega) (hRX166.1.1.upEl (by omega) (fun _ => ⟨(rds167.2.1 la (by omega)).2.1.oR ad, (rds167.2.1 la (by omega)).2.2.1.oE ad (by omega), Or.inr ⟨kx149, by omega, by omega, rfl⟩⟩)))
              have her188 : ER ad (Rx152) (Ex153) (va_up Bx_156 233 (upd (Bx_156 233) la (nI kx149))) mem182 := rds167.2.1.next (by omega) (by omega) (by omega) h_mem182 (fun i9 q9 hi9 => by rw [e_mem182]; exact va_up_ne _ _ (by omega))
              have hsr189 : SR cy ad (Sx154) (Bx_156) mem182 := ⟨(show mem182 220 = mem148 220 by rw [e_mem182]; exact va_up_ne _ _ (by omega)).trans rds167.2.2.1.1, (show mem182 221 = mem148 221 by rw [e_mem182]; exact va_up_ne _ _ (by omega)).trans rds167.2.2.1.2⟩
              obtain ⟨ft190, h9_191⟩ := hRX187.2.1
              have h1_192 : mem182 1 = .inr (0, [.ref (ad 2), .int (nI Z)]) := (hRX187.1.2.2 1 (by omega)).trans hT.1
              have h2_193 : mem182 2 = .inl (cy 0, 240, .inl f) := (hRX187.1.2.2 2 (by omega)).trans hT.2.2
              have h5_194 := hRX187.1.1.2.1
              have hbd200 := hRX187.1.1.1
              obtain ⟨S195, g196, hS_197, h220_198, h221_199⟩ := hRX187.1.1.2.2.2.2.2.2
              refine lv_aload_n Bx.1 Bx.2.1 d_Rd_readSequence_54 rfl (lv_at hl 1 rfl) ?_
              refine f_getN Bx hP (by omega) h_mem182 rfl inEl 5 (by decide) kw_91 rfl rfl d_Rd_readSequence_55 ?_
              refine lv_astore_n (lv' := [(3, .ref (ad (20 + 2 * kx149))), (4, .int (nI k9)), (2, .ref (ad (20 + 2 * Ec))), (0, .ref (ad 222)), (1, .int (1))]) Bx.1 Bx.2.1 d_Rd_readSequence_58 rfl hl (by decide) rfl (fun ls hl => ?_)
              refine lv_iinc (lv' := [(4, .int ((nI k9 + (1)))), (3, .ref (ad (20 + 2 * kx149))), (2, .ref (ad (20 + 2 * Ec))), (0, .ref (ad 222)), (1, .int (1))]) Bx.1 Bx.2.1 d_Rd_readSequence_59 hl (k := 1) rfl rfl (by decide) rfl (fun ls hl => ?_)
              rw [show (nI k9 + (1) : Int32) = nI (k9 + 1) from nI_1 (k9)] at hl
              refine lv_goto Bx.1 Bx.2.1 d_Rd_readSequence_62 rfl ?_
              have hsq3 := seq_step hsq (by omega) hlka (by omega) hsl9 rds167 h8168 ⟨by omega, by omega⟩ (by omega) (by rw [eg118]; exact go_rept hbg2 hgt2) her188 hsr189
              exact ih99 mem182 (ax150) (ux151) (Rx152) (Ex153) (Sx154) (Ax155) ((va_up Bx_156 233 (upd (Bx_156 233) la (nI kx149)))) (nx157) (tox158) (kx149) (k9 + 1) _ _ _ (by have := hmeas100; omega) (hRX187) (⟨by omega, by omega, by omega, by omega, by omega⟩) (hsq3) (hz98.trans htk165 (by omega)) hP hD hS (lv_sub hl [0, 1, 2, 3, 4] rfl)
        · subst hr137
          refine lv_if_eq Bx.1 Bx.2.1 d_Rd_readSequence_32 rfl (fun hb201 => ?_) (fun hb201 => ?_)
          · refine lv_aload_n Bx.1 Bx.2.1 d_Rd_readSequence_65 rfl (lv_at hl 2 rfl) ?_
            exact x_aret hx hb hlocks hr (⟨a1, u1, R1, E1, S1, A1, B1, n1, to1, rfl, by omega, by omega, by omega, by omega, hz98, by rw [← eg118]; exact hRX119, ⟨hsq.1.1, her135, hsr136, hsq.1.2.2.2⟩, fun z => by have := z.2; rw [← eg118] at this; omega⟩) hP hS d_Rd_readSequence_66
          · exact absurd hb201 (by decide)
  exact loop93 _ mem74 (ax42) (ux43) (Rx44) (Ex45) (Sx46) (Ax47) ((va_up Bx_48 232 (upd (Bx_48 232) Ec (nI kx41)))) (nx49) (tox50) (kx41) (0) _ _ _ (Nat.lt_succ_self _) (hRX79) (⟨by omega, by omega, by omega, by omega, by omega⟩) (hsq0) (htk57) hP hD hS (lv_sub hl [0, 1, 2, 3, 4] rfl)
set_option maxHeartbeats 4000000 in
set_option maxRecDepth 100000 in
theorem m_Rd_readAlternatives_1Y (l : Launch) {D : va_G} {cy : Nat → ClassId} {sz n : Nat} {ad : Nat → Nat} {mem : Nat → va_E} {Z a R Ec lim : Nat} {f T : Nat → Int32} {to : Nat → Int32} {nm : Nat → Int64} {m0 : Nat → va_E} {u S : Nat} {A Bw : Ro} {cq : Nat} (hlt : l.stackTraces = false) (hn : 224 ≤ n) (hT : TX cy ad Z f m0) (hf : ∀ k, k < Z → f k = T k) (hRX : RX cy ad lim a R Ec to nm m0 mem) (haB : a ≤ 300) (hER : ER ad R Ec Bw mem) (hSR : SR cy ad S Bw mem) (hSa : S ≤ a) (haZ : a ≤ Z) (hLK : LKa (Ec + 1) A) (hc : A 237 1 = nI cq) (hcl : cq ≤ Ec) (h39 : A 239 1 = -1) : NXr l D cy sz n ad y_Rd_readAlternatives c_Rd_readAlternatives 5 (some (.object "AbnfChart$Element")) ({ frames := 49, cells := 1, slots := 6, locals := 1188 } : Room) mem [.ref (ad 222), .int (1)] (fun r mem' => ∃ (la a' u' R' E' S' : Nat) (A' Bw' : Ro) (nm' : Nat → Int64) (to' : Nat → Int32), r = ad (20 + 2 * Ec) ∧ Ec + 1 < E' ∧ R ≤ R' ∧ a < a' ∧ a' ≤ Z ∧ TOK R R' to to' ∧ RX cy ad lim (gapF T Z a') R' E' to' nm' m0 mem' ∧ ALI cy ad T Z 1 (seqS T Z a u R (Ec + 1) 1 A nm) cq R Ec S u A Bw la a' u' R' E' S' A' Bw' nm' mem' ∧ bgF (hereF Z T a) = true ∧ Ec < 100 ∧ ¬ hereF Z T (gapF T Z a') = 47 ∧ ¬ (bgF (hereF Z T (gapF T Z a')) = true ∧ a' < gapF T Z a')) (fun X mem' => ((X = cIA ∨ X = cIS) ∧ ∃ rc' ec' : Nat, RS cy ad lim rc' ec' m0 mem') ∧ (bgF (hereF Z T a) = false ∨ Ec = 100 ∨ (bgF (hereF Z T a) = true ∧ Ec < 100 ∧ Fai T Z (seqS T Z a u R (Ec + 1) 1 A nm)))) := by
  refine vx_ofW (cc := c_Rd_readAlternatives) (maxL := 5) (ret := (some (.object "AbnfChart$Element"))) (by decide) rfl ?_
  intro p e s m args below meth c s₁ B hml hno hv
  obtain ⟨rfl, E, hP, hD⟩ := hv
  have hx := B.exec
  have hb := B.bytes
  have hr := B.returns
  have hlocks := B.notSynchronized
  have Bx : MB p s m [.ref (ad 222), .int (1)].toArray c c_Rd_readAlternatives "AbnfChart$Reader" D cy := ⟨hx, hb, tb_all (atoms_spec B.pre) E.2.1, findClass_of_methodNamed B.named, E.1⟩
  have hS : va_S (Az sz) s.heap s.heap [] := va_S.rf
  have hl := lv_entry ([.ref (ad 222), .int (1)]) (n := 5) (Nat.le_of_ble_eq_true rfl)
  rw [lg_entry_eq]
  generalize (lg_sl ([.ref (ad 222), .int (1)]) ++ List.replicate (5 - (lg_sl ([.ref (ad 222), .int (1)])).length) Slot.unset).toArray = ls at hl ⊢
  have hl : lv_has ls 5 [(0, .ref (ad 222)), (1, .int (1))] := hl
  have hZ9 := hT.2.1
  have hbd9 := hRX.1.1.1
  have hfr0 : ∀ i, 19 ≤ i ∧ i < 222 ∧ i ≠ 20 + 2 * Ec → mem i = mem i := fun _ _ => rfl
  obtain ⟨ft1, h9_2⟩ := hRX.2.1
  have h1_3 : mem 1 = .inr (0, [.ref (ad 2), .int (nI Z)]) := (hRX.1.2.2 1 (by omega)).trans hT.1
  have h2_4 : mem 2 = .inl (cy 0, 240, .inl f) := (hRX.1.2.2 2 (by omega)).trans hT.2.2
  have h5_5 := hRX.1.1.2.1
  have hbd11 := hRX.1.1.1
  obtain ⟨S6, g7, hS_8, h220_9, h221_10⟩ := hRX.1.1.2.2.2.2.2.2
  refine lv_aload_n Bx.1 Bx.2.1 d_Rd_readAlternatives_0 rfl (lv_at hl 0 rfl) ?_
  refine lv_iconst (v := 0) Bx.1 Bx.2.1 d_Rd_readAlternatives_1 (by decide) ?_
  refine f_xVr (na := 1) (As := [.int (0)]) (rest := []) Bx hml E hP hD hS (by omega) h9_2 rfl (m_Rd_beginRowY l hlt hn hT hf hRX (by omega)) kw_409 kw_411 sel_Rd_beginRow kw_6 kw_412 (by decide +kernel) ⟨rfl, rfl⟩ ⟨Nat.le_of_ble_eq_true rfl, Nat.le_of_ble_eq_true rfl⟩ rfl hl.1 (Nat.le_of_ble_eq_true rfl) d_Rd_readAlternatives_2 ⟨Nat.le_of_ble_eq_true rfl, Nat.le_of_ble_eq_true rfl⟩ (fun X ce q9 memx H locs hx9 hP hS g1 g2 g3 => f_out hlocks hno hP hS g1 g2 g3 ⟨Nat.le_of_ble_eq_true rfl, Nat.le_of_ble_eq_true rfl⟩ ⟨hx9.1, hx9.2.elim Or.inl (fun z => Or.inr (Or.inl z))⟩) (fun r12 mem13 H locs hq hP hS => ?_)
  have hD : va_D (Az sz) (fw n ad mem13) := fw_D hD
  obtain ⟨hbg, hE9, hr9, hRXb, hclb, hfab⟩ := hq
  subst hr9
  have hfr14 : ∀ i, 19 ≤ i ∧ i < 222 ∧ i ≠ 20 + 2 * Ec → mem13 i = mem i := fun i q => (hfab i (by omega)).trans (hfr0 i q)
  obtain ⟨ft15, h9_16⟩ := hRXb.2.1
  have h1_17 : mem13 1 = .inr (0, [.ref (ad 2), .int (nI Z)]) := (hRXb.1.2.2 1 (by omega)).trans hT.1
  have h2_18 : mem13 2 = .inl (cy 0, 240, .inl f) := (hRXb.1.2.2 2 (by omega)).trans hT.2.2
  have h5_19 := hRXb.1.1.2.1
  have hbd25 := hRXb.1.1.1
  obtain ⟨S20, g21, hS_22, h220_23, h221_24⟩ := hRXb.1.1.2.2.2.2.2.2
  obtain ⟨ft26, h9_27⟩ := hRXb.2.1
  have h1_28 : mem13 1 = .inr (0, [.ref (ad 2), .int (nI Z)]) := (hRXb.1.2.2 1 (by omega)).trans hT.1
  have h2_29 : mem13 2 = .inl (cy 0, 240, .inl f) := (hRXb.1.2.2 2 (by omega)).trans hT.2.2
  have h5_30 := hRXb.1.1.2.1
  have hbd36 := hRXb.1.1.1
  obtain ⟨S31, g32, hS_33, h220_34, h221_35⟩ := hRXb.1.1.2.2.2.2.2.2
  refine lv_astore_n (lv' := [(2, .ref (ad (20 + 2 * Ec))), (0, .ref (ad 222)), (1, .int (1))]) Bx.1 Bx.2.1 d_Rd_readAlternatives_5 rfl hl (by decide) rfl (fun ls hl => ?_)
  refine lv_aload_n Bx.1 Bx.2.1 d_Rd_readAlternatives_6 rfl (lv_at hl 1 rfl) ?_
  refine lv_iload_n Bx.1 Bx.2.1 d_Rd_readAlternatives_7 rfl (lv_at hl 2 rfl) ?_
  have her37 : ER ad R (Ec + 1) (bwN Bw Ec 0 (0) (0) (-1) (-1) (-1) (Bw 234)) mem13 := hER.new (Nat.le_refl _) (by rw [vR_m]; exact hclb) (Or.inl rfl) (fun i9 hi9 => hfr14 (20 + 2 * i9) (by omega))
  have hsr38 : SR cy ad S (bwN Bw Ec 0 (0) (0) (-1) (-1) (-1) (Bw 234)) mem13 := ⟨(hfr14 220 (by omega)).trans hSR.1, (hfr14 221 (by omega)).trans hSR.2⟩
  refine f_xVr (na := 1) (As := [.int (1)]) (rest := []) Bx hml E hP hD hS (by omega) h9_27 rfl (m_Rd_readSequence_1Y l hlt hn hT hf hRXb (by omega) (u := u) (A := A) her37 hsr38 (by omega) (by omega) hLK hc (by omega) h39) kw_435 kw_437 sel_Rd_readSequence kw_6 kw_438 (by decide +kernel) ⟨rfl, rfl⟩ ⟨Nat.le_of_ble_eq_true rfl, Nat.le_of_ble_eq_true rfl⟩ rfl hl.1 (Nat.le_of_ble_eq_true rfl) d_Rd_readAlternatives_8 ⟨Nat.le_of_ble_eq_true rfl, Nat.le_of_ble_eq_true rfl⟩ (fun X ce q9 memx H locs hx9 hP hS g1 g2 g3 => f_out hlocks hno hP hS g1 g2 g3 ⟨Nat.le_of_ble_eq_true rfl, Nat.le_of_ble_eq_true rfl⟩ ⟨hx9.1, Or.inr (Or.inr ⟨hbg, hE9, hx9.2⟩)⟩) (fun r39 mem40 H locs hq hP hS => ?_)
  have hD : va_D (Az sz) (fw n ad mem40) := fw_D hD
  obtain ⟨ax41, ux42, Rx43, Ex44, Sx45, Ax46, Bx_47, nx48, tox49, hr950, h251, h352, h453, h554, htk55, hRX56, rds57, hnb58⟩ := hq
  subst hr950
  obtain ⟨g59, eg60⟩ : ∃ z, z = gapF T Z ax41 := ⟨_, rfl⟩
  have hg61 : ax41 ≤ g59 := by rw [eg60]; exact gapF_ge T Z _
  have hg62 : g59 ≤ Z := by rw [eg60]; exact gapF_le T (by omega)
  rw [← eg60] at hRX56
  obtain ⟨ft63, h9_64⟩ := hRX56.2.1
  have h1_65 : mem40 1 = .inr (0, [.ref (ad 2), .int (nI Z)]) := (hRX56.1.2.2 1 (by omega)).trans hT.1
  have h2_66 : mem40 2 = .inl (cy 0, 240, .inl f) := (hRX56.1.2.2 2 (by omega)).trans hT.2.2
  have h5_67 := hRX56.1.1.2.1
  have hbd73 := hRX56.1.1.1
  obtain ⟨S68, g69, hS_70, h220_71, h221_72⟩ := hRX56.1.1.2.2.2.2.2.2
  have hbd74 := hRX56.1.1.1
  refine lv_astore_n (lv' := [(3, .ref (ad (20 + 2 * (Ec + 1)))), (2, .ref (ad (20 + 2 * Ec))), (0, .ref (ad 222)), (1, .int (1))]) Bx.1 Bx.2.1 d_Rd_readAlternatives_11 rfl hl (by decide) rfl (fun ls hl => ?_)
  refine lv_aload_n Bx.1 Bx.2.1 d_Rd_readAlternatives_12 rfl (lv_at hl 1 rfl) ?_
  refine lv_aload_n Bx.1 Bx.2.1 d_Rd_readAlternatives_13 rfl (lv_at hl 0 rfl) ?_
  have hce75 := (rds57.2.1 Ec (by omega)).1
  refine f_putN Bx hP hD hS (by omega) hce75 rfl inEl tyEl okEl nmEl 4 (by decide) kw_87 rfl rfl rfl rfl (Nat.le_of_ble_eq_true rfl) d_Rd_readAlternatives_14 (fun H locs hP hS => ?_)
  obtain ⟨mem76, e_mem76⟩ : ∃ z, z = va_up mem40 ((20 + 2 * Ec)) (.inr (2, [.int (Bx_47 228 Ec), .int (Bx_47 229 Ec), .int (Bx_47 230 Ec), vR ad (Bx_47 231 Ec), .ref (ad (20 + 2 * (Ec + 1))), vE ad (Bx_47 233 Ec), .ref (ad (21 + 2 * Ec))])) := ⟨_, rfl⟩
  have hP : va_P D vcl (fw n ad mem76) H := by rw [e_mem76]; exact hP
  have hD : va_D (Az sz) (fw n ad mem76) := fw_D hD
  have h_mem76 : mem76 ((20 + 2 * Ec)) = .inr (2, [.int (Bx_47 228 Ec), .int (Bx_47 229 Ec), .int (Bx_47 230 Ec), vR ad (Bx_47 231 Ec), .ref (ad (20 + 2 * (Ec + 1))), vE ad (Bx_47 233 Ec), .ref (ad (21 + 2 * Ec))]) := by rw [e_mem76, va_up_self]
  have hh77 := (va_up_ne mem40 (.inr (2, [.int (Bx_47 228 Ec), .int (Bx_47 229 Ec), .int (Bx_47 230 Ec), vR ad (Bx_47 231 Ec), .ref (ad (20 + 2 * (Ec + 1))), vE ad (Bx_47 233 Ec), .ref (ad (21 + 2 * Ec))])) (show (222 : Nat) ≠ (20 + 2 * Ec) by first | decide | assumption | omega)).trans h9_64
  rw [← e_mem76] at hh77
  have hh78 := (va_up_ne mem40 (.inr (2, [.int (Bx_47 228 Ec), .int (Bx_47 229 Ec), .int (Bx_47 230 Ec), vR ad (Bx_47 231 Ec), .ref (ad (20 + 2 * (Ec + 1))), vE ad (Bx_47 233 Ec), .ref (ad (21 + 2 * Ec))])) (show (1 : Nat) ≠ (20 + 2 * Ec) by first | decide | assumption | omega)).trans h1_65
  rw [← e_mem76] at hh78
  have hh79 := (va_up_ne mem40 (.inr (2, [.int (Bx_47 228 Ec), .int (Bx_47 229 Ec), .int (Bx_47 230 Ec), vR ad (Bx_47 231 Ec), .ref (ad (20 + 2 * (Ec + 1))), vE ad (Bx_47 233 Ec), .ref (ad (21 + 2 * Ec))])) (show (5 : Nat) ≠ (20 + 2 * Ec) by first | decide | assumption | omega)).trans h5_67
  rw [← e_mem76] at hh79
  have hh80 := (va_up_ne mem40 (.inr (2, [.int (Bx_47 228 Ec), .int (Bx_47 229 Ec), .int (Bx_47 230 Ec), vR ad (Bx_47 231 Ec), .ref (ad (20 + 2 * (Ec + 1))), vE ad (Bx_47 233 Ec), .ref (ad (21 + 2 * Ec))])) (show (220 : Nat) ≠ (20 + 2 * Ec) by first | decide | assumption | omega)).trans h220_71
  rw [← e_mem76] at hh80
  have hRX81 : RX cy ad lim (g59) (Rx43) (Ex44) (tox49) (nx48) m0 mem76 := by rw [e_mem76]; exact hRX56.el (by omega) (hRX56.1.mk (by omega) (hRX56.1.1.upEl (by omega) (fun _ => ⟨(rds57.2.1 Ec (by omega)).2.1.oR ad, Or.inr ⟨(Ec + 1), by omega, by omega, rfl⟩, (rds57.2.1 Ec (by omega)).2.2.2.oE ad (by omega)⟩)))
  have her82 : ER ad (Rx43) (Ex44) (va_up Bx_47 232 (upd (Bx_47 232) Ec (nI (Ec + 1)))) mem76 := rds57.2.1.part (by omega) (by omega) (by omega) h_mem76 (fun i9 q9 hi9 => by rw [e_mem76]; exact va_up_ne _ _ (by omega))
  have hsr83 : SR cy ad (Sx45) (Bx_47) mem76 := ⟨(show mem76 220 = mem40 220 by rw [e_mem76]; exact va_up_ne _ _ (by omega)).trans rds57.2.2.1.1, (show mem76 221 = mem40 221 by rw [e_mem76]; exact va_up_ne _ _ (by omega)).trans rds57.2.2.1.2⟩
  obtain ⟨ft84, h9_85⟩ := hRX81.2.1
  have h1_86 : mem76 1 = .inr (0, [.ref (ad 2), .int (nI Z)]) := (hRX81.1.2.2 1 (by omega)).trans hT.1
  have h2_87 : mem76 2 = .inl (cy 0, 240, .inl f) := (hRX81.1.2.2 2 (by omega)).trans hT.2.2
  have h5_88 := hRX81.1.1.2.1
  have hbd94 := hRX81.1.1.1
  obtain ⟨S89, g90, hS_91, h220_92, h221_93⟩ := hRX81.1.1.2.2.2.2.2.2
  refine lv_iconst (v := 0) Bx.1 Bx.2.1 d_Rd_readAlternatives_17 (by decide) ?_
  refine lv_istore (lv' := [(4, .int (0)), (3, .ref (ad (20 + 2 * (Ec + 1)))), (2, .ref (ad (20 + 2 * Ec))), (0, .ref (ad 222)), (1, .int (1))]) Bx.1 Bx.2.1 d_Rd_readAlternatives_18 hl (by decide) rfl (fun ls hl => ?_)
  have hal0 := alt_first hLK hE9 hcl rds57 (by omega) (by omega) her82 hsr83
  have loop95 : ∀ (d96 : Nat) (mem9 : Nat → va_E) (a1 : Nat) (u1 : Nat) (R1 : Nat) (E1 : Nat) (S1 : Nat) (A1 : Ro) (B1 : Ro) (n1 : Nat → Int64) (to1 : Nat → Int32) (la : Nat) (k9 : Nat) (ls : Array Slot) (H : Heap) (locs : List Loc), (240 - k9 < d96) → (RX cy ad lim (gapF T Z a1) R1 E1 to1 n1 m0 mem9) → (a < a1 ∧ a1 ≤ Z ∧ R ≤ R1 ∧ k9 < a1 ∧ k9 ≤ 240) → (ALI cy ad T Z 1 (seqS T Z a u R (Ec + 1) 1 A nm) cq R Ec S u A Bw la a1 u1 R1 E1 S1 A1 B1 n1 mem9) → (TOK R R1 to to1) → (¬ (bgF (hereF Z T (gapF T Z a1)) = true ∧ a1 < gapF T Z a1)) → (va_P D vcl (fw n ad mem9) H) → (va_D (Az sz) (fw n ad mem9)) → (va_S (Az sz) s.heap H locs) → (lv_has ls 5 [(4, .int (nI k9)), (3, .ref (ad (20 + 2 * la))), (2, .ref (ad (20 + 2 * Ec))), (0, .ref (ad 222)), (1, .int (1))]) → W p l e (headSpec (Cond.code y_Rd_readAlternatives c_Rd_readAlternatives 5 (some (.object "AbnfChart$Element")) :: tg) ({ frames := 49, cells := 1, slots := 6, locals := 1188 } : Room)).room s m [.ref (ad 222), .int (1)].toArray below meth c H locs 0 0 (vx_MQ below (QX (QR (fun r mem' => ∃ (la a' u' R' E' S' : Nat) (A' Bw' : Ro) (nm' : Nat → Int64) (to' : Nat → Int32), r = ad (20 + 2 * Ec) ∧ Ec + 1 < E' ∧ R ≤ R' ∧ a < a' ∧ a' ≤ Z ∧ TOK R R' to to' ∧ RX cy ad lim (gapF T Z a') R' E' to' nm' m0 mem' ∧ ALI cy ad T Z 1 (seqS T Z a u R (Ec + 1) 1 A nm) cq R Ec S u A Bw la a' u' R' E' S' A' Bw' nm' mem' ∧ bgF (hereF Z T a) = true ∧ Ec < 100 ∧ ¬ hereF Z T (gapF T Z a') = 47 ∧ ¬ (bgF (hereF Z T (gapF T Z a')) = true ∧ a' < gapF T Z a')) (PP D n ad) (Az sz))) (XQ D sz n ad (fun X mem' => ((X = cIA ∨ X = cIS) ∧ ∃ rc' ec' : Nat, RS cy ad lim rc' ec' m0 mem') ∧ (bgF (hereF Z T a) = false ∨ Ec = 100 ∨ (bgF (hereF Z T a) = true ∧ Ec < 100 ∧ Fai T Z (seqS T Z a u R (Ec + 1) 1 A nm))))) [.ref (ad 222), .int (1)].toArray s 1 6 (Az sz)) (F0 m 20 ls []) := by
    intro d96
    induction d96 with
    | zero => intro mem9 a1 u1 R1 E1 S1 A1 B1 n1 to1 la k9 ls H locs hmeas103; exact absurd hmeas103 (Nat.not_lt_zero _)
    | succ d96 ih102 =>
      intro mem9 a1 u1 R1 E1 S1 A1 B1 n1 to1 la k9 ls H locs hmeas103 hz97 hz98 hz99 hz100 hz101 hP hD hS hl
      obtain ⟨g1, eg1⟩ : ∃ z, z = gapF T Z a1 := ⟨_, rfl⟩
      rw [← eg1] at hz97
      have hge1 : a1 ≤ g1 := by rw [eg1]; exact gapF_ge T Z _
      have hbd8 := hz98
      have hle1 : g1 ≤ Z := by rw [eg1]; exact gapF_le T (by omega)
      have hal := hz99
      have hbdE := hz97.1.1.1
      have hla := hal.2.2.2.2.2.2.2.2.2.2
      have hSa1 := hal.2.2.2.1.2.1
      have hlka := ali_lka hal hLK hE9 hcl
      obtain ⟨ft104, h9_105⟩ := hz97.2.1
      have h1_106 : mem9 1 = .inr (0, [.ref (ad 2), .int (nI Z)]) := (hz97.1.2.2 1 (by omega)).trans hT.1
      have h2_107 : mem9 2 = .inl (cy 0, 240, .inl f) := (hz97.1.2.2 2 (by omega)).trans hT.2.2
      have h5_108 := hz97.1.1.2.1
      have hbd114 := hz97.1.1.1
      obtain ⟨S109, g110, hS_111, h220_112, h221_113⟩ := hz97.1.1.2.2.2.2.2.2
      refine lv_iload Bx.1 Bx.2.1 d_Rd_readAlternatives_20 (lv_at hl 0 rfl) ?_
      refine lv_sipush (v := 240) Bx.1 Bx.2.1 d_Rd_readAlternatives_22 (by decide) ?_
      refine lv_icmp_ge Bx.1 Bx.2.1 d_Rd_readAlternatives_25 rfl (fun hb115 => ?_) (fun hb115 => ?_)
      · have hN116 : 240 ≤ k9 := (nI_leI (by omega) (by omega)).mp (show nI (240) ≤ nI (k9) from hb115)
        exact absurd hbd8 (by omega)
      · have hN117 : ¬ 240 ≤ k9 := fun q9 => hb115 (show nI (240) ≤ nI (k9) from (nI_leI (by omega) (by omega)).mpr q9)
        refine lv_aload_n Bx.1 Bx.2.1 d_Rd_readAlternatives_28 rfl (lv_at hl 3 rfl) ?_
        refine f_callVi (na := 0) (As := []) (rest := []) Bx hml E hP hD hS (by omega) h9_105 rfl (m_Rd_peekX l hn hT hf hz97 (by omega)) kw_353 kw_355 sel_Rd_peek kw_6 kw_356 (by decide +kernel) ⟨rfl, rfl⟩ ⟨Nat.le_of_ble_eq_true rfl, Nat.le_of_ble_eq_true rfl⟩ rfl hl.1 (Nat.le_of_ble_eq_true rfl) d_Rd_readAlternatives_29 ⟨Nat.le_of_ble_eq_true rfl, Nat.le_of_ble_eq_true rfl⟩ (fun r119 mem120 H locs hq hP hS => ?_)
        have hD : va_D (Az sz) (fw n ad mem120) := fw_D hD
        obtain ⟨hqe, hpk118⟩ := hq
        rw [hqe] at hP hD
        subst hpk118
        refine lv_bipush (v := 47) Bx.1 Bx.2.1 d_Rd_readAlternatives_32 (by decide) ?_
        refine lv_icmp_ne Bx.1 Bx.2.1 d_Rd_readAlternatives_34 rfl (fun hb122 => ?_) (fun hb122 => ?_)
        · refine lv_aload_n Bx.1 Bx.2.1 d_Rd_readAlternatives_72 rfl (lv_at hl 2 rfl) ?_
          exact x_aret hx hb hlocks hr (⟨la, a1, u1, R1, E1, S1, A1, B1, n1, to1, rfl, by omega, by omega, by omega, by omega, hz100, by rw [← eg1]; exact hz97, hal, hbg, hE9, by rw [← eg1]; exact hb122, hz101⟩) hP hS d_Rd_readAlternatives_73
        · have hlt123 := hereF_lt (by rw [hb122]; decide)
          have h47 : hereF Z T (gapF T Z a1) = 47 := by rw [← eg1]; exact hb122
          have h237 : A1 237 1 = nI cq := hal.2.2.2.2.2.2.2.2.1.2.2.1.trans hc
          have h239 : A1 239 1 = -1 := hal.2.2.2.2.2.2.2.2.1.2.2.2
          refine lv_aload_n Bx.1 Bx.2.1 d_Rd_readAlternatives_37 rfl (lv_at hl 3 rfl) ?_
          refine lv_dup Bx.1 Bx.2.1 d_Rd_readAlternatives_38 rfl ?_
          refine f_get Bx hP (by omega) h9_105 rfl inRd 2 (by decide) kw_146 rfl rfl d_Rd_readAlternatives_39 ?_
          refine lv_iconst (v := 1) Bx.1 Bx.2.1 d_Rd_readAlternatives_42 (by decide) ?_
          refine lv_iadd Bx.1 Bx.2.1 d_Rd_readAlternatives_43 ?_
          rw [show nI g1 + 1 = nI (g1 + 1) from nI_add (g1) (1)]
          refine f_put Bx hP hD hS (by omega) h9_105 rfl inRd tyRd okRd nmRd 2 (by decide) kw_146 rfl rfl rfl rfl (Nat.le_of_ble_eq_true rfl) d_Rd_readAlternatives_44 (fun H locs hP hS => ?_)
          obtain ⟨mem124, e_mem124⟩ : ∃ z, z = va_up mem9 (222) (.inr (4, [.ref (ad 1), .ref (ad 5), .int (nI (g1 + 1)), .int (ft104)])) := ⟨_, rfl⟩
          have hP : va_P D vcl (fw n ad mem124) H := by rw [e_mem124]; exact hP
          have hD : va_D (Az sz) (fw n ad mem124) := fw_D hD
          have h_mem124 : mem124 (222) = .inr (4, [.ref (ad 1), .ref (ad 5), .int (nI (g1 + 1)), .int (ft104)]) := by rw [e_mem124, va_up_self]
          have hh125 := (va_up_ne mem9 (.inr (4, [.ref (ad 1), .ref (ad 5), .int (nI (g1 + 1)), .int (ft104)])) (show (1 : Nat) ≠ 222 by first | decide | assumption | omega)).trans h1_106
          rw [← e_mem124] at hh125
          have hh126 := (va_up_ne mem9 (.inr (4, [.ref (ad 1), .ref (ad 5), .int (nI (g1 + 1)), .int (ft104)])) (show (5 : Nat) ≠ 222 by first | decide | assumption | omega)).trans h5_108
          rw [← e_mem124] at hh126
          have hh127 := (va_up_ne mem9 (.inr (4, [.ref (ad 1), .ref (ad 5), .int (nI (g1 + 1)), .int (ft104)])) (show (220 : Nat) ≠ 222 by first | decide | assumption | omega)).trans h220_112
          rw [← e_mem124] at hh127
          have her128 : ER ad (R1) (E1) (B1) mem124 := hal.2.1.fr (Nat.le_refl _) (fun i9 hi9 => by rw [e_mem124]; exact va_up_ne _ _ (by omega))
          have hsr129 : SR cy ad (S1) (B1) mem124 := ⟨(show mem124 220 = _ from by rw [e_mem124]; exact va_up_ne _ _ (by omega)).trans hal.2.2.1.1, (show mem124 221 = _ from by rw [e_mem124]; exact va_up_ne _ _ (by omega)).trans hal.2.2.1.2⟩
          have hRX130 : RX cy ad lim (g1 + 1) (R1) (E1) (to1) (n1) m0 mem124 := by rw [e_mem124]; exact hz97.at
          refine lv_aload_n Bx.1 Bx.2.1 d_Rd_readAlternatives_47 rfl (lv_at hl 3 rfl) ?_
          refine f_callVi (na := 0) (As := []) (rest := []) Bx hml E hP hD hS (by omega) h_mem124 rfl (m_Rd_readGapY l hn hT hf hRX130 (by omega) (by omega)) kw_397 kw_399 sel_Rd_readGap kw_6 kw_400 (by decide +kernel) ⟨rfl, rfl⟩ ⟨Nat.le_of_ble_eq_true rfl, Nat.le_of_ble_eq_true rfl⟩ rfl hl.1 (Nat.le_of_ble_eq_true rfl) d_Rd_readAlternatives_48 ⟨Nat.le_of_ble_eq_true rfl, Nat.le_of_ble_eq_true rfl⟩ (fun r131 mem132 H locs hq hP hS => ?_)
          have hD : va_D (Az sz) (fw n ad mem132) := fw_D hD
          obtain ⟨g133, eg134⟩ : ∃ z, z = gapF T Z (g1 + 1) := ⟨_, rfl⟩
          rw [← eg134] at hq
          obtain ⟨hRX135, hgc136, hfa137⟩ := hq
          have hg138 : g1 + 1 ≤ g133 := by rw [eg134]; exact gapF_ge T Z _
          have hg139 : g133 ≤ Z := by rw [eg134]; exact gapF_le T (by omega)
          obtain ⟨ft140, h9_141⟩ := hRX135.2.1
          have h1_142 : mem132 1 = .inr (0, [.ref (ad 2), .int (nI Z)]) := (hRX135.1.2.2 1 (by omega)).trans hT.1
          have h2_143 : mem132 2 = .inl (cy 0, 240, .inl f) := (hRX135.1.2.2 2 (by omega)).trans hT.2.2
          have h5_144 := hRX135.1.1.2.1
          have hbd150 := hRX135.1.1.1
          obtain ⟨S145, g146, hS_147, h220_148, h221_149⟩ := hRX135.1.1.2.2.2.2.2.2
          have her151 : ER ad (R1) (E1) (B1) mem132 := her128.fr (Nat.le_refl _) (fun i9 hi9 => hfa137 _ (by omega))
          have hsr152 : SR cy ad (S1) (B1) mem132 := ⟨(show mem132 220 = _ from hfa137 _ (by omega)).trans hsr129.1, (show mem132 221 = _ from hfa137 _ (by omega)).trans hsr129.2⟩
          refine lv_pop Bx.1 Bx.2.1 d_Rd_readAlternatives_51 rfl ?_
          refine lv_aload_n Bx.1 Bx.2.1 d_Rd_readAlternatives_52 rfl (lv_at hl 1 rfl) ?_
          refine lv_aload_n Bx.1 Bx.2.1 d_Rd_readAlternatives_53 rfl (lv_at hl 3 rfl) ?_
          refine lv_iload_n Bx.1 Bx.2.1 d_Rd_readAlternatives_54 rfl (lv_at hl 4 rfl) ?_
          refine f_xVr (na := 1) (As := [.int (1)]) (rest := [.ref (ad (20 + 2 * la))]) Bx hml E hP hD hS (by omega) h9_141 rfl (m_Rd_readSequence_1Y l hlt hn hT hf hRX135 (by omega) (u := u1) (A := A1) her151 hsr152 (by omega) (by omega) hlka h237 (by omega) h239) kw_435 kw_437 sel_Rd_readSequence kw_6 kw_438 (by decide +kernel) ⟨rfl, rfl⟩ ⟨Nat.le_of_ble_eq_true rfl, Nat.le_of_ble_eq_true rfl⟩ rfl hl.1 (Nat.le_of_ble_eq_true rfl) d_Rd_readAlternatives_55 ⟨Nat.le_of_ble_eq_true rfl, Nat.le_of_ble_eq_true rfl⟩ (fun X ce q9 memx H locs hx9 hP hS g1 g2 g3 => f_out hlocks hno hP hS g1 g2 g3 ⟨Nat.le_of_ble_eq_true rfl, Nat.le_of_ble_eq_true rfl⟩ ⟨hx9.1, Or.inr (Or.inr ⟨hbg, hE9, hal.1.fai (go_sl h47) (by rw [← eg1, ← eg134]; exact hx9.2)⟩)⟩) (fun r153 mem154 H locs hq hP hS => ?_)
          have hD : va_D (Az sz) (fw n ad mem154) := fw_D hD
          obtain ⟨ax155, ux156, Rx157, Ex158, Sx159, Ax160, Bx_161, nx162, tox163, hr9164, h2165, h3166, h4167, h5168, htk169, hRX170, rds171, hnb172⟩ := hq
          subst hr9164
          obtain ⟨g173, eg174⟩ : ∃ z, z = gapF T Z ax155 := ⟨_, rfl⟩
          have hg175 : ax155 ≤ g173 := by rw [eg174]; exact gapF_ge T Z _
          have hg176 : g173 ≤ Z := by rw [eg174]; exact gapF_le T (by omega)
          rw [← eg174] at hRX170
          obtain ⟨ft177, h9_178⟩ := hRX170.2.1
          have h1_179 : mem154 1 = .inr (0, [.ref (ad 2), .int (nI Z)]) := (hRX170.1.2.2 1 (by omega)).trans hT.1
          have h2_180 : mem154 2 = .inl (cy 0, 240, .inl f) := (hRX170.1.2.2 2 (by omega)).trans hT.2.2
          have h5_181 := hRX170.1.1.2.1
          have hbd187 := hRX170.1.1.1
          obtain ⟨S182, g183, hS_184, h220_185, h221_186⟩ := hRX170.1.1.2.2.2.2.2.2
          have hbd188 := hRX170.1.1.1
          have hce189 := (rds171.2.1 la (by omega)).1
          refine f_putN Bx hP hD hS (by omega) hce189 rfl inEl tyEl okEl nmEl 5 (by decide) kw_91 rfl rfl rfl rfl (Nat.le_of_ble_eq_true rfl) d_Rd_readAlternatives_58 (fun H locs hP hS => ?_)
          obtain ⟨mem190, e_mem190⟩ : ∃ z, z = va_up mem154 ((20 + 2 * la)) (.inr (2, [.int (Bx_161 228 la), .int (Bx_161 229 la), .int (Bx_161 230 la), vR ad (Bx_161 231 la), vE ad (Bx_161 232 la), .ref (ad (20 + 2 * E1)), .ref (ad (21 + 2 * la))])) := ⟨_, rfl⟩
          have hP : va_P D vcl (fw n ad mem190) H := by rw [e_mem190]; exact hP
          have hD : va_D (Az sz) (fw n ad mem190) := fw_D hD
          have h_mem190 : mem190 ((20 + 2 * la)) = .inr (2, [.int (Bx_161 228 la), .int (Bx_161 229 la), .int (Bx_161 230 la), vR ad (Bx_161 231 la), vE ad (Bx_161 232 la), .ref (ad (20 + 2 * E1)), .ref (ad (21 + 2 * la))]) := by rw [e_mem190, va_up_self]
          have hh191 := (va_up_ne mem154 (.inr (2, [.int (Bx_161 228 la), .int (Bx_161 229 la), .int (Bx_161 230 la), vR ad (Bx_161 231 la), vE ad (Bx_161 232 la), .ref (ad (20 + 2 * E1)), .ref (ad (21 + 2 * la))])) (show (222 : Nat) ≠ (20 + 2 * la) by first | decide | assumption | omega)).trans h9_178
          rw [← e_mem190] at hh191
          have hh192 := (va_up_ne mem154 (.inr (2, [.int (Bx_161 228 la), .int (Bx_161 229 la), .int (Bx_161 230 la), vR ad (Bx_161 231 la), vE ad (Bx_161 232 la), .ref (ad (20 + 2 * E1)), .ref (ad (21 + 2 * la))])) (show (1 : Nat) ≠ (20 + 2 * la) by first | decide | assumption | omega)).trans h1_179
          rw [← e_mem190] at hh192
          have hh193 := (va_up_ne mem154 (.inr (2, [.int (Bx_161 228 la), .int (Bx_161 229 la), .int (Bx_161 230 la), vR ad (Bx_161 231 la), vE ad (Bx_161 232 la), .ref (ad (20 + 2 * E1)), .ref (ad (21 + 2 * la))])) (show (5 : Nat) ≠ (20 + 2 * la) by first | decide | assumption | omega)).trans h5_181
          rw [← e_mem190] at hh193
          have hh194 := (va_up_ne mem154 (.inr (2, [.int (Bx_161 228 la), .int (Bx_161 229 la), .int (Bx_161 230 la), vR ad (Bx_161 231 la), vE ad (Bx_161 232 la), .ref (ad (20 + 2 * E1)), .ref (ad (21 + 2 * la))])) (show (220 : Nat) ≠ (20 + 2 * la) by first | decide | assumption | omega)).trans h220_185
          rw [← e_mem190] at hh194
          have hRX195 : RX cy ad lim (g173) (Rx157) (Ex158) (tox163) (nx162) m0 mem190 := by rw [e_mem190]; exact hRX170.el (by omega) (hRX170.1.mk (by omega) (hRX170.1.1.upEl (by omega) (fun _ => ⟨(rds171.2.1 la (by omega)).2.1.oR ad, (rds171.2.1 la (by omega)).2.2.1.oE ad (by omega), Or.inr ⟨E1, by omega, by omega, rfl⟩⟩)))
          have her196 : ER ad (Rx157) (Ex158) (va_up Bx_161 233 (upd (Bx_161 233) la (nI E1))) mem190 := rds171.2.1.next (by omega) (by omega) (by omega) h_mem190 (fun i9 q9 hi9 => by rw [e_mem190]; exact va_up_ne _ _ (by omega))
          have hsr197 : SR cy ad (Sx159) (Bx_161) mem190 := ⟨(show mem190 220 = mem154 220 by rw [e_mem190]; exact va_up_ne _ _ (by omega)).trans rds171.2.2.1.1, (show mem190 221 = mem154 221 by rw [e_mem190]; exact va_up_ne _ _ (by omega)).trans rds171.2.2.1.2⟩
          obtain ⟨ft198, h9_199⟩ := hRX195.2.1
          have h1_200 : mem190 1 = .inr (0, [.ref (ad 2), .int (nI Z)]) := (hRX195.1.2.2 1 (by omega)).trans hT.1
          have h2_201 : mem190 2 = .inl (cy 0, 240, .inl f) := (hRX195.1.2.2 2 (by omega)).trans hT.2.2
          have h5_202 := hRX195.1.1.2.1
          have hbd208 := hRX195.1.1.1
          obtain ⟨S203, g204, hS_205, h220_206, h221_207⟩ := hRX195.1.1.2.2.2.2.2.2
          refine lv_aload_n Bx.1 Bx.2.1 d_Rd_readAlternatives_61 rfl (lv_at hl 1 rfl) ?_
          refine f_getN Bx hP (by omega) h_mem190 rfl inEl 5 (by decide) kw_91 rfl rfl d_Rd_readAlternatives_62 ?_
          refine lv_astore_n (lv' := [(3, .ref (ad (20 + 2 * E1))), (4, .int (nI k9)), (2, .ref (ad (20 + 2 * Ec))), (0, .ref (ad 222)), (1, .int (1))]) Bx.1 Bx.2.1 d_Rd_readAlternatives_65 rfl hl (by decide) rfl (fun ls hl => ?_)
          refine lv_iinc (lv' := [(4, .int ((nI k9 + (1)))), (3, .ref (ad (20 + 2 * E1))), (2, .ref (ad (20 + 2 * Ec))), (0, .ref (ad 222)), (1, .int (1))]) Bx.1 Bx.2.1 d_Rd_readAlternatives_66 hl (k := 1) rfl rfl (by decide) rfl (fun ls hl => ?_)
          rw [show (nI k9 + (1) : Int32) = nI (k9 + 1) from nI_1 (k9)] at hl
          refine lv_goto Bx.1 Bx.2.1 d_Rd_readAlternatives_69 rfl ?_
          have hal3 := alt_step hal (by omega) hLK hlka (by omega) hcl rds171 (by omega) (by omega) (by rw [eg134, eg1]; exact go_sl h47) her196 hsr197
          exact ih102 mem190 (ax155) (ux156) (Rx157) (Ex158) (Sx159) (Ax160) ((va_up Bx_161 233 (upd (Bx_161 233) la (nI E1)))) (nx162) (tox163) (E1) (k9 + 1) _ _ _ (by have := hmeas103; omega) (by rw [← eg174]; exact hRX195) (⟨by omega, by omega, by omega, by omega, by omega⟩) (hal3) (hz100.trans htk169 (by omega)) (hnb172) hP hD hS (lv_sub hl [0, 1, 2, 3, 4] rfl)
  exact loop95 _ mem76 (ax41) (ux42) (Rx43) (Ex44) (Sx45) (Ax46) ((va_up Bx_47 232 (upd (Bx_47 232) Ec (nI (Ec + 1))))) (nx48) (tox49) (Ec + 1) (0) _ _ _ (Nat.lt_succ_self _) (by rw [← eg60]; exact hRX81) (⟨by omega, by omega, by omega, by omega, by omega⟩) (hal0) (htk55) (hnb58) hP hD hS (lv_sub hl [0, 1, 2, 3, 4] rfl)
set_option maxHeartbeats 4000000 in
set_option maxRecDepth 100000 in
theorem m_Rd_readBracket_0Y (l : Launch) {D : va_G} {cy : Nat → ClassId} {sz n : Nat} {ad : Nat → Nat} {mem : Nat → va_E} {Z a R Ec lim : Nat} {f T : Nat → Int32} {to : Nat → Int32} {nm : Nat → Int64} {m0 : Nat → va_E} {u S : Nat} {A Bw : Ro} {what oe en : Int32} (hlt : l.stackTraces = false) (hn : 224 ≤ n) (hT : TX cy ad Z f m0) (hf : ∀ k, k < Z → f k = T k) (hRX : RX cy ad lim a R Ec to nm m0 mem) (haB : a ≤ 300) (hER : ER ad R Ec Bw mem) (hSR : SR cy ad S Bw mem) (hSa : S ≤ a) (haZ : a < Z) (hwe : (what = 1 ∧ en = 41) ∨ (what = 2 ∧ en = 93)) (hLK : LKa Ec A) : NXr l D cy sz n ad y_Rd_readBracket c_Rd_readBracket 4 (some (.object "AbnfChart$Element")) ({ frames := 50, cells := 1, slots := 6, locals := 1220 } : Room) mem [.ref (ad 222), .int (0), .int (en)] (fun r mem' => ∃ (la a1 u1 R1 E1 S1 : Nat) (A9 B9 : Ro) (nm1 : Nat → Int64) (to1 : Nat → Int32), r = ad (20 + 2 * Ec) ∧ Ec + 1 < E1 ∧ R ≤ R1 ∧ a + 1 < a1 ∧ gapF T Z a1 + 1 ≤ Z ∧ TOK R R1 to to1 ∧ RX cy ad lim (gapF T Z a1 + 1) R1 E1 to1 nm1 m0 mem' ∧ ALI cy ad T Z 1 (seqS T Z (gapF T Z (a + 1)) u R (Ec + 1) 1 (entA A 1 Ec what oe) nm) Ec R Ec S u (entA A 1 Ec what oe) Bw la a1 u1 R1 E1 S1 A9 B9 nm1 mem' ∧ hereF Z T (gapF T Z a1) = en ∧ entS T Z (a + 1) u R Ec 1 A nm what oe = some (gapF T Z (a + 1), u, R, Ec + 1, 1, (entA A 1 Ec what oe), nm, true)) (fun X mem' => ((X = cIA ∨ X = cIS) ∧ ∃ rc' ec' : Nat, RS cy ad lim rc' ec' m0 mem') ∧ (Fai T Z (entS T Z (a + 1) u R Ec 1 A nm what oe))) := by
  refine vx_ofW (cc := c_Rd_readBracket) (maxL := 4) (ret := (some (.object "AbnfChart$Element"))) (by decide) rfl ?_
  intro p e s m args below meth c s₁ B hml hno hv
  obtain ⟨rfl, E, hP, hD⟩ := hv
  have hx := B.exec
  have hb := B.bytes
  have hr := B.returns
  have hlocks := B.notSynchronized
  have Bx : MB p s m [.ref (ad 222), .int (0), .int (en)].toArray c c_Rd_readBracket "AbnfChart$Reader" D cy := ⟨hx, hb, tb_all (atoms_spec B.pre) E.2.1, findClass_of_methodNamed B.named, E.1⟩
  have hS : va_S (Az sz) s.heap s.heap [] := va_S.rf
  have hl := lv_entry ([.ref (ad 222), .int (0), .int (en)]) (n := 4) (Nat.le_of_ble_eq_true rfl)
  rw [lg_entry_eq]
  generalize (lg_sl ([.ref (ad 222), .int (0), .int (en)]) ++ List.replicate (4 - (lg_sl ([.ref (ad 222), .int (0), .int (en)])).length) Slot.unset).toArray = ls at hl ⊢
  have hl : lv_has ls 4 [(0, .ref (ad 222)), (1, .int (0)), (2, .int (en))] := hl
  have hZ9 := hT.2.1
  have hbd9 := hRX.1.1.1
  have hfr0 : ∀ i, 19 ≤ i ∧ i < 222 → mem i = mem i := fun _ _ => rfl
  obtain ⟨ft1, h9_2⟩ := hRX.2.1
  have h1_3 : mem 1 = .inr (0, [.ref (ad 2), .int (nI Z)]) := (hRX.1.2.2 1 (by omega)).trans hT.1
  have h2_4 : mem 2 = .inl (cy 0, 240, .inl f) := (hRX.1.2.2 2 (by omega)).trans hT.2.2
  have h5_5 := hRX.1.1.2.1
  have hbd11 := hRX.1.1.1
  obtain ⟨S6, g7, hS_8, h220_9, h221_10⟩ := hRX.1.1.2.2.2.2.2.2
  refine lv_aload_n Bx.1 Bx.2.1 d_Rd_readBracket_0 rfl (lv_at hl 0 rfl) ?_
  refine lv_iload_n Bx.1 Bx.2.1 d_Rd_readBracket_1 rfl (lv_at hl 1 rfl) ?_
  refine lv_bipush (v := 6) Bx.1 Bx.2.1 d_Rd_readBracket_2 (by decide) ?_
  refine lv_icmp_ge Bx.1 Bx.2.1 d_Rd_readBracket_4 rfl (fun hb12 => ?_) (fun hb12 => ?_)
  · exact absurd hb12 (by decide)
  · refine lv_iconst (v := 1) Bx.1 Bx.2.1 d_Rd_readBracket_7 (by decide) ?_
    refine lv_goto Bx.1 Bx.2.1 d_Rd_readBracket_8 rfl ?_
    refine lv_aload_n Bx.1 Bx.2.1 d_Rd_readBracket_12 rfl (lv_at hl 0 rfl) ?_
    refine f_get Bx hP (by omega) h9_2 rfl inRd 2 (by decide) kw_146 rfl rfl d_Rd_readBracket_13 ?_
    refine f_xVv (na := 2) (As := [.int (1), .int (nI a)]) (rest := []) Bx hml E hP hD hS (by omega) h9_2 rfl (m_Rd_needRoomX l hlt hn hT hf hRX (by omega)) kw_383 kw_385 sel_Rd_needRoom kw_6 kw_386 (by decide +kernel) ⟨rfl, rfl⟩ ⟨Nat.le_of_ble_eq_true rfl, Nat.le_of_ble_eq_true rfl⟩ rfl hl.1 (Nat.le_of_ble_eq_true rfl) d_Rd_readBracket_16 ⟨Nat.le_of_ble_eq_true rfl, Nat.le_of_ble_eq_true rfl⟩ (fun X ce q9 memx H locs hx9 hP hS g1 g2 g3 => f_out hlocks hno hP hS g1 g2 g3 ⟨Nat.le_of_ble_eq_true rfl, Nat.le_of_ble_eq_true rfl⟩ ⟨hx9.1, absurd hx9.2 (by decide)⟩) (fun mem14 H locs hq hP hS => ?_)
    have hD : va_D (Az sz) (fw n ad mem14) := fw_D hD
    obtain ⟨hqe, hg15⟩ := hq
    rw [hqe] at hP hD
    refine lv_aload_n Bx.1 Bx.2.1 d_Rd_readBracket_19 rfl (lv_at hl 0 rfl) ?_
    refine lv_dup Bx.1 Bx.2.1 d_Rd_readBracket_20 rfl ?_
    refine f_get Bx hP (by omega) h9_2 rfl inRd 2 (by decide) kw_146 rfl rfl d_Rd_readBracket_21 ?_
    refine lv_iconst (v := 1) Bx.1 Bx.2.1 d_Rd_readBracket_24 (by decide) ?_
    refine lv_iadd Bx.1 Bx.2.1 d_Rd_readBracket_25 ?_
    rw [show nI a + 1 = nI (a + 1) from nI_add (a) (1)]
    refine f_put Bx hP hD hS (by omega) h9_2 rfl inRd tyRd okRd nmRd 2 (by decide) kw_146 rfl rfl rfl rfl (Nat.le_of_ble_eq_true rfl) d_Rd_readBracket_26 (fun H locs hP hS => ?_)
    obtain ⟨mem16, e_mem16⟩ : ∃ z, z = va_up mem (222) (.inr (4, [.ref (ad 1), .ref (ad 5), .int (nI (a + 1)), .int (ft1)])) := ⟨_, rfl⟩
    have hP : va_P D vcl (fw n ad mem16) H := by rw [e_mem16]; exact hP
    have hD : va_D (Az sz) (fw n ad mem16) := fw_D hD
    have h_mem16 : mem16 (222) = .inr (4, [.ref (ad 1), .ref (ad 5), .int (nI (a + 1)), .int (ft1)]) := by rw [e_mem16, va_up_self]
    have hh17 := (va_up_ne mem (.inr (4, [.ref (ad 1), .ref (ad 5), .int (nI (a + 1)), .int (ft1)])) (show (1 : Nat) ≠ 222 by first | decide | assumption | omega)).trans h1_3
    rw [← e_mem16] at hh17
    have hh18 := (va_up_ne mem (.inr (4, [.ref (ad 1), .ref (ad 5), .int (nI (a + 1)), .int (ft1)])) (show (5 : Nat) ≠ 222 by first | decide | assumption | omega)).trans h5_5
    rw [← e_mem16] at hh18
    have hh19 := (va_up_ne mem (.inr (4, [.ref (ad 1), .ref (ad 5), .int (nI (a + 1)), .int (ft1)])) (show (220 : Nat) ≠ 222 by first | decide | assumption | omega)).trans h220_9
    rw [← e_mem16] at hh19
    have hfr20 : ∀ i, 19 ≤ i ∧ i < 222 → mem16 i = mem i := fun i q => (show mem16 i = mem i by rw [e_mem16]; exact va_up_ne _ _ (by omega)).trans (hfr0 i q)
    have hRX21 : RX cy ad lim (a + 1) (R) (Ec) (to) (nm) m0 mem16 := by rw [e_mem16]; exact hRX.at
    refine lv_aload_n Bx.1 Bx.2.1 d_Rd_readBracket_29 rfl (lv_at hl 0 rfl) ?_
    refine f_callVi (na := 0) (As := []) (rest := []) Bx hml E hP hD hS (by omega) h_mem16 rfl (m_Rd_readGapY l hn hT hf hRX21 (by omega) (by omega)) kw_397 kw_399 sel_Rd_readGap kw_6 kw_400 (by decide +kernel) ⟨rfl, rfl⟩ ⟨Nat.le_of_ble_eq_true rfl, Nat.le_of_ble_eq_true rfl⟩ rfl hl.1 (Nat.le_of_ble_eq_true rfl) d_Rd_readBracket_30 ⟨Nat.le_of_ble_eq_true rfl, Nat.le_of_ble_eq_true rfl⟩ (fun r22 mem23 H locs hq hP hS => ?_)
    have hD : va_D (Az sz) (fw n ad mem23) := fw_D hD
    obtain ⟨g24, eg25⟩ : ∃ z, z = gapF T Z (a + 1) := ⟨_, rfl⟩
    rw [← eg25] at hq
    obtain ⟨hRX26, hgc27, hfa28⟩ := hq
    have hg29 : a + 1 ≤ g24 := by rw [eg25]; exact gapF_ge T Z _
    have hg30 : g24 ≤ Z := by rw [eg25]; exact gapF_le T (by omega)
    have hfr31 : ∀ i, 19 ≤ i ∧ i < 222 → mem23 i = mem i := fun i q => (hfa28 i (by omega)).trans (hfr20 i q)
    obtain ⟨ft32, h9_33⟩ := hRX26.2.1
    have h1_34 : mem23 1 = .inr (0, [.ref (ad 2), .int (nI Z)]) := (hRX26.1.2.2 1 (by omega)).trans hT.1
    have h2_35 : mem23 2 = .inl (cy 0, 240, .inl f) := (hRX26.1.2.2 2 (by omega)).trans hT.2.2
    have h5_36 := hRX26.1.1.2.1
    have hbd42 := hRX26.1.1.1
    obtain ⟨S37, g38, hS_39, h220_40, h221_41⟩ := hRX26.1.1.2.2.2.2.2.2
    refine lv_pop Bx.1 Bx.2.1 d_Rd_readBracket_33 rfl ?_
    refine lv_aload_n Bx.1 Bx.2.1 d_Rd_readBracket_34 rfl (lv_at hl 0 rfl) ?_
    refine lv_iload_n Bx.1 Bx.2.1 d_Rd_readBracket_35 rfl (lv_at hl 1 rfl) ?_
    refine lv_iconst (v := 1) Bx.1 Bx.2.1 d_Rd_readBracket_36 (by decide) ?_
    refine lv_iadd Bx.1 Bx.2.1 d_Rd_readBracket_37 ?_
    rw [show (0 + 1 : Int32) = 1 from rfl]
    have her43 : ER ad R Ec Bw mem23 := hER.fr (Nat.le_refl _) (fun i9 hi9 => hfr31 (20 + 2 * i9) (by omega))
    have hsr44 : SR cy ad S Bw mem23 := ⟨(hfr31 220 (by omega)).trans hSR.1, (hfr31 221 (by omega)).trans hSR.2⟩
    refine f_xVr (na := 1) (As := [.int (1)]) (rest := []) Bx hml E hP hD hS (by omega) h9_33 rfl (m_Rd_readAlternatives_1Y l hlt hn hT hf hRX26 (by omega) (u := u) (A := (entA A 1 Ec what oe)) her43 hsr44 (by omega) (by omega) (ent_lka hLK) (cq := Ec) entA_f.2.2.2.2.2.2.2.1 (Nat.le_refl _) (by rw [entA_f.2.2.2.2.2.2.1, upd_self])) kw_405 kw_407 sel_Rd_readAlternatives kw_6 kw_408 (by decide +kernel) ⟨rfl, rfl⟩ ⟨Nat.le_of_ble_eq_true rfl, Nat.le_of_ble_eq_true rfl⟩ rfl hl.1 (Nat.le_of_ble_eq_true rfl) d_Rd_readBracket_38 ⟨Nat.le_of_ble_eq_true rfl, Nat.le_of_ble_eq_true rfl⟩ (fun X ce q9 memx H locs hx9 hP hS g1 g2 g3 => f_out hlocks hno hP hS g1 g2 g3 ⟨Nat.le_of_ble_eq_true rfl, Nat.le_of_ble_eq_true rfl⟩ ⟨hx9.1, hx9.2.elim (fun z => Or.inl (entS_no (Or.inl (by rw [← eg25]; exact z)))) (fun z => z.elim (fun z => Or.inl (entS_no (Or.inr z))) (fun z => Fai.br0 (by rw [ent_ok (by rw [← eg25]; exact z.1) z.2.1, ← eg25]) z.2.2))⟩) (fun r45 mem46 H locs hq hP hS => ?_)
    have hD : va_D (Az sz) (fw n ad mem46) := fw_D hD
    obtain ⟨la47, ax48, ux49, Rx50, Ex51, Sx52, Ax53, Bx_54, nx55, tox56, hr957, h158, h259, h360, h461, htk62, hRX63, ali64, hbg65, hE66, h4767, hnb68⟩ := hq
    subst hr957
    obtain ⟨g69, eg70⟩ : ∃ z, z = gapF T Z ax48 := ⟨_, rfl⟩
    have hg71 : ax48 ≤ g69 := by rw [eg70]; exact gapF_ge T Z _
    have hg72 : g69 ≤ Z := by rw [eg70]; exact gapF_le T (by omega)
    rw [← eg70] at hRX63
    obtain ⟨ft73, h9_74⟩ := hRX63.2.1
    have h1_75 : mem46 1 = .inr (0, [.ref (ad 2), .int (nI Z)]) := (hRX63.1.2.2 1 (by omega)).trans hT.1
    have h2_76 : mem46 2 = .inl (cy 0, 240, .inl f) := (hRX63.1.2.2 2 (by omega)).trans hT.2.2
    have h5_77 := hRX63.1.1.2.1
    have hbd83 := hRX63.1.1.1
    obtain ⟨S78, g79, hS_80, h220_81, h221_82⟩ := hRX63.1.1.2.2.2.2.2.2
    have hbd84 := hRX63.1.1.1
    have hent : entS T Z (a + 1) u R Ec 1 A nm what oe = some (g24, u, R, Ec + 1, 1, (entA A 1 Ec what oe), nm, true) := by rw [ent_ok (by rw [← eg25]; exact hbg65) hE66, ← eg25]
    have hA5 : Ax53 235 1 = what := by
      obtain ⟨c1, ho, hg, hk, hs⟩ := ali64.1
      rw [hk 1 (by omega), entA_5, upd_self]
    refine lv_astore_n (lv' := [(3, .ref (ad (20 + 2 * Ec))), (0, .ref (ad 222)), (1, .int (0)), (2, .int (en))]) Bx.1 Bx.2.1 d_Rd_readBracket_41 rfl hl (by decide) rfl (fun ls hl => ?_)
    refine lv_aload_n Bx.1 Bx.2.1 d_Rd_readBracket_42 rfl (lv_at hl 1 rfl) ?_
    refine lv_aload_n Bx.1 Bx.2.1 d_Rd_readBracket_43 rfl (lv_at hl 1 rfl) ?_
    refine f_callVi (na := 0) (As := []) (rest := [.ref (ad 222)]) Bx hml E hP hD hS (by omega) h9_74 rfl (m_Rd_peekX l hn hT hf hRX63 (by omega)) kw_353 kw_355 sel_Rd_peek kw_6 kw_356 (by decide +kernel) ⟨rfl, rfl⟩ ⟨Nat.le_of_ble_eq_true rfl, Nat.le_of_ble_eq_true rfl⟩ rfl hl.1 (Nat.le_of_ble_eq_true rfl) d_Rd_readBracket_44 ⟨Nat.le_of_ble_eq_true rfl, Nat.le_of_ble_eq_true rfl⟩ (fun r86 mem87 H locs hq hP hS => ?_)
    have hD : va_D (Az sz) (fw n ad mem87) := fw_D hD
    obtain ⟨hqe, hpk85⟩ := hq
    rw [hqe] at hP hD
    subst hpk85
    refine lv_iload_n Bx.1 Bx.2.1 d_Rd_readBracket_47 rfl (lv_at hl 3 rfl) ?_
    refine lv_icmp_ne Bx.1 Bx.2.1 d_Rd_readBracket_48 rfl (fun hb89 => ?_) (fun hb89 => ?_)
    · refine lv_iconst (v := 0) Bx.1 Bx.2.1 d_Rd_readBracket_55 (by decide) ?_
      refine lv_aload_n Bx.1 Bx.2.1 d_Rd_readBracket_56 rfl (lv_at hl 1 rfl) ?_
      refine f_get Bx hP (by omega) h9_74 rfl inRd 2 (by decide) kw_146 rfl rfl d_Rd_readBracket_57 ?_
      refine f_xVv (na := 2) (As := [.int (0), .int (nI g69)]) (rest := []) Bx hml E hP hD hS (by omega) h9_74 rfl (m_Rd_needReadableX l hlt hn hT hf hRX63 (by omega)) kw_360 kw_362 sel_Rd_needReadable kw_6 kw_363 (by decide +kernel) ⟨rfl, rfl⟩ ⟨Nat.le_of_ble_eq_true rfl, Nat.le_of_ble_eq_true rfl⟩ rfl hl.1 (Nat.le_of_ble_eq_true rfl) d_Rd_readBracket_60 ⟨Nat.le_of_ble_eq_true rfl, Nat.le_of_ble_eq_true rfl⟩ (fun X ce q9 memx H locs hx9 hP hS g1 g2 g3 => f_out hlocks hno hP hS g1 g2 g3 ⟨Nat.le_of_ble_eq_true rfl, Nat.le_of_ble_eq_true rfl⟩ ⟨hx9.1, Fai.br1 hent ali64.1.suc (br_no hwe hA5 (by rw [← eg70]; exact hb89) h4767 hnb68)⟩) (fun mem91 H locs hq hP hS => ?_)
      have hD : va_D (Az sz) (fw n ad mem91) := fw_D hD
      obtain ⟨hqe, hg92⟩ := hq
      rw [hqe] at hP hD
      exact absurd rfl hg92
    · refine lv_iconst (v := 1) Bx.1 Bx.2.1 d_Rd_readBracket_51 (by decide) ?_
      refine lv_goto Bx.1 Bx.2.1 d_Rd_readBracket_52 rfl ?_
      refine lv_aload_n Bx.1 Bx.2.1 d_Rd_readBracket_56 rfl (lv_at hl 1 rfl) ?_
      refine f_get Bx hP (by omega) h9_74 rfl inRd 2 (by decide) kw_146 rfl rfl d_Rd_readBracket_57 ?_
      refine f_xVv (na := 2) (As := [.int (1), .int (nI g69)]) (rest := []) Bx hml E hP hD hS (by omega) h9_74 rfl (m_Rd_needReadableX l hlt hn hT hf hRX63 (by omega)) kw_360 kw_362 sel_Rd_needReadable kw_6 kw_363 (by decide +kernel) ⟨rfl, rfl⟩ ⟨Nat.le_of_ble_eq_true rfl, Nat.le_of_ble_eq_true rfl⟩ rfl hl.1 (Nat.le_of_ble_eq_true rfl) d_Rd_readBracket_60 ⟨Nat.le_of_ble_eq_true rfl, Nat.le_of_ble_eq_true rfl⟩ (fun X ce q9 memx H locs hx9 hP hS g1 g2 g3 => f_out hlocks hno hP hS g1 g2 g3 ⟨Nat.le_of_ble_eq_true rfl, Nat.le_of_ble_eq_true rfl⟩ ⟨hx9.1, absurd hx9.2 (by decide)⟩) (fun mem94 H locs hq hP hS => ?_)
      have hD : va_D (Az sz) (fw n ad mem94) := fw_D hD
      obtain ⟨hqe, hg95⟩ := hq
      rw [hqe] at hP hD
      refine lv_aload_n Bx.1 Bx.2.1 d_Rd_readBracket_63 rfl (lv_at hl 1 rfl) ?_
      refine lv_dup Bx.1 Bx.2.1 d_Rd_readBracket_64 rfl ?_
      refine f_get Bx hP (by omega) h9_74 rfl inRd 2 (by decide) kw_146 rfl rfl d_Rd_readBracket_65 ?_
      refine lv_iconst (v := 1) Bx.1 Bx.2.1 d_Rd_readBracket_68 (by decide) ?_
      refine lv_iadd Bx.1 Bx.2.1 d_Rd_readBracket_69 ?_
      rw [show nI g69 + 1 = nI (g69 + 1) from nI_add (g69) (1)]
      refine f_put Bx hP hD hS (by omega) h9_74 rfl inRd tyRd okRd nmRd 2 (by decide) kw_146 rfl rfl rfl rfl (Nat.le_of_ble_eq_true rfl) d_Rd_readBracket_70 (fun H locs hP hS => ?_)
      obtain ⟨mem96, e_mem96⟩ : ∃ z, z = va_up mem46 (222) (.inr (4, [.ref (ad 1), .ref (ad 5), .int (nI (g69 + 1)), .int (ft73)])) := ⟨_, rfl⟩
      have hP : va_P D vcl (fw n ad mem96) H := by rw [e_mem96]; exact hP
      have hD : va_D (Az sz) (fw n ad mem96) := fw_D hD
      have h_mem96 : mem96 (222) = .inr (4, [.ref (ad 1), .ref (ad 5), .int (nI (g69 + 1)), .int (ft73)]) := by rw [e_mem96, va_up_self]
      have hh97 := (va_up_ne mem46 (.inr (4, [.ref (ad 1), .ref (ad 5), .int (nI (g69 + 1)), .int (ft73)])) (show (1 : Nat) ≠ 222 by first | decide | assumption | omega)).trans h1_75
      rw [← e_mem96] at hh97
      have hh98 := (va_up_ne mem46 (.inr (4, [.ref (ad 1), .ref (ad 5), .int (nI (g69 + 1)), .int (ft73)])) (show (5 : Nat) ≠ 222 by first | decide | assumption | omega)).trans h5_77
      rw [← e_mem96] at hh98
      have hh99 := (va_up_ne mem46 (.inr (4, [.ref (ad 1), .ref (ad 5), .int (nI (g69 + 1)), .int (ft73)])) (show (220 : Nat) ≠ 222 by first | decide | assumption | omega)).trans h220_81
      rw [← e_mem96] at hh99
      have her100 : ER ad (Rx50) (Ex51) (Bx_54) mem96 := ali64.2.1.fr (Nat.le_refl _) (fun i9 hi9 => by rw [e_mem96]; exact va_up_ne _ _ (by omega))
      have hsr101 : SR cy ad (Sx52) (Bx_54) mem96 := ⟨(show mem96 220 = _ from by rw [e_mem96]; exact va_up_ne _ _ (by omega)).trans ali64.2.2.1.1, (show mem96 221 = _ from by rw [e_mem96]; exact va_up_ne _ _ (by omega)).trans ali64.2.2.1.2⟩
      have hRX102 : RX cy ad lim (g69 + 1) (Rx50) (Ex51) (tox56) (nx55) m0 mem96 := by rw [e_mem96]; exact hRX63.at
      refine lv_aload_n Bx.1 Bx.2.1 d_Rd_readBracket_73 rfl (lv_at hl 0 rfl) ?_
      have hal9 : ALI cy ad T Z 1 (seqS T Z (gapF T Z (a + 1)) u R (Ec + 1) 1 (entA A 1 Ec what oe) nm) Ec R Ec S u (entA A 1 Ec what oe) Bw la47 ax48 ux49 Rx50 Ex51 Sx52 Ax53 Bx_54 nx55 mem96 := by rw [← eg25]; exact ⟨ali64.1, her100, hsr101, ali64.2.2.2⟩
      exact x_aret hx hb hlocks hr (⟨la47, ax48, ux49, Rx50, Ex51, Sx52, Ax53, Bx_54, nx55, tox56, rfl, by omega, by omega, by omega, by rw [← eg70]; have := br_lt hwe hb89; omega, htk62, by rw [← eg70]; exact hRX102, hal9, by rw [← eg70]; exact hb89, by rw [← eg25]; exact hent⟩) hP hS d_Rd_readBracket_74
set_option maxHeartbeats 4000000 in
set_option maxRecDepth 100000 in
theorem m_Rd_readOption_0Y (l : Launch) {D : va_G} {cy : Nat → ClassId} {sz n : Nat} {ad : Nat → Nat} {mem : Nat → va_E} {Z a R Ec lim : Nat} {f T : Nat → Int32} {to : Nat → Int32} {nm : Nat → Int64} {m0 : Nat → va_E} {u S : Nat} {A Bw : Ro} (hlt : l.stackTraces = false) (hn : 224 ≤ n) (hT : TX cy ad Z f m0) (hf : ∀ k, k < Z → f k = T k) (hRX : RX cy ad lim a R Ec to nm m0 mem) (haB : a ≤ 300) (hER : ER ad R Ec Bw mem) (hSR : SR cy ad S Bw mem) (hSa : S ≤ a) (haZ : a < Z) (hLK : LKa Ec A) (hF : FRM A 0 Ec) (c91 : hereF Z T a = 91) : NXr l D cy sz n ad y_Rd_readOption c_Rd_readOption 3 (some (.object "AbnfChart$Element")) ({ frames := 51, cells := 1, slots := 6, locals := 1243 } : Room) mem [.ref (ad 222), .int (0)] (fun r mem' => ∃ (k' a' u' R' E' S' : Nat) (A' Bw' : Ro) (nm' : Nat → Int64) (to' : Nat → Int32), r = ad (20 + 2 * k') ∧ Ec ≤ k' ∧ k' < E' ∧ R ≤ R' ∧ a < a' ∧ a' ≤ Z ∧ TOK R R' to to' ∧ RX cy ad lim a' R' E' to' nm' m0 mem' ∧ RDS cy ad T Z 0 (singS T Z a u R Ec 0 A nm) (PSf A 0) R Ec S u A Bw k' a' u' R' E' S' A' Bw' nm' mem' ∧ A' 238 0 = A 238 0) (fun X mem' => ((X = cIA ∨ X = cIS) ∧ ∃ rc' ec' : Nat, RS cy ad lim rc' ec' m0 mem') ∧ (Fai T Z (singS T Z a u R Ec 0 A nm))) := by
  refine vx_ofW (cc := c_Rd_readOption) (maxL := 3) (ret := (some (.object "AbnfChart$Element"))) (by decide) rfl ?_
  intro p e s m args below meth c s₁ B hml hno hv
  obtain ⟨rfl, E, hP, hD⟩ := hv
  have hx := B.exec
  have hb := B.bytes
  have hr := B.returns
  have hlocks := B.notSynchronized
  have Bx : MB p s m [.ref (ad 222), .int (0)].toArray c c_Rd_readOption "AbnfChart$Reader" D cy := ⟨hx, hb, tb_all (atoms_spec B.pre) E.2.1, findClass_of_methodNamed B.named, E.1⟩
  have hS : va_S (Az sz) s.heap s.heap [] := va_S.rf
  have hl := lv_entry ([.ref (ad 222), .int (0)]) (n := 3) (Nat.le_of_ble_eq_true rfl)
  rw [lg_entry_eq]
  generalize (lg_sl ([.ref (ad 222), .int (0)]) ++ List.replicate (3 - (lg_sl ([.ref (ad 222), .int (0)])).length) Slot.unset).toArray = ls at hl ⊢
  have hl : lv_has ls 3 [(0, .ref (ad 222)), (1, .int (0))] := hl
  have hZ9 := hT.2.1
  have hbd9 := hRX.1.1.1
  have hfr0 : ∀ i, 19 ≤ i ∧ i < 222 ∧ i ≠ 20 + 2 * Ec → mem i = mem i := fun _ _ => rfl
  obtain ⟨ft1, h9_2⟩ := hRX.2.1
  have h1_3 : mem 1 = .inr (0, [.ref (ad 2), .int (nI Z)]) := (hRX.1.2.2 1 (by omega)).trans hT.1
  have h2_4 : mem 2 = .inl (cy 0, 240, .inl f) := (hRX.1.2.2 2 (by omega)).trans hT.2.2
  have h5_5 := hRX.1.1.2.1
  have hbd11 := hRX.1.1.1
  obtain ⟨S6, g7, hS_8, h220_9, h221_10⟩ := hRX.1.1.2.2.2.2.2.2
  refine lv_aload_n Bx.1 Bx.2.1 d_Rd_readOption_0 rfl (lv_at hl 0 rfl) ?_
  refine lv_iconst (v := 3) Bx.1 Bx.2.1 d_Rd_readOption_1 (by decide) ?_
  refine lv_aload_n Bx.1 Bx.2.1 d_Rd_readOption_2 rfl (lv_at hl 0 rfl) ?_
  refine f_get Bx hP (by omega) h9_2 rfl inRd 2 (by decide) kw_146 rfl rfl d_Rd_readOption_3 ?_
  refine f_xVr (na := 2) (As := [.int (3), .int (nI a)]) (rest := []) Bx hml E hP hD hS (by omega) h9_2 rfl (m_Rd_addElementY l hlt hn hT hf hRX (by omega)) kw_419 kw_421 sel_Rd_addElement kw_6 kw_422 (by decide +kernel) ⟨rfl, rfl⟩ ⟨Nat.le_of_ble_eq_true rfl, Nat.le_of_ble_eq_true rfl⟩ rfl hl.1 (Nat.le_of_ble_eq_true rfl) d_Rd_readOption_6 ⟨Nat.le_of_ble_eq_true rfl, Nat.le_of_ble_eq_true rfl⟩ (fun X ce q9 memx H locs hx9 hP hS g1 g2 g3 => f_out hlocks hno hP hS g1 g2 g3 ⟨Nat.le_of_ble_eq_true rfl, Nat.le_of_ble_eq_true rfl⟩ ⟨hx9.1, Or.inl (sing_o0 (l91 c91).1 c91 (Or.inr hx9.2))⟩) (fun r12 mem13 H locs hq hP hS => ?_)
  have hD : va_D (Az sz) (fw n ad mem13) := fw_D hD
  obtain ⟨hr914, hec15, hRX16, hcl17, hfa18⟩ := hq
  subst hr914
  have hfr19 : ∀ i, 19 ≤ i ∧ i < 222 ∧ i ≠ 20 + 2 * Ec → mem13 i = mem i := fun i q => (hfa18 i (by omega)).trans (hfr0 i q)
  obtain ⟨ft20, h9_21⟩ := hRX16.2.1
  have h1_22 : mem13 1 = .inr (0, [.ref (ad 2), .int (nI Z)]) := (hRX16.1.2.2 1 (by omega)).trans hT.1
  have h2_23 : mem13 2 = .inl (cy 0, 240, .inl f) := (hRX16.1.2.2 2 (by omega)).trans hT.2.2
  have h5_24 := hRX16.1.1.2.1
  have hbd30 := hRX16.1.1.1
  obtain ⟨S25, g26, hS_27, h220_28, h221_29⟩ := hRX16.1.1.2.2.2.2.2.2
  obtain ⟨ft31, h9_32⟩ := hRX16.2.1
  have h1_33 : mem13 1 = .inr (0, [.ref (ad 2), .int (nI Z)]) := (hRX16.1.2.2 1 (by omega)).trans hT.1
  have h2_34 : mem13 2 = .inl (cy 0, 240, .inl f) := (hRX16.1.2.2 2 (by omega)).trans hT.2.2
  have h5_35 := hRX16.1.1.2.1
  have hbd41 := hRX16.1.1.1
  obtain ⟨S36, g37, hS_38, h220_39, h221_40⟩ := hRX16.1.1.2.2.2.2.2.2
  refine lv_astore_n (lv' := [(2, .ref (ad (20 + 2 * Ec))), (0, .ref (ad 222)), (1, .int (0))]) Bx.1 Bx.2.1 d_Rd_readOption_9 rfl hl (by decide) rfl (fun ls hl => ?_)
  refine lv_aload_n Bx.1 Bx.2.1 d_Rd_readOption_10 rfl (lv_at hl 0 rfl) ?_
  refine lv_aload_n Bx.1 Bx.2.1 d_Rd_readOption_11 rfl (lv_at hl 1 rfl) ?_
  refine lv_iload_n Bx.1 Bx.2.1 d_Rd_readOption_12 rfl (lv_at hl 2 rfl) ?_
  refine lv_bipush (v := 93) Bx.1 Bx.2.1 d_Rd_readOption_13 (by decide) ?_
  have her42 : ER ad R (Ec + 1) (bwN Bw Ec 3 (0) (0) (-1) (-1) (-1) (Bw 234)) mem13 := hER.new (Nat.le_refl _) (by rw [vR_m]; exact hcl17) (Or.inl rfl) (fun i9 hi9 => hfr19 (20 + 2 * i9) (by omega))
  have hsr43 : SR cy ad S (bwN Bw Ec 3 (0) (0) (-1) (-1) (-1) (Bw 234)) mem13 := ⟨(hfr19 220 (by omega)).trans hSR.1, (hfr19 221 (by omega)).trans hSR.2⟩
  have hE9 := hec15
  refine f_xVr (na := 2) (As := [.int (0), .int (93)]) (rest := [.ref (ad (20 + 2 * Ec))]) Bx hml E hP hD hS (by omega) h9_32 rfl (m_Rd_readBracket_0Y l hlt hn hT hf hRX16 (by omega) (u := u) (A := elA A Ec 3) (what := 2) (oe := nI Ec) her42 hsr43 (by omega) (by omega) (Or.inr ⟨rfl, rfl⟩) (elA_lka hLK)) kw_447 kw_449 sel_Rd_readBracket kw_6 kw_450 (by decide +kernel) ⟨rfl, rfl⟩ ⟨Nat.le_of_ble_eq_true rfl, Nat.le_of_ble_eq_true rfl⟩ rfl hl.1 (Nat.le_of_ble_eq_true rfl) d_Rd_readOption_15 ⟨Nat.le_of_ble_eq_true rfl, Nat.le_of_ble_eq_true rfl⟩ (fun X ce q9 memx H locs hx9 hP hS g1 g2 g3 => f_out hlocks hno hP hS g1 g2 g3 ⟨Nat.le_of_ble_eq_true rfl, Nat.le_of_ble_eq_true rfl⟩ ⟨hx9.1, hx9.2.eq (sing_op (l91 c91).1 c91 (by omega) hE9)⟩) (fun r44 mem45 H locs hq hP hS => ?_)
  have hD : va_D (Az sz) (fw n ad mem45) := fw_D hD
  obtain ⟨la46, ax47, ux48, Rx49, Ex50, Sx51, Ax52, Bx_53, nx54, tox55, hr956, h157, h258, h359, h460, htk61, hRX62, ali63, hh64, hent65⟩ := hq
  subst hr956
  obtain ⟨ft66, h9_67⟩ := hRX62.2.1
  have h1_68 : mem45 1 = .inr (0, [.ref (ad 2), .int (nI Z)]) := (hRX62.1.2.2 1 (by omega)).trans hT.1
  have h2_69 : mem45 2 = .inl (cy 0, 240, .inl f) := (hRX62.1.2.2 2 (by omega)).trans hT.2.2
  have h5_70 := hRX62.1.1.2.1
  have hbd76 := hRX62.1.1.1
  obtain ⟨S71, g72, hS_73, h220_74, h221_75⟩ := hRX62.1.1.2.2.2.2.2.2
  have hbd77 := hRX62.1.1.1
  have hce78 := (ali63.2.1 Ec (by omega)).1
  refine f_putN Bx hP hD hS (by omega) hce78 rfl inEl tyEl okEl nmEl 4 (by decide) kw_87 rfl rfl rfl rfl (Nat.le_of_ble_eq_true rfl) d_Rd_readOption_18 (fun H locs hP hS => ?_)
  obtain ⟨mem79, e_mem79⟩ : ∃ z, z = va_up mem45 ((20 + 2 * Ec)) (.inr (2, [.int (Bx_53 228 Ec), .int (Bx_53 229 Ec), .int (Bx_53 230 Ec), vR ad (Bx_53 231 Ec), .ref (ad (20 + 2 * (Ec + 1))), vE ad (Bx_53 233 Ec), .ref (ad (21 + 2 * Ec))])) := ⟨_, rfl⟩
  have hP : va_P D vcl (fw n ad mem79) H := by rw [e_mem79]; exact hP
  have hD : va_D (Az sz) (fw n ad mem79) := fw_D hD
  have h_mem79 : mem79 ((20 + 2 * Ec)) = .inr (2, [.int (Bx_53 228 Ec), .int (Bx_53 229 Ec), .int (Bx_53 230 Ec), vR ad (Bx_53 231 Ec), .ref (ad (20 + 2 * (Ec + 1))), vE ad (Bx_53 233 Ec), .ref (ad (21 + 2 * Ec))]) := by rw [e_mem79, va_up_self]
  have hh80 := (va_up_ne mem45 (.inr (2, [.int (Bx_53 228 Ec), .int (Bx_53 229 Ec), .int (Bx_53 230 Ec), vR ad (Bx_53 231 Ec), .ref (ad (20 + 2 * (Ec + 1))), vE ad (Bx_53 233 Ec), .ref (ad (21 + 2 * Ec))])) (show (222 : Nat) ≠ (20 + 2 * Ec) by first | decide | assumption | omega)).trans h9_67
  rw [← e_mem79] at hh80
  have hh81 := (va_up_ne mem45 (.inr (2, [.int (Bx_53 228 Ec), .int (Bx_53 229 Ec), .int (Bx_53 230 Ec), vR ad (Bx_53 231 Ec), .ref (ad (20 + 2 * (Ec + 1))), vE ad (Bx_53 233 Ec), .ref (ad (21 + 2 * Ec))])) (show (1 : Nat) ≠ (20 + 2 * Ec) by first | decide | assumption | omega)).trans h1_68
  rw [← e_mem79] at hh81
  have hh82 := (va_up_ne mem45 (.inr (2, [.int (Bx_53 228 Ec), .int (Bx_53 229 Ec), .int (Bx_53 230 Ec), vR ad (Bx_53 231 Ec), .ref (ad (20 + 2 * (Ec + 1))), vE ad (Bx_53 233 Ec), .ref (ad (21 + 2 * Ec))])) (show (5 : Nat) ≠ (20 + 2 * Ec) by first | decide | assumption | omega)).trans h5_70
  rw [← e_mem79] at hh82
  have hh83 := (va_up_ne mem45 (.inr (2, [.int (Bx_53 228 Ec), .int (Bx_53 229 Ec), .int (Bx_53 230 Ec), vR ad (Bx_53 231 Ec), .ref (ad (20 + 2 * (Ec + 1))), vE ad (Bx_53 233 Ec), .ref (ad (21 + 2 * Ec))])) (show (220 : Nat) ≠ (20 + 2 * Ec) by first | decide | assumption | omega)).trans h220_74
  rw [← e_mem79] at hh83
  have hRX84 : RX cy ad lim (gapF T Z ax47 + 1) (Rx49) (Ex50) (tox55) (nx54) m0 mem79 := by rw [e_mem79]; exact hRX62.el (by omega) (hRX62.1.mk (by omega) (hRX62.1.1.upEl (by omega) (fun _ => ⟨(ali63.2.1 Ec (by omega)).2.1.oR ad, Or.inr ⟨(Ec + 1), by omega, by omega, rfl⟩, (ali63.2.1 Ec (by omega)).2.2.2.oE ad (by omega)⟩)))
  have her85 : ER ad (Rx49) (Ex50) (va_up Bx_53 232 (upd (Bx_53 232) Ec (nI (Ec + 1)))) mem79 := ali63.2.1.part (by omega) (by omega) (by omega) h_mem79 (fun i9 q9 hi9 => by rw [e_mem79]; exact va_up_ne _ _ (by omega))
  have hsr86 : SR cy ad (Sx51) (Bx_53) mem79 := ⟨(show mem79 220 = mem45 220 by rw [e_mem79]; exact va_up_ne _ _ (by omega)).trans ali63.2.2.1.1, (show mem79 221 = mem45 221 by rw [e_mem79]; exact va_up_ne _ _ (by omega)).trans ali63.2.2.1.2⟩
  obtain ⟨ft87, h9_88⟩ := hRX84.2.1
  have h1_89 : mem79 1 = .inr (0, [.ref (ad 2), .int (nI Z)]) := (hRX84.1.2.2 1 (by omega)).trans hT.1
  have h2_90 : mem79 2 = .inl (cy 0, 240, .inl f) := (hRX84.1.2.2 2 (by omega)).trans hT.2.2
  have h5_91 := hRX84.1.1.2.1
  have hbd97 := hRX84.1.1.1
  obtain ⟨S92, g93, hS_94, h220_95, h221_96⟩ := hRX84.1.1.2.2.2.2.2.2
  refine lv_aload_n Bx.1 Bx.2.1 d_Rd_readOption_21 rfl (lv_at hl 0 rfl) ?_
  have hrd9 := opt_rds (nm := nm) hLK (by omega) hF hent65 ali63 hh64 her85 hsr86
  exact x_aret hx hb hlocks hr (⟨Ec, gapF T Z ax47 + 1, ux48, Rx49, Ex50, Sx51, _, _, nx54, tox55, rfl, by omega, by omega, by omega, by have := gapF_ge T Z ax47; omega, by omega, htk61, hRX84, rdsEq hrd9.1 (sing_op (l91 c91).1 c91 (by omega) hE9), hrd9.2⟩) hP hS d_Rd_readOption_22
set_option maxHeartbeats 4000000 in
set_option maxRecDepth 100000 in
theorem m_Rd_readElement_0Y (l : Launch) {D : va_G} {cy : Nat → ClassId} {sz n : Nat} {ad : Nat → Nat} {mem : Nat → va_E} {Z a R Ec lim : Nat} {f T : Nat → Int32} {to : Nat → Int32} {nm : Nat → Int64} {m0 : Nat → va_E} {u S : Nat} {A Bw : Ro} (hlt : l.stackTraces = false) (hn : 224 ≤ n) (hT : TX cy ad Z f m0) (hf : ∀ k, k < Z → f k = T k) (hRX : RX cy ad lim a R Ec to nm m0 mem) (haB : a ≤ 300) (hER : ER ad R Ec Bw mem) (hSR : SR cy ad S Bw mem) (hSa : S ≤ a) (haZ : a ≤ Z) (hLK : LKa Ec A) (hF : FRM A 0 Ec) : NXr l D cy sz n ad y_Rd_readElement c_Rd_readElement 2 (some (.object "AbnfChart$Element")) ({ frames := 52, cells := 1, slots := 6, locals := 1266 } : Room) mem [.ref (ad 222), .int (0)] (fun r mem' => ∃ (k' a' u' R' E' S' : Nat) (A' Bw' : Ro) (nm' : Nat → Int64) (to' : Nat → Int32), r = ad (20 + 2 * k') ∧ Ec ≤ k' ∧ k' < E' ∧ R ≤ R' ∧ a < a' ∧ a' ≤ Z ∧ TOK R R' to to' ∧ RX cy ad lim a' R' E' to' nm' m0 mem' ∧ RDS cy ad T Z 0 (singS T Z a u R Ec 0 A nm) (PSf A 0) R Ec S u A Bw k' a' u' R' E' S' A' Bw' nm' mem' ∧ A' 238 0 = A 238 0 ∧ OKc (hereF Z T a)) (fun X mem' => ((X = cIA ∨ X = cIS) ∧ ∃ rc' ec' : Nat, RS cy ad lim rc' ec' m0 mem') ∧ (Fai T Z (singS T Z a u R Ec 0 A nm) ∨ ¬ OKc (hereF Z T a))) := by
  refine vx_ofW (cc := c_Rd_readElement) (maxL := 2) (ret := (some (.object "AbnfChart$Element"))) (by decide) rfl ?_
  intro p e s m args below meth c s₁ B hml hno hv
  obtain ⟨rfl, E, hP, hD⟩ := hv
  have hx := B.exec
  have hb := B.bytes
  have hr := B.returns
  have hlocks := B.notSynchronized
  have Bx : MB p s m [.ref (ad 222), .int (0)].toArray c c_Rd_readElement "AbnfChart$Reader" D cy := ⟨hx, hb, tb_all (atoms_spec B.pre) E.2.1, findClass_of_methodNamed B.named, E.1⟩
  have hS : va_S (Az sz) s.heap s.heap [] := va_S.rf
  have hl := lv_entry ([.ref (ad 222), .int (0)]) (n := 2) (Nat.le_of_ble_eq_true rfl)
  rw [lg_entry_eq]
  generalize (lg_sl ([.ref (ad 222), .int (0)]) ++ List.replicate (2 - (lg_sl ([.ref (ad 222), .int (0)])).length) Slot.unset).toArray = ls at hl ⊢
  have hl : lv_has ls 2 [(0, .ref (ad 222)), (1, .int (0))] := hl
  have hZ9 := hT.2.1
  have hbd9 := hRX.1.1.1
  have hfr0 : ∀ i, 19 ≤ i ∧ i < 222 ∧ i ≠ 20 + 2 * Ec → mem i = mem i := fun _ _ => rfl
  obtain ⟨ft1, h9_2⟩ := hRX.2.1
  have h1_3 : mem 1 = .inr (0, [.ref (ad 2), .int (nI Z)]) := (hRX.1.2.2 1 (by omega)).trans hT.1
  have h2_4 : mem 2 = .inl (cy 0, 240, .inl f) := (hRX.1.2.2 2 (by omega)).trans hT.2.2
  have h5_5 := hRX.1.1.2.1
  have hbd11 := hRX.1.1.1
  obtain ⟨S6, g7, hS_8, h220_9, h221_10⟩ := hRX.1.1.2.2.2.2.2.2
  refine lv_aload_n Bx.1 Bx.2.1 d_Rd_readElement_0 rfl (lv_at hl 0 rfl) ?_
  refine f_callVi (na := 0) (As := []) (rest := []) Bx hml E hP hD hS (by omega) h9_2 rfl (m_Rd_peekX l hn hT hf hRX (by omega)) kw_353 kw_355 sel_Rd_peek kw_6 kw_356 (by decide +kernel) ⟨rfl, rfl⟩ ⟨Nat.le_of_ble_eq_true rfl, Nat.le_of_ble_eq_true rfl⟩ rfl hl.1 (Nat.le_of_ble_eq_true rfl) d_Rd_readElement_1 ⟨Nat.le_of_ble_eq_true rfl, Nat.le_of_ble_eq_true rfl⟩ (fun r13 mem14 H locs hq hP hS => ?_)
  have hD : va_D (Az sz) (fw n ad mem14) := fw_D hD
  obtain ⟨hqe, hpk12⟩ := hq
  rw [hqe] at hP hD
  subst hpk12
  refine lv_topi (fun v16 e_v16 => ?_)
  by_cases c34 : v16 = 34
  · rw [c34]
    refine lv_lookup (off := 58) (tgt := 62) Bx.1 Bx.2.1 d_Rd_readElement_4 (by decide) (by decide) rfl ?_
    rw [e_v16] at c34
    have hlt34 := hereF_lt (show hereF Z T (a) ≠ -1 by rw [c34]; decide)
    refine lv_aload_n Bx.1 Bx.2.1 d_Rd_readElement_62 rfl (lv_at hl 0 rfl) ?_
    refine lv_aload_n Bx.1 Bx.2.1 d_Rd_readElement_63 rfl (lv_at hl 0 rfl) ?_
    refine f_get Bx hP (by omega) h9_2 rfl inRd 2 (by decide) kw_146 rfl rfl d_Rd_readElement_64 ?_
    refine lv_iconst (v := 5) Bx.1 Bx.2.1 d_Rd_readElement_67 (by decide) ?_
    refine f_xVr (na := 2) (As := [.int (nI a), .int (5)]) (rest := []) Bx hml E hP hD hS (by omega) h9_2 rfl (m_Rd_readStringY l hlt hn hT hf hRX (by omega) hSR.1 hSR.2 (by omega) hSa) kw_455 kw_457 sel_Rd_readString kw_6 kw_458 (by decide +kernel) ⟨rfl, rfl⟩ ⟨Nat.le_of_ble_eq_true rfl, Nat.le_of_ble_eq_true rfl⟩ rfl hl.1 (Nat.le_of_ble_eq_true rfl) d_Rd_readElement_68 ⟨Nat.le_of_ble_eq_true rfl, Nat.le_of_ble_eq_true rfl⟩ (fun X ce q9 memx H locs hx9 hP hS g1 g2 g3 => f_out hlocks hno hP hS g1 g2 g3 ⟨Nat.le_of_ble_eq_true rfl, Nat.le_of_ble_eq_true rfl⟩ ⟨hx9.1, Or.inl (fai_str c34 hx9.2 hbd9.2.1)⟩) (fun r17 mem18 H locs hq hP hS => ?_)
    have hD : va_D (Az sz) (fw n ad mem18) := fw_D hD
    obtain ⟨hE9, hq9, hr2, hle9, hRX2, hcl2, ⟨s9, hs0, hs1, hs2, hs3⟩, hfr2⟩ := hq
    subst hr2
    obtain ⟨A2, B2, hrd2, h82⟩ := rds_str (j := 0) (u := u) (nm := nm) c34 hE9 hq9 hLK hF hER hcl2 hs0 hs1 hs2 hs3 (fun k hk => hfr2 (20 + 2 * k) (by omega)) hSa
    exact x_aret hx hb hlocks hr (⟨Ec, _, _, R, Ec + 1, _, A2, B2, nm, to, rfl, by omega, by omega, by omega, by omega, hle9, TOK.of rfl, hRX2, hrd2, h82, (l34 c34).2.2.2⟩) hP hS d_Rd_readElement_71
  by_cases c37 : v16 = 37
  · rw [c37]
    refine lv_lookup (off := 68) (tgt := 72) Bx.1 Bx.2.1 d_Rd_readElement_4 (by decide) (by decide) rfl ?_
    rw [e_v16] at c37
    have hlt37 := hereF_lt (show hereF Z T (a) ≠ -1 by rw [c37]; decide)
    refine lv_aload_n Bx.1 Bx.2.1 d_Rd_readElement_72 rfl (lv_at hl 0 rfl) ?_
    refine f_get Bx hP (by omega) h9_2 rfl inRd 0 (by decide) kw_144 rfl rfl d_Rd_readElement_73 ?_
    refine lv_aload_n Bx.1 Bx.2.1 d_Rd_readElement_76 rfl (lv_at hl 0 rfl) ?_
    refine f_get Bx hP (by omega) h9_2 rfl inRd 2 (by decide) kw_146 rfl rfl d_Rd_readElement_77 ?_
    refine lv_iconst (v := 1) Bx.1 Bx.2.1 d_Rd_readElement_80 (by decide) ?_
    refine lv_iadd Bx.1 Bx.2.1 d_Rd_readElement_81 ?_
    rw [show nI a + 1 = nI (a + 1) from nI_add (a) (1)]
    refine f_callVi (na := 1) (As := [.int (nI (a + 1))]) (rest := []) Bx hml E hP hD hS (by omega) h1_3 rfl (m_Ch_codeAt l (by omega) h1_3 (by omega) h2_4 (by rw [nI_toInt (by omega)]; omega)) kw_341 kw_342 kw_343 kw_2 kw_344 (by decide +kernel) ⟨rfl, rfl⟩ ⟨Nat.le_of_ble_eq_true rfl, Nat.le_of_ble_eq_true rfl⟩ rfl hl.1 (Nat.le_of_ble_eq_true rfl) d_Rd_readElement_82 ⟨Nat.le_of_ble_eq_true rfl, Nat.le_of_ble_eq_true rfl⟩ (fun r19 mem20 H locs hq hP hS => ?_)
    have hD : va_D (Az sz) (fw n ad mem20) := fw_D hD
    obtain ⟨hco21, hqe⟩ := hq
    rw [hqe] at hP hD
    rw [code_here hf hT.2.1 (k := a + 1) (by omega)] at hco21
    subst hco21
    refine f_callSNi (na := 1) (As := [.int (hereF Z T (a + 1))]) (rest := []) Bx hml E.2.1 (m_Ab_smallOfX l (hereF Z T (a + 1))) kw_372 kw_373 kw_1 kw_374 (by decide +kernel) ⟨rfl, rfl⟩ ⟨Nat.le_of_ble_eq_true rfl, Nat.le_of_ble_eq_true rfl⟩ rfl hl.1 (Nat.le_of_ble_eq_true rfl) d_Rd_readElement_85 ⟨Nat.le_of_ble_eq_true rfl, Nat.le_of_ble_eq_true rfl⟩ (fun r23 hs22 => ?_)
    subst hs22
    refine lv_bipush (v := 115) Bx.1 Bx.2.1 d_Rd_readElement_88 (by decide) ?_
    refine lv_icmp_ne Bx.1 Bx.2.1 d_Rd_readElement_90 rfl (fun hb24 => ?_) (fun hb24 => ?_)
    · refine lv_aload_n Bx.1 Bx.2.1 d_Rd_readElement_100 rfl (lv_at hl 0 rfl) ?_
      refine f_xVr (na := 0) (As := []) (rest := []) Bx hml E hP hD hS (by omega) h9_2 rfl (m_Rd_readValueY l hlt hn hT hf hRX (by omega) (u8 := u) (e8 := Ec) (A0 := va_up (elA A Ec 4) 231 (upd (elA A Ec 4 231) Ec (vp_nar .boolean 1))) hSR.1 hSR.2 (by omega) hSa) kw_467 kw_469 sel_Rd_readValue kw_6 kw_470 (by decide +kernel) ⟨rfl, rfl⟩ ⟨Nat.le_of_ble_eq_true rfl, Nat.le_of_ble_eq_true rfl⟩ rfl hl.1 (Nat.le_of_ble_eq_true rfl) d_Rd_readElement_101 ⟨Nat.le_of_ble_eq_true rfl, Nat.le_of_ble_eq_true rfl⟩ (fun X ce q9 memx H locs hx9 hP hS g1 g2 g3 => f_out hlocks hno hP hS g1 g2 g3 ⟨Nat.le_of_ble_eq_true rfl, Nat.le_of_ble_eq_true rfl⟩ ⟨hx9.1, Or.inl (fai_val c37 hb24 hx9.2 hbd9.2.1)⟩) (fun r25 mem26 H locs hq hP hS => ?_)
      have hD : va_D (Az sz) (fw n ad mem26) := fw_D hD
      obtain ⟨hE9, ba, a2, u2, A1, hba, hn9, hr2, x1, x2, hRX2, hsp2, hc2, hfr2⟩ := hq
      subst hr2
      obtain ⟨S2, A2, B2, hrd2, h82⟩ := rds_val (j := 0) (nm := nm) c37 hba hE9 hn9 hsp2 hLK hF hER (fun k hk => hfr2 (20 + 2 * k) (by omega)) hSa x1 hc2
      exact x_aret hx hb hlocks hr (⟨Ec, a2, u2, R, Ec + 1, S2, A2, B2, nm, to, rfl, by omega, by omega, by omega, x1, x2, TOK.of rfl, hRX2, hrd2, h82, (l37 c37).2.2.2.2⟩) hP hS d_Rd_readElement_104
    · refine lv_aload_n Bx.1 Bx.2.1 d_Rd_readElement_93 rfl (lv_at hl 0 rfl) ?_
      refine f_xVr (na := 0) (As := []) (rest := []) Bx hml E hP hD hS (by omega) h9_2 rfl (m_Rd_readExactStringY l hlt hn hT hf hRX (by omega) hSR.1 hSR.2 (by omega) hSa) kw_463 kw_465 sel_Rd_readExactString kw_6 kw_466 (by decide +kernel) ⟨rfl, rfl⟩ ⟨Nat.le_of_ble_eq_true rfl, Nat.le_of_ble_eq_true rfl⟩ rfl hl.1 (Nat.le_of_ble_eq_true rfl) d_Rd_readElement_94 ⟨Nat.le_of_ble_eq_true rfl, Nat.le_of_ble_eq_true rfl⟩ (fun X ce q9 memx H locs hx9 hP hS g1 g2 g3 => f_out hlocks hno hP hS g1 g2 g3 ⟨Nat.le_of_ble_eq_true rfl, Nat.le_of_ble_eq_true rfl⟩ ⟨hx9.1, Or.inl (fai_xst c37 hb24 hx9.2 hbd9.2.1)⟩) (fun r27 mem28 H locs hq hP hS => ?_)
      have hD : va_D (Az sz) (fw n ad mem28) := fw_D hD
      obtain ⟨hq8, hE9, hq9, hr2, hle9, hRX2, hcl2, ⟨s9, hs0, hs1, hs2, hs3⟩, hfr2⟩ := hq
      subst hr2
      obtain ⟨A2, B2, hrd2, h82⟩ := rds_xst (j := 0) (u := u) (nm := nm) c37 hb24 hq8 hE9 hq9 hLK hF hER hcl2 hs0 hs1 hs2 hs3 (fun k hk => hfr2 (20 + 2 * k) (by omega)) hSa
      refine lv_goto Bx.1 Bx.2.1 d_Rd_readElement_97 rfl ?_
      exact x_aret hx hb hlocks hr (⟨Ec, _, _, R, Ec + 1, _, A2, B2, nm, to, rfl, by omega, by omega, by omega, by omega, hle9, TOK.of rfl, hRX2, hrd2, h82, (l37 c37).2.2.2.2⟩) hP hS d_Rd_readElement_104
  by_cases c40 : v16 = 40
  · rw [c40]
    refine lv_lookup (off := 44) (tgt := 48) Bx.1 Bx.2.1 d_Rd_readElement_4 (by decide) (by decide) rfl ?_
    rw [e_v16] at c40
    have hlt40 := hereF_lt (show hereF Z T (a) ≠ -1 by rw [c40]; decide)
    refine lv_aload_n Bx.1 Bx.2.1 d_Rd_readElement_48 rfl (lv_at hl 0 rfl) ?_
    refine lv_iload_n Bx.1 Bx.2.1 d_Rd_readElement_49 rfl (lv_at hl 1 rfl) ?_
    refine lv_bipush (v := 41) Bx.1 Bx.2.1 d_Rd_readElement_50 (by decide) ?_
    refine f_xVr (na := 2) (As := [.int (0), .int (41)]) (rest := []) Bx hml E hP hD hS (by omega) h9_2 rfl (m_Rd_readBracket_0Y l hlt hn hT hf hRX (by omega) (u := u) (A := A) (what := 1) (oe := -1) hER hSR hSa (by omega) (Or.inl ⟨rfl, rfl⟩) hLK) kw_447 kw_449 sel_Rd_readBracket kw_6 kw_450 (by decide +kernel) ⟨rfl, rfl⟩ ⟨Nat.le_of_ble_eq_true rfl, Nat.le_of_ble_eq_true rfl⟩ rfl hl.1 (Nat.le_of_ble_eq_true rfl) d_Rd_readElement_52 ⟨Nat.le_of_ble_eq_true rfl, Nat.le_of_ble_eq_true rfl⟩ (fun X ce q9 memx H locs hx9 hP hS g1 g2 g3 => f_out hlocks hno hP hS g1 g2 g3 ⟨Nat.le_of_ble_eq_true rfl, Nat.le_of_ble_eq_true rfl⟩ ⟨hx9.1, Or.inl (hx9.2.eq (sing_br (l40 c40).1 c40 (by omega)))⟩) (fun r29 mem30 H locs hq hP hS => ?_)
    have hD : va_D (Az sz) (fw n ad mem30) := fw_D hD
    obtain ⟨la31, ax32, ux33, Rx34, Ex35, Sx36, Ax37, Bx_38, nx39, tox40, hr941, h142, h243, h344, h445, htk46, hRX47, ali48, hh49, hent50⟩ := hq
    subst hr941
    have hE9 : Ec < 100 := by have := hRX47.1.1.1; omega
    have hrd9 := brk_rds (nm := nm) hLK hE9 hF hent50 ali48 hh49 ali48.2.1 ali48.2.2.1
    exact x_aret hx hb hlocks hr (⟨Ec, gapF T Z ax32 + 1, ux33, Rx34, Ex35, Sx36, _, _, nx39, tox40, rfl, by omega, by omega, by omega, by have := gapF_ge T Z ax32; omega, by omega, htk46, hRX47, rdsEq hrd9.1 (sing_br (l40 c40).1 c40 (by omega)), hrd9.2, (l40 c40).2⟩) hP hS d_Rd_readElement_55
  by_cases c91 : v16 = 91
  · rw [c91]
    refine lv_lookup (off := 52) (tgt := 56) Bx.1 Bx.2.1 d_Rd_readElement_4 (by decide) (by decide) rfl ?_
    rw [e_v16] at c91
    have hlt91 := hereF_lt (show hereF Z T (a) ≠ -1 by rw [c91]; decide)
    refine lv_aload_n Bx.1 Bx.2.1 d_Rd_readElement_56 rfl (lv_at hl 0 rfl) ?_
    refine lv_iload_n Bx.1 Bx.2.1 d_Rd_readElement_57 rfl (lv_at hl 1 rfl) ?_
    refine f_xVr (na := 1) (As := [.int (0)]) (rest := []) Bx hml E hP hD hS (by omega) h9_2 rfl (m_Rd_readOption_0Y l hlt hn hT hf hRX (by omega) (u := u) (A := A) hER hSR hSa (by omega) hLK hF c91) kw_451 kw_453 sel_Rd_readOption kw_6 kw_454 (by decide +kernel) ⟨rfl, rfl⟩ ⟨Nat.le_of_ble_eq_true rfl, Nat.le_of_ble_eq_true rfl⟩ rfl hl.1 (Nat.le_of_ble_eq_true rfl) d_Rd_readElement_58 ⟨Nat.le_of_ble_eq_true rfl, Nat.le_of_ble_eq_true rfl⟩ (fun X ce q9 memx H locs hx9 hP hS g1 g2 g3 => f_out hlocks hno hP hS g1 g2 g3 ⟨Nat.le_of_ble_eq_true rfl, Nat.le_of_ble_eq_true rfl⟩ ⟨hx9.1, Or.inl hx9.2⟩) (fun r51 mem52 H locs hq hP hS => ?_)
    have hD : va_D (Az sz) (fw n ad mem52) := fw_D hD
    obtain ⟨kx53, ax54, ux55, Rx56, Ex57, Sx58, Ax59, Bx_60, nx61, tox62, hr963, h164, h265, h366, h467, h568, htk69, hRX70, rds71, h872⟩ := hq
    subst hr963
    exact x_aret hx hb hlocks hr (⟨kx53, ax54, ux55, Rx56, Ex57, Sx58, Ax59, Bx_60, nx61, tox62, rfl, h164, h265, h366, h467, h568, htk69, hRX70, rds71, h872, (l91 c91).2⟩) hP hS d_Rd_readElement_61
  refine lv_lookup (off := 101) (tgt := 105) Bx.1 Bx.2.1 d_Rd_readElement_4 (by decide) (by show Op.lookupswitch.offset [(34, 58), (37, 68), (40, 44), (91, 52)] 101 (v16).toInt = 101; rw [lv_osw c34 (by decide), lv_osw c37 (by decide), lv_osw c40 (by decide), lv_osw c91 (by decide)]; rfl) rfl ?_
  rw [e_v16] at c40 c91 c34 c37
  refine lv_aload_n Bx.1 Bx.2.1 d_Rd_readElement_105 rfl (lv_at hl 0 rfl) ?_
  refine f_xVr (na := 0) (As := []) (rest := []) Bx hml E hP hD hS (by omega) h9_2 rfl (m_Rd_readAskedNameY l hlt hn hT hf hRX (by omega) (A := A) (by omega)) kw_478 kw_480 sel_Rd_readAskedName kw_6 kw_481 (by decide +kernel) ⟨rfl, rfl⟩ ⟨Nat.le_of_ble_eq_true rfl, Nat.le_of_ble_eq_true rfl⟩ rfl hl.1 (Nat.le_of_ble_eq_true rfl) d_Rd_readElement_106 ⟨Nat.le_of_ble_eq_true rfl, Nat.le_of_ble_eq_true rfl⟩ (fun X ce q9 memx H locs hx9 hP hS g1 g2 g3 => f_out hlocks hno hP hS g1 g2 g3 ⟨Nat.le_of_ble_eq_true rfl, Nat.le_of_ble_eq_true rfl⟩ ⟨hx9.1, fai_nam c40 c91 c34 c37 hx9.2⟩) (fun r73 mem74 H locs hq hP hS => ?_)
  have hD : va_D (Az sz) (fw n ad mem74) := fw_D hD
  obtain ⟨i9, a2, R2, A3, n2, hsn, hle, hE9, hr2, x1, x2, x3, hA3, htk, ⟨t2, htk2, hRX2⟩, hi9, hcl2, hfr2⟩ := hq
  subst hr2
  have hR12 := hRX2.1.1.1.1
  obtain ⟨A2, B2, hrd2, h82⟩ := rds_nam (j := 0) (u := u) hle hsn hE9 hA3 htk x1 hi9 hR12 hLK hF hER ⟨(hfr2 220 (by omega)).trans hSR.1, (hfr2 221 (by omega)).trans hSR.2⟩ hcl2 (fun k hk => hfr2 (20 + 2 * k) (by omega)) (by omega)
  exact x_aret hx hb hlocks hr (⟨Ec, a2, u, R2, Ec + 1, S, A2, B2, n2, t2, rfl, by omega, by omega, x1, x2, x3, htk2, hRX2, hrd2, h82, lt_ok hle⟩) hP hS d_Rd_readElement_109
set_option maxHeartbeats 4000000 in
set_option maxRecDepth 100000 in
theorem m_Rd_readRepetition_0Y (l : Launch) {D : va_G} {cy : Nat → ClassId} {sz n : Nat} {ad : Nat → Nat} {mem : Nat → va_E} {Z a R Ec lim : Nat} {f T : Nat → Int32} {to : Nat → Int32} {nm : Nat → Int64} {m0 : Nat → va_E} {u S : Nat} {A Bw : Ro} (hlt : l.stackTraces = false) (hn : 224 ≤ n) (hT : TX cy ad Z f m0) (hf : ∀ k, k < Z → f k = T k) (hRX : RX cy ad lim a R Ec to nm m0 mem) (haB : a ≤ 300) (hER : ER ad R Ec Bw mem) (hSR : SR cy ad S Bw mem) (hSa : S ≤ a) (haZ : a ≤ Z) (hLK : LKa Ec A) (hF : FRM A 0 Ec) (h39 : A 239 0 = -1) (hbg : bgF (hereF Z T a) = true) : NXr l D cy sz n ad y_Rd_readRepetition c_Rd_readRepetition 3 (some (.object "AbnfChart$Element")) ({ frames := 53, cells := 1, slots := 6, locals := 1288 } : Room) mem [.ref (ad 222), .int (0)] (fun r mem' => ∃ (k' a' u' R' E' S' : Nat) (A' Bw' : Ro) (nm' : Nat → Int64) (to' : Nat → Int32), r = ad (20 + 2 * k') ∧ Ec ≤ k' ∧ k' < E' ∧ R ≤ R' ∧ a < a' ∧ a' ≤ Z ∧ TOK R R' to to' ∧ RX cy ad lim a' R' E' to' nm' m0 mem' ∧ RDS cy ad T Z 0 (repS T Z a u R Ec 0 A nm) (PSf A 0) R Ec S u A Bw k' a' u' R' E' S' A' Bw' nm' mem' ∧ A' 238 0 = A 238 0) (fun X mem' => ((X = cIA ∨ X = cIS) ∧ ∃ rc' ec' : Nat, RS cy ad lim rc' ec' m0 mem') ∧ (Fai T Z (repS T Z a u R Ec 0 A nm))) := by
  refine vx_ofW (cc := c_Rd_readRepetition) (maxL := 3) (ret := (some (.object "AbnfChart$Element"))) (by decide) rfl ?_
  intro p e s m args below meth c s₁ B hml hno hv
  obtain ⟨rfl, E, hP, hD⟩ := hv
  have hx := B.exec
  have hb := B.bytes
  have hr := B.returns
  have hlocks := B.notSynchronized
  have Bx : MB p s m [.ref (ad 222), .int (0)].toArray c c_Rd_readRepetition "AbnfChart$Reader" D cy := ⟨hx, hb, tb_all (atoms_spec B.pre) E.2.1, findClass_of_methodNamed B.named, E.1⟩
  have hS : va_S (Az sz) s.heap s.heap [] := va_S.rf
  have hl := lv_entry ([.ref (ad 222), .int (0)]) (n := 3) (Nat.le_of_ble_eq_true rfl)
  rw [lg_entry_eq]
  generalize (lg_sl ([.ref (ad 222), .int (0)]) ++ List.replicate (3 - (lg_sl ([.ref (ad 222), .int (0)])).length) Slot.unset).toArray = ls at hl ⊢
  have hl : lv_has ls 3 [(0, .ref (ad 222)), (1, .int (0))] := hl
  have hZ9 := hT.2.1
  have hbd9 := hRX.1.1.1
  have hfr0 : ∀ i, 19 ≤ i ∧ i < 222 ∧ i ≠ 20 + 2 * Ec → mem i = mem i := fun _ _ => rfl
  obtain ⟨ft1, h9_2⟩ := hRX.2.1
  have h1_3 : mem 1 = .inr (0, [.ref (ad 2), .int (nI Z)]) := (hRX.1.2.2 1 (by omega)).trans hT.1
  have h2_4 : mem 2 = .inl (cy 0, 240, .inl f) := (hRX.1.2.2 2 (by omega)).trans hT.2.2
  have h5_5 := hRX.1.1.2.1
  have hbd11 := hRX.1.1.1
  obtain ⟨S6, g7, hS_8, h220_9, h221_10⟩ := hRX.1.1.2.2.2.2.2.2
  refine lv_aload_n Bx.1 Bx.2.1 d_Rd_readRepetition_0 rfl (lv_at hl 0 rfl) ?_
  refine f_callVi (na := 0) (As := []) (rest := []) Bx hml E hP hD hS (by omega) h9_2 rfl (m_Rd_peekX l hn hT hf hRX (by omega)) kw_353 kw_355 sel_Rd_peek kw_6 kw_356 (by decide +kernel) ⟨rfl, rfl⟩ ⟨Nat.le_of_ble_eq_true rfl, Nat.le_of_ble_eq_true rfl⟩ rfl hl.1 (Nat.le_of_ble_eq_true rfl) d_Rd_readRepetition_1 ⟨Nat.le_of_ble_eq_true rfl, Nat.le_of_ble_eq_true rfl⟩ (fun r13 mem14 H locs hq hP hS => ?_)
  have hD : va_D (Az sz) (fw n ad mem14) := fw_D hD
  obtain ⟨hqe, hpk12⟩ := hq
  rw [hqe] at hP hD
  subst hpk12
  refine f_callSi (na := 1) (As := [.int (hereF Z T (a))]) (rest := []) Bx hml E.2.1 (m_Rd_beginsRepeatX l (hereF Z T (a))) kw_416 kw_417 kw_6 kw_418 (by decide +kernel) ⟨rfl, rfl⟩ ⟨Nat.le_of_ble_eq_true rfl, Nat.le_of_ble_eq_true rfl⟩ rfl hl.1 (Nat.le_of_ble_eq_true rfl) d_Rd_readRepetition_4 ⟨Nat.le_of_ble_eq_true rfl, Nat.le_of_ble_eq_true rfl⟩ (fun r17 hs16 => ?_)
  subst hs16
  refine lv_if_ne Bx.1 Bx.2.1 d_Rd_readRepetition_7 rfl (fun hb18 => ?_) (fun hb18 => ?_)
  · refine lv_aload_n Bx.1 Bx.2.1 d_Rd_readRepetition_16 rfl (lv_at hl 0 rfl) ?_
    refine lv_iconst (v := 2) Bx.1 Bx.2.1 d_Rd_readRepetition_17 (by decide) ?_
    refine lv_aload_n Bx.1 Bx.2.1 d_Rd_readRepetition_18 rfl (lv_at hl 0 rfl) ?_
    refine f_get Bx hP (by omega) h9_2 rfl inRd 2 (by decide) kw_146 rfl rfl d_Rd_readRepetition_19 ?_
    refine f_xVr (na := 2) (As := [.int (2), .int (nI a)]) (rest := []) Bx hml E hP hD hS (by omega) h9_2 rfl (m_Rd_addElementY l hlt hn hT hf hRX (by omega)) kw_419 kw_421 sel_Rd_addElement kw_6 kw_422 (by decide +kernel) ⟨rfl, rfl⟩ ⟨Nat.le_of_ble_eq_true rfl, Nat.le_of_ble_eq_true rfl⟩ rfl hl.1 (Nat.le_of_ble_eq_true rfl) d_Rd_readRepetition_22 ⟨Nat.le_of_ble_eq_true rfl, Nat.le_of_ble_eq_true rfl⟩ (fun X ce q9 memx H locs hx9 hP hS g1 g2 g3 => f_out hlocks hno hP hS g1 g2 g3 ⟨Nat.le_of_ble_eq_true rfl, Nat.le_of_ble_eq_true rfl⟩ ⟨hx9.1, Or.inl (rep_E (bpF_1 hb18) hx9.2)⟩) (fun r19 mem20 H locs hq hP hS => ?_)
    have hD : va_D (Az sz) (fw n ad mem20) := fw_D hD
    obtain ⟨hr921, hec22, hRX23, hcl24, hfa25⟩ := hq
    subst hr921
    have hfr26 : ∀ i, 19 ≤ i ∧ i < 222 ∧ i ≠ 20 + 2 * Ec → mem20 i = mem i := fun i q => (hfa25 i (by omega)).trans (hfr0 i q)
    obtain ⟨ft27, h9_28⟩ := hRX23.2.1
    have h1_29 : mem20 1 = .inr (0, [.ref (ad 2), .int (nI Z)]) := (hRX23.1.2.2 1 (by omega)).trans hT.1
    have h2_30 : mem20 2 = .inl (cy 0, 240, .inl f) := (hRX23.1.2.2 2 (by omega)).trans hT.2.2
    have h5_31 := hRX23.1.1.2.1
    have hbd37 := hRX23.1.1.1
    obtain ⟨S32, g33, hS_34, h220_35, h221_36⟩ := hRX23.1.1.2.2.2.2.2.2
    obtain ⟨ft38, h9_39⟩ := hRX23.2.1
    have h1_40 : mem20 1 = .inr (0, [.ref (ad 2), .int (nI Z)]) := (hRX23.1.2.2 1 (by omega)).trans hT.1
    have h2_41 : mem20 2 = .inl (cy 0, 240, .inl f) := (hRX23.1.2.2 2 (by omega)).trans hT.2.2
    have h5_42 := hRX23.1.1.2.1
    have hbd48 := hRX23.1.1.1
    obtain ⟨S43, g44, hS_45, h220_46, h221_47⟩ := hRX23.1.1.2.2.2.2.2.2
    refine lv_astore_n (lv' := [(2, .ref (ad (20 + 2 * Ec))), (0, .ref (ad 222)), (1, .int (0))]) Bx.1 Bx.2.1 d_Rd_readRepetition_25 rfl hl (by decide) rfl (fun ls hl => ?_)
    refine lv_aload_n Bx.1 Bx.2.1 d_Rd_readRepetition_26 rfl (lv_at hl 1 rfl) ?_
    refine lv_aload_n Bx.1 Bx.2.1 d_Rd_readRepetition_27 rfl (lv_at hl 0 rfl) ?_
    have hdg := bpF_1 hb18
    have hE9 := hec22
    refine f_xVv (na := 1) (As := [.ref (ad (20 + 2 * Ec))]) (rest := []) Bx hml E hP hD hS (by omega) h9_39 rfl (m_Rd_readRepeatY l hlt hn hT hf hRX23 (by omega) (by omega) hcl24 (by omega) hdg) kw_482 kw_484 sel_Rd_readRepeat kw_6 kw_485 (by decide +kernel) ⟨rfl, rfl⟩ ⟨Nat.le_of_ble_eq_true rfl, Nat.le_of_ble_eq_true rfl⟩ rfl hl.1 (Nat.le_of_ble_eq_true rfl) d_Rd_readRepetition_28 ⟨Nat.le_of_ble_eq_true rfl, Nat.le_of_ble_eq_true rfl⟩ (fun X ce q9 memx H locs hx9 hP hS g1 g2 g3 => f_out hlocks hno hP hS g1 g2 g3 ⟨Nat.le_of_ble_eq_true rfl, Nat.le_of_ble_eq_true rfl⟩ ⟨hx9.1, hx9.2.elim (fun v1 z => z.elim (fun b1 z => z.elim (fun v2 z => z.elim (fun b2 z => Or.inl (rep_bad hdg hE9 z.1 z.2.1 (Or.inl z.2.2))))))⟩) (fun mem50 H locs hq hP hS => ?_)
    have hD : va_D (Az sz) (fw n ad mem50) := fw_D hD
    obtain ⟨v1, b1, v2, b2, hr1, hr2, hnv, hb8, hb9, hRXr, hclr, hfar⟩ := hq
    have hfr51 : ∀ i, 19 ≤ i ∧ i < 222 ∧ i ≠ 20 + 2 * Ec → mem50 i = mem i := fun i q => (hfar i (by omega)).trans (hfr26 i q)
    obtain ⟨ft52, h9_53⟩ := hRXr.2.1
    have h1_54 : mem50 1 = .inr (0, [.ref (ad 2), .int (nI Z)]) := (hRXr.1.2.2 1 (by omega)).trans hT.1
    have h2_55 : mem50 2 = .inl (cy 0, 240, .inl f) := (hRXr.1.2.2 2 (by omega)).trans hT.2.2
    have h5_56 := hRXr.1.1.2.1
    have hbd62 := hRXr.1.1.1
    obtain ⟨S57, g58, hS_59, h220_60, h221_61⟩ := hRXr.1.1.2.2.2.2.2.2
    obtain ⟨ft63, h9_64⟩ := hRXr.2.1
    have h1_65 : mem50 1 = .inr (0, [.ref (ad 2), .int (nI Z)]) := (hRXr.1.2.2 1 (by omega)).trans hT.1
    have h2_66 : mem50 2 = .inl (cy 0, 240, .inl f) := (hRXr.1.2.2 2 (by omega)).trans hT.2.2
    have h5_67 := hRXr.1.1.2.1
    have hbd73 := hRXr.1.1.1
    obtain ⟨S68, g69, hS_70, h220_71, h221_72⟩ := hRXr.1.1.2.2.2.2.2.2
    refine lv_aload_n Bx.1 Bx.2.1 d_Rd_readRepetition_31 rfl (lv_at hl 0 rfl) ?_
    refine lv_aload_n Bx.1 Bx.2.1 d_Rd_readRepetition_32 rfl (lv_at hl 1 rfl) ?_
    refine lv_iload_n Bx.1 Bx.2.1 d_Rd_readRepetition_33 rfl (lv_at hl 2 rfl) ?_
    have her74 : ER ad R (Ec + 1) (bwN Bw Ec 2 (v1) (v2) (-1) (-1) (-1) (Bw 234)) mem50 := hER.new (Nat.le_refl _) (by rw [vR_m]; exact hclr) (Or.inl rfl) (fun i9 hi9 => hfr51 (20 + 2 * i9) (by omega))
    have hsr75 : SR cy ad S (bwN Bw Ec 2 (v1) (v2) (-1) (-1) (-1) (Bw 234)) mem50 := ⟨(hfr51 220 (by omega)).trans hSR.1, (hfr51 221 (by omega)).trans hSR.2⟩
    obtain ⟨hLK1, hF1⟩ := frm_rep (v1 := v1) (v2 := v2) hLK hE9 hF h39
    refine f_xVr (na := 1) (As := [.int (0)]) (rest := [.ref (ad (20 + 2 * Ec))]) Bx hml E hP hD hS (by omega) h9_64 rfl (m_Rd_readElement_0Y l hlt hn hT hf hRXr (by omega) (u := u) (A := repB A 0 Ec v1 v2) her74 hsr75 (by omega) (by omega) hLK1 hF1) kw_443 kw_445 sel_Rd_readElement kw_6 kw_446 (by decide +kernel) ⟨rfl, rfl⟩ ⟨Nat.le_of_ble_eq_true rfl, Nat.le_of_ble_eq_true rfl⟩ rfl hl.1 (Nat.le_of_ble_eq_true rfl) d_Rd_readRepetition_34 ⟨Nat.le_of_ble_eq_true rfl, Nat.le_of_ble_eq_true rfl⟩ (fun X ce q9 memx H locs hx9 hP hS g1 g2 g3 => f_out hlocks hno hP hS g1 g2 g3 ⟨Nat.le_of_ble_eq_true rfl, Nat.le_of_ble_eq_true rfl⟩ ⟨hx9.1, rep_fai hdg hE9 hr1 hr2 hnv hx9.2⟩) (fun r76 mem77 H locs hq hP hS => ?_)
    have hD : va_D (Az sz) (fw n ad mem77) := fw_D hD
    obtain ⟨kx78, ax79, ux80, Rx81, Ex82, Sx83, Ax84, Bx_85, nx86, tox87, hr988, h189, h290, h391, h492, h593, htk94, hRX95, rds96, h897, hok98⟩ := hq
    subst hr988
    obtain ⟨ft99, h9_100⟩ := hRX95.2.1
    have h1_101 : mem77 1 = .inr (0, [.ref (ad 2), .int (nI Z)]) := (hRX95.1.2.2 1 (by omega)).trans hT.1
    have h2_102 : mem77 2 = .inl (cy 0, 240, .inl f) := (hRX95.1.2.2 2 (by omega)).trans hT.2.2
    have h5_103 := hRX95.1.1.2.1
    have hbd109 := hRX95.1.1.1
    obtain ⟨S104, g105, hS_106, h220_107, h221_108⟩ := hRX95.1.1.2.2.2.2.2.2
    have hbd110 := hRX95.1.1.1
    have hce111 := (rds96.2.1 Ec (by omega)).1
    refine f_putN Bx hP hD hS (by omega) hce111 rfl inEl tyEl okEl nmEl 4 (by decide) kw_87 rfl rfl rfl rfl (Nat.le_of_ble_eq_true rfl) d_Rd_readRepetition_37 (fun H locs hP hS => ?_)
    obtain ⟨mem112, e_mem112⟩ : ∃ z, z = va_up mem77 ((20 + 2 * Ec)) (.inr (2, [.int (Bx_85 228 Ec), .int (Bx_85 229 Ec), .int (Bx_85 230 Ec), vR ad (Bx_85 231 Ec), .ref (ad (20 + 2 * kx78)), vE ad (Bx_85 233 Ec), .ref (ad (21 + 2 * Ec))])) := ⟨_, rfl⟩
    have hP : va_P D vcl (fw n ad mem112) H := by rw [e_mem112]; exact hP
    have hD : va_D (Az sz) (fw n ad mem112) := fw_D hD
    have h_mem112 : mem112 ((20 + 2 * Ec)) = .inr (2, [.int (Bx_85 228 Ec), .int (Bx_85 229 Ec), .int (Bx_85 230 Ec), vR ad (Bx_85 231 Ec), .ref (ad (20 + 2 * kx78)), vE ad (Bx_85 233 Ec), .ref (ad (21 + 2 * Ec))]) := by rw [e_mem112, va_up_self]
    have hh113 := (va_up_ne mem77 (.inr (2, [.int (Bx_85 228 Ec), .int (Bx_85 229 Ec), .int (Bx_85 230 Ec), vR ad (Bx_85 231 Ec), .ref (ad (20 + 2 * kx78)), vE ad (Bx_85 233 Ec), .ref (ad (21 + 2 * Ec))])) (show (222 : Nat) ≠ (20 + 2 * Ec) by first | decide | assumption | omega)).trans h9_100
    rw [← e_mem112] at hh113
    have hh114 := (va_up_ne mem77 (.inr (2, [.int (Bx_85 228 Ec), .int (Bx_85 229 Ec), .int (Bx_85 230 Ec), vR ad (Bx_85 231 Ec), .ref (ad (20 + 2 * kx78)), vE ad (Bx_85 233 Ec), .ref (ad (21 + 2 * Ec))])) (show (1 : Nat) ≠ (20 + 2 * Ec) by first | decide | assumption | omega)).trans h1_101
    rw [← e_mem112] at hh114
    have hh115 := (va_up_ne mem77 (.inr (2, [.int (Bx_85 228 Ec), .int (Bx_85 229 Ec), .int (Bx_85 230 Ec), vR ad (Bx_85 231 Ec), .ref (ad (20 + 2 * kx78)), vE ad (Bx_85 233 Ec), .ref (ad (21 + 2 * Ec))])) (show (5 : Nat) ≠ (20 + 2 * Ec) by first | decide | assumption | omega)).trans h5_103
    rw [← e_mem112] at hh115
    have hh116 := (va_up_ne mem77 (.inr (2, [.int (Bx_85 228 Ec), .int (Bx_85 229 Ec), .int (Bx_85 230 Ec), vR ad (Bx_85 231 Ec), .ref (ad (20 + 2 * kx78)), vE ad (Bx_85 233 Ec), .ref (ad (21 + 2 * Ec))])) (show (220 : Nat) ≠ (20 + 2 * Ec) by first | decide | assumption | omega)).trans h220_107
    rw [← e_mem112] at hh116
    have hRX117 : RX cy ad lim (ax79) (Rx81) (Ex82) (tox87) (nx86) m0 mem112 := by rw [e_mem112]; exact hRX95.el (by omega) (hRX95.1.mk (by omega) (hRX95.1.1.upEl (by omega) (fun _ => ⟨(rds96.2.1 Ec (by omega)).2.1.oR ad, Or.inr ⟨kx78, by omega, by omega, rfl⟩, (rds96.2.1 Ec (by omega)).2.2.2.oE ad (by omega)⟩)))
    have her118 : ER ad (Rx81) (Ex82) (va_up Bx_85 232 (upd (Bx_85 232) Ec (nI kx78))) mem112 := rds96.2.1.part (by omega) (by omega) (by omega) h_mem112 (fun i9 q9 hi9 => by rw [e_mem112]; exact va_up_ne _ _ (by omega))
    have hsr119 : SR cy ad (Sx83) (Bx_85) mem112 := ⟨(show mem112 220 = mem77 220 by rw [e_mem112]; exact va_up_ne _ _ (by omega)).trans rds96.2.2.1.1, (show mem112 221 = mem77 221 by rw [e_mem112]; exact va_up_ne _ _ (by omega)).trans rds96.2.2.1.2⟩
    obtain ⟨ft120, h9_121⟩ := hRX117.2.1
    have h1_122 : mem112 1 = .inr (0, [.ref (ad 2), .int (nI Z)]) := (hRX117.1.2.2 1 (by omega)).trans hT.1
    have h2_123 : mem112 2 = .inl (cy 0, 240, .inl f) := (hRX117.1.2.2 2 (by omega)).trans hT.2.2
    have h5_124 := hRX117.1.1.2.1
    have hbd130 := hRX117.1.1.1
    obtain ⟨S125, g126, hS_127, h220_128, h221_129⟩ := hRX117.1.1.2.2.2.2.2.2
    refine lv_aload_n Bx.1 Bx.2.1 d_Rd_readRepetition_40 rfl (lv_at hl 0 rfl) ?_
    have hrd9 := rep_rds hLK hE9 hF h39 rds96 h897 ⟨by omega, by omega⟩ (rep_suc (u := u) (R := R) (f := 0) (A := A) (nm := nm) hdg hE9 hr1 hr2 hnv hok98) her118 hsr119
    exact x_aret hx hb hlocks hr (⟨Ec, ax79, ux80, Rx81, Ex82, Sx83, _, _, nx86, tox87, rfl, by omega, by omega, by omega, by omega, by omega, htk94, hRX117, hrd9.1, hrd9.2⟩) hP hS d_Rd_readRepetition_41
  · refine lv_aload_n Bx.1 Bx.2.1 d_Rd_readRepetition_10 rfl (lv_at hl 0 rfl) ?_
    refine lv_iload_n Bx.1 Bx.2.1 d_Rd_readRepetition_11 rfl (lv_at hl 1 rfl) ?_
    obtain ⟨hd0, h42⟩ := bpF_0 hb18
    refine f_xVr (na := 1) (As := [.int (0)]) (rest := []) Bx hml E hP hD hS (by omega) h9_2 rfl (m_Rd_readElement_0Y l hlt hn hT hf hRX (by omega) (u := u) (A := A) hER hSR hSa (by omega) hLK hF) kw_443 kw_445 sel_Rd_readElement kw_6 kw_446 (by decide +kernel) ⟨rfl, rfl⟩ ⟨Nat.le_of_ble_eq_true rfl, Nat.le_of_ble_eq_true rfl⟩ rfl hl.1 (Nat.le_of_ble_eq_true rfl) d_Rd_readRepetition_12 ⟨Nat.le_of_ble_eq_true rfl, Nat.le_of_ble_eq_true rfl⟩ (fun X ce q9 memx H locs hx9 hP hS g1 g2 g3 => f_out hlocks hno hP hS g1 g2 g3 ⟨Nat.le_of_ble_eq_true rfl, Nat.le_of_ble_eq_true rfl⟩ ⟨hx9.1, (hx9.2.resolve_right (fun z => z ⟨hbg, hd0, h42⟩)).eq (rep_no hd0 h42)⟩) (fun r131 mem132 H locs hq hP hS => ?_)
    have hD : va_D (Az sz) (fw n ad mem132) := fw_D hD
    obtain ⟨kx133, ax134, ux135, Rx136, Ex137, Sx138, Ax139, Bx_140, nx141, tox142, hr9143, h1144, h2145, h3146, h4147, h5148, htk149, hRX150, rds151, h8152, hok153⟩ := hq
    subst hr9143
    obtain ⟨ft154, h9_155⟩ := hRX150.2.1
    have h1_156 : mem132 1 = .inr (0, [.ref (ad 2), .int (nI Z)]) := (hRX150.1.2.2 1 (by omega)).trans hT.1
    have h2_157 : mem132 2 = .inl (cy 0, 240, .inl f) := (hRX150.1.2.2 2 (by omega)).trans hT.2.2
    have h5_158 := hRX150.1.1.2.1
    have hbd164 := hRX150.1.1.1
    obtain ⟨S159, g160, hS_161, h220_162, h221_163⟩ := hRX150.1.1.2.2.2.2.2.2
    have hbd165 := hRX150.1.1.1
    exact x_aret hx hb hlocks hr (⟨kx133, ax134, ux135, Rx136, Ex137, Sx138, Ax139, Bx_140, nx141, tox142, rfl, h1144, h2145, h3146, h4147, h5148, htk149, hRX150, rdsEq rds151 (rep_no hd0 h42), h8152⟩) hP hS d_Rd_readRepetition_15
set_option maxHeartbeats 4000000 in
set_option maxRecDepth 100000 in
theorem m_Rd_readSequence_0Y (l : Launch) {D : va_G} {cy : Nat → ClassId} {sz n : Nat} {ad : Nat → Nat} {mem : Nat → va_E} {Z a R Ec lim : Nat} {f T : Nat → Int32} {to : Nat → Int32} {nm : Nat → Int64} {m0 : Nat → va_E} {u S : Nat} {A Bw : Ro} {cq : Nat} (hlt : l.stackTraces = false) (hn : 224 ≤ n) (hT : TX cy ad Z f m0) (hf : ∀ k, k < Z → f k = T k) (hRX : RX cy ad lim a R Ec to nm m0 mem) (haB : a ≤ 300) (hER : ER ad R Ec Bw mem) (hSR : SR cy ad S Bw mem) (hSa : S ≤ a) (haZ : a ≤ Z) (hLK : LKa Ec A) (hc : A 237 0 = nI cq) (hcl : cq < Ec) (h39 : A 239 0 = -1) : NXr l D cy sz n ad y_Rd_readSequence c_Rd_readSequence 5 (some (.object "AbnfChart$Element")) ({ frames := 54, cells := 1, slots := 6, locals := 1312 } : Room) mem [.ref (ad 222), .int (0)] (fun r mem' => ∃ (a' u' R' E' S' : Nat) (A' Bw' : Ro) (nm' : Nat → Int64) (to' : Nat → Int32), r = ad (20 + 2 * Ec) ∧ Ec < E' ∧ R ≤ R' ∧ a < a' ∧ a' ≤ Z ∧ TOK R R' to to' ∧ RX cy ad lim (gapF T Z a') R' E' to' nm' m0 mem' ∧ RDS cy ad T Z 0 (seqS T Z a u R Ec 0 A nm) (slotOf A cq) R Ec S u A Bw Ec a' u' R' E' S' A' Bw' nm' mem' ∧ ¬ (bgF (hereF Z T (gapF T Z a')) = true ∧ a' < gapF T Z a')) (fun X mem' => ((X = cIA ∨ X = cIS) ∧ ∃ rc' ec' : Nat, RS cy ad lim rc' ec' m0 mem') ∧ (Fai T Z (seqS T Z a u R Ec 0 A nm))) := by
  refine vx_ofW (cc := c_Rd_readSequence) (maxL := 5) (ret := (some (.object "AbnfChart$Element"))) (by decide) rfl ?_
  intro p e s m args below meth c s₁ B hml hno hv
  obtain ⟨rfl, E, hP, hD⟩ := hv
  have hx := B.exec
  have hb := B.bytes
  have hr := B.returns
  have hlocks := B.notSynchronized
  have Bx : MB p s m [.ref (ad 222), .int (0)].toArray c c_Rd_readSequence "AbnfChart$Reader" D cy := ⟨hx, hb, tb_all (atoms_spec B.pre) E.2.1, findClass_of_methodNamed B.named, E.1⟩
  have hS : va_S (Az sz) s.heap s.heap [] := va_S.rf
  have hl := lv_entry ([.ref (ad 222), .int (0)]) (n := 5) (Nat.le_of_ble_eq_true rfl)
  rw [lg_entry_eq]
  generalize (lg_sl ([.ref (ad 222), .int (0)]) ++ List.replicate (5 - (lg_sl ([.ref (ad 222), .int (0)])).length) Slot.unset).toArray = ls at hl ⊢
  have hl : lv_has ls 5 [(0, .ref (ad 222)), (1, .int (0))] := hl
  have hZ9 := hT.2.1
  have hbd9 := hRX.1.1.1
  have hfr0 : ∀ i, 19 ≤ i ∧ i < 222 ∧ i ≠ 20 + 2 * Ec → mem i = mem i := fun _ _ => rfl
  obtain ⟨ft1, h9_2⟩ := hRX.2.1
  have h1_3 : mem 1 = .inr (0, [.ref (ad 2), .int (nI Z)]) := (hRX.1.2.2 1 (by omega)).trans hT.1
  have h2_4 : mem 2 = .inl (cy 0, 240, .inl f) := (hRX.1.2.2 2 (by omega)).trans hT.2.2
  have h5_5 := hRX.1.1.2.1
  have hbd11 := hRX.1.1.1
  obtain ⟨S6, g7, hS_8, h220_9, h221_10⟩ := hRX.1.1.2.2.2.2.2.2
  refine lv_aload_n Bx.1 Bx.2.1 d_Rd_readSequence_0 rfl (lv_at hl 0 rfl) ?_
  refine lv_iconst (v := 1) Bx.1 Bx.2.1 d_Rd_readSequence_1 (by decide) ?_
  refine f_xVr (na := 1) (As := [.int (1)]) (rest := []) Bx hml E hP hD hS (by omega) h9_2 rfl (m_Rd_beginRowY l hlt hn hT hf hRX (by omega)) kw_409 kw_411 sel_Rd_beginRow kw_6 kw_412 (by decide +kernel) ⟨rfl, rfl⟩ ⟨Nat.le_of_ble_eq_true rfl, Nat.le_of_ble_eq_true rfl⟩ rfl hl.1 (Nat.le_of_ble_eq_true rfl) d_Rd_readSequence_2 ⟨Nat.le_of_ble_eq_true rfl, Nat.le_of_ble_eq_true rfl⟩ (fun X ce q9 memx H locs hx9 hP hS g1 g2 g3 => f_out hlocks hno hP hS g1 g2 g3 ⟨Nat.le_of_ble_eq_true rfl, Nat.le_of_ble_eq_true rfl⟩ ⟨hx9.1, Or.inl (seq_no hx9.2)⟩) (fun r12 mem13 H locs hq hP hS => ?_)
  have hD : va_D (Az sz) (fw n ad mem13) := fw_D hD
  obtain ⟨hbg, hE9, hr9, hRXb, hclb, hfab⟩ := hq
  subst hr9
  have hfr14 : ∀ i, 19 ≤ i ∧ i < 222 ∧ i ≠ 20 + 2 * Ec → mem13 i = mem i := fun i q => (hfab i (by omega)).trans (hfr0 i q)
  obtain ⟨ft15, h9_16⟩ := hRXb.2.1
  have h1_17 : mem13 1 = .inr (0, [.ref (ad 2), .int (nI Z)]) := (hRXb.1.2.2 1 (by omega)).trans hT.1
  have h2_18 : mem13 2 = .inl (cy 0, 240, .inl f) := (hRXb.1.2.2 2 (by omega)).trans hT.2.2
  have h5_19 := hRXb.1.1.2.1
  have hbd25 := hRXb.1.1.1
  obtain ⟨S20, g21, hS_22, h220_23, h221_24⟩ := hRXb.1.1.2.2.2.2.2.2
  obtain ⟨ft26, h9_27⟩ := hRXb.2.1
  have h1_28 : mem13 1 = .inr (0, [.ref (ad 2), .int (nI Z)]) := (hRXb.1.2.2 1 (by omega)).trans hT.1
  have h2_29 : mem13 2 = .inl (cy 0, 240, .inl f) := (hRXb.1.2.2 2 (by omega)).trans hT.2.2
  have h5_30 := hRXb.1.1.2.1
  have hbd36 := hRXb.1.1.1
  obtain ⟨S31, g32, hS_33, h220_34, h221_35⟩ := hRXb.1.1.2.2.2.2.2.2
  refine lv_astore_n (lv' := [(2, .ref (ad (20 + 2 * Ec))), (0, .ref (ad 222)), (1, .int (0))]) Bx.1 Bx.2.1 d_Rd_readSequence_5 rfl hl (by decide) rfl (fun ls hl => ?_)
  refine lv_aload_n Bx.1 Bx.2.1 d_Rd_readSequence_6 rfl (lv_at hl 1 rfl) ?_
  refine lv_iload_n Bx.1 Bx.2.1 d_Rd_readSequence_7 rfl (lv_at hl 2 rfl) ?_
  have her37 : ER ad R (Ec + 1) (bwN Bw Ec 1 (0) (0) (-1) (-1) (-1) (Bw 234)) mem13 := hER.new (Nat.le_refl _) (by rw [vR_m]; exact hclb) (Or.inl rfl) (fun i9 hi9 => hfr14 (20 + 2 * i9) (by omega))
  have hsr38 : SR cy ad S (bwN Bw Ec 1 (0) (0) (-1) (-1) (-1) (Bw 234)) mem13 := ⟨(hfr14 220 (by omega)).trans hSR.1, (hfr14 221 (by omega)).trans hSR.2⟩
  obtain ⟨hLK1, hF1, h391⟩ := frm_seq hLK hE9 hc hcl h39
  refine f_xVr (na := 1) (As := [.int (0)]) (rest := []) Bx hml E hP hD hS (by omega) h9_27 rfl (m_Rd_readRepetition_0Y l hlt hn hT hf hRXb (by omega) (u := u) (A := seqA A 0 Ec) her37 hsr38 (by omega) (by omega) hLK1 hF1 h391 hbg) kw_439 kw_441 sel_Rd_readRepetition kw_6 kw_442 (by decide +kernel) ⟨rfl, rfl⟩ ⟨Nat.le_of_ble_eq_true rfl, Nat.le_of_ble_eq_true rfl⟩ rfl hl.1 (Nat.le_of_ble_eq_true rfl) d_Rd_readSequence_8 ⟨Nat.le_of_ble_eq_true rfl, Nat.le_of_ble_eq_true rfl⟩ (fun X ce q9 memx H locs hx9 hP hS g1 g2 g3 => f_out hlocks hno hP hS g1 g2 g3 ⟨Nat.le_of_ble_eq_true rfl, Nat.le_of_ble_eq_true rfl⟩ ⟨hx9.1, hx9.2.eq (seq_ok hbg hE9)⟩) (fun r39 mem40 H locs hq hP hS => ?_)
  have hD : va_D (Az sz) (fw n ad mem40) := fw_D hD
  obtain ⟨kx41, ax42, ux43, Rx44, Ex45, Sx46, Ax47, Bx_48, nx49, tox50, hr951, h152, h253, h354, h455, h556, htk57, hRX58, rds59, h860⟩ := hq
  subst hr951
  obtain ⟨ft61, h9_62⟩ := hRX58.2.1
  have h1_63 : mem40 1 = .inr (0, [.ref (ad 2), .int (nI Z)]) := (hRX58.1.2.2 1 (by omega)).trans hT.1
  have h2_64 : mem40 2 = .inl (cy 0, 240, .inl f) := (hRX58.1.2.2 2 (by omega)).trans hT.2.2
  have h5_65 := hRX58.1.1.2.1
  have hbd71 := hRX58.1.1.1
  obtain ⟨S66, g67, hS_68, h220_69, h221_70⟩ := hRX58.1.1.2.2.2.2.2.2
  have hbd72 := hRX58.1.1.1
  refine lv_astore_n (lv' := [(3, .ref (ad (20 + 2 * kx41))), (2, .ref (ad (20 + 2 * Ec))), (0, .ref (ad 222)), (1, .int (0))]) Bx.1 Bx.2.1 d_Rd_readSequence_11 rfl hl (by decide) rfl (fun ls hl => ?_)
  refine lv_aload_n Bx.1 Bx.2.1 d_Rd_readSequence_12 rfl (lv_at hl 1 rfl) ?_
  refine lv_aload_n Bx.1 Bx.2.1 d_Rd_readSequence_13 rfl (lv_at hl 0 rfl) ?_
  have hce73 := (rds59.2.1 Ec (by omega)).1
  refine f_putN Bx hP hD hS (by omega) hce73 rfl inEl tyEl okEl nmEl 4 (by decide) kw_87 rfl rfl rfl rfl (Nat.le_of_ble_eq_true rfl) d_Rd_readSequence_14 (fun H locs hP hS => ?_)
  obtain ⟨mem74, e_mem74⟩ : ∃ z, z = va_up mem40 ((20 + 2 * Ec)) (.inr (2, [.int (Bx_48 228 Ec), .int (Bx_48 229 Ec), .int (Bx_48 230 Ec), vR ad (Bx_48 231 Ec), .ref (ad (20 + 2 * kx41)), vE ad (Bx_48 233 Ec), .ref (ad (21 + 2 * Ec))])) := ⟨_, rfl⟩
  have hP : va_P D vcl (fw n ad mem74) H := by rw [e_mem74]; exact hP
  have hD : va_D (Az sz) (fw n ad mem74) := fw_D hD
  have h_mem74 : mem74 ((20 + 2 * Ec)) = .inr (2, [.int (Bx_48 228 Ec), .int (Bx_48 229 Ec), .int (Bx_48 230 Ec), vR ad (Bx_48 231 Ec), .ref (ad (20 + 2 * kx41)), vE ad (Bx_48 233 Ec), .ref (ad (21 + 2 * Ec))]) := by rw [e_mem74, va_up_self]
  have hh75 := (va_up_ne mem40 (.inr (2, [.int (Bx_48 228 Ec), .int (Bx_48 229 Ec), .int (Bx_48 230 Ec), vR ad (Bx_48 231 Ec), .ref (ad (20 + 2 * kx41)), vE ad (Bx_48 233 Ec), .ref (ad (21 + 2 * Ec))])) (show (222 : Nat) ≠ (20 + 2 * Ec) by first | decide | assumption | omega)).trans h9_62
  rw [← e_mem74] at hh75
  have hh76 := (va_up_ne mem40 (.inr (2, [.int (Bx_48 228 Ec), .int (Bx_48 229 Ec), .int (Bx_48 230 Ec), vR ad (Bx_48 231 Ec), .ref (ad (20 + 2 * kx41)), vE ad (Bx_48 233 Ec), .ref (ad (21 + 2 * Ec))])) (show (1 : Nat) ≠ (20 + 2 * Ec) by first | decide | assumption | omega)).trans h1_63
  rw [← e_mem74] at hh76
  have hh77 := (va_up_ne mem40 (.inr (2, [.int (Bx_48 228 Ec), .int (Bx_48 229 Ec), .int (Bx_48 230 Ec), vR ad (Bx_48 231 Ec), .ref (ad (20 + 2 * kx41)), vE ad (Bx_48 233 Ec), .ref (ad (21 + 2 * Ec))])) (show (5 : Nat) ≠ (20 + 2 * Ec) by first | decide | assumption | omega)).trans h5_65
  rw [← e_mem74] at hh77
  have hh78 := (va_up_ne mem40 (.inr (2, [.int (Bx_48 228 Ec), .int (Bx_48 229 Ec), .int (Bx_48 230 Ec), vR ad (Bx_48 231 Ec), .ref (ad (20 + 2 * kx41)), vE ad (Bx_48 233 Ec), .ref (ad (21 + 2 * Ec))])) (show (220 : Nat) ≠ (20 + 2 * Ec) by first | decide | assumption | omega)).trans h220_69
  rw [← e_mem74] at hh78
  have hRX79 : RX cy ad lim (ax42) (Rx44) (Ex45) (tox50) (nx49) m0 mem74 := by rw [e_mem74]; exact hRX58.el (by omega) (hRX58.1.mk (by omega) (hRX58.1.1.upEl (by omega) (fun _ => ⟨(rds59.2.1 Ec (by omega)).2.1.oR ad, Or.inr ⟨kx41, by omega, by omega, rfl⟩, (rds59.2.1 Ec (by omega)).2.2.2.oE ad (by omega)⟩)))
  have her80 : ER ad (Rx44) (Ex45) (va_up Bx_48 232 (upd (Bx_48 232) Ec (nI kx41))) mem74 := rds59.2.1.part (by omega) (by omega) (by omega) h_mem74 (fun i9 q9 hi9 => by rw [e_mem74]; exact va_up_ne _ _ (by omega))
  have hsr81 : SR cy ad (Sx46) (Bx_48) mem74 := ⟨(show mem74 220 = mem40 220 by rw [e_mem74]; exact va_up_ne _ _ (by omega)).trans rds59.2.2.1.1, (show mem74 221 = mem40 221 by rw [e_mem74]; exact va_up_ne _ _ (by omega)).trans rds59.2.2.1.2⟩
  obtain ⟨ft82, h9_83⟩ := hRX79.2.1
  have h1_84 : mem74 1 = .inr (0, [.ref (ad 2), .int (nI Z)]) := (hRX79.1.2.2 1 (by omega)).trans hT.1
  have h2_85 : mem74 2 = .inl (cy 0, 240, .inl f) := (hRX79.1.2.2 2 (by omega)).trans hT.2.2
  have h5_86 := hRX79.1.1.2.1
  have hbd92 := hRX79.1.1.1
  obtain ⟨S87, g88, hS_89, h220_90, h221_91⟩ := hRX79.1.1.2.2.2.2.2.2
  refine lv_iconst (v := 0) Bx.1 Bx.2.1 d_Rd_readSequence_17 (by decide) ?_
  refine lv_istore (lv' := [(4, .int (0)), (3, .ref (ad (20 + 2 * kx41))), (2, .ref (ad (20 + 2 * Ec))), (0, .ref (ad 222)), (1, .int (0))]) Bx.1 Bx.2.1 d_Rd_readSequence_18 hl (by decide) rfl (fun ls hl => ?_)
  have hsl9 := slot_lt hLK (by omega) hcl
  have hsq0 := seq_first hLK hE9 hc hcl h39 rds59 h860 ⟨by omega, by omega⟩ (by omega) (seq_ok (u := u) (R := R) (f := 0) (A := A) (nm := nm) hbg hE9) her80 hsr81
  have loop93 : ∀ (d94 : Nat) (mem9 : Nat → va_E) (a1 : Nat) (u1 : Nat) (R1 : Nat) (E1 : Nat) (S1 : Nat) (A1 : Ro) (B1 : Ro) (n1 : Nat → Int64) (to1 : Nat → Int32) (la : Nat) (k9 : Nat) (ls : Array Slot) (H : Heap) (locs : List Loc), (240 - k9 < d94) → (RX cy ad lim a1 R1 E1 to1 n1 m0 mem9) → (a < a1 ∧ a1 ≤ Z ∧ R ≤ R1 ∧ k9 < a1 ∧ k9 ≤ 240) → (SQI cy ad T Z 0 (seqS T Z a u R Ec 0 A nm) (slotOf A cq) R Ec S u A Bw la a1 u1 R1 E1 S1 A1 B1 n1 mem9) → (TOK R R1 to to1) → (va_P D vcl (fw n ad mem9) H) → (va_D (Az sz) (fw n ad mem9)) → (va_S (Az sz) s.heap H locs) → (lv_has ls 5 [(4, .int (nI k9)), (3, .ref (ad (20 + 2 * la))), (2, .ref (ad (20 + 2 * Ec))), (0, .ref (ad 222)), (1, .int (0))]) → W p l e (headSpec (Cond.code y_Rd_readSequence c_Rd_readSequence 5 (some (.object "AbnfChart$Element")) :: tg) ({ frames := 54, cells := 1, slots := 6, locals := 1312 } : Room)).room s m [.ref (ad 222), .int (0)].toArray below meth c H locs 0 0 (vx_MQ below (QX (QR (fun r mem' => ∃ (a' u' R' E' S' : Nat) (A' Bw' : Ro) (nm' : Nat → Int64) (to' : Nat → Int32), r = ad (20 + 2 * Ec) ∧ Ec < E' ∧ R ≤ R' ∧ a < a' ∧ a' ≤ Z ∧ TOK R R' to to' ∧ RX cy ad lim (gapF T Z a') R' E' to' nm' m0 mem' ∧ RDS cy ad T Z 0 (seqS T Z a u R Ec 0 A nm) (slotOf A cq) R Ec S u A Bw Ec a' u' R' E' S' A' Bw' nm' mem' ∧ ¬ (bgF (hereF Z T (gapF T Z a')) = true ∧ a' < gapF T Z a')) (PP D n ad) (Az sz))) (XQ D sz n ad (fun X mem' => ((X = cIA ∨ X = cIS) ∧ ∃ rc' ec' : Nat, RS cy ad lim rc' ec' m0 mem') ∧ (Fai T Z (seqS T Z a u R Ec 0 A nm)))) [.ref (ad 222), .int (0)].toArray s 1 6 (Az sz)) (F0 m 20 ls []) := by
    intro d94
    induction d94 with
    | zero => intro mem9 a1 u1 R1 E1 S1 A1 B1 n1 to1 la k9 ls H locs hmeas100; exact absurd hmeas100 (Nat.not_lt_zero _)
    | succ d94 ih99 =>
      intro mem9 a1 u1 R1 E1 S1 A1 B1 n1 to1 la k9 ls H locs hmeas100 hz95 hz96 hz97 hz98 hP hD hS hl
      have hbd8 := hz96
      have hsq := hz97
      have hbdE := hz95.1.1.1
      have hla := hsq.2.2.2
      have hSa1 := hsq.1.2.2.2.1.2.1
      have hlka := sqi_lka hsq hLK hsl9
      obtain ⟨ft101, h9_102⟩ := hz95.2.1
      have h1_103 : mem9 1 = .inr (0, [.ref (ad 2), .int (nI Z)]) := (hz95.1.2.2 1 (by omega)).trans hT.1
      have h2_104 : mem9 2 = .inl (cy 0, 240, .inl f) := (hz95.1.2.2 2 (by omega)).trans hT.2.2
      have h5_105 := hz95.1.1.2.1
      have hbd111 := hz95.1.1.1
      obtain ⟨S106, g107, hS_108, h220_109, h221_110⟩ := hz95.1.1.2.2.2.2.2.2
      refine lv_iload Bx.1 Bx.2.1 d_Rd_readSequence_20 (lv_at hl 0 rfl) ?_
      refine lv_sipush (v := 240) Bx.1 Bx.2.1 d_Rd_readSequence_22 (by decide) ?_
      refine lv_icmp_ge Bx.1 Bx.2.1 d_Rd_readSequence_25 rfl (fun hb112 => ?_) (fun hb112 => ?_)
      · have hN113 : 240 ≤ k9 := (nI_leI (by omega) (by omega)).mp (show nI (240) ≤ nI (k9) from hb112)
        exact absurd hbd8 (by omega)
      · have hN114 : ¬ 240 ≤ k9 := fun q9 => hb112 (show nI (240) ≤ nI (k9) from (nI_leI (by omega) (by omega)).mpr q9)
        refine lv_aload_n Bx.1 Bx.2.1 d_Rd_readSequence_28 rfl (lv_at hl 3 rfl) ?_
        refine f_callVi (na := 0) (As := []) (rest := []) Bx hml E hP hD hS (by omega) h9_102 rfl (m_Rd_readGapY l hn hT hf hz95 (by omega) (by omega)) kw_397 kw_399 sel_Rd_readGap kw_6 kw_400 (by decide +kernel) ⟨rfl, rfl⟩ ⟨Nat.le_of_ble_eq_true rfl, Nat.le_of_ble_eq_true rfl⟩ rfl hl.1 (Nat.le_of_ble_eq_true rfl) d_Rd_readSequence_29 ⟨Nat.le_of_ble_eq_true rfl, Nat.le_of_ble_eq_true rfl⟩ (fun r115 mem116 H locs hq hP hS => ?_)
        have hD : va_D (Az sz) (fw n ad mem116) := fw_D hD
        obtain ⟨g117, eg118⟩ : ∃ z, z = gapF T Z (a1) := ⟨_, rfl⟩
        rw [← eg118] at hq
        obtain ⟨hRX119, hgc120, hfa121⟩ := hq
        have hg122 : a1 ≤ g117 := by rw [eg118]; exact gapF_ge T Z _
        have hg123 : g117 ≤ Z := by rw [eg118]; exact gapF_le T (by omega)
        obtain ⟨ft124, h9_125⟩ := hRX119.2.1
        have h1_126 : mem116 1 = .inr (0, [.ref (ad 2), .int (nI Z)]) := (hRX119.1.2.2 1 (by omega)).trans hT.1
        have h2_127 : mem116 2 = .inl (cy 0, 240, .inl f) := (hRX119.1.2.2 2 (by omega)).trans hT.2.2
        have h5_128 := hRX119.1.1.2.1
        have hbd134 := hRX119.1.1.1
        obtain ⟨S129, g130, hS_131, h220_132, h221_133⟩ := hRX119.1.1.2.2.2.2.2.2
        have her135 : ER ad (R1) (E1) (B1) mem116 := hsq.1.2.1.fr (Nat.le_refl _) (fun i9 hi9 => hfa121 _ (by omega))
        have hsr136 : SR cy ad (S1) (B1) mem116 := ⟨(show mem116 220 = _ from hfa121 _ (by omega)).trans hsq.1.2.2.1.1, (show mem116 221 = _ from hfa121 _ (by omega)).trans hsq.1.2.2.1.2⟩
        rcases hgc120 with ⟨hr137, hga138⟩ | ⟨hr137, hga138⟩
        · subst hr137
          refine lv_if_eq Bx.1 Bx.2.1 d_Rd_readSequence_32 rfl (fun hb139 => ?_) (fun hb139 => ?_)
          · exact absurd hb139 (by decide)
          · refine lv_aload_n Bx.1 Bx.2.1 d_Rd_readSequence_35 rfl (lv_at hl 3 rfl) ?_
            refine f_callVi (na := 0) (As := []) (rest := []) Bx hml E hP hD hS (by omega) h9_125 rfl (m_Rd_peekX l hn hT hf hRX119 (by omega)) kw_353 kw_355 sel_Rd_peek kw_6 kw_356 (by decide +kernel) ⟨rfl, rfl⟩ ⟨Nat.le_of_ble_eq_true rfl, Nat.le_of_ble_eq_true rfl⟩ rfl hl.1 (Nat.le_of_ble_eq_true rfl) d_Rd_readSequence_36 ⟨Nat.le_of_ble_eq_true rfl, Nat.le_of_ble_eq_true rfl⟩ (fun r141 mem142 H locs hq hP hS => ?_)
            have hD : va_D (Az sz) (fw n ad mem142) := fw_D hD
            obtain ⟨hqe, hpk140⟩ := hq
            rw [hqe] at hP hD
            subst hpk140
            refine f_callSi (na := 1) (As := [.int (hereF Z T (g117))]) (rest := []) Bx hml E.2.1 (m_Rd_beginsRepetitionX l (hereF Z T (g117))) kw_413 kw_414 kw_6 kw_415 (by decide +kernel) ⟨rfl, rfl⟩ ⟨Nat.le_of_ble_eq_true rfl, Nat.le_of_ble_eq_true rfl⟩ rfl hl.1 (Nat.le_of_ble_eq_true rfl) d_Rd_readSequence_39 ⟨Nat.le_of_ble_eq_true rfl, Nat.le_of_ble_eq_true rfl⟩ (fun r145 hs144 => ?_)
            subst hs144
            refine lv_if_eq Bx.1 Bx.2.1 d_Rd_readSequence_42 rfl (fun hb146 => ?_) (fun hb146 => ?_)
            · refine lv_aload_n Bx.1 Bx.2.1 d_Rd_readSequence_65 rfl (lv_at hl 2 rfl) ?_
              exact x_aret hx hb hlocks hr (⟨a1, u1, R1, E1, S1, A1, B1, n1, to1, rfl, by omega, by omega, by omega, by omega, hz98, by rw [← eg118]; exact hRX119, ⟨hsq.1.1, her135, hsr136, hsq.1.2.2.2⟩, fun z => by have q9 := z.1; rw [← eg118, bg_0 hb146] at q9; exact absurd q9 (by decide)⟩) hP hS d_Rd_readSequence_66
            · have hbg2 : bgF (hereF Z T (gapF T Z a1)) = true := by rw [← eg118]; exact bg_1 hb146
              have hgt2 : a1 < gapF T Z a1 := by rw [← eg118]; omega
              have h238 := hsq.2.1
              have h239 : A1 239 0 = -1 := hsq.1.2.2.2.2.2.2.2.2.2.2
              refine lv_aload_n Bx.1 Bx.2.1 d_Rd_readSequence_45 rfl (lv_at hl 1 rfl) ?_
              refine lv_aload_n Bx.1 Bx.2.1 d_Rd_readSequence_46 rfl (lv_at hl 3 rfl) ?_
              refine lv_iload_n Bx.1 Bx.2.1 d_Rd_readSequence_47 rfl (lv_at hl 4 rfl) ?_
              refine f_xVr (na := 1) (As := [.int (0)]) (rest := [.ref (ad (20 + 2 * la))]) Bx hml E hP hD hS (by omega) h9_125 rfl (m_Rd_readRepetition_0Y l hlt hn hT hf hRX119 (by omega) (u := u1) (A := A1) her135 hsr136 (by omega) (by omega) hlka ⟨⟨Ec, by omega, h238⟩, Or.inl h239⟩ h239 (by rw [eg118]; exact hbg2)) kw_439 kw_441 sel_Rd_readRepetition kw_6 kw_442 (by decide +kernel) ⟨rfl, rfl⟩ ⟨Nat.le_of_ble_eq_true rfl, Nat.le_of_ble_eq_true rfl⟩ rfl hl.1 (Nat.le_of_ble_eq_true rfl) d_Rd_readSequence_48 ⟨Nat.le_of_ble_eq_true rfl, Nat.le_of_ble_eq_true rfl⟩ (fun X ce q9 memx H locs hx9 hP hS g1 g2 g3 => f_out hlocks hno hP hS g1 g2 g3 ⟨Nat.le_of_ble_eq_true rfl, Nat.le_of_ble_eq_true rfl⟩ ⟨hx9.1, hsq.1.1.fai (go_rept hbg2 hgt2) (by rw [← eg118]; exact hx9.2)⟩) (fun r147 mem148 H locs hq hP hS => ?_)
              have hD : va_D (Az sz) (fw n ad mem148) := fw_D hD
              obtain ⟨kx149, ax150, ux151, Rx152, Ex153, Sx154, Ax155, Bx_156, nx157, tox158, hr9159, h1160, h2161, h3162, h4163, h5164, htk165, hRX166, rds167, h8168⟩ := hq
              subst hr9159
              obtain ⟨ft169, h9_170⟩ := hRX166.2.1
              have h1_171 : mem148 1 = .inr (0, [.ref (ad 2), .int (nI Z)]) := (hRX166.1.2.2 1 (by omega)).trans hT.1
              have h2_172 : mem148 2 = .inl (cy 0, 240, .inl f) := (hRX166.1.2.2 2 (by omega)).trans hT.2.2
              have h5_173 := hRX166.1.1.2.1
              have hbd179 := hRX166.1.1.1
              obtain ⟨S174, g175, hS_176, h220_177, h221_178⟩ := hRX166.1.1.2.2.2.2.2.2
              have hbd180 := hRX166.1.1.1
              have hce181 := (rds167.2.1 la (by omega)).1
              refine f_putN Bx hP hD hS (by omega) hce181 rfl inEl tyEl okEl nmEl 5 (by decide) kw_91 rfl rfl rfl rfl (Nat.le_of_ble_eq_true rfl) d_Rd_readSequence_51 (fun H locs hP hS => ?_)
              obtain ⟨mem182, e_mem182⟩ : ∃ z, z = va_up mem148 ((20 + 2 * la)) (.inr (2, [.int (Bx_156 228 la), .int (Bx_156 229 la), .int (Bx_156 230 la), vR ad (Bx_156 231 la), vE ad (Bx_156 232 la), .ref (ad (20 + 2 * kx149)), .ref (ad (21 + 2 * la))])) := ⟨_, rfl⟩
              have hP : va_P D vcl (fw n ad mem182) H := by rw [e_mem182]; exact hP
              have hD : va_D (Az sz) (fw n ad mem182) := fw_D hD
              have h_mem182 : mem182 ((20 + 2 * la)) = .inr (2, [.int (Bx_156 228 la), .int (Bx_156 229 la), .int (Bx_156 230 la), vR ad (Bx_156 231 la), vE ad (Bx_156 232 la), .ref (ad (20 + 2 * kx149)), .ref (ad (21 + 2 * la))]) := by rw [e_mem182, va_up_self]
              have hh183 := (va_up_ne mem148 (.inr (2, [.int (Bx_156 228 la), .int (Bx_156 229 la), .int (Bx_156 230 la), vR ad (Bx_156 231 la), vE ad (Bx_156 232 la), .ref (ad (20 + 2 * kx149)), .ref (ad (21 + 2 * la))])) (show (222 : Nat) ≠ (20 + 2 * la) by first | decide | assumption | omega)).trans h9_170
              rw [← e_mem182] at hh183
              have hh184 := (va_up_ne mem148 (.inr (2, [.int (Bx_156 228 la), .int (Bx_156 229 la), .int (Bx_156 230 la), vR ad (Bx_156 231 la), vE ad (Bx_156 232 la), .ref (ad (20 + 2 * kx149)), .ref (ad (21 + 2 * la))])) (show (1 : Nat) ≠ (20 + 2 * la) by first | decide | assumption | omega)).trans h1_171
              rw [← e_mem182] at hh184
              have hh185 := (va_up_ne mem148 (.inr (2, [.int (Bx_156 228 la), .int (Bx_156 229 la), .int (Bx_156 230 la), vR ad (Bx_156 231 la), vE ad (Bx_156 232 la), .ref (ad (20 + 2 * kx149)), .ref (ad (21 + 2 * la))])) (show (5 : Nat) ≠ (20 + 2 * la) by first | decide | assumption | omega)).trans h5_173
              rw [← e_mem182] at hh185
              have hh186 := (va_up_ne mem148 (.inr (2, [.int (Bx_156 228 la), .int (Bx_156 229 la), .int (Bx_156 230 la), vR ad (Bx_156 231 la), vE ad (Bx_156 232 la), .ref (ad (20 + 2 * kx149)), .ref (ad (21 + 2 * la))])) (show (220 : Nat) ≠ (20 + 2 * la) by first | decide | assumption | omega)).trans h220_177
              rw [← e_mem182] at hh186
              have hRX187 : RX cy ad lim (ax150) (Rx152) (Ex153) (tox158) (nx157) m0 mem182 := by rw [e_mem182]; exact hRX166.el (by omega) (hRX166.1.mk (by omega) (hRX166.1.1.upEl (by omega) (fun _ => ⟨(rds167.2.1 la (by omega)).2.1.oR ad, (rds167.2.1 la (by omega)).2.2.1.oE ad (by omega), Or.inr ⟨kx149, by omega, by omega, rfl⟩⟩)))
              have her188 : ER ad (Rx152) (Ex153) (va_up Bx_156 233 (upd (Bx_156 233) la (nI kx149))) mem182 := rds167.2.1.next (by omega) (by omega) (by omega) h_mem182 (fun i9 q9 hi9 => by rw [e_mem182]; exact va_up_ne _ _ (by omega))
              have hsr189 : SR cy ad (Sx154) (Bx_156) mem182 := ⟨(show mem182 220 = mem148 220 by rw [e_mem182]; exact va_up_ne _ _ (by omega)).trans rds167.2.2.1.1, (show mem182 221 = mem148 221 by rw [e_mem182]; exact va_up_ne _ _ (by omega)).trans rds167.2.2.1.2⟩
              obtain ⟨ft190, h9_191⟩ := hRX187.2.1
              have h1_192 : mem182 1 = .inr (0, [.ref (ad 2), .int (nI Z)]) := (hRX187.1.2.2 1 (by omega)).trans hT.1
              have h2_193 : mem182 2 = .inl (cy 0, 240, .inl f) := (hRX187.1.2.2 2 (by omega)).trans hT.2.2
              have h5_194 := hRX187.1.1.2.1
              have hbd200 := hRX187.1.1.1
              obtain ⟨S195, g196, hS_197, h220_198, h221_199⟩ := hRX187.1.1.2.2.2.2.2.2
              refine lv_aload_n Bx.1 Bx.2.1 d_Rd_readSequence_54 rfl (lv_at hl 1 rfl) ?_
              refine f_getN Bx hP (by omega) h_mem182 rfl inEl 5 (by decide) kw_91 rfl rfl d_Rd_readSequence_55 ?_
              refine lv_astore_n (lv' := [(3, .ref (ad (20 + 2 * kx149))), (4, .int (nI k9)), (2, .ref (ad (20 + 2 * Ec))), (0, .ref (ad 222)), (1, .int (0))]) Bx.1 Bx.2.1 d_Rd_readSequence_58 rfl hl (by decide) rfl (fun ls hl => ?_)
              refine lv_iinc (lv' := [(4, .int ((nI k9 + (1)))), (3, .ref (ad (20 + 2 * kx149))), (2, .ref (ad (20 + 2 * Ec))), (0, .ref (ad 222)), (1, .int (0))]) Bx.1 Bx.2.1 d_Rd_readSequence_59 hl (k := 1) rfl rfl (by decide) rfl (fun ls hl => ?_)
              rw [show (nI k9 + (1) : Int32) = nI (k9 + 1) from nI_1 (k9)] at hl
              refine lv_goto Bx.1 Bx.2.1 d_Rd_readSequence_62 rfl ?_
              have hsq3 := seq_step hsq (by omega) hlka (by omega) hsl9 rds167 h8168 ⟨by omega, by omega⟩ (by omega) (by rw [eg118]; exact go_rept hbg2 hgt2) her188 hsr189
              exact ih99 mem182 (ax150) (ux151) (Rx152) (Ex153) (Sx154) (Ax155) ((va_up Bx_156 233 (upd (Bx_156 233) la (nI kx149)))) (nx157) (tox158) (kx149) (k9 + 1) _ _ _ (by have := hmeas100; omega) (hRX187) (⟨by omega, by omega, by omega, by omega, by omega⟩) (hsq3) (hz98.trans htk165 (by omega)) hP hD hS (lv_sub hl [0, 1, 2, 3, 4] rfl)
        · subst hr137
          refine lv_if_eq Bx.1 Bx.2.1 d_Rd_readSequence_32 rfl (fun hb201 => ?_) (fun hb201 => ?_)
          · refine lv_aload_n Bx.1 Bx.2.1 d_Rd_readSequence_65 rfl (lv_at hl 2 rfl) ?_
            exact x_aret hx hb hlocks hr (⟨a1, u1, R1, E1, S1, A1, B1, n1, to1, rfl, by omega, by omega, by omega, by omega, hz98, by rw [← eg118]; exact hRX119, ⟨hsq.1.1, her135, hsr136, hsq.1.2.2.2⟩, fun z => by have := z.2; rw [← eg118] at this; omega⟩) hP hS d_Rd_readSequence_66
          · exact absurd hb201 (by decide)
  exact loop93 _ mem74 (ax42) (ux43) (Rx44) (Ex45) (Sx46) (Ax47) ((va_up Bx_48 232 (upd (Bx_48 232) Ec (nI kx41)))) (nx49) (tox50) (kx41) (0) _ _ _ (Nat.lt_succ_self _) (hRX79) (⟨by omega, by omega, by omega, by omega, by omega⟩) (hsq0) (htk57) hP hD hS (lv_sub hl [0, 1, 2, 3, 4] rfl)
set_option maxHeartbeats 4000000 in
set_option maxRecDepth 100000 in
theorem m_Rd_readAlternatives_0Y (l : Launch) {D : va_G} {cy : Nat → ClassId} {sz n : Nat} {ad : Nat → Nat} {mem : Nat → va_E} {Z a R Ec lim : Nat} {f T : Nat → Int32} {to : Nat → Int32} {nm : Nat → Int64} {m0 : Nat → va_E} {u S : Nat} {A Bw : Ro} {cq : Nat} (hlt : l.stackTraces = false) (hn : 224 ≤ n) (hT : TX cy ad Z f m0) (hf : ∀ k, k < Z → f k = T k) (hRX : RX cy ad lim a R Ec to nm m0 mem) (haB : a ≤ 300) (hER : ER ad R Ec Bw mem) (hSR : SR cy ad S Bw mem) (hSa : S ≤ a) (haZ : a ≤ Z) (hLK : LKa (Ec + 1) A) (hc : A 237 0 = nI cq) (hcl : cq ≤ Ec) (h39 : A 239 0 = -1) : NXr l D cy sz n ad y_Rd_readAlternatives c_Rd_readAlternatives 5 (some (.object "AbnfChart$Element")) ({ frames := 55, cells := 1, slots := 6, locals := 1338 } : Room) mem [.ref (ad 222), .int (0)] (fun r mem' => ∃ (la a' u' R' E' S' : Nat) (A' Bw' : Ro) (nm' : Nat → Int64) (to' : Nat → Int32), r = ad (20 + 2 * Ec) ∧ Ec + 1 < E' ∧ R ≤ R' ∧ a < a' ∧ a' ≤ Z ∧ TOK R R' to to' ∧ RX cy ad lim (gapF T Z a') R' E' to' nm' m0 mem' ∧ ALI cy ad T Z 0 (seqS T Z a u R (Ec + 1) 0 A nm) cq R Ec S u A Bw la a' u' R' E' S' A' Bw' nm' mem' ∧ bgF (hereF Z T a) = true ∧ Ec < 100 ∧ ¬ hereF Z T (gapF T Z a') = 47 ∧ ¬ (bgF (hereF Z T (gapF T Z a')) = true ∧ a' < gapF T Z a')) (fun X mem' => ((X = cIA ∨ X = cIS) ∧ ∃ rc' ec' : Nat, RS cy ad lim rc' ec' m0 mem') ∧ (bgF (hereF Z T a) = false ∨ Ec = 100 ∨ (bgF (hereF Z T a) = true ∧ Ec < 100 ∧ Fai T Z (seqS T Z a u R (Ec + 1) 0 A nm)))) := by
  refine vx_ofW (cc := c_Rd_readAlternatives) (maxL := 5) (ret := (some (.object "AbnfChart$Element"))) (by decide) rfl ?_
  intro p e s m args below meth c s₁ B hml hno hv
  obtain ⟨rfl, E, hP, hD⟩ := hv
  have hx := B.exec
  have hb := B.bytes
  have hr := B.returns
  have hlocks := B.notSynchronized
  have Bx : MB p s m [.ref (ad 222), .int (0)].toArray c c_Rd_readAlternatives "AbnfChart$Reader" D cy := ⟨hx, hb, tb_all (atoms_spec B.pre) E.2.1, findClass_of_methodNamed B.named, E.1⟩
  have hS : va_S (Az sz) s.heap s.heap [] := va_S.rf
  have hl := lv_entry ([.ref (ad 222), .int (0)]) (n := 5) (Nat.le_of_ble_eq_true rfl)
  rw [lg_entry_eq]
  generalize (lg_sl ([.ref (ad 222), .int (0)]) ++ List.replicate (5 - (lg_sl ([.ref (ad 222), .int (0)])).length) Slot.unset).toArray = ls at hl ⊢
  have hl : lv_has ls 5 [(0, .ref (ad 222)), (1, .int (0))] := hl
  have hZ9 := hT.2.1
  have hbd9 := hRX.1.1.1
  have hfr0 : ∀ i, 19 ≤ i ∧ i < 222 ∧ i ≠ 20 + 2 * Ec → mem i = mem i := fun _ _ => rfl
  obtain ⟨ft1, h9_2⟩ := hRX.2.1
  have h1_3 : mem 1 = .inr (0, [.ref (ad 2), .int (nI Z)]) := (hRX.1.2.2 1 (by omega)).trans hT.1
  have h2_4 : mem 2 = .inl (cy 0, 240, .inl f) := (hRX.1.2.2 2 (by omega)).trans hT.2.2
  have h5_5 := hRX.1.1.2.1
  have hbd11 := hRX.1.1.1
  obtain ⟨S6, g7, hS_8, h220_9, h221_10⟩ := hRX.1.1.2.2.2.2.2.2
  refine lv_aload_n Bx.1 Bx.2.1 d_Rd_readAlternatives_0 rfl (lv_at hl 0 rfl) ?_
  refine lv_iconst (v := 0) Bx.1 Bx.2.1 d_Rd_readAlternatives_1 (by decide) ?_
  refine f_xVr (na := 1) (As := [.int (0)]) (rest := []) Bx hml E hP hD hS (by omega) h9_2 rfl (m_Rd_beginRowY l hlt hn hT hf hRX (by omega)) kw_409 kw_411 sel_Rd_beginRow kw_6 kw_412 (by decide +kernel) ⟨rfl, rfl⟩ ⟨Nat.le_of_ble_eq_true rfl, Nat.le_of_ble_eq_true rfl⟩ rfl hl.1 (Nat.le_of_ble_eq_true rfl) d_Rd_readAlternatives_2 ⟨Nat.le_of_ble_eq_true rfl, Nat.le_of_ble_eq_true rfl⟩ (fun X ce q9 memx H locs hx9 hP hS g1 g2 g3 => f_out hlocks hno hP hS g1 g2 g3 ⟨Nat.le_of_ble_eq_true rfl, Nat.le_of_ble_eq_true rfl⟩ ⟨hx9.1, hx9.2.elim Or.inl (fun z => Or.inr (Or.inl z))⟩) (fun r12 mem13 H locs hq hP hS => ?_)
  have hD : va_D (Az sz) (fw n ad mem13) := fw_D hD
  obtain ⟨hbg, hE9, hr9, hRXb, hclb, hfab⟩ := hq
  subst hr9
  have hfr14 : ∀ i, 19 ≤ i ∧ i < 222 ∧ i ≠ 20 + 2 * Ec → mem13 i = mem i := fun i q => (hfab i (by omega)).trans (hfr0 i q)
  obtain ⟨ft15, h9_16⟩ := hRXb.2.1
  have h1_17 : mem13 1 = .inr (0, [.ref (ad 2), .int (nI Z)]) := (hRXb.1.2.2 1 (by omega)).trans hT.1
  have h2_18 : mem13 2 = .inl (cy 0, 240, .inl f) := (hRXb.1.2.2 2 (by omega)).trans hT.2.2
  have h5_19 := hRXb.1.1.2.1
  have hbd25 := hRXb.1.1.1
  obtain ⟨S20, g21, hS_22, h220_23, h221_24⟩ := hRXb.1.1.2.2.2.2.2.2
  obtain ⟨ft26, h9_27⟩ := hRXb.2.1
  have h1_28 : mem13 1 = .inr (0, [.ref (ad 2), .int (nI Z)]) := (hRXb.1.2.2 1 (by omega)).trans hT.1
  have h2_29 : mem13 2 = .inl (cy 0, 240, .inl f) := (hRXb.1.2.2 2 (by omega)).trans hT.2.2
  have h5_30 := hRXb.1.1.2.1
  have hbd36 := hRXb.1.1.1
  obtain ⟨S31, g32, hS_33, h220_34, h221_35⟩ := hRXb.1.1.2.2.2.2.2.2
  refine lv_astore_n (lv' := [(2, .ref (ad (20 + 2 * Ec))), (0, .ref (ad 222)), (1, .int (0))]) Bx.1 Bx.2.1 d_Rd_readAlternatives_5 rfl hl (by decide) rfl (fun ls hl => ?_)
  refine lv_aload_n Bx.1 Bx.2.1 d_Rd_readAlternatives_6 rfl (lv_at hl 1 rfl) ?_
  refine lv_iload_n Bx.1 Bx.2.1 d_Rd_readAlternatives_7 rfl (lv_at hl 2 rfl) ?_
  have her37 : ER ad R (Ec + 1) (bwN Bw Ec 0 (0) (0) (-1) (-1) (-1) (Bw 234)) mem13 := hER.new (Nat.le_refl _) (by rw [vR_m]; exact hclb) (Or.inl rfl) (fun i9 hi9 => hfr14 (20 + 2 * i9) (by omega))
  have hsr38 : SR cy ad S (bwN Bw Ec 0 (0) (0) (-1) (-1) (-1) (Bw 234)) mem13 := ⟨(hfr14 220 (by omega)).trans hSR.1, (hfr14 221 (by omega)).trans hSR.2⟩
  refine f_xVr (na := 1) (As := [.int (0)]) (rest := []) Bx hml E hP hD hS (by omega) h9_27 rfl (m_Rd_readSequence_0Y l hlt hn hT hf hRXb (by omega) (u := u) (A := A) her37 hsr38 (by omega) (by omega) hLK hc (by omega) h39) kw_435 kw_437 sel_Rd_readSequence kw_6 kw_438 (by decide +kernel) ⟨rfl, rfl⟩ ⟨Nat.le_of_ble_eq_true rfl, Nat.le_of_ble_eq_true rfl⟩ rfl hl.1 (Nat.le_of_ble_eq_true rfl) d_Rd_readAlternatives_8 ⟨Nat.le_of_ble_eq_true rfl, Nat.le_of_ble_eq_true rfl⟩ (fun X ce q9 memx H locs hx9 hP hS g1 g2 g3 => f_out hlocks hno hP hS g1 g2 g3 ⟨Nat.le_of_ble_eq_true rfl, Nat.le_of_ble_eq_true rfl⟩ ⟨hx9.1, Or.inr (Or.inr ⟨hbg, hE9, hx9.2⟩)⟩) (fun r39 mem40 H locs hq hP hS => ?_)
  have hD : va_D (Az sz) (fw n ad mem40) := fw_D hD
  obtain ⟨ax41, ux42, Rx43, Ex44, Sx45, Ax46, Bx_47, nx48, tox49, hr950, h251, h352, h453, h554, htk55, hRX56, rds57, hnb58⟩ := hq
  subst hr950
  obtain ⟨g59, eg60⟩ : ∃ z, z = gapF T Z ax41 := ⟨_, rfl⟩
  have hg61 : ax41 ≤ g59 := by rw [eg60]; exact gapF_ge T Z _
  have hg62 : g59 ≤ Z := by rw [eg60]; exact gapF_le T (by omega)
  rw [← eg60] at hRX56
  obtain ⟨ft63, h9_64⟩ := hRX56.2.1
  have h1_65 : mem40 1 = .inr (0, [.ref (ad 2), .int (nI Z)]) := (hRX56.1.2.2 1 (by omega)).trans hT.1
  have h2_66 : mem40 2 = .inl (cy 0, 240, .inl f) := (hRX56.1.2.2 2 (by omega)).trans hT.2.2
  have h5_67 := hRX56.1.1.2.1
  have hbd73 := hRX56.1.1.1
  obtain ⟨S68, g69, hS_70, h220_71, h221_72⟩ := hRX56.1.1.2.2.2.2.2.2
  have hbd74 := hRX56.1.1.1
  refine lv_astore_n (lv' := [(3, .ref (ad (20 + 2 * (Ec + 1)))), (2, .ref (ad (20 + 2 * Ec))), (0, .ref (ad 222)), (1, .int (0))]) Bx.1 Bx.2.1 d_Rd_readAlternatives_11 rfl hl (by decide) rfl (fun ls hl => ?_)
  refine lv_aload_n Bx.1 Bx.2.1 d_Rd_readAlternatives_12 rfl (lv_at hl 1 rfl) ?_
  refine lv_aload_n Bx.1 Bx.2.1 d_Rd_readAlternatives_13 rfl (lv_at hl 0 rfl) ?_
  have hce75 := (rds57.2.1 Ec (by omega)).1
  refine f_putN Bx hP hD hS (by omega) hce75 rfl inEl tyEl okEl nmEl 4 (by decide) kw_87 rfl rfl rfl rfl (Nat.le_of_ble_eq_true rfl) d_Rd_readAlternatives_14 (fun H locs hP hS => ?_)
  obtain ⟨mem76, e_mem76⟩ : ∃ z, z = va_up mem40 ((20 + 2 * Ec)) (.inr (2, [.int (Bx_47 228 Ec), .int (Bx_47 229 Ec), .int (Bx_47 230 Ec), vR ad (Bx_47 231 Ec), .ref (ad (20 + 2 * (Ec + 1))), vE ad (Bx_47 233 Ec), .ref (ad (21 + 2 * Ec))])) := ⟨_, rfl⟩
  have hP : va_P D vcl (fw n ad mem76) H := by rw [e_mem76]; exact hP
  have hD : va_D (Az sz) (fw n ad mem76) := fw_D hD
  have h_mem76 : mem76 ((20 + 2 * Ec)) = .inr (2, [.int (Bx_47 228 Ec), .int (Bx_47 229 Ec), .int (Bx_47 230 Ec), vR ad (Bx_47 231 Ec), .ref (ad (20 + 2 * (Ec + 1))), vE ad (Bx_47 233 Ec), .ref (ad (21 + 2 * Ec))]) := by rw [e_mem76, va_up_self]
  have hh77 := (va_up_ne mem40 (.inr (2, [.int (Bx_47 228 Ec), .int (Bx_47 229 Ec), .int (Bx_47 230 Ec), vR ad (Bx_47 231 Ec), .ref (ad (20 + 2 * (Ec + 1))), vE ad (Bx_47 233 Ec), .ref (ad (21 + 2 * Ec))])) (show (222 : Nat) ≠ (20 + 2 * Ec) by first | decide | assumption | omega)).trans h9_64
  rw [← e_mem76] at hh77
  have hh78 := (va_up_ne mem40 (.inr (2, [.int (Bx_47 228 Ec), .int (Bx_47 229 Ec), .int (Bx_47 230 Ec), vR ad (Bx_47 231 Ec), .ref (ad (20 + 2 * (Ec + 1))), vE ad (Bx_47 233 Ec), .ref (ad (21 + 2 * Ec))])) (show (1 : Nat) ≠ (20 + 2 * Ec) by first | decide | assumption | omega)).trans h1_65
  rw [← e_mem76] at hh78
  have hh79 := (va_up_ne mem40 (.inr (2, [.int (Bx_47 228 Ec), .int (Bx_47 229 Ec), .int (Bx_47 230 Ec), vR ad (Bx_47 231 Ec), .ref (ad (20 + 2 * (Ec + 1))), vE ad (Bx_47 233 Ec), .ref (ad (21 + 2 * Ec))])) (show (5 : Nat) ≠ (20 + 2 * Ec) by first | decide | assumption | omega)).trans h5_67
  rw [← e_mem76] at hh79
  have hh80 := (va_up_ne mem40 (.inr (2, [.int (Bx_47 228 Ec), .int (Bx_47 229 Ec), .int (Bx_47 230 Ec), vR ad (Bx_47 231 Ec), .ref (ad (20 + 2 * (Ec + 1))), vE ad (Bx_47 233 Ec), .ref (ad (21 + 2 * Ec))])) (show (220 : Nat) ≠ (20 + 2 * Ec) by first | decide | assumption | omega)).trans h220_71
  rw [← e_mem76] at hh80
  have hRX81 : RX cy ad lim (g59) (Rx43) (Ex44) (tox49) (nx48) m0 mem76 := by rw [e_mem76]; exact hRX56.el (by omega) (hRX56.1.mk (by omega) (hRX56.1.1.upEl (by omega) (fun _ => ⟨(rds57.2.1 Ec (by omega)).2.1.oR ad, Or.inr ⟨(Ec + 1), by omega, by omega, rfl⟩, (rds57.2.1 Ec (by omega)).2.2.2.oE ad (by omega)⟩)))
  have her82 : ER ad (Rx43) (Ex44) (va_up Bx_47 232 (upd (Bx_47 232) Ec (nI (Ec + 1)))) mem76 := rds57.2.1.part (by omega) (by omega) (by omega) h_mem76 (fun i9 q9 hi9 => by rw [e_mem76]; exact va_up_ne _ _ (by omega))
  have hsr83 : SR cy ad (Sx45) (Bx_47) mem76 := ⟨(show mem76 220 = mem40 220 by rw [e_mem76]; exact va_up_ne _ _ (by omega)).trans rds57.2.2.1.1, (show mem76 221 = mem40 221 by rw [e_mem76]; exact va_up_ne _ _ (by omega)).trans rds57.2.2.1.2⟩
  obtain ⟨ft84, h9_85⟩ := hRX81.2.1
  have h1_86 : mem76 1 = .inr (0, [.ref (ad 2), .int (nI Z)]) := (hRX81.1.2.2 1 (by omega)).trans hT.1
  have h2_87 : mem76 2 = .inl (cy 0, 240, .inl f) := (hRX81.1.2.2 2 (by omega)).trans hT.2.2
  have h5_88 := hRX81.1.1.2.1
  have hbd94 := hRX81.1.1.1
  obtain ⟨S89, g90, hS_91, h220_92, h221_93⟩ := hRX81.1.1.2.2.2.2.2.2
  refine lv_iconst (v := 0) Bx.1 Bx.2.1 d_Rd_readAlternatives_17 (by decide) ?_
  refine lv_istore (lv' := [(4, .int (0)), (3, .ref (ad (20 + 2 * (Ec + 1)))), (2, .ref (ad (20 + 2 * Ec))), (0, .ref (ad 222)), (1, .int (0))]) Bx.1 Bx.2.1 d_Rd_readAlternatives_18 hl (by decide) rfl (fun ls hl => ?_)
  have hal0 := alt_first hLK hE9 hcl rds57 (by omega) (by omega) her82 hsr83
  have loop95 : ∀ (d96 : Nat) (mem9 : Nat → va_E) (a1 : Nat) (u1 : Nat) (R1 : Nat) (E1 : Nat) (S1 : Nat) (A1 : Ro) (B1 : Ro) (n1 : Nat → Int64) (to1 : Nat → Int32) (la : Nat) (k9 : Nat) (ls : Array Slot) (H : Heap) (locs : List Loc), (240 - k9 < d96) → (RX cy ad lim (gapF T Z a1) R1 E1 to1 n1 m0 mem9) → (a < a1 ∧ a1 ≤ Z ∧ R ≤ R1 ∧ k9 < a1 ∧ k9 ≤ 240) → (ALI cy ad T Z 0 (seqS T Z a u R (Ec + 1) 0 A nm) cq R Ec S u A Bw la a1 u1 R1 E1 S1 A1 B1 n1 mem9) → (TOK R R1 to to1) → (¬ (bgF (hereF Z T (gapF T Z a1)) = true ∧ a1 < gapF T Z a1)) → (va_P D vcl (fw n ad mem9) H) → (va_D (Az sz) (fw n ad mem9)) → (va_S (Az sz) s.heap H locs) → (lv_has ls 5 [(4, .int (nI k9)), (3, .ref (ad (20 + 2 * la))), (2, .ref (ad (20 + 2 * Ec))), (0, .ref (ad 222)), (1, .int (0))]) → W p l e (headSpec (Cond.code y_Rd_readAlternatives c_Rd_readAlternatives 5 (some (.object "AbnfChart$Element")) :: tg) ({ frames := 55, cells := 1, slots := 6, locals := 1338 } : Room)).room s m [.ref (ad 222), .int (0)].toArray below meth c H locs 0 0 (vx_MQ below (QX (QR (fun r mem' => ∃ (la a' u' R' E' S' : Nat) (A' Bw' : Ro) (nm' : Nat → Int64) (to' : Nat → Int32), r = ad (20 + 2 * Ec) ∧ Ec + 1 < E' ∧ R ≤ R' ∧ a < a' ∧ a' ≤ Z ∧ TOK R R' to to' ∧ RX cy ad lim (gapF T Z a') R' E' to' nm' m0 mem' ∧ ALI cy ad T Z 0 (seqS T Z a u R (Ec + 1) 0 A nm) cq R Ec S u A Bw la a' u' R' E' S' A' Bw' nm' mem' ∧ bgF (hereF Z T a) = true ∧ Ec < 100 ∧ ¬ hereF Z T (gapF T Z a') = 47 ∧ ¬ (bgF (hereF Z T (gapF T Z a')) = true ∧ a' < gapF T Z a')) (PP D n ad) (Az sz))) (XQ D sz n ad (fun X mem' => ((X = cIA ∨ X = cIS) ∧ ∃ rc' ec' : Nat, RS cy ad lim rc' ec' m0 mem') ∧ (bgF (hereF Z T a) = false ∨ Ec = 100 ∨ (bgF (hereF Z T a) = true ∧ Ec < 100 ∧ Fai T Z (seqS T Z a u R (Ec + 1) 0 A nm))))) [.ref (ad 222), .int (0)].toArray s 1 6 (Az sz)) (F0 m 20 ls []) := by
    intro d96
    induction d96 with
    | zero => intro mem9 a1 u1 R1 E1 S1 A1 B1 n1 to1 la k9 ls H locs hmeas103; exact absurd hmeas103 (Nat.not_lt_zero _)
    | succ d96 ih102 =>
      intro mem9 a1 u1 R1 E1 S1 A1 B1 n1 to1 la k9 ls H locs hmeas103 hz97 hz98 hz99 hz100 hz101 hP hD hS hl
      obtain ⟨g1, eg1⟩ : ∃ z, z = gapF T Z a1 := ⟨_, rfl⟩
      rw [← eg1] at hz97
      have hge1 : a1 ≤ g1 := by rw [eg1]; exact gapF_ge T Z _
      have hbd8 := hz98
      have hle1 : g1 ≤ Z := by rw [eg1]; exact gapF_le T (by omega)
      have hal := hz99
      have hbdE := hz97.1.1.1
      have hla := hal.2.2.2.2.2.2.2.2.2.2
      have hSa1 := hal.2.2.2.1.2.1
      have hlka := ali_lka hal hLK hE9 hcl
      obtain ⟨ft104, h9_105⟩ := hz97.2.1
      have h1_106 : mem9 1 = .inr (0, [.ref (ad 2), .int (nI Z)]) := (hz97.1.2.2 1 (by omega)).trans hT.1
      have h2_107 : mem9 2 = .inl (cy 0, 240, .inl f) := (hz97.1.2.2 2 (by omega)).trans hT.2.2
      have h5_108 := hz97.1.1.2.1
      have hbd114 := hz97.1.1.1
      obtain ⟨S109, g110, hS_111, h220_112, h221_113⟩ := hz97.1.1.2.2.2.2.2.2
      refine lv_iload Bx.1 Bx.2.1 d_Rd_readAlternatives_20 (lv_at hl 0 rfl) ?_
      refine lv_sipush (v := 240) Bx.1 Bx.2.1 d_Rd_readAlternatives_22 (by decide) ?_
      refine lv_icmp_ge Bx.1 Bx.2.1 d_Rd_readAlternatives_25 rfl (fun hb115 => ?_) (fun hb115 => ?_)
      · have hN116 : 240 ≤ k9 := (nI_leI (by omega) (by omega)).mp (show nI (240) ≤ nI (k9) from hb115)
        exact absurd hbd8 (by omega)
      · have hN117 : ¬ 240 ≤ k9 := fun q9 => hb115 (show nI (240) ≤ nI (k9) from (nI_leI (by omega) (by omega)).mpr q9)
        refine lv_aload_n Bx.1 Bx.2.1 d_Rd_readAlternatives_28 rfl (lv_at hl 3 rfl) ?_
        refine f_callVi (na := 0) (As := []) (rest := []) Bx hml E hP hD hS (by omega) h9_105 rfl (m_Rd_peekX l hn hT hf hz97 (by omega)) kw_353 kw_355 sel_Rd_peek kw_6 kw_356 (by decide +kernel) ⟨rfl, rfl⟩ ⟨Nat.le_of_ble_eq_true rfl, Nat.le_of_ble_eq_true rfl⟩ rfl hl.1 (Nat.le_of_ble_eq_true rfl) d_Rd_readAlternatives_29 ⟨Nat.le_of_ble_eq_true rfl, Nat.le_of_ble_eq_true rfl⟩ (fun r119 mem120 H locs hq hP hS => ?_)
        have hD : va_D (Az sz) (fw n ad mem120) := fw_D hD
        obtain ⟨hqe, hpk118⟩ := hq
        rw [hqe] at hP hD
        subst hpk118
        refine lv_bipush (v := 47) Bx.1 Bx.2.1 d_Rd_readAlternatives_32 (by decide) ?_
        refine lv_icmp_ne Bx.1 Bx.2.1 d_Rd_readAlternatives_34 rfl (fun hb122 => ?_) (fun hb122 => ?_)
        · refine lv_aload_n Bx.1 Bx.2.1 d_Rd_readAlternatives_72 rfl (lv_at hl 2 rfl) ?_
          exact x_aret hx hb hlocks hr (⟨la, a1, u1, R1, E1, S1, A1, B1, n1, to1, rfl, by omega, by omega, by omega, by omega, hz100, by rw [← eg1]; exact hz97, hal, hbg, hE9, by rw [← eg1]; exact hb122, hz101⟩) hP hS d_Rd_readAlternatives_73
        · have hlt123 := hereF_lt (by rw [hb122]; decide)
          have h47 : hereF Z T (gapF T Z a1) = 47 := by rw [← eg1]; exact hb122
          have h237 : A1 237 0 = nI cq := hal.2.2.2.2.2.2.2.2.1.2.2.1.trans hc
          have h239 : A1 239 0 = -1 := hal.2.2.2.2.2.2.2.2.1.2.2.2
          refine lv_aload_n Bx.1 Bx.2.1 d_Rd_readAlternatives_37 rfl (lv_at hl 3 rfl) ?_
          refine lv_dup Bx.1 Bx.2.1 d_Rd_readAlternatives_38 rfl ?_
          refine f_get Bx hP (by omega) h9_105 rfl inRd 2 (by decide) kw_146 rfl rfl d_Rd_readAlternatives_39 ?_
          refine lv_iconst (v := 1) Bx.1 Bx.2.1 d_Rd_readAlternatives_42 (by decide) ?_
          refine lv_iadd Bx.1 Bx.2.1 d_Rd_readAlternatives_43 ?_
          rw [show nI g1 + 1 = nI (g1 + 1) from nI_add (g1) (1)]
          refine f_put Bx hP hD hS (by omega) h9_105 rfl inRd tyRd okRd nmRd 2 (by decide) kw_146 rfl rfl rfl rfl (Nat.le_of_ble_eq_true rfl) d_Rd_readAlternatives_44 (fun H locs hP hS => ?_)
          obtain ⟨mem124, e_mem124⟩ : ∃ z, z = va_up mem9 (222) (.inr (4, [.ref (ad 1), .ref (ad 5), .int (nI (g1 + 1)), .int (ft104)])) := ⟨_, rfl⟩
          have hP : va_P D vcl (fw n ad mem124) H := by rw [e_mem124]; exact hP
          have hD : va_D (Az sz) (fw n ad mem124) := fw_D hD
          have h_mem124 : mem124 (222) = .inr (4, [.ref (ad 1), .ref (ad 5), .int (nI (g1 + 1)), .int (ft104)]) := by rw [e_mem124, va_up_self]
          have hh125 := (va_up_ne mem9 (.inr (4, [.ref (ad 1), .ref (ad 5), .int (nI (g1 + 1)), .int (ft104)])) (show (1 : Nat) ≠ 222 by first | decide | assumption | omega)).trans h1_106
          rw [← e_mem124] at hh125
          have hh126 := (va_up_ne mem9 (.inr (4, [.ref (ad 1), .ref (ad 5), .int (nI (g1 + 1)), .int (ft104)])) (show (5 : Nat) ≠ 222 by first | decide | assumption | omega)).trans h5_108
          rw [← e_mem124] at hh126
          have hh127 := (va_up_ne mem9 (.inr (4, [.ref (ad 1), .ref (ad 5), .int (nI (g1 + 1)), .int (ft104)])) (show (220 : Nat) ≠ 222 by first | decide | assumption | omega)).trans h220_112
          rw [← e_mem124] at hh127
          have her128 : ER ad (R1) (E1) (B1) mem124 := hal.2.1.fr (Nat.le_refl _) (fun i9 hi9 => by rw [e_mem124]; exact va_up_ne _ _ (by omega))
          have hsr129 : SR cy ad (S1) (B1) mem124 := ⟨(show mem124 220 = _ from by rw [e_mem124]; exact va_up_ne _ _ (by omega)).trans hal.2.2.1.1, (show mem124 221 = _ from by rw [e_mem124]; exact va_up_ne _ _ (by omega)).trans hal.2.2.1.2⟩
          have hRX130 : RX cy ad lim (g1 + 1) (R1) (E1) (to1) (n1) m0 mem124 := by rw [e_mem124]; exact hz97.at
          refine lv_aload_n Bx.1 Bx.2.1 d_Rd_readAlternatives_47 rfl (lv_at hl 3 rfl) ?_
          refine f_callVi (na := 0) (As := []) (rest := []) Bx hml E hP hD hS (by omega) h_mem124 rfl (m_Rd_readGapY l hn hT hf hRX130 (by omega) (by omega)) kw_397 kw_399 sel_Rd_readGap kw_6 kw_400 (by decide +kernel) ⟨rfl, rfl⟩ ⟨Nat.le_of_ble_eq_true rfl, Nat.le_of_ble_eq_true rfl⟩ rfl hl.1 (Nat.le_of_ble_eq_true rfl) d_Rd_readAlternatives_48 ⟨Nat.le_of_ble_eq_true rfl, Nat.le_of_ble_eq_true rfl⟩ (fun r131 mem132 H locs hq hP hS => ?_)
          have hD : va_D (Az sz) (fw n ad mem132) := fw_D hD
          obtain ⟨g133, eg134⟩ : ∃ z, z = gapF T Z (g1 + 1) := ⟨_, rfl⟩
          rw [← eg134] at hq
          obtain ⟨hRX135, hgc136, hfa137⟩ := hq
          have hg138 : g1 + 1 ≤ g133 := by rw [eg134]; exact gapF_ge T Z _
          have hg139 : g133 ≤ Z := by rw [eg134]; exact gapF_le T (by omega)
          obtain ⟨ft140, h9_141⟩ := hRX135.2.1
          have h1_142 : mem132 1 = .inr (0, [.ref (ad 2), .int (nI Z)]) := (hRX135.1.2.2 1 (by omega)).trans hT.1
          have h2_143 : mem132 2 = .inl (cy 0, 240, .inl f) := (hRX135.1.2.2 2 (by omega)).trans hT.2.2
          have h5_144 := hRX135.1.1.2.1
          have hbd150 := hRX135.1.1.1
          obtain ⟨S145, g146, hS_147, h220_148, h221_149⟩ := hRX135.1.1.2.2.2.2.2.2
          have her151 : ER ad (R1) (E1) (B1) mem132 := her128.fr (Nat.le_refl _) (fun i9 hi9 => hfa137 _ (by omega))
          have hsr152 : SR cy ad (S1) (B1) mem132 := ⟨(show mem132 220 = _ from hfa137 _ (by omega)).trans hsr129.1, (show mem132 221 = _ from hfa137 _ (by omega)).trans hsr129.2⟩
          refine lv_pop Bx.1 Bx.2.1 d_Rd_readAlternatives_51 rfl ?_
          refine lv_aload_n Bx.1 Bx.2.1 d_Rd_readAlternatives_52 rfl (lv_at hl 1 rfl) ?_
          refine lv_aload_n Bx.1 Bx.2.1 d_Rd_readAlternatives_53 rfl (lv_at hl 3 rfl) ?_
          refine lv_iload_n Bx.1 Bx.2.1 d_Rd_readAlternatives_54 rfl (lv_at hl 4 rfl) ?_
          refine f_xVr (na := 1) (As := [.int (0)]) (rest := [.ref (ad (20 + 2 * la))]) Bx hml E hP hD hS (by omega) h9_141 rfl (m_Rd_readSequence_0Y l hlt hn hT hf hRX135 (by omega) (u := u1) (A := A1) her151 hsr152 (by omega) (by omega) hlka h237 (by omega) h239) kw_435 kw_437 sel_Rd_readSequence kw_6 kw_438 (by decide +kernel) ⟨rfl, rfl⟩ ⟨Nat.le_of_ble_eq_true rfl, Nat.le_of_ble_eq_true rfl⟩ rfl hl.1 (Nat.le_of_ble_eq_true rfl) d_Rd_readAlternatives_55 ⟨Nat.le_of_ble_eq_true rfl, Nat.le_of_ble_eq_true rfl⟩ (fun X ce q9 memx H locs hx9 hP hS g1 g2 g3 => f_out hlocks hno hP hS g1 g2 g3 ⟨Nat.le_of_ble_eq_true rfl, Nat.le_of_ble_eq_true rfl⟩ ⟨hx9.1, Or.inr (Or.inr ⟨hbg, hE9, hal.1.fai (go_sl h47) (by rw [← eg1, ← eg134]; exact hx9.2)⟩)⟩) (fun r153 mem154 H locs hq hP hS => ?_)
          have hD : va_D (Az sz) (fw n ad mem154) := fw_D hD
          obtain ⟨ax155, ux156, Rx157, Ex158, Sx159, Ax160, Bx_161, nx162, tox163, hr9164, h2165, h3166, h4167, h5168, htk169, hRX170, rds171, hnb172⟩ := hq
          subst hr9164
          obtain ⟨g173, eg174⟩ : ∃ z, z = gapF T Z ax155 := ⟨_, rfl⟩
          have hg175 : ax155 ≤ g173 := by rw [eg174]; exact gapF_ge T Z _
          have hg176 : g173 ≤ Z := by rw [eg174]; exact gapF_le T (by omega)
          rw [← eg174] at hRX170
          obtain ⟨ft177, h9_178⟩ := hRX170.2.1
          have h1_179 : mem154 1 = .inr (0, [.ref (ad 2), .int (nI Z)]) := (hRX170.1.2.2 1 (by omega)).trans hT.1
          have h2_180 : mem154 2 = .inl (cy 0, 240, .inl f) := (hRX170.1.2.2 2 (by omega)).trans hT.2.2
          have h5_181 := hRX170.1.1.2.1
          have hbd187 := hRX170.1.1.1
          obtain ⟨S182, g183, hS_184, h220_185, h221_186⟩ := hRX170.1.1.2.2.2.2.2.2
          have hbd188 := hRX170.1.1.1
          have hce189 := (rds171.2.1 la (by omega)).1
          refine f_putN Bx hP hD hS (by omega) hce189 rfl inEl tyEl okEl nmEl 5 (by decide) kw_91 rfl rfl rfl rfl (Nat.le_of_ble_eq_true rfl) d_Rd_readAlternatives_58 (fun H locs hP hS => ?_)
          obtain ⟨mem190, e_mem190⟩ : ∃ z, z = va_up mem154 ((20 + 2 * la)) (.inr (2, [.int (Bx_161 228 la), .int (Bx_161 229 la), .int (Bx_161 230 la), vR ad (Bx_161 231 la), vE ad (Bx_161 232 la), .ref (ad (20 + 2 * E1)), .ref (ad (21 + 2 * la))])) := ⟨_, rfl⟩
          have hP : va_P D vcl (fw n ad mem190) H := by rw [e_mem190]; exact hP
          have hD : va_D (Az sz) (fw n ad mem190) := fw_D hD
          have h_mem190 : mem190 ((20 + 2 * la)) = .inr (2, [.int (Bx_161 228 la), .int (Bx_161 229 la), .int (Bx_161 230 la), vR ad (Bx_161 231 la), vE ad (Bx_161 232 la), .ref (ad (20 + 2 * E1)), .ref (ad (21 + 2 * la))]) := by rw [e_mem190, va_up_self]
          have hh191 := (va_up_ne mem154 (.inr (2, [.int (Bx_161 228 la), .int (Bx_161 229 la), .int (Bx_161 230 la), vR ad (Bx_161 231 la), vE ad (Bx_161 232 la), .ref (ad (20 + 2 * E1)), .ref (ad (21 + 2 * la))])) (show (222 : Nat) ≠ (20 + 2 * la) by first | decide | assumption | omega)).trans h9_178
          rw [← e_mem190] at hh191
          have hh192 := (va_up_ne mem154 (.inr (2, [.int (Bx_161 228 la), .int (Bx_161 229 la), .int (Bx_161 230 la), vR ad (Bx_161 231 la), vE ad (Bx_161 232 la), .ref (ad (20 + 2 * E1)), .ref (ad (21 + 2 * la))])) (show (1 : Nat) ≠ (20 + 2 * la) by first | decide | assumption | omega)).trans h1_179
          rw [← e_mem190] at hh192
          have hh193 := (va_up_ne mem154 (.inr (2, [.int (Bx_161 228 la), .int (Bx_161 229 la), .int (Bx_161 230 la), vR ad (Bx_161 231 la), vE ad (Bx_161 232 la), .ref (ad (20 + 2 * E1)), .ref (ad (21 + 2 * la))])) (show (5 : Nat) ≠ (20 + 2 * la) by first | decide | assumption | omega)).trans h5_181
          rw [← e_mem190] at hh193
          have hh194 := (va_up_ne mem154 (.inr (2, [.int (Bx_161 228 la), .int (Bx_161 229 la), .int (Bx_161 230 la), vR ad (Bx_161 231 la), vE ad (Bx_161 232 la), .ref (ad (20 + 2 * E1)), .ref (ad (21 + 2 * la))])) (show (220 : Nat) ≠ (20 + 2 * la) by first | decide | assumption | omega)).trans h220_185
          rw [← e_mem190] at hh194
          have hRX195 : RX cy ad lim (g173) (Rx157) (Ex158) (tox163) (nx162) m0 mem190 := by rw [e_mem190]; exact hRX170.el (by omega) (hRX170.1.mk (by omega) (hRX170.1.1.upEl (by omega) (fun _ => ⟨(rds171.2.1 la (by omega)).2.1.oR ad, (rds171.2.1 la (by omega)).2.2.1.oE ad (by omega), Or.inr ⟨E1, by omega, by omega, rfl⟩⟩)))
          have her196 : ER ad (Rx157) (Ex158) (va_up Bx_161 233 (upd (Bx_161 233) la (nI E1))) mem190 := rds171.2.1.next (by omega) (by omega) (by omega) h_mem190 (fun i9 q9 hi9 => by rw [e_mem190]; exact va_up_ne _ _ (by omega))
          have hsr197 : SR cy ad (Sx159) (Bx_161) mem190 := ⟨(show mem190 220 = mem154 220 by rw [e_mem190]; exact va_up_ne _ _ (by omega)).trans rds171.2.2.1.1, (show mem190 221 = mem154 221 by rw [e_mem190]; exact va_up_ne _ _ (by omega)).trans rds171.2.2.1.2⟩
          obtain ⟨ft198, h9_199⟩ := hRX195.2.1
          have h1_200 : mem190 1 = .inr (0, [.ref (ad 2), .int (nI Z)]) := (hRX195.1.2.2 1 (by omega)).trans hT.1
          have h2_201 : mem190 2 = .inl (cy 0, 240, .inl f) := (hRX195.1.2.2 2 (by omega)).trans hT.2.2
          have h5_202 := hRX195.1.1.2.1
          have hbd208 := hRX195.1.1.1
          obtain ⟨S203, g204, hS_205, h220_206, h221_207⟩ := hRX195.1.1.2.2.2.2.2.2
          refine lv_aload_n Bx.1 Bx.2.1 d_Rd_readAlternatives_61 rfl (lv_at hl 1 rfl) ?_
          refine f_getN Bx hP (by omega) h_mem190 rfl inEl 5 (by decide) kw_91 rfl rfl d_Rd_readAlternatives_62 ?_
          refine lv_astore_n (lv' := [(3, .ref (ad (20 + 2 * E1))), (4, .int (nI k9)), (2, .ref (ad (20 + 2 * Ec))), (0, .ref (ad 222)), (1, .int (0))]) Bx.1 Bx.2.1 d_Rd_readAlternatives_65 rfl hl (by decide) rfl (fun ls hl => ?_)
          refine lv_iinc (lv' := [(4, .int ((nI k9 + (1)))), (3, .ref (ad (20 + 2 * E1))), (2, .ref (ad (20 + 2 * Ec))), (0, .ref (ad 222)), (1, .int (0))]) Bx.1 Bx.2.1 d_Rd_readAlternatives_66 hl (k := 1) rfl rfl (by decide) rfl (fun ls hl => ?_)
          rw [show (nI k9 + (1) : Int32) = nI (k9 + 1) from nI_1 (k9)] at hl
          refine lv_goto Bx.1 Bx.2.1 d_Rd_readAlternatives_69 rfl ?_
          have hal3 := alt_step hal (by omega) hLK hlka (by omega) hcl rds171 (by omega) (by omega) (by rw [eg134, eg1]; exact go_sl h47) her196 hsr197
          exact ih102 mem190 (ax155) (ux156) (Rx157) (Ex158) (Sx159) (Ax160) ((va_up Bx_161 233 (upd (Bx_161 233) la (nI E1)))) (nx162) (tox163) (E1) (k9 + 1) _ _ _ (by have := hmeas103; omega) (by rw [← eg174]; exact hRX195) (⟨by omega, by omega, by omega, by omega, by omega⟩) (hal3) (hz100.trans htk169 (by omega)) (hnb172) hP hD hS (lv_sub hl [0, 1, 2, 3, 4] rfl)
  exact loop95 _ mem76 (ax41) (ux42) (Rx43) (Ex44) (Sx45) (Ax46) ((va_up Bx_47 232 (upd (Bx_47 232) Ec (nI (Ec + 1))))) (nx48) (tox49) (Ec + 1) (0) _ _ _ (Nat.lt_succ_self _) (by rw [← eg60]; exact hRX81) (⟨by omega, by omega, by omega, by omega, by omega⟩) (hal0) (htk55) (hnb58) hP hD hS (lv_sub hl [0, 1, 2, 3, 4] rfl)
