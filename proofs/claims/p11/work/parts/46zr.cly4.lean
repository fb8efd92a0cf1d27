theorem cl.oR {rc : Nat} {x : Int32} (h : cl rc x) (ad : Nat → Nat) (hb : rc ≤ 12 := by omega) : oR ad rc (vR ad x) := by
  rcases h with rfl | ⟨j, h1, rfl⟩
  · exact Or.inl (vR_m ad)
  · exact Or.inr ⟨j, h1, vR_n ad (by omega)⟩
theorem lk.oE {ec k : Nat} {x : Int32} (h : lk ec k x) (ad : Nat → Nat) (hb : ec ≤ 100) : oE ad (k + 1) ec (vE ad x) := by
  rcases h with rfl | ⟨j, h1, h2, rfl⟩
  · exact Or.inl (vE_m ad)
  · exact Or.inr ⟨j, by omega, h2, vE_n ad (by omega)⟩
theorem frm_seq {A : Ro} {j Ec c : Nat} (hA : LKa Ec A) (hE : Ec < 100) (hc : A 237 j = nI c) (hcl : c < Ec) (h39 : A 239 j = -1) : LKa (Ec + 1) (seqA A j Ec) ∧ FRM (seqA A j Ec) j (Ec + 1) ∧ seqA A j Ec 239 j = -1 := by
  obtain ⟨hf1, f2, f8, f38, f38g⟩ := seqA_f (u := 0) hA (by omega) hc hcl
  have e39 : seqA A j Ec 239 j = -1 := by rw [seqA_ne (by decide) (by decide)]; exact h39
  exact ⟨lka_one hA hf1.o (slot_lt hA (by omega) hcl) f2 hf1.2.2.2.2.1, ⟨⟨Ec, by omega, f38⟩, Or.inl e39⟩, e39⟩
theorem frm_rep {A : Ro} {j Ec : Nat} {v1 v2 : Int32} (hA : LKa Ec A) (hE : Ec < 100) (hF : FRM A j Ec) (h39 : A 239 j = -1) : LKa (Ec + 1) (repB A j Ec v1 v2) ∧ FRM (repB A j Ec v1 v2) j (Ec + 1) := by
  obtain ⟨hf1, ⟨f2, f3, f8, f9, f0⟩, f39, f39g⟩ := repB_f (u := 0) (v1 := v1) (v2 := v2) hA (by omega) hF h39
  obtain ⟨⟨s, hs, q8⟩, -⟩ := hF
  exact ⟨lka_one hA hf1 (psf_lt hA (by omega) ⟨⟨s, hs, q8⟩, Or.inl h39⟩) f2 f3, ⟨⟨s, by omega, by rw [repB_ne (by decide) (by decide)]; exact q8⟩, Or.inr ⟨Ec, by omega, f39⟩⟩⟩
set_option maxHeartbeats 4000000 in
set_option maxRecDepth 100000 in
theorem m_Rd_readBracket_6Y (l : Launch) {D : va_G} {cy : Nat → ClassId} {sz n : Nat} {ad : Nat → Nat} {mem : Nat → va_E} {Z a R Ec lim : Nat} {f T : Nat → Int32} {to : Nat → Int32} {nm : Nat → Int64} {m0 : Nat → va_E} {u S : Nat} {A Bw : Ro} {what oe en : Int32} (hlt : l.stackTraces = false) (hn : 224 ≤ n) (hT : TX cy ad Z f m0) (hf : ∀ k, k < Z → f k = T k) (hRX : RX cy ad lim a R Ec to nm m0 mem) (haB : a ≤ 300) (hER : ER ad R Ec Bw mem) (hSR : SR cy ad S Bw mem) (hSa : S ≤ a) (haZ : a < Z) (hwe : (what = 1 ∧ en = 41) ∨ (what = 2 ∧ en = 93)) (hLK : LKa Ec A) : NXr l D cy sz n ad y_Rd_readBracket c_Rd_readBracket 4 (some (.object "AbnfChart$Element")) ({ frames := 14, cells := 1, slots := 6, locals := 320 } : Room) mem [.ref (ad 222), .int (6), .int (en)] (fun r mem' => False) (fun X mem' => ((X = cIA ∨ X = cIS) ∧ ∃ rc' ec' : Nat, RS cy ad lim rc' ec' m0 mem') ∧ (True)) := by
  refine vx_ofW (cc := c_Rd_readBracket) (maxL := 4) (ret := (some (.object "AbnfChart$Element"))) (by decide) rfl ?_
  intro p e s m args below meth c s₁ B hml hno hv
  obtain ⟨rfl, E, hP, hD⟩ := hv
  have hx := B.exec
  have hb := B.bytes
  have hr := B.returns
  have hlocks := B.notSynchronized
  have Bx : MB p s m [.ref (ad 222), .int (6), .int (en)].toArray c c_Rd_readBracket "AbnfChart$Reader" D cy := ⟨hx, hb, tb_all (atoms_spec B.pre) E.2.1, findClass_of_methodNamed B.named, E.1⟩
  have hS : va_S (Az sz) s.heap s.heap [] := va_S.rf
  have hl := lv_entry ([.ref (ad 222), .int (6), .int (en)]) (n := 4) (Nat.le_of_ble_eq_true rfl)
  rw [lg_entry_eq]
  generalize (lg_sl ([.ref (ad 222), .int (6), .int (en)]) ++ List.replicate (4 - (lg_sl ([.ref (ad 222), .int (6), .int (en)])).length) Slot.unset).toArray = ls at hl ⊢
  have hl : lv_has ls 4 [(0, .ref (ad 222)), (1, .int (6)), (2, .int (en))] := hl
  have hZ9 := hT.2.1
  have hbd9 := hRX.1.1.1
  have hfr0 : ∀ i, 7 ≤ i ∧ i < 222 → mem i = mem i := fun _ _ => rfl
  have hrk0 : ∀ i9, i9 < R → mem (7 + i9) = mem (7 + i9) := fun _ _ => rfl
  obtain ⟨ft1, h9_2⟩ := hRX.2.1
  have h1_3 : mem 1 = .inr (0, [.ref (ad 2), .int (nI Z)]) := (hRX.1.2.2 1 (by omega)).trans hT.1
  have h2_4 : mem 2 = .inl (cy 0, 240, .inl f) := (hRX.1.2.2 2 (by omega)).trans hT.2.2
  have h5_5 := hRX.1.1.2.1
  have hbd11 := hRX.1.1.1
  obtain ⟨S6, g7, hS_8, h220_9, h221_10⟩ := hRX.1.1.2.2.2.2.2.2
  refine lv_aload_n Bx.1 Bx.2.1 d_Rd_readBracket_0 rfl (lv_at hl 0 rfl) ?_
  refine lv_iload_n Bx.1 Bx.2.1 d_Rd_readBracket_1 rfl (lv_at hl 1 rfl) ?_
  refine lv_bipush (v := 6) Bx.1 Bx.2.1 d_Rd_readBracket_2 (by decide) ?_
  refine lv_icmp_ge Bx.1 Bx.2.1 d_Rd_readBracket_4 rfl (fun hb12 => ?_) (fun hb12 => ?_)
  · refine lv_iconst (v := 0) Bx.1 Bx.2.1 d_Rd_readBracket_11 (by decide) ?_
    refine lv_aload_n Bx.1 Bx.2.1 d_Rd_readBracket_12 rfl (lv_at hl 0 rfl) ?_
    refine f_get Bx hP (by omega) h9_2 rfl inRd 2 (by decide) kw_146 rfl rfl d_Rd_readBracket_13 ?_
    refine f_xVv (na := 2) (As := [.int (0), .int (nI a)]) (rest := []) Bx hml E hP hD hS (by omega) h9_2 rfl (m_Rd_needRoomX l hlt hn hT hf hRX (by omega)) kw_383 kw_385 sel_Rd_needRoom kw_6 kw_386 (by decide +kernel) ⟨rfl, rfl⟩ ⟨Nat.le_of_ble_eq_true rfl, Nat.le_of_ble_eq_true rfl⟩ rfl hl.1 (Nat.le_of_ble_eq_true rfl) d_Rd_readBracket_16 ⟨Nat.le_of_ble_eq_true rfl, Nat.le_of_ble_eq_true rfl⟩ (fun X ce q9 memx H locs hx9 hP hS g1 g2 g3 => f_out hlocks hno hP hS g1 g2 g3 ⟨Nat.le_of_ble_eq_true rfl, Nat.le_of_ble_eq_true rfl⟩ ⟨hx9.1, trivial⟩) (fun mem14 H locs hq hP hS => ?_)
    have hD : va_D (Az sz) (fw n ad mem14) := fw_D hD
    obtain ⟨hqe, hg15⟩ := hq
    rw [hqe] at hP hD
    exact absurd rfl hg15
  · exact absurd hb12 (by decide)
theorem elA_lka {A : Ro} {E : Nat} {kd : Int32} (hA : LKa E A) : LKa (E + 1) (elA A E kd) := by
  intro k hk
  by_cases q : k < E
  · have hne : k ≠ E := by omega
    show lk (E + 1) k (upd (A 232) E (-1) k) ∧ lk (E + 1) k (upd (A 233) E (-1) k)
    rw [upd_ne hne, upd_ne hne]
    exact ⟨(hA k q).1.mono (by omega), (hA k q).2.mono (by omega)⟩
  · obtain rfl : k = E := by omega
    show lk (k + 1) k (upd (A 232) k (-1) k) ∧ lk (k + 1) k (upd (A 233) k (-1) k)
    rw [upd_self, upd_self]
    exact ⟨Or.inl rfl, Or.inl rfl⟩
theorem rdsEq {cy : Nat → ClassId} {ad : Nat → Nat} {T : Nat → Int32} {Z j : Nat} {o o2 : Option Cg} {sl : Nat × Bool} {R Ec S u : Nat} {A Bw : Ro} {k' a' u' R' E' S' : Nat} {A' Bw' : Ro} {nm' : Nat → Int64} {mem' : Nat → va_E} (h : RDS cy ad T Z j o sl R Ec S u A Bw k' a' u' R' E' S' A' Bw' nm' mem') (e : o2 = o) : RDS cy ad T Z j o2 sl R Ec S u A Bw k' a' u' R' E' S' A' Bw' nm' mem' := by
  subst e
  exact h
set_option maxHeartbeats 4000000 in
set_option maxRecDepth 100000 in
theorem m_Rd_readOption_6Y (l : Launch) {D : va_G} {cy : Nat → ClassId} {sz n : Nat} {ad : Nat → Nat} {mem : Nat → va_E} {Z a R Ec lim : Nat} {f T : Nat → Int32} {to : Nat → Int32} {nm : Nat → Int64} {m0 : Nat → va_E} {u S : Nat} {A Bw : Ro} (hlt : l.stackTraces = false) (hn : 224 ≤ n) (hT : TX cy ad Z f m0) (hf : ∀ k, k < Z → f k = T k) (hRX : RX cy ad lim a R Ec to nm m0 mem) (haB : a ≤ 300) (hER : ER ad R Ec Bw mem) (hSR : SR cy ad S Bw mem) (hSa : S ≤ a) (haZ : a < Z) (hLK : LKa Ec A) (hF : FRM A 6 Ec) (c91 : hereF Z T a = 91) : NXr l D cy sz n ad y_Rd_readOption c_Rd_readOption 3 (some (.object "AbnfChart$Element")) ({ frames := 15, cells := 1, slots := 6, locals := 343 } : Room) mem [.ref (ad 222), .int (6)] (fun r mem' => False) (fun X mem' => ((X = cIA ∨ X = cIS) ∧ ∃ rc' ec' : Nat, RS cy ad lim rc' ec' m0 mem') ∧ (True)) := by
  refine vx_ofW (cc := c_Rd_readOption) (maxL := 3) (ret := (some (.object "AbnfChart$Element"))) (by decide) rfl ?_
  intro p e s m args below meth c s₁ B hml hno hv
  obtain ⟨rfl, E, hP, hD⟩ := hv
  have hx := B.exec
  have hb := B.bytes
  have hr := B.returns
  have hlocks := B.notSynchronized
  have Bx : MB p s m [.ref (ad 222), .int (6)].toArray c c_Rd_readOption "AbnfChart$Reader" D cy := ⟨hx, hb, tb_all (atoms_spec B.pre) E.2.1, findClass_of_methodNamed B.named, E.1⟩
  have hS : va_S (Az sz) s.heap s.heap [] := va_S.rf
  have hl := lv_entry ([.ref (ad 222), .int (6)]) (n := 3) (Nat.le_of_ble_eq_true rfl)
  rw [lg_entry_eq]
  generalize (lg_sl ([.ref (ad 222), .int (6)]) ++ List.replicate (3 - (lg_sl ([.ref (ad 222), .int (6)])).length) Slot.unset).toArray = ls at hl ⊢
  have hl : lv_has ls 3 [(0, .ref (ad 222)), (1, .int (6))] := hl
  have hZ9 := hT.2.1
  have hbd9 := hRX.1.1.1
  have hfr0 : ∀ i, 7 ≤ i ∧ i < 222 ∧ i ≠ 20 + 2 * Ec → mem i = mem i := fun _ _ => rfl
  have hrk0 : ∀ i9, i9 < R → mem (7 + i9) = mem (7 + i9) := fun _ _ => rfl
  obtain ⟨ft1, h9_2⟩ := hRX.2.1
  have h1_3 : mem 1 = .inr (0, [.ref (ad 2), .int (nI Z)]) := (hRX.1.2.2 1 (by omega)).trans hT.1
  have h2_4 : mem 2 = .inl (cy 0, 240, .inl f) := (hRX.1.2.2 2 (by omega)).trans hT.2.2
  have h5_5 := hRX.1.1.2.1
  have hbd11 := hRX.1.1.1
  obtain ⟨S6, g7, hS_8, h220_9, h221_10⟩ := hRX.1.1.2.2.2.2.2.2
  refine lv_aload_n Bx.1 Bx.2.1 d_Rd_readOption_0 rfl (lv_at hl 0 rfl) ?_
  refine lv_iconst (v := 3) Bx.1 Bx.2.1 d_Rd_readOption_1 (by decide) ?_
  refine lv_aload_n Bx.1 Bx.2.1 d_Rd_readOption_2 rfl (lv_at hl 0 rfl) ?_
  refine f_get Bx hP (by omega) h9_2 rfl inRd 2 (by decide) kw_146 rfl rfl d_Rd_readOption_3 ?_
  refine f_xVr (na := 2) (As := [.int (3), .int (nI a)]) (rest := []) Bx hml E hP hD hS (by omega) h9_2 rfl (m_Rd_addElementY l hlt hn hT hf hRX (by omega)) kw_419 kw_421 sel_Rd_addElement kw_6 kw_422 (by decide +kernel) ⟨rfl, rfl⟩ ⟨Nat.le_of_ble_eq_true rfl, Nat.le_of_ble_eq_true rfl⟩ rfl hl.1 (Nat.le_of_ble_eq_true rfl) d_Rd_readOption_6 ⟨Nat.le_of_ble_eq_true rfl, Nat.le_of_ble_eq_true rfl⟩ (fun X ce q9 memx H locs hx9 hP hS g1 g2 g3 => f_out hlocks hno hP hS g1 g2 g3 ⟨Nat.le_of_ble_eq_true rfl, Nat.le_of_ble_eq_true rfl⟩ ⟨hx9.1, trivial⟩) (fun r12 mem13 H locs hq hP hS => ?_)
  have hD : va_D (Az sz) (fw n ad mem13) := fw_D hD
  obtain ⟨hr914, hec15, hRX16, hcl17, hfa18⟩ := hq
  subst hr914
  have hrk19 : ∀ i9, i9 < R → mem13 (7 + i9) = mem (7 + i9) := fun i9 q9 => (hfa18 (7 + i9) (by omega)).trans (hrk0 i9 q9)
  have hfr20 : ∀ i, 7 ≤ i ∧ i < 222 ∧ i ≠ 20 + 2 * Ec → mem13 i = mem i := fun i q => (hfa18 i (by omega)).trans (hfr0 i q)
  obtain ⟨ft21, h9_22⟩ := hRX16.2.1
  have h1_23 : mem13 1 = .inr (0, [.ref (ad 2), .int (nI Z)]) := (hRX16.1.2.2 1 (by omega)).trans hT.1
  have h2_24 : mem13 2 = .inl (cy 0, 240, .inl f) := (hRX16.1.2.2 2 (by omega)).trans hT.2.2
  have h5_25 := hRX16.1.1.2.1
  have hbd31 := hRX16.1.1.1
  obtain ⟨S26, g27, hS_28, h220_29, h221_30⟩ := hRX16.1.1.2.2.2.2.2.2
  obtain ⟨ft32, h9_33⟩ := hRX16.2.1
  have h1_34 : mem13 1 = .inr (0, [.ref (ad 2), .int (nI Z)]) := (hRX16.1.2.2 1 (by omega)).trans hT.1
  have h2_35 : mem13 2 = .inl (cy 0, 240, .inl f) := (hRX16.1.2.2 2 (by omega)).trans hT.2.2
  have h5_36 := hRX16.1.1.2.1
  have hbd42 := hRX16.1.1.1
  obtain ⟨S37, g38, hS_39, h220_40, h221_41⟩ := hRX16.1.1.2.2.2.2.2.2
  refine lv_astore_n (lv' := [(2, .ref (ad (20 + 2 * Ec))), (0, .ref (ad 222)), (1, .int (6))]) Bx.1 Bx.2.1 d_Rd_readOption_9 rfl hl (by decide) rfl (fun ls hl => ?_)
  refine lv_aload_n Bx.1 Bx.2.1 d_Rd_readOption_10 rfl (lv_at hl 0 rfl) ?_
  refine lv_aload_n Bx.1 Bx.2.1 d_Rd_readOption_11 rfl (lv_at hl 1 rfl) ?_
  refine lv_iload_n Bx.1 Bx.2.1 d_Rd_readOption_12 rfl (lv_at hl 2 rfl) ?_
  refine lv_bipush (v := 93) Bx.1 Bx.2.1 d_Rd_readOption_13 (by decide) ?_
  have her43 : ER ad R (Ec + 1) (bwN Bw Ec 3 (0) (0) (-1) (-1) (-1) (Bw 234)) mem13 := hER.new (Nat.le_refl _) (by rw [vR_m]; exact hcl17) (Or.inl rfl) (fun i9 hi9 => hfr20 (20 + 2 * i9) (by omega))
  have hsr44 : SR cy ad S (bwN Bw Ec 3 (0) (0) (-1) (-1) (-1) (Bw 234)) mem13 := ⟨(hfr20 220 (by omega)).trans hSR.1, (hfr20 221 (by omega)).trans hSR.2⟩
  refine f_xVr (na := 2) (As := [.int (6), .int (93)]) (rest := [.ref (ad (20 + 2 * Ec))]) Bx hml E hP hD hS (by omega) h9_33 rfl (m_Rd_readBracket_6Y l hlt hn hT hf hRX16 (by omega) (u := u) (A := elA A Ec 3) (what := 2) (oe := 0) her43 hsr44 (by omega) (by omega) (Or.inr ⟨rfl, rfl⟩) (elA_lka hLK)) kw_447 kw_449 sel_Rd_readBracket kw_6 kw_450 (by decide +kernel) ⟨rfl, rfl⟩ ⟨Nat.le_of_ble_eq_true rfl, Nat.le_of_ble_eq_true rfl⟩ rfl hl.1 (Nat.le_of_ble_eq_true rfl) d_Rd_readOption_15 ⟨Nat.le_of_ble_eq_true rfl, Nat.le_of_ble_eq_true rfl⟩ (fun X ce q9 memx H locs hx9 hP hS g1 g2 g3 => f_out hlocks hno hP hS g1 g2 g3 ⟨Nat.le_of_ble_eq_true rfl, Nat.le_of_ble_eq_true rfl⟩ ⟨hx9.1, trivial⟩) (fun r45 mem46 H locs hq hP hS => ?_)
  have hD : va_D (Az sz) (fw n ad mem46) := fw_D hD
  exact hq.elim
set_option maxHeartbeats 4000000 in
set_option maxRecDepth 100000 in
theorem m_Rd_readElement_6Y (l : Launch) {D : va_G} {cy : Nat → ClassId} {sz n : Nat} {ad : Nat → Nat} {mem : Nat → va_E} {Z a R Ec lim : Nat} {f T : Nat → Int32} {to : Nat → Int32} {nm : Nat → Int64} {m0 : Nat → va_E} {u S : Nat} {A Bw : Ro} (hlt : l.stackTraces = false) (hn : 224 ≤ n) (hT : TX cy ad Z f m0) (hf : ∀ k, k < Z → f k = T k) (hRX : RX cy ad lim a R Ec to nm m0 mem) (haB : a ≤ 300) (hER : ER ad R Ec Bw mem) (hSR : SR cy ad S Bw mem) (hSa : S ≤ a) (haZ : a ≤ Z) (hLK : LKa Ec A) (hF : FRM A 6 Ec) : NXr l D cy sz n ad y_Rd_readElement c_Rd_readElement 2 (some (.object "AbnfChart$Element")) ({ frames := 16, cells := 1, slots := 6, locals := 366 } : Room) mem [.ref (ad 222), .int (6)] (fun r mem' => ∃ (k' a' u' R' E' S' : Nat) (A' Bw' : Ro) (nm' : Nat → Int64) (to' : Nat → Int32), r = ad (20 + 2 * k') ∧ Ec ≤ k' ∧ k' < E' ∧ R ≤ R' ∧ a < a' ∧ a' ≤ Z ∧ TOK R R' to to' ∧ (∀ i9, i9 < R → mem' (7 + i9) = mem (7 + i9)) ∧ RX cy ad lim a' R' E' to' nm' m0 mem' ∧ RDS cy ad T Z 6 (singS T Z a u R Ec 6 A nm) (PSf A 6) R Ec S u A Bw k' a' u' R' E' S' A' Bw' nm' mem' ∧ A' 238 6 = A 238 6 ∧ OKc (hereF Z T a)) (fun X mem' => ((X = cIA ∨ X = cIS) ∧ ∃ rc' ec' : Nat, RS cy ad lim rc' ec' m0 mem') ∧ (Fai T Z (singS T Z a u R Ec 6 A nm) ∨ ¬ OKc (hereF Z T a))) := by
  refine vx_ofW (cc := c_Rd_readElement) (maxL := 2) (ret := (some (.object "AbnfChart$Element"))) (by decide) rfl ?_
  intro p e s m args below meth c s₁ B hml hno hv
  obtain ⟨rfl, E, hP, hD⟩ := hv
  have hx := B.exec
  have hb := B.bytes
  have hr := B.returns
  have hlocks := B.notSynchronized
  have Bx : MB p s m [.ref (ad 222), .int (6)].toArray c c_Rd_readElement "AbnfChart$Reader" D cy := ⟨hx, hb, tb_all (atoms_spec B.pre) E.2.1, findClass_of_methodNamed B.named, E.1⟩
  have hS : va_S (Az sz) s.heap s.heap [] := va_S.rf
  have hl := lv_entry ([.ref (ad 222), .int (6)]) (n := 2) (Nat.le_of_ble_eq_true rfl)
  rw [lg_entry_eq]
  generalize (lg_sl ([.ref (ad 222), .int (6)]) ++ List.replicate (2 - (lg_sl ([.ref (ad 222), .int (6)])).length) Slot.unset).toArray = ls at hl ⊢
  have hl : lv_has ls 2 [(0, .ref (ad 222)), (1, .int (6))] := hl
  have hZ9 := hT.2.1
  have hbd9 := hRX.1.1.1
  have hfr0 : ∀ i, 7 ≤ i ∧ i < 222 ∧ i ≠ 20 + 2 * Ec → mem i = mem i := fun _ _ => rfl
  have hrk0 : ∀ i9, i9 < R → mem (7 + i9) = mem (7 + i9) := fun _ _ => rfl
  obtain ⟨ft1, h9_2⟩ := hRX.2.1
  have h1_3 : mem 1 = .inr (0, [.ref (ad 2), .int (nI Z)]) := (hRX.1.2.2 1 (by omega)).trans hT.1
  have h2_4 : mem 2 = .inl (cy 0, 240, .inl f) := (hRX.1.2.2 2 (by omega)).trans hT.2.2
  have h5_5 := hRX.1.1.2.1
  have hbd11 := hRX.1.1.1
  obtain ⟨S6, g7, hS_8, h220_9, h221_10⟩ := hRX.1.1.2.2.2.2.2.2
  refine lv_aload_n Bx.1 Bx.2.1 d_Rd_readElement_0 rfl (lv_at hl 0 rfl) ?_
  refine f_callVi (na := 0) (As := []) (rest := []) Bx hml E hP hD hS (by omega) h9_2 rfl (m_Rd_peekX l hn hT hf hRX (by omega)) kw_353 kw_355 sel_Rd_peek kw_6 kw_356 (by decide +kernel) ⟨rfl, rfl⟩ ⟨Nat.le_of_ble_eq_true rfl, Nat.le_of_ble_eq_true rfl⟩ rfl hl.1 (Nat.le_of_ble_eq_true rfl) d_Rd_readElement_1 ⟨Nat.le_of_ble_eq_true rfl, Nat.le_of_ble_eq_true rfl⟩ (fun r13 mem14 H locs hq hP hS => ?_)
  have hD : va_D (Az sz) (fw n ad mem14) := fw_D hD
  obtain ⟨hqe, hpk12⟩ := hq
  rw [hqe] at hP hD
  subst hpk12
  refine lv_topi (fun v16 e_v16 => ?_)
  by_cases c34 : v16 = 34
  · rw [c34]
    refine lv_lookup (off := 58) (tgt := 62) Bx.1 Bx.2.1 d_Rd_readElement_4 (by decide) (by decide) rfl ?_
    rw [e_v16] at c34
    have hlt34 := hereF_lt (show hereF Z T (a) ≠ -1 by rw [c34]; decide)
    refine lv_aload_n Bx.1 Bx.2.1 d_Rd_readElement_62 rfl (lv_at hl 0 rfl) ?_
    refine lv_aload_n Bx.1 Bx.2.1 d_Rd_readElement_63 rfl (lv_at hl 0 rfl) ?_
    refine f_get Bx hP (by omega) h9_2 rfl inRd 2 (by decide) kw_146 rfl rfl d_Rd_readElement_64 ?_
    refine lv_iconst (v := 5) Bx.1 Bx.2.1 d_Rd_readElement_67 (by decide) ?_
    refine f_xVr (na := 2) (As := [.int (nI a), .int (5)]) (rest := []) Bx hml E hP hD hS (by omega) h9_2 rfl (m_Rd_readStringY l hlt hn hT hf hRX (by omega) hSR.1 hSR.2 (by omega) hSa) kw_455 kw_457 sel_Rd_readString kw_6 kw_458 (by decide +kernel) ⟨rfl, rfl⟩ ⟨Nat.le_of_ble_eq_true rfl, Nat.le_of_ble_eq_true rfl⟩ rfl hl.1 (Nat.le_of_ble_eq_true rfl) d_Rd_readElement_68 ⟨Nat.le_of_ble_eq_true rfl, Nat.le_of_ble_eq_true rfl⟩ (fun X ce q9 memx H locs hx9 hP hS g1 g2 g3 => f_out hlocks hno hP hS g1 g2 g3 ⟨Nat.le_of_ble_eq_true rfl, Nat.le_of_ble_eq_true rfl⟩ ⟨hx9.1, Or.inl (fai_str c34 hx9.2 hbd9.2.1)⟩) (fun r17 mem18 H locs hq hP hS => ?_)
    have hD : va_D (Az sz) (fw n ad mem18) := fw_D hD
    obtain ⟨hE9, hq9, hr2, hle9, hRX2, hcl2, ⟨s9, hs0, hs1, hs2, hs3⟩, hfr2⟩ := hq
    subst hr2
    obtain ⟨A2, B2, hrd2, h82⟩ := rds_str (j := 6) (u := u) (nm := nm) c34 hE9 hq9 hLK hF hER hcl2 hs0 hs1 hs2 hs3 (fun k hk => hfr2 (20 + 2 * k) (by omega)) hSa
    exact x_aret hx hb hlocks hr (⟨Ec, _, _, R, Ec + 1, _, A2, B2, nm, to, rfl, by omega, by omega, by omega, by omega, hle9, TOK.of rfl, fun i9 q9 => hfr2 (7 + i9) (by omega), hRX2, hrd2, h82, (l34 c34).2.2.2⟩) hP hS d_Rd_readElement_71
  by_cases c37 : v16 = 37
  · rw [c37]
    refine lv_lookup (off := 68) (tgt := 72) Bx.1 Bx.2.1 d_Rd_readElement_4 (by decide) (by decide) rfl ?_
    rw [e_v16] at c37
    have hlt37 := hereF_lt (show hereF Z T (a) ≠ -1 by rw [c37]; decide)
    refine lv_aload_n Bx.1 Bx.2.1 d_Rd_readElement_72 rfl (lv_at hl 0 rfl) ?_
    refine f_get Bx hP (by omega) h9_2 rfl inRd 0 (by decide) kw_144 rfl rfl d_Rd_readElement_73 ?_
    refine lv_aload_n Bx.1 Bx.2.1 d_Rd_readElement_76 rfl (lv_at hl 0 rfl) ?_
    refine f_get Bx hP (by omega) h9_2 rfl inRd 2 (by decide) kw_146 rfl rfl d_Rd_readElement_77 ?_
    refine lv_iconst (v := 1) Bx.1 Bx.2.1 d_Rd_readElement_80 (by decide) ?_
    refine lv_iadd Bx.1 Bx.2.1 d_Rd_readElement_81 ?_
    rw [show nI a + 1 = nI (a + 1) from nI_add (a) (1)]
    refine f_callVi (na := 1) (As := [.int (nI (a + 1))]) (rest := []) Bx hml E hP hD hS (by omega) h1_3 rfl (m_Ch_codeAt l (by omega) h1_3 (by omega) h2_4 (by rw [nI_toInt (by omega)]; omega)) kw_341 kw_342 kw_343 kw_2 kw_344 (by decide +kernel) ⟨rfl, rfl⟩ ⟨Nat.le_of_ble_eq_true rfl, Nat.le_of_ble_eq_true rfl⟩ rfl hl.1 (Nat.le_of_ble_eq_true rfl) d_Rd_readElement_82 ⟨Nat.le_of_ble_eq_true rfl, Nat.le_of_ble_eq_true rfl⟩ (fun r19 mem20 H locs hq hP hS => ?_)
    have hD : va_D (Az sz) (fw n ad mem20) := fw_D hD
    obtain ⟨hco21, hqe⟩ := hq
    rw [hqe] at hP hD
    rw [code_here hf hT.2.1 (k := a + 1) (by omega)] at hco21
    subst hco21
    refine f_callSNi (na := 1) (As := [.int (hereF Z T (a + 1))]) (rest := []) Bx hml E.2.1 (m_Ab_smallOfX l (hereF Z T (a + 1))) kw_372 kw_373 kw_1 kw_374 (by decide +kernel) ⟨rfl, rfl⟩ ⟨Nat.le_of_ble_eq_true rfl, Nat.le_of_ble_eq_true rfl⟩ rfl hl.1 (Nat.le_of_ble_eq_true rfl) d_Rd_readElement_85 ⟨Nat.le_of_ble_eq_true rfl, Nat.le_of_ble_eq_true rfl⟩ (fun r23 hs22 => ?_)
    subst hs22
    refine lv_bipush (v := 115) Bx.1 Bx.2.1 d_Rd_readElement_88 (by decide) ?_
    refine lv_icmp_ne Bx.1 Bx.2.1 d_Rd_readElement_90 rfl (fun hb24 => ?_) (fun hb24 => ?_)
    · refine lv_aload_n Bx.1 Bx.2.1 d_Rd_readElement_100 rfl (lv_at hl 0 rfl) ?_
      refine f_xVr (na := 0) (As := []) (rest := []) Bx hml E hP hD hS (by omega) h9_2 rfl (m_Rd_readValueY l hlt hn hT hf hRX (by omega) (u8 := u) (e8 := Ec) (A0 := va_up (elA A Ec 4) 231 (upd (elA A Ec 4 231) Ec (vp_nar .boolean 1))) hSR.1 hSR.2 (by omega) hSa) kw_467 kw_469 sel_Rd_readValue kw_6 kw_470 (by decide +kernel) ⟨rfl, rfl⟩ ⟨Nat.le_of_ble_eq_true rfl, Nat.le_of_ble_eq_true rfl⟩ rfl hl.1 (Nat.le_of_ble_eq_true rfl) d_Rd_readElement_101 ⟨Nat.le_of_ble_eq_true rfl, Nat.le_of_ble_eq_true rfl⟩ (fun X ce q9 memx H locs hx9 hP hS g1 g2 g3 => f_out hlocks hno hP hS g1 g2 g3 ⟨Nat.le_of_ble_eq_true rfl, Nat.le_of_ble_eq_true rfl⟩ ⟨hx9.1, Or.inl (fai_val c37 hb24 hx9.2 hbd9.2.1)⟩) (fun r25 mem26 H locs hq hP hS => ?_)
      have hD : va_D (Az sz) (fw n ad mem26) := fw_D hD
      obtain ⟨hE9, ba, a2, u2, A1, hba, hn9, hr2, x1, x2, hRX2, hsp2, hc2, hfr2⟩ := hq
      subst hr2
      obtain ⟨S2, A2, B2, hrd2, h82⟩ := rds_val (j := 6) (nm := nm) c37 hba hE9 hn9 hsp2 hLK hF hER (fun k hk => hfr2 (20 + 2 * k) (by omega)) hSa x1 hc2
      exact x_aret hx hb hlocks hr (⟨Ec, a2, u2, R, Ec + 1, S2, A2, B2, nm, to, rfl, by omega, by omega, by omega, x1, x2, TOK.of rfl, fun i9 q9 => hfr2 (7 + i9) (by omega), hRX2, hrd2, h82, (l37 c37).2.2.2.2⟩) hP hS d_Rd_readElement_104
    · refine lv_aload_n Bx.1 Bx.2.1 d_Rd_readElement_93 rfl (lv_at hl 0 rfl) ?_
      refine f_xVr (na := 0) (As := []) (rest := []) Bx hml E hP hD hS (by omega) h9_2 rfl (m_Rd_readExactStringY l hlt hn hT hf hRX (by omega) hSR.1 hSR.2 (by omega) hSa) kw_463 kw_465 sel_Rd_readExactString kw_6 kw_466 (by decide +kernel) ⟨rfl, rfl⟩ ⟨Nat.le_of_ble_eq_true rfl, Nat.le_of_ble_eq_true rfl⟩ rfl hl.1 (Nat.le_of_ble_eq_true rfl) d_Rd_readElement_94 ⟨Nat.le_of_ble_eq_true rfl, Nat.le_of_ble_eq_true rfl⟩ (fun X ce q9 memx H locs hx9 hP hS g1 g2 g3 => f_out hlocks hno hP hS g1 g2 g3 ⟨Nat.le_of_ble_eq_true rfl, Nat.le_of_ble_eq_true rfl⟩ ⟨hx9.1, Or.inl (fai_xst c37 hb24 hx9.2 hbd9.2.1)⟩) (fun r27 mem28 H locs hq hP hS => ?_)
      have hD : va_D (Az sz) (fw n ad mem28) := fw_D hD
      obtain ⟨hq8, hE9, hq9, hr2, hle9, hRX2, hcl2, ⟨s9, hs0, hs1, hs2, hs3⟩, hfr2⟩ := hq
      subst hr2
      obtain ⟨A2, B2, hrd2, h82⟩ := rds_xst (j := 6) (u := u) (nm := nm) c37 hb24 hq8 hE9 hq9 hLK hF hER hcl2 hs0 hs1 hs2 hs3 (fun k hk => hfr2 (20 + 2 * k) (by omega)) hSa
      refine lv_goto Bx.1 Bx.2.1 d_Rd_readElement_97 rfl ?_
      exact x_aret hx hb hlocks hr (⟨Ec, _, _, R, Ec + 1, _, A2, B2, nm, to, rfl, by omega, by omega, by omega, by omega, hle9, TOK.of rfl, fun i9 q9 => hfr2 (7 + i9) (by omega), hRX2, hrd2, h82, (l37 c37).2.2.2.2⟩) hP hS d_Rd_readElement_104
  by_cases c40 : v16 = 40
  · rw [c40]
    refine lv_lookup (off := 44) (tgt := 48) Bx.1 Bx.2.1 d_Rd_readElement_4 (by decide) (by decide) rfl ?_
    rw [e_v16] at c40
    have hlt40 := hereF_lt (show hereF Z T (a) ≠ -1 by rw [c40]; decide)
    refine lv_aload_n Bx.1 Bx.2.1 d_Rd_readElement_48 rfl (lv_at hl 0 rfl) ?_
    refine lv_iload_n Bx.1 Bx.2.1 d_Rd_readElement_49 rfl (lv_at hl 1 rfl) ?_
    refine lv_bipush (v := 41) Bx.1 Bx.2.1 d_Rd_readElement_50 (by decide) ?_
    refine f_xVr (na := 2) (As := [.int (6), .int (41)]) (rest := []) Bx hml E hP hD hS (by omega) h9_2 rfl (m_Rd_readBracket_6Y l hlt hn hT hf hRX (by omega) (u := u) (A := A) (what := 1) (oe := -1) hER hSR hSa (by omega) (Or.inl ⟨rfl, rfl⟩) hLK) kw_447 kw_449 sel_Rd_readBracket kw_6 kw_450 (by decide +kernel) ⟨rfl, rfl⟩ ⟨Nat.le_of_ble_eq_true rfl, Nat.le_of_ble_eq_true rfl⟩ rfl hl.1 (Nat.le_of_ble_eq_true rfl) d_Rd_readElement_52 ⟨Nat.le_of_ble_eq_true rfl, Nat.le_of_ble_eq_true rfl⟩ (fun X ce q9 memx H locs hx9 hP hS g1 g2 g3 => f_out hlocks hno hP hS g1 g2 g3 ⟨Nat.le_of_ble_eq_true rfl, Nat.le_of_ble_eq_true rfl⟩ ⟨hx9.1, Or.inl (Or.inl (sing_b0 (l40 c40).1 c40 (by omega)))⟩) (fun r29 mem30 H locs hq hP hS => ?_)
    have hD : va_D (Az sz) (fw n ad mem30) := fw_D hD
    exact hq.elim
  by_cases c91 : v16 = 91
  · rw [c91]
    refine lv_lookup (off := 52) (tgt := 56) Bx.1 Bx.2.1 d_Rd_readElement_4 (by decide) (by decide) rfl ?_
    rw [e_v16] at c91
    have hlt91 := hereF_lt (show hereF Z T (a) ≠ -1 by rw [c91]; decide)
    refine lv_aload_n Bx.1 Bx.2.1 d_Rd_readElement_56 rfl (lv_at hl 0 rfl) ?_
    refine lv_iload_n Bx.1 Bx.2.1 d_Rd_readElement_57 rfl (lv_at hl 1 rfl) ?_
    refine f_xVr (na := 1) (As := [.int (6)]) (rest := []) Bx hml E hP hD hS (by omega) h9_2 rfl (m_Rd_readOption_6Y l hlt hn hT hf hRX (by omega) (u := u) (A := A) hER hSR hSa (by omega) hLK hF c91) kw_451 kw_453 sel_Rd_readOption kw_6 kw_454 (by decide +kernel) ⟨rfl, rfl⟩ ⟨Nat.le_of_ble_eq_true rfl, Nat.le_of_ble_eq_true rfl⟩ rfl hl.1 (Nat.le_of_ble_eq_true rfl) d_Rd_readElement_58 ⟨Nat.le_of_ble_eq_true rfl, Nat.le_of_ble_eq_true rfl⟩ (fun X ce q9 memx H locs hx9 hP hS g1 g2 g3 => f_out hlocks hno hP hS g1 g2 g3 ⟨Nat.le_of_ble_eq_true rfl, Nat.le_of_ble_eq_true rfl⟩ ⟨hx9.1, Or.inl (Or.inl (sing_o0 (l91 c91).1 c91 (by omega)))⟩) (fun r31 mem32 H locs hq hP hS => ?_)
    have hD : va_D (Az sz) (fw n ad mem32) := fw_D hD
    exact hq.elim
  refine lv_lookup (off := 101) (tgt := 105) Bx.1 Bx.2.1 d_Rd_readElement_4 (by decide) (by show Op.lookupswitch.offset [(34, 58), (37, 68), (40, 44), (91, 52)] 101 (v16).toInt = 101; rw [lv_osw c34 (by decide), lv_osw c37 (by decide), lv_osw c40 (by decide), lv_osw c91 (by decide)]; rfl) rfl ?_
  rw [e_v16] at c40 c91 c34 c37
  refine lv_aload_n Bx.1 Bx.2.1 d_Rd_readElement_105 rfl (lv_at hl 0 rfl) ?_
  refine f_xVr (na := 0) (As := []) (rest := []) Bx hml E hP hD hS (by omega) h9_2 rfl (m_Rd_readAskedNameY l hlt hn hT hf hRX (by omega) (A := A) (by omega)) kw_478 kw_480 sel_Rd_readAskedName kw_6 kw_481 (by decide +kernel) ⟨rfl, rfl⟩ ⟨Nat.le_of_ble_eq_true rfl, Nat.le_of_ble_eq_true rfl⟩ rfl hl.1 (Nat.le_of_ble_eq_true rfl) d_Rd_readElement_106 ⟨Nat.le_of_ble_eq_true rfl, Nat.le_of_ble_eq_true rfl⟩ (fun X ce q9 memx H locs hx9 hP hS g1 g2 g3 => f_out hlocks hno hP hS g1 g2 g3 ⟨Nat.le_of_ble_eq_true rfl, Nat.le_of_ble_eq_true rfl⟩ ⟨hx9.1, fai_nam c40 c91 c34 c37 hx9.2⟩) (fun r33 mem34 H locs hq hP hS => ?_)
  have hD : va_D (Az sz) (fw n ad mem34) := fw_D hD
  obtain ⟨i9, a2, R2, A3, n2, hsn, hle, hE9, hr2, x1, x2, x3, hA3, htk, ⟨t2, htk2, hRX2⟩, hi9, hcl2, hfr2⟩ := hq
  subst hr2
  have hR12 := hRX2.1.1.1.1
  obtain ⟨A2, B2, hrd2, h82⟩ := rds_nam (j := 6) (u := u) hle hsn hE9 hA3 htk x1 hi9 hR12 hLK hF hER ⟨(hfr2 220 (by omega)).trans hSR.1, (hfr2 221 (by omega)).trans hSR.2⟩ hcl2 (fun k hk => hfr2 (20 + 2 * k) (by omega)) (by omega)
  exact x_aret hx hb hlocks hr (⟨Ec, a2, u, R2, Ec + 1, S, A2, B2, n2, t2, rfl, by omega, by omega, x1, x2, x3, htk2, fun i9 q9 => hfr2 (7 + i9) (by omega), hRX2, hrd2, h82, lt_ok hle⟩) hP hS d_Rd_readElement_109
set_option maxHeartbeats 4000000 in
set_option maxRecDepth 100000 in
theorem m_Rd_readRepetition_6Y (l : Launch) {D : va_G} {cy : Nat → ClassId} {sz n : Nat} {ad : Nat → Nat} {mem : Nat → va_E} {Z a R Ec lim : Nat} {f T : Nat → Int32} {to : Nat → Int32} {nm : Nat → Int64} {m0 : Nat → va_E} {u S : Nat} {A Bw : Ro} (hlt : l.stackTraces = false) (hn : 224 ≤ n) (hT : TX cy ad Z f m0) (hf : ∀ k, k < Z → f k = T k) (hRX : RX cy ad lim a R Ec to nm m0 mem) (haB : a ≤ 300) (hER : ER ad R Ec Bw mem) (hSR : SR cy ad S Bw mem) (hSa : S ≤ a) (haZ : a ≤ Z) (hLK : LKa Ec A) (hF : FRM A 6 Ec) (h39 : A 239 6 = -1) (hbg : bgF (hereF Z T a) = true) : NXr l D cy sz n ad y_Rd_readRepetition c_Rd_readRepetition 3 (some (.object "AbnfChart$Element")) ({ frames := 17, cells := 1, slots := 6, locals := 388 } : Room) mem [.ref (ad 222), .int (6)] (fun r mem' => ∃ (k' a' u' R' E' S' : Nat) (A' Bw' : Ro) (nm' : Nat → Int64) (to' : Nat → Int32), r = ad (20 + 2 * k') ∧ Ec ≤ k' ∧ k' < E' ∧ R ≤ R' ∧ a < a' ∧ a' ≤ Z ∧ TOK R R' to to' ∧ (∀ i9, i9 < R → mem' (7 + i9) = mem (7 + i9)) ∧ RX cy ad lim a' R' E' to' nm' m0 mem' ∧ RDS cy ad T Z 6 (repS T Z a u R Ec 6 A nm) (PSf A 6) R Ec S u A Bw k' a' u' R' E' S' A' Bw' nm' mem' ∧ A' 238 6 = A 238 6) (fun X mem' => ((X = cIA ∨ X = cIS) ∧ ∃ rc' ec' : Nat, RS cy ad lim rc' ec' m0 mem') ∧ (Fai T Z (repS T Z a u R Ec 6 A nm))) := by
  refine vx_ofW (cc := c_Rd_readRepetition) (maxL := 3) (ret := (some (.object "AbnfChart$Element"))) (by decide) rfl ?_
  intro p e s m args below meth c s₁ B hml hno hv
  obtain ⟨rfl, E, hP, hD⟩ := hv
  have hx := B.exec
  have hb := B.bytes
  have hr := B.returns
  have hlocks := B.notSynchronized
  have Bx : MB p s m [.ref (ad 222), .int (6)].toArray c c_Rd_readRepetition "AbnfChart$Reader" D cy := ⟨hx, hb, tb_all (atoms_spec B.pre) E.2.1, findClass_of_methodNamed B.named, E.1⟩
  have hS : va_S (Az sz) s.heap s.heap [] := va_S.rf
  have hl := lv_entry ([.ref (ad 222), .int (6)]) (n := 3) (Nat.le_of_ble_eq_true rfl)
  rw [lg_entry_eq]
  generalize (lg_sl ([.ref (ad 222), .int (6)]) ++ List.replicate (3 - (lg_sl ([.ref (ad 222), .int (6)])).length) Slot.unset).toArray = ls at hl ⊢
  have hl : lv_has ls 3 [(0, .ref (ad 222)), (1, .int (6))] := hl
  have hZ9 := hT.2.1
  have hbd9 := hRX.1.1.1
  have hfr0 : ∀ i, 7 ≤ i ∧ i < 222 ∧ i ≠ 20 + 2 * Ec → mem i = mem i := fun _ _ => rfl
  have hrk0 : ∀ i9, i9 < R → mem (7 + i9) = mem (7 + i9) := fun _ _ => rfl
  obtain ⟨ft1, h9_2⟩ := hRX.2.1
  have h1_3 : mem 1 = .inr (0, [.ref (ad 2), .int (nI Z)]) := (hRX.1.2.2 1 (by omega)).trans hT.1
  have h2_4 : mem 2 = .inl (cy 0, 240, .inl f) := (hRX.1.2.2 2 (by omega)).trans hT.2.2
  have h5_5 := hRX.1.1.2.1
  have hbd11 := hRX.1.1.1
  obtain ⟨S6, g7, hS_8, h220_9, h221_10⟩ := hRX.1.1.2.2.2.2.2.2
  refine lv_aload_n Bx.1 Bx.2.1 d_Rd_readRepetition_0 rfl (lv_at hl 0 rfl) ?_
  refine f_callVi (na := 0) (As := []) (rest := []) Bx hml E hP hD hS (by omega) h9_2 rfl (m_Rd_peekX l hn hT hf hRX (by omega)) kw_353 kw_355 sel_Rd_peek kw_6 kw_356 (by decide +kernel) ⟨rfl, rfl⟩ ⟨Nat.le_of_ble_eq_true rfl, Nat.le_of_ble_eq_true rfl⟩ rfl hl.1 (Nat.le_of_ble_eq_true rfl) d_Rd_readRepetition_1 ⟨Nat.le_of_ble_eq_true rfl, Nat.le_of_ble_eq_true rfl⟩ (fun r13 mem14 H locs hq hP hS => ?_)
  have hD : va_D (Az sz) (fw n ad mem14) := fw_D hD
  obtain ⟨hqe, hpk12⟩ := hq
  rw [hqe] at hP hD
  subst hpk12
  refine f_callSi (na := 1) (As := [.int (hereF Z T (a))]) (rest := []) Bx hml E.2.1 (m_Rd_beginsRepeatX l (hereF Z T (a))) kw_416 kw_417 kw_6 kw_418 (by decide +kernel) ⟨rfl, rfl⟩ ⟨Nat.le_of_ble_eq_true rfl, Nat.le_of_ble_eq_true rfl⟩ rfl hl.1 (Nat.le_of_ble_eq_true rfl) d_Rd_readRepetition_4 ⟨Nat.le_of_ble_eq_true rfl, Nat.le_of_ble_eq_true rfl⟩ (fun r17 hs16 => ?_)
  subst hs16
  refine lv_if_ne Bx.1 Bx.2.1 d_Rd_readRepetition_7 rfl (fun hb18 => ?_) (fun hb18 => ?_)
  · refine lv_aload_n Bx.1 Bx.2.1 d_Rd_readRepetition_16 rfl (lv_at hl 0 rfl) ?_
    refine lv_iconst (v := 2) Bx.1 Bx.2.1 d_Rd_readRepetition_17 (by decide) ?_
    refine lv_aload_n Bx.1 Bx.2.1 d_Rd_readRepetition_18 rfl (lv_at hl 0 rfl) ?_
    refine f_get Bx hP (by omega) h9_2 rfl inRd 2 (by decide) kw_146 rfl rfl d_Rd_readRepetition_19 ?_
    refine f_xVr (na := 2) (As := [.int (2), .int (nI a)]) (rest := []) Bx hml E hP hD hS (by omega) h9_2 rfl (m_Rd_addElementY l hlt hn hT hf hRX (by omega)) kw_419 kw_421 sel_Rd_addElement kw_6 kw_422 (by decide +kernel) ⟨rfl, rfl⟩ ⟨Nat.le_of_ble_eq_true rfl, Nat.le_of_ble_eq_true rfl⟩ rfl hl.1 (Nat.le_of_ble_eq_true rfl) d_Rd_readRepetition_22 ⟨Nat.le_of_ble_eq_true rfl, Nat.le_of_ble_eq_true rfl⟩ (fun X ce q9 memx H locs hx9 hP hS g1 g2 g3 => f_out hlocks hno hP hS g1 g2 g3 ⟨Nat.le_of_ble_eq_true rfl, Nat.le_of_ble_eq_true rfl⟩ ⟨hx9.1, Or.inl (rep_E (bpF_1 hb18) hx9.2)⟩) (fun r19 mem20 H locs hq hP hS => ?_)
    have hD : va_D (Az sz) (fw n ad mem20) := fw_D hD
    obtain ⟨hr921, hec22, hRX23, hcl24, hfa25⟩ := hq
    subst hr921
    have hrk26 : ∀ i9, i9 < R → mem20 (7 + i9) = mem (7 + i9) := fun i9 q9 => (hfa25 (7 + i9) (by omega)).trans (hrk0 i9 q9)
    have hfr27 : ∀ i, 7 ≤ i ∧ i < 222 ∧ i ≠ 20 + 2 * Ec → mem20 i = mem i := fun i q => (hfa25 i (by omega)).trans (hfr0 i q)
    obtain ⟨ft28, h9_29⟩ := hRX23.2.1
    have h1_30 : mem20 1 = .inr (0, [.ref (ad 2), .int (nI Z)]) := (hRX23.1.2.2 1 (by omega)).trans hT.1
    have h2_31 : mem20 2 = .inl (cy 0, 240, .inl f) := (hRX23.1.2.2 2 (by omega)).trans hT.2.2
    have h5_32 := hRX23.1.1.2.1
    have hbd38 := hRX23.1.1.1
    obtain ⟨S33, g34, hS_35, h220_36, h221_37⟩ := hRX23.1.1.2.2.2.2.2.2
    obtain ⟨ft39, h9_40⟩ := hRX23.2.1
    have h1_41 : mem20 1 = .inr (0, [.ref (ad 2), .int (nI Z)]) := (hRX23.1.2.2 1 (by omega)).trans hT.1
    have h2_42 : mem20 2 = .inl (cy 0, 240, .inl f) := (hRX23.1.2.2 2 (by omega)).trans hT.2.2
    have h5_43 := hRX23.1.1.2.1
    have hbd49 := hRX23.1.1.1
    obtain ⟨S44, g45, hS_46, h220_47, h221_48⟩ := hRX23.1.1.2.2.2.2.2.2
    refine lv_astore_n (lv' := [(2, .ref (ad (20 + 2 * Ec))), (0, .ref (ad 222)), (1, .int (6))]) Bx.1 Bx.2.1 d_Rd_readRepetition_25 rfl hl (by decide) rfl (fun ls hl => ?_)
    refine lv_aload_n Bx.1 Bx.2.1 d_Rd_readRepetition_26 rfl (lv_at hl 1 rfl) ?_
    refine lv_aload_n Bx.1 Bx.2.1 d_Rd_readRepetition_27 rfl (lv_at hl 0 rfl) ?_
    have hdg := bpF_1 hb18
    have hE9 := hec22
    refine f_xVv (na := 1) (As := [.ref (ad (20 + 2 * Ec))]) (rest := []) Bx hml E hP hD hS (by omega) h9_40 rfl (m_Rd_readRepeatY l hlt hn hT hf hRX23 (by omega) (by omega) hcl24 (by omega) hdg) kw_482 kw_484 sel_Rd_readRepeat kw_6 kw_485 (by decide +kernel) ⟨rfl, rfl⟩ ⟨Nat.le_of_ble_eq_true rfl, Nat.le_of_ble_eq_true rfl⟩ rfl hl.1 (Nat.le_of_ble_eq_true rfl) d_Rd_readRepetition_28 ⟨Nat.le_of_ble_eq_true rfl, Nat.le_of_ble_eq_true rfl⟩ (fun X ce q9 memx H locs hx9 hP hS g1 g2 g3 => f_out hlocks hno hP hS g1 g2 g3 ⟨Nat.le_of_ble_eq_true rfl, Nat.le_of_ble_eq_true rfl⟩ ⟨hx9.1, hx9.2.elim (fun v1 z => z.elim (fun b1 z => z.elim (fun v2 z => z.elim (fun b2 z => Or.inl (rep_bad hdg hE9 z.1 z.2.1 (Or.inl z.2.2))))))⟩) (fun mem51 H locs hq hP hS => ?_)
    have hD : va_D (Az sz) (fw n ad mem51) := fw_D hD
    obtain ⟨v1, b1, v2, b2, hr1, hr2, hnv, hb8, hb9, hRXr, hclr, hfar⟩ := hq
    have hrk52 : ∀ i9, i9 < R → mem51 (7 + i9) = mem (7 + i9) := fun i9 q9 => (hfar (7 + i9) (by omega)).trans (hrk26 i9 q9)
    have hfr53 : ∀ i, 7 ≤ i ∧ i < 222 ∧ i ≠ 20 + 2 * Ec → mem51 i = mem i := fun i q => (hfar i (by omega)).trans (hfr27 i q)
    obtain ⟨ft54, h9_55⟩ := hRXr.2.1
    have h1_56 : mem51 1 = .inr (0, [.ref (ad 2), .int (nI Z)]) := (hRXr.1.2.2 1 (by omega)).trans hT.1
    have h2_57 : mem51 2 = .inl (cy 0, 240, .inl f) := (hRXr.1.2.2 2 (by omega)).trans hT.2.2
    have h5_58 := hRXr.1.1.2.1
    have hbd64 := hRXr.1.1.1
    obtain ⟨S59, g60, hS_61, h220_62, h221_63⟩ := hRXr.1.1.2.2.2.2.2.2
    obtain ⟨ft65, h9_66⟩ := hRXr.2.1
    have h1_67 : mem51 1 = .inr (0, [.ref (ad 2), .int (nI Z)]) := (hRXr.1.2.2 1 (by omega)).trans hT.1
    have h2_68 : mem51 2 = .inl (cy 0, 240, .inl f) := (hRXr.1.2.2 2 (by omega)).trans hT.2.2
    have h5_69 := hRXr.1.1.2.1
    have hbd75 := hRXr.1.1.1
    obtain ⟨S70, g71, hS_72, h220_73, h221_74⟩ := hRXr.1.1.2.2.2.2.2.2
    refine lv_aload_n Bx.1 Bx.2.1 d_Rd_readRepetition_31 rfl (lv_at hl 0 rfl) ?_
    refine lv_aload_n Bx.1 Bx.2.1 d_Rd_readRepetition_32 rfl (lv_at hl 1 rfl) ?_
    refine lv_iload_n Bx.1 Bx.2.1 d_Rd_readRepetition_33 rfl (lv_at hl 2 rfl) ?_
    have her76 : ER ad R (Ec + 1) (bwN Bw Ec 2 (v1) (v2) (-1) (-1) (-1) (Bw 234)) mem51 := hER.new (Nat.le_refl _) (by rw [vR_m]; exact hclr) (Or.inl rfl) (fun i9 hi9 => hfr53 (20 + 2 * i9) (by omega))
    have hsr77 : SR cy ad S (bwN Bw Ec 2 (v1) (v2) (-1) (-1) (-1) (Bw 234)) mem51 := ⟨(hfr53 220 (by omega)).trans hSR.1, (hfr53 221 (by omega)).trans hSR.2⟩
    obtain ⟨hLK1, hF1⟩ := frm_rep (v1 := v1) (v2 := v2) hLK hE9 hF h39
    refine f_xVr (na := 1) (As := [.int (6)]) (rest := [.ref (ad (20 + 2 * Ec))]) Bx hml E hP hD hS (by omega) h9_66 rfl (m_Rd_readElement_6Y l hlt hn hT hf hRXr (by omega) (u := u) (A := repB A 6 Ec v1 v2) her76 hsr77 (by omega) (by omega) hLK1 hF1) kw_443 kw_445 sel_Rd_readElement kw_6 kw_446 (by decide +kernel) ⟨rfl, rfl⟩ ⟨Nat.le_of_ble_eq_true rfl, Nat.le_of_ble_eq_true rfl⟩ rfl hl.1 (Nat.le_of_ble_eq_true rfl) d_Rd_readRepetition_34 ⟨Nat.le_of_ble_eq_true rfl, Nat.le_of_ble_eq_true rfl⟩ (fun X ce q9 memx H locs hx9 hP hS g1 g2 g3 => f_out hlocks hno hP hS g1 g2 g3 ⟨Nat.le_of_ble_eq_true rfl, Nat.le_of_ble_eq_true rfl⟩ ⟨hx9.1, rep_fai hdg hE9 hr1 hr2 hnv hx9.2⟩) (fun r78 mem79 H locs hq hP hS => ?_)
    have hD : va_D (Az sz) (fw n ad mem79) := fw_D hD
    obtain ⟨kx80, ax81, ux82, Rx83, Ex84, Sx85, Ax86, Bx_87, nx88, tox89, hr990, h191, h292, h393, h494, h595, htk96, hrk97, hRX98, rds99, h8100, hok101⟩ := hq
    subst hr990
    have hrk102 : ∀ i9, i9 < R → mem79 (7 + i9) = mem (7 + i9) := fun i9 q9 => (hrk97 i9 (by omega)).trans (hrk52 i9 q9)
    obtain ⟨ft103, h9_104⟩ := hRX98.2.1
    have h1_105 : mem79 1 = .inr (0, [.ref (ad 2), .int (nI Z)]) := (hRX98.1.2.2 1 (by omega)).trans hT.1
    have h2_106 : mem79 2 = .inl (cy 0, 240, .inl f) := (hRX98.1.2.2 2 (by omega)).trans hT.2.2
    have h5_107 := hRX98.1.1.2.1
    have hbd113 := hRX98.1.1.1
    obtain ⟨S108, g109, hS_110, h220_111, h221_112⟩ := hRX98.1.1.2.2.2.2.2.2
    have hbd114 := hRX98.1.1.1
    have hce115 := (rds99.2.1 Ec (by omega)).1
    refine f_putN Bx hP hD hS (by omega) hce115 rfl inEl tyEl okEl nmEl 4 (by decide) kw_87 rfl rfl rfl rfl (Nat.le_of_ble_eq_true rfl) d_Rd_readRepetition_37 (fun H locs hP hS => ?_)
    obtain ⟨mem116, e_mem116⟩ : ∃ z, z = va_up mem79 ((20 + 2 * Ec)) (.inr (2, [.int (Bx_87 228 Ec), .int (Bx_87 229 Ec), .int (Bx_87 230 Ec), vR ad (Bx_87 231 Ec), .ref (ad (20 + 2 * kx80)), vE ad (Bx_87 233 Ec), .ref (ad (21 + 2 * Ec))])) := ⟨_, rfl⟩
    have hP : va_P D vcl (fw n ad mem116) H := by rw [e_mem116]; exact hP
    have hD : va_D (Az sz) (fw n ad mem116) := fw_D hD
    have h_mem116 : mem116 ((20 + 2 * Ec)) = .inr (2, [.int (Bx_87 228 Ec), .int (Bx_87 229 Ec), .int (Bx_87 230 Ec), vR ad (Bx_87 231 Ec), .ref (ad (20 + 2 * kx80)), vE ad (Bx_87 233 Ec), .ref (ad (21 + 2 * Ec))]) := by rw [e_mem116, va_up_self]
    have hh117 := (va_up_ne mem79 (.inr (2, [.int (Bx_87 228 Ec), .int (Bx_87 229 Ec), .int (Bx_87 230 Ec), vR ad (Bx_87 231 Ec), .ref (ad (20 + 2 * kx80)), vE ad (Bx_87 233 Ec), .ref (ad (21 + 2 * Ec))])) (show (222 : Nat) ≠ (20 + 2 * Ec) by first | decide | assumption | omega)).trans h9_104
    rw [← e_mem116] at hh117
    have hh118 := (va_up_ne mem79 (.inr (2, [.int (Bx_87 228 Ec), .int (Bx_87 229 Ec), .int (Bx_87 230 Ec), vR ad (Bx_87 231 Ec), .ref (ad (20 + 2 * kx80)), vE ad (Bx_87 233 Ec), .ref (ad (21 + 2 * Ec))])) (show (1 : Nat) ≠ (20 + 2 * Ec) by first | decide | assumption | omega)).trans h1_105
    rw [← e_mem116] at hh118
    have hh119 := (va_up_ne mem79 (.inr (2, [.int (Bx_87 228 Ec), .int (Bx_87 229 Ec), .int (Bx_87 230 Ec), vR ad (Bx_87 231 Ec), .ref (ad (20 + 2 * kx80)), vE ad (Bx_87 233 Ec), .ref (ad (21 + 2 * Ec))])) (show (5 : Nat) ≠ (20 + 2 * Ec) by first | decide | assumption | omega)).trans h5_107
    rw [← e_mem116] at hh119
    have hh120 := (va_up_ne mem79 (.inr (2, [.int (Bx_87 228 Ec), .int (Bx_87 229 Ec), .int (Bx_87 230 Ec), vR ad (Bx_87 231 Ec), .ref (ad (20 + 2 * kx80)), vE ad (Bx_87 233 Ec), .ref (ad (21 + 2 * Ec))])) (show (220 : Nat) ≠ (20 + 2 * Ec) by first | decide | assumption | omega)).trans h220_111
    rw [← e_mem116] at hh120
    have hrk121 : ∀ i9, i9 < R → mem116 (7 + i9) = mem (7 + i9) := fun i9 q9 => (show mem116 (7 + i9) = mem79 (7 + i9) by rw [e_mem116]; exact va_up_ne _ _ (by omega)).trans (hrk102 i9 q9)
    have hRX122 : RX cy ad lim (ax81) (Rx83) (Ex84) (tox89) (nx88) m0 mem116 := by rw [e_mem116]; exact hRX98.el (by omega) (hRX98.1.mk (by omega) (hRX98.1.1.upEl (by omega) (fun _ => ⟨(rds99.2.1 Ec (by omega)).2.1.oR ad, Or.inr ⟨kx80, by omega, by omega, rfl⟩, (rds99.2.1 Ec (by omega)).2.2.2.oE ad (by omega)⟩)))
    have her123 : ER ad (Rx83) (Ex84) (va_up Bx_87 232 (upd (Bx_87 232) Ec (nI kx80))) mem116 := rds99.2.1.part (by omega) (by omega) (by omega) h_mem116 (fun i9 q9 hi9 => by rw [e_mem116]; exact va_up_ne _ _ (by omega))
    have hsr124 : SR cy ad (Sx85) (Bx_87) mem116 := ⟨(show mem116 220 = mem79 220 by rw [e_mem116]; exact va_up_ne _ _ (by omega)).trans rds99.2.2.1.1, (show mem116 221 = mem79 221 by rw [e_mem116]; exact va_up_ne _ _ (by omega)).trans rds99.2.2.1.2⟩
    obtain ⟨ft125, h9_126⟩ := hRX122.2.1
    have h1_127 : mem116 1 = .inr (0, [.ref (ad 2), .int (nI Z)]) := (hRX122.1.2.2 1 (by omega)).trans hT.1
    have h2_128 : mem116 2 = .inl (cy 0, 240, .inl f) := (hRX122.1.2.2 2 (by omega)).trans hT.2.2
    have h5_129 := hRX122.1.1.2.1
    have hbd135 := hRX122.1.1.1
    obtain ⟨S130, g131, hS_132, h220_133, h221_134⟩ := hRX122.1.1.2.2.2.2.2.2
    refine lv_aload_n Bx.1 Bx.2.1 d_Rd_readRepetition_40 rfl (lv_at hl 0 rfl) ?_
    have hrd9 := rep_rds hLK hE9 hF h39 rds99 h8100 ⟨by omega, by omega⟩ (rep_suc (u := u) (R := R) (f := 6) (A := A) (nm := nm) hdg hE9 hr1 hr2 hnv hok101) her123 hsr124
    exact x_aret hx hb hlocks hr (⟨Ec, ax81, ux82, Rx83, Ex84, Sx85, _, _, nx88, tox89, rfl, by omega, by omega, by omega, by omega, by omega, htk96, hrk121, hRX122, hrd9.1, hrd9.2⟩) hP hS d_Rd_readRepetition_41
  · refine lv_aload_n Bx.1 Bx.2.1 d_Rd_readRepetition_10 rfl (lv_at hl 0 rfl) ?_
    refine lv_iload_n Bx.1 Bx.2.1 d_Rd_readRepetition_11 rfl (lv_at hl 1 rfl) ?_
    obtain ⟨hd0, h42⟩ := bpF_0 hb18
    refine f_xVr (na := 1) (As := [.int (6)]) (rest := []) Bx hml E hP hD hS (by omega) h9_2 rfl (m_Rd_readElement_6Y l hlt hn hT hf hRX (by omega) (u := u) (A := A) hER hSR hSa (by omega) hLK hF) kw_443 kw_445 sel_Rd_readElement kw_6 kw_446 (by decide +kernel) ⟨rfl, rfl⟩ ⟨Nat.le_of_ble_eq_true rfl, Nat.le_of_ble_eq_true rfl⟩ rfl hl.1 (Nat.le_of_ble_eq_true rfl) d_Rd_readRepetition_12 ⟨Nat.le_of_ble_eq_true rfl, Nat.le_of_ble_eq_true rfl⟩ (fun X ce q9 memx H locs hx9 hP hS g1 g2 g3 => f_out hlocks hno hP hS g1 g2 g3 ⟨Nat.le_of_ble_eq_true rfl, Nat.le_of_ble_eq_true rfl⟩ ⟨hx9.1, (hx9.2.resolve_right (fun z => z ⟨hbg, hd0, h42⟩)).eq (rep_no hd0 h42)⟩) (fun r136 mem137 H locs hq hP hS => ?_)
    have hD : va_D (Az sz) (fw n ad mem137) := fw_D hD
    obtain ⟨kx138, ax139, ux140, Rx141, Ex142, Sx143, Ax144, Bx_145, nx146, tox147, hr9148, h1149, h2150, h3151, h4152, h5153, htk154, hrk155, hRX156, rds157, h8158, hok159⟩ := hq
    subst hr9148
    have hrk160 : ∀ i9, i9 < R → mem137 (7 + i9) = mem (7 + i9) := fun i9 q9 => (hrk155 i9 (by omega)).trans (hrk0 i9 q9)
    obtain ⟨ft161, h9_162⟩ := hRX156.2.1
    have h1_163 : mem137 1 = .inr (0, [.ref (ad 2), .int (nI Z)]) := (hRX156.1.2.2 1 (by omega)).trans hT.1
    have h2_164 : mem137 2 = .inl (cy 0, 240, .inl f) := (hRX156.1.2.2 2 (by omega)).trans hT.2.2
    have h5_165 := hRX156.1.1.2.1
    have hbd171 := hRX156.1.1.1
    obtain ⟨S166, g167, hS_168, h220_169, h221_170⟩ := hRX156.1.1.2.2.2.2.2.2
    have hbd172 := hRX156.1.1.1
    exact x_aret hx hb hlocks hr (⟨kx138, ax139, ux140, Rx141, Ex142, Sx143, Ax144, Bx_145, nx146, tox147, rfl, h1149, h2150, h3151, h4152, h5153, htk154, hrk155, hRX156, rdsEq rds157 (rep_no hd0 h42), h8158⟩) hP hS d_Rd_readRepetition_15
set_option maxHeartbeats 4000000 in
set_option maxRecDepth 100000 in
theorem m_Rd_readSequence_6Y (l : Launch) {D : va_G} {cy : Nat → ClassId} {sz n : Nat} {ad : Nat → Nat} {mem : Nat → va_E} {Z a R Ec lim : Nat} {f T : Nat → Int32} {to : Nat → Int32} {nm : Nat → Int64} {m0 : Nat → va_E} {u S : Nat} {A Bw : Ro} {cq : Nat} (hlt : l.stackTraces = false) (hn : 224 ≤ n) (hT : TX cy ad Z f m0) (hf : ∀ k, k < Z → f k = T k) (hRX : RX cy ad lim a R Ec to nm m0 mem) (haB : a ≤ 300) (hER : ER ad R Ec Bw mem) (hSR : SR cy ad S Bw mem) (hSa : S ≤ a) (haZ : a ≤ Z) (hLK : LKa Ec A) (hc : A 237 6 = nI cq) (hcl : cq < Ec) (h39 : A 239 6 = -1) : NXr l D cy sz n ad y_Rd_readSequence c_Rd_readSequence 5 (some (.object "AbnfChart$Element")) ({ frames := 18, cells := 1, slots := 6, locals := 412 } : Room) mem [.ref (ad 222), .int (6)] (fun r mem' => ∃ (a' u' R' E' S' : Nat) (A' Bw' : Ro) (nm' : Nat → Int64) (to' : Nat → Int32), r = ad (20 + 2 * Ec) ∧ Ec < E' ∧ R ≤ R' ∧ a < a' ∧ a' ≤ Z ∧ TOK R R' to to' ∧ (∀ i9, i9 < R → mem' (7 + i9) = mem (7 + i9)) ∧ RX cy ad lim (gapF T Z a') R' E' to' nm' m0 mem' ∧ RDS cy ad T Z 6 (seqS T Z a u R Ec 6 A nm) (slotOf A cq) R Ec S u A Bw Ec a' u' R' E' S' A' Bw' nm' mem' ∧ ¬ (bgF (hereF Z T (gapF T Z a')) = true ∧ a' < gapF T Z a')) (fun X mem' => ((X = cIA ∨ X = cIS) ∧ ∃ rc' ec' : Nat, RS cy ad lim rc' ec' m0 mem') ∧ (Fai T Z (seqS T Z a u R Ec 6 A nm))) := by
  refine vx_ofW (cc := c_Rd_readSequence) (maxL := 5) (ret := (some (.object "AbnfChart$Element"))) (by decide) rfl ?_
  intro p e s m args below meth c s₁ B hml hno hv
  obtain ⟨rfl, E, hP, hD⟩ := hv
  have hx := B.exec
  have hb := B.bytes
  have hr := B.returns
  have hlocks := B.notSynchronized
  have Bx : MB p s m [.ref (ad 222), .int (6)].toArray c c_Rd_readSequence "AbnfChart$Reader" D cy := ⟨hx, hb, tb_all (atoms_spec B.pre) E.2.1, findClass_of_methodNamed B.named, E.1⟩
  have hS : va_S (Az sz) s.heap s.heap [] := va_S.rf
  have hl := lv_entry ([.ref (ad 222), .int (6)]) (n := 5) (Nat.le_of_ble_eq_true rfl)
  rw [lg_entry_eq]
  generalize (lg_sl ([.ref (ad 222), .int (6)]) ++ List.replicate (5 - (lg_sl ([.ref (ad 222), .int (6)])).length) Slot.unset).toArray = ls at hl ⊢
  have hl : lv_has ls 5 [(0, .ref (ad 222)), (1, .int (6))] := hl
  have hZ9 := hT.2.1
  have hbd9 := hRX.1.1.1
  have hfr0 : ∀ i, 7 ≤ i ∧ i < 222 ∧ i ≠ 20 + 2 * Ec → mem i = mem i := fun _ _ => rfl
  have hrk0 : ∀ i9, i9 < R → mem (7 + i9) = mem (7 + i9) := fun _ _ => rfl
  obtain ⟨ft1, h9_2⟩ := hRX.2.1
  have h1_3 : mem 1 = .inr (0, [.ref (ad 2), .int (nI Z)]) := (hRX.1.2.2 1 (by omega)).trans hT.1
  have h2_4 : mem 2 = .inl (cy 0, 240, .inl f) := (hRX.1.2.2 2 (by omega)).trans hT.2.2
  have h5_5 := hRX.1.1.2.1
  have hbd11 := hRX.1.1.1
  obtain ⟨S6, g7, hS_8, h220_9, h221_10⟩ := hRX.1.1.2.2.2.2.2.2
  refine lv_aload_n Bx.1 Bx.2.1 d_Rd_readSequence_0 rfl (lv_at hl 0 rfl) ?_
  refine lv_iconst (v := 1) Bx.1 Bx.2.1 d_Rd_readSequence_1 (by decide) ?_
  refine f_xVr (na := 1) (As := [.int (1)]) (rest := []) Bx hml E hP hD hS (by omega) h9_2 rfl (m_Rd_beginRowY l hlt hn hT hf hRX (by omega)) kw_409 kw_411 sel_Rd_beginRow kw_6 kw_412 (by decide +kernel) ⟨rfl, rfl⟩ ⟨Nat.le_of_ble_eq_true rfl, Nat.le_of_ble_eq_true rfl⟩ rfl hl.1 (Nat.le_of_ble_eq_true rfl) d_Rd_readSequence_2 ⟨Nat.le_of_ble_eq_true rfl, Nat.le_of_ble_eq_true rfl⟩ (fun X ce q9 memx H locs hx9 hP hS g1 g2 g3 => f_out hlocks hno hP hS g1 g2 g3 ⟨Nat.le_of_ble_eq_true rfl, Nat.le_of_ble_eq_true rfl⟩ ⟨hx9.1, Or.inl (seq_no hx9.2)⟩) (fun r12 mem13 H locs hq hP hS => ?_)
  have hD : va_D (Az sz) (fw n ad mem13) := fw_D hD
  obtain ⟨hbg, hE9, hr9, hRXb, hclb, hfab⟩ := hq
  subst hr9
  have hrk14 : ∀ i9, i9 < R → mem13 (7 + i9) = mem (7 + i9) := fun i9 q9 => (hfab (7 + i9) (by omega)).trans (hrk0 i9 q9)
  have hfr15 : ∀ i, 7 ≤ i ∧ i < 222 ∧ i ≠ 20 + 2 * Ec → mem13 i = mem i := fun i q => (hfab i (by omega)).trans (hfr0 i q)
  obtain ⟨ft16, h9_17⟩ := hRXb.2.1
  have h1_18 : mem13 1 = .inr (0, [.ref (ad 2), .int (nI Z)]) := (hRXb.1.2.2 1 (by omega)).trans hT.1
  have h2_19 : mem13 2 = .inl (cy 0, 240, .inl f) := (hRXb.1.2.2 2 (by omega)).trans hT.2.2
  have h5_20 := hRXb.1.1.2.1
  have hbd26 := hRXb.1.1.1
  obtain ⟨S21, g22, hS_23, h220_24, h221_25⟩ := hRXb.1.1.2.2.2.2.2.2
  obtain ⟨ft27, h9_28⟩ := hRXb.2.1
  have h1_29 : mem13 1 = .inr (0, [.ref (ad 2), .int (nI Z)]) := (hRXb.1.2.2 1 (by omega)).trans hT.1
  have h2_30 : mem13 2 = .inl (cy 0, 240, .inl f) := (hRXb.1.2.2 2 (by omega)).trans hT.2.2
  have h5_31 := hRXb.1.1.2.1
  have hbd37 := hRXb.1.1.1
  obtain ⟨S32, g33, hS_34, h220_35, h221_36⟩ := hRXb.1.1.2.2.2.2.2.2
  refine lv_astore_n (lv' := [(2, .ref (ad (20 + 2 * Ec))), (0, .ref (ad 222)), (1, .int (6))]) Bx.1 Bx.2.1 d_Rd_readSequence_5 rfl hl (by decide) rfl (fun ls hl => ?_)
  refine lv_aload_n Bx.1 Bx.2.1 d_Rd_readSequence_6 rfl (lv_at hl 1 rfl) ?_
  refine lv_iload_n Bx.1 Bx.2.1 d_Rd_readSequence_7 rfl (lv_at hl 2 rfl) ?_
  have her38 : ER ad R (Ec + 1) (bwN Bw Ec 1 (0) (0) (-1) (-1) (-1) (Bw 234)) mem13 := hER.new (Nat.le_refl _) (by rw [vR_m]; exact hclb) (Or.inl rfl) (fun i9 hi9 => hfr15 (20 + 2 * i9) (by omega))
  have hsr39 : SR cy ad S (bwN Bw Ec 1 (0) (0) (-1) (-1) (-1) (Bw 234)) mem13 := ⟨(hfr15 220 (by omega)).trans hSR.1, (hfr15 221 (by omega)).trans hSR.2⟩
  obtain ⟨hLK1, hF1, h391⟩ := frm_seq hLK hE9 hc hcl h39
  refine f_xVr (na := 1) (As := [.int (6)]) (rest := []) Bx hml E hP hD hS (by omega) h9_28 rfl (m_Rd_readRepetition_6Y l hlt hn hT hf hRXb (by omega) (u := u) (A := seqA A 6 Ec) her38 hsr39 (by omega) (by omega) hLK1 hF1 h391 hbg) kw_439 kw_441 sel_Rd_readRepetition kw_6 kw_442 (by decide +kernel) ⟨rfl, rfl⟩ ⟨Nat.le_of_ble_eq_true rfl, Nat.le_of_ble_eq_true rfl⟩ rfl hl.1 (Nat.le_of_ble_eq_true rfl) d_Rd_readSequence_8 ⟨Nat.le_of_ble_eq_true rfl, Nat.le_of_ble_eq_true rfl⟩ (fun X ce q9 memx H locs hx9 hP hS g1 g2 g3 => f_out hlocks hno hP hS g1 g2 g3 ⟨Nat.le_of_ble_eq_true rfl, Nat.le_of_ble_eq_true rfl⟩ ⟨hx9.1, hx9.2.eq (seq_ok hbg hE9)⟩) (fun r40 mem41 H locs hq hP hS => ?_)
  have hD : va_D (Az sz) (fw n ad mem41) := fw_D hD
  obtain ⟨kx42, ax43, ux44, Rx45, Ex46, Sx47, Ax48, Bx_49, nx50, tox51, hr952, h153, h254, h355, h456, h557, htk58, hrk59, hRX60, rds61, h862⟩ := hq
  subst hr952
  have hrk63 : ∀ i9, i9 < R → mem41 (7 + i9) = mem (7 + i9) := fun i9 q9 => (hrk59 i9 (by omega)).trans (hrk14 i9 q9)
  obtain ⟨ft64, h9_65⟩ := hRX60.2.1
  have h1_66 : mem41 1 = .inr (0, [.ref (ad 2), .int (nI Z)]) := (hRX60.1.2.2 1 (by omega)).trans hT.1
  have h2_67 : mem41 2 = .inl (cy 0, 240, .inl f) := (hRX60.1.2.2 2 (by omega)).trans hT.2.2
  have h5_68 := hRX60.1.1.2.1
  have hbd74 := hRX60.1.1.1
  obtain ⟨S69, g70, hS_71, h220_72, h221_73⟩ := hRX60.1.1.2.2.2.2.2.2
  have hbd75 := hRX60.1.1.1
  refine lv_astore_n (lv' := [(3, .ref (ad (20 + 2 * kx42))), (2, .ref (ad (20 + 2 * Ec))), (0, .ref (ad 222)), (1, .int (6))]) Bx.1 Bx.2.1 d_Rd_readSequence_11 rfl hl (by decide) rfl (fun ls hl => ?_)
  refine lv_aload_n Bx.1 Bx.2.1 d_Rd_readSequence_12 rfl (lv_at hl 1 rfl) ?_
  refine lv_aload_n Bx.1 Bx.2.1 d_Rd_readSequence_13 rfl (lv_at hl 0 rfl) ?_
  have hce76 := (rds61.2.1 Ec (by omega)).1
  refine f_putN Bx hP hD hS (by omega) hce76 rfl inEl tyEl okEl nmEl 4 (by decide) kw_87 rfl rfl rfl rfl (Nat.le_of_ble_eq_true rfl) d_Rd_readSequence_14 (fun H locs hP hS => ?_)
  obtain ⟨mem77, e_mem77⟩ : ∃ z, z = va_up mem41 ((20 + 2 * Ec)) (.inr (2, [.int (Bx_49 228 Ec), .int (Bx_49 229 Ec), .int (Bx_49 230 Ec), vR ad (Bx_49 231 Ec), .ref (ad (20 + 2 * kx42)), vE ad (Bx_49 233 Ec), .ref (ad (21 + 2 * Ec))])) := ⟨_, rfl⟩
  have hP : va_P D vcl (fw n ad mem77) H := by rw [e_mem77]; exact hP
  have hD : va_D (Az sz) (fw n ad mem77) := fw_D hD
  have h_mem77 : mem77 ((20 + 2 * Ec)) = .inr (2, [.int (Bx_49 228 Ec), .int (Bx_49 229 Ec), .int (Bx_49 230 Ec), vR ad (Bx_49 231 Ec), .ref (ad (20 + 2 * kx42)), vE ad (Bx_49 233 Ec), .ref (ad (21 + 2 * Ec))]) := by rw [e_mem77, va_up_self]
  have hh78 := (va_up_ne mem41 (.inr (2, [.int (Bx_49 228 Ec), .int (Bx_49 229 Ec), .int (Bx_49 230 Ec), vR ad (Bx_49 231 Ec), .ref (ad (20 + 2 * kx42)), vE ad (Bx_49 233 Ec), .ref (ad (21 + 2 * Ec))])) (show (222 : Nat) ≠ (20 + 2 * Ec) by first | decide | assumption | omega)).trans h9_65
  rw [← e_mem77] at hh78
  have hh79 := (va_up_ne mem41 (.inr (2, [.int (Bx_49 228 Ec), .int (Bx_49 229 Ec), .int (Bx_49 230 Ec), vR ad (Bx_49 231 Ec), .ref (ad (20 + 2 * kx42)), vE ad (Bx_49 233 Ec), .ref (ad (21 + 2 * Ec))])) (show (1 : Nat) ≠ (20 + 2 * Ec) by first | decide | assumption | omega)).trans h1_66
  rw [← e_mem77] at hh79
  have hh80 := (va_up_ne mem41 (.inr (2, [.int (Bx_49 228 Ec), .int (Bx_49 229 Ec), .int (Bx_49 230 Ec), vR ad (Bx_49 231 Ec), .ref (ad (20 + 2 * kx42)), vE ad (Bx_49 233 Ec), .ref (ad (21 + 2 * Ec))])) (show (5 : Nat) ≠ (20 + 2 * Ec) by first | decide | assumption | omega)).trans h5_68
  rw [← e_mem77] at hh80
  have hh81 := (va_up_ne mem41 (.inr (2, [.int (Bx_49 228 Ec), .int (Bx_49 229 Ec), .int (Bx_49 230 Ec), vR ad (Bx_49 231 Ec), .ref (ad (20 + 2 * kx42)), vE ad (Bx_49 233 Ec), .ref (ad (21 + 2 * Ec))])) (show (220 : Nat) ≠ (20 + 2 * Ec) by first | decide | assumption | omega)).trans h220_72
  rw [← e_mem77] at hh81
  have hrk82 : ∀ i9, i9 < R → mem77 (7 + i9) = mem (7 + i9) := fun i9 q9 => (show mem77 (7 + i9) = mem41 (7 + i9) by rw [e_mem77]; exact va_up_ne _ _ (by omega)).trans (hrk63 i9 q9)
  have hRX83 : RX cy ad lim (ax43) (Rx45) (Ex46) (tox51) (nx50) m0 mem77 := by rw [e_mem77]; exact hRX60.el (by omega) (hRX60.1.mk (by omega) (hRX60.1.1.upEl (by omega) (fun _ => ⟨(rds61.2.1 Ec (by omega)).2.1.oR ad, Or.inr ⟨kx42, by omega, by omega, rfl⟩, (rds61.2.1 Ec (by omega)).2.2.2.oE ad (by omega)⟩)))
  have her84 : ER ad (Rx45) (Ex46) (va_up Bx_49 232 (upd (Bx_49 232) Ec (nI kx42))) mem77 := rds61.2.1.part (by omega) (by omega) (by omega) h_mem77 (fun i9 q9 hi9 => by rw [e_mem77]; exact va_up_ne _ _ (by omega))
  have hsr85 : SR cy ad (Sx47) (Bx_49) mem77 := ⟨(show mem77 220 = mem41 220 by rw [e_mem77]; exact va_up_ne _ _ (by omega)).trans rds61.2.2.1.1, (show mem77 221 = mem41 221 by rw [e_mem77]; exact va_up_ne _ _ (by omega)).trans rds61.2.2.1.2⟩
  obtain ⟨ft86, h9_87⟩ := hRX83.2.1
  have h1_88 : mem77 1 = .inr (0, [.ref (ad 2), .int (nI Z)]) := (hRX83.1.2.2 1 (by omega)).trans hT.1
  have h2_89 : mem77 2 = .inl (cy 0, 240, .inl f) := (hRX83.1.2.2 2 (by omega)).trans hT.2.2
  have h5_90 := hRX83.1.1.2.1
  have hbd96 := hRX83.1.1.1
  obtain ⟨S91, g92, hS_93, h220_94, h221_95⟩ := hRX83.1.1.2.2.2.2.2.2
  refine lv_iconst (v := 0) Bx.1 Bx.2.1 d_Rd_readSequence_17 (by decide) ?_
  refine lv_istore (lv' := [(4, .int (0)), (3, .ref (ad (20 + 2 * kx42))), (2, .ref (ad (20 + 2 * Ec))), (0, .ref (ad 222)), (1, .int (6))]) Bx.1 Bx.2.1 d_Rd_readSequence_18 hl (by decide) rfl (fun ls hl => ?_)
  have hsl9 := slot_lt hLK (by omega) hcl
  have hsq0 := seq_first hLK hE9 hc hcl h39 rds61 h862 ⟨by omega, by omega⟩ (by omega) (seq_ok (u := u) (R := R) (f := 6) (A := A) (nm := nm) hbg hE9) her84 hsr85
  have loop97 : ∀ (d98 : Nat) (mem9 : Nat → va_E) (a1 : Nat) (u1 : Nat) (R1 : Nat) (E1 : Nat) (S1 : Nat) (A1 : Ro) (B1 : Ro) (n1 : Nat → Int64) (to1 : Nat → Int32) (la : Nat) (k9 : Nat) (ls : Array Slot) (H : Heap) (locs : List Loc), (240 - k9 < d98) → (RX cy ad lim a1 R1 E1 to1 n1 m0 mem9) → (a < a1 ∧ a1 ≤ Z ∧ R ≤ R1 ∧ k9 < a1 ∧ k9 ≤ 240) → (SQI cy ad T Z 6 (seqS T Z a u R Ec 6 A nm) (slotOf A cq) R Ec S u A Bw la a1 u1 R1 E1 S1 A1 B1 n1 mem9) → (TOK R R1 to to1) → (∀ i9, i9 < R → mem9 (7 + i9) = mem (7 + i9)) → (va_P D vcl (fw n ad mem9) H) → (va_D (Az sz) (fw n ad mem9)) → (va_S (Az sz) s.heap H locs) → (lv_has ls 5 [(4, .int (nI k9)), (3, .ref (ad (20 + 2 * la))), (2, .ref (ad (20 + 2 * Ec))), (0, .ref (ad 222)), (1, .int (6))]) → W p l e (headSpec (Cond.code y_Rd_readSequence c_Rd_readSequence 5 (some (.object "AbnfChart$Element")) :: tg) ({ frames := 18, cells := 1, slots := 6, locals := 412 } : Room)).room s m [.ref (ad 222), .int (6)].toArray below meth c H locs 0 0 (vx_MQ below (QX (QR (fun r mem' => ∃ (a' u' R' E' S' : Nat) (A' Bw' : Ro) (nm' : Nat → Int64) (to' : Nat → Int32), r = ad (20 + 2 * Ec) ∧ Ec < E' ∧ R ≤ R' ∧ a < a' ∧ a' ≤ Z ∧ TOK R R' to to' ∧ (∀ i9, i9 < R → mem' (7 + i9) = mem (7 + i9)) ∧ RX cy ad lim (gapF T Z a') R' E' to' nm' m0 mem' ∧ RDS cy ad T Z 6 (seqS T Z a u R Ec 6 A nm) (slotOf A cq) R Ec S u A Bw Ec a' u' R' E' S' A' Bw' nm' mem' ∧ ¬ (bgF (hereF Z T (gapF T Z a')) = true ∧ a' < gapF T Z a')) (PP D n ad) (Az sz))) (XQ D sz n ad (fun X mem' => ((X = cIA ∨ X = cIS) ∧ ∃ rc' ec' : Nat, RS cy ad lim rc' ec' m0 mem') ∧ (Fai T Z (seqS T Z a u R Ec 6 A nm)))) [.ref (ad 222), .int (6)].toArray s 1 6 (Az sz)) (F0 m 20 ls []) := by
    intro d98
    induction d98 with
    | zero => intro mem9 a1 u1 R1 E1 S1 A1 B1 n1 to1 la k9 ls H locs hmeas105; exact absurd hmeas105 (Nat.not_lt_zero _)
    | succ d98 ih104 =>
      intro mem9 a1 u1 R1 E1 S1 A1 B1 n1 to1 la k9 ls H locs hmeas105 hz99 hz100 hz101 hz102 hz103 hP hD hS hl
      have hbd8 := hz100
      have hsq := hz101
      have hbdE := hz99.1.1.1
      have hla := hsq.2.2.2
      have hSa1 := hsq.1.2.2.2.1.2.1
      have hlka := sqi_lka hsq hLK hsl9
      obtain ⟨ft106, h9_107⟩ := hz99.2.1
      have h1_108 : mem9 1 = .inr (0, [.ref (ad 2), .int (nI Z)]) := (hz99.1.2.2 1 (by omega)).trans hT.1
      have h2_109 : mem9 2 = .inl (cy 0, 240, .inl f) := (hz99.1.2.2 2 (by omega)).trans hT.2.2
      have h5_110 := hz99.1.1.2.1
      have hbd116 := hz99.1.1.1
      obtain ⟨S111, g112, hS_113, h220_114, h221_115⟩ := hz99.1.1.2.2.2.2.2.2
      refine lv_iload Bx.1 Bx.2.1 d_Rd_readSequence_20 (lv_at hl 0 rfl) ?_
      refine lv_sipush (v := 240) Bx.1 Bx.2.1 d_Rd_readSequence_22 (by decide) ?_
      refine lv_icmp_ge Bx.1 Bx.2.1 d_Rd_readSequence_25 rfl (fun hb117 => ?_) (fun hb117 => ?_)
      · have hN118 : 240 ≤ k9 := (nI_leI (by omega) (by omega)).mp (show nI (240) ≤ nI (k9) from hb117)
        exact absurd hbd8 (by omega)
      · have hN119 : ¬ 240 ≤ k9 := fun q9 => hb117 (show nI (240) ≤ nI (k9) from (nI_leI (by omega) (by omega)).mpr q9)
        refine lv_aload_n Bx.1 Bx.2.1 d_Rd_readSequence_28 rfl (lv_at hl 3 rfl) ?_
        refine f_callVi (na := 0) (As := []) (rest := []) Bx hml E hP hD hS (by omega) h9_107 rfl (m_Rd_readGapY l hn hT hf hz99 (by omega) (by omega)) kw_397 kw_399 sel_Rd_readGap kw_6 kw_400 (by decide +kernel) ⟨rfl, rfl⟩ ⟨Nat.le_of_ble_eq_true rfl, Nat.le_of_ble_eq_true rfl⟩ rfl hl.1 (Nat.le_of_ble_eq_true rfl) d_Rd_readSequence_29 ⟨Nat.le_of_ble_eq_true rfl, Nat.le_of_ble_eq_true rfl⟩ (fun r120 mem121 H locs hq hP hS => ?_)
        have hD : va_D (Az sz) (fw n ad mem121) := fw_D hD
        obtain ⟨g122, eg123⟩ : ∃ z, z = gapF T Z (a1) := ⟨_, rfl⟩
        rw [← eg123] at hq
        obtain ⟨hRX124, hgc125, hfa126⟩ := hq
        have hg127 : a1 ≤ g122 := by rw [eg123]; exact gapF_ge T Z _
        have hg128 : g122 ≤ Z := by rw [eg123]; exact gapF_le T (by omega)
        have hrk129 : ∀ i9, i9 < R → mem121 (7 + i9) = mem (7 + i9) := fun i9 q9 => (hfa126 (7 + i9) (by omega)).trans (hz103 i9 q9)
        obtain ⟨ft130, h9_131⟩ := hRX124.2.1
        have h1_132 : mem121 1 = .inr (0, [.ref (ad 2), .int (nI Z)]) := (hRX124.1.2.2 1 (by omega)).trans hT.1
        have h2_133 : mem121 2 = .inl (cy 0, 240, .inl f) := (hRX124.1.2.2 2 (by omega)).trans hT.2.2
        have h5_134 := hRX124.1.1.2.1
        have hbd140 := hRX124.1.1.1
        obtain ⟨S135, g136, hS_137, h220_138, h221_139⟩ := hRX124.1.1.2.2.2.2.2.2
        have her141 : ER ad (R1) (E1) (B1) mem121 := hsq.1.2.1.fr (Nat.le_refl _) (fun i9 hi9 => hfa126 _ (by omega))
        have hsr142 : SR cy ad (S1) (B1) mem121 := ⟨(show mem121 220 = _ from hfa126 _ (by omega)).trans hsq.1.2.2.1.1, (show mem121 221 = _ from hfa126 _ (by omega)).trans hsq.1.2.2.1.2⟩
        rcases hgc125 with ⟨hr143, hga144⟩ | ⟨hr143, hga144⟩
        · subst hr143
          refine lv_if_eq Bx.1 Bx.2.1 d_Rd_readSequence_32 rfl (fun hb145 => ?_) (fun hb145 => ?_)
          · exact absurd hb145 (by decide)
          · refine lv_aload_n Bx.1 Bx.2.1 d_Rd_readSequence_35 rfl (lv_at hl 3 rfl) ?_
            refine f_callVi (na := 0) (As := []) (rest := []) Bx hml E hP hD hS (by omega) h9_131 rfl (m_Rd_peekX l hn hT hf hRX124 (by omega)) kw_353 kw_355 sel_Rd_peek kw_6 kw_356 (by decide +kernel) ⟨rfl, rfl⟩ ⟨Nat.le_of_ble_eq_true rfl, Nat.le_of_ble_eq_true rfl⟩ rfl hl.1 (Nat.le_of_ble_eq_true rfl) d_Rd_readSequence_36 ⟨Nat.le_of_ble_eq_true rfl, Nat.le_of_ble_eq_true rfl⟩ (fun r147 mem148 H locs hq hP hS => ?_)
            have hD : va_D (Az sz) (fw n ad mem148) := fw_D hD
            obtain ⟨hqe, hpk146⟩ := hq
            rw [hqe] at hP hD
            subst hpk146
            refine f_callSi (na := 1) (As := [.int (hereF Z T (g122))]) (rest := []) Bx hml E.2.1 (m_Rd_beginsRepetitionX l (hereF Z T (g122))) kw_413 kw_414 kw_6 kw_415 (by decide +kernel) ⟨rfl, rfl⟩ ⟨Nat.le_of_ble_eq_true rfl, Nat.le_of_ble_eq_true rfl⟩ rfl hl.1 (Nat.le_of_ble_eq_true rfl) d_Rd_readSequence_39 ⟨Nat.le_of_ble_eq_true rfl, Nat.le_of_ble_eq_true rfl⟩ (fun r151 hs150 => ?_)
            subst hs150
            refine lv_if_eq Bx.1 Bx.2.1 d_Rd_readSequence_42 rfl (fun hb152 => ?_) (fun hb152 => ?_)
            · refine lv_aload_n Bx.1 Bx.2.1 d_Rd_readSequence_65 rfl (lv_at hl 2 rfl) ?_
              exact x_aret hx hb hlocks hr (⟨a1, u1, R1, E1, S1, A1, B1, n1, to1, rfl, by omega, by omega, by omega, by omega, hz102, hrk129, by rw [← eg123]; exact hRX124, ⟨hsq.1.1, her141, hsr142, hsq.1.2.2.2⟩, fun z => by have q9 := z.1; rw [← eg123, bg_0 hb152] at q9; exact absurd q9 (by decide)⟩) hP hS d_Rd_readSequence_66
            · have hbg2 : bgF (hereF Z T (gapF T Z a1)) = true := by rw [← eg123]; exact bg_1 hb152
              have hgt2 : a1 < gapF T Z a1 := by rw [← eg123]; omega
              have h238 := hsq.2.1
              have h239 : A1 239 6 = -1 := hsq.1.2.2.2.2.2.2.2.2.2.2
              refine lv_aload_n Bx.1 Bx.2.1 d_Rd_readSequence_45 rfl (lv_at hl 1 rfl) ?_
              refine lv_aload_n Bx.1 Bx.2.1 d_Rd_readSequence_46 rfl (lv_at hl 3 rfl) ?_
              refine lv_iload_n Bx.1 Bx.2.1 d_Rd_readSequence_47 rfl (lv_at hl 4 rfl) ?_
              refine f_xVr (na := 1) (As := [.int (6)]) (rest := [.ref (ad (20 + 2 * la))]) Bx hml E hP hD hS (by omega) h9_131 rfl (m_Rd_readRepetition_6Y l hlt hn hT hf hRX124 (by omega) (u := u1) (A := A1) her141 hsr142 (by omega) (by omega) hlka ⟨⟨Ec, by omega, h238⟩, Or.inl h239⟩ h239 (by rw [eg123]; exact hbg2)) kw_439 kw_441 sel_Rd_readRepetition kw_6 kw_442 (by decide +kernel) ⟨rfl, rfl⟩ ⟨Nat.le_of_ble_eq_true rfl, Nat.le_of_ble_eq_true rfl⟩ rfl hl.1 (Nat.le_of_ble_eq_true rfl) d_Rd_readSequence_48 ⟨Nat.le_of_ble_eq_true rfl, Nat.le_of_ble_eq_true rfl⟩ (fun X ce q9 memx H locs hx9 hP hS g1 g2 g3 => f_out hlocks hno hP hS g1 g2 g3 ⟨Nat.le_of_ble_eq_true rfl, Nat.le_of_ble_eq_true rfl⟩ ⟨hx9.1, hsq.1.1.fai (go_rept hbg2 hgt2) (by rw [← eg123]; exact hx9.2)⟩) (fun r153 mem154 H locs hq hP hS => ?_)
              have hD : va_D (Az sz) (fw n ad mem154) := fw_D hD
              obtain ⟨kx155, ax156, ux157, Rx158, Ex159, Sx160, Ax161, Bx_162, nx163, tox164, hr9165, h1166, h2167, h3168, h4169, h5170, htk171, hrk172, hRX173, rds174, h8175⟩ := hq
              subst hr9165
              have hrk176 : ∀ i9, i9 < R → mem154 (7 + i9) = mem (7 + i9) := fun i9 q9 => (hrk172 i9 (by omega)).trans (hrk129 i9 q9)
              obtain ⟨ft177, h9_178⟩ := hRX173.2.1
              have h1_179 : mem154 1 = .inr (0, [.ref (ad 2), .int (nI Z)]) := (hRX173.1.2.2 1 (by omega)).trans hT.1
              have h2_180 : mem154 2 = .inl (cy 0, 240, .inl f) := (hRX173.1.2.2 2 (by omega)).trans hT.2.2
              have h5_181 := hRX173.1.1.2.1
              have hbd187 := hRX173.1.1.1
              obtain ⟨S182, g183, hS_184, h220_185, h221_186⟩ := hRX173.1.1.2.2.2.2.2.2
              have hbd188 := hRX173.1.1.1
              have hce189 := (rds174.2.1 la (by omega)).1
              refine f_putN Bx hP hD hS (by omega) hce189 rfl inEl tyEl okEl nmEl 5 (by decide) kw_91 rfl rfl rfl rfl (Nat.le_of_ble_eq_true rfl) d_Rd_readSequence_51 (fun H locs hP hS => ?_)
              obtain ⟨mem190, e_mem190⟩ : ∃ z, z = va_up mem154 ((20 + 2 * la)) (.inr (2, [.int (Bx_162 228 la), .int (Bx_162 229 la), .int (Bx_162 230 la), vR ad (Bx_162 231 la), vE ad (Bx_162 232 la), .ref (ad (20 + 2 * kx155)), .ref (ad (21 + 2 * la))])) := ⟨_, rfl⟩
              have hP : va_P D vcl (fw n ad mem190) H := by rw [e_mem190]; exact hP
              have hD : va_D (Az sz) (fw n ad mem190) := fw_D hD
              have h_mem190 : mem190 ((20 + 2 * la)) = .inr (2, [.int (Bx_162 228 la), .int (Bx_162 229 la), .int (Bx_162 230 la), vR ad (Bx_162 231 la), vE ad (Bx_162 232 la), .ref (ad (20 + 2 * kx155)), .ref (ad (21 + 2 * la))]) := by rw [e_mem190, va_up_self]
              have hh191 := (va_up_ne mem154 (.inr (2, [.int (Bx_162 228 la), .int (Bx_162 229 la), .int (Bx_162 230 la), vR ad (Bx_162 231 la), vE ad (Bx_162 232 la), .ref (ad (20 + 2 * kx155)), .ref (ad (21 + 2 * la))])) (show (222 : Nat) ≠ (20 + 2 * la) by first | decide | assumption | omega)).trans h9_178
              rw [← e_mem190] at hh191
              have hh192 := (va_up_ne mem154 (.inr (2, [.int (Bx_162 228 la), .int (Bx_162 229 la), .int (Bx_162 230 la), vR ad (Bx_162 231 la), vE ad (Bx_162 232 la), .ref (ad (20 + 2 * kx155)), .ref (ad (21 + 2 * la))])) (show (1 : Nat) ≠ (20 + 2 * la) by first | decide | assumption | omega)).trans h1_179
              rw [← e_mem190] at hh192
              have hh193 := (va_up_ne mem154 (.inr (2, [.int (Bx_162 228 la), .int (Bx_162 229 la), .int (Bx_162 230 la), vR ad (Bx_162 231 la), vE ad (Bx_162 232 la), .ref (ad (20 + 2 * kx155)), .ref (ad (21 + 2 * la))])) (show (5 : Nat) ≠ (20 + 2 * la) by first | decide | assumption | omega)).trans h5_181
              rw [← e_mem190] at hh193
              have hh194 := (va_up_ne mem154 (.inr (2, [.int (Bx_162 228 la), .int (Bx_162 229 la), .int (Bx_162 230 la), vR ad (Bx_162 231 la), vE ad (Bx_162 232 la), .ref (ad (20 + 2 * kx155)), .ref (ad (21 + 2 * la))])) (show (220 : Nat) ≠ (20 + 2 * la) by first | decide | assumption | omega)).trans h220_185
              rw [← e_mem190] at hh194
              have hrk195 : ∀ i9, i9 < R → mem190 (7 + i9) = mem (7 + i9) := fun i9 q9 => (show mem190 (7 + i9) = mem154 (7 + i9) by rw [e_mem190]; exact va_up_ne _ _ (by omega)).trans (hrk176 i9 q9)
              have hRX196 : RX cy ad lim (ax156) (Rx158) (Ex159) (tox164) (nx163) m0 mem190 := by rw [e_mem190]; exact hRX173.el (by omega) (hRX173.1.mk (by omega) (hRX173.1.1.upEl (by omega) (fun _ => ⟨(rds174.2.1 la (by omega)).2.1.oR ad, (rds174.2.1 la (by omega)).2.2.1.oE ad (by omega), Or.inr ⟨kx155, by omega, by omega, rfl⟩⟩)))
              have her197 : ER ad (Rx158) (Ex159) (va_up Bx_162 233 (upd (Bx_162 233) la (nI kx155))) mem190 := rds174.2.1.next (by omega) (by omega) (by omega) h_mem190 (fun i9 q9 hi9 => by rw [e_mem190]; exact va_up_ne _ _ (by omega))
              have hsr198 : SR cy ad (Sx160) (Bx_162) mem190 := ⟨(show mem190 220 = mem154 220 by rw [e_mem190]; exact va_up_ne _ _ (by omega)).trans rds174.2.2.1.1, (show mem190 221 = mem154 221 by rw [e_mem190]; exact va_up_ne _ _ (by omega)).trans rds174.2.2.1.2⟩
              obtain ⟨ft199, h9_200⟩ := hRX196.2.1
              have h1_201 : mem190 1 = .inr (0, [.ref (ad 2), .int (nI Z)]) := (hRX196.1.2.2 1 (by omega)).trans hT.1
              have h2_202 : mem190 2 = .inl (cy 0, 240, .inl f) := (hRX196.1.2.2 2 (by omega)).trans hT.2.2
              have h5_203 := hRX196.1.1.2.1
              have hbd209 := hRX196.1.1.1
              obtain ⟨S204, g205, hS_206, h220_207, h221_208⟩ := hRX196.1.1.2.2.2.2.2.2
              refine lv_aload_n Bx.1 Bx.2.1 d_Rd_readSequence_54 rfl (lv_at hl 1 rfl) ?_
              refine f_getN Bx hP (by omega) h_mem190 rfl inEl 5 (by decide) kw_91 rfl rfl d_Rd_readSequence_55 ?_
              refine lv_astore_n (lv' := [(3, .ref (ad (20 + 2 * kx155))), (4, .int (nI k9)), (2, .ref (ad (20 + 2 * Ec))), (0, .ref (ad 222)), (1, .int (6))]) Bx.1 Bx.2.1 d_Rd_readSequence_58 rfl hl (by decide) rfl (fun ls hl => ?_)
              refine lv_iinc (lv' := [(4, .int ((nI k9 + (1)))), (3, .ref (ad (20 + 2 * kx155))), (2, .ref (ad (20 + 2 * Ec))), (0, .ref (ad 222)), (1, .int (6))]) Bx.1 Bx.2.1 d_Rd_readSequence_59 hl (k := 1) rfl rfl (by decide) rfl (fun ls hl => ?_)
              rw [show (nI k9 + (1) : Int32) = nI (k9 + 1) from nI_1 (k9)] at hl
              refine lv_goto Bx.1 Bx.2.1 d_Rd_readSequence_62 rfl ?_
              have hsq3 := seq_step hsq (by omega) hlka (by omega) hsl9 rds174 h8175 ⟨by omega, by omega⟩ (by omega) (by rw [eg123]; exact go_rept hbg2 hgt2) her197 hsr198
              exact ih104 mem190 (ax156) (ux157) (Rx158) (Ex159) (Sx160) (Ax161) ((va_up Bx_162 233 (upd (Bx_162 233) la (nI kx155)))) (nx163) (tox164) (kx155) (k9 + 1) _ _ _ (by have := hmeas105; omega) (hRX196) (⟨by omega, by omega, by omega, by omega, by omega⟩) (hsq3) (hz102.trans htk171 (by omega)) (hrk195) hP hD hS (lv_sub hl [0, 1, 2, 3, 4] rfl)
        · subst hr143
          refine lv_if_eq Bx.1 Bx.2.1 d_Rd_readSequence_32 rfl (fun hb210 => ?_) (fun hb210 => ?_)
          · refine lv_aload_n Bx.1 Bx.2.1 d_Rd_readSequence_65 rfl (lv_at hl 2 rfl) ?_
            exact x_aret hx hb hlocks hr (⟨a1, u1, R1, E1, S1, A1, B1, n1, to1, rfl, by omega, by omega, by omega, by omega, hz102, hrk129, by rw [← eg123]; exact hRX124, ⟨hsq.1.1, her141, hsr142, hsq.1.2.2.2⟩, fun z => by have := z.2; rw [← eg123] at this; omega⟩) hP hS d_Rd_readSequence_66
          · exact absurd hb210 (by decide)
  exact loop97 _ mem77 (ax43) (ux44) (Rx45) (Ex46) (Sx47) (Ax48) ((va_up Bx_49 232 (upd (Bx_49 232) Ec (nI kx42)))) (nx50) (tox51) (kx42) (0) _ _ _ (Nat.lt_succ_self _) (hRX83) (⟨by omega, by omega, by omega, by omega, by omega⟩) (hsq0) (htk58) (hrk82) hP hD hS (lv_sub hl [0, 1, 2, 3, 4] rfl)
set_option maxHeartbeats 4000000 in
set_option maxRecDepth 100000 in
theorem m_Rd_readAlternatives_6Y (l : Launch) {D : va_G} {cy : Nat → ClassId} {sz n : Nat} {ad : Nat → Nat} {mem : Nat → va_E} {Z a R Ec lim : Nat} {f T : Nat → Int32} {to : Nat → Int32} {nm : Nat → Int64} {m0 : Nat → va_E} {u S : Nat} {A Bw : Ro} {cq : Nat} (hlt : l.stackTraces = false) (hn : 224 ≤ n) (hT : TX cy ad Z f m0) (hf : ∀ k, k < Z → f k = T k) (hRX : RX cy ad lim a R Ec to nm m0 mem) (haB : a ≤ 300) (hER : ER ad R Ec Bw mem) (hSR : SR cy ad S Bw mem) (hSa : S ≤ a) (haZ : a ≤ Z) (hLK : LKa (Ec + 1) A) (hc : A 237 6 = nI cq) (hcl : cq ≤ Ec) (h39 : A 239 6 = -1) : NXr l D cy sz n ad y_Rd_readAlternatives c_Rd_readAlternatives 5 (some (.object "AbnfChart$Element")) ({ frames := 19, cells := 1, slots := 6, locals := 438 } : Room) mem [.ref (ad 222), .int (6)] (fun r mem' => ∃ (la a' u' R' E' S' : Nat) (A' Bw' : Ro) (nm' : Nat → Int64) (to' : Nat → Int32), r = ad (20 + 2 * Ec) ∧ Ec + 1 < E' ∧ R ≤ R' ∧ a < a' ∧ a' ≤ Z ∧ TOK R R' to to' ∧ (∀ i9, i9 < R → mem' (7 + i9) = mem (7 + i9)) ∧ RX cy ad lim (gapF T Z a') R' E' to' nm' m0 mem' ∧ ALI cy ad T Z 6 (seqS T Z a u R (Ec + 1) 6 A nm) cq R Ec S u A Bw la a' u' R' E' S' A' Bw' nm' mem' ∧ bgF (hereF Z T a) = true ∧ Ec < 100 ∧ ¬ hereF Z T (gapF T Z a') = 47 ∧ ¬ (bgF (hereF Z T (gapF T Z a')) = true ∧ a' < gapF T Z a')) (fun X mem' => ((X = cIA ∨ X = cIS) ∧ ∃ rc' ec' : Nat, RS cy ad lim rc' ec' m0 mem') ∧ (bgF (hereF Z T a) = false ∨ Ec = 100 ∨ (bgF (hereF Z T a) = true ∧ Ec < 100 ∧ Fai T Z (seqS T Z a u R (Ec + 1) 6 A nm)))) := by
  refine vx_ofW (cc := c_Rd_readAlternatives) (maxL := 5) (ret := (some (.object "AbnfChart$Element"))) (by decide) rfl ?_
  intro p e s m args below meth c s₁ B hml hno hv
  obtain ⟨rfl, E, hP, hD⟩ := hv
  have hx := B.exec
  have hb := B.bytes
  have hr := B.returns
  have hlocks := B.notSynchronized
  have Bx : MB p s m [.ref (ad 222), .int (6)].toArray c c_Rd_readAlternatives "AbnfChart$Reader" D cy := ⟨hx, hb, tb_all (atoms_spec B.pre) E.2.1, findClass_of_methodNamed B.named, E.1⟩
  have hS : va_S (Az sz) s.heap s.heap [] := va_S.rf
  have hl := lv_entry ([.ref (ad 222), .int (6)]) (n := 5) (Nat.le_of_ble_eq_true rfl)
  rw [lg_entry_eq]
  generalize (lg_sl ([.ref (ad 222), .int (6)]) ++ List.replicate (5 - (lg_sl ([.ref (ad 222), .int (6)])).length) Slot.unset).toArray = ls at hl ⊢
  have hl : lv_has ls 5 [(0, .ref (ad 222)), (1, .int (6))] := hl
  have hZ9 := hT.2.1
  have hbd9 := hRX.1.1.1
  have hfr0 : ∀ i, 7 ≤ i ∧ i < 222 ∧ i ≠ 20 + 2 * Ec → mem i = mem i := fun _ _ => rfl
  have hrk0 : ∀ i9, i9 < R → mem (7 + i9) = mem (7 + i9) := fun _ _ => rfl
  obtain ⟨ft1, h9_2⟩ := hRX.2.1
  have h1_3 : mem 1 = .inr (0, [.ref (ad 2), .int (nI Z)]) := (hRX.1.2.2 1 (by omega)).trans hT.1
  have h2_4 : mem 2 = .inl (cy 0, 240, .inl f) := (hRX.1.2.2 2 (by omega)).trans hT.2.2
  have h5_5 := hRX.1.1.2.1
  have hbd11 := hRX.1.1.1
  obtain ⟨S6, g7, hS_8, h220_9, h221_10⟩ := hRX.1.1.2.2.2.2.2.2
  refine lv_aload_n Bx.1 Bx.2.1 d_Rd_readAlternatives_0 rfl (lv_at hl 0 rfl) ?_
  refine lv_iconst (v := 0) Bx.1 Bx.2.1 d_Rd_readAlternatives_1 (by decide) ?_
  refine f_xVr (na := 1) (As := [.int (0)]) (rest := []) Bx hml E hP hD hS (by omega) h9_2 rfl (m_Rd_beginRowY l hlt hn hT hf hRX (by omega)) kw_409 kw_411 sel_Rd_beginRow kw_6 kw_412 (by decide +kernel) ⟨rfl, rfl⟩ ⟨Nat.le_of_ble_eq_true rfl, Nat.le_of_ble_eq_true rfl⟩ rfl hl.1 (Nat.le_of_ble_eq_true rfl) d_Rd_readAlternatives_2 ⟨Nat.le_of_ble_eq_true rfl, Nat.le_of_ble_eq_true rfl⟩ (fun X ce q9 memx H locs hx9 hP hS g1 g2 g3 => f_out hlocks hno hP hS g1 g2 g3 ⟨Nat.le_of_ble_eq_true rfl, Nat.le_of_ble_eq_true rfl⟩ ⟨hx9.1, hx9.2.elim Or.inl (fun z => Or.inr (Or.inl z))⟩) (fun r12 mem13 H locs hq hP hS => ?_)
  have hD : va_D (Az sz) (fw n ad mem13) := fw_D hD
  obtain ⟨hbg, hE9, hr9, hRXb, hclb, hfab⟩ := hq
  subst hr9
  have hrk14 : ∀ i9, i9 < R → mem13 (7 + i9) = mem (7 + i9) := fun i9 q9 => (hfab (7 + i9) (by omega)).trans (hrk0 i9 q9)
  have hfr15 : ∀ i, 7 ≤ i ∧ i < 222 ∧ i ≠ 20 + 2 * Ec → mem13 i = mem i := fun i q => (hfab i (by omega)).trans (hfr0 i q)
  obtain ⟨ft16, h9_17⟩ := hRXb.2.1
  have h1_18 : mem13 1 = .inr (0, [.ref (ad 2), .int (nI Z)]) := (hRXb.1.2.2 1 (by omega)).trans hT.1
  have h2_19 : mem13 2 = .inl (cy 0, 240, .inl f) := (hRXb.1.2.2 2 (by omega)).trans hT.2.2
  have h5_20 := hRXb.1.1.2.1
  have hbd26 := hRXb.1.1.1
  obtain ⟨S21, g22, hS_23, h220_24, h221_25⟩ := hRXb.1.1.2.2.2.2.2.2
  obtain ⟨ft27, h9_28⟩ := hRXb.2.1
  have h1_29 : mem13 1 = .inr (0, [.ref (ad 2), .int (nI Z)]) := (hRXb.1.2.2 1 (by omega)).trans hT.1
  have h2_30 : mem13 2 = .inl (cy 0, 240, .inl f) := (hRXb.1.2.2 2 (by omega)).trans hT.2.2
  have h5_31 := hRXb.1.1.2.1
  have hbd37 := hRXb.1.1.1
  obtain ⟨S32, g33, hS_34, h220_35, h221_36⟩ := hRXb.1.1.2.2.2.2.2.2
  refine lv_astore_n (lv' := [(2, .ref (ad (20 + 2 * Ec))), (0, .ref (ad 222)), (1, .int (6))]) Bx.1 Bx.2.1 d_Rd_readAlternatives_5 rfl hl (by decide) rfl (fun ls hl => ?_)
  refine lv_aload_n Bx.1 Bx.2.1 d_Rd_readAlternatives_6 rfl (lv_at hl 1 rfl) ?_
  refine lv_iload_n Bx.1 Bx.2.1 d_Rd_readAlternatives_7 rfl (lv_at hl 2 rfl) ?_
  have her38 : ER ad R (Ec + 1) (bwN Bw Ec 0 (0) (0) (-1) (-1) (-1) (Bw 234)) mem13 := hER.new (Nat.le_refl _) (by rw [vR_m]; exact hclb) (Or.inl rfl) (fun i9 hi9 => hfr15 (20 + 2 * i9) (by omega))
  have hsr39 : SR cy ad S (bwN Bw Ec 0 (0) (0) (-1) (-1) (-1) (Bw 234)) mem13 := ⟨(hfr15 220 (by omega)).trans hSR.1, (hfr15 221 (by omega)).trans hSR.2⟩
  refine f_xVr (na := 1) (As := [.int (6)]) (rest := []) Bx hml E hP hD hS (by omega) h9_28 rfl (m_Rd_readSequence_6Y l hlt hn hT hf hRXb (by omega) (u := u) (A := A) her38 hsr39 (by omega) (by omega) hLK hc (by omega) h39) kw_435 kw_437 sel_Rd_readSequence kw_6 kw_438 (by decide +kernel) ⟨rfl, rfl⟩ ⟨Nat.le_of_ble_eq_true rfl, Nat.le_of_ble_eq_true rfl⟩ rfl hl.1 (Nat.le_of_ble_eq_true rfl) d_Rd_readAlternatives_8 ⟨Nat.le_of_ble_eq_true rfl, Nat.le_of_ble_eq_true rfl⟩ (fun X ce q9 memx H locs hx9 hP hS g1 g2 g3 => f_out hlocks hno hP hS g1 g2 g3 ⟨Nat.le_of_ble_eq_true rfl, Nat.le_of_ble_eq_true rfl⟩ ⟨hx9.1, Or.inr (Or.inr ⟨hbg, hE9, hx9.2⟩)⟩) (fun r40 mem41 H locs hq hP hS => ?_)
  have hD : va_D (Az sz) (fw n ad mem41) := fw_D hD
  obtain ⟨ax42, ux43, Rx44, Ex45, Sx46, Ax47, Bx_48, nx49, tox50, hr951, h252, h353, h454, h555, htk56, hrk57, hRX58, rds59, hnb60⟩ := hq
  subst hr951
  have hrk61 : ∀ i9, i9 < R → mem41 (7 + i9) = mem (7 + i9) := fun i9 q9 => (hrk57 i9 (by omega)).trans (hrk14 i9 q9)
  obtain ⟨g62, eg63⟩ : ∃ z, z = gapF T Z ax42 := ⟨_, rfl⟩
  have hg64 : ax42 ≤ g62 := by rw [eg63]; exact gapF_ge T Z _
  have hg65 : g62 ≤ Z := by rw [eg63]; exact gapF_le T (by omega)
  rw [← eg63] at hRX58
  obtain ⟨ft66, h9_67⟩ := hRX58.2.1
  have h1_68 : mem41 1 = .inr (0, [.ref (ad 2), .int (nI Z)]) := (hRX58.1.2.2 1 (by omega)).trans hT.1
  have h2_69 : mem41 2 = .inl (cy 0, 240, .inl f) := (hRX58.1.2.2 2 (by omega)).trans hT.2.2
  have h5_70 := hRX58.1.1.2.1
  have hbd76 := hRX58.1.1.1
  obtain ⟨S71, g72, hS_73, h220_74, h221_75⟩ := hRX58.1.1.2.2.2.2.2.2
  have hbd77 := hRX58.1.1.1
  refine lv_astore_n (lv' := [(3, .ref (ad (20 + 2 * (Ec + 1)))), (2, .ref (ad (20 + 2 * Ec))), (0, .ref (ad 222)), (1, .int (6))]) Bx.1 Bx.2.1 d_Rd_readAlternatives_11 rfl hl (by decide) rfl (fun ls hl => ?_)
  refine lv_aload_n Bx.1 Bx.2.1 d_Rd_readAlternatives_12 rfl (lv_at hl 1 rfl) ?_
  refine lv_aload_n Bx.1 Bx.2.1 d_Rd_readAlternatives_13 rfl (lv_at hl 0 rfl) ?_
  have hce78 := (rds59.2.1 Ec (by omega)).1
  refine f_putN Bx hP hD hS (by omega) hce78 rfl inEl tyEl okEl nmEl 4 (by decide) kw_87 rfl rfl rfl rfl (Nat.le_of_ble_eq_true rfl) d_Rd_readAlternatives_14 (fun H locs hP hS => ?_)
  obtain ⟨mem79, e_mem79⟩ : ∃ z, z = va_up mem41 ((20 + 2 * Ec)) (.inr (2, [.int (Bx_48 228 Ec), .int (Bx_48 229 Ec), .int (Bx_48 230 Ec), vR ad (Bx_48 231 Ec), .ref (ad (20 + 2 * (Ec + 1))), vE ad (Bx_48 233 Ec), .ref (ad (21 + 2 * Ec))])) := ⟨_, rfl⟩
  have hP : va_P D vcl (fw n ad mem79) H := by rw [e_mem79]; exact hP
  have hD : va_D (Az sz) (fw n ad mem79) := fw_D hD
  have h_mem79 : mem79 ((20 + 2 * Ec)) = .inr (2, [.int (Bx_48 228 Ec), .int (Bx_48 229 Ec), .int (Bx_48 230 Ec), vR ad (Bx_48 231 Ec), .ref (ad (20 + 2 * (Ec + 1))), vE ad (Bx_48 233 Ec), .ref (ad (21 + 2 * Ec))]) := by rw [e_mem79, va_up_self]
  have hh80 := (va_up_ne mem41 (.inr (2, [.int (Bx_48 228 Ec), .int (Bx_48 229 Ec), .int (Bx_48 230 Ec), vR ad (Bx_48 231 Ec), .ref (ad (20 + 2 * (Ec + 1))), vE ad (Bx_48 233 Ec), .ref (ad (21 + 2 * Ec))])) (show (222 : Nat) ≠ (20 + 2 * Ec) by first | decide | assumption | omega)).trans h9_67
  rw [← e_mem79] at hh80
  have hh81 := (va_up_ne mem41 (.inr (2, [.int (Bx_48 228 Ec), .int (Bx_48 229 Ec), .int (Bx_48 230 Ec), vR ad (Bx_48 231 Ec), .ref (ad (20 + 2 * (Ec + 1))), vE ad (Bx_48 233 Ec), .ref (ad (21 + 2 * Ec))])) (show (1 : Nat) ≠ (20 + 2 * Ec) by first | decide | assumption | omega)).trans h1_68
  rw [← e_mem79] at hh81
  have hh82 := (va_up_ne mem41 (.inr (2, [.int (Bx_48 228 Ec), .int (Bx_48 229 Ec), .int (Bx_48 230 Ec), vR ad (Bx_48 231 Ec), .ref (ad (20 + 2 * (Ec + 1))), vE ad (Bx_48 233 Ec), .ref (ad (21 + 2 * Ec))])) (show (5 : Nat) ≠ (20 + 2 * Ec) by first | decide | assumption | omega)).trans h5_70
  rw [← e_mem79] at hh82
  have hh83 := (va_up_ne mem41 (.inr (2, [.int (Bx_48 228 Ec), .int (Bx_48 229 Ec), .int (Bx_48 230 Ec), vR ad (Bx_48 231 Ec), .ref (ad (20 + 2 * (Ec + 1))), vE ad (Bx_48 233 Ec), .ref (ad (21 + 2 * Ec))])) (show (220 : Nat) ≠ (20 + 2 * Ec) by first | decide | assumption | omega)).trans h220_74
  rw [← e_mem79] at hh83
  have hrk84 : ∀ i9, i9 < R → mem79 (7 + i9) = mem (7 + i9) := fun i9 q9 => (show mem79 (7 + i9) = mem41 (7 + i9) by rw [e_mem79]; exact va_up_ne _ _ (by omega)).trans (hrk61 i9 q9)
  have hRX85 : RX cy ad lim (g62) (Rx44) (Ex45) (tox50) (nx49) m0 mem79 := by rw [e_mem79]; exact hRX58.el (by omega) (hRX58.1.mk (by omega) (hRX58.1.1.upEl (by omega) (fun _ => ⟨(rds59.2.1 Ec (by omega)).2.1.oR ad, Or.inr ⟨(Ec + 1), by omega, by omega, rfl⟩, (rds59.2.1 Ec (by omega)).2.2.2.oE ad (by omega)⟩)))
  have her86 : ER ad (Rx44) (Ex45) (va_up Bx_48 232 (upd (Bx_48 232) Ec (nI (Ec + 1)))) mem79 := rds59.2.1.part (by omega) (by omega) (by omega) h_mem79 (fun i9 q9 hi9 => by rw [e_mem79]; exact va_up_ne _ _ (by omega))
  have hsr87 : SR cy ad (Sx46) (Bx_48) mem79 := ⟨(show mem79 220 = mem41 220 by rw [e_mem79]; exact va_up_ne _ _ (by omega)).trans rds59.2.2.1.1, (show mem79 221 = mem41 221 by rw [e_mem79]; exact va_up_ne _ _ (by omega)).trans rds59.2.2.1.2⟩
  obtain ⟨ft88, h9_89⟩ := hRX85.2.1
  have h1_90 : mem79 1 = .inr (0, [.ref (ad 2), .int (nI Z)]) := (hRX85.1.2.2 1 (by omega)).trans hT.1
  have h2_91 : mem79 2 = .inl (cy 0, 240, .inl f) := (hRX85.1.2.2 2 (by omega)).trans hT.2.2
  have h5_92 := hRX85.1.1.2.1
  have hbd98 := hRX85.1.1.1
  obtain ⟨S93, g94, hS_95, h220_96, h221_97⟩ := hRX85.1.1.2.2.2.2.2.2
  refine lv_iconst (v := 0) Bx.1 Bx.2.1 d_Rd_readAlternatives_17 (by decide) ?_
  refine lv_istore (lv' := [(4, .int (0)), (3, .ref (ad (20 + 2 * (Ec + 1)))), (2, .ref (ad (20 + 2 * Ec))), (0, .ref (ad 222)), (1, .int (6))]) Bx.1 Bx.2.1 d_Rd_readAlternatives_18 hl (by decide) rfl (fun ls hl => ?_)
  have hal0 := alt_first hLK hE9 hcl rds59 (by omega) (by omega) her86 hsr87
  have loop99 : ∀ (d100 : Nat) (mem9 : Nat → va_E) (a1 : Nat) (u1 : Nat) (R1 : Nat) (E1 : Nat) (S1 : Nat) (A1 : Ro) (B1 : Ro) (n1 : Nat → Int64) (to1 : Nat → Int32) (la : Nat) (k9 : Nat) (ls : Array Slot) (H : Heap) (locs : List Loc), (240 - k9 < d100) → (RX cy ad lim (gapF T Z a1) R1 E1 to1 n1 m0 mem9) → (a < a1 ∧ a1 ≤ Z ∧ R ≤ R1 ∧ k9 < a1 ∧ k9 ≤ 240) → (ALI cy ad T Z 6 (seqS T Z a u R (Ec + 1) 6 A nm) cq R Ec S u A Bw la a1 u1 R1 E1 S1 A1 B1 n1 mem9) → (TOK R R1 to to1) → (¬ (bgF (hereF Z T (gapF T Z a1)) = true ∧ a1 < gapF T Z a1)) → (∀ i9, i9 < R → mem9 (7 + i9) = mem (7 + i9)) → (va_P D vcl (fw n ad mem9) H) → (va_D (Az sz) (fw n ad mem9)) → (va_S (Az sz) s.heap H locs) → (lv_has ls 5 [(4, .int (nI k9)), (3, .ref (ad (20 + 2 * la))), (2, .ref (ad (20 + 2 * Ec))), (0, .ref (ad 222)), (1, .int (6))]) → W p l e (headSpec (Cond.code y_Rd_readAlternatives c_Rd_readAlternatives 5 (some (.object "AbnfChart$Element")) :: tg) ({ frames := 19, cells := 1, slots := 6, locals := 438 } : Room)).room s m [.ref (ad 222), .int (6)].toArray below meth c H locs 0 0 (vx_MQ below (QX (QR (fun r mem' => ∃ (la a' u' R' E' S' : Nat) (A' Bw' : Ro) (nm' : Nat → Int64) (to' : Nat → Int32), r = ad (20 + 2 * Ec) ∧ Ec + 1 < E' ∧ R ≤ R' ∧ a < a' ∧ a' ≤ Z ∧ TOK R R' to to' ∧ (∀ i9, i9 < R → mem' (7 + i9) = mem (7 + i9)) ∧ RX cy ad lim (gapF T Z a') R' E' to' nm' m0 mem' ∧ ALI cy ad T Z 6 (seqS T Z a u R (Ec + 1) 6 A nm) cq R Ec S u A Bw la a' u' R' E' S' A' Bw' nm' mem' ∧ bgF (hereF Z T a) = true ∧ Ec < 100 ∧ ¬ hereF Z T (gapF T Z a') = 47 ∧ ¬ (bgF (hereF Z T (gapF T Z a')) = true ∧ a' < gapF T Z a')) (PP D n ad) (Az sz))) (XQ D sz n ad (fun X mem' => ((X = cIA ∨ X = cIS) ∧ ∃ rc' ec' : Nat, RS cy ad lim rc' ec' m0 mem') ∧ (bgF (hereF Z T a) = false ∨ Ec = 100 ∨ (bgF (hereF Z T a) = true ∧ Ec < 100 ∧ Fai T Z (seqS T Z a u R (Ec + 1) 6 A nm))))) [.ref (ad 222), .int (6)].toArray s 1 6 (Az sz)) (F0 m 20 ls []) := by
    intro d100
    induction d100 with
    | zero => intro mem9 a1 u1 R1 E1 S1 A1 B1 n1 to1 la k9 ls H locs hmeas108; exact absurd hmeas108 (Nat.not_lt_zero _)
    | succ d100 ih107 =>
      intro mem9 a1 u1 R1 E1 S1 A1 B1 n1 to1 la k9 ls H locs hmeas108 hz101 hz102 hz103 hz104 hz105 hz106 hP hD hS hl
      obtain ⟨g1, eg1⟩ : ∃ z, z = gapF T Z a1 := ⟨_, rfl⟩
      rw [← eg1] at hz101
      have hge1 : a1 ≤ g1 := by rw [eg1]; exact gapF_ge T Z _
      have hbd8 := hz102
      have hle1 : g1 ≤ Z := by rw [eg1]; exact gapF_le T (by omega)
      have hal := hz103
      have hbdE := hz101.1.1.1
      have hla := hal.2.2.2.2.2.2.2.2.2.2
      have hSa1 := hal.2.2.2.1.2.1
      have hlka := ali_lka hal hLK hE9 hcl
      obtain ⟨ft109, h9_110⟩ := hz101.2.1
      have h1_111 : mem9 1 = .inr (0, [.ref (ad 2), .int (nI Z)]) := (hz101.1.2.2 1 (by omega)).trans hT.1
      have h2_112 : mem9 2 = .inl (cy 0, 240, .inl f) := (hz101.1.2.2 2 (by omega)).trans hT.2.2
      have h5_113 := hz101.1.1.2.1
      have hbd119 := hz101.1.1.1
      obtain ⟨S114, g115, hS_116, h220_117, h221_118⟩ := hz101.1.1.2.2.2.2.2.2
      refine lv_iload Bx.1 Bx.2.1 d_Rd_readAlternatives_20 (lv_at hl 0 rfl) ?_
      refine lv_sipush (v := 240) Bx.1 Bx.2.1 d_Rd_readAlternatives_22 (by decide) ?_
      refine lv_icmp_ge Bx.1 Bx.2.1 d_Rd_readAlternatives_25 rfl (fun hb120 => ?_) (fun hb120 => ?_)
      · have hN121 : 240 ≤ k9 := (nI_leI (by omega) (by omega)).mp (show nI (240) ≤ nI (k9) from hb120)
        exact absurd hbd8 (by omega)
      · have hN122 : ¬ 240 ≤ k9 := fun q9 => hb120 (show nI (240) ≤ nI (k9) from (nI_leI (by omega) (by omega)).mpr q9)
        refine lv_aload_n Bx.1 Bx.2.1 d_Rd_readAlternatives_28 rfl (lv_at hl 3 rfl) ?_
        refine f_callVi (na := 0) (As := []) (rest := []) Bx hml E hP hD hS (by omega) h9_110 rfl (m_Rd_peekX l hn hT hf hz101 (by omega)) kw_353 kw_355 sel_Rd_peek kw_6 kw_356 (by decide +kernel) ⟨rfl, rfl⟩ ⟨Nat.le_of_ble_eq_true rfl, Nat.le_of_ble_eq_true rfl⟩ rfl hl.1 (Nat.le_of_ble_eq_true rfl) d_Rd_readAlternatives_29 ⟨Nat.le_of_ble_eq_true rfl, Nat.le_of_ble_eq_true rfl⟩ (fun r124 mem125 H locs hq hP hS => ?_)
        have hD : va_D (Az sz) (fw n ad mem125) := fw_D hD
        obtain ⟨hqe, hpk123⟩ := hq
        rw [hqe] at hP hD
        subst hpk123
        refine lv_bipush (v := 47) Bx.1 Bx.2.1 d_Rd_readAlternatives_32 (by decide) ?_
        refine lv_icmp_ne Bx.1 Bx.2.1 d_Rd_readAlternatives_34 rfl (fun hb127 => ?_) (fun hb127 => ?_)
        · refine lv_aload_n Bx.1 Bx.2.1 d_Rd_readAlternatives_72 rfl (lv_at hl 2 rfl) ?_
          exact x_aret hx hb hlocks hr (⟨la, a1, u1, R1, E1, S1, A1, B1, n1, to1, rfl, by omega, by omega, by omega, by omega, hz104, hz106, by rw [← eg1]; exact hz101, hal, hbg, hE9, by rw [← eg1]; exact hb127, hz105⟩) hP hS d_Rd_readAlternatives_73
        · have hlt128 := hereF_lt (by rw [hb127]; decide)
          have h47 : hereF Z T (gapF T Z a1) = 47 := by rw [← eg1]; exact hb127
          have h237 : A1 237 6 = nI cq := hal.2.2.2.2.2.2.2.2.1.2.2.1.trans hc
          have h239 : A1 239 6 = -1 := hal.2.2.2.2.2.2.2.2.1.2.2.2
          refine lv_aload_n Bx.1 Bx.2.1 d_Rd_readAlternatives_37 rfl (lv_at hl 3 rfl) ?_
          refine lv_dup Bx.1 Bx.2.1 d_Rd_readAlternatives_38 rfl ?_
          refine f_get Bx hP (by omega) h9_110 rfl inRd 2 (by decide) kw_146 rfl rfl d_Rd_readAlternatives_39 ?_
          refine lv_iconst (v := 1) Bx.1 Bx.2.1 d_Rd_readAlternatives_42 (by decide) ?_
          refine lv_iadd Bx.1 Bx.2.1 d_Rd_readAlternatives_43 ?_
          rw [show nI g1 + 1 = nI (g1 + 1) from nI_add (g1) (1)]
          refine f_put Bx hP hD hS (by omega) h9_110 rfl inRd tyRd okRd nmRd 2 (by decide) kw_146 rfl rfl rfl rfl (Nat.le_of_ble_eq_true rfl) d_Rd_readAlternatives_44 (fun H locs hP hS => ?_)
          obtain ⟨mem129, e_mem129⟩ : ∃ z, z = va_up mem9 (222) (.inr (4, [.ref (ad 1), .ref (ad 5), .int (nI (g1 + 1)), .int (ft109)])) := ⟨_, rfl⟩
          have hP : va_P D vcl (fw n ad mem129) H := by rw [e_mem129]; exact hP
          have hD : va_D (Az sz) (fw n ad mem129) := fw_D hD
          have h_mem129 : mem129 (222) = .inr (4, [.ref (ad 1), .ref (ad 5), .int (nI (g1 + 1)), .int (ft109)]) := by rw [e_mem129, va_up_self]
          have hh130 := (va_up_ne mem9 (.inr (4, [.ref (ad 1), .ref (ad 5), .int (nI (g1 + 1)), .int (ft109)])) (show (1 : Nat) ≠ 222 by first | decide | assumption | omega)).trans h1_111
          rw [← e_mem129] at hh130
          have hh131 := (va_up_ne mem9 (.inr (4, [.ref (ad 1), .ref (ad 5), .int (nI (g1 + 1)), .int (ft109)])) (show (5 : Nat) ≠ 222 by first | decide | assumption | omega)).trans h5_113
          rw [← e_mem129] at hh131
          have hh132 := (va_up_ne mem9 (.inr (4, [.ref (ad 1), .ref (ad 5), .int (nI (g1 + 1)), .int (ft109)])) (show (220 : Nat) ≠ 222 by first | decide | assumption | omega)).trans h220_117
          rw [← e_mem129] at hh132
          have hrk133 : ∀ i9, i9 < R → mem129 (7 + i9) = mem (7 + i9) := fun i9 q9 => (show mem129 (7 + i9) = mem9 (7 + i9) by rw [e_mem129]; exact va_up_ne _ _ (by omega)).trans (hz106 i9 q9)
          have her134 : ER ad (R1) (E1) (B1) mem129 := hal.2.1.fr (Nat.le_refl _) (fun i9 hi9 => by rw [e_mem129]; exact va_up_ne _ _ (by omega))
          have hsr135 : SR cy ad (S1) (B1) mem129 := ⟨(show mem129 220 = _ from by rw [e_mem129]; exact va_up_ne _ _ (by omega)).trans hal.2.2.1.1, (show mem129 221 = _ from by rw [e_mem129]; exact va_up_ne _ _ (by omega)).trans hal.2.2.1.2⟩
          have hRX136 : RX cy ad lim (g1 + 1) (R1) (E1) (to1) (n1) m0 mem129 := by rw [e_mem129]; exact hz101.at
          refine lv_aload_n Bx.1 Bx.2.1 d_Rd_readAlternatives_47 rfl (lv_at hl 3 rfl) ?_
          refine f_callVi (na := 0) (As := []) (rest := []) Bx hml E hP hD hS (by omega) h_mem129 rfl (m_Rd_readGapY l hn hT hf hRX136 (by omega) (by omega)) kw_397 kw_399 sel_Rd_readGap kw_6 kw_400 (by decide +kernel) ⟨rfl, rfl⟩ ⟨Nat.le_of_ble_eq_true rfl, Nat.le_of_ble_eq_true rfl⟩ rfl hl.1 (Nat.le_of_ble_eq_true rfl) d_Rd_readAlternatives_48 ⟨Nat.le_of_ble_eq_true rfl, Nat.le_of_ble_eq_true rfl⟩ (fun r137 mem138 H locs hq hP hS => ?_)
          have hD : va_D (Az sz) (fw n ad mem138) := fw_D hD
          obtain ⟨g139, eg140⟩ : ∃ z, z = gapF T Z (g1 + 1) := ⟨_, rfl⟩
          rw [← eg140] at hq
          obtain ⟨hRX141, hgc142, hfa143⟩ := hq
          have hg144 : g1 + 1 ≤ g139 := by rw [eg140]; exact gapF_ge T Z _
          have hg145 : g139 ≤ Z := by rw [eg140]; exact gapF_le T (by omega)
          have hrk146 : ∀ i9, i9 < R → mem138 (7 + i9) = mem (7 + i9) := fun i9 q9 => (hfa143 (7 + i9) (by omega)).trans (hrk133 i9 q9)
          obtain ⟨ft147, h9_148⟩ := hRX141.2.1
          have h1_149 : mem138 1 = .inr (0, [.ref (ad 2), .int (nI Z)]) := (hRX141.1.2.2 1 (by omega)).trans hT.1
          have h2_150 : mem138 2 = .inl (cy 0, 240, .inl f) := (hRX141.1.2.2 2 (by omega)).trans hT.2.2
          have h5_151 := hRX141.1.1.2.1
          have hbd157 := hRX141.1.1.1
          obtain ⟨S152, g153, hS_154, h220_155, h221_156⟩ := hRX141.1.1.2.2.2.2.2.2
          have her158 : ER ad (R1) (E1) (B1) mem138 := her134.fr (Nat.le_refl _) (fun i9 hi9 => hfa143 _ (by omega))
          have hsr159 : SR cy ad (S1) (B1) mem138 := ⟨(show mem138 220 = _ from hfa143 _ (by omega)).trans hsr135.1, (show mem138 221 = _ from hfa143 _ (by omega)).trans hsr135.2⟩
          refine lv_pop Bx.1 Bx.2.1 d_Rd_readAlternatives_51 rfl ?_
          refine lv_aload_n Bx.1 Bx.2.1 d_Rd_readAlternatives_52 rfl (lv_at hl 1 rfl) ?_
          refine lv_aload_n Bx.1 Bx.2.1 d_Rd_readAlternatives_53 rfl (lv_at hl 3 rfl) ?_
          refine lv_iload_n Bx.1 Bx.2.1 d_Rd_readAlternatives_54 rfl (lv_at hl 4 rfl) ?_
          refine f_xVr (na := 1) (As := [.int (6)]) (rest := [.ref (ad (20 + 2 * la))]) Bx hml E hP hD hS (by omega) h9_148 rfl (m_Rd_readSequence_6Y l hlt hn hT hf hRX141 (by omega) (u := u1) (A := A1) her158 hsr159 (by omega) (by omega) hlka h237 (by omega) h239) kw_435 kw_437 sel_Rd_readSequence kw_6 kw_438 (by decide +kernel) ⟨rfl, rfl⟩ ⟨Nat.le_of_ble_eq_true rfl, Nat.le_of_ble_eq_true rfl⟩ rfl hl.1 (Nat.le_of_ble_eq_true rfl) d_Rd_readAlternatives_55 ⟨Nat.le_of_ble_eq_true rfl, Nat.le_of_ble_eq_true rfl⟩ (fun X ce q9 memx H locs hx9 hP hS g1 g2 g3 => f_out hlocks hno hP hS g1 g2 g3 ⟨Nat.le_of_ble_eq_true rfl, Nat.le_of_ble_eq_true rfl⟩ ⟨hx9.1, Or.inr (Or.inr ⟨hbg, hE9, hal.1.fai (go_sl h47) (by rw [← eg1, ← eg140]; exact hx9.2)⟩)⟩) (fun r160 mem161 H locs hq hP hS => ?_)
          have hD : va_D (Az sz) (fw n ad mem161) := fw_D hD
          obtain ⟨ax162, ux163, Rx164, Ex165, Sx166, Ax167, Bx_168, nx169, tox170, hr9171, h2172, h3173, h4174, h5175, htk176, hrk177, hRX178, rds179, hnb180⟩ := hq
          subst hr9171
          have hrk181 : ∀ i9, i9 < R → mem161 (7 + i9) = mem (7 + i9) := fun i9 q9 => (hrk177 i9 (by omega)).trans (hrk146 i9 q9)
          obtain ⟨g182, eg183⟩ : ∃ z, z = gapF T Z ax162 := ⟨_, rfl⟩
          have hg184 : ax162 ≤ g182 := by rw [eg183]; exact gapF_ge T Z _
          have hg185 : g182 ≤ Z := by rw [eg183]; exact gapF_le T (by omega)
          rw [← eg183] at hRX178
          obtain ⟨ft186, h9_187⟩ := hRX178.2.1
          have h1_188 : mem161 1 = .inr (0, [.ref (ad 2), .int (nI Z)]) := (hRX178.1.2.2 1 (by omega)).trans hT.1
          have h2_189 : mem161 2 = .inl (cy 0, 240, .inl f) := (hRX178.1.2.2 2 (by omega)).trans hT.2.2
          have h5_190 := hRX178.1.1.2.1
          have hbd196 := hRX178.1.1.1
          obtain ⟨S191, g192, hS_193, h220_194, h221_195⟩ := hRX178.1.1.2.2.2.2.2.2
          have hbd197 := hRX178.1.1.1
          have hce198 := (rds179.2.1 la (by omega)).1
          refine f_putN Bx hP hD hS (by omega) hce198 rfl inEl tyEl okEl nmEl 5 (by decide) kw_91 rfl rfl rfl rfl (Nat.le_of_ble_eq_true rfl) d_Rd_readAlternatives_58 (fun H locs hP hS => ?_)
          obtain ⟨mem199, e_mem199⟩ : ∃ z, z = va_up mem161 ((20 + 2 * la)) (.inr (2, [.int (Bx_168 228 la), .int (Bx_168 229 la), .int (Bx_168 230 la), vR ad (Bx_168 231 la), vE ad (Bx_168 232 la), .ref (ad (20 + 2 * E1)), .ref (ad (21 + 2 * la))])) := ⟨_, rfl⟩
          have hP : va_P D vcl (fw n ad mem199) H := by rw [e_mem199]; exact hP
          have hD : va_D (Az sz) (fw n ad mem199) := fw_D hD
          have h_mem199 : mem199 ((20 + 2 * la)) = .inr (2, [.int (Bx_168 228 la), .int (Bx_168 229 la), .int (Bx_168 230 la), vR ad (Bx_168 231 la), vE ad (Bx_168 232 la), .ref (ad (20 + 2 * E1)), .ref (ad (21 + 2 * la))]) := by rw [e_mem199, va_up_self]
          have hh200 := (va_up_ne mem161 (.inr (2, [.int (Bx_168 228 la), .int (Bx_168 229 la), .int (Bx_168 230 la), vR ad (Bx_168 231 la), vE ad (Bx_168 232 la), .ref (ad (20 + 2 * E1)), .ref (ad (21 + 2 * la))])) (show (222 : Nat) ≠ (20 + 2 * la) by first | decide | assumption | omega)).trans h9_187
          rw [← e_mem199] at hh200
          have hh201 := (va_up_ne mem161 (.inr (2, [.int (Bx_168 228 la), .int (Bx_168 229 la), .int (Bx_168 230 la), vR ad (Bx_168 231 la), vE ad (Bx_168 232 la), .ref (ad (20 + 2 * E1)), .ref (ad (21 + 2 * la))])) (show (1 : Nat) ≠ (20 + 2 * la) by first | decide | assumption | omega)).trans h1_188
          rw [← e_mem199] at hh201
          have hh202 := (va_up_ne mem161 (.inr (2, [.int (Bx_168 228 la), .int (Bx_168 229 la), .int (Bx_168 230 la), vR ad (Bx_168 231 la), vE ad (Bx_168 232 la), .ref (ad (20 + 2 * E1)), .ref (ad (21 + 2 * la))])) (show (5 : Nat) ≠ (20 + 2 * la) by first | decide | assumption | omega)).trans h5_190
          rw [← e_mem199] at hh202
          have hh203 := (va_up_ne mem161 (.inr (2, [.int (Bx_168 228 la), .int (Bx_168 229 la), .int (Bx_168 230 la), vR ad (Bx_168 231 la), vE ad (Bx_168 232 la), .ref (ad (20 + 2 * E1)), .ref (ad (21 + 2 * la))])) (show (220 : Nat) ≠ (20 + 2 * la) by first | decide | assumption | omega)).trans h220_194
          rw [← e_mem199] at hh203
          have hrk204 : ∀ i9, i9 < R → mem199 (7 + i9) = mem (7 + i9) := fun i9 q9 => (show mem199 (7 + i9) = mem161 (7 + i9) by rw [e_mem199]; exact va_up_ne _ _ (by omega)).trans (hrk181 i9 q9)
          have hRX205 : RX cy ad lim (g182) (Rx164) (Ex165) (tox170) (nx169) m0 mem199 := by rw [e_mem199]; exact hRX178.el (by omega) (hRX178.1.mk (by omega) (hRX178.1.1.upEl (by omega) (fun _ => ⟨(rds179.2.1 la (by omega)).2.1.oR ad, (rds179.2.1 la (by omega)).2.2.1.oE ad (by omega), Or.inr ⟨E1, by omega, by omega, rfl⟩⟩)))
          have her206 : ER ad (Rx164) (Ex165) (va_up Bx_168 233 (upd (Bx_168 233) la (nI E1))) mem199 := rds179.2.1.next (by omega) (by omega) (by omega) h_mem199 (fun i9 q9 hi9 => by rw [e_mem199]; exact va_up_ne _ _ (by omega))
          have hsr207 : SR cy ad (Sx166) (Bx_168) mem199 := ⟨(show mem199 220 = mem161 220 by rw [e_mem199]; exact va_up_ne _ _ (by omega)).trans rds179.2.2.1.1, (show mem199 221 = mem161 221 by rw [e_mem199]; exact va_up_ne _ _ (by omega)).trans rds179.2.2.1.2⟩
          obtain ⟨ft208, h9_209⟩ := hRX205.2.1
          have h1_210 : mem199 1 = .inr (0, [.ref (ad 2), .int (nI Z)]) := (hRX205.1.2.2 1 (by omega)).trans hT.1
          have h2_211 : mem199 2 = .inl (cy 0, 240, .inl f) := (hRX205.1.2.2 2 (by omega)).trans hT.2.2
          have h5_212 := hRX205.1.1.2.1
          have hbd218 := hRX205.1.1.1
          obtain ⟨S213, g214, hS_215, h220_216, h221_217⟩ := hRX205.1.1.2.2.2.2.2.2
          refine lv_aload_n Bx.1 Bx.2.1 d_Rd_readAlternatives_61 rfl (lv_at hl 1 rfl) ?_
          refine f_getN Bx hP (by omega) h_mem199 rfl inEl 5 (by decide) kw_91 rfl rfl d_Rd_readAlternatives_62 ?_
          refine lv_astore_n (lv' := [(3, .ref (ad (20 + 2 * E1))), (4, .int (nI k9)), (2, .ref (ad (20 + 2 * Ec))), (0, .ref (ad 222)), (1, .int (6))]) Bx.1 Bx.2.1 d_Rd_readAlternatives_65 rfl hl (by decide) rfl (fun ls hl => ?_)
          refine lv_iinc (lv' := [(4, .int ((nI k9 + (1)))), (3, .ref (ad (20 + 2 * E1))), (2, .ref (ad (20 + 2 * Ec))), (0, .ref (ad 222)), (1, .int (6))]) Bx.1 Bx.2.1 d_Rd_readAlternatives_66 hl (k := 1) rfl rfl (by decide) rfl (fun ls hl => ?_)
          rw [show (nI k9 + (1) : Int32) = nI (k9 + 1) from nI_1 (k9)] at hl
          refine lv_goto Bx.1 Bx.2.1 d_Rd_readAlternatives_69 rfl ?_
          have hal3 := alt_step hal (by omega) hLK hlka (by omega) hcl rds179 (by omega) (by omega) (by rw [eg140, eg1]; exact go_sl h47) her206 hsr207
          exact ih107 mem199 (ax162) (ux163) (Rx164) (Ex165) (Sx166) (Ax167) ((va_up Bx_168 233 (upd (Bx_168 233) la (nI E1)))) (nx169) (tox170) (E1) (k9 + 1) _ _ _ (by have := hmeas108; omega) (by rw [← eg183]; exact hRX205) (⟨by omega, by omega, by omega, by omega, by omega⟩) (hal3) (hz104.trans htk176 (by omega)) (hnb180) (hrk204) hP hD hS (lv_sub hl [0, 1, 2, 3, 4] rfl)
  exact loop99 _ mem79 (ax42) (ux43) (Rx44) (Ex45) (Sx46) (Ax47) ((va_up Bx_48 232 (upd (Bx_48 232) Ec (nI (Ec + 1))))) (nx49) (tox50) (Ec + 1) (0) _ _ _ (Nat.lt_succ_self _) (by rw [← eg63]; exact hRX85) (⟨by omega, by omega, by omega, by omega, by omega⟩) (hal0) (htk56) (hnb60) (hrk84) hP hD hS (lv_sub hl [0, 1, 2, 3, 4] rfl)
set_option maxHeartbeats 4000000 in
set_option maxRecDepth 100000 in
theorem m_Rd_readBracket_5Y (l : Launch) {D : va_G} {cy : Nat → ClassId} {sz n : Nat} {ad : Nat → Nat} {mem : Nat → va_E} {Z a R Ec lim : Nat} {f T : Nat → Int32} {to : Nat → Int32} {nm : Nat → Int64} {m0 : Nat → va_E} {u S : Nat} {A Bw : Ro} {what oe en : Int32} (hlt : l.stackTraces = false) (hn : 224 ≤ n) (hT : TX cy ad Z f m0) (hf : ∀ k, k < Z → f k = T k) (hRX : RX cy ad lim a R Ec to nm m0 mem) (haB : a ≤ 300) (hER : ER ad R Ec Bw mem) (hSR : SR cy ad S Bw mem) (hSa : S ≤ a) (haZ : a < Z) (hwe : (what = 1 ∧ en = 41) ∨ (what = 2 ∧ en = 93)) (hLK : LKa Ec A) : NXr l D cy sz n ad y_Rd_readBracket c_Rd_readBracket 4 (some (.object "AbnfChart$Element")) ({ frames := 20, cells := 1, slots := 6, locals := 470 } : Room) mem [.ref (ad 222), .int (5), .int (en)] (fun r mem' => ∃ (la a1 u1 R1 E1 S1 : Nat) (A9 B9 : Ro) (nm1 : Nat → Int64) (to1 : Nat → Int32), r = ad (20 + 2 * Ec) ∧ Ec + 1 < E1 ∧ R ≤ R1 ∧ a + 1 < a1 ∧ gapF T Z a1 + 1 ≤ Z ∧ TOK R R1 to to1 ∧ (∀ i9, i9 < R → mem' (7 + i9) = mem (7 + i9)) ∧ RX cy ad lim (gapF T Z a1 + 1) R1 E1 to1 nm1 m0 mem' ∧ ALI cy ad T Z 6 (seqS T Z (gapF T Z (a + 1)) u R (Ec + 1) 6 (entA A 6 Ec what oe) nm) Ec R Ec S u (entA A 6 Ec what oe) Bw la a1 u1 R1 E1 S1 A9 B9 nm1 mem' ∧ hereF Z T (gapF T Z a1) = en ∧ entS T Z (a + 1) u R Ec 6 A nm what oe = some (gapF T Z (a + 1), u, R, Ec + 1, 6, (entA A 6 Ec what oe), nm, true)) (fun X mem' => ((X = cIA ∨ X = cIS) ∧ ∃ rc' ec' : Nat, RS cy ad lim rc' ec' m0 mem') ∧ (Fai T Z (entS T Z (a + 1) u R Ec 6 A nm what oe))) := by
  refine vx_ofW (cc := c_Rd_readBracket) (maxL := 4) (ret := (some (.object "AbnfChart$Element"))) (by decide) rfl ?_
  intro p e s m args below meth c s₁ B hml hno hv
  obtain ⟨rfl, E, hP, hD⟩ := hv
  have hx := B.exec
  have hb := B.bytes
  have hr := B.returns
  have hlocks := B.notSynchronized
  have Bx : MB p s m [.ref (ad 222), .int (5), .int (en)].toArray c c_Rd_readBracket "AbnfChart$Reader" D cy := ⟨hx, hb, tb_all (atoms_spec B.pre) E.2.1, findClass_of_methodNamed B.named, E.1⟩
  have hS : va_S (Az sz) s.heap s.heap [] := va_S.rf
  have hl := lv_entry ([.ref (ad 222), .int (5), .int (en)]) (n := 4) (Nat.le_of_ble_eq_true rfl)
  rw [lg_entry_eq]
  generalize (lg_sl ([.ref (ad 222), .int (5), .int (en)]) ++ List.replicate (4 - (lg_sl ([.ref (ad 222), .int (5), .int (en)])).length) Slot.unset).toArray = ls at hl ⊢
  have hl : lv_has ls 4 [(0, .ref (ad 222)), (1, .int (5)), (2, .int (en))] := hl
  have hZ9 := hT.2.1
  have hbd9 := hRX.1.1.1
  have hfr0 : ∀ i, 7 ≤ i ∧ i < 222 → mem i = mem i := fun _ _ => rfl
  have hrk0 : ∀ i9, i9 < R → mem (7 + i9) = mem (7 + i9) := fun _ _ => rfl
  obtain ⟨ft1, h9_2⟩ := hRX.2.1
  have h1_3 : mem 1 = .inr (0, [.ref (ad 2), .int (nI Z)]) := (hRX.1.2.2 1 (by omega)).trans hT.1
  have h2_4 : mem 2 = .inl (cy 0, 240, .inl f) := (hRX.1.2.2 2 (by omega)).trans hT.2.2
  have h5_5 := hRX.1.1.2.1
  have hbd11 := hRX.1.1.1
  obtain ⟨S6, g7, hS_8, h220_9, h221_10⟩ := hRX.1.1.2.2.2.2.2.2
  refine lv_aload_n Bx.1 Bx.2.1 d_Rd_readBracket_0 rfl (lv_at hl 0 rfl) ?_
  refine lv_iload_n Bx.1 Bx.2.1 d_Rd_readBracket_1 rfl (lv_at hl 1 rfl) ?_
  refine lv_bipush (v := 6) Bx.1 Bx.2.1 d_Rd_readBracket_2 (by decide) ?_
  refine lv_icmp_ge Bx.1 Bx.2.1 d_Rd_readBracket_4 rfl (fun hb12 => ?_) (fun hb12 => ?_)
  · exact absurd hb12 (by decide)
  · refine lv_iconst (v := 1) Bx.1 Bx.2.1 d_Rd_readBracket_7 (by decide) ?_
    refine lv_goto Bx.1 Bx.2.1 d_Rd_readBracket_8 rfl ?_
    refine lv_aload_n Bx.1 Bx.2.1 d_Rd_readBracket_12 rfl (lv_at hl 0 rfl) ?_
    refine f_get Bx hP (by omega) h9_2 rfl inRd 2 (by decide) kw_146 rfl rfl d_Rd_readBracket_13 ?_
    refine f_xVv (na := 2) (As := [.int (1), .int (nI a)]) (rest := []) Bx hml E hP hD hS (by omega) h9_2 rfl (m_Rd_needRoomX l hlt hn hT hf hRX (by omega)) kw_383 kw_385 sel_Rd_needRoom kw_6 kw_386 (by decide +kernel) ⟨rfl, rfl⟩ ⟨Nat.le_of_ble_eq_true rfl, Nat.le_of_ble_eq_true rfl⟩ rfl hl.1 (Nat.le_of_ble_eq_true rfl) d_Rd_readBracket_16 ⟨Nat.le_of_ble_eq_true rfl, Nat.le_of_ble_eq_true rfl⟩ (fun X ce q9 memx H locs hx9 hP hS g1 g2 g3 => f_out hlocks hno hP hS g1 g2 g3 ⟨Nat.le_of_ble_eq_true rfl, Nat.le_of_ble_eq_true rfl⟩ ⟨hx9.1, absurd hx9.2 (by decide)⟩) (fun mem14 H locs hq hP hS => ?_)
    have hD : va_D (Az sz) (fw n ad mem14) := fw_D hD
    obtain ⟨hqe, hg15⟩ := hq
    rw [hqe] at hP hD
    refine lv_aload_n Bx.1 Bx.2.1 d_Rd_readBracket_19 rfl (lv_at hl 0 rfl) ?_
    refine lv_dup Bx.1 Bx.2.1 d_Rd_readBracket_20 rfl ?_
    refine f_get Bx hP (by omega) h9_2 rfl inRd 2 (by decide) kw_146 rfl rfl d_Rd_readBracket_21 ?_
    refine lv_iconst (v := 1) Bx.1 Bx.2.1 d_Rd_readBracket_24 (by decide) ?_
    refine lv_iadd Bx.1 Bx.2.1 d_Rd_readBracket_25 ?_
    rw [show nI a + 1 = nI (a + 1) from nI_add (a) (1)]
    refine f_put Bx hP hD hS (by omega) h9_2 rfl inRd tyRd okRd nmRd 2 (by decide) kw_146 rfl rfl rfl rfl (Nat.le_of_ble_eq_true rfl) d_Rd_readBracket_26 (fun H locs hP hS => ?_)
    obtain ⟨mem16, e_mem16⟩ : ∃ z, z = va_up mem (222) (.inr (4, [.ref (ad 1), .ref (ad 5), .int (nI (a + 1)), .int (ft1)])) := ⟨_, rfl⟩
    have hP : va_P D vcl (fw n ad mem16) H := by rw [e_mem16]; exact hP
    have hD : va_D (Az sz) (fw n ad mem16) := fw_D hD
    have h_mem16 : mem16 (222) = .inr (4, [.ref (ad 1), .ref (ad 5), .int (nI (a + 1)), .int (ft1)]) := by rw [e_mem16, va_up_self]
    have hh17 := (va_up_ne mem (.inr (4, [.ref (ad 1), .ref (ad 5), .int (nI (a + 1)), .int (ft1)])) (show (1 : Nat) ≠ 222 by first | decide | assumption | omega)).trans h1_3
    rw [← e_mem16] at hh17
    have hh18 := (va_up_ne mem (.inr (4, [.ref (ad 1), .ref (ad 5), .int (nI (a + 1)), .int (ft1)])) (show (5 : Nat) ≠ 222 by first | decide | assumption | omega)).trans h5_5
    rw [← e_mem16] at hh18
    have hh19 := (va_up_ne mem (.inr (4, [.ref (ad 1), .ref (ad 5), .int (nI (a + 1)), .int (ft1)])) (show (220 : Nat) ≠ 222 by first | decide | assumption | omega)).trans h220_9
    rw [← e_mem16] at hh19
    have hfr20 : ∀ i, 7 ≤ i ∧ i < 222 → mem16 i = mem i := fun i q => (show mem16 i = mem i by rw [e_mem16]; exact va_up_ne _ _ (by omega)).trans (hfr0 i q)
    have hrk21 : ∀ i9, i9 < R → mem16 (7 + i9) = mem (7 + i9) := fun i9 q9 => (show mem16 (7 + i9) = mem (7 + i9) by rw [e_mem16]; exact va_up_ne _ _ (by omega)).trans (hrk0 i9 q9)
    have hRX22 : RX cy ad lim (a + 1) (R) (Ec) (to) (nm) m0 mem16 := by rw [e_mem16]; exact hRX.at
    refine lv_aload_n Bx.1 Bx.2.1 d_Rd_readBracket_29 rfl (lv_at hl 0 rfl) ?_
    refine f_callVi (na := 0) (As := []) (rest := []) Bx hml E hP hD hS (by omega) h_mem16 rfl (m_Rd_readGapY l hn hT hf hRX22 (by omega) (by omega)) kw_397 kw_399 sel_Rd_readGap kw_6 kw_400 (by decide +kernel) ⟨rfl, rfl⟩ ⟨Nat.le_of_ble_eq_true rfl, Nat.le_of_ble_eq_true rfl⟩ rfl hl.1 (Nat.le_of_ble_eq_true rfl) d_Rd_readBracket_30 ⟨Nat.le_of_ble_eq_true rfl, Nat.le_of_ble_eq_true rfl⟩ (fun r23 mem24 H locs hq hP hS => ?_)
    have hD : va_D (Az sz) (fw n ad mem24) := fw_D hD
    obtain ⟨g25, eg26⟩ : ∃ z, z = gapF T Z (a + 1) := ⟨_, rfl⟩
    rw [← eg26] at hq
    obtain ⟨hRX27, hgc28, hfa29⟩ := hq
    have hg30 : a + 1 ≤ g25 := by rw [eg26]; exact gapF_ge T Z _
    have hg31 : g25 ≤ Z := by rw [eg26]; exact gapF_le T (by omega)
    have hrk32 : ∀ i9, i9 < R → mem24 (7 + i9) = mem (7 + i9) := fun i9 q9 => (hfa29 (7 + i9) (by omega)).trans (hrk21 i9 q9)
    have hfr33 : ∀ i, 7 ≤ i ∧ i < 222 → mem24 i = mem i := fun i q => (hfa29 i (by omega)).trans (hfr20 i q)
    obtain ⟨ft34, h9_35⟩ := hRX27.2.1
    have h1_36 : mem24 1 = .inr (0, [.ref (ad 2), .int (nI Z)]) := (hRX27.1.2.2 1 (by omega)).trans hT.1
    have h2_37 : mem24 2 = .inl (cy 0, 240, .inl f) := (hRX27.1.2.2 2 (by omega)).trans hT.2.2
    have h5_38 := hRX27.1.1.2.1
    have hbd44 := hRX27.1.1.1
    obtain ⟨S39, g40, hS_41, h220_42, h221_43⟩ := hRX27.1.1.2.2.2.2.2.2
    refine lv_pop Bx.1 Bx.2.1 d_Rd_readBracket_33 rfl ?_
    refine lv_aload_n Bx.1 Bx.2.1 d_Rd_readBracket_34 rfl (lv_at hl 0 rfl) ?_
    refine lv_iload_n Bx.1 Bx.2.1 d_Rd_readBracket_35 rfl (lv_at hl 1 rfl) ?_
    refine lv_iconst (v := 1) Bx.1 Bx.2.1 d_Rd_readBracket_36 (by decide) ?_
    refine lv_iadd Bx.1 Bx.2.1 d_Rd_readBracket_37 ?_
    rw [show (5 + 1 : Int32) = 6 from rfl]
    have her45 : ER ad R Ec Bw mem24 := hER.fr (Nat.le_refl _) (fun i9 hi9 => hfr33 (20 + 2 * i9) (by omega))
    have hsr46 : SR cy ad S Bw mem24 := ⟨(hfr33 220 (by omega)).trans hSR.1, (hfr33 221 (by omega)).trans hSR.2⟩
    refine f_xVr (na := 1) (As := [.int (6)]) (rest := []) Bx hml E hP hD hS (by omega) h9_35 rfl (m_Rd_readAlternatives_6Y l hlt hn hT hf hRX27 (by omega) (u := u) (A := (entA A 6 Ec what oe)) her45 hsr46 (by omega) (by omega) (ent_lka hLK) (cq := Ec) entA_f.2.2.2.2.2.2.2.1 (Nat.le_refl _) (by rw [entA_f.2.2.2.2.2.2.1, upd_self])) kw_405 kw_407 sel_Rd_readAlternatives kw_6 kw_408 (by decide +kernel) ⟨rfl, rfl⟩ ⟨Nat.le_of_ble_eq_true rfl, Nat.le_of_ble_eq_true rfl⟩ rfl hl.1 (Nat.le_of_ble_eq_true rfl) d_Rd_readBracket_38 ⟨Nat.le_of_ble_eq_true rfl, Nat.le_of_ble_eq_true rfl⟩ (fun X ce q9 memx H locs hx9 hP hS g1 g2 g3 => f_out hlocks hno hP hS g1 g2 g3 ⟨Nat.le_of_ble_eq_true rfl, Nat.le_of_ble_eq_true rfl⟩ ⟨hx9.1, hx9.2.elim (fun z => Or.inl (entS_no (Or.inl (by rw [← eg26]; exact z)))) (fun z => z.elim (fun z => Or.inl (entS_no (Or.inr z))) (fun z => Fai.br0 (by rw [ent_ok (by rw [← eg26]; exact z.1) z.2.1, ← eg26]) z.2.2))⟩) (fun r47 mem48 H locs hq hP hS => ?_)
    have hD : va_D (Az sz) (fw n ad mem48) := fw_D hD
    obtain ⟨la49, ax50, ux51, Rx52, Ex53, Sx54, Ax55, Bx_56, nx57, tox58, hr959, h160, h261, h362, h463, htk64, hrk65, hRX66, ali67, hbg68, hE69, h4770, hnb71⟩ := hq
    subst hr959
    have hrk72 : ∀ i9, i9 < R → mem48 (7 + i9) = mem (7 + i9) := fun i9 q9 => (hrk65 i9 (by omega)).trans (hrk32 i9 q9)
    obtain ⟨g73, eg74⟩ : ∃ z, z = gapF T Z ax50 := ⟨_, rfl⟩
    have hg75 : ax50 ≤ g73 := by rw [eg74]; exact gapF_ge T Z _
    have hg76 : g73 ≤ Z := by rw [eg74]; exact gapF_le T (by omega)
    rw [← eg74] at hRX66
    obtain ⟨ft77, h9_78⟩ := hRX66.2.1
    have h1_79 : mem48 1 = .inr (0, [.ref (ad 2), .int (nI Z)]) := (hRX66.1.2.2 1 (by omega)).trans hT.1
    have h2_80 : mem48 2 = .inl (cy 0, 240, .inl f) := (hRX66.1.2.2 2 (by omega)).trans hT.2.2
    have h5_81 := hRX66.1.1.2.1
    have hbd87 := hRX66.1.1.1
    obtain ⟨S82, g83, hS_84, h220_85, h221_86⟩ := hRX66.1.1.2.2.2.2.2.2
    have hbd88 := hRX66.1.1.1
    have hent : entS T Z (a + 1) u R Ec 6 A nm what oe = some (g25, u, R, Ec + 1, 6, (entA A 6 Ec what oe), nm, true) := by rw [ent_ok (by rw [← eg26]; exact hbg68) hE69, ← eg26]
    have hA5 : Ax55 235 6 = what := by
      obtain ⟨c1, ho, hg, hk, hs⟩ := ali67.1
      rw [hk 6 (by omega), entA_5, upd_self]
    refine lv_astore_n (lv' := [(3, .ref (ad (20 + 2 * Ec))), (0, .ref (ad 222)), (1, .int (5)), (2, .int (en))]) Bx.1 Bx.2.1 d_Rd_readBracket_41 rfl hl (by decide) rfl (fun ls hl => ?_)
    refine lv_aload_n Bx.1 Bx.2.1 d_Rd_readBracket_42 rfl (lv_at hl 1 rfl) ?_
    refine lv_aload_n Bx.1 Bx.2.1 d_Rd_readBracket_43 rfl (lv_at hl 1 rfl) ?_
    refine f_callVi (na := 0) (As := []) (rest := [.ref (ad 222)]) Bx hml E hP hD hS (by omega) h9_78 rfl (m_Rd_peekX l hn hT hf hRX66 (by omega)) kw_353 kw_355 sel_Rd_peek kw_6 kw_356 (by decide +kernel) ⟨rfl, rfl⟩ ⟨Nat.le_of_ble_eq_true rfl, Nat.le_of_ble_eq_true rfl⟩ rfl hl.1 (Nat.le_of_ble_eq_true rfl) d_Rd_readBracket_44 ⟨Nat.le_of_ble_eq_true rfl, Nat.le_of_ble_eq_true rfl⟩ (fun r90 mem91 H locs hq hP hS => ?_)
    have hD : va_D (Az sz) (fw n ad mem91) := fw_D hD
    obtain ⟨hqe, hpk89⟩ := hq
    rw [hqe] at hP hD
    subst hpk89
    refine lv_iload_n Bx.1 Bx.2.1 d_Rd_readBracket_47 rfl (lv_at hl 3 rfl) ?_
    refine lv_icmp_ne Bx.1 Bx.2.1 d_Rd_readBracket_48 rfl (fun hb93 => ?_) (fun hb93 => ?_)
    · refine lv_iconst (v := 0) Bx.1 Bx.2.1 d_Rd_readBracket_55 (by decide) ?_
      refine lv_aload_n Bx.1 Bx.2.1 d_Rd_readBracket_56 rfl (lv_at hl 1 rfl) ?_
      refine f_get Bx hP (by omega) h9_78 rfl inRd 2 (by decide) kw_146 rfl rfl d_Rd_readBracket_57 ?_
      refine f_xVv (na := 2) (As := [.int (0), .int (nI g73)]) (rest := []) Bx hml E hP hD hS (by omega) h9_78 rfl (m_Rd_needReadableX l hlt hn hT hf hRX66 (by omega)) kw_360 kw_362 sel_Rd_needReadable kw_6 kw_363 (by decide +kernel) ⟨rfl, rfl⟩ ⟨Nat.le_of_ble_eq_true rfl, Nat.le_of_ble_eq_true rfl⟩ rfl hl.1 (Nat.le_of_ble_eq_true rfl) d_Rd_readBracket_60 ⟨Nat.le_of_ble_eq_true rfl, Nat.le_of_ble_eq_true rfl⟩ (fun X ce q9 memx H locs hx9 hP hS g1 g2 g3 => f_out hlocks hno hP hS g1 g2 g3 ⟨Nat.le_of_ble_eq_true rfl, Nat.le_of_ble_eq_true rfl⟩ ⟨hx9.1, Fai.br1 hent ali67.1.suc (br_no hwe hA5 (by rw [← eg74]; exact hb93) h4770 hnb71)⟩) (fun mem95 H locs hq hP hS => ?_)
      have hD : va_D (Az sz) (fw n ad mem95) := fw_D hD
      obtain ⟨hqe, hg96⟩ := hq
      rw [hqe] at hP hD
      exact absurd rfl hg96
    · refine lv_iconst (v := 1) Bx.1 Bx.2.1 d_Rd_readBracket_51 (by decide) ?_
      refine lv_goto Bx.1 Bx.2.1 d_Rd_readBracket_52 rfl ?_
      refine lv_aload_n Bx.1 Bx.2.1 d_Rd_readBracket_56 rfl (lv_at hl 1 rfl) ?_
      refine f_get Bx hP (by omega) h9_78 rfl inRd 2 (by decide) kw_146 rfl rfl d_Rd_readBracket_57 ?_
      refine f_xVv (na := 2) (As := [.int (1), .int (nI g73)]) (rest := []) Bx hml E hP hD hS (by omega) h9_78 rfl (m_Rd_needReadableX l hlt hn hT hf hRX66 (by omega)) kw_360 kw_362 sel_Rd_needReadable kw_6 kw_363 (by decide +kernel) ⟨rfl, rfl⟩ ⟨Nat.le_of_ble_eq_true rfl, Nat.le_of_ble_eq_true rfl⟩ rfl hl.1 (Nat.le_of_ble_eq_true rfl) d_Rd_readBracket_60 ⟨Nat.le_of_ble_eq_true rfl, Nat.le_of_ble_eq_true rfl⟩ (fun X ce q9 memx H locs hx9 hP hS g1 g2 g3 => f_out hlocks hno hP hS g1 g2 g3 ⟨Nat.le_of_ble_eq_true rfl, Nat.le_of_ble_eq_true rfl⟩ ⟨hx9.1, absurd hx9.2 (by decide)⟩) (fun mem98 H locs hq hP hS => ?_)
      have hD : va_D (Az sz) (fw n ad mem98) := fw_D hD
      obtain ⟨hqe, hg99⟩ := hq
      rw [hqe] at hP hD
      refine lv_aload_n Bx.1 Bx.2.1 d_Rd_readBracket_63 rfl (lv_at hl 1 rfl) ?_
      refine lv_dup Bx.1 Bx.2.1 d_Rd_readBracket_64 rfl ?_
      refine f_get Bx hP (by omega) h9_78 rfl inRd 2 (by decide) kw_146 rfl rfl d_Rd_readBracket_65 ?_
      refine lv_iconst (v := 1) Bx.1 Bx.2.1 d_Rd_readBracket_68 (by decide) ?_
      refine lv_iadd Bx.1 Bx.2.1 d_Rd_readBracket_69 ?_
      rw [show nI g73 + 1 = nI (g73 + 1) from nI_add (g73) (1)]
      refine f_put Bx hP hD hS (by omega) h9_78 rfl inRd tyRd okRd nmRd 2 (by decide) kw_146 rfl rfl rfl rfl (Nat.le_of_ble_eq_true rfl) d_Rd_readBracket_70 (fun H locs hP hS => ?_)
      obtain ⟨mem100, e_mem100⟩ : ∃ z, z = va_up mem48 (222) (.inr (4, [.ref (ad 1), .ref (ad 5), .int (nI (g73 + 1)), .int (ft77)])) := ⟨_, rfl⟩
      have hP : va_P D vcl (fw n ad mem100) H := by rw [e_mem100]; exact hP
      have hD : va_D (Az sz) (fw n ad mem100) := fw_D hD
      have h_mem100 : mem100 (222) = .inr (4, [.ref (ad 1), .ref (ad 5), .int (nI (g73 + 1)), .int (ft77)]) := by rw [e_mem100, va_up_self]
      have hh101 := (va_up_ne mem48 (.inr (4, [.ref (ad 1), .ref (ad 5), .int (nI (g73 + 1)), .int (ft77)])) (show (1 : Nat) ≠ 222 by first | decide | assumption | omega)).trans h1_79
      rw [← e_mem100] at hh101
      have hh102 := (va_up_ne mem48 (.inr (4, [.ref (ad 1), .ref (ad 5), .int (nI (g73 + 1)), .int (ft77)])) (show (5 : Nat) ≠ 222 by first | decide | assumption | omega)).trans h5_81
      rw [← e_mem100] at hh102
      have hh103 := (va_up_ne mem48 (.inr (4, [.ref (ad 1), .ref (ad 5), .int (nI (g73 + 1)), .int (ft77)])) (show (220 : Nat) ≠ 222 by first | decide | assumption | omega)).trans h220_85
      rw [← e_mem100] at hh103
      have hrk104 : ∀ i9, i9 < R → mem100 (7 + i9) = mem (7 + i9) := fun i9 q9 => (show mem100 (7 + i9) = mem48 (7 + i9) by rw [e_mem100]; exact va_up_ne _ _ (by omega)).trans (hrk72 i9 q9)
      have her105 : ER ad (Rx52) (Ex53) (Bx_56) mem100 := ali67.2.1.fr (Nat.le_refl _) (fun i9 hi9 => by rw [e_mem100]; exact va_up_ne _ _ (by omega))
      have hsr106 : SR cy ad (Sx54) (Bx_56) mem100 := ⟨(show mem100 220 = _ from by rw [e_mem100]; exact va_up_ne _ _ (by omega)).trans ali67.2.2.1.1, (show mem100 221 = _ from by rw [e_mem100]; exact va_up_ne _ _ (by omega)).trans ali67.2.2.1.2⟩
      have hRX107 : RX cy ad lim (g73 + 1) (Rx52) (Ex53) (tox58) (nx57) m0 mem100 := by rw [e_mem100]; exact hRX66.at
      refine lv_aload_n Bx.1 Bx.2.1 d_Rd_readBracket_73 rfl (lv_at hl 0 rfl) ?_
      have hal9 : ALI cy ad T Z 6 (seqS T Z (gapF T Z (a + 1)) u R (Ec + 1) 6 (entA A 6 Ec what oe) nm) Ec R Ec S u (entA A 6 Ec what oe) Bw la49 ax50 ux51 Rx52 Ex53 Sx54 Ax55 Bx_56 nx57 mem100 := by rw [← eg26]; exact ⟨ali67.1, her105, hsr106, ali67.2.2.2⟩
      exact x_aret hx hb hlocks hr (⟨la49, ax50, ux51, Rx52, Ex53, Sx54, Ax55, Bx_56, nx57, tox58, rfl, by omega, by omega, by omega, by rw [← eg74]; have := br_lt hwe hb93; omega, htk64, hrk104, by rw [← eg74]; exact hRX107, hal9, by rw [← eg74]; exact hb93, by rw [← eg26]; exact hent⟩) hP hS d_Rd_readBracket_74
set_option maxHeartbeats 4000000 in
set_option maxRecDepth 100000 in
theorem m_Rd_readOption_5Y (l : Launch) {D : va_G} {cy : Nat → ClassId} {sz n : Nat} {ad : Nat → Nat} {mem : Nat → va_E} {Z a R Ec lim : Nat} {f T : Nat → Int32} {to : Nat → Int32} {nm : Nat → Int64} {m0 : Nat → va_E} {u S : Nat} {A Bw : Ro} (hlt : l.stackTraces = false) (hn : 224 ≤ n) (hT : TX cy ad Z f m0) (hf : ∀ k, k < Z → f k = T k) (hRX : RX cy ad lim a R Ec to nm m0 mem) (haB : a ≤ 300) (hER : ER ad R Ec Bw mem) (hSR : SR cy ad S Bw mem) (hSa : S ≤ a) (haZ : a < Z) (hLK : LKa Ec A) (hF : FRM A 5 Ec) (c91 : hereF Z T a = 91) : NXr l D cy sz n ad y_Rd_readOption c_Rd_readOption 3 (some (.object "AbnfChart$Element")) ({ frames := 21, cells := 1, slots := 6, locals := 493 } : Room) mem [.ref (ad 222), .int (5)] (fun r mem' => ∃ (k' a' u' R' E' S' : Nat) (A' Bw' : Ro) (nm' : Nat → Int64) (to' : Nat → Int32), r = ad (20 + 2 * k') ∧ Ec ≤ k' ∧ k' < E' ∧ R ≤ R' ∧ a < a' ∧ a' ≤ Z ∧ TOK R R' to to' ∧ (∀ i9, i9 < R → mem' (7 + i9) = mem (7 + i9)) ∧ RX cy ad lim a' R' E' to' nm' m0 mem' ∧ RDS cy ad T Z 5 (singS T Z a u R Ec 5 A nm) (PSf A 5) R Ec S u A Bw k' a' u' R' E' S' A' Bw' nm' mem' ∧ A' 238 5 = A 238 5) (fun X mem' => ((X = cIA ∨ X = cIS) ∧ ∃ rc' ec' : Nat, RS cy ad lim rc' ec' m0 mem') ∧ (Fai T Z (singS T Z a u R Ec 5 A nm))) := by
  refine vx_ofW (cc := c_Rd_readOption) (maxL := 3) (ret := (some (.object "AbnfChart$Element"))) (by decide) rfl ?_
  intro p e s m args below meth c s₁ B hml hno hv
  obtain ⟨rfl, E, hP, hD⟩ := hv
  have hx := B.exec
  have hb := B.bytes
  have hr := B.returns
  have hlocks := B.notSynchronized
  have Bx : MB p s m [.ref (ad 222), .int (5)].toArray c c_Rd_readOption "AbnfChart$Reader" D cy := ⟨hx, hb, tb_all (atoms_spec B.pre) E.2.1, findClass_of_methodNamed B.named, E.1⟩
  have hS : va_S (Az sz) s.heap s.heap [] := va_S.rf
  have hl := lv_entry ([.ref (ad 222), .int (5)]) (n := 3) (Nat.le_of_ble_eq_true rfl)
  rw [lg_entry_eq]
  generalize (lg_sl ([.ref (ad 222), .int (5)]) ++ List.replicate (3 - (lg_sl ([.ref (ad 222), .int (5)])).length) Slot.unset).toArray = ls at hl ⊢
  have hl : lv_has ls 3 [(0, .ref (ad 222)), (1, .int (5))] := hl
  have hZ9 := hT.2.1
  have hbd9 := hRX.1.1.1
  have hfr0 : ∀ i, 7 ≤ i ∧ i < 222 ∧ i ≠ 20 + 2 * Ec → mem i = mem i := fun _ _ => rfl
  have hrk0 : ∀ i9, i9 < R → mem (7 + i9) = mem (7 + i9) := fun _ _ => rfl
  obtain ⟨ft1, h9_2⟩ := hRX.2.1
  have h1_3 : mem 1 = .inr (0, [.ref (ad 2), .int (nI Z)]) := (hRX.1.2.2 1 (by omega)).trans hT.1
  have h2_4 : mem 2 = .inl (cy 0, 240, .inl f) := (hRX.1.2.2 2 (by omega)).trans hT.2.2
  have h5_5 := hRX.1.1.2.1
  have hbd11 := hRX.1.1.1
  obtain ⟨S6, g7, hS_8, h220_9, h221_10⟩ := hRX.1.1.2.2.2.2.2.2
  refine lv_aload_n Bx.1 Bx.2.1 d_Rd_readOption_0 rfl (lv_at hl 0 rfl) ?_
  refine lv_iconst (v := 3) Bx.1 Bx.2.1 d_Rd_readOption_1 (by decide) ?_
  refine lv_aload_n Bx.1 Bx.2.1 d_Rd_readOption_2 rfl (lv_at hl 0 rfl) ?_
  refine f_get Bx hP (by omega) h9_2 rfl inRd 2 (by decide) kw_146 rfl rfl d_Rd_readOption_3 ?_
  refine f_xVr (na := 2) (As := [.int (3), .int (nI a)]) (rest := []) Bx hml E hP hD hS (by omega) h9_2 rfl (m_Rd_addElementY l hlt hn hT hf hRX (by omega)) kw_419 kw_421 sel_Rd_addElement kw_6 kw_422 (by decide +kernel) ⟨rfl, rfl⟩ ⟨Nat.le_of_ble_eq_true rfl, Nat.le_of_ble_eq_true rfl⟩ rfl hl.1 (Nat.le_of_ble_eq_true rfl) d_Rd_readOption_6 ⟨Nat.le_of_ble_eq_true rfl, Nat.le_of_ble_eq_true rfl⟩ (fun X ce q9 memx H locs hx9 hP hS g1 g2 g3 => f_out hlocks hno hP hS g1 g2 g3 ⟨Nat.le_of_ble_eq_true rfl, Nat.le_of_ble_eq_true rfl⟩ ⟨hx9.1, Or.inl (sing_o0 (l91 c91).1 c91 (Or.inr hx9.2))⟩) (fun r12 mem13 H locs hq hP hS => ?_)
  have hD : va_D (Az sz) (fw n ad mem13) := fw_D hD
  obtain ⟨hr914, hec15, hRX16, hcl17, hfa18⟩ := hq
  subst hr914
  have hrk19 : ∀ i9, i9 < R → mem13 (7 + i9) = mem (7 + i9) := fun i9 q9 => (hfa18 (7 + i9) (by omega)).trans (hrk0 i9 q9)
  have hfr20 : ∀ i, 7 ≤ i ∧ i < 222 ∧ i ≠ 20 + 2 * Ec → mem13 i = mem i := fun i q => (hfa18 i (by omega)).trans (hfr0 i q)
  obtain ⟨ft21, h9_22⟩ := hRX16.2.1
  have h1_23 : mem13 1 = .inr (0, [.ref (ad 2), .int (nI Z)]) := (hRX16.1.2.2 1 (by omega)).trans hT.1
  have h2_24 : mem13 2 = .inl (cy 0, 240, .inl f) := (hRX16.1.2.2 2 (by omega)).trans hT.2.2
  have h5_25 := hRX16.1.1.2.1
  have hbd31 := hRX16.1.1.1
  obtain ⟨S26, g27, hS_28, h220_29, h221_30⟩ := hRX16.1.1.2.2.2.2.2.2
  obtain ⟨ft32, h9_33⟩ := hRX16.2.1
  have h1_34 : mem13 1 = .inr (0, [.ref (ad 2), .int (nI Z)]) := (hRX16.1.2.2 1 (by omega)).trans hT.1
  have h2_35 : mem13 2 = .inl (cy 0, 240, .inl f) := (hRX16.1.2.2 2 (by omega)).trans hT.2.2
  have h5_36 := hRX16.1.1.2.1
  have hbd42 := hRX16.1.1.1
  obtain ⟨S37, g38, hS_39, h220_40, h221_41⟩ := hRX16.1.1.2.2.2.2.2.2
  refine lv_astore_n (lv' := [(2, .ref (ad (20 + 2 * Ec))), (0, .ref (ad 222)), (1, .int (5))]) Bx.1 Bx.2.1 d_Rd_readOption_9 rfl hl (by decide) rfl (fun ls hl => ?_)
  refine lv_aload_n Bx.1 Bx.2.1 d_Rd_readOption_10 rfl (lv_at hl 0 rfl) ?_
  refine lv_aload_n Bx.1 Bx.2.1 d_Rd_readOption_11 rfl (lv_at hl 1 rfl) ?_
  refine lv_iload_n Bx.1 Bx.2.1 d_Rd_readOption_12 rfl (lv_at hl 2 rfl) ?_
  refine lv_bipush (v := 93) Bx.1 Bx.2.1 d_Rd_readOption_13 (by decide) ?_
  have her43 : ER ad R (Ec + 1) (bwN Bw Ec 3 (0) (0) (-1) (-1) (-1) (Bw 234)) mem13 := hER.new (Nat.le_refl _) (by rw [vR_m]; exact hcl17) (Or.inl rfl) (fun i9 hi9 => hfr20 (20 + 2 * i9) (by omega))
  have hsr44 : SR cy ad S (bwN Bw Ec 3 (0) (0) (-1) (-1) (-1) (Bw 234)) mem13 := ⟨(hfr20 220 (by omega)).trans hSR.1, (hfr20 221 (by omega)).trans hSR.2⟩
  have hE9 := hec15
  refine f_xVr (na := 2) (As := [.int (5), .int (93)]) (rest := [.ref (ad (20 + 2 * Ec))]) Bx hml E hP hD hS (by omega) h9_33 rfl (m_Rd_readBracket_5Y l hlt hn hT hf hRX16 (by omega) (u := u) (A := elA A Ec 3) (what := 2) (oe := nI Ec) her43 hsr44 (by omega) (by omega) (Or.inr ⟨rfl, rfl⟩) (elA_lka hLK)) kw_447 kw_449 sel_Rd_readBracket kw_6 kw_450 (by decide +kernel) ⟨rfl, rfl⟩ ⟨Nat.le_of_ble_eq_true rfl, Nat.le_of_ble_eq_true rfl⟩ rfl hl.1 (Nat.le_of_ble_eq_true rfl) d_Rd_readOption_15 ⟨Nat.le_of_ble_eq_true rfl, Nat.le_of_ble_eq_true rfl⟩ (fun X ce q9 memx H locs hx9 hP hS g1 g2 g3 => f_out hlocks hno hP hS g1 g2 g3 ⟨Nat.le_of_ble_eq_true rfl, Nat.le_of_ble_eq_true rfl⟩ ⟨hx9.1, hx9.2.eq (sing_op (l91 c91).1 c91 (by omega) hE9)⟩) (fun r45 mem46 H locs hq hP hS => ?_)
  have hD : va_D (Az sz) (fw n ad mem46) := fw_D hD
  obtain ⟨la47, ax48, ux49, Rx50, Ex51, Sx52, Ax53, Bx_54, nx55, tox56, hr957, h158, h259, h360, h461, htk62, hrk63, hRX64, ali65, hh66, hent67⟩ := hq
  subst hr957
  have hrk68 : ∀ i9, i9 < R → mem46 (7 + i9) = mem (7 + i9) := fun i9 q9 => (hrk63 i9 (by omega)).trans (hrk19 i9 q9)
  obtain ⟨ft69, h9_70⟩ := hRX64.2.1
  have h1_71 : mem46 1 = .inr (0, [.ref (ad 2), .int (nI Z)]) := (hRX64.1.2.2 1 (by omega)).trans hT.1
  have h2_72 : mem46 2 = .inl (cy 0, 240, .inl f) := (hRX64.1.2.2 2 (by omega)).trans hT.2.2
  have h5_73 := hRX64.1.1.2.1
  have hbd79 := hRX64.1.1.1
  obtain ⟨S74, g75, hS_76, h220_77, h221_78⟩ := hRX64.1.1.2.2.2.2.2.2
  have hbd80 := hRX64.1.1.1
  have hce81 := (ali65.2.1 Ec (by omega)).1
  refine f_putN Bx hP hD hS (by omega) hce81 rfl inEl tyEl okEl nmEl 4 (by decide) kw_87 rfl rfl rfl rfl (Nat.le_of_ble_eq_true rfl) d_Rd_readOption_18 (fun H locs hP hS => ?_)
  obtain ⟨mem82, e_mem82⟩ : ∃ z, z = va_up mem46 ((20 + 2 * Ec)) (.inr (2, [.int (Bx_54 228 Ec), .int (Bx_54 229 Ec), .int (Bx_54 230 Ec), vR ad (Bx_54 231 Ec), .ref (ad (20 + 2 * (Ec + 1))), vE ad (Bx_54 233 Ec), .ref (ad (21 + 2 * Ec))])) := ⟨_, rfl⟩
  have hP : va_P D vcl (fw n ad mem82) H := by rw [e_mem82]; exact hP
  have hD : va_D (Az sz) (fw n ad mem82) := fw_D hD
  have h_mem82 : mem82 ((20 + 2 * Ec)) = .inr (2, [.int (Bx_54 228 Ec), .int (Bx_54 229 Ec), .int (Bx_54 230 Ec), vR ad (Bx_54 231 Ec), .ref (ad (20 + 2 * (Ec + 1))), vE ad (Bx_54 233 Ec), .ref (ad (21 + 2 * Ec))]) := by rw [e_mem82, va_up_self]
  have hh83 := (va_up_ne mem46 (.inr (2, [.int (Bx_54 228 Ec), .int (Bx_54 229 Ec), .int (Bx_54 230 Ec), vR ad (Bx_54 231 Ec), .ref (ad (20 + 2 * (Ec + 1))), vE ad (Bx_54 233 Ec), .ref (ad (21 + 2 * Ec))])) (show (222 : Nat) ≠ (20 + 2 * Ec) by first | decide | assumption | omega)).trans h9_70
  rw [← e_mem82] at hh83
  have hh84 := (va_up_ne mem46 (.inr (2, [.int (Bx_54 228 Ec), .int (Bx_54 229 Ec), .int (Bx_54 230 Ec), vR ad (Bx_54 231 Ec), .ref (ad (20 + 2 * (Ec + 1))), vE ad (Bx_54 233 Ec), .ref (ad (21 + 2 * Ec))])) (show (1 : Nat) ≠ (20 + 2 * Ec) by first | decide | assumption | omega)).trans h1_71
  rw [← e_mem82] at hh84
  have hh85 := (va_up_ne mem46 (.inr (2, [.int (Bx_54 228 Ec), .int (Bx_54 229 Ec), .int (Bx_54 230 Ec), vR ad (Bx_54 231 Ec), .ref (ad (20 + 2 * (Ec + 1))), vE ad (Bx_54 233 Ec), .ref (ad (21 + 2 * Ec))])) (show (5 : Nat) ≠ (20 + 2 * Ec) by first | decide | assumption | omega)).trans h5_73
  rw [← e_mem82] at hh85
  have hh86 := (va_up_ne mem46 (.inr (2, [.int (Bx_54 228 Ec), .int (Bx_54 229 Ec), .int (Bx_54 230 Ec), vR ad (Bx_54 231 Ec), .ref (ad (20 + 2 * (Ec + 1))), vE ad (Bx_54 233 Ec), .ref (ad (21 + 2 * Ec))])) (show (220 : Nat) ≠ (20 + 2 * Ec) by first | decide | assumption | omega)).trans h220_77
  rw [← e_mem82] at hh86
  have hrk87 : ∀ i9, i9 < R → mem82 (7 + i9) = mem (7 + i9) := fun i9 q9 => (show mem82 (7 + i9) = mem46 (7 + i9) by rw [e_mem82]; exact va_up_ne _ _ (by omega)).trans (hrk68 i9 q9)
  have hRX88 : RX cy ad lim (gapF T Z ax48 + 1) (Rx50) (Ex51) (tox56) (nx55) m0 mem82 := by rw [e_mem82]; exact hRX64.el (by omega) (hRX64.1.mk (by omega) (hRX64.1.1.upEl (by omega) (fun _ => ⟨(ali65.2.1 Ec (by omega)).2.1.oR ad, Or.inr ⟨(Ec + 1), by omega, by omega, rfl⟩, (ali65.2.1 Ec (by omega)).2.2.2.oE ad (by omega)⟩)))
  have her89 : ER ad (Rx50) (Ex51) (va_up Bx_54 232 (upd (Bx_54 232) Ec (nI (Ec + 1)))) mem82 := ali65.2.1.part (by omega) (by omega) (by omega) h_mem82 (fun i9 q9 hi9 => by rw [e_mem82]; exact va_up_ne _ _ (by omega))
  have hsr90 : SR cy ad (Sx52) (Bx_54) mem82 := ⟨(show mem82 220 = mem46 220 by rw [e_mem82]; exact va_up_ne _ _ (by omega)).trans ali65.2.2.1.1, (show mem82 221 = mem46 221 by rw [e_mem82]; exact va_up_ne _ _ (by omega)).trans ali65.2.2.1.2⟩
  obtain ⟨ft91, h9_92⟩ := hRX88.2.1
  have h1_93 : mem82 1 = .inr (0, [.ref (ad 2), .int (nI Z)]) := (hRX88.1.2.2 1 (by omega)).trans hT.1
  have h2_94 : mem82 2 = .inl (cy 0, 240, .inl f) := (hRX88.1.2.2 2 (by omega)).trans hT.2.2
  have h5_95 := hRX88.1.1.2.1
  have hbd101 := hRX88.1.1.1
  obtain ⟨S96, g97, hS_98, h220_99, h221_100⟩ := hRX88.1.1.2.2.2.2.2.2
  refine lv_aload_n Bx.1 Bx.2.1 d_Rd_readOption_21 rfl (lv_at hl 0 rfl) ?_
  have hrd9 := opt_rds (nm := nm) hLK (by omega) hF hent67 ali65 hh66 her89 hsr90
  exact x_aret hx hb hlocks hr (⟨Ec, gapF T Z ax48 + 1, ux49, Rx50, Ex51, Sx52, _, _, nx55, tox56, rfl, by omega, by omega, by omega, by have := gapF_ge T Z ax48; omega, by omega, htk62, hrk87, hRX88, rdsEq hrd9.1 (sing_op (l91 c91).1 c91 (by omega) hE9), hrd9.2⟩) hP hS d_Rd_readOption_22
set_option maxHeartbeats 4000000 in
set_option maxRecDepth 100000 in
theorem m_Rd_readElement_5Y (l : Launch) {D : va_G} {cy : Nat → ClassId} {sz n : Nat} {ad : Nat → Nat} {mem : Nat → va_E} {Z a R Ec lim : Nat} {f T : Nat → Int32} {to : Nat → Int32} {nm : Nat → Int64} {m0 : Nat → va_E} {u S : Nat} {A Bw : Ro} (hlt : l.stackTraces = false) (hn : 224 ≤ n) (hT : TX cy ad Z f m0) (hf : ∀ k, k < Z → f k = T k) (hRX : RX cy ad lim a R Ec to nm m0 mem) (haB : a ≤ 300) (hER : ER ad R Ec Bw mem) (hSR : SR cy ad S Bw mem) (hSa : S ≤ a) (haZ : a ≤ Z) (hLK : LKa Ec A) (hF : FRM A 5 Ec) : NXr l D cy sz n ad y_Rd_readElement c_Rd_readElement 2 (some (.object "AbnfChart$Element")) ({ frames := 22, cells := 1, slots := 6, locals := 516 } : Room) mem [.ref (ad 222), .int (5)] (fun r mem' => ∃ (k' a' u' R' E' S' : Nat) (A' Bw' : Ro) (nm' : Nat → Int64) (to' : Nat → Int32), r = ad (20 + 2 * k') ∧ Ec ≤ k' ∧ k' < E' ∧ R ≤ R' ∧ a < a' ∧ a' ≤ Z ∧ TOK R R' to to' ∧ (∀ i9, i9 < R → mem' (7 + i9) = mem (7 + i9)) ∧ RX cy ad lim a' R' E' to' nm' m0 mem' ∧ RDS cy ad T Z 5 (singS T Z a u R Ec 5 A nm) (PSf A 5) R Ec S u A Bw k' a' u' R' E' S' A' Bw' nm' mem' ∧ A' 238 5 = A 238 5 ∧ OKc (hereF Z T a)) (fun X mem' => ((X = cIA ∨ X = cIS) ∧ ∃ rc' ec' : Nat, RS cy ad lim rc' ec' m0 mem') ∧ (Fai T Z (singS T Z a u R Ec 5 A nm) ∨ ¬ OKc (hereF Z T a))) := by
  refine vx_ofW (cc := c_Rd_readElement) (maxL := 2) (ret := (some (.object "AbnfChart$Element"))) (by decide) rfl ?_
  intro p e s m args below meth c s₁ B hml hno hv
  obtain ⟨rfl, E, hP, hD⟩ := hv
  have hx := B.exec
  have hb := B.bytes
  have hr := B.returns
  have hlocks := B.notSynchronized
  have Bx : MB p s m [.ref (ad 222), .int (5)].toArray c c_Rd_readElement "AbnfChart$Reader" D cy := ⟨hx, hb, tb_all (atoms_spec B.pre) E.2.1, findClass_of_methodNamed B.named, E.1⟩
  have hS : va_S (Az sz) s.heap s.heap [] := va_S.rf
  have hl := lv_entry ([.ref (ad 222), .int (5)]) (n := 2) (Nat.le_of_ble_eq_true rfl)
  rw [lg_entry_eq]
  generalize (lg_sl ([.ref (ad 222), .int (5)]) ++ List.replicate (2 - (lg_sl ([.ref (ad 222), .int (5)])).length) Slot.unset).toArray = ls at hl ⊢
  have hl : lv_has ls 2 [(0, .ref (ad 222)), (1, .int (5))] := hl
  have hZ9 := hT.2.1
  have hbd9 := hRX.1.1.1
  have hfr0 : ∀ i, 7 ≤ i ∧ i < 222 ∧ i ≠ 20 + 2 * Ec → mem i = mem i := fun _ _ => rfl
  have hrk0 : ∀ i9, i9 < R → mem (7 + i9) = mem (7 + i9) := fun _ _ => rfl
  obtain ⟨ft1, h9_2⟩ := hRX.2.1
  have h1_3 : mem 1 = .inr (0, [.ref (ad 2), .int (nI Z)]) := (hRX.1.2.2 1 (by omega)).trans hT.1
  have h2_4 : mem 2 = .inl (cy 0, 240, .inl f) := (hRX.1.2.2 2 (by omega)).trans hT.2.2
  have h5_5 := hRX.1.1.2.1
  have hbd11 := hRX.1.1.1
  obtain ⟨S6, g7, hS_8, h220_9, h221_10⟩ := hRX.1.1.2.2.2.2.2.2
  refine lv_aload_n Bx.1 Bx.2.1 d_Rd_readElement_0 rfl (lv_at hl 0 rfl) ?_
  refine f_callVi (na := 0) (As := []) (rest := []) Bx hml E hP hD hS (by omega) h9_2 rfl (m_Rd_peekX l hn hT hf hRX (by omega)) kw_353 kw_355 sel_Rd_peek kw_6 kw_356 (by decide +kernel) ⟨rfl, rfl⟩ ⟨Nat.le_of_ble_eq_true rfl, Nat.le_of_ble_eq_true rfl⟩ rfl hl.1 (Nat.le_of_ble_eq_true rfl) d_Rd_readElement_1 ⟨Nat.le_of_ble_eq_true rfl, Nat.le_of_ble_eq_true rfl⟩ (fun r13 mem14 H locs hq hP hS => ?_)
  have hD : va_D (Az sz) (fw n ad mem14) := fw_D hD
  obtain ⟨hqe, hpk12⟩ := hq
  rw [hqe] at hP hD
  subst hpk12
  refine lv_topi (fun v16 e_v16 => ?_)
  by_cases c34 : v16 = 34
  · rw [c34]
    refine lv_lookup (off := 58) (tgt := 62) Bx.1 Bx.2.1 d_Rd_readElement_4 (by decide) (by decide) rfl ?_
    rw [e_v16] at c34
    have hlt34 := hereF_lt (show hereF Z T (a) ≠ -1 by rw [c34]; decide)
    refine lv_aload_n Bx.1 Bx.2.1 d_Rd_readElement_62 rfl (lv_at hl 0 rfl) ?_
    refine lv_aload_n Bx.1 Bx.2.1 d_Rd_readElement_63 rfl (lv_at hl 0 rfl) ?_
    refine f_get Bx hP (by omega) h9_2 rfl inRd 2 (by decide) kw_146 rfl rfl d_Rd_readElement_64 ?_
    refine lv_iconst (v := 5) Bx.1 Bx.2.1 d_Rd_readElement_67 (by decide) ?_
    refine f_xVr (na := 2) (As := [.int (nI a), .int (5)]) (rest := []) Bx hml E hP hD hS (by omega) h9_2 rfl (m_Rd_readStringY l hlt hn hT hf hRX (by omega) hSR.1 hSR.2 (by omega) hSa) kw_455 kw_457 sel_Rd_readString kw_6 kw_458 (by decide +kernel) ⟨rfl, rfl⟩ ⟨Nat.le_of_ble_eq_true rfl, Nat.le_of_ble_eq_true rfl⟩ rfl hl.1 (Nat.le_of_ble_eq_true rfl) d_Rd_readElement_68 ⟨Nat.le_of_ble_eq_true rfl, Nat.le_of_ble_eq_true rfl⟩ (fun X ce q9 memx H locs hx9 hP hS g1 g2 g3 => f_out hlocks hno hP hS g1 g2 g3 ⟨Nat.le_of_ble_eq_true rfl, Nat.le_of_ble_eq_true rfl⟩ ⟨hx9.1, Or.inl (fai_str c34 hx9.2 hbd9.2.1)⟩) (fun r17 mem18 H locs hq hP hS => ?_)
    have hD : va_D (Az sz) (fw n ad mem18) := fw_D hD
    obtain ⟨hE9, hq9, hr2, hle9, hRX2, hcl2, ⟨s9, hs0, hs1, hs2, hs3⟩, hfr2⟩ := hq
    subst hr2
    obtain ⟨A2, B2, hrd2, h82⟩ := rds_str (j := 5) (u := u) (nm := nm) c34 hE9 hq9 hLK hF hER hcl2 hs0 hs1 hs2 hs3 (fun k hk => hfr2 (20 + 2 * k) (by omega)) hSa
    exact x_aret hx hb hlocks hr (⟨Ec, _, _, R, Ec + 1, _, A2, B2, nm, to, rfl, by omega, by omega, by omega, by omega, hle9, TOK.of rfl, fun i9 q9 => hfr2 (7 + i9) (by omega), hRX2, hrd2, h82, (l34 c34).2.2.2⟩) hP hS d_Rd_readElement_71
  by_cases c37 : v16 = 37
  · rw [c37]
    refine lv_lookup (off := 68) (tgt := 72) Bx.1 Bx.2.1 d_Rd_readElement_4 (by decide) (by decide) rfl ?_
    rw [e_v16] at c37
    have hlt37 := hereF_lt (show hereF Z T (a) ≠ -1 by rw [c37]; decide)
    refine lv_aload_n Bx.1 Bx.2.1 d_Rd_readElement_72 rfl (lv_at hl 0 rfl) ?_
    refine f_get Bx hP (by omega) h9_2 rfl inRd 0 (by decide) kw_144 rfl rfl d_Rd_readElement_73 ?_
    refine lv_aload_n Bx.1 Bx.2.1 d_Rd_readElement_76 rfl (lv_at hl 0 rfl) ?_
    refine f_get Bx hP (by omega) h9_2 rfl inRd 2 (by decide) kw_146 rfl rfl d_Rd_readElement_77 ?_
    refine lv_iconst (v := 1) Bx.1 Bx.2.1 d_Rd_readElement_80 (by decide) ?_
    refine lv_iadd Bx.1 Bx.2.1 d_Rd_readElement_81 ?_
    rw [show nI a + 1 = nI (a + 1) from nI_add (a) (1)]
    refine f_callVi (na := 1) (As := [.int (nI (a + 1))]) (rest := []) Bx hml E hP hD hS (by omega) h1_3 rfl (m_Ch_codeAt l (by omega) h1_3 (by omega) h2_4 (by rw [nI_toInt (by omega)]; omega)) kw_341 kw_342 kw_343 kw_2 kw_344 (by decide +kernel) ⟨rfl, rfl⟩ ⟨Nat.le_of_ble_eq_true rfl, Nat.le_of_ble_eq_true rfl⟩ rfl hl.1 (Nat.le_of_ble_eq_true rfl) d_Rd_readElement_82 ⟨Nat.le_of_ble_eq_true rfl, Nat.le_of_ble_eq_true rfl⟩ (fun r19 mem20 H locs hq hP hS => ?_)
    have hD : va_D (Az sz) (fw n ad mem20) := fw_D hD
    obtain ⟨hco21, hqe⟩ := hq
    rw [hqe] at hP hD
    rw [code_here hf hT.2.1 (k := a + 1) (by omega)] at hco21
    subst hco21
    refine f_callSNi (na := 1) (As := [.int (hereF Z T (a + 1))]) (rest := []) Bx hml E.2.1 (m_Ab_smallOfX l (hereF Z T (a + 1))) kw_372 kw_373 kw_1 kw_374 (by decide +kernel) ⟨rfl, rfl⟩ ⟨Nat.le_of_ble_eq_true rfl, Nat.le_of_ble_eq_true rfl⟩ rfl hl.1 (Nat.le_of_ble_eq_true rfl) d_Rd_readElement_85 ⟨Nat.le_of_ble_eq_true rfl, Nat.le_of_ble_eq_true rfl⟩ (fun r23 hs22 => ?_)
    subst hs22
    refine lv_bipush (v := 115) Bx.1 Bx.2.1 d_Rd_readElement_88 (by decide) ?_
    refine lv_icmp_ne Bx.1 Bx.2.1 d_Rd_readElement_90 rfl (fun hb24 => ?_) (fun hb24 => ?_)
    · refine lv_aload_n Bx.1 Bx.2.1 d_Rd_readElement_100 rfl (lv_at hl 0 rfl) ?_
      refine f_xVr (na := 0) (As := []) (rest := []) Bx hml E hP hD hS (by omega) h9_2 rfl (m_Rd_readValueY l hlt hn hT hf hRX (by omega) (u8 := u) (e8 := Ec) (A0 := va_up (elA A Ec 4) 231 (upd (elA A Ec 4 231) Ec (vp_nar .boolean 1))) hSR.1 hSR.2 (by omega) hSa) kw_467 kw_469 sel_Rd_readValue kw_6 kw_470 (by decide +kernel) ⟨rfl, rfl⟩ ⟨Nat.le_of_ble_eq_true rfl, Nat.le_of_ble_eq_true rfl⟩ rfl hl.1 (Nat.le_of_ble_eq_true rfl) d_Rd_readElement_101 ⟨Nat.le_of_ble_eq_true rfl, Nat.le_of_ble_eq_true rfl⟩ (fun X ce q9 memx H locs hx9 hP hS g1 g2 g3 => f_out hlocks hno hP hS g1 g2 g3 ⟨Nat.le_of_ble_eq_true rfl, Nat.le_of_ble_eq_true rfl⟩ ⟨hx9.1, Or.inl (fai_val c37 hb24 hx9.2 hbd9.2.1)⟩) (fun r25 mem26 H locs hq hP hS => ?_)
      have hD : va_D (Az sz) (fw n ad mem26) := fw_D hD
      obtain ⟨hE9, ba, a2, u2, A1, hba, hn9, hr2, x1, x2, hRX2, hsp2, hc2, hfr2⟩ := hq
      subst hr2
      obtain ⟨S2, A2, B2, hrd2, h82⟩ := rds_val (j := 5) (nm := nm) c37 hba hE9 hn9 hsp2 hLK hF hER (fun k hk => hfr2 (20 + 2 * k) (by omega)) hSa x1 hc2
      exact x_aret hx hb hlocks hr (⟨Ec, a2, u2, R, Ec + 1, S2, A2, B2, nm, to, rfl, by omega, by omega, by omega, x1, x2, TOK.of rfl, fun i9 q9 => hfr2 (7 + i9) (by omega), hRX2, hrd2, h82, (l37 c37).2.2.2.2⟩) hP hS d_Rd_readElement_104
    · refine lv_aload_n Bx.1 Bx.2.1 d_Rd_readElement_93 rfl (lv_at hl 0 rfl) ?_
      refine f_xVr (na := 0) (As := []) (rest := []) Bx hml E hP hD hS (by omega) h9_2 rfl (m_Rd_readExactStringY l hlt hn hT hf hRX (by omega) hSR.1 hSR.2 (by omega) hSa) kw_463 kw_465 sel_Rd_readExactString kw_6 kw_466 (by decide +kernel) ⟨rfl, rfl⟩ ⟨Nat.le_of_ble_eq_true rfl, Nat.le_of_ble_eq_true rfl⟩ rfl hl.1 (Nat.le_of_ble_eq_true rfl) d_Rd_readElement_94 ⟨Nat.le_of_ble_eq_true rfl, Nat.le_of_ble_eq_true rfl⟩ (fun X ce q9 memx H locs hx9 hP hS g1 g2 g3 => f_out hlocks hno hP hS g1 g2 g3 ⟨Nat.le_of_ble_eq_true rfl, Nat.le_of_ble_eq_true rfl⟩ ⟨hx9.1, Or.inl (fai_xst c37 hb24 hx9.2 hbd9.2.1)⟩) (fun r27 mem28 H locs hq hP hS => ?_)
      have hD : va_D (Az sz) (fw n ad mem28) := fw_D hD
      obtain ⟨hq8, hE9, hq9, hr2, hle9, hRX2, hcl2, ⟨s9, hs0, hs1, hs2, hs3⟩, hfr2⟩ := hq
      subst hr2
      obtain ⟨A2, B2, hrd2, h82⟩ := rds_xst (j := 5) (u := u) (nm := nm) c37 hb24 hq8 hE9 hq9 hLK hF hER hcl2 hs0 hs1 hs2 hs3 (fun k hk => hfr2 (20 + 2 * k) (by omega)) hSa
      refine lv_goto Bx.1 Bx.2.1 d_Rd_readElement_97 rfl ?_
      exact x_aret hx hb hlocks hr (⟨Ec, _, _, R, Ec + 1, _, A2, B2, nm, to, rfl, by omega, by omega, by omega, by omega, hle9, TOK.of rfl, fun i9 q9 => hfr2 (7 + i9) (by omega), hRX2, hrd2, h82, (l37 c37).2.2.2.2⟩) hP hS d_Rd_readElement_104
  by_cases c40 : v16 = 40
  · rw [c40]
    refine lv_lookup (off := 44) (tgt := 48) Bx.1 Bx.2.1 d_Rd_readElement_4 (by decide) (by decide) rfl ?_
    rw [e_v16] at c40
    have hlt40 := hereF_lt (show hereF Z T (a) ≠ -1 by rw [c40]; decide)
    refine lv_aload_n Bx.1 Bx.2.1 d_Rd_readElement_48 rfl (lv_at hl 0 rfl) ?_
    refine lv_iload_n Bx.1 Bx.2.1 d_Rd_readElement_49 rfl (lv_at hl 1 rfl) ?_
    refine lv_bipush (v := 41) Bx.1 Bx.2.1 d_Rd_readElement_50 (by decide) ?_
    refine f_xVr (na := 2) (As := [.int (5), .int (41)]) (rest := []) Bx hml E hP hD hS (by omega) h9_2 rfl (m_Rd_readBracket_5Y l hlt hn hT hf hRX (by omega) (u := u) (A := A) (what := 1) (oe := -1) hER hSR hSa (by omega) (Or.inl ⟨rfl, rfl⟩) hLK) kw_447 kw_449 sel_Rd_readBracket kw_6 kw_450 (by decide +kernel) ⟨rfl, rfl⟩ ⟨Nat.le_of_ble_eq_true rfl, Nat.le_of_ble_eq_true rfl⟩ rfl hl.1 (Nat.le_of_ble_eq_true rfl) d_Rd_readElement_52 ⟨Nat.le_of_ble_eq_true rfl, Nat.le_of_ble_eq_true rfl⟩ (fun X ce q9 memx H locs hx9 hP hS g1 g2 g3 => f_out hlocks hno hP hS g1 g2 g3 ⟨Nat.le_of_ble_eq_true rfl, Nat.le_of_ble_eq_true rfl⟩ ⟨hx9.1, Or.inl (hx9.2.eq (sing_br (l40 c40).1 c40 (by omega)))⟩) (fun r29 mem30 H locs hq hP hS => ?_)
    have hD : va_D (Az sz) (fw n ad mem30) := fw_D hD
    obtain ⟨la31, ax32, ux33, Rx34, Ex35, Sx36, Ax37, Bx_38, nx39, tox40, hr941, h142, h243, h344, h445, htk46, hrk47, hRX48, ali49, hh50, hent51⟩ := hq
    subst hr941
    have hrk52 : ∀ i9, i9 < R → mem30 (7 + i9) = mem (7 + i9) := fun i9 q9 => (hrk47 i9 (by omega)).trans (hrk0 i9 q9)
    have hE9 : Ec < 100 := by have := hRX48.1.1.1; omega
    have hrd9 := brk_rds (nm := nm) hLK hE9 hF hent51 ali49 hh50 ali49.2.1 ali49.2.2.1
    exact x_aret hx hb hlocks hr (⟨Ec, gapF T Z ax32 + 1, ux33, Rx34, Ex35, Sx36, _, _, nx39, tox40, rfl, by omega, by omega, by omega, by have := gapF_ge T Z ax32; omega, by omega, htk46, hrk52, hRX48, rdsEq hrd9.1 (sing_br (l40 c40).1 c40 (by omega)), hrd9.2, (l40 c40).2⟩) hP hS d_Rd_readElement_55
  by_cases c91 : v16 = 91
  · rw [c91]
    refine lv_lookup (off := 52) (tgt := 56) Bx.1 Bx.2.1 d_Rd_readElement_4 (by decide) (by decide) rfl ?_
    rw [e_v16] at c91
    have hlt91 := hereF_lt (show hereF Z T (a) ≠ -1 by rw [c91]; decide)
    refine lv_aload_n Bx.1 Bx.2.1 d_Rd_readElement_56 rfl (lv_at hl 0 rfl) ?_
    refine lv_iload_n Bx.1 Bx.2.1 d_Rd_readElement_57 rfl (lv_at hl 1 rfl) ?_
    refine f_xVr (na := 1) (As := [.int (5)]) (rest := []) Bx hml E hP hD hS (by omega) h9_2 rfl (m_Rd_readOption_5Y l hlt hn hT hf hRX (by omega) (u := u) (A := A) hER hSR hSa (by omega) hLK hF c91) kw_451 kw_453 sel_Rd_readOption kw_6 kw_454 (by decide +kernel) ⟨rfl, rfl⟩ ⟨Nat.le_of_ble_eq_true rfl, Nat.le_of_ble_eq_true rfl⟩ rfl hl.1 (Nat.le_of_ble_eq_true rfl) d_Rd_readElement_58 ⟨Nat.le_of_ble_eq_true rfl, Nat.le_of_ble_eq_true rfl⟩ (fun X ce q9 memx H locs hx9 hP hS g1 g2 g3 => f_out hlocks hno hP hS g1 g2 g3 ⟨Nat.le_of_ble_eq_true rfl, Nat.le_of_ble_eq_true rfl⟩ ⟨hx9.1, Or.inl hx9.2⟩) (fun r53 mem54 H locs hq hP hS => ?_)
    have hD : va_D (Az sz) (fw n ad mem54) := fw_D hD
    obtain ⟨kx55, ax56, ux57, Rx58, Ex59, Sx60, Ax61, Bx_62, nx63, tox64, hr965, h166, h267, h368, h469, h570, htk71, hrk72, hRX73, rds74, h875⟩ := hq
    subst hr965
    have hrk76 : ∀ i9, i9 < R → mem54 (7 + i9) = mem (7 + i9) := fun i9 q9 => (hrk72 i9 (by omega)).trans (hrk0 i9 q9)
    exact x_aret hx hb hlocks hr (⟨kx55, ax56, ux57, Rx58, Ex59, Sx60, Ax61, Bx_62, nx63, tox64, rfl, h166, h267, h368, h469, h570, htk71, hrk72, hRX73, rds74, h875, (l91 c91).2⟩) hP hS d_Rd_readElement_61
  refine lv_lookup (off := 101) (tgt := 105) Bx.1 Bx.2.1 d_Rd_readElement_4 (by decide) (by show Op.lookupswitch.offset [(34, 58), (37, 68), (40, 44), (91, 52)] 101 (v16).toInt = 101; rw [lv_osw c34 (by decide), lv_osw c37 (by decide), lv_osw c40 (by decide), lv_osw c91 (by decide)]; rfl) rfl ?_
  rw [e_v16] at c40 c91 c34 c37
  refine lv_aload_n Bx.1 Bx.2.1 d_Rd_readElement_105 rfl (lv_at hl 0 rfl) ?_
  refine f_xVr (na := 0) (As := []) (rest := []) Bx hml E hP hD hS (by omega) h9_2 rfl (m_Rd_readAskedNameY l hlt hn hT hf hRX (by omega) (A := A) (by omega)) kw_478 kw_480 sel_Rd_readAskedName kw_6 kw_481 (by decide +kernel) ⟨rfl, rfl⟩ ⟨Nat.le_of_ble_eq_true rfl, Nat.le_of_ble_eq_true rfl⟩ rfl hl.1 (Nat.le_of_ble_eq_true rfl) d_Rd_readElement_106 ⟨Nat.le_of_ble_eq_true rfl, Nat.le_of_ble_eq_true rfl⟩ (fun X ce q9 memx H locs hx9 hP hS g1 g2 g3 => f_out hlocks hno hP hS g1 g2 g3 ⟨Nat.le_of_ble_eq_true rfl, Nat.le_of_ble_eq_true rfl⟩ ⟨hx9.1, fai_nam c40 c91 c34 c37 hx9.2⟩) (fun r77 mem78 H locs hq hP hS => ?_)
  have hD : va_D (Az sz) (fw n ad mem78) := fw_D hD
  obtain ⟨i9, a2, R2, A3, n2, hsn, hle, hE9, hr2, x1, x2, x3, hA3, htk, ⟨t2, htk2, hRX2⟩, hi9, hcl2, hfr2⟩ := hq
  subst hr2
  have hR12 := hRX2.1.1.1.1
  obtain ⟨A2, B2, hrd2, h82⟩ := rds_nam (j := 5) (u := u) hle hsn hE9 hA3 htk x1 hi9 hR12 hLK hF hER ⟨(hfr2 220 (by omega)).trans hSR.1, (hfr2 221 (by omega)).trans hSR.2⟩ hcl2 (fun k hk => hfr2 (20 + 2 * k) (by omega)) (by omega)
  exact x_aret hx hb hlocks hr (⟨Ec, a2, u, R2, Ec + 1, S, A2, B2, n2, t2, rfl, by omega, by omega, x1, x2, x3, htk2, fun i9 q9 => hfr2 (7 + i9) (by omega), hRX2, hrd2, h82, lt_ok hle⟩) hP hS d_Rd_readElement_109
set_option maxHeartbeats 4000000 in
set_option maxRecDepth 100000 in
theorem m_Rd_readRepetition_5Y (l : Launch) {D : va_G} {cy : Nat → ClassId} {sz n : Nat} {ad : Nat → Nat} {mem : Nat → va_E} {Z a R Ec lim : Nat} {f T : Nat → Int32} {to : Nat → Int32} {nm : Nat → Int64} {m0 : Nat → va_E} {u S : Nat} {A Bw : Ro} (hlt : l.stackTraces = false) (hn : 224 ≤ n) (hT : TX cy ad Z f m0) (hf : ∀ k, k < Z → f k = T k) (hRX : RX cy ad lim a R Ec to nm m0 mem) (haB : a ≤ 300) (hER : ER ad R Ec Bw mem) (hSR : SR cy ad S Bw mem) (hSa : S ≤ a) (haZ : a ≤ Z) (hLK : LKa Ec A) (hF : FRM A 5 Ec) (h39 : A 239 5 = -1) (hbg : bgF (hereF Z T a) = true) : NXr l D cy sz n ad y_Rd_readRepetition c_Rd_readRepetition 3 (some (.object "AbnfChart$Element")) ({ frames := 23, cells := 1, slots := 6, locals := 538 } : Room) mem [.ref (ad 222), .int (5)] (fun r mem' => ∃ (k' a' u' R' E' S' : Nat) (A' Bw' : Ro) (nm' : Nat → Int64) (to' : Nat → Int32), r = ad (20 + 2 * k') ∧ Ec ≤ k' ∧ k' < E' ∧ R ≤ R' ∧ a < a' ∧ a' ≤ Z ∧ TOK R R' to to' ∧ (∀ i9, i9 < R → mem' (7 + i9) = mem (7 + i9)) ∧ RX cy ad lim a' R' E' to' nm' m0 mem' ∧ RDS cy ad T Z 5 (repS T Z a u R Ec 5 A nm) (PSf A 5) R Ec S u A Bw k' a' u' R' E' S' A' Bw' nm' mem' ∧ A' 238 5 = A 238 5) (fun X mem' => ((X = cIA ∨ X = cIS) ∧ ∃ rc' ec' : Nat, RS cy ad lim rc' ec' m0 mem') ∧ (Fai T Z (repS T Z a u R Ec 5 A nm))) := by
  refine vx_ofW (cc := c_Rd_readRepetition) (maxL := 3) (ret := (some (.object "AbnfChart$Element"))) (by decide) rfl ?_
  intro p e s m args below meth c s₁ B hml hno hv
  obtain ⟨rfl, E, hP, hD⟩ := hv
  have hx := B.exec
  have hb := B.bytes
  have hr := B.returns
  have hlocks := B.notSynchronized
  have Bx : MB p s m [.ref (ad 222), .int (5)].toArray c c_Rd_readRepetition "AbnfChart$Reader" D cy := ⟨hx, hb, tb_all (atoms_spec B.pre) E.2.1, findClass_of_methodNamed B.named, E.1⟩
  have hS : va_S (Az sz) s.heap s.heap [] := va_S.rf
  have hl := lv_entry ([.ref (ad 222), .int (5)]) (n := 3) (Nat.le_of_ble_eq_true rfl)
  rw [lg_entry_eq]
  generalize (lg_sl ([.ref (ad 222), .int (5)]) ++ List.replicate (3 - (lg_sl ([.ref (ad 222), .int (5)])).length) Slot.unset).toArray = ls at hl ⊢
  have hl : lv_has ls 3 [(0, .ref (ad 222)), (1, .int (5))] := hl
  have hZ9 := hT.2.1
  have hbd9 := hRX.1.1.1
  have hfr0 : ∀ i, 7 ≤ i ∧ i < 222 ∧ i ≠ 20 + 2 * Ec → mem i = mem i := fun _ _ => rfl
  have hrk0 : ∀ i9, i9 < R → mem (7 + i9) = mem (7 + i9) := fun _ _ => rfl
  obtain ⟨ft1, h9_2⟩ := hRX.2.1
  have h1_3 : mem 1 = .inr (0, [.ref (ad 2), .int (nI Z)]) := (hRX.1.2.2 1 (by omega)).trans hT.1
  have h2_4 : mem 2 = .inl (cy 0, 240, .inl f) := (hRX.1.2.2 2 (by omega)).trans hT.2.2
  have h5_5 := hRX.1.1.2.1
  have hbd11 := hRX.1.1.1
  obtain ⟨S6, g7, hS_8, h220_9, h221_10⟩ := hRX.1.1.2.2.2.2.2.2
  refine lv_aload_n Bx.1 Bx.2.1 d_Rd_readRepetition_0 rfl (lv_at hl 0 rfl) ?_
  refine f_callVi (na := 0) (As := []) (rest := []) Bx hml E hP hD hS (by omega) h9_2 rfl (m_Rd_peekX l hn hT hf hRX (by omega)) kw_353 kw_355 sel_Rd_peek kw_6 kw_356 (by decide +kernel) ⟨rfl, rfl⟩ ⟨Nat.le_of_ble_eq_true rfl, Nat.le_of_ble_eq_true rfl⟩ rfl hl.1 (Nat.le_of_ble_eq_true rfl) d_Rd_readRepetition_1 ⟨Nat.le_of_ble_eq_true rfl, Nat.le_of_ble_eq_true rfl⟩ (fun r13 mem14 H locs hq hP hS => ?_)
  have hD : va_D (Az sz) (fw n ad mem14) := fw_D hD
  obtain ⟨hqe, hpk12⟩ := hq
  rw [hqe] at hP hD
  subst hpk12
  refine f_callSi (na := 1) (As := [.int (hereF Z T (a))]) (rest := []) Bx hml E.2.1 (m_Rd_beginsRepeatX l (hereF Z T (a))) kw_416 kw_417 kw_6 kw_418 (by decide +kernel) ⟨rfl, rfl⟩ ⟨Nat.le_of_ble_eq_true rfl, Nat.le_of_ble_eq_true rfl⟩ rfl hl.1 (Nat.le_of_ble_eq_true rfl) d_Rd_readRepetition_4 ⟨Nat.le_of_ble_eq_true rfl, Nat.le_of_ble_eq_true rfl⟩ (fun r17 hs16 => ?_)
  subst hs16
  refine lv_if_ne Bx.1 Bx.2.1 d_Rd_readRepetition_7 rfl (fun hb18 => ?_) (fun hb18 => ?_)
  · refine lv_aload_n Bx.1 Bx.2.1 d_Rd_readRepetition_16 rfl (lv_at hl 0 rfl) ?_
    refine lv_iconst (v := 2) Bx.1 Bx.2.1 d_Rd_readRepetition_17 (by decide) ?_
    refine lv_aload_n Bx.1 Bx.2.1 d_Rd_readRepetition_18 rfl (lv_at hl 0 rfl) ?_
    refine f_get Bx hP (by omega) h9_2 rfl inRd 2 (by decide) kw_146 rfl rfl d_Rd_readRepetition_19 ?_
    refine f_xVr (na := 2) (As := [.int (2), .int (nI a)]) (rest := []) Bx hml E hP hD hS (by omega) h9_2 rfl (m_Rd_addElementY l hlt hn hT hf hRX (by omega)) kw_419 kw_421 sel_Rd_addElement kw_6 kw_422 (by decide +kernel) ⟨rfl, rfl⟩ ⟨Nat.le_of_ble_eq_true rfl, Nat.le_of_ble_eq_true rfl⟩ rfl hl.1 (Nat.le_of_ble_eq_true rfl) d_Rd_readRepetition_22 ⟨Nat.le_of_ble_eq_true rfl, Nat.le_of_ble_eq_true rfl⟩ (fun X ce q9 memx H locs hx9 hP hS g1 g2 g3 => f_out hlocks hno hP hS g1 g2 g3 ⟨Nat.le_of_ble_eq_true rfl, Nat.le_of_ble_eq_true rfl⟩ ⟨hx9.1, Or.inl (rep_E (bpF_1 hb18) hx9.2)⟩) (fun r19 mem20 H locs hq hP hS => ?_)
    have hD : va_D (Az sz) (fw n ad mem20) := fw_D hD
    obtain ⟨hr921, hec22, hRX23, hcl24, hfa25⟩ := hq
    subst hr921
    have hrk26 : ∀ i9, i9 < R → mem20 (7 + i9) = mem (7 + i9) := fun i9 q9 => (hfa25 (7 + i9) (by omega)).trans (hrk0 i9 q9)
    have hfr27 : ∀ i, 7 ≤ i ∧ i < 222 ∧ i ≠ 20 + 2 * Ec → mem20 i = mem i := fun i q => (hfa25 i (by omega)).trans (hfr0 i q)
    obtain ⟨ft28, h9_29⟩ := hRX23.2.1
    have h1_30 : mem20 1 = .inr (0, [.ref (ad 2), .int (nI Z)]) := (hRX23.1.2.2 1 (by omega)).trans hT.1
    have h2_31 : mem20 2 = .inl (cy 0, 240, .inl f) := (hRX23.1.2.2 2 (by omega)).trans hT.2.2
    have h5_32 := hRX23.1.1.2.1
    have hbd38 := hRX23.1.1.1
    obtain ⟨S33, g34, hS_35, h220_36, h221_37⟩ := hRX23.1.1.2.2.2.2.2.2
    obtain ⟨ft39, h9_40⟩ := hRX23.2.1
    have h1_41 : mem20 1 = .inr (0, [.ref (ad 2), .int (nI Z)]) := (hRX23.1.2.2 1 (by omega)).trans hT.1
    have h2_42 : mem20 2 = .inl (cy 0, 240, .inl f) := (hRX23.1.2.2 2 (by omega)).trans hT.2.2
    have h5_43 := hRX23.1.1.2.1
    have hbd49 := hRX23.1.1.1
    obtain ⟨S44, g45, hS_46, h220_47, h221_48⟩ := hRX23.1.1.2.2.2.2.2.2
    refine lv_astore_n (lv' := [(2, .ref (ad (20 + 2 * Ec))), (0, .ref (ad 222)), (1, .int (5))]) Bx.1 Bx.2.1 d_Rd_readRepetition_25 rfl hl (by decide) rfl (fun ls hl => ?_)
    refine lv_aload_n Bx.1 Bx.2.1 d_Rd_readRepetition_26 rfl (lv_at hl 1 rfl) ?_
    refine lv_aload_n Bx.1 Bx.2.1 d_Rd_readRepetition_27 rfl (lv_at hl 0 rfl) ?_
    have hdg := bpF_1 hb18
    have hE9 := hec22
    refine f_xVv (na := 1) (As := [.ref (ad (20 + 2 * Ec))]) (rest := []) Bx hml E hP hD hS (by omega) h9_40 rfl (m_Rd_readRepeatY l hlt hn hT hf hRX23 (by omega) (by omega) hcl24 (by omega) hdg) kw_482 kw_484 sel_Rd_readRepeat kw_6 kw_485 (by decide +kernel) ⟨rfl, rfl⟩ ⟨Nat.le_of_ble_eq_true rfl, Nat.le_of_ble_eq_true rfl⟩ rfl hl.1 (Nat.le_of_ble_eq_true rfl) d_Rd_readRepetition_28 ⟨Nat.le_of_ble_eq_true rfl, Nat.le_of_ble_eq_true rfl⟩ (fun X ce q9 memx H locs hx9 hP hS g1 g2 g3 => f_out hlocks hno hP hS g1 g2 g3 ⟨Nat.le_of_ble_eq_true rfl, Nat.le_of_ble_eq_true rfl⟩ ⟨hx9.1, hx9.2.elim (fun v1 z => z.elim (fun b1 z => z.elim (fun v2 z => z.elim (fun b2 z => Or.inl (rep_bad hdg hE9 z.1 z.2.1 (Or.inl z.2.2))))))⟩) (fun mem51 H locs hq hP hS => ?_)
    have hD : va_D (Az sz) (fw n ad mem51) := fw_D hD
    obtain ⟨v1, b1, v2, b2, hr1, hr2, hnv, hb8, hb9, hRXr, hclr, hfar⟩ := hq
    have hrk52 : ∀ i9, i9 < R → mem51 (7 + i9) = mem (7 + i9) := fun i9 q9 => (hfar (7 + i9) (by omega)).trans (hrk26 i9 q9)
    have hfr53 : ∀ i, 7 ≤ i ∧ i < 222 ∧ i ≠ 20 + 2 * Ec → mem51 i = mem i := fun i q => (hfar i (by omega)).trans (hfr27 i q)
    obtain ⟨ft54, h9_55⟩ := hRXr.2.1
    have h1_56 : mem51 1 = .inr (0, [.ref (ad 2), .int (nI Z)]) := (hRXr.1.2.2 1 (by omega)).trans hT.1
    have h2_57 : mem51 2 = .inl (cy 0, 240, .inl f) := (hRXr.1.2.2 2 (by omega)).trans hT.2.2
    have h5_58 := hRXr.1.1.2.1
    have hbd64 := hRXr.1.1.1
    obtain ⟨S59, g60, hS_61, h220_62, h221_63⟩ := hRXr.1.1.2.2.2.2.2.2
    obtain ⟨ft65, h9_66⟩ := hRXr.2.1
    have h1_67 : mem51 1 = .inr (0, [.ref (ad 2), .int (nI Z)]) := (hRXr.1.2.2 1 (by omega)).trans hT.1
    have h2_68 : mem51 2 = .inl (cy 0, 240, .inl f) := (hRXr.1.2.2 2 (by omega)).trans hT.2.2
    have h5_69 := hRXr.1.1.2.1
    have hbd75 := hRXr.1.1.1
    obtain ⟨S70, g71, hS_72, h220_73, h221_74⟩ := hRXr.1.1.2.2.2.2.2.2
    refine lv_aload_n Bx.1 Bx.2.1 d_Rd_readRepetition_31 rfl (lv_at hl 0 rfl) ?_
    refine lv_aload_n Bx.1 Bx.2.1 d_Rd_readRepetition_32 rfl (lv_at hl 1 rfl) ?_
    refine lv_iload_n Bx.1 Bx.2.1 d_Rd_readRepetition_33 rfl (lv_at hl 2 rfl) ?_
    have her76 : ER ad R (Ec + 1) (bwN Bw Ec 2 (v1) (v2) (-1) (-1) (-1) (Bw 234)) mem51 := hER.new (Nat.le_refl _) (by rw [vR_m]; exact hclr) (Or.inl rfl) (fun i9 hi9 => hfr53 (20 + 2 * i9) (by omega))
    have hsr77 : SR cy ad S (bwN Bw Ec 2 (v1) (v2) (-1) (-1) (-1) (Bw 234)) mem51 := ⟨(hfr53 220 (by omega)).trans hSR.1, (hfr53 221 (by omega)).trans hSR.2⟩
    obtain ⟨hLK1, hF1⟩ := frm_rep (v1 := v1) (v2 := v2) hLK hE9 hF h39
    refine f_xVr (na := 1) (As := [.int (5)]) (rest := [.ref (ad (20 + 2 * Ec))]) Bx hml E hP hD hS (by omega) h9_66 rfl (m_Rd_readElement_5Y l hlt hn hT hf hRXr (by omega) (u := u) (A := repB A 5 Ec v1 v2) her76 hsr77 (by omega) (by omega) hLK1 hF1) kw_443 kw_445 sel_Rd_readElement kw_6 kw_446 (by decide +kernel) ⟨rfl, rfl⟩ ⟨Nat.le_of_ble_eq_true rfl, Nat.le_of_ble_eq_true rfl⟩ rfl hl.1 (Nat.le_of_ble_eq_true rfl) d_Rd_readRepetition_34 ⟨Nat.le_of_ble_eq_true rfl, Nat.le_of_ble_eq_true rfl⟩ (fun X ce q9 memx H locs hx9 hP hS g1 g2 g3 => f_out hlocks hno hP hS g1 g2 g3 ⟨Nat.le_of_ble_eq_true rfl, Nat.le_of_ble_eq_true rfl⟩ ⟨hx9.1, rep_fai hdg hE9 hr1 hr2 hnv hx9.2⟩) (fun r78 mem79 H locs hq hP hS => ?_)
    have hD : va_D (Az sz) (fw n ad mem79) := fw_D hD
    obtain ⟨kx80, ax81, ux82, Rx83, Ex84, Sx85, Ax86, Bx_87, nx88, tox89, hr990, h191, h292, h393, h494, h595, htk96, hrk97, hRX98, rds99, h8100, hok101⟩ := hq
    subst hr990
    have hrk102 : ∀ i9, i9 < R → mem79 (7 + i9) = mem (7 + i9) := fun i9 q9 => (hrk97 i9 (by omega)).trans (hrk52 i9 q9)
    obtain ⟨ft103, h9_104⟩ := hRX98.2.1
    have h1_105 : mem79 1 = .inr (0, [.ref (ad 2), .int (nI Z)]) := (hRX98.1.2.2 1 (by omega)).trans hT.1
    have h2_106 : mem79 2 = .inl (cy 0, 240, .inl f) := (hRX98.1.2.2 2 (by omega)).trans hT.2.2
    have h5_107 := hRX98.1.1.2.1
    have hbd113 := hRX98.1.1.1
    obtain ⟨S108, g109, hS_110, h220_111, h221_112⟩ := hRX98.1.1.2.2.2.2.2.2
    have hbd114 := hRX98.1.1.1
    have hce115 := (rds99.2.1 Ec (by omega)).1
    refine f_putN Bx hP hD hS (by omega) hce115 rfl inEl tyEl okEl nmEl 4 (by decide) kw_87 rfl rfl rfl rfl (Nat.le_of_ble_eq_true rfl) d_Rd_readRepetition_37 (fun H locs hP hS => ?_)
    obtain ⟨mem116, e_mem116⟩ : ∃ z, z = va_up mem79 ((20 + 2 * Ec)) (.inr (2, [.int (Bx_87 228 Ec), .int (Bx_87 229 Ec), .int (Bx_87 230 Ec), vR ad (Bx_87 231 Ec), .ref (ad (20 + 2 * kx80)), vE ad (Bx_87 233 Ec), .ref (ad (21 + 2 * Ec))])) := ⟨_, rfl⟩
    have hP : va_P D vcl (fw n ad mem116) H := by rw [e_mem116]; exact hP
    have hD : va_D (Az sz) (fw n ad mem116) := fw_D hD
    have h_mem116 : mem116 ((20 + 2 * Ec)) = .inr (2, [.int (Bx_87 228 Ec), .int (Bx_87 229 Ec), .int (Bx_87 230 Ec), vR ad (Bx_87 231 Ec), .ref (ad (20 + 2 * kx80)), vE ad (Bx_87 233 Ec), .ref (ad (21 + 2 * Ec))]) := by rw [e_mem116, va_up_self]
    have hh117 := (va_up_ne mem79 (.inr (2, [.int (Bx_87 228 Ec), .int (Bx_87 229 Ec), .int (Bx_87 230 Ec), vR ad (Bx_87 231 Ec), .ref (ad (20 + 2 * kx80)), vE ad (Bx_87 233 Ec), .ref (ad (21 + 2 * Ec))])) (show (222 : Nat) ≠ (20 + 2 * Ec) by first | decide | assumption | omega)).trans h9_104
    rw [← e_mem116] at hh117
    have hh118 := (va_up_ne mem79 (.inr (2, [.int (Bx_87 228 Ec), .int (Bx_87 229 Ec), .int (Bx_87 230 Ec), vR ad (Bx_87 231 Ec), .ref (ad (20 + 2 * kx80)), vE ad (Bx_87 233 Ec), .ref (ad (21 + 2 * Ec))])) (show (1 : Nat) ≠ (20 + 2 * Ec) by first | decide | assumption | omega)).trans h1_105
    rw [← e_mem116] at hh118
    have hh119 := (va_up_ne mem79 (.inr (2, [.int (Bx_87 228 Ec), .int (Bx_87 229 Ec), .int (Bx_87 230 Ec), vR ad (Bx_87 231 Ec), .ref (ad (20 + 2 * kx80)), vE ad (Bx_87 233 Ec), .ref (ad (21 + 2 * Ec))])) (show (5 : Nat) ≠ (20 + 2 * Ec) by first | decide | assumption | omega)).trans h5_107
    rw [← e_mem116] at hh119
    have hh120 := (va_up_ne mem79 (.inr (2, [.int (Bx_87 228 Ec), .int (Bx_87 229 Ec), .int (Bx_87 230 Ec), vR ad (Bx_87 231 Ec), .ref (ad (20 + 2 * kx80)), vE ad (Bx_87 233 Ec), .ref (ad (21 + 2 * Ec))])) (show (220 : Nat) ≠ (20 + 2 * Ec) by first | decide | assumption | omega)).trans h220_111
    rw [← e_mem116] at hh120
    have hrk121 : ∀ i9, i9 < R → mem116 (7 + i9) = mem (7 + i9) := fun i9 q9 => (show mem116 (7 + i9) = mem79 (7 + i9) by rw [e_mem116]; exact va_up_ne _ _ (by omega)).trans (hrk102 i9 q9)
    have hRX122 : RX cy ad lim (ax81) (Rx83) (Ex84) (tox89) (nx88) m0 mem116 := by rw [e_mem116]; exact hRX98.el (by omega) (hRX98.1.mk (by omega) (hRX98.1.1.upEl (by omega) (fun _ => ⟨(rds99.2.1 Ec (by omega)).2.1.oR ad, Or.inr ⟨kx80, by omega, by omega, rfl⟩, (rds99.2.1 Ec (by omega)).2.2.2.oE ad (by omega)⟩)))
    have her123 : ER ad (Rx83) (Ex84) (va_up Bx_87 232 (upd (Bx_87 232) Ec (nI kx80))) mem116 := rds99.2.1.part (by omega) (by omega) (by omega) h_mem116 (fun i9 q9 hi9 => by rw [e_mem116]; exact va_up_ne _ _ (by omega))
    have hsr124 : SR cy ad (Sx85) (Bx_87) mem116 := ⟨(show mem116 220 = mem79 220 by rw [e_mem116]; exact va_up_ne _ _ (by omega)).trans rds99.2.2.1.1, (show mem116 221 = mem79 221 by rw [e_mem116]; exact va_up_ne _ _ (by omega)).trans rds99.2.2.1.2⟩
    obtain ⟨ft125, h9_126⟩ := hRX122.2.1
    have h1_127 : mem116 1 = .inr (0, [.ref (ad 2), .int (nI Z)]) := (hRX122.1.2.2 1 (by omega)).trans hT.1
    have h2_128 : mem116 2 = .inl (cy 0, 240, .inl f) := (hRX122.1.2.2 2 (by omega)).trans hT.2.2
    have h5_129 := hRX122.1.1.2.1
    have hbd135 := hRX122.1.1.1
    obtain ⟨S130, g131, hS_132, h220_133, h221_134⟩ := hRX122.1.1.2.2.2.2.2.2
    refine lv_aload_n Bx.1 Bx.2.1 d_Rd_readRepetition_40 rfl (lv_at hl 0 rfl) ?_
    have hrd9 := rep_rds hLK hE9 hF h39 rds99 h8100 ⟨by omega, by omega⟩ (rep_suc (u := u) (R := R) (f := 5) (A := A) (nm := nm) hdg hE9 hr1 hr2 hnv hok101) her123 hsr124
    exact x_aret hx hb hlocks hr (⟨Ec, ax81, ux82, Rx83, Ex84, Sx85, _, _, nx88, tox89, rfl, by omega, by omega, by omega, by omega, by omega, htk96, hrk121, hRX122, hrd9.1, hrd9.2⟩) hP hS d_Rd_readRepetition_41
  · refine lv_aload_n Bx.1 Bx.2.1 d_Rd_readRepetition_10 rfl (lv_at hl 0 rfl) ?_
    refine lv_iload_n Bx.1 Bx.2.1 d_Rd_readRepetition_11 rfl (lv_at hl 1 rfl) ?_
    obtain ⟨hd0, h42⟩ := bpF_0 hb18
    refine f_xVr (na := 1) (As := [.int (5)]) (rest := []) Bx hml E hP hD hS (by omega) h9_2 rfl (m_Rd_readElement_5Y l hlt hn hT hf hRX (by omega) (u := u) (A := A) hER hSR hSa (by omega) hLK hF) kw_443 kw_445 sel_Rd_readElement kw_6 kw_446 (by decide +kernel) ⟨rfl, rfl⟩ ⟨Nat.le_of_ble_eq_true rfl, Nat.le_of_ble_eq_true rfl⟩ rfl hl.1 (Nat.le_of_ble_eq_true rfl) d_Rd_readRepetition_12 ⟨Nat.le_of_ble_eq_true rfl, Nat.le_of_ble_eq_true rfl⟩ (fun X ce q9 memx H locs hx9 hP hS g1 g2 g3 => f_out hlocks hno hP hS g1 g2 g3 ⟨Nat.le_of_ble_eq_true rfl, Nat.le_of_ble_eq_true rfl⟩ ⟨hx9.1, (hx9.2.resolve_right (fun z => z ⟨hbg, hd0, h42⟩)).eq (rep_no hd0 h42)⟩) (fun r136 mem137 H locs hq hP hS => ?_)
    have hD : va_D (Az sz) (fw n ad mem137) := fw_D hD
    obtain ⟨kx138, ax139, ux140, Rx141, Ex142, Sx143, Ax144, Bx_145, nx146, tox147, hr9148, h1149, h2150, h3151, h4152, h5153, htk154, hrk155, hRX156, rds157, h8158, hok159⟩ := hq
    subst hr9148
    have hrk160 : ∀ i9, i9 < R → mem137 (7 + i9) = mem (7 + i9) := fun i9 q9 => (hrk155 i9 (by omega)).trans (hrk0 i9 q9)
    obtain ⟨ft161, h9_162⟩ := hRX156.2.1
    have h1_163 : mem137 1 = .inr (0, [.ref (ad 2), .int (nI Z)]) := (hRX156.1.2.2 1 (by omega)).trans hT.1
    have h2_164 : mem137 2 = .inl (cy 0, 240, .inl f) := (hRX156.1.2.2 2 (by omega)).trans hT.2.2
    have h5_165 := hRX156.1.1.2.1
    have hbd171 := hRX156.1.1.1
    obtain ⟨S166, g167, hS_168, h220_169, h221_170⟩ := hRX156.1.1.2.2.2.2.2.2
    have hbd172 := hRX156.1.1.1
    exact x_aret hx hb hlocks hr (⟨kx138, ax139, ux140, Rx141, Ex142, Sx143, Ax144, Bx_145, nx146, tox147, rfl, h1149, h2150, h3151, h4152, h5153, htk154, hrk155, hRX156, rdsEq rds157 (rep_no hd0 h42), h8158⟩) hP hS d_Rd_readRepetition_15
set_option maxHeartbeats 4000000 in
set_option maxRecDepth 100000 in
theorem m_Rd_readSequence_5Y (l : Launch) {D : va_G} {cy : Nat → ClassId} {sz n : Nat} {ad : Nat → Nat} {mem : Nat → va_E} {Z a R Ec lim : Nat} {f T : Nat → Int32} {to : Nat → Int32} {nm : Nat → Int64} {m0 : Nat → va_E} {u S : Nat} {A Bw : Ro} {cq : Nat} (hlt : l.stackTraces = false) (hn : 224 ≤ n) (hT : TX cy ad Z f m0) (hf : ∀ k, k < Z → f k = T k) (hRX : RX cy ad lim a R Ec to nm m0 mem) (haB : a ≤ 300) (hER : ER ad R Ec Bw mem) (hSR : SR cy ad S Bw mem) (hSa : S ≤ a) (haZ : a ≤ Z) (hLK : LKa Ec A) (hc : A 237 5 = nI cq) (hcl : cq < Ec) (h39 : A 239 5 = -1) : NXr l D cy sz n ad y_Rd_readSequence c_Rd_readSequence 5 (some (.object "AbnfChart$Element")) ({ frames := 24, cells := 1, slots := 6, locals := 562 } : Room) mem [.ref (ad 222), .int (5)] (fun r mem' => ∃ (a' u' R' E' S' : Nat) (A' Bw' : Ro) (nm' : Nat → Int64) (to' : Nat → Int32), r = ad (20 + 2 * Ec) ∧ Ec < E' ∧ R ≤ R' ∧ a < a' ∧ a' ≤ Z ∧ TOK R R' to to' ∧ (∀ i9, i9 < R → mem' (7 + i9) = mem (7 + i9)) ∧ RX cy ad lim (gapF T Z a') R' E' to' nm' m0 mem' ∧ RDS cy ad T Z 5 (seqS T Z a u R Ec 5 A nm) (slotOf A cq) R Ec S u A Bw Ec a' u' R' E' S' A' Bw' nm' mem' ∧ ¬ (bgF (hereF Z T (gapF T Z a')) = true ∧ a' < gapF T Z a')) (fun X mem' => ((X = cIA ∨ X = cIS) ∧ ∃ rc' ec' : Nat, RS cy ad lim rc' ec' m0 mem') ∧ (Fai T Z (seqS T Z a u R Ec 5 A nm))) := by
  refine vx_ofW (cc := c_Rd_readSequence) (maxL := 5) (ret := (some (.object "AbnfChart$Element"))) (by decide) rfl ?_
  intro p e s m args below meth c s₁ B hml hno hv
  obtain ⟨rfl, E, hP, hD⟩ := hv
  have hx := B.exec
  have hb := B.bytes
  have hr := B.returns
  have hlocks := B.notSynchronized
  have Bx : MB p s m [.ref (ad 222), .int (5)].toArray c c_Rd_readSequence "AbnfChart$Reader" D cy := ⟨hx, hb, tb_all (atoms_spec B.pre) E.2.1, findClass_of_methodNamed B.named, E.1⟩
  have hS : va_S (Az sz) s.heap s.heap [] := va_S.rf
  have hl := lv_entry ([.ref (ad 222), .int (5)]) (n := 5) (Nat.le_of_ble_eq_true rfl)
  rw [lg_entry_eq]
  generalize (lg_sl ([.ref (ad 222), .int (5)]) ++ List.replicate (5 - (lg_sl ([.ref (ad 222), .int (5)])).length) Slot.unset).toArray = ls at hl ⊢
  have hl : lv_has ls 5 [(0, .ref (ad 222)), (1, .int (5))] := hl
  have hZ9 := hT.2.1
  have hbd9 := hRX.1.1.1
  have hfr0 : ∀ i, 7 ≤ i ∧ i < 222 ∧ i ≠ 20 + 2 * Ec → mem i = mem i := fun _ _ => rfl
  have hrk0 : ∀ i9, i9 < R → mem (7 + i9) = mem (7 + i9) := fun _ _ => rfl
  obtain ⟨ft1, h9_2⟩ := hRX.2.1
  have h1_3 : mem 1 = .inr (0, [.ref (ad 2), .int (nI Z)]) := (hRX.1.2.2 1 (by omega)).trans hT.1
  have h2_4 : mem 2 = .inl (cy 0, 240, .inl f) := (hRX.1.2.2 2 (by omega)).trans hT.2.2
  have h5_5 := hRX.1.1.2.1
  have hbd11 := hRX.1.1.1
  obtain ⟨S6, g7, hS_8, h220_9, h221_10⟩ := hRX.1.1.2.2.2.2.2.2
  refine lv_aload_n Bx.1 Bx.2.1 d_Rd_readSequence_0 rfl (lv_at hl 0 rfl) ?_
  refine lv_iconst (v := 1) Bx.1 Bx.2.1 d_Rd_readSequence_1 (by decide) ?_
  refine f_xVr (na := 1) (As := [.int (1)]) (rest := []) Bx hml E hP hD hS (by omega) h9_2 rfl (m_Rd_beginRowY l hlt hn hT hf hRX (by omega)) kw_409 kw_411 sel_Rd_beginRow kw_6 kw_412 (by decide +kernel) ⟨rfl, rfl⟩ ⟨Nat.le_of_ble_eq_true rfl, Nat.le_of_ble_eq_true rfl⟩ rfl hl.1 (Nat.le_of_ble_eq_true rfl) d_Rd_readSequence_2 ⟨Nat.le_of_ble_eq_true rfl, Nat.le_of_ble_eq_true rfl⟩ (fun X ce q9 memx H locs hx9 hP hS g1 g2 g3 => f_out hlocks hno hP hS g1 g2 g3 ⟨Nat.le_of_ble_eq_true rfl, Nat.le_of_ble_eq_true rfl⟩ ⟨hx9.1, Or.inl (seq_no hx9.2)⟩) (fun r12 mem13 H locs hq hP hS => ?_)
  have hD : va_D (Az sz) (fw n ad mem13) := fw_D hD
  obtain ⟨hbg, hE9, hr9, hRXb, hclb, hfab⟩ := hq
  subst hr9
  have hrk14 : ∀ i9, i9 < R → mem13 (7 + i9) = mem (7 + i9) := fun i9 q9 => (hfab (7 + i9) (by omega)).trans (hrk0 i9 q9)
  have hfr15 : ∀ i, 7 ≤ i ∧ i < 222 ∧ i ≠ 20 + 2 * Ec → mem13 i = mem i := fun i q => (hfab i (by omega)).trans (hfr0 i q)
  obtain ⟨ft16, h9_17⟩ := hRXb.2.1
  have h1_18 : mem13 1 = .inr (0, [.ref (ad 2), .int (nI Z)]) := (hRXb.1.2.2 1 (by omega)).trans hT.1
  have h2_19 : mem13 2 = .inl (cy 0, 240, .inl f) := (hRXb.1.2.2 2 (by omega)).trans hT.2.2
  have h5_20 := hRXb.1.1.2.1
  have hbd26 := hRXb.1.1.1
  obtain ⟨S21, g22, hS_23, h220_24, h221_25⟩ := hRXb.1.1.2.2.2.2.2.2
  obtain ⟨ft27, h9_28⟩ := hRXb.2.1
  have h1_29 : mem13 1 = .inr (0, [.ref (ad 2), .int (nI Z)]) := (hRXb.1.2.2 1 (by omega)).trans hT.1
  have h2_30 : mem13 2 = .inl (cy 0, 240, .inl f) := (hRXb.1.2.2 2 (by omega)).trans hT.2.2
  have h5_31 := hRXb.1.1.2.1
  have hbd37 := hRXb.1.1.1
  obtain ⟨S32, g33, hS_34, h220_35, h221_36⟩ := hRXb.1.1.2.2.2.2.2.2
  refine lv_astore_n (lv' := [(2, .ref (ad (20 + 2 * Ec))), (0, .ref (ad 222)), (1, .int (5))]) Bx.1 Bx.2.1 d_Rd_readSequence_5 rfl hl (by decide) rfl (fun ls hl => ?_)
  refine lv_aload_n Bx.1 Bx.2.1 d_Rd_readSequence_6 rfl (lv_at hl 1 rfl) ?_
  refine lv_iload_n Bx.1 Bx.2.1 d_Rd_readSequence_7 rfl (lv_at hl 2 rfl) ?_
  have her38 : ER ad R (Ec + 1) (bwN Bw Ec 1 (0) (0) (-1) (-1) (-1) (Bw 234)) mem13 := hER.new (Nat.le_refl _) (by rw [vR_m]; exact hclb) (Or.inl rfl) (fun i9 hi9 => hfr15 (20 + 2 * i9) (by omega))
  have hsr39 : SR cy ad S (bwN Bw Ec 1 (0) (0) (-1) (-1) (-1) (Bw 234)) mem13 := ⟨(hfr15 220 (by omega)).trans hSR.1, (hfr15 221 (by omega)).trans hSR.2⟩
  obtain ⟨hLK1, hF1, h391⟩ := frm_seq hLK hE9 hc hcl h39
  refine f_xVr (na := 1) (As := [.int (5)]) (rest := []) Bx hml E hP hD hS (by omega) h9_28 rfl (m_Rd_readRepetition_5Y l hlt hn hT hf hRXb (by omega) (u := u) (A := seqA A 5 Ec) her38 hsr39 (by omega) (by omega) hLK1 hF1 h391 hbg) kw_439 kw_441 sel_Rd_readRepetition kw_6 kw_442 (by decide +kernel) ⟨rfl, rfl⟩ ⟨Nat.le_of_ble_eq_true rfl, Nat.le_of_ble_eq_true rfl⟩ rfl hl.1 (Nat.le_of_ble_eq_true rfl) d_Rd_readSequence_8 ⟨Nat.le_of_ble_eq_true rfl, Nat.le_of_ble_eq_true rfl⟩ (fun X ce q9 memx H locs hx9 hP hS g1 g2 g3 => f_out hlocks hno hP hS g1 g2 g3 ⟨Nat.le_of_ble_eq_true rfl, Nat.le_of_ble_eq_true rfl⟩ ⟨hx9.1, hx9.2.eq (seq_ok hbg hE9)⟩) (fun r40 mem41 H locs hq hP hS => ?_)
  have hD : va_D (Az sz) (fw n ad mem41) := fw_D hD
  obtain ⟨kx42, ax43, ux44, Rx45, Ex46, Sx47, Ax48, Bx_49, nx50, tox51, hr952, h153, h254, h355, h456, h557, htk58, hrk59, hRX60, rds61, h862⟩ := hq
  subst hr952
  have hrk63 : ∀ i9, i9 < R → mem41 (7 + i9) = mem (7 + i9) := fun i9 q9 => (hrk59 i9 (by omega)).trans (hrk14 i9 q9)
  obtain ⟨ft64, h9_65⟩ := hRX60.2.1
  have h1_66 : mem41 1 = .inr (0, [.ref (ad 2), .int (nI Z)]) := (hRX60.1.2.2 1 (by omega)).trans hT.1
  have h2_67 : mem41 2 = .inl (cy 0, 240, .inl f) := (hRX60.1.2.2 2 (by omega)).trans hT.2.2
  have h5_68 := hRX60.1.1.2.1
  have hbd74 := hRX60.1.1.1
  obtain ⟨S69, g70, hS_71, h220_72, h221_73⟩ := hRX60.1.1.2.2.2.2.2.2
  have hbd75 := hRX60.1.1.1
  refine lv_astore_n (lv' := [(3, .ref (ad (20 + 2 * kx42))), (2, .ref (ad (20 + 2 * Ec))), (0, .ref (ad 222)), (1, .int (5))]) Bx.1 Bx.2.1 d_Rd_readSequence_11 rfl hl (by decide) rfl (fun ls hl => ?_)
  refine lv_aload_n Bx.1 Bx.2.1 d_Rd_readSequence_12 rfl (lv_at hl 1 rfl) ?_
  refine lv_aload_n Bx.1 Bx.2.1 d_Rd_readSequence_13 rfl (lv_at hl 0 rfl) ?_
  have hce76 := (rds61.2.1 Ec (by omega)).1
  refine f_putN Bx hP hD hS (by omega) hce76 rfl inEl tyEl okEl nmEl 4 (by decide) kw_87 rfl rfl rfl rfl (Nat.le_of_ble_eq_true rfl) d_Rd_readSequence_14 (fun H locs hP hS => ?_)
  obtain ⟨mem77, e_mem77⟩ : ∃ z, z = va_up mem41 ((20 + 2 * Ec)) (.inr (2, [.int (Bx_49 228 Ec), .int (Bx_49 229 Ec), .int (Bx_49 230 Ec), vR ad (Bx_49 231 Ec), .ref (ad (20 + 2 * kx42)), vE ad (Bx_49 233 Ec), .ref (ad (21 + 2 * Ec))])) := ⟨_, rfl⟩
  have hP : va_P D vcl (fw n ad mem77) H := by rw [e_mem77]; exact hP
  have hD : va_D (Az sz) (fw n ad mem77) := fw_D hD
  have h_mem77 : mem77 ((20 + 2 * Ec)) = .inr (2, [.int (Bx_49 228 Ec), .int (Bx_49 229 Ec), .int (Bx_49 230 Ec), vR ad (Bx_49 231 Ec), .ref (ad (20 + 2 * kx42)), vE ad (Bx_49 233 Ec), .ref (ad (21 + 2 * Ec))]) := by rw [e_mem77, va_up_self]
  have hh78 := (va_up_ne mem41 (.inr (2, [.int (Bx_49 228 Ec), .int (Bx_49 229 Ec), .int (Bx_49 230 Ec), vR ad (Bx_49 231 Ec), .ref (ad (20 + 2 * kx42)), vE ad (Bx_49 233 Ec), .ref (ad (21 + 2 * Ec))])) (show (222 : Nat) ≠ (20 + 2 * Ec) by first | decide | assumption | omega)).trans h9_65
  rw [← e_mem77] at hh78
  have hh79 := (va_up_ne mem41 (.inr (2, [.int (Bx_49 228 Ec), .int (Bx_49 229 Ec), .int (Bx_49 230 Ec), vR ad (Bx_49 231 Ec), .ref (ad (20 + 2 * kx42)), vE ad (Bx_49 233 Ec), .ref (ad (21 + 2 * Ec))])) (show (1 : Nat) ≠ (20 + 2 * Ec) by first | decide | assumption | omega)).trans h1_66
  rw [← e_mem77] at hh79
  have hh80 := (va_up_ne mem41 (.inr (2, [.int (Bx_49 228 Ec), .int (Bx_49 229 Ec), .int (Bx_49 230 Ec), vR ad (Bx_49 231 Ec), .ref (ad (20 + 2 * kx42)), vE ad (Bx_49 233 Ec), .ref (ad (21 + 2 * Ec))])) (show (5 : Nat) ≠ (20 + 2 * Ec) by first | decide | assumption | omega)).trans h5_68
  rw [← e_mem77] at hh80
  have hh81 := (va_up_ne mem41 (.inr (2, [.int (Bx_49 228 Ec), .int (Bx_49 229 Ec), .int (Bx_49 230 Ec), vR ad (Bx_49 231 Ec), .ref (ad (20 + 2 * kx42)), vE ad (Bx_49 233 Ec), .ref (ad (21 + 2 * Ec))])) (show (220 : Nat) ≠ (20 + 2 * Ec) by first | decide | assumption | omega)).trans h220_72
  rw [← e_mem77] at hh81
  have hrk82 : ∀ i9, i9 < R → mem77 (7 + i9) = mem (7 + i9) := fun i9 q9 => (show mem77 (7 + i9) = mem41 (7 + i9) by rw [e_mem77]; exact va_up_ne _ _ (by omega)).trans (hrk63 i9 q9)
  have hRX83 : RX cy ad lim (ax43) (Rx45) (Ex46) (tox51) (nx50) m0 mem77 := by rw [e_mem77]; exact hRX60.el (by omega) (hRX60.1.mk (by omega) (hRX60.1.1.upEl (by omega) (fun _ => ⟨(rds61.2.1 Ec (by omega)).2.1.oR ad, Or.inr ⟨kx42, by omega, by omega, rfl⟩, (rds61.2.1 Ec (by omega)).2.2.2.oE ad (by omega)⟩)))
  have her84 : ER ad (Rx45) (Ex46) (va_up Bx_49 232 (upd (Bx_49 232) Ec (nI kx42))) mem77 := rds61.2.1.part (by omega) (by omega) (by omega) h_mem77 (fun i9 q9 hi9 => by rw [e_mem77]; exact va_up_ne _ _ (by omega))
  have hsr85 : SR cy ad (Sx47) (Bx_49) mem77 := ⟨(show mem77 220 = mem41 220 by rw [e_mem77]; exact va_up_ne _ _ (by omega)).trans rds61.2.2.1.1, (show mem77 221 = mem41 221 by rw [e_mem77]; exact va_up_ne _ _ (by omega)).trans rds61.2.2.1.2⟩
  obtain ⟨ft86, h9_87⟩ := hRX83.2.1
  have h1_88 : mem77 1 = .inr (0, [.ref (ad 2), .int (nI Z)]) := (hRX83.1.2.2 1 (by omega)).trans hT.1
  have h2_89 : mem77 2 = .inl (cy 0, 240, .inl f) := (hRX83.1.2.2 2 (by omega)).trans hT.2.2
  have h5_90 := hRX83.1.1.2.1
  have hbd96 := hRX83.1.1.1
  obtain ⟨S91, g92, hS_93, h220_94, h221_95⟩ := hRX83.1.1.2.2.2.2.2.2
  refine lv_iconst (v := 0) Bx.1 Bx.2.1 d_Rd_readSequence_17 (by decide) ?_
  refine lv_istore (lv' := [(4, .int (0)), (3, .ref (ad (20 + 2 * kx42))), (2, .ref (ad (20 + 2 * Ec))), (0, .ref (ad 222)), (1, .int (5))]) Bx.1 Bx.2.1 d_Rd_readSequence_18 hl (by decide) rfl (fun ls hl => ?_)
  have hsl9 := slot_lt hLK (by omega) hcl
  have hsq0 := seq_first hLK hE9 hc hcl h39 rds61 h862 ⟨by omega, by omega⟩ (by omega) (seq_ok (u := u) (R := R) (f := 5) (A := A) (nm := nm) hbg hE9) her84 hsr85
  have loop97 : ∀ (d98 : Nat) (mem9 : Nat → va_E) (a1 : Nat) (u1 : Nat) (R1 : Nat) (E1 : Nat) (S1 : Nat) (A1 : Ro) (B1 : Ro) (n1 : Nat → Int64) (to1 : Nat → Int32) (la : Nat) (k9 : Nat) (ls : Array Slot) (H : Heap) (locs : List Loc), (240 - k9 < d98) → (RX cy ad lim a1 R1 E1 to1 n1 m0 mem9) → (a < a1 ∧ a1 ≤ Z ∧ R ≤ R1 ∧ k9 < a1 ∧ k9 ≤ 240) → (SQI cy ad T Z 5 (seqS T Z a u R Ec 5 A nm) (slotOf A cq) R Ec S u A Bw la a1 u1 R1 E1 S1 A1 B1 n1 mem9) → (TOK R R1 to to1) → (∀ i9, i9 < R → mem9 (7 + i9) = mem (7 + i9)) → (va_P D vcl (fw n ad mem9) H) → (va_D (Az sz) (fw n ad mem9)) → (va_S (Az sz) s.heap H locs) → (lv_has ls 5 [(4, .int (nI k9)), (3, .ref (ad (20 + 2 * la))), (2, .ref (ad (20 + 2 * Ec))), (0, .ref (ad 222)), (1, .int (5))]) → W p l e (headSpec (Cond.code y_Rd_readSequence c_Rd_readSequence 5 (some (.object "AbnfChart$Element")) :: tg) ({ frames := 24, cells := 1, slots := 6, locals := 562 } : Room)).room s m [.ref (ad 222), .int (5)].toArray below meth c H locs 0 0 (vx_MQ below (QX (QR (fun r mem' => ∃ (a' u' R' E' S' : Nat) (A' Bw' : Ro) (nm' : Nat → Int64) (to' : Nat → Int32), r = ad (20 + 2 * Ec) ∧ Ec < E' ∧ R ≤ R' ∧ a < a' ∧ a' ≤ Z ∧ TOK R R' to to' ∧ (∀ i9, i9 < R → mem' (7 + i9) = mem (7 + i9)) ∧ RX cy ad lim (gapF T Z a') R' E' to' nm' m0 mem' ∧ RDS cy ad T Z 5 (seqS T Z a u R Ec 5 A nm) (slotOf A cq) R Ec S u A Bw Ec a' u' R' E' S' A' Bw' nm' mem' ∧ ¬ (bgF (hereF Z T (gapF T Z a')) = true ∧ a' < gapF T Z a')) (PP D n ad) (Az sz))) (XQ D sz n ad (fun X mem' => ((X = cIA ∨ X = cIS) ∧ ∃ rc' ec' : Nat, RS cy ad lim rc' ec' m0 mem') ∧ (Fai T Z (seqS T Z a u R Ec 5 A nm)))) [.ref (ad 222), .int (5)].toArray s 1 6 (Az sz)) (F0 m 20 ls []) := by
    intro d98
    induction d98 with
    | zero => intro mem9 a1 u1 R1 E1 S1 A1 B1 n1 to1 la k9 ls H locs hmeas105; exact absurd hmeas105 (Nat.not_lt_zero _)
    | succ d98 ih104 =>
      intro mem9 a1 u1 R1 E1 S1 A1 B1 n1 to1 la k9 ls H locs hmeas105 hz99 hz100 hz101 hz102 hz103 hP hD hS hl
      have hbd8 := hz100
      have hsq := hz101
      have hbdE := hz99.1.1.1
      have hla := hsq.2.2.2
      have hSa1 := hsq.1.2.2.2.1.2.1
      have hlka := sqi_lka hsq hLK hsl9
      obtain ⟨ft106, h9_107⟩ := hz99.2.1
      have h1_108 : mem9 1 = .inr (0, [.ref (ad 2), .int (nI Z)]) := (hz99.1.2.2 1 (by omega)).trans hT.1
      have h2_109 : mem9 2 = .inl (cy 0, 240, .inl f) := (hz99.1.2.2 2 (by omega)).trans hT.2.2
      have h5_110 := hz99.1.1.2.1
      have hbd116 := hz99.1.1.1
      obtain ⟨S111, g112, hS_113, h220_114, h221_115⟩ := hz99.1.1.2.2.2.2.2.2
      refine lv_iload Bx.1 Bx.2.1 d_Rd_readSequence_20 (lv_at hl 0 rfl) ?_
      refine lv_sipush (v := 240) Bx.1 Bx.2.1 d_Rd_readSequence_22 (by decide) ?_
      refine lv_icmp_ge Bx.1 Bx.2.1 d_Rd_readSequence_25 rfl (fun hb117 => ?_) (fun hb117 => ?_)
      · have hN118 : 240 ≤ k9 := (nI_leI (by omega) (by omega)).mp (show nI (240) ≤ nI (k9) from hb117)
        exact absurd hbd8 (by omega)
      · have hN119 : ¬ 240 ≤ k9 := fun q9 => hb117 (show nI (240) ≤ nI (k9) from (nI_leI (by omega) (by omega)).mpr q9)
        refine lv_aload_n Bx.1 Bx.2.1 d_Rd_readSequence_28 rfl (lv_at hl 3 rfl) ?_
        refine f_callVi (na := 0) (As := []) (rest := []) Bx hml E hP hD hS (by omega) h9_107 rfl (m_Rd_readGapY l hn hT hf hz99 (by omega) (by omega)) kw_397 kw_399 sel_Rd_readGap kw_6 kw_400 (by decide +kernel) ⟨rfl, rfl⟩ ⟨Nat.le_of_ble_eq_true rfl, Nat.le_of_ble_eq_true rfl⟩ rfl hl.1 (Nat.le_of_ble_eq_true rfl) d_Rd_readSequence_29 ⟨Nat.le_of_ble_eq_true rfl, Nat.le_of_ble_eq_true rfl⟩ (fun r120 mem121 H locs hq hP hS => ?_)
        have hD : va_D (Az sz) (fw n ad mem121) := fw_D hD
        obtain ⟨g122, eg123⟩ : ∃ z, z = gapF T Z (a1) := ⟨_, rfl⟩
        rw [← eg123] at hq
        obtain ⟨hRX124, hgc125, hfa126⟩ := hq
        have hg127 : a1 ≤ g122 := by rw [eg123]; exact gapF_ge T Z _
        have hg128 : g122 ≤ Z := by rw [eg123]; exact gapF_le T (by omega)
        have hrk129 : ∀ i9, i9 < R → mem121 (7 + i9) = mem (7 + i9) := fun i9 q9 => (hfa126 (7 + i9) (by omega)).trans (hz103 i9 q9)
        obtain ⟨ft130, h9_131⟩ := hRX124.2.1
        have h1_132 : mem121 1 = .inr (0, [.ref (ad 2), .int (nI Z)]) := (hRX124.1.2.2 1 (by omega)).trans hT.1
        have h2_133 : mem121 2 = .inl (cy 0, 240, .inl f) := (hRX124.1.2.2 2 (by omega)).trans hT.2.2
        have h5_134 := hRX124.1.1.2.1
        have hbd140 := hRX124.1.1.1
        obtain ⟨S135, g136, hS_137, h220_138, h221_139⟩ := hRX124.1.1.2.2.2.2.2.2
        have her141 : ER ad (R1) (E1) (B1) mem121 := hsq.1.2.1.fr (Nat.le_refl _) (fun i9 hi9 => hfa126 _ (by omega))
        have hsr142 : SR cy ad (S1) (B1) mem121 := ⟨(show mem121 220 = _ from hfa126 _ (by omega)).trans hsq.1.2.2.1.1, (show mem121 221 = _ from hfa126 _ (by omega)).trans hsq.1.2.2.1.2⟩
        rcases hgc125 with ⟨hr143, hga144⟩ | ⟨hr143, hga144⟩
        · subst hr143
          refine lv_if_eq Bx.1 Bx.2.1 d_Rd_readSequence_32 rfl (fun hb145 => ?_) (fun hb145 => ?_)
          · exact absurd hb145 (by decide)
          · refine lv_aload_n Bx.1 Bx.2.1 d_Rd_readSequence_35 rfl (lv_at hl 3 rfl) ?_
            refine f_callVi (na := 0) (As := []) (rest := []) Bx hml E hP hD hS (by omega) h9_131 rfl (m_Rd_peekX l hn hT hf hRX124 (by omega)) kw_353 kw_355 sel_Rd_peek kw_6 kw_356 (by decide +kernel) ⟨rfl, rfl⟩ ⟨Nat.le_of_ble_eq_true rfl, Nat.le_of_ble_eq_true rfl⟩ rfl hl.1 (Nat.le_of_ble_eq_true rfl) d_Rd_readSequence_36 ⟨Nat.le_of_ble_eq_true rfl, Nat.le_of_ble_eq_true rfl⟩ (fun r147 mem148 H locs hq hP hS => ?_)
            have hD : va_D (Az sz) (fw n ad mem148) := fw_D hD
            obtain ⟨hqe, hpk146⟩ := hq
            rw [hqe] at hP hD
            subst hpk146
            refine f_callSi (na := 1) (As := [.int (hereF Z T (g122))]) (rest := []) Bx hml E.2.1 (m_Rd_beginsRepetitionX l (hereF Z T (g122))) kw_413 kw_414 kw_6 kw_415 (by decide +kernel) ⟨rfl, rfl⟩ ⟨Nat.le_of_ble_eq_true rfl, Nat.le_of_ble_eq_true rfl⟩ rfl hl.1 (Nat.le_of_ble_eq_true rfl) d_Rd_readSequence_39 ⟨Nat.le_of_ble_eq_true rfl, Nat.le_of_ble_eq_true rfl⟩ (fun r151 hs150 => ?_)
            subst hs150
            refine lv_if_eq Bx.1 Bx.2.1 d_Rd_readSequence_42 rfl (fun hb152 => ?_) (fun hb152 => ?_)
            · refine lv_aload_n Bx.1 Bx.2.1 d_Rd_readSequence_65 rfl (lv_at hl 2 rfl) ?_
              exact x_aret hx hb hlocks hr (⟨a1, u1, R1, E1, S1, A1, B1, n1, to1, rfl, by omega, by omega, by omega, by omega, hz102, hrk129, by rw [← eg123]; exact hRX124, ⟨hsq.1.1, her141, hsr142, hsq.1.2.2.2⟩, fun z => by have q9 := z.1; rw [← eg123, bg_0 hb152] at q9; exact absurd q9 (by decide)⟩) hP hS d_Rd_readSequence_66
            · have hbg2 : bgF (hereF Z T (gapF T Z a1)) = true := by rw [← eg123]; exact bg_1 hb152
              have hgt2 : a1 < gapF T Z a1 := by rw [← eg123]; omega
              have h238 := hsq.2.1
              have h239 : A1 239 5 = -1 := hsq.1.2.2.2.2.2.2.2.2.2.2
              refine lv_aload_n Bx.1 Bx.2.1 d_Rd_readSequence_45 rfl (lv_at hl 1 rfl) ?_
              refine lv_aload_n Bx.1 Bx.2.1 d_Rd_readSequence_46 rfl (lv_at hl 3 rfl) ?_
              refine lv_iload_n Bx.1 Bx.2.1 d_Rd_readSequence_47 rfl (lv_at hl 4 rfl) ?_
              refine f_xVr (na := 1) (As := [.int (5)]) (rest := [.ref (ad (20 + 2 * la))]) Bx hml E hP hD hS (by omega) h9_131 rfl (m_Rd_readRepetition_5Y l hlt hn hT hf hRX124 (by omega) (u := u1) (A := A1) her141 hsr142 (by omega) (by omega) hlka ⟨⟨Ec, by omega, h238⟩, Or.inl h239⟩ h239 (by rw [eg123]; exact hbg2)) kw_439 kw_441 sel_Rd_readRepetition kw_6 kw_442 (by decide +kernel) ⟨rfl, rfl⟩ ⟨Nat.le_of_ble_eq_true rfl, Nat.le_of_ble_eq_true rfl⟩ rfl hl.1 (Nat.le_of_ble_eq_true rfl) d_Rd_readSequence_48 ⟨Nat.le_of_ble_eq_true rfl, Nat.le_of_ble_eq_true rfl⟩ (fun X ce q9 memx H locs hx9 hP hS g1 g2 g3 => f_out hlocks hno hP hS g1 g2 g3 ⟨Nat.le_of_ble_eq_true rfl, Nat.le_of_ble_eq_true rfl⟩ ⟨hx9.1, hsq.1.1.fai (go_rept hbg2 hgt2) (by rw [← eg123]; exact hx9.2)⟩) (fun r153 mem154 H locs hq hP hS => ?_)
              have hD : va_D (Az sz) (fw n ad mem154) := fw_D hD
              obtain ⟨kx155, ax156, ux157, Rx158, Ex159, Sx160, Ax161, Bx_162, nx163, tox164, hr9165, h1166, h2167, h3168, h4169, h5170, htk171, hrk172, hRX173, rds174, h8175⟩ := hq
              subst hr9165
              have hrk176 : ∀ i9, i9 < R → mem154 (7 + i9) = mem (7 + i9) := fun i9 q9 => (hrk172 i9 (by omega)).trans (hrk129 i9 q9)
              obtain ⟨ft177, h9_178⟩ := hRX173.2.1
              have h1_179 : mem154 1 = .inr (0, [.ref (ad 2), .int (nI Z)]) := (hRX173.1.2.2 1 (by omega)).trans hT.1
              have h2_180 : mem154 2 = .inl (cy 0, 240, .inl f) := (hRX173.1.2.2 2 (by omega)).trans hT.2.2
              have h5_181 := hRX173.1.1.2.1
              have hbd187 := hRX173.1.1.1
              obtain ⟨S182, g183, hS_184, h220_185, h221_186⟩ := hRX173.1.1.2.2.2.2.2.2
              have hbd188 := hRX173.1.1.1
              have hce189 := (rds174.2.1 la (by omega)).1
              refine f_putN Bx hP hD hS (by omega) hce189 rfl inEl tyEl okEl nmEl 5 (by decide) kw_91 rfl rfl rfl rfl (Nat.le_of_ble_eq_true rfl) d_Rd_readSequence_51 (fun H locs hP hS => ?_)
              obtain ⟨mem190, e_mem190⟩ : ∃ z, z = va_up mem154 ((20 + 2 * la)) (.inr (2, [.int (Bx_162 228 la), .int (Bx_162 229 la), .int (Bx_162 230 la), vR ad (Bx_162 231 la), vE ad (Bx_162 232 la), .ref (ad (20 + 2 * kx155)), .ref (ad (21 + 2 * la))])) := ⟨_, rfl⟩
              have hP : va_P D vcl (fw n ad mem190) H := by rw [e_mem190]; exact hP
              have hD : va_D (Az sz) (fw n ad mem190) := fw_D hD
              have h_mem190 : mem190 ((20 + 2 * la)) = .inr (2, [.int (Bx_162 228 la), .int (Bx_162 229 la), .int (Bx_162 230 la), vR ad (Bx_162 231 la), vE ad (Bx_162 232 la), .ref (ad (20 + 2 * kx155)), .ref (ad (21 + 2 * la))]) := by rw [e_mem190, va_up_self]
              have hh191 := (va_up_ne mem154 (.inr (2, [.int (Bx_162 228 la), .int (Bx_162 229 la), .int (Bx_162 230 la), vR ad (Bx_162 231 la), vE ad (Bx_162 232 la), .ref (ad (20 + 2 * kx155)), .ref (ad (21 + 2 * la))])) (show (222 : Nat) ≠ (20 + 2 * la) by first | decide | assumption | omega)).trans h9_178
              rw [← e_mem190] at hh191
              have hh192 := (va_up_ne mem154 (.inr (2, [.int (Bx_162 228 la), .int (Bx_162 229 la), .int (Bx_162 230 la), vR ad (Bx_162 231 la), vE ad (Bx_162 232 la), .ref (ad (20 + 2 * kx155)), .ref (ad (21 + 2 * la))])) (show (1 : Nat) ≠ (20 + 2 * la) by first | decide | assumption | omega)).trans h1_179
              rw [← e_mem190] at hh192
              have hh193 := (va_up_ne mem154 (.inr (2, [.int (Bx_162 228 la), .int (Bx_162 229 la), .int (Bx_162 230 la), vR ad (Bx_162 231 la), vE ad (Bx_162 232 la), .ref (ad (20 + 2 * kx155)), .ref (ad (21 + 2 * la))])) (show (5 : Nat) ≠ (20 + 2 * la) by first | decide | assumption | omega)).trans h5_181
              rw [← e_mem190] at hh193
              have hh194 := (va_up_ne mem154 (.inr (2, [.int (Bx_162 228 la), .int (Bx_162 229 la), .int (Bx_162 230 la), vR ad (Bx_162 231 la), vE ad (Bx_162 232 la), .ref (ad (20 + 2 * kx155)), .ref (ad (21 + 2 * la))])) (show (220 : Nat) ≠ (20 + 2 * la) by first | decide | assumption | omega)).trans h220_185
              rw [← e_mem190] at hh194
              have hrk195 : ∀ i9, i9 < R → mem190 (7 + i9) = mem (7 + i9) := fun i9 q9 => (show mem190 (7 + i9) = mem154 (7 + i9) by rw [e_mem190]; exact va_up_ne _ _ (by omega)).trans (hrk176 i9 q9)
              have hRX196 : RX cy ad lim (ax156) (Rx158) (Ex159) (tox164) (nx163) m0 mem190 := by rw [e_mem190]; exact hRX173.el (by omega) (hRX173.1.mk (by omega) (hRX173.1.1.upEl (by omega) (fun _ => ⟨(rds174.2.1 la (by omega)).2.1.oR ad, (rds174.2.1 la (by omega)).2.2.1.oE ad (by omega), Or.inr ⟨kx155, by omega, by omega, rfl⟩⟩)))
              have her197 : ER ad (Rx158) (Ex159) (va_up Bx_162 233 (upd (Bx_162 233) la (nI kx155))) mem190 := rds174.2.1.next (by omega) (by omega) (by omega) h_mem190 (fun i9 q9 hi9 => by rw [e_mem190]; exact va_up_ne _ _ (by omega))
              have hsr198 : SR cy ad (Sx160) (Bx_162) mem190 := ⟨(show mem190 220 = mem154 220 by rw [e_mem190]; exact va_up_ne _ _ (by omega)).trans rds174.2.2.1.1, (show mem190 221 = mem154 221 by rw [e_mem190]; exact va_up_ne _ _ (by omega)).trans rds174.2.2.1.2⟩
              obtain ⟨ft199, h9_200⟩ := hRX196.2.1
              have h1_201 : mem190 1 = .inr (0, [.ref (ad 2), .int (nI Z)]) := (hRX196.1.2.2 1 (by omega)).trans hT.1
              have h2_202 : mem190 2 = .inl (cy 0, 240, .inl f) := (hRX196.1.2.2 2 (by omega)).trans hT.2.2
              have h5_203 := hRX196.1.1.2.1
              have hbd209 := hRX196.1.1.1
              obtain ⟨S204, g205, hS_206, h220_207, h221_208⟩ := hRX196.1.1.2.2.2.2.2.2
              refine lv_aload_n Bx.1 Bx.2.1 d_Rd_readSequence_54 rfl (lv_at hl 1 rfl) ?_
              refine f_getN Bx hP (by omega) h_mem190 rfl inEl 5 (by decide) kw_91 rfl rfl d_Rd_readSequence_55 ?_
              refine lv_astore_n (lv' := [(3, .ref (ad (20 + 2 * kx155))), (4, .int (nI k9)), (2, .ref (ad (20 + 2 * Ec))), (0, .ref (ad 222)), (1, .int (5))]) Bx.1 Bx.2.1 d_Rd_readSequence_58 rfl hl (by decide) rfl (fun ls hl => ?_)
              refine lv_iinc (lv' := [(4, .int ((nI k9 + (1)))), (3, .ref (ad (20 + 2 * kx155))), (2, .ref (ad (20 + 2 * Ec))), (0, .ref (ad 222)), (1, .int (5))]) Bx.1 Bx.2.1 d_Rd_readSequence_59 hl (k := 1) rfl rfl (by decide) rfl (fun ls hl => ?_)
              rw [show (nI k9 + (1) : Int32) = nI (k9 + 1) from nI_1 (k9)] at hl
              refine lv_goto Bx.1 Bx.2.1 d_Rd_readSequence_62 rfl ?_
              have hsq3 := seq_step hsq (by omega) hlka (by omega) hsl9 rds174 h8175 ⟨by omega, by omega⟩ (by omega) (by rw [eg123]; exact go_rept hbg2 hgt2) her197 hsr198
              exact ih104 mem190 (ax156) (ux157) (Rx158) (Ex159) (Sx160) (Ax161) ((va_up Bx_162 233 (upd (Bx_162 233) la (nI kx155)))) (nx163) (tox164) (kx155) (k9 + 1) _ _ _ (by have := hmeas105; omega) (hRX196) (⟨by omega, by omega, by omega, by omega, by omega⟩) (hsq3) (hz102.trans htk171 (by omega)) (hrk195) hP hD hS (lv_sub hl [0, 1, 2, 3, 4] rfl)
        · subst hr143
          refine lv_if_eq Bx.1 Bx.2.1 d_Rd_readSequence_32 rfl (fun hb210 => ?_) (fun hb210 => ?_)
          · refine lv_aload_n Bx.1 Bx.2.1 d_Rd_readSequence_65 rfl (lv_at hl 2 rfl) ?_
            exact x_aret hx hb hlocks hr (⟨a1, u1, R1, E1, S1, A1, B1, n1, to1, rfl, by omega, by omega, by omega, by omega, hz102, hrk129, by rw [← eg123]; exact hRX124, ⟨hsq.1.1, her141, hsr142, hsq.1.2.2.2⟩, fun z => by have := z.2; rw [← eg123] at this; omega⟩) hP hS d_Rd_readSequence_66
          · exact absurd hb210 (by decide)
  exact loop97 _ mem77 (ax43) (ux44) (Rx45) (Ex46) (Sx47) (Ax48) ((va_up Bx_49 232 (upd (Bx_49 232) Ec (nI kx42)))) (nx50) (tox51) (kx42) (0) _ _ _ (Nat.lt_succ_self _) (hRX83) (⟨by omega, by omega, by omega, by omega, by omega⟩) (hsq0) (htk58) (hrk82) hP hD hS (lv_sub hl [0, 1, 2, 3, 4] rfl)
set_option maxHeartbeats 4000000 in
set_option maxRecDepth 100000 in
theorem m_Rd_readAlternatives_5Y (l : Launch) {D : va_G} {cy : Nat → ClassId} {sz n : Nat} {ad : Nat → Nat} {mem : Nat → va_E} {Z a R Ec lim : Nat} {f T : Nat → Int32} {to : Nat → Int32} {nm : Nat → Int64} {m0 : Nat → va_E} {u S : Nat} {A Bw : Ro} {cq : Nat} (hlt : l.stackTraces = false) (hn : 224 ≤ n) (hT : TX cy ad Z f m0) (hf : ∀ k, k < Z → f k = T k) (hRX : RX cy ad lim a R Ec to nm m0 mem) (haB : a ≤ 300) (hER : ER ad R Ec Bw mem) (hSR : SR cy ad S Bw mem) (hSa : S ≤ a) (haZ : a ≤ Z) (hLK : LKa (Ec + 1) A) (hc : A 237 5 = nI cq) (hcl : cq ≤ Ec) (h39 : A 239 5 = -1) : NXr l D cy sz n ad y_Rd_readAlternatives c_Rd_readAlternatives 5 (some (.object "AbnfChart$Element")) ({ frames := 25, cells := 1, slots := 6, locals := 588 } : Room) mem [.ref (ad 222), .int (5)] (fun r mem' => ∃ (la a' u' R' E' S' : Nat) (A' Bw' : Ro) (nm' : Nat → Int64) (to' : Nat → Int32), r = ad (20 + 2 * Ec) ∧ Ec + 1 < E' ∧ R ≤ R' ∧ a < a' ∧ a' ≤ Z ∧ TOK R R' to to' ∧ (∀ i9, i9 < R → mem' (7 + i9) = mem (7 + i9)) ∧ RX cy ad lim (gapF T Z a') R' E' to' nm' m0 mem' ∧ ALI cy ad T Z 5 (seqS T Z a u R (Ec + 1) 5 A nm) cq R Ec S u A Bw la a' u' R' E' S' A' Bw' nm' mem' ∧ bgF (hereF Z T a) = true ∧ Ec < 100 ∧ ¬ hereF Z T (gapF T Z a') = 47 ∧ ¬ (bgF (hereF Z T (gapF T Z a')) = true ∧ a' < gapF T Z a')) (fun X mem' => ((X = cIA ∨ X = cIS) ∧ ∃ rc' ec' : Nat, RS cy ad lim rc' ec' m0 mem') ∧ (bgF (hereF Z T a) = false ∨ Ec = 100 ∨ (bgF (hereF Z T a) = true ∧ Ec < 100 ∧ Fai T Z (seqS T Z a u R (Ec + 1) 5 A nm)))) := by
  refine vx_ofW (cc := c_Rd_readAlternatives) (maxL := 5) (ret := (some (.object "AbnfChart$Element"))) (by decide) rfl ?_
  intro p e s m args below meth c s₁ B hml hno hv
  obtain ⟨rfl, E, hP, hD⟩ := hv
  have hx := B.exec
  have hb := B.bytes
  have hr := B.returns
  have hlocks := B.notSynchronized
  have Bx : MB p s m [.ref (ad 222), .int (5)].toArray c c_Rd_readAlternatives "AbnfChart$Reader" D cy := ⟨hx, hb, tb_all (atoms_spec B.pre) E.2.1, findClass_of_methodNamed B.named, E.1⟩
  have hS : va_S (Az sz) s.heap s.heap [] := va_S.rf
  have hl := lv_entry ([.ref (ad 222), .int (5)]) (n := 5) (Nat.le_of_ble_eq_true rfl)
  rw [lg_entry_eq]
  generalize (lg_sl ([.ref (ad 222), .int (5)]) ++ List.replicate (5 - (lg_sl ([.ref (ad 222), .int (5)])).length) Slot.unset).toArray = ls at hl ⊢
  have hl : lv_has ls 5 [(0, .ref (ad 222)), (1, .int (5))] := hl
  have hZ9 := hT.2.1
  have hbd9 := hRX.1.1.1
  have hfr0 : ∀ i, 7 ≤ i ∧ i < 222 ∧ i ≠ 20 + 2 * Ec → mem i = mem i := fun _ _ => rfl
  have hrk0 : ∀ i9, i9 < R → mem (7 + i9) = mem (7 + i9) := fun _ _ => rfl
  obtain ⟨ft1, h9_2⟩ := hRX.2.1
  have h1_3 : mem 1 = .inr (0, [.ref (ad 2), .int (nI Z)]) := (hRX.1.2.2 1 (by omega)).trans hT.1
  have h2_4 : mem 2 = .inl (cy 0, 240, .inl f) := (hRX.1.2.2 2 (by omega)).trans hT.2.2
  have h5_5 := hRX.1.1.2.1
  have hbd11 := hRX.1.1.1
  obtain ⟨S6, g7, hS_8, h220_9, h221_10⟩ := hRX.1.1.2.2.2.2.2.2
  refine lv_aload_n Bx.1 Bx.2.1 d_Rd_readAlternatives_0 rfl (lv_at hl 0 rfl) ?_
  refine lv_iconst (v := 0) Bx.1 Bx.2.1 d_Rd_readAlternatives_1 (by decide) ?_
  refine f_xVr (na := 1) (As := [.int (0)]) (rest := []) Bx hml E hP hD hS (by omega) h9_2 rfl (m_Rd_beginRowY l hlt hn hT hf hRX (by omega)) kw_409 kw_411 sel_Rd_beginRow kw_6 kw_412 (by decide +kernel) ⟨rfl, rfl⟩ ⟨Nat.le_of_ble_eq_true rfl, Nat.le_of_ble_eq_true rfl⟩ rfl hl.1 (Nat.le_of_ble_eq_true rfl) d_Rd_readAlternatives_2 ⟨Nat.le_of_ble_eq_true rfl, Nat.le_of_ble_eq_true rfl⟩ (fun X ce q9 memx H locs hx9 hP hS g1 g2 g3 => f_out hlocks hno hP hS g1 g2 g3 ⟨Nat.le_of_ble_eq_true rfl, Nat.le_of_ble_eq_true rfl⟩ ⟨hx9.1, hx9.2.elim Or.inl (fun z => Or.inr (Or.inl z))⟩) (fun r12 mem13 H locs hq hP hS => ?_)
  have hD : va_D (Az sz) (fw n ad mem13) := fw_D hD
  obtain ⟨hbg, hE9, hr9, hRXb, hclb, hfab⟩ := hq
  subst hr9
  have hrk14 : ∀ i9, i9 < R → mem13 (7 + i9) = mem (7 + i9) := fun i9 q9 => (hfab (7 + i9) (by omega)).trans (hrk0 i9 q9)
  have hfr15 : ∀ i, 7 ≤ i ∧ i < 222 ∧ i ≠ 20 + 2 * Ec → mem13 i = mem i := fun i q => (hfab i (by omega)).trans (hfr0 i q)
  obtain ⟨ft16, h9_17⟩ := hRXb.2.1
  have h1_18 : mem13 1 = .inr (0, [.ref (ad 2), .int (nI Z)]) := (hRXb.1.2.2 1 (by omega)).trans hT.1
  have h2_19 : mem13 2 = .inl (cy 0, 240, .inl f) := (hRXb.1.2.2 2 (by omega)).trans hT.2.2
  have h5_20 := hRXb.1.1.2.1
  have hbd26 := hRXb.1.1.1
  obtain ⟨S21, g22, hS_23, h220_24, h221_25⟩ := hRXb.1.1.2.2.2.2.2.2
  obtain ⟨ft27, h9_28⟩ := hRXb.2.1
  have h1_29 : mem13 1 = .inr (0, [.ref (ad 2), .int (nI Z)]) := (hRXb.1.2.2 1 (by omega)).trans hT.1
  have h2_30 : mem13 2 = .inl (cy 0, 240, .inl f) := (hRXb.1.2.2 2 (by omega)).trans hT.2.2
  have h5_31 := hRXb.1.1.2.1
  have hbd37 := hRXb.1.1.1
  obtain ⟨S32, g33, hS_34, h220_35, h221_36⟩ := hRXb.1.1.2.2.2.2.2.2
  refine lv_astore_n (lv' := [(2, .ref (ad (20 + 2 * Ec))), (0, .ref (ad 222)), (1, .int (5))]) Bx.1 Bx.2.1 d_Rd_readAlternatives_5 rfl hl (by decide) rfl (fun ls hl => ?_)
  refine lv_aload_n Bx.1 Bx.2.1 d_Rd_readAlternatives_6 rfl (lv_at hl 1 rfl) ?_
  refine lv_iload_n Bx.1 Bx.2.1 d_Rd_readAlternatives_7 rfl (lv_at hl 2 rfl) ?_
  have her38 : ER ad R (Ec + 1) (bwN Bw Ec 0 (0) (0) (-1) (-1) (-1) (Bw 234)) mem13 := hER.new (Nat.le_refl _) (by rw [vR_m]; exact hclb) (Or.inl rfl) (fun i9 hi9 => hfr15 (20 + 2 * i9) (by omega))
  have hsr39 : SR cy ad S (bwN Bw Ec 0 (0) (0) (-1) (-1) (-1) (Bw 234)) mem13 := ⟨(hfr15 220 (by omega)).trans hSR.1, (hfr15 221 (by omega)).trans hSR.2⟩
  refine f_xVr (na := 1) (As := [.int (5)]) (rest := []) Bx hml E hP hD hS (by omega) h9_28 rfl (m_Rd_readSequence_5Y l hlt hn hT hf hRXb (by omega) (u := u) (A := A) her38 hsr39 (by omega) (by omega) hLK hc (by omega) h39) kw_435 kw_437 sel_Rd_readSequence kw_6 kw_438 (by decide +kernel) ⟨rfl, rfl⟩ ⟨Nat.le_of_ble_eq_true rfl, Nat.le_of_ble_eq_true rfl⟩ rfl hl.1 (Nat.le_of_ble_eq_true rfl) d_Rd_readAlternatives_8 ⟨Nat.le_of_ble_eq_true rfl, Nat.le_of_ble_eq_true rfl⟩ (fun X ce q9 memx H locs hx9 hP hS g1 g2 g3 => f_out hlocks hno hP hS g1 g2 g3 ⟨Nat.le_of_ble_eq_true rfl, Nat.le_of_ble_eq_true rfl⟩ ⟨hx9.1, Or.inr (Or.inr ⟨hbg, hE9, hx9.2⟩)⟩) (fun r40 mem41 H locs hq hP hS => ?_)
  have hD : va_D (Az sz) (fw n ad mem41) := fw_D hD
  obtain ⟨ax42, ux43, Rx44, Ex45, Sx46, Ax47, Bx_48, nx49, tox50, hr951, h252, h353, h454, h555, htk56, hrk57, hRX58, rds59, hnb60⟩ := hq
  subst hr951
  have hrk61 : ∀ i9, i9 < R → mem41 (7 + i9) = mem (7 + i9) := fun i9 q9 => (hrk57 i9 (by omega)).trans (hrk14 i9 q9)
  obtain ⟨g62, eg63⟩ : ∃ z, z = gapF T Z ax42 := ⟨_, rfl⟩
  have hg64 : ax42 ≤ g62 := by rw [eg63]; exact gapF_ge T Z _
  have hg65 : g62 ≤ Z := by rw [eg63]; exact gapF_le T (by omega)
  rw [← eg63] at hRX58
  obtain ⟨ft66, h9_67⟩ := hRX58.2.1
  have h1_68 : mem41 1 = .inr (0, [.ref (ad 2), .int (nI Z)]) := (hRX58.1.2.2 1 (by omega)).trans hT.1
  have h2_69 : mem41 2 = .inl (cy 0, 240, .inl f) := (hRX58.1.2.2 2 (by omega)).trans hT.2.2
  have h5_70 := hRX58.1.1.2.1
  have hbd76 := hRX58.1.1.1
  obtain ⟨S71, g72, hS_73, h220_74, h221_75⟩ := hRX58.1.1.2.2.2.2.2.2
  have hbd77 := hRX58.1.1.1
  refine lv_astore_n (lv' := [(3, .ref (ad (20 + 2 * (Ec + 1)))), (2, .ref (ad (20 + 2 * Ec))), (0, .ref (ad 222)), (1, .int (5))]) Bx.1 Bx.2.1 d_Rd_readAlternatives_11 rfl hl (by decide) rfl (fun ls hl => ?_)
  refine lv_aload_n Bx.1 Bx.2.1 d_Rd_readAlternatives_12 rfl (lv_at hl 1 rfl) ?_
  refine lv_aload_n Bx.1 Bx.2.1 d_Rd_readAlternatives_13 rfl (lv_at hl 0 rfl) ?_
  have hce78 := (rds59.2.1 Ec (by omega)).1
  refine f_putN Bx hP hD hS (by omega) hce78 rfl inEl tyEl okEl nmEl 4 (by decide) kw_87 rfl rfl rfl rfl (Nat.le_of_ble_eq_true rfl) d_Rd_readAlternatives_14 (fun H locs hP hS => ?_)
  obtain ⟨mem79, e_mem79⟩ : ∃ z, z = va_up mem41 ((20 + 2 * Ec)) (.inr (2, [.int (Bx_48 228 Ec), .int (Bx_48 229 Ec), .int (Bx_48 230 Ec), vR ad (Bx_48 231 Ec), .ref (ad (20 + 2 * (Ec + 1))), vE ad (Bx_48 233 Ec), .ref (ad (21 + 2 * Ec))])) := ⟨_, rfl⟩
  have hP : va_P D vcl (fw n ad mem79) H := by rw [e_mem79]; exact hP
  have hD : va_D (Az sz) (fw n ad mem79) := fw_D hD
  have h_mem79 : mem79 ((20 + 2 * Ec)) = .inr (2, [.int (Bx_48 228 Ec), .int (Bx_48 229 Ec), .int (Bx_48 230 Ec), vR ad (Bx_48 231 Ec), .ref (ad (20 + 2 * (Ec + 1))), vE ad (Bx_48 233 Ec), .ref (ad (21 + 2 * Ec))]) := by rw [e_mem79, va_up_self]
  have hh80 := (va_up_ne mem41 (.inr (2, [.int (Bx_48 228 Ec), .int (Bx_48 229 Ec), .int (Bx_48 230 Ec), vR ad (Bx_48 231 Ec), .ref (ad (20 + 2 * (Ec + 1))), vE ad (Bx_48 233 Ec), .ref (ad (21 + 2 * Ec))])) (show (222 : Nat) ≠ (20 + 2 * Ec) by first | decide | assumption | omega)).trans h9_67
  rw [← e_mem79] at hh80
  have hh81 := (va_up_ne mem41 (.inr (2, [.int (Bx_48 228 Ec), .int (Bx_48 229 Ec), .int (Bx_48 230 Ec), vR ad (Bx_48 231 Ec), .ref (ad (20 + 2 * (Ec + 1))), vE ad (Bx_48 233 Ec), .ref (ad (21 + 2 * Ec))])) (show (1 : Nat) ≠ (20 + 2 * Ec) by first | decide | assumption | omega)).trans h1_68
  rw [← e_mem79] at hh81
  have hh82 := (va_up_ne mem41 (.inr (2, [.int (Bx_48 228 Ec), .int (Bx_48 229 Ec), .int (Bx_48 230 Ec), vR ad (Bx_48 231 Ec), .ref (ad (20 + 2 * (Ec + 1))), vE ad (Bx_48 233 Ec), .ref (ad (21 + 2 * Ec))])) (show (5 : Nat) ≠ (20 + 2 * Ec) by first | decide | assumption | omega)).trans h5_70
  rw [← e_mem79] at hh82
  have hh83 := (va_up_ne mem41 (.inr (2, [.int (Bx_48 228 Ec), .int (Bx_48 229 Ec), .int (Bx_48 230 Ec), vR ad (Bx_48 231 Ec), .ref (ad (20 + 2 * (Ec + 1))), vE ad (Bx_48 233 Ec), .ref (ad (21 + 2 * Ec))])) (show (220 : Nat) ≠ (20 + 2 * Ec) by first | decide | assumption | omega)).trans h220_74
  rw [← e_mem79] at hh83
  have hrk84 : ∀ i9, i9 < R → mem79 (7 + i9) = mem (7 + i9) := fun i9 q9 => (show mem79 (7 + i9) = mem41 (7 + i9) by rw [e_mem79]; exact va_up_ne _ _ (by omega)).trans (hrk61 i9 q9)
  have hRX85 : RX cy ad lim (g62) (Rx44) (Ex45) (tox50) (nx49) m0 mem79 := by rw [e_mem79]; exact hRX58.el (by omega) (hRX58.1.mk (by omega) (hRX58.1.1.upEl (by omega) (fun _ => ⟨(rds59.2.1 Ec (by omega)).2.1.oR ad, Or.inr ⟨(Ec + 1), by omega, by omega, rfl⟩, (rds59.2.1 Ec (by omega)).2.2.2.oE ad (by omega)⟩)))
  have her86 : ER ad (Rx44) (Ex45) (va_up Bx_48 232 (upd (Bx_48 232) Ec (nI (Ec + 1)))) mem79 := rds59.2.1.part (by omega) (by omega) (by omega) h_mem79 (fun i9 q9 hi9 => by rw [e_mem79]; exact va_up_ne _ _ (by omega))
  have hsr87 : SR cy ad (Sx46) (Bx_48) mem79 := ⟨(show mem79 220 = mem41 220 by rw [e_mem79]; exact va_up_ne _ _ (by omega)).trans rds59.2.2.1.1, (show mem79 221 = mem41 221 by rw [e_mem79]; exact va_up_ne _ _ (by omega)).trans rds59.2.2.1.2⟩
  obtain ⟨ft88, h9_89⟩ := hRX85.2.1
  have h1_90 : mem79 1 = .inr (0, [.ref (ad 2), .int (nI Z)]) := (hRX85.1.2.2 1 (by omega)).trans hT.1
  have h2_91 : mem79 2 = .inl (cy 0, 240, .inl f) := (hRX85.1.2.2 2 (by omega)).trans hT.2.2
  have h5_92 := hRX85.1.1.2.1
  have hbd98 := hRX85.1.1.1
  obtain ⟨S93, g94, hS_95, h220_96, h221_97⟩ := hRX85.1.1.2.2.2.2.2.2
  refine lv_iconst (v := 0) Bx.1 Bx.2.1 d_Rd_readAlternatives_17 (by decide) ?_
  refine lv_istore (lv' := [(4, .int (0)), (3, .ref (ad (20 + 2 * (Ec + 1)))), (2, .ref (ad (20 + 2 * Ec))), (0, .ref (ad 222)), (1, .int (5))]) Bx.1 Bx.2.1 d_Rd_readAlternatives_18 hl (by decide) rfl (fun ls hl => ?_)
  have hal0 := alt_first hLK hE9 hcl rds59 (by omega) (by omega) her86 hsr87
  have loop99 : ∀ (d100 : Nat) (mem9 : Nat → va_E) (a1 : Nat) (u1 : Nat) (R1 : Nat) (E1 : Nat) (S1 : Nat) (A1 : Ro) (B1 : Ro) (n1 : Nat → Int64) (to1 : Nat → Int32) (la : Nat) (k9 : Nat) (ls : Array Slot) (H : Heap) (locs : List Loc), (240 - k9 < d100) → (RX cy ad lim (gapF T Z a1) R1 E1 to1 n1 m0 mem9) → (a < a1 ∧ a1 ≤ Z ∧ R ≤ R1 ∧ k9 < a1 ∧ k9 ≤ 240) → (ALI cy ad T Z 5 (seqS T Z a u R (Ec + 1) 5 A nm) cq R Ec S u A Bw la a1 u1 R1 E1 S1 A1 B1 n1 mem9) → (TOK R R1 to to1) → (¬ (bgF (hereF Z T (gapF T Z a1)) = true ∧ a1 < gapF T Z a1)) → (∀ i9, i9 < R → mem9 (7 + i9) = mem (7 + i9)) → (va_P D vcl (fw n ad mem9) H) → (va_D (Az sz) (fw n ad mem9)) → (va_S (Az sz) s.heap H locs) → (lv_has ls 5 [(4, .int (nI k9)), (3, .ref (ad (20 + 2 * la))), (2, .ref (ad (20 + 2 * Ec))), (0, .ref (ad 222)), (1, .int (5))]) → W p l e (headSpec (Cond.code y_Rd_readAlternatives c_Rd_readAlternatives 5 (some (.object "AbnfChart$Element")) :: tg) ({ frames := 25, cells := 1, slots := 6, locals := 588 } : Room)).room s m [.ref (ad 222), .int (5)].toArray below meth c H locs 0 0 (vx_MQ below (QX (QR (fun r mem' => ∃ (la a' u' R' E' S' : Nat) (A' Bw' : Ro) (nm' : Nat → Int64) (to' : Nat → Int32), r = ad (20 + 2 * Ec) ∧ Ec + 1 < E' ∧ R ≤ R' ∧ a < a' ∧ a' ≤ Z ∧ TOK R R' to to' ∧ (∀ i9, i9 < R → mem' (7 + i9) = mem (7 + i9)) ∧ RX cy ad lim (gapF T Z a') R' E' to' nm' m0 mem' ∧ ALI cy ad T Z 5 (seqS T Z a u R (Ec + 1) 5 A nm) cq R Ec S u A Bw la a' u' R' E' S' A' Bw' nm' mem' ∧ bgF (hereF Z T a) = true ∧ Ec < 100 ∧ ¬ hereF Z T (gapF T Z a') = 47 ∧ ¬ (bgF (hereF Z T (gapF T Z a')) = true ∧ a' < gapF T Z a')) (PP D n ad) (Az sz))) (XQ D sz n ad (fun X mem' => ((X = cIA ∨ X = cIS) ∧ ∃ rc' ec' : Nat, RS cy ad lim rc' ec' m0 mem') ∧ (bgF (hereF Z T a) = false ∨ Ec = 100 ∨ (bgF (hereF Z T a) = true ∧ Ec < 100 ∧ Fai T Z (seqS T Z a u R (Ec + 1) 5 A nm))))) [.ref (ad 222), .int (5)].toArray s 1 6 (Az sz)) (F0 m 20 ls []) := by
    intro d100
    induction d100 with
    | zero => intro mem9 a1 u1 R1 E1 S1 A1 B1 n1 to1 la k9 ls H locs hmeas108; exact absurd hmeas108 (Nat.not_lt_zero _)
    | succ d100 ih107 =>
      intro mem9 a1 u1 R1 E1 S1 A1 B1 n1 to1 la k9 ls H locs hmeas108 hz101 hz102 hz103 hz104 hz105 hz106 hP hD hS hl
      obtain ⟨g1, eg1⟩ : ∃ z, z = gapF T Z a1 := ⟨_, rfl⟩
      rw [← eg1] at hz101
      have hge1 : a1 ≤ g1 := by rw [eg1]; exact gapF_ge T Z _
      have hbd8 := hz102
      have hle1 : g1 ≤ Z := by rw [eg1]; exact gapF_le T (by omega)
      have hal := hz103
      have hbdE := hz101.1.1.1
      have hla := hal.2.2.2.2.2.2.2.2.2.2
      have hSa1 := hal.2.2.2.1.2.1
      have hlka := ali_lka hal hLK hE9 hcl
      obtain ⟨ft109, h9_110⟩ := hz101.2.1
      have h1_111 : mem9 1 = .inr (0, [.ref (ad 2), .int (nI Z)]) := (hz101.1.2.2 1 (by omega)).trans hT.1
      have h2_112 : mem9 2 = .inl (cy 0, 240, .inl f) := (hz101.1.2.2 2 (by omega)).trans hT.2.2
      have h5_113 := hz101.1.1.2.1
      have hbd119 := hz101.1.1.1
      obtain ⟨S114, g115, hS_116, h220_117, h221_118⟩ := hz101.1.1.2.2.2.2.2.2
      refine lv_iload Bx.1 Bx.2.1 d_Rd_readAlternatives_20 (lv_at hl 0 rfl) ?_
      refine lv_sipush (v := 240) Bx.1 Bx.2.1 d_Rd_readAlternatives_22 (by decide) ?_
      refine lv_icmp_ge Bx.1 Bx.2.1 d_Rd_readAlternatives_25 rfl (fun hb120 => ?_) (fun hb120 => ?_)
      · have hN121 : 240 ≤ k9 := (nI_leI (by omega) (by omega)).mp (show nI (240) ≤ nI (k9) from hb120)
        exact absurd hbd8 (by omega)
      · have hN122 : ¬ 240 ≤ k9 := fun q9 => hb120 (show nI (240) ≤ nI (k9) from (nI_leI (by omega) (by omega)).mpr q9)
        refine lv_aload_n Bx.1 Bx.2.1 d_Rd_readAlternatives_28 rfl (lv_at hl 3 rfl) ?_
        refine f_callVi (na := 0) (As := []) (rest := []) Bx hml E hP hD hS (by omega) h9_110 rfl (m_Rd_peekX l hn hT hf hz101 (by omega)) kw_353 kw_355 sel_Rd_peek kw_6 kw_356 (by decide +kernel) ⟨rfl, rfl⟩ ⟨Nat.le_of_ble_eq_true rfl, Nat.le_of_ble_eq_true rfl⟩ rfl hl.1 (Nat.le_of_ble_eq_true rfl) d_Rd_readAlternatives_29 ⟨Nat.le_of_ble_eq_true rfl, Nat.le_of_ble_eq_true rfl⟩ (fun r124 mem125 H locs hq hP hS => ?_)
        have hD : va_D (Az sz) (fw n ad mem125) := fw_D hD
        obtain ⟨hqe, hpk123⟩ := hq
        rw [hqe] at hP hD
        subst hpk123
        refine lv_bipush (v := 47) Bx.1 Bx.2.1 d_Rd_readAlternatives_32 (by decide) ?_
        refine lv_icmp_ne Bx.1 Bx.2.1 d_Rd_readAlternatives_34 rfl (fun hb127 => ?_) (fun hb127 => ?_)
        · refine lv_aload_n Bx.1 Bx.2.1 d_Rd_readAlternatives_72 rfl (lv_at hl 2 rfl) ?_
          exact x_aret hx hb hlocks hr (⟨la, a1, u1, R1, E1, S1, A1, B1, n1, to1, rfl, by omega, by omega, by omega, by omega, hz104, hz106, by rw [← eg1]; exact hz101, hal, hbg, hE9, by rw [← eg1]; exact hb127, hz105⟩) hP hS d_Rd_readAlternatives_73
        · have hlt128 := hereF_lt (by rw [hb127]; decide)
          have h47 : hereF Z T (gapF T Z a1) = 47 := by rw [← eg1]; exact hb127
          have h237 : A1 237 5 = nI cq := hal.2.2.2.2.2.2.2.2.1.2.2.1.trans hc
          have h239 : A1 239 5 = -1 := hal.2.2.2.2.2.2.2.2.1.2.2.2
          refine lv_aload_n Bx.1 Bx.2.1 d_Rd_readAlternatives_37 rfl (lv_at hl 3 rfl) ?_
          refine lv_dup Bx.1 Bx.2.1 d_Rd_readAlternatives_38 rfl ?_
          refine f_get Bx hP (by omega) h9_110 rfl inRd 2 (by decide) kw_146 rfl rfl d_Rd_readAlternatives_39 ?_
          refine lv_iconst (v := 1) Bx.1 Bx.2.1 d_Rd_readAlternatives_42 (by decide) ?_
          refine lv_iadd Bx.1 Bx.2.1 d_Rd_readAlternatives_43 ?_
          rw [show nI g1 + 1 = nI (g1 + 1) from nI_add (g1) (1)]
          refine f_put Bx hP hD hS (by omega) h9_110 rfl inRd tyRd okRd nmRd 2 (by decide) kw_146 rfl rfl rfl rfl (Nat.le_of_ble_eq_true rfl) d_Rd_readAlternatives_44 (fun H locs hP hS => ?_)
          obtain ⟨mem129, e_mem129⟩ : ∃ z, z = va_up mem9 (222) (.inr (4, [.ref (ad 1), .ref (ad 5), .int (nI (g1 + 1)), .int (ft109)])) := ⟨_, rfl⟩
          have hP : va_P D vcl (fw n ad mem129) H := by rw [e_mem129]; exact hP
          have hD : va_D (Az sz) (fw n ad mem129) := fw_D hD
          have h_mem129 : mem129 (222) = .inr (4, [.ref (ad 1), .ref (ad 5), .int (nI (g1 + 1)), .int (ft109)]) := by rw [e_mem129, va_up_self]
          have hh130 := (va_up_ne mem9 (.inr (4, [.ref (ad 1), .ref (ad 5), .int (nI (g1 + 1)), .int (ft109)])) (show (1 : Nat) ≠ 222 by first | decide | assumption | omega)).trans h1_111
          rw [← e_mem129] at hh130
          have hh131 := (va_up_ne mem9 (.inr (4, [.ref (ad 1), .ref (ad 5), .int (nI (g1 + 1)), .int (ft109)])) (show (5 : Nat) ≠ 222 by first | decide | assumption | omega)).trans h5_113
          rw [← e_mem129] at hh131
          have hh132 := (va_up_ne mem9 (.inr (4, [.ref (ad 1), .ref (ad 5), .int (nI (g1 + 1)), .int (ft109)])) (show (220 : Nat) ≠ 222 by first | decide | assumption | omega)).trans h220_117
          rw [← e_mem129] at hh132
          have hrk133 : ∀ i9, i9 < R → mem129 (7 + i9) = mem (7 + i9) := fun i9 q9 => (show mem129 (7 + i9) = mem9 (7 + i9) by rw [e_mem129]; exact va_up_ne _ _ (by omega)).trans (hz106 i9 q9)
          have her134 : ER ad (R1) (E1) (B1) mem129 := hal.2.1.fr (Nat.le_refl _) (fun i9 hi9 => by rw [e_mem129]; exact va_up_ne _ _ (by omega))
          have hsr135 : SR cy ad (S1) (B1) mem129 := ⟨(show mem129 220 = _ from by rw [e_mem129]; exact va_up_ne _ _ (by omega)).trans hal.2.2.1.1, (show mem129 221 = _ from by rw [e_mem129]; exact va_up_ne _ _ (by omega)).trans hal.2.2.1.2⟩
          have hRX136 : RX cy ad lim (g1 + 1) (R1) (E1) (to1) (n1) m0 mem129 := by rw [e_mem129]; exact hz101.at
          refine lv_aload_n Bx.1 Bx.2.1 d_Rd_readAlternatives_47 rfl (lv_at hl 3 rfl) ?_
          refine f_callVi (na := 0) (As := []) (rest := []) Bx hml E hP hD hS (by omega) h_mem129 rfl (m_Rd_readGapY l hn hT hf hRX136 (by omega) (by omega)) kw_397 kw_399 sel_Rd_readGap kw_6 kw_400 (by decide +kernel) ⟨rfl, rfl⟩ ⟨Nat.le_of_ble_eq_true rfl, Nat.le_of_ble_eq_true rfl⟩ rfl hl.1 (Nat.le_of_ble_eq_true rfl) d_Rd_readAlternatives_48 ⟨Nat.le_of_ble_eq_true rfl, Nat.le_of_ble_eq_true rfl⟩ (fun r137 mem138 H locs hq hP hS => ?_)
          have hD : va_D (Az sz) (fw n ad mem138) := fw_D hD
          obtain ⟨g139, eg140⟩ : ∃ z, z = gapF T Z (g1 + 1) := ⟨_, rfl⟩
          rw [← eg140] at hq
          obtain ⟨hRX141, hgc142, hfa143⟩ := hq
          have hg144 : g1 + 1 ≤ g139 := by rw [eg140]; exact gapF_ge T Z _
          have hg145 : g139 ≤ Z := by rw [eg140]; exact gapF_le T (by omega)
          have hrk146 : ∀ i9, i9 < R → mem138 (7 + i9) = mem (7 + i9) := fun i9 q9 => (hfa143 (7 + i9) (by omega)).trans (hrk133 i9 q9)
          obtain ⟨ft147, h9_148⟩ := hRX141.2.1
          have h1_149 : mem138 1 = .inr (0, [.ref (ad 2), .int (nI Z)]) := (hRX141.1.2.2 1 (by omega)).trans hT.1
          have h2_150 : mem138 2 = .inl (cy 0, 240, .inl f) := (hRX141.1.2.2 2 (by omega)).trans hT.2.2
          have h5_151 := hRX141.1.1.2.1
          have hbd157 := hRX141.1.1.1
          obtain ⟨S152, g153, hS_154, h220_155, h221_156⟩ := hRX141.1.1.2.2.2.2.2.2
          have her158 : ER ad (R1) (E1) (B1) mem138 := her134.fr (Nat.le_refl _) (fun i9 hi9 => hfa143 _ (by omega))
          have hsr159 : SR cy ad (S1) (B1) mem138 := ⟨(show mem138 220 = _ from hfa143 _ (by omega)).trans hsr135.1, (show mem138 221 = _ from hfa143 _ (by omega)).trans hsr135.2⟩
          refine lv_pop Bx.1 Bx.2.1 d_Rd_readAlternatives_51 rfl ?_
          refine lv_aload_n Bx.1 Bx.2.1 d_Rd_readAlternatives_52 rfl (lv_at hl 1 rfl) ?_
          refine lv_aload_n Bx.1 Bx.2.1 d_Rd_readAlternatives_53 rfl (lv_at hl 3 rfl) ?_
          refine lv_iload_n Bx.1 Bx.2.1 d_Rd_readAlternatives_54 rfl (lv_at hl 4 rfl) ?_
          refine f_xVr (na := 1) (As := [.int (5)]) (rest := [.ref (ad (20 + 2 * la))]) Bx hml E hP hD hS (by omega) h9_148 rfl (m_Rd_readSequence_5Y l hlt hn hT hf hRX141 (by omega) (u := u1) (A := A1) her158 hsr159 (by omega) (by omega) hlka h237 (by omega) h239) kw_435 kw_437 sel_Rd_readSequence kw_6 kw_438 (by decide +kernel) ⟨rfl, rfl⟩ ⟨Nat.le_of_ble_eq_true rfl, Nat.le_of_ble_eq_true rfl⟩ rfl hl.1 (Nat.le_of_ble_eq_true rfl) d_Rd_readAlternatives_55 ⟨Nat.le_of_ble_eq_true rfl, Nat.le_of_ble_eq_true rfl⟩ (fun X ce q9 memx H locs hx9 hP hS g1 g2 g3 => f_out hlocks hno hP hS g1 g2 g3 ⟨Nat.le_of_ble_eq_true rfl, Nat.le_of_ble_eq_true rfl⟩ ⟨hx9.1, Or.inr (Or.inr ⟨hbg, hE9, hal.1.fai (go_sl h47) (by rw [← eg1, ← eg140]; exact hx9.2)⟩)⟩) (fun r160 mem161 H locs hq hP hS => ?_)
          have hD : va_D (Az sz) (fw n ad mem161) := fw_D hD
          obtain ⟨ax162, ux163, Rx164, Ex165, Sx166, Ax167, Bx_168, nx169, tox170, hr9171, h2172, h3173, h4174, h5175, htk176, hrk177, hRX178, rds179, hnb180⟩ := hq
          subst hr9171
          have hrk181 : ∀ i9, i9 < R → mem161 (7 + i9) = mem (7 + i9) := fun i9 q9 => (hrk177 i9 (by omega)).trans (hrk146 i9 q9)
          obtain ⟨g182, eg183⟩ : ∃ z, z = gapF T Z ax162 := ⟨_, rfl⟩
          have hg184 : ax162 ≤ g182 := by rw [eg183]; exact gapF_ge T Z _
          have hg185 : g182 ≤ Z := by rw [eg183]; exact gapF_le T (by omega)
          rw [← eg183] at hRX178
          obtain ⟨ft186, h9_187⟩ := hRX178.2.1
          have h1_188 : mem161 1 = .inr (0, [.ref (ad 2), .int (nI Z)]) := (hRX178.1.2.2 1 (by omega)).trans hT.1
          have h2_189 : mem161 2 = .inl (cy 0, 240, .inl f) := (hRX178.1.2.2 2 (by omega)).trans hT.2.2
          have h5_190 := hRX178.1.1.2.1
          have hbd196 := hRX178.1.1.1
          obtain ⟨S191, g192, hS_193, h220_194, h221_195⟩ := hRX178.1.1.2.2.2.2.2.2
          have hbd197 := hRX178.1.1.1
          have hce198 := (rds179.2.1 la (by omega)).1
          refine f_putN Bx hP hD hS (by omega) hce198 rfl inEl tyEl okEl nmEl 5 (by decide) kw_91 rfl rfl rfl rfl (Nat.le_of_ble_eq_true rfl) d_Rd_readAlternatives_58 (fun H locs hP hS => ?_)
          obtain ⟨mem199, e_mem199⟩ : ∃ z, z = va_up mem161 ((20 + 2 * la)) (.inr (2, [.int (Bx_168 228 la), .int (Bx_168 229 la), .int (Bx_168 230 la), vR ad (Bx_168 231 la), vE ad (Bx_168 232 la), .ref (ad (20 + 2 * E1)), .ref (ad (21 + 2 * la))])) := ⟨_, rfl⟩
          have hP : va_P D vcl (fw n ad mem199) H := by rw [e_mem199]; exact hP
          have hD : va_D (Az sz) (fw n ad mem199) := fw_D hD
          have h_mem199 : mem199 ((20 + 2 * la)) = .inr (2, [.int (Bx_168 228 la), .int (Bx_168 229 la), .int (Bx_168 230 la), vR ad (Bx_168 231 la), vE ad (Bx_168 232 la), .ref (ad (20 + 2 * E1)), .ref (ad (21 + 2 * la))]) := by rw [e_mem199, va_up_self]
          have hh200 := (va_up_ne mem161 (.inr (2, [.int (Bx_168 228 la), .int (Bx_168 229 la), .int (Bx_168 230 la), vR ad (Bx_168 231 la), vE ad (Bx_168 232 la), .ref (ad (20 + 2 * E1)), .ref (ad (21 + 2 * la))])) (show (222 : Nat) ≠ (20 + 2 * la) by first | decide | assumption | omega)).trans h9_187
          rw [← e_mem199] at hh200
          have hh201 := (va_up_ne mem161 (.inr (2, [.int (Bx_168 228 la), .int (Bx_168 229 la), .int (Bx_168 230 la), vR ad (Bx_168 231 la), vE ad (Bx_168 232 la), .ref (ad (20 + 2 * E1)), .ref (ad (21 + 2 * la))])) (show (1 : Nat) ≠ (20 + 2 * la) by first | decide | assumption | omega)).trans h1_188
          rw [← e_mem199] at hh201
          have hh202 := (va_up_ne mem161 (.inr (2, [.int (Bx_168 228 la), .int (Bx_168 229 la), .int (Bx_168 230 la), vR ad (Bx_168 231 la), vE ad (Bx_168 232 la), .ref (ad (20 + 2 * E1)), .ref (ad (21 + 2 * la))])) (show (5 : Nat) ≠ (20 + 2 * la) by first | decide | assumption | omega)).trans h5_190
          rw [← e_mem199] at hh202
          have hh203 := (va_up_ne mem161 (.inr (2, [.int (Bx_168 228 la), .int (Bx_168 229 la), .int (Bx_168 230 la), vR ad (Bx_168 231 la), vE ad (Bx_168 232 la), .ref (ad (20 + 2 * E1)), .ref (ad (21 + 2 * la))])) (show (220 : Nat) ≠ (20 + 2 * la) by first | decide | assumption | omega)).trans h220_194
          rw [← e_mem199] at hh203
          have hrk204 : ∀ i9, i9 < R → mem199 (7 + i9) = mem (7 + i9) := fun i9 q9 => (show mem199 (7 + i9) = mem161 (7 + i9) by rw [e_mem199]; exact va_up_ne _ _ (by omega)).trans (hrk181 i9 q9)
          have hRX205 : RX cy ad lim (g182) (Rx164) (Ex165) (tox170) (nx169) m0 mem199 := by rw [e_mem199]; exact hRX178.el (by omega) (hRX178.1.mk (by omega) (hRX178.1.1.upEl (by omega) (fun _ => ⟨(rds179.2.1 la (by omega)).2.1.oR ad, (rds179.2.1 la (by omega)).2.2.1.oE ad (by omega), Or.inr ⟨E1, by omega, by omega, rfl⟩⟩)))
          have her206 : ER ad (Rx164) (Ex165) (va_up Bx_168 233 (upd (Bx_168 233) la (nI E1))) mem199 := rds179.2.1.next (by omega) (by omega) (by omega) h_mem199 (fun i9 q9 hi9 => by rw [e_mem199]; exact va_up_ne _ _ (by omega))
          have hsr207 : SR cy ad (Sx166) (Bx_168) mem199 := ⟨(show mem199 220 = mem161 220 by rw [e_mem199]; exact va_up_ne _ _ (by omega)).trans rds179.2.2.1.1, (show mem199 221 = mem161 221 by rw [e_mem199]; exact va_up_ne _ _ (by omega)).trans rds179.2.2.1.2⟩
          obtain ⟨ft208, h9_209⟩ := hRX205.2.1
          have h1_210 : mem199 1 = .inr (0, [.ref (ad 2), .int (nI Z)]) := (hRX205.1.2.2 1 (by omega)).trans hT.1
          have h2_211 : mem199 2 = .inl (cy 0, 240, .inl f) := (hRX205.1.2.2 2 (by omega)).trans hT.2.2
          have h5_212 := hRX205.1.1.2.1
          have hbd218 := hRX205.1.1.1
          obtain ⟨S213, g214, hS_215, h220_216, h221_217⟩ := hRX205.1.1.2.2.2.2.2.2
          refine lv_aload_n Bx.1 Bx.2.1 d_Rd_readAlternatives_61 rfl (lv_at hl 1 rfl) ?_
          refine f_getN Bx hP (by omega) h_mem199 rfl inEl 5 (by decide) kw_91 rfl rfl d_Rd_readAlternatives_62 ?_
          refine lv_astore_n (lv' := [(3, .ref (ad (20 + 2 * E1))), (4, .int (nI k9)), (2, .ref (ad (20 + 2 * Ec))), (0, .ref (ad 222)), (1, .int (5))]) Bx.1 Bx.2.1 d_Rd_readAlternatives_65 rfl hl (by decide) rfl (fun ls hl => ?_)
          refine lv_iinc (lv' := [(4, .int ((nI k9 + (1)))), (3, .ref (ad (20 + 2 * E1))), (2, .ref (ad (20 + 2 * Ec))), (0, .ref (ad 222)), (1, .int (5))]) Bx.1 Bx.2.1 d_Rd_readAlternatives_66 hl (k := 1) rfl rfl (by decide) rfl (fun ls hl => ?_)
          rw [show (nI k9 + (1) : Int32) = nI (k9 + 1) from nI_1 (k9)] at hl
          refine lv_goto Bx.1 Bx.2.1 d_Rd_readAlternatives_69 rfl ?_
          have hal3 := alt_step hal (by omega) hLK hlka (by omega) hcl rds179 (by omega) (by omega) (by rw [eg140, eg1]; exact go_sl h47) her206 hsr207
          exact ih107 mem199 (ax162) (ux163) (Rx164) (Ex165) (Sx166) (Ax167) ((va_up Bx_168 233 (upd (Bx_168 233) la (nI E1)))) (nx169) (tox170) (E1) (k9 + 1) _ _ _ (by have := hmeas108; omega) (by rw [← eg183]; exact hRX205) (⟨by omega, by omega, by omega, by omega, by omega⟩) (hal3) (hz104.trans htk176 (by omega)) (hnb180) (hrk204) hP hD hS (lv_sub hl [0, 1, 2, 3, 4] rfl)
  exact loop99 _ mem79 (ax42) (ux43) (Rx44) (Ex45) (Sx46) (Ax47) ((va_up Bx_48 232 (upd (Bx_48 232) Ec (nI (Ec + 1))))) (nx49) (tox50) (Ec + 1) (0) _ _ _ (Nat.lt_succ_self _) (by rw [← eg63]; exact hRX85) (⟨by omega, by omega, by omega, by omega, by omega⟩) (hal0) (htk56) (hnb60) (hrk84) hP hD hS (lv_sub hl [0, 1, 2, 3, 4] rfl)
set_option maxHeartbeats 4000000 in
set_option maxRecDepth 100000 in
theorem m_Rd_readBracket_4Y (l : Launch) {D : va_G} {cy : Nat → ClassId} {sz n : Nat} {ad : Nat → Nat} {mem : Nat → va_E} {Z a R Ec lim : Nat} {f T : Nat → Int32} {to : Nat → Int32} {nm : Nat → Int64} {m0 : Nat → va_E} {u S : Nat} {A Bw : Ro} {what oe en : Int32} (hlt : l.stackTraces = false) (hn : 224 ≤ n) (hT : TX cy ad Z f m0) (hf : ∀ k, k < Z → f k = T k) (hRX : RX cy ad lim a R Ec to nm m0 mem) (haB : a ≤ 300) (hER : ER ad R Ec Bw mem) (hSR : SR cy ad S Bw mem) (hSa : S ≤ a) (haZ : a < Z) (hwe : (what = 1 ∧ en = 41) ∨ (what = 2 ∧ en = 93)) (hLK : LKa Ec A) : NXr l D cy sz n ad y_Rd_readBracket c_Rd_readBracket 4 (some (.object "AbnfChart$Element")) ({ frames := 26, cells := 1, slots := 6, locals := 620 } : Room) mem [.ref (ad 222), .int (4), .int (en)] (fun r mem' => ∃ (la a1 u1 R1 E1 S1 : Nat) (A9 B9 : Ro) (nm1 : Nat → Int64) (to1 : Nat → Int32), r = ad (20 + 2 * Ec) ∧ Ec + 1 < E1 ∧ R ≤ R1 ∧ a + 1 < a1 ∧ gapF T Z a1 + 1 ≤ Z ∧ TOK R R1 to to1 ∧ (∀ i9, i9 < R → mem' (7 + i9) = mem (7 + i9)) ∧ RX cy ad lim (gapF T Z a1 + 1) R1 E1 to1 nm1 m0 mem' ∧ ALI cy ad T Z 5 (seqS T Z (gapF T Z (a + 1)) u R (Ec + 1) 5 (entA A 5 Ec what oe) nm) Ec R Ec S u (entA A 5 Ec what oe) Bw la a1 u1 R1 E1 S1 A9 B9 nm1 mem' ∧ hereF Z T (gapF T Z a1) = en ∧ entS T Z (a + 1) u R Ec 5 A nm what oe = some (gapF T Z (a + 1), u, R, Ec + 1, 5, (entA A 5 Ec what oe), nm, true)) (fun X mem' => ((X = cIA ∨ X = cIS) ∧ ∃ rc' ec' : Nat, RS cy ad lim rc' ec' m0 mem') ∧ (Fai T Z (entS T Z (a + 1) u R Ec 5 A nm what oe))) := by
  refine vx_ofW (cc := c_Rd_readBracket) (maxL := 4) (ret := (some (.object "AbnfChart$Element"))) (by decide) rfl ?_
  intro p e s m args below meth c s₁ B hml hno hv
  obtain ⟨rfl, E, hP, hD⟩ := hv
  have hx := B.exec
  have hb := B.bytes
  have hr := B.returns
  have hlocks := B.notSynchronized
  have Bx : MB p s m [.ref (ad 222), .int (4), .int (en)].toArray c c_Rd_readBracket "AbnfChart$Reader" D cy := ⟨hx, hb, tb_all (atoms_spec B.pre) E.2.1, findClass_of_methodNamed B.named, E.1⟩
  have hS : va_S (Az sz) s.heap s.heap [] := va_S.rf
  have hl := lv_entry ([.ref (ad 222), .int (4), .int (en)]) (n := 4) (Nat.le_of_ble_eq_true rfl)
  rw [lg_entry_eq]
  generalize (lg_sl ([.ref (ad 222), .int (4), .int (en)]) ++ List.replicate (4 - (lg_sl ([.ref (ad 222), .int (4), .int (en)])).length) Slot.unset).toArray = ls at hl ⊢
  have hl : lv_has ls 4 [(0, .ref (ad 222)), (1, .int (4)), (2, .int (en))] := hl
  have hZ9 := hT.2.1
  have hbd9 := hRX.1.1.1
  have hfr0 : ∀ i, 7 ≤ i ∧ i < 222 → mem i = mem i := fun _ _ => rfl
  have hrk0 : ∀ i9, i9 < R → mem (7 + i9) = mem (7 + i9) := fun _ _ => rfl
  obtain ⟨ft1, h9_2⟩ := hRX.2.1
  have h1_3 : mem 1 = .inr (0, [.ref (ad 2), .int (nI Z)]) := (hRX.1.2.2 1 (by omega)).trans hT.1
  have h2_4 : mem 2 = .inl (cy 0, 240, .inl f) := (hRX.1.2.2 2 (by omega)).trans hT.2.2
  have h5_5 := hRX.1.1.2.1
  have hbd11 := hRX.1.1.1
  obtain ⟨S6, g7, hS_8, h220_9, h221_10⟩ := hRX.1.1.2.2.2.2.2.2
  refine lv_aload_n Bx.1 Bx.2.1 d_Rd_readBracket_0 rfl (lv_at hl 0 rfl) ?_
  refine lv_iload_n Bx.1 Bx.2.1 d_Rd_readBracket_1 rfl (lv_at hl 1 rfl) ?_
  refine lv_bipush (v := 6) Bx.1 Bx.2.1 d_Rd_readBracket_2 (by decide) ?_
  refine lv_icmp_ge Bx.1 Bx.2.1 d_Rd_readBracket_4 rfl (fun hb12 => ?_) (fun hb12 => ?_)
  · exact absurd hb12 (by decide)
  · refine lv_iconst (v := 1) Bx.1 Bx.2.1 d_Rd_readBracket_7 (by decide) ?_
    refine lv_goto Bx.1 Bx.2.1 d_Rd_readBracket_8 rfl ?_
    refine lv_aload_n Bx.1 Bx.2.1 d_Rd_readBracket_12 rfl (lv_at hl 0 rfl) ?_
    refine f_get Bx hP (by omega) h9_2 rfl inRd 2 (by decide) kw_146 rfl rfl d_Rd_readBracket_13 ?_
    refine f_xVv (na := 2) (As := [.int (1), .int (nI a)]) (rest := []) Bx hml E hP hD hS (by omega) h9_2 rfl (m_Rd_needRoomX l hlt hn hT hf hRX (by omega)) kw_383 kw_385 sel_Rd_needRoom kw_6 kw_386 (by decide +kernel) ⟨rfl, rfl⟩ ⟨Nat.le_of_ble_eq_true rfl, Nat.le_of_ble_eq_true rfl⟩ rfl hl.1 (Nat.le_of_ble_eq_true rfl) d_Rd_readBracket_16 ⟨Nat.le_of_ble_eq_true rfl, Nat.le_of_ble_eq_true rfl⟩ (fun X ce q9 memx H locs hx9 hP hS g1 g2 g3 => f_out hlocks hno hP hS g1 g2 g3 ⟨Nat.le_of_ble_eq_true rfl, Nat.le_of_ble_eq_true rfl⟩ ⟨hx9.1, absurd hx9.2 (by decide)⟩) (fun mem14 H locs hq hP hS => ?_)
    have hD : va_D (Az sz) (fw n ad mem14) := fw_D hD
    obtain ⟨hqe, hg15⟩ := hq
    rw [hqe] at hP hD
    refine lv_aload_n Bx.1 Bx.2.1 d_Rd_readBracket_19 rfl (lv_at hl 0 rfl) ?_
    refine lv_dup Bx.1 Bx.2.1 d_Rd_readBracket_20 rfl ?_
    refine f_get Bx hP (by omega) h9_2 rfl inRd 2 (by decide) kw_146 rfl rfl d_Rd_readBracket_21 ?_
    refine lv_iconst (v := 1) Bx.1 Bx.2.1 d_Rd_readBracket_24 (by decide) ?_
    refine lv_iadd Bx.1 Bx.2.1 d_Rd_readBracket_25 ?_
    rw [show nI a + 1 = nI (a + 1) from nI_add (a) (1)]
    refine f_put Bx hP hD hS (by omega) h9_2 rfl inRd tyRd okRd nmRd 2 (by decide) kw_146 rfl rfl rfl rfl (Nat.le_of_ble_eq_true rfl) d_Rd_readBracket_26 (fun H locs hP hS => ?_)
    obtain ⟨mem16, e_mem16⟩ : ∃ z, z = va_up mem (222) (.inr (4, [.ref (ad 1), .ref (ad 5), .int (nI (a + 1)), .int (ft1)])) := ⟨_, rfl⟩
    have hP : va_P D vcl (fw n ad mem16) H := by rw [e_mem16]; exact hP
    have hD : va_D (Az sz) (fw n ad mem16) := fw_D hD
    have h_mem16 : mem16 (222) = .inr (4, [.ref (ad 1), .ref (ad 5), .int (nI (a + 1)), .int (ft1)]) := by rw [e_mem16, va_up_self]
    have hh17 := (va_up_ne mem (.inr (4, [.ref (ad 1), .ref (ad 5), .int (nI (a + 1)), .int (ft1)])) (show (1 : Nat) ≠ 222 by first | decide | assumption | omega)).trans h1_3
    rw [← e_mem16] at hh17
    have hh18 := (va_up_ne mem (.inr (4, [.ref (ad 1), .ref (ad 5), .int (nI (a + 1)), .int (ft1)])) (show (5 : Nat) ≠ 222 by first | decide | assumption | omega)).trans h5_5
    rw [← e_mem16] at hh18
    have hh19 := (va_up_ne mem (.inr (4, [.ref (ad 1), .ref (ad 5), .int (nI (a + 1)), .int (ft1)])) (show (220 : Nat) ≠ 222 by first | decide | assumption | omega)).trans h220_9
    rw [← e_mem16] at hh19
    have hfr20 : ∀ i, 7 ≤ i ∧ i < 222 → mem16 i = mem i := fun i q => (show mem16 i = mem i by rw [e_mem16]; exact va_up_ne _ _ (by omega)).trans (hfr0 i q)
    have hrk21 : ∀ i9, i9 < R → mem16 (7 + i9) = mem (7 + i9) := fun i9 q9 => (show mem16 (7 + i9) = mem (7 + i9) by rw [e_mem16]; exact va_up_ne _ _ (by omega)).trans (hrk0 i9 q9)
    have hRX22 : RX cy ad lim (a + 1) (R) (Ec) (to) (nm) m0 mem16 := by rw [e_mem16]; exact hRX.at
    refine lv_aload_n Bx.1 Bx.2.1 d_Rd_readBracket_29 rfl (lv_at hl 0 rfl) ?_
    refine f_callVi (na := 0) (As := []) (rest := []) Bx hml E hP hD hS (by omega) h_mem16 rfl (m_Rd_readGapY l hn hT hf hRX22 (by omega) (by omega)) kw_397 kw_399 sel_Rd_readGap kw_6 kw_400 (by decide +kernel) ⟨rfl, rfl⟩ ⟨Nat.le_of_ble_eq_true rfl, Nat.le_of_ble_eq_true rfl⟩ rfl hl.1 (Nat.le_of_ble_eq_true rfl) d_Rd_readBracket_30 ⟨Nat.le_of_ble_eq_true rfl, Nat.le_of_ble_eq_true rfl⟩ (fun r23 mem24 H locs hq hP hS => ?_)
    have hD : va_D (Az sz) (fw n ad mem24) := fw_D hD
    obtain ⟨g25, eg26⟩ : ∃ z, z = gapF T Z (a + 1) := ⟨_, rfl⟩
    rw [← eg26] at hq
    obtain ⟨hRX27, hgc28, hfa29⟩ := hq
    have hg30 : a + 1 ≤ g25 := by rw [eg26]; exact gapF_ge T Z _
    have hg31 : g25 ≤ Z := by rw [eg26]; exact gapF_le T (by omega)
    have hrk32 : ∀ i9, i9 < R → mem24 (7 + i9) = mem (7 + i9) := fun i9 q9 => (hfa29 (7 + i9) (by omega)).trans (hrk21 i9 q9)
    have hfr33 : ∀ i, 7 ≤ i ∧ i < 222 → mem24 i = mem i := fun i q => (hfa29 i (by omega)).trans (hfr20 i q)
    obtain ⟨ft34, h9_35⟩ := hRX27.2.1
    have h1_36 : mem24 1 = .inr (0, [.ref (ad 2), .int (nI Z)]) := (hRX27.1.2.2 1 (by omega)).trans hT.1
    have h2_37 : mem24 2 = .inl (cy 0, 240, .inl f) := (hRX27.1.2.2 2 (by omega)).trans hT.2.2
    have h5_38 := hRX27.1.1.2.1
    have hbd44 := hRX27.1.1.1
    obtain ⟨S39, g40, hS_41, h220_42, h221_43⟩ := hRX27.1.1.2.2.2.2.2.2
    refine lv_pop Bx.1 Bx.2.1 d_Rd_readBracket_33 rfl ?_
    refine lv_aload_n Bx.1 Bx.2.1 d_Rd_readBracket_34 rfl (lv_at hl 0 rfl) ?_
    refine lv_iload_n Bx.1 Bx.2.1 d_Rd_readBracket_35 rfl (lv_at hl 1 rfl) ?_
    refine lv_iconst (v := 1) Bx.1 Bx.2.1 d_Rd_readBracket_36 (by decide) ?_
    refine lv_iadd Bx.1 Bx.2.1 d_Rd_readBracket_37 ?_
    rw [show (4 + 1 : Int32) = 5 from rfl]
    have her45 : ER ad R Ec Bw mem24 := hER.fr (Nat.le_refl _) (fun i9 hi9 => hfr33 (20 + 2 * i9) (by omega))
    have hsr46 : SR cy ad S Bw mem24 := ⟨(hfr33 220 (by omega)).trans hSR.1, (hfr33 221 (by omega)).trans hSR.2⟩
    refine f_xVr (na := 1) (As := [.int (5)]) (rest := []) Bx hml E hP hD hS (by omega) h9_35 rfl (m_Rd_readAlternatives_5Y l hlt hn hT hf hRX27 (by omega) (u := u) (A := (entA A 5 Ec what oe)) her45 hsr46 (by omega) (by omega) (ent_lka hLK) (cq := Ec) entA_f.2.2.2.2.2.2.2.1 (Nat.le_refl _) (by rw [entA_f.2.2.2.2.2.2.1, upd_self])) kw_405 kw_407 sel_Rd_readAlternatives kw_6 kw_408 (by decide +kernel) ⟨rfl, rfl⟩ ⟨Nat.le_of_ble_eq_true rfl, Nat.le_of_ble_eq_true rfl⟩ rfl hl.1 (Nat.le_of_ble_eq_true rfl) d_Rd_readBracket_38 ⟨Nat.le_of_ble_eq_true rfl, Nat.le_of_ble_eq_true rfl⟩ (fun X ce q9 memx H locs hx9 hP hS g1 g2 g3 => f_out hlocks hno hP hS g1 g2 g3 ⟨Nat.le_of_ble_eq_true rfl, Nat.le_of_ble_eq_true rfl⟩ ⟨hx9.1, hx9.2.elim (fun z => Or.inl (entS_no (Or.inl (by rw [← eg26]; exact z)))) (fun z => z.elim (fun z => Or.inl (entS_no (Or.inr z))) (fun z => Fai.br0 (by rw [ent_ok (by rw [← eg26]; exact z.1) z.2.1, ← eg26]) z.2.2))⟩) (fun r47 mem48 H locs hq hP hS => ?_)
    have hD : va_D (Az sz) (fw n ad mem48) := fw_D hD
    obtain ⟨la49, ax50, ux51, Rx52, Ex53, Sx54, Ax55, Bx_56, nx57, tox58, hr959, h160, h261, h362, h463, htk64, hrk65, hRX66, ali67, hbg68, hE69, h4770, hnb71⟩ := hq
    subst hr959
    have hrk72 : ∀ i9, i9 < R → mem48 (7 + i9) = mem (7 + i9) := fun i9 q9 => (hrk65 i9 (by omega)).trans (hrk32 i9 q9)
    obtain ⟨g73, eg74⟩ : ∃ z, z = gapF T Z ax50 := ⟨_, rfl⟩
    have hg75 : ax50 ≤ g73 := by rw [eg74]; exact gapF_ge T Z _
    have hg76 : g73 ≤ Z := by rw [eg74]; exact gapF_le T (by omega)
    rw [← eg74] at hRX66
    obtain ⟨ft77, h9_78⟩ := hRX66.2.1
    have h1_79 : mem48 1 = .inr (0, [.ref (ad 2), .int (nI Z)]) := (hRX66.1.2.2 1 (by omega)).trans hT.1
    have h2_80 : mem48 2 = .inl (cy 0, 240, .inl f) := (hRX66.1.2.2 2 (by omega)).trans hT.2.2
    have h5_81 := hRX66.1.1.2.1
    have hbd87 := hRX66.1.1.1
    obtain ⟨S82, g83, hS_84, h220_85, h221_86⟩ := hRX66.1.1.2.2.2.2.2.2
    have hbd88 := hRX66.1.1.1
    have hent : entS T Z (a + 1) u R Ec 5 A nm what oe = some (g25, u, R, Ec + 1, 5, (entA A 5 Ec what oe), nm, true) := by rw [ent_ok (by rw [← eg26]; exact hbg68) hE69, ← eg26]
    have hA5 : Ax55 235 5 = what := by
      obtain ⟨c1, ho, hg, hk, hs⟩ := ali67.1
      rw [hk 5 (by omega), entA_5, upd_self]
    refine lv_astore_n (lv' := [(3, .ref (ad (20 + 2 * Ec))), (0, .ref (ad 222)), (1, .int (4)), (2, .int (en))]) Bx.1 Bx.2.1 d_Rd_readBracket_41 rfl hl (by decide) rfl (fun ls hl => ?_)
    refine lv_aload_n Bx.1 Bx.2.1 d_Rd_readBracket_42 rfl (lv_at hl 1 rfl) ?_
    refine lv_aload_n Bx.1 Bx.2.1 d_Rd_readBracket_43 rfl (lv_at hl 1 rfl) ?_
    refine f_callVi (na := 0) (As := []) (rest := [.ref (ad 222)]) Bx hml E hP hD hS (by omega) h9_78 rfl (m_Rd_peekX l hn hT hf hRX66 (by omega)) kw_353 kw_355 sel_Rd_peek kw_6 kw_356 (by decide +kernel) ⟨rfl, rfl⟩ ⟨Nat.le_of_ble_eq_true rfl, Nat.le_of_ble_eq_true rfl⟩ rfl hl.1 (Nat.le_of_ble_eq_true rfl) d_Rd_readBracket_44 ⟨Nat.le_of_ble_eq_true rfl, Nat.le_of_ble_eq_true rfl⟩ (fun r90 mem91 H locs hq hP hS => ?_)
    have hD : va_D (Az sz) (fw n ad mem91) := fw_D hD
    obtain ⟨hqe, hpk89⟩ := hq
    rw [hqe] at hP hD
    subst hpk89
    refine lv_iload_n Bx.1 Bx.2.1 d_Rd_readBracket_47 rfl (lv_at hl 3 rfl) ?_
    refine lv_icmp_ne Bx.1 Bx.2.1 d_Rd_readBracket_48 rfl (fun hb93 => ?_) (fun hb93 => ?_)
    · refine lv_iconst (v := 0) Bx.1 Bx.2.1 d_Rd_readBracket_55 (by decide) ?_
      refine lv_aload_n Bx.1 Bx.2.1 d_Rd_readBracket_56 rfl (lv_at hl 1 rfl) ?_
      refine f_get Bx hP (by omega) h9_78 rfl inRd 2 (by decide) kw_146 rfl rfl d_Rd_readBracket_57 ?_
      refine f_xVv (na := 2) (As := [.int (0), .int (nI g73)]) (rest := []) Bx hml E hP hD hS (by omega) h9_78 rfl (m_Rd_needReadableX l hlt hn hT hf hRX66 (by omega)) kw_360 kw_362 sel_Rd_needReadable kw_6 kw_363 (by decide +kernel) ⟨rfl, rfl⟩ ⟨Nat.le_of_ble_eq_true rfl, Nat.le_of_ble_eq_true rfl⟩ rfl hl.1 (Nat.le_of_ble_eq_true rfl) d_Rd_readBracket_60 ⟨Nat.le_of_ble_eq_true rfl, Nat.le_of_ble_eq_true rfl⟩ (fun X ce q9 memx H locs hx9 hP hS g1 g2 g3 => f_out hlocks hno hP hS g1 g2 g3 ⟨Nat.le_of_ble_eq_true rfl, Nat.le_of_ble_eq_true rfl⟩ ⟨hx9.1, Fai.br1 hent ali67.1.suc (br_no hwe hA5 (by rw [← eg74]; exact hb93) h4770 hnb71)⟩) (fun mem95 H locs hq hP hS => ?_)
      have hD : va_D (Az sz) (fw n ad mem95) := fw_D hD
      obtain ⟨hqe, hg96⟩ := hq
      rw [hqe] at hP hD
      exact absurd rfl hg96
    · refine lv_iconst (v := 1) Bx.1 Bx.2.1 d_Rd_readBracket_51 (by decide) ?_
      refine lv_goto Bx.1 Bx.2.1 d_Rd_readBracket_52 rfl ?_
      refine lv_aload_n Bx.1 Bx.2.1 d_Rd_readBracket_56 rfl (lv_at hl 1 rfl) ?_
      refine f_get Bx hP (by omega) h9_78 rfl inRd 2 (by decide) kw_146 rfl rfl d_Rd_readBracket_57 ?_
      refine f_xVv (na := 2) (As := [.int (1), .int (nI g73)]) (rest := []) Bx hml E hP hD hS (by omega) h9_78 rfl (m_Rd_needReadableX l hlt hn hT hf hRX66 (by omega)) kw_360 kw_362 sel_Rd_needReadable kw_6 kw_363 (by decide +kernel) ⟨rfl, rfl⟩ ⟨Nat.le_of_ble_eq_true rfl, Nat.le_of_ble_eq_true rfl⟩ rfl hl.1 (Nat.le_of_ble_eq_true rfl) d_Rd_readBracket_60 ⟨Nat.le_of_ble_eq_true rfl, Nat.le_of_ble_eq_true rfl⟩ (fun X ce q9 memx H locs hx9 hP hS g1 g2 g3 => f_out hlocks hno hP hS g1 g2 g3 ⟨Nat.le_of_ble_eq_true rfl, Nat.le_of_ble_eq_true rfl⟩ ⟨hx9.1, absurd hx9.2 (by decide)⟩) (fun mem98 H locs hq hP hS => ?_)
      have hD : va_D (Az sz) (fw n ad mem98) := fw_D hD
      obtain ⟨hqe, hg99⟩ := hq
      rw [hqe] at hP hD
      refine lv_aload_n Bx.1 Bx.2.1 d_Rd_readBracket_63 rfl (lv_at hl 1 rfl) ?_
      refine lv_dup Bx.1 Bx.2.1 d_Rd_readBracket_64 rfl ?_
      refine f_get Bx hP (by omega) h9_78 rfl inRd 2 (by decide) kw_146 rfl rfl d_Rd_readBracket_65 ?_
      refine lv_iconst (v := 1) Bx.1 Bx.2.1 d_Rd_readBracket_68 (by decide) ?_
      refine lv_iadd Bx.1 Bx.2.1 d_Rd_readBracket_69 ?_
      rw [show nI g73 + 1 = nI (g73 + 1) from nI_add (g73) (1)]
      refine f_put Bx hP hD hS (by omega) h9_78 rfl inRd tyRd okRd nmRd 2 (by decide) kw_146 rfl rfl rfl rfl (Nat.le_of_ble_eq_true rfl) d_Rd_readBracket_70 (fun H locs hP hS => ?_)
      obtain ⟨mem100, e_mem100⟩ : ∃ z, z = va_up mem48 (222) (.inr (4, [.ref (ad 1), .ref (ad 5), .int (nI (g73 + 1)), .int (ft77)])) := ⟨_, rfl⟩
      have hP : va_P D vcl (fw n ad mem100) H := by rw [e_mem100]; exact hP
      have hD : va_D (Az sz) (fw n ad mem100) := fw_D hD
      have h_mem100 : mem100 (222) = .inr (4, [.ref (ad 1), .ref (ad 5), .int (nI (g73 + 1)), .int (ft77)]) := by rw [e_mem100, va_up_self]
      have hh101 := (va_up_ne mem48 (.inr (4, [.ref (ad 1), .ref (ad 5), .int (nI (g73 + 1)), .int (ft77)])) (show (1 : Nat) ≠ 222 by first | decide | assumption | omega)).trans h1_79
      rw [← e_mem100] at hh101
      have hh102 := (va_up_ne mem48 (.inr (4, [.ref (ad 1), .ref (ad 5), .int (nI (g73 + 1)), .int (ft77)])) (show (5 : Nat) ≠ 222 by first | decide | assumption | omega)).trans h5_81
      rw [← e_mem100] at hh102
      have hh103 := (va_up_ne mem48 (.inr (4, [.ref (ad 1), .ref (ad 5), .int (nI (g73 + 1)), .int (ft77)])) (show (220 : Nat) ≠ 222 by first | decide | assumption | omega)).trans h220_85
      rw [← e_mem100] at hh103
      have hrk104 : ∀ i9, i9 < R → mem100 (7 + i9) = mem (7 + i9) := fun i9 q9 => (show mem100 (7 + i9) = mem48 (7 + i9) by rw [e_mem100]; exact va_up_ne _ _ (by omega)).trans (hrk72 i9 q9)
      have her105 : ER ad (Rx52) (Ex53) (Bx_56) mem100 := ali67.2.1.fr (Nat.le_refl _) (fun i9 hi9 => by rw [e_mem100]; exact va_up_ne _ _ (by omega))
      have hsr106 : SR cy ad (Sx54) (Bx_56) mem100 := ⟨(show mem100 220 = _ from by rw [e_mem100]; exact va_up_ne _ _ (by omega)).trans ali67.2.2.1.1, (show mem100 221 = _ from by rw [e_mem100]; exact va_up_ne _ _ (by omega)).trans ali67.2.2.1.2⟩
      have hRX107 : RX cy ad lim (g73 + 1) (Rx52) (Ex53) (tox58) (nx57) m0 mem100 := by rw [e_mem100]; exact hRX66.at
      refine lv_aload_n Bx.1 Bx.2.1 d_Rd_readBracket_73 rfl (lv_at hl 0 rfl) ?_
      have hal9 : ALI cy ad T Z 5 (seqS T Z (gapF T Z (a + 1)) u R (Ec + 1) 5 (entA A 5 Ec what oe) nm) Ec R Ec S u (entA A 5 Ec what oe) Bw la49 ax50 ux51 Rx52 Ex53 Sx54 Ax55 Bx_56 nx57 mem100 := by rw [← eg26]; exact ⟨ali67.1, her105, hsr106, ali67.2.2.2⟩
      exact x_aret hx hb hlocks hr (⟨la49, ax50, ux51, Rx52, Ex53, Sx54, Ax55, Bx_56, nx57, tox58, rfl, by omega, by omega, by omega, by rw [← eg74]; have := br_lt hwe hb93; omega, htk64, hrk104, by rw [← eg74]; exact hRX107, hal9, by rw [← eg74]; exact hb93, by rw [← eg26]; exact hent⟩) hP hS d_Rd_readBracket_74
set_option maxHeartbeats 4000000 in
set_option maxRecDepth 100000 in
theorem m_Rd_readOption_4Y (l : Launch) {D : va_G} {cy : Nat → ClassId} {sz n : Nat} {ad : Nat → Nat} {mem : Nat → va_E} {Z a R Ec lim : Nat} {f T : Nat → Int32} {to : Nat → Int32} {nm : Nat → Int64} {m0 : Nat → va_E} {u S : Nat} {A Bw : Ro} (hlt : l.stackTraces = false) (hn : 224 ≤ n) (hT : TX cy ad Z f m0) (hf : ∀ k, k < Z → f k = T k) (hRX : RX cy ad lim a R Ec to nm m0 mem) (haB : a ≤ 300) (hER : ER ad R Ec Bw mem) (hSR : SR cy ad S Bw mem) (hSa : S ≤ a) (haZ : a < Z) (hLK : LKa Ec A) (hF : FRM A 4 Ec) (c91 : hereF Z T a = 91) : NXr l D cy sz n ad y_Rd_readOption c_Rd_readOption 3 (some (.object "AbnfChart$Element")) ({ frames := 27, cells := 1, slots := 6, locals := 643 } : Room) mem [.ref (ad 222), .int (4)] (fun r mem' => ∃ (k' a' u' R' E' S' : Nat) (A' Bw' : Ro) (nm' : Nat → Int64) (to' : Nat → Int32), r = ad (20 + 2 * k') ∧ Ec ≤ k' ∧ k' < E' ∧ R ≤ R' ∧ a < a' ∧ a' ≤ Z ∧ TOK R R' to to' ∧ (∀ i9, i9 < R → mem' (7 + i9) = mem (7 + i9)) ∧ RX cy ad lim a' R' E' to' nm' m0 mem' ∧ RDS cy ad T Z 4 (singS T Z a u R Ec 4 A nm) (PSf A 4) R Ec S u A Bw k' a' u' R' E' S' A' Bw' nm' mem' ∧ A' 238 4 = A 238 4) (fun X mem' => ((X = cIA ∨ X = cIS) ∧ ∃ rc' ec' : Nat, RS cy ad lim rc' ec' m0 mem') ∧ (Fai T Z (singS T Z a u R Ec 4 A nm))) := by
  refine vx_ofW (cc := c_Rd_readOption) (maxL := 3) (ret := (some (.object "AbnfChart$Element"))) (by decide) rfl ?_
  intro p e s m args below meth c s₁ B hml hno hv
  obtain ⟨rfl, E, hP, hD⟩ := hv
  have hx := B.exec
  have hb := B.bytes
  have hr := B.returns
  have hlocks := B.notSynchronized
  have Bx : MB p s m [.ref (ad 222), .int (4)].toArray c c_Rd_readOption "AbnfChart$Reader" D cy := ⟨hx, hb, tb_all (atoms_spec B.pre) E.2.1, findClass_of_methodNamed B.named, E.1⟩
  have hS : va_S (Az sz) s.heap s.heap [] := va_S.rf
  have hl := lv_entry ([.ref (ad 222), .int (4)]) (n := 3) (Nat.le_of_ble_eq_true rfl)
  rw [lg_entry_eq]
  generalize (lg_sl ([.ref (ad 222), .int (4)]) ++ List.replicate (3 - (lg_sl ([.ref (ad 222), .int (4)])).length) Slot.unset).toArray = ls at hl ⊢
  have hl : lv_has ls 3 [(0, .ref (ad 222)), (1, .int (4))] := hl
  have hZ9 := hT.2.1
  have hbd9 := hRX.1.1.1
  have hfr0 : ∀ i, 7 ≤ i ∧ i < 222 ∧ i ≠ 20 + 2 * Ec → mem i = mem i := fun _ _ => rfl
  have hrk0 : ∀ i9, i9 < R → mem (7 + i9) = mem (7 + i9) := fun _ _ => rfl
  obtain ⟨ft1, h9_2⟩ := hRX.2.1
  have h1_3 : mem 1 = .inr (0, [.ref (ad 2), .int (nI Z)]) := (hRX.1.2.2 1 (by omega)).trans hT.1
  have h2_4 : mem 2 = .inl (cy 0, 240, .inl f) := (hRX.1.2.2 2 (by omega)).trans hT.2.2
  have h5_5 := hRX.1.1.2.1
  have hbd11 := hRX.1.1.1
  obtain ⟨S6, g7, hS_8, h220_9, h221_10⟩ := hRX.1.1.2.2.2.2.2.2
  refine lv_aload_n Bx.1 Bx.2.1 d_Rd_readOption_0 rfl (lv_at hl 0 rfl) ?_
  refine lv_iconst (v := 3) Bx.1 Bx.2.1 d_Rd_readOption_1 (by decide) ?_
  refine lv_aload_n Bx.1 Bx.2.1 d_Rd_readOption_2 rfl (lv_at hl 0 rfl) ?_
  refine f_get Bx hP (by omega) h9_2 rfl inRd 2 (by decide) kw_146 rfl rfl d_Rd_readOption_3 ?_
  refine f_xVr (na := 2) (As := [.int (3), .int (nI a)]) (rest := []) Bx hml E hP hD hS (by omega) h9_2 rfl (m_Rd_addElementY l hlt hn hT hf hRX (by omega)) kw_419 kw_421 sel_Rd_addElement kw_6 kw_422 (by decide +kernel) ⟨rfl, rfl⟩ ⟨Nat.le_of_ble_eq_true rfl, Nat.le_of_ble_eq_true rfl⟩ rfl hl.1 (Nat.le_of_ble_eq_true rfl) d_Rd_readOption_6 ⟨Nat.le_of_ble_eq_true rfl, Nat.le_of_ble_eq_true rfl⟩ (fun X ce q9 memx H locs hx9 hP hS g1 g2 g3 => f_out hlocks hno hP hS g1 g2 g3 ⟨Nat.le_of_ble_eq_true rfl, Nat.le_of_ble_eq_true rfl⟩ ⟨hx9.1, Or.inl (sing_o0 (l91 c91).1 c91 (Or.inr hx9.2))⟩) (fun r12 mem13 H locs hq hP hS => ?_)
  have hD : va_D (Az sz) (fw n ad mem13) := fw_D hD
  obtain ⟨hr914, hec15, hRX16, hcl17, hfa18⟩ := hq
  subst hr914
  have hrk19 : ∀ i9, i9 < R → mem13 (7 + i9) = mem (7 + i9) := fun i9 q9 => (hfa18 (7 + i9) (by omega)).trans (hrk0 i9 q9)
  have hfr20 : ∀ i, 7 ≤ i ∧ i < 222 ∧ i ≠ 20 + 2 * Ec → mem13 i = mem i := fun i q => (hfa18 i (by omega)).trans (hfr0 i q)
  obtain ⟨ft21, h9_22⟩ := hRX16.2.1
  have h1_23 : mem13 1 = .inr (0, [.ref (ad 2), .int (nI Z)]) := (hRX16.1.2.2 1 (by omega)).trans hT.1
  have h2_24 : mem13 2 = .inl (cy 0, 240, .inl f) := (hRX16.1.2.2 2 (by omega)).trans hT.2.2
  have h5_25 := hRX16.1.1.2.1
  have hbd31 := hRX16.1.1.1
  obtain ⟨S26, g27, hS_28, h220_29, h221_30⟩ := hRX16.1.1.2.2.2.2.2.2
  obtain ⟨ft32, h9_33⟩ := hRX16.2.1
  have h1_34 : mem13 1 = .inr (0, [.ref (ad 2), .int (nI Z)]) := (hRX16.1.2.2 1 (by omega)).trans hT.1
  have h2_35 : mem13 2 = .inl (cy 0, 240, .inl f) := (hRX16.1.2.2 2 (by omega)).trans hT.2.2
  have h5_36 := hRX16.1.1.2.1
  have hbd42 := hRX16.1.1.1
  obtain ⟨S37, g38, hS_39, h220_40, h221_41⟩ := hRX16.1.1.2.2.2.2.2.2
  refine lv_astore_n (lv' := [(2, .ref (ad (20 + 2 * Ec))), (0, .ref (ad 222)), (1, .int (4))]) Bx.1 Bx.2.1 d_Rd_readOption_9 rfl hl (by decide) rfl (fun ls hl => ?_)
  refine lv_aload_n Bx.1 Bx.2.1 d_Rd_readOption_10 rfl (lv_at hl 0 rfl) ?_
  refine lv_aload_n Bx.1 Bx.2.1 d_Rd_readOption_11 rfl (lv_at hl 1 rfl) ?_
  refine lv_iload_n Bx.1 Bx.2.1 d_Rd_readOption_12 rfl (lv_at hl 2 rfl) ?_
  refine lv_bipush (v := 93) Bx.1 Bx.2.1 d_Rd_readOption_13 (by decide) ?_
  have her43 : ER ad R (Ec + 1) (bwN Bw Ec 3 (0) (0) (-1) (-1) (-1) (Bw 234)) mem13 := hER.new (Nat.le_refl _) (by rw [vR_m]; exact hcl17) (Or.inl rfl) (fun i9 hi9 => hfr20 (20 + 2 * i9) (by omega))
  have hsr44 : SR cy ad S (bwN Bw Ec 3 (0) (0) (-1) (-1) (-1) (Bw 234)) mem13 := ⟨(hfr20 220 (by omega)).trans hSR.1, (hfr20 221 (by omega)).trans hSR.2⟩
  have hE9 := hec15
  refine f_xVr (na := 2) (As := [.int (4), .int (93)]) (rest := [.ref (ad (20 + 2 * Ec))]) Bx hml E hP hD hS (by omega) h9_33 rfl (m_Rd_readBracket_4Y l hlt hn hT hf hRX16 (by omega) (u := u) (A := elA A Ec 3) (what := 2) (oe := nI Ec) her43 hsr44 (by omega) (by omega) (Or.inr ⟨rfl, rfl⟩) (elA_lka hLK)) kw_447 kw_449 sel_Rd_readBracket kw_6 kw_450 (by decide +kernel) ⟨rfl, rfl⟩ ⟨Nat.le_of_ble_eq_true rfl, Nat.le_of_ble_eq_true rfl⟩ rfl hl.1 (Nat.le_of_ble_eq_true rfl) d_Rd_readOption_15 ⟨Nat.le_of_ble_eq_true rfl, Nat.le_of_ble_eq_true rfl⟩ (fun X ce q9 memx H locs hx9 hP hS g1 g2 g3 => f_out hlocks hno hP hS g1 g2 g3 ⟨Nat.le_of_ble_eq_true rfl, Nat.le_of_ble_eq_true rfl⟩ ⟨hx9.1, hx9.2.eq (sing_op (l91 c91).1 c91 (by omega) hE9)⟩) (fun r45 mem46 H locs hq hP hS => ?_)
  have hD : va_D (Az sz) (fw n ad mem46) := fw_D hD
  obtain ⟨la47, ax48, ux49, Rx50, Ex51, Sx52, Ax53, Bx_54, nx55, tox56, hr957, h158, h259, h360, h461, htk62, hrk63, hRX64, ali65, hh66, hent67⟩ := hq
  subst hr957
  have hrk68 : ∀ i9, i9 < R → mem46 (7 + i9) = mem (7 + i9) := fun i9 q9 => (hrk63 i9 (by omega)).trans (hrk19 i9 q9)
  obtain ⟨ft69, h9_70⟩ := hRX64.2.1
  have h1_71 : mem46 1 = .inr (0, [.ref (ad 2), .int (nI Z)]) := (hRX64.1.2.2 1 (by omega)).trans hT.1
  have h2_72 : mem46 2 = .inl (cy 0, 240, .inl f) := (hRX64.1.2.2 2 (by omega)).trans hT.2.2
  have h5_73 := hRX64.1.1.2.1
  have hbd79 := hRX64.1.1.1
  obtain ⟨S74, g75, hS_76, h220_77, h221_78⟩ := hRX64.1.1.2.2.2.2.2.2
  have hbd80 := hRX64.1.1.1
  have hce81 := (ali65.2.1 Ec (by omega)).1
  refine f_putN Bx hP hD hS (by omega) hce81 rfl inEl tyEl okEl nmEl 4 (by decide) kw_87 rfl rfl rfl rfl (Nat.le_of_ble_eq_true rfl) d_Rd_readOption_18 (fun H locs hP hS => ?_)
  obtain ⟨mem82, e_mem82⟩ : ∃ z, z = va_up mem46 ((20 + 2 * Ec)) (.inr (2, [.int (Bx_54 228 Ec), .int (Bx_54 229 Ec), .int (Bx_54 230 Ec), vR ad (Bx_54 231 Ec), .ref (ad (20 + 2 * (Ec + 1))), vE ad (Bx_54 233 Ec), .ref (ad (21 + 2 * Ec))])) := ⟨_, rfl⟩
  have hP : va_P D vcl (fw n ad mem82) H := by rw [e_mem82]; exact hP
  have hD : va_D (Az sz) (fw n ad mem82) := fw_D hD
  have h_mem82 : mem82 ((20 + 2 * Ec)) = .inr (2, [.int (Bx_54 228 Ec), .int (Bx_54 229 Ec), .int (Bx_54 230 Ec), vR ad (Bx_54 231 Ec), .ref (ad (20 + 2 * (Ec + 1))), vE ad (Bx_54 233 Ec), .ref (ad (21 + 2 * Ec))]) := by rw [e_mem82, va_up_self]
  have hh83 := (va_up_ne mem46 (.inr (2, [.int (Bx_54 228 Ec), .int (Bx_54 229 Ec), .int (Bx_54 230 Ec), vR ad (Bx_54 231 Ec), .ref (ad (20 + 2 * (Ec + 1))), vE ad (Bx_54 233 Ec), .ref (ad (21 + 2 * Ec))])) (show (222 : Nat) ≠ (20 + 2 * Ec) by first | decide | assumption | omega)).trans h9_70
  rw [← e_mem82] at hh83
  have hh84 := (va_up_ne mem46 (.inr (2, [.int (Bx_54 228 Ec), .int (Bx_54 229 Ec), .int (Bx_54 230 Ec), vR ad (Bx_54 231 Ec), .ref (ad (20 + 2 * (Ec + 1))), vE ad (Bx_54 233 Ec), .ref (ad (21 + 2 * Ec))])) (show (1 : Nat) ≠ (20 + 2 * Ec) by first | decide | assumption | omega)).trans h1_71
  rw [← e_mem82] at hh84
  have hh85 := (va_up_ne mem46 (.inr (2, [.int (Bx_54 228 Ec), .int (Bx_54 229 Ec), .int (Bx_54 230 Ec), vR ad (Bx_54 231 Ec), .ref (ad (20 + 2 * (Ec + 1))), vE ad (Bx_54 233 Ec), .ref (ad (21 + 2 * Ec))])) (show (5 : Nat) ≠ (20 + 2 * Ec) by first | decide | assumption | omega)).trans h5_73
  rw [← e_mem82] at hh85
  have hh86 := (va_up_ne mem46 (.inr (2, [.int (Bx_54 228 Ec), .int (Bx_54 229 Ec), .int (Bx_54 230 Ec), vR ad (Bx_54 231 Ec), .ref (ad (20 + 2 * (Ec + 1))), vE ad (Bx_54 233 Ec), .ref (ad (21 + 2 * Ec))])) (show (220 : Nat) ≠ (20 + 2 * Ec) by first | decide | assumption | omega)).trans h220_77
  rw [← e_mem82] at hh86
  have hrk87 : ∀ i9, i9 < R → mem82 (7 + i9) = mem (7 + i9) := fun i9 q9 => (show mem82 (7 + i9) = mem46 (7 + i9) by rw [e_mem82]; exact va_up_ne _ _ (by omega)).trans (hrk68 i9 q9)
  have hRX88 : RX cy ad lim (gapF T Z ax48 + 1) (Rx50) (Ex51) (tox56) (nx55) m0 mem82 := by rw [e_mem82]; exact hRX64.el (by omega) (hRX64.1.mk (by omega) (hRX64.1.1.upEl (by omega) (fun _ => ⟨(ali65.2.1 Ec (by omega)).2.1.oR ad, Or.inr ⟨(Ec + 1), by omega, by omega, rfl⟩, (ali65.2.1 Ec (by omega)).2.2.2.oE ad (by omega)⟩)))
  have her89 : ER ad (Rx50) (Ex51) (va_up Bx_54 232 (upd (Bx_54 232) Ec (nI (Ec + 1)))) mem82 := ali65.2.1.part (by omega) (by omega) (by omega) h_mem82 (fun i9 q9 hi9 => by rw [e_mem82]; exact va_up_ne _ _ (by omega))
  have hsr90 : SR cy ad (Sx52) (Bx_54) mem82 := ⟨(show mem82 220 = mem46 220 by rw [e_mem82]; exact va_up_ne _ _ (by omega)).trans ali65.2.2.1.1, (show mem82 221 = mem46 221 by rw [e_mem82]; exact va_up_ne _ _ (by omega)).trans ali65.2.2.1.2⟩
  obtain ⟨ft91, h9_92⟩ := hRX88.2.1
  have h1_93 : mem82 1 = .inr (0, [.ref (ad 2), .int (nI Z)]) := (hRX88.1.2.2 1 (by omega)).trans hT.1
  have h2_94 : mem82 2 = .inl (cy 0, 240, .inl f) := (hRX88.1.2.2 2 (by omega)).trans hT.2.2
  have h5_95 := hRX88.1.1.2.1
  have hbd101 := hRX88.1.1.1
  obtain ⟨S96, g97, hS_98, h220_99, h221_100⟩ := hRX88.1.1.2.2.2.2.2.2
  refine lv_aload_n Bx.1 Bx.2.1 d_Rd_readOption_21 rfl (lv_at hl 0 rfl) ?_
  have hrd9 := opt_rds (nm := nm) hLK (by omega) hF hent67 ali65 hh66 her89 hsr90
  exact x_aret hx hb hlocks hr (⟨Ec, gapF T Z ax48 + 1, ux49, Rx50, Ex51, Sx52, _, _, nx55, tox56, rfl, by omega, by omega, by omega, by have := gapF_ge T Z ax48; omega, by omega, htk62, hrk87, hRX88, rdsEq hrd9.1 (sing_op (l91 c91).1 c91 (by omega) hE9), hrd9.2⟩) hP hS d_Rd_readOption_22
set_option maxHeartbeats 4000000 in
set_option maxRecDepth 100000 in
theorem m_Rd_readElement_4Y (l : Launch) {D : va_G} {cy : Nat → ClassId} {sz n : Nat} {ad : Nat → Nat} {mem : Nat → va_E} {Z a R Ec lim : Nat} {f T : Nat → Int32} {to : Nat → Int32} {nm : Nat → Int64} {m0 : Nat → va_E} {u S : Nat} {A Bw : Ro} (hlt : l.stackTraces = false) (hn : 224 ≤ n) (hT : TX cy ad Z f m0) (hf : ∀ k, k < Z → f k = T k) (hRX : RX cy ad lim a R Ec to nm m0 mem) (haB : a ≤ 300) (hER : ER ad R Ec Bw mem) (hSR : SR cy ad S Bw mem) (hSa : S ≤ a) (haZ : a ≤ Z) (hLK : LKa Ec A) (hF : FRM A 4 Ec) : NXr l D cy sz n ad y_Rd_readElement c_Rd_readElement 2 (some (.object "AbnfChart$Element")) ({ frames := 28, cells := 1, slots := 6, locals := 666 } : Room) mem [.ref (ad 222), .int (4)] (fun r mem' => ∃ (k' a' u' R' E' S' : Nat) (A' Bw' : Ro) (nm' : Nat → Int64) (to' : Nat → Int32), r = ad (20 + 2 * k') ∧ Ec ≤ k' ∧ k' < E' ∧ R ≤ R' ∧ a < a' ∧ a' ≤ Z ∧ TOK R R' to to' ∧ (∀ i9, i9 < R → mem' (7 + i9) = mem (7 + i9)) ∧ RX cy ad lim a' R' E' to' nm' m0 mem' ∧ RDS cy ad T Z 4 (singS T Z a u R Ec 4 A nm) (PSf A 4) R Ec S u A Bw k' a' u' R' E' S' A' Bw' nm' mem' ∧ A' 238 4 = A 238 4 ∧ OKc (hereF Z T a)) (fun X mem' => ((X = cIA ∨ X = cIS) ∧ ∃ rc' ec' : Nat, RS cy ad lim rc' ec' m0 mem') ∧ (Fai T Z (singS T Z a u R Ec 4 A nm) ∨ ¬ OKc (hereF Z T a))) := by
  refine vx_ofW (cc := c_Rd_readElement) (maxL := 2) (ret := (some (.object "AbnfChart$Element"))) (by decide) rfl ?_
  intro p e s m args below meth c s₁ B hml hno hv
  obtain ⟨rfl, E, hP, hD⟩ := hv
  have hx := B.exec
  have hb := B.bytes
  have hr := B.returns
  have hlocks := B.notSynchronized
  have Bx : MB p s m [.ref (ad 222), .int (4)].toArray c c_Rd_readElement "AbnfChart$Reader" D cy := ⟨hx, hb, tb_all (atoms_spec B.pre) E.2.1, findClass_of_methodNamed B.named, E.1⟩
  have hS : va_S (Az sz) s.heap s.heap [] := va_S.rf
  have hl := lv_entry ([.ref (ad 222), .int (4)]) (n := 2) (Nat.le_of_ble_eq_true rfl)
  rw [lg_entry_eq]
  generalize (lg_sl ([.ref (ad 222), .int (4)]) ++ List.replicate (2 - (lg_sl ([.ref (ad 222), .int (4)])).length) Slot.unset).toArray = ls at hl ⊢
  have hl : lv_has ls 2 [(0, .ref (ad 222)), (1, .int (4))] := hl
  have hZ9 := hT.2.1
  have hbd9 := hRX.1.1.1
  have hfr0 : ∀ i, 7 ≤ i ∧ i < 222 ∧ i ≠ 20 + 2 * Ec → mem i = mem i := fun _ _ => rfl
  have hrk0 : ∀ i9, i9 < R → mem (7 + i9) = mem (7 + i9) := fun _ _ => rfl
  obtain ⟨ft1, h9_2⟩ := hRX.2.1
  have h1_3 : mem 1 = .inr (0, [.ref (ad 2), .int (nI Z)]) := (hRX.1.2.2 1 (by omega)).trans hT.1
  have h2_4 : mem 2 = .inl (cy 0, 240, .inl f) := (hRX.1.2.2 2 (by omega)).trans hT.2.2
  have h5_5 := hRX.1.1.2.1
  have hbd11 := hRX.1.1.1
  obtain ⟨S6, g7, hS_8, h220_9, h221_10⟩ := hRX.1.1.2.2.2.2.2.2
  refine lv_aload_n Bx.1 Bx.2.1 d_Rd_readElement_0 rfl (lv_at hl 0 rfl) ?_
  refine f_callVi (na := 0) (As := []) (rest := []) Bx hml E hP hD hS (by omega) h9_2 rfl (m_Rd_peekX l hn hT hf hRX (by omega)) kw_353 kw_355 sel_Rd_peek kw_6 kw_356 (by decide +kernel) ⟨rfl, rfl⟩ ⟨Nat.le_of_ble_eq_true rfl, Nat.le_of_ble_eq_true rfl⟩ rfl hl.1 (Nat.le_of_ble_eq_true rfl) d_Rd_readElement_1 ⟨Nat.le_of_ble_eq_true rfl, Nat.le_of_ble_eq_true rfl⟩ (fun r13 mem14 H locs hq hP hS => ?_)
  have hD : va_D (Az sz) (fw n ad mem14) := fw_D hD
  obtain ⟨hqe, hpk12⟩ := hq
  rw [hqe] at hP hD
  subst hpk12
  refine lv_topi (fun v16 e_v16 => ?_)
  by_cases c34 : v16 = 34
  · rw [c34]
    refine lv_lookup (off := 58) (tgt := 62) Bx.1 Bx.2.1 d_Rd_readElement_4 (by decide) (by decide) rfl ?_
    rw [e_v16] at c34
    have hlt34 := hereF_lt (show hereF Z T (a) ≠ -1 by rw [c34]; decide)
    refine lv_aload_n Bx.1 Bx.2.1 d_Rd_readElement_62 rfl (lv_at hl 0 rfl) ?_
    refine lv_aload_n Bx.1 Bx.2.1 d_Rd_readElement_63 rfl (lv_at hl 0 rfl) ?_
    refine f_get Bx hP (by omega) h9_2 rfl inRd 2 (by decide) kw_146 rfl rfl d_Rd_readElement_64 ?_
    refine lv_iconst (v := 5) Bx.1 Bx.2.1 d_Rd_readElement_67 (by decide) ?_
    refine f_xVr (na := 2) (As := [.int (nI a), .int (5)]) (rest := []) Bx hml E hP hD hS (by omega) h9_2 rfl (m_Rd_readStringY l hlt hn hT hf hRX (by omega) hSR.1 hSR.2 (by omega) hSa) kw_455 kw_457 sel_Rd_readString kw_6 kw_458 (by decide +kernel) ⟨rfl, rfl⟩ ⟨Nat.le_of_ble_eq_true rfl, Nat.le_of_ble_eq_true rfl⟩ rfl hl.1 (Nat.le_of_ble_eq_true rfl) d_Rd_readElement_68 ⟨Nat.le_of_ble_eq_true rfl, Nat.le_of_ble_eq_true rfl⟩ (fun X ce q9 memx H locs hx9 hP hS g1 g2 g3 => f_out hlocks hno hP hS g1 g2 g3 ⟨Nat.le_of_ble_eq_true rfl, Nat.le_of_ble_eq_true rfl⟩ ⟨hx9.1, Or.inl (fai_str c34 hx9.2 hbd9.2.1)⟩) (fun r17 mem18 H locs hq hP hS => ?_)
    have hD : va_D (Az sz) (fw n ad mem18) := fw_D hD
    obtain ⟨hE9, hq9, hr2, hle9, hRX2, hcl2, ⟨s9, hs0, hs1, hs2, hs3⟩, hfr2⟩ := hq
    subst hr2
    obtain ⟨A2, B2, hrd2, h82⟩ := rds_str (j := 4) (u := u) (nm := nm) c34 hE9 hq9 hLK hF hER hcl2 hs0 hs1 hs2 hs3 (fun k hk => hfr2 (20 + 2 * k) (by omega)) hSa
    exact x_aret hx hb hlocks hr (⟨Ec, _, _, R, Ec + 1, _, A2, B2, nm, to, rfl, by omega, by omega, by omega, by omega, hle9, TOK.of rfl, fun i9 q9 => hfr2 (7 + i9) (by omega), hRX2, hrd2, h82, (l34 c34).2.2.2⟩) hP hS d_Rd_readElement_71
  by_cases c37 : v16 = 37
  · rw [c37]
    refine lv_lookup (off := 68) (tgt := 72) Bx.1 Bx.2.1 d_Rd_readElement_4 (by decide) (by decide) rfl ?_
    rw [e_v16] at c37
    have hlt37 := hereF_lt (show hereF Z T (a) ≠ -1 by rw [c37]; decide)
    refine lv_aload_n Bx.1 Bx.2.1 d_Rd_readElement_72 rfl (lv_at hl 0 rfl) ?_
    refine f_get Bx hP (by omega) h9_2 rfl inRd 0 (by decide) kw_144 rfl rfl d_Rd_readElement_73 ?_
    refine lv_aload_n Bx.1 Bx.2.1 d_Rd_readElement_76 rfl (lv_at hl 0 rfl) ?_
    refine f_get Bx hP (by omega) h9_2 rfl inRd 2 (by decide) kw_146 rfl rfl d_Rd_readElement_77 ?_
    refine lv_iconst (v := 1) Bx.1 Bx.2.1 d_Rd_readElement_80 (by decide) ?_
    refine lv_iadd Bx.1 Bx.2.1 d_Rd_readElement_81 ?_
    rw [show nI a + 1 = nI (a + 1) from nI_add (a) (1)]
    refine f_callVi (na := 1) (As := [.int (nI (a + 1))]) (rest := []) Bx hml E hP hD hS (by omega) h1_3 rfl (m_Ch_codeAt l (by omega) h1_3 (by omega) h2_4 (by rw [nI_toInt (by omega)]; omega)) kw_341 kw_342 kw_343 kw_2 kw_344 (by decide +kernel) ⟨rfl, rfl⟩ ⟨Nat.le_of_ble_eq_true rfl, Nat.le_of_ble_eq_true rfl⟩ rfl hl.1 (Nat.le_of_ble_eq_true rfl) d_Rd_readElement_82 ⟨Nat.le_of_ble_eq_true rfl, Nat.le_of_ble_eq_true rfl⟩ (fun r19 mem20 H locs hq hP hS => ?_)
    have hD : va_D (Az sz) (fw n ad mem20) := fw_D hD
    obtain ⟨hco21, hqe⟩ := hq
    rw [hqe] at hP hD
    rw [code_here hf hT.2.1 (k := a + 1) (by omega)] at hco21
    subst hco21
    refine f_callSNi (na := 1) (As := [.int (hereF Z T (a + 1))]) (rest := []) Bx hml E.2.1 (m_Ab_smallOfX l (hereF Z T (a + 1))) kw_372 kw_373 kw_1 kw_374 (by decide +kernel) ⟨rfl, rfl⟩ ⟨Nat.le_of_ble_eq_true rfl, Nat.le_of_ble_eq_true rfl⟩ rfl hl.1 (Nat.le_of_ble_eq_true rfl) d_Rd_readElement_85 ⟨Nat.le_of_ble_eq_true rfl, Nat.le_of_ble_eq_true rfl⟩ (fun r23 hs22 => ?_)
    subst hs22
    refine lv_bipush (v := 115) Bx.1 Bx.2.1 d_Rd_readElement_88 (by decide) ?_
    refine lv_icmp_ne Bx.1 Bx.2.1 d_Rd_readElement_90 rfl (fun hb24 => ?_) (fun hb24 => ?_)
    · refine lv_aload_n Bx.1 Bx.2.1 d_Rd_readElement_100 rfl (lv_at hl 0 rfl) ?_
      refine f_xVr (na := 0) (As := []) (rest := []) Bx hml E hP hD hS (by omega) h9_2 rfl (m_Rd_readValueY l hlt hn hT hf hRX (by omega) (u8 := u) (e8 := Ec) (A0 := va_up (elA A Ec 4) 231 (upd (elA A Ec 4 231) Ec (vp_nar .boolean 1))) hSR.1 hSR.2 (by omega) hSa) kw_467 kw_469 sel_Rd_readValue kw_6 kw_470 (by decide +kernel) ⟨rfl, rfl⟩ ⟨Nat.le_of_ble_eq_true rfl, Nat.le_of_ble_eq_true rfl⟩ rfl hl.1 (Nat.le_of_ble_eq_true rfl) d_Rd_readElement_101 ⟨Nat.le_of_ble_eq_true rfl, Nat.le_of_ble_eq_true rfl⟩ (fun X ce q9 memx H locs hx9 hP hS g1 g2 g3 => f_out hlocks hno hP hS g1 g2 g3 ⟨Nat.le_of_ble_eq_true rfl, Nat.le_of_ble_eq_true rfl⟩ ⟨hx9.1, Or.inl (fai_val c37 hb24 hx9.2 hbd9.2.1)⟩) (fun r25 mem26 H locs hq hP hS => ?_)
      have hD : va_D (Az sz) (fw n ad mem26) := fw_D hD
      obtain ⟨hE9, ba, a2, u2, A1, hba, hn9, hr2, x1, x2, hRX2, hsp2, hc2, hfr2⟩ := hq
      subst hr2
      obtain ⟨S2, A2, B2, hrd2, h82⟩ := rds_val (j := 4) (nm := nm) c37 hba hE9 hn9 hsp2 hLK hF hER (fun k hk => hfr2 (20 + 2 * k) (by omega)) hSa x1 hc2
      exact x_aret hx hb hlocks hr (⟨Ec, a2, u2, R, Ec + 1, S2, A2, B2, nm, to, rfl, by omega, by omega, by omega, x1, x2, TOK.of rfl, fun i9 q9 => hfr2 (7 + i9) (by omega), hRX2, hrd2, h82, (l37 c37).2.2.2.2⟩) hP hS d_Rd_readElement_104
    · refine lv_aload_n Bx.1 Bx.2.1 d_Rd_readElement_93 rfl (lv_at hl 0 rfl) ?_
      refine f_xVr (na := 0) (As := []) (rest := []) Bx hml E hP hD hS (by omega) h9_2 rfl (m_Rd_readExactStringY l hlt hn hT hf hRX (by omega) hSR.1 hSR.2 (by omega) hSa) kw_463 kw_465 sel_Rd_readExactString kw_6 kw_466 (by decide +kernel) ⟨rfl, rfl⟩ ⟨Nat.le_of_ble_eq_true rfl, Nat.le_of_ble_eq_true rfl⟩ rfl hl.1 (Nat.le_of_ble_eq_true rfl) d_Rd_readElement_94 ⟨Nat.le_of_ble_eq_true rfl, Nat.le_of_ble_eq_true rfl⟩ (fun X ce q9 memx H locs hx9 hP hS g1 g2 g3 => f_out hlocks hno hP hS g1 g2 g3 ⟨Nat.le_of_ble_eq_true rfl, Nat.le_of_ble_eq_true rfl⟩ ⟨hx9.1, Or.inl (fai_xst c37 hb24 hx9.2 hbd9.2.1)⟩) (fun r27 mem28 H locs hq hP hS => ?_)
      have hD : va_D (Az sz) (fw n ad mem28) := fw_D hD
      obtain ⟨hq8, hE9, hq9, hr2, hle9, hRX2, hcl2, ⟨s9, hs0, hs1, hs2, hs3⟩, hfr2⟩ := hq
      subst hr2
      obtain ⟨A2, B2, hrd2, h82⟩ := rds_xst (j := 4) (u := u) (nm := nm) c37 hb24 hq8 hE9 hq9 hLK hF hER hcl2 hs0 hs1 hs2 hs3 (fun k hk => hfr2 (20 + 2 * k) (by omega)) hSa
      refine lv_goto Bx.1 Bx.2.1 d_Rd_readElement_97 rfl ?_
      exact x_aret hx hb hlocks hr (⟨Ec, _, _, R, Ec + 1, _, A2, B2, nm, to, rfl, by omega, by omega, by omega, by omega, hle9, TOK.of rfl, fun i9 q9 => hfr2 (7 + i9) (by omega), hRX2, hrd2, h82, (l37 c37).2.2.2.2⟩) hP hS d_Rd_readElement_104
  by_cases c40 : v16 = 40
  · rw [c40]
    refine lv_lookup (off := 44) (tgt := 48) Bx.1 Bx.2.1 d_Rd_readElement_4 (by decide) (by decide) rfl ?_
    rw [e_v16] at c40
    have hlt40 := hereF_lt (show hereF Z T (a) ≠ -1 by rw [c40]; decide)
    refine lv_aload_n Bx.1 Bx.2.1 d_Rd_readElement_48 rfl (lv_at hl 0 rfl) ?_
    refine lv_iload_n Bx.1 Bx.2.1 d_Rd_readElement_49 rfl (lv_at hl 1 rfl) ?_
    refine lv_bipush (v := 41) Bx.1 Bx.2.1 d_Rd_readElement_50 (by decide) ?_
    refine f_xVr (na := 2) (As := [.int (4), .int (41)]) (rest := []) Bx hml E hP hD hS (by omega) h9_2 rfl (m_Rd_readBracket_4Y l hlt hn hT hf hRX (by omega) (u := u) (A := A) (what := 1) (oe := -1) hER hSR hSa (by omega) (Or.inl ⟨rfl, rfl⟩) hLK) kw_447 kw_449 sel_Rd_readBracket kw_6 kw_450 (by decide +kernel) ⟨rfl, rfl⟩ ⟨Nat.le_of_ble_eq_true rfl, Nat.le_of_ble_eq_true rfl⟩ rfl hl.1 (Nat.le_of_ble_eq_true rfl) d_Rd_readElement_52 ⟨Nat.le_of_ble_eq_true rfl, Nat.le_of_ble_eq_true rfl⟩ (fun X ce q9 memx H locs hx9 hP hS g1 g2 g3 => f_out hlocks hno hP hS g1 g2 g3 ⟨Nat.le_of_ble_eq_true rfl, Nat.le_of_ble_eq_true rfl⟩ ⟨hx9.1, Or.inl (hx9.2.eq (sing_br (l40 c40).1 c40 (by omega)))⟩) (fun r29 mem30 H locs hq hP hS => ?_)
    have hD : va_D (Az sz) (fw n ad mem30) := fw_D hD
    obtain ⟨la31, ax32, ux33, Rx34, Ex35, Sx36, Ax37, Bx_38, nx39, tox40, hr941, h142, h243, h344, h445, htk46, hrk47, hRX48, ali49, hh50, hent51⟩ := hq
    subst hr941
    have hrk52 : ∀ i9, i9 < R → mem30 (7 + i9) = mem (7 + i9) := fun i9 q9 => (hrk47 i9 (by omega)).trans (hrk0 i9 q9)
    have hE9 : Ec < 100 := by have := hRX48.1.1.1; omega
    have hrd9 := brk_rds (nm := nm) hLK hE9 hF hent51 ali49 hh50 ali49.2.1 ali49.2.2.1
    exact x_aret hx hb hlocks hr (⟨Ec, gapF T Z ax32 + 1, ux33, Rx34, Ex35, Sx36, _, _, nx39, tox40, rfl, by omega, by omega, by omega, by have := gapF_ge T Z ax32; omega, by omega, htk46, hrk52, hRX48, rdsEq hrd9.1 (sing_br (l40 c40).1 c40 (by omega)), hrd9.2, (l40 c40).2⟩) hP hS d_Rd_readElement_55
  by_cases c91 : v16 = 91
  · rw [c91]
    refine lv_lookup (off := 52) (tgt := 56) Bx.1 Bx.2.1 d_Rd_readElement_4 (by decide) (by decide) rfl ?_
    rw [e_v16] at c91
    have hlt91 := hereF_lt (show hereF Z T (a) ≠ -1 by rw [c91]; decide)
    refine lv_aload_n Bx.1 Bx.2.1 d_Rd_readElement_56 rfl (lv_at hl 0 rfl) ?_
    refine lv_iload_n Bx.1 Bx.2.1 d_Rd_readElement_57 rfl (lv_at hl 1 rfl) ?_
    refine f_xVr (na := 1) (As := [.int (4)]) (rest := []) Bx hml E hP hD hS (by omega) h9_2 rfl (m_Rd_readOption_4Y l hlt hn hT hf hRX (by omega) (u := u) (A := A) hER hSR hSa (by omega) hLK hF c91) kw_451 kw_453 sel_Rd_readOption kw_6 kw_454 (by decide +kernel) ⟨rfl, rfl⟩ ⟨Nat.le_of_ble_eq_true rfl, Nat.le_of_ble_eq_true rfl⟩ rfl hl.1 (Nat.le_of_ble_eq_true rfl) d_Rd_readElement_58 ⟨Nat.le_of_ble_eq_true rfl, Nat.le_of_ble_eq_true rfl⟩ (fun X ce q9 memx H locs hx9 hP hS g1 g2 g3 => f_out hlocks hno hP hS g1 g2 g3 ⟨Nat.le_of_ble_eq_true rfl, Nat.le_of_ble_eq_true rfl⟩ ⟨hx9.1, Or.inl hx9.2⟩) (fun r53 mem54 H locs hq hP hS => ?_)
    have hD : va_D (Az sz) (fw n ad mem54) := fw_D hD
    obtain ⟨kx55, ax56, ux57, Rx58, Ex59, Sx60, Ax61, Bx_62, nx63, tox64, hr965, h166, h267, h368, h469, h570, htk71, hrk72, hRX73, rds74, h875⟩ := hq
    subst hr965
    have hrk76 : ∀ i9, i9 < R → mem54 (7 + i9) = mem (7 + i9) := fun i9 q9 => (hrk72 i9 (by omega)).trans (hrk0 i9 q9)
    exact x_aret hx hb hlocks hr (⟨kx55, ax56, ux57, Rx58, Ex59, Sx60, Ax61, Bx_62, nx63, tox64, rfl, h166, h267, h368, h469, h570, htk71, hrk72, hRX73, rds74, h875, (l91 c91).2⟩) hP hS d_Rd_readElement_61
  refine lv_lookup (off := 101) (tgt := 105) Bx.1 Bx.2.1 d_Rd_readElement_4 (by decide) (by show Op.lookupswitch.offset [(34, 58), (37, 68), (40, 44), (91, 52)] 101 (v16).toInt = 101; rw [lv_osw c34 (by decide), lv_osw c37 (by decide), lv_osw c40 (by decide), lv_osw c91 (by decide)]; rfl) rfl ?_
  rw [e_v16] at c40 c91 c34 c37
  refine lv_aload_n Bx.1 Bx.2.1 d_Rd_readElement_105 rfl (lv_at hl 0 rfl) ?_
  refine f_xVr (na := 0) (As := []) (rest := []) Bx hml E hP hD hS (by omega) h9_2 rfl (m_Rd_readAskedNameY l hlt hn hT hf hRX (by omega) (A := A) (by omega)) kw_478 kw_480 sel_Rd_readAskedName kw_6 kw_481 (by decide +kernel) ⟨rfl, rfl⟩ ⟨Nat.le_of_ble_eq_true rfl, Nat.le_of_ble_eq_true rfl⟩ rfl hl.1 (Nat.le_of_ble_eq_true rfl) d_Rd_readElement_106 ⟨Nat.le_of_ble_eq_true rfl, Nat.le_of_ble_eq_true rfl⟩ (fun X ce q9 memx H locs hx9 hP hS g1 g2 g3 => f_out hlocks hno hP hS g1 g2 g3 ⟨Nat.le_of_ble_eq_true rfl, Nat.le_of_ble_eq_true rfl⟩ ⟨hx9.1, fai_nam c40 c91 c34 c37 hx9.2⟩) (fun r77 mem78 H locs hq hP hS => ?_)
  have hD : va_D (Az sz) (fw n ad mem78) := fw_D hD
  obtain ⟨i9, a2, R2, A3, n2, hsn, hle, hE9, hr2, x1, x2, x3, hA3, htk, ⟨t2, htk2, hRX2⟩, hi9, hcl2, hfr2⟩ := hq
  subst hr2
  have hR12 := hRX2.1.1.1.1
  obtain ⟨A2, B2, hrd2, h82⟩ := rds_nam (j := 4) (u := u) hle hsn hE9 hA3 htk x1 hi9 hR12 hLK hF hER ⟨(hfr2 220 (by omega)).trans hSR.1, (hfr2 221 (by omega)).trans hSR.2⟩ hcl2 (fun k hk => hfr2 (20 + 2 * k) (by omega)) (by omega)
  exact x_aret hx hb hlocks hr (⟨Ec, a2, u, R2, Ec + 1, S, A2, B2, n2, t2, rfl, by omega, by omega, x1, x2, x3, htk2, fun i9 q9 => hfr2 (7 + i9) (by omega), hRX2, hrd2, h82, lt_ok hle⟩) hP hS d_Rd_readElement_109
set_option maxHeartbeats 4000000 in
set_option maxRecDepth 100000 in
theorem m_Rd_readRepetition_4Y (l : Launch) {D : va_G} {cy : Nat → ClassId} {sz n : Nat} {ad : Nat → Nat} {mem : Nat → va_E} {Z a R Ec lim : Nat} {f T : Nat → Int32} {to : Nat → Int32} {nm : Nat → Int64} {m0 : Nat → va_E} {u S : Nat} {A Bw : Ro} (hlt : l.stackTraces = false) (hn : 224 ≤ n) (hT : TX cy ad Z f m0) (hf : ∀ k, k < Z → f k = T k) (hRX : RX cy ad lim a R Ec to nm m0 mem) (haB : a ≤ 300) (hER : ER ad R Ec Bw mem) (hSR : SR cy ad S Bw mem) (hSa : S ≤ a) (haZ : a ≤ Z) (hLK : LKa Ec A) (hF : FRM A 4 Ec) (h39 : A 239 4 = -1) (hbg : bgF (hereF Z T a) = true) : NXr l D cy sz n ad y_Rd_readRepetition c_Rd_readRepetition 3 (some (.object "AbnfChart$Element")) ({ frames := 29, cells := 1, slots := 6, locals := 688 } : Room) mem [.ref (ad 222), .int (4)] (fun r mem' => ∃ (k' a' u' R' E' S' : Nat) (A' Bw' : Ro) (nm' : Nat → Int64) (to' : Nat → Int32), r = ad (20 + 2 * k') ∧ Ec ≤ k' ∧ k' < E' ∧ R ≤ R' ∧ a < a' ∧ a' ≤ Z ∧ TOK R R' to to' ∧ (∀ i9, i9 < R → mem' (7 + i9) = mem (7 + i9)) ∧ RX cy ad lim a' R' E' to' nm' m0 mem' ∧ RDS cy ad T Z 4 (repS T Z a u R Ec 4 A nm) (PSf A 4) R Ec S u A Bw k' a' u' R' E' S' A' Bw' nm' mem' ∧ A' 238 4 = A 238 4) (fun X mem' => ((X = cIA ∨ X = cIS) ∧ ∃ rc' ec' : Nat, RS cy ad lim rc' ec' m0 mem') ∧ (Fai T Z (repS T Z a u R Ec 4 A nm))) := by
  refine vx_ofW (cc := c_Rd_readRepetition) (maxL := 3) (ret := (some (.object "AbnfChart$Element"))) (by decide) rfl ?_
  intro p e s m args below meth c s₁ B hml hno hv
  obtain ⟨rfl, E, hP, hD⟩ := hv
  have hx := B.exec
  have hb := B.bytes
  have hr := B.returns
  have hlocks := B.notSynchronized
  have Bx : MB p s m [.ref (ad 222), .int (4)].toArray c c_Rd_readRepetition "AbnfChart$Reader" D cy := ⟨hx, hb, tb_all (atoms_spec B.pre) E.2.1, findClass_of_methodNamed B.named, E.1⟩
  have hS : va_S (Az sz) s.heap s.heap [] := va_S.rf
  have hl := lv_entry ([.ref (ad 222), .int (4)]) (n := 3) (Nat.le_of_ble_eq_true rfl)
  rw [lg_entry_eq]
  generalize (lg_sl ([.ref (ad 222), .int (4)]) ++ List.replicate (3 - (lg_sl ([.ref (ad 222), .int (4)])).length) Slot.unset).toArray = ls at hl ⊢
  have hl : lv_has ls 3 [(0, .ref (ad 222)), (1, .int (4))] := hl
  have hZ9 := hT.2.1
  have hbd9 := hRX.1.1.1
  have hfr0 : ∀ i, 7 ≤ i ∧ i < 222 ∧ i ≠ 20 + 2 * Ec → mem i = mem i := fun _ _ => rfl
  have hrk0 : ∀ i9, i9 < R → mem (7 + i9) = mem (7 + i9) := fun _ _ => rfl
  obtain ⟨ft1, h9_2⟩ := hRX.2.1
  have h1_3 : mem 1 = .inr (0, [.ref (ad 2), .int (nI Z)]) := (hRX.1.2.2 1 (by omega)).trans hT.1
  have h2_4 : mem 2 = .inl (cy 0, 240, .inl f) := (hRX.1.2.2 2 (by omega)).trans hT.2.2
  have h5_5 := hRX.1.1.2.1
  have hbd11 := hRX.1.1.1
  obtain ⟨S6, g7, hS_8, h220_9, h221_10⟩ := hRX.1.1.2.2.2.2.2.2
  refine lv_aload_n Bx.1 Bx.2.1 d_Rd_readRepetition_0 rfl (lv_at hl 0 rfl) ?_
  refine f_callVi (na := 0) (As := []) (rest := []) Bx hml E hP hD hS (by omega) h9_2 rfl (m_Rd_peekX l hn hT hf hRX (by omega)) kw_353 kw_355 sel_Rd_peek kw_6 kw_356 (by decide +kernel) ⟨rfl, rfl⟩ ⟨Nat.le_of_ble_eq_true rfl, Nat.le_of_ble_eq_true rfl⟩ rfl hl.1 (Nat.le_of_ble_eq_true rfl) d_Rd_readRepetition_1 ⟨Nat.le_of_ble_eq_true rfl, Nat.le_of_ble_eq_true rfl⟩ (fun r13 mem14 H locs hq hP hS => ?_)
  have hD : va_D (Az sz) (fw n ad mem14) := fw_D hD
  obtain ⟨hqe, hpk12⟩ := hq
  rw [hqe] at hP hD
  subst hpk12
  refine f_callSi (na := 1) (As := [.int (hereF Z T (a))]) (rest := []) Bx hml E.2.1 (m_Rd_beginsRepeatX l (hereF Z T (a))) kw_416 kw_417 kw_6 kw_418 (by decide +kernel) ⟨rfl, rfl⟩ ⟨Nat.le_of_ble_eq_true rfl, Nat.le_of_ble_eq_true rfl⟩ rfl hl.1 (Nat.le_of_ble_eq_true rfl) d_Rd_readRepetition_4 ⟨Nat.le_of_ble_eq_true rfl, Nat.le_of_ble_eq_true rfl⟩ (fun r17 hs16 => ?_)
  subst hs16
  refine lv_if_ne Bx.1 Bx.2.1 d_Rd_readRepetition_7 rfl (fun hb18 => ?_) (fun hb18 => ?_)
  · refine lv_aload_n Bx.1 Bx.2.1 d_Rd_readRepetition_16 rfl (lv_at hl 0 rfl) ?_
    refine lv_iconst (v := 2) Bx.1 Bx.2.1 d_Rd_readRepetition_17 (by decide) ?_
    refine lv_aload_n Bx.1 Bx.2.1 d_Rd_readRepetition_18 rfl (lv_at hl 0 rfl) ?_
    refine f_get Bx hP (by omega) h9_2 rfl inRd 2 (by decide) kw_146 rfl rfl d_Rd_readRepetition_19 ?_
    refine f_xVr (na := 2) (As := [.int (2), .int (nI a)]) (rest := []) Bx hml E hP hD hS (by omega) h9_2 rfl (m_Rd_addElementY l hlt hn hT hf hRX (by omega)) kw_419 kw_421 sel_Rd_addElement kw_6 kw_422 (by decide +kernel) ⟨rfl, rfl⟩ ⟨Nat.le_of_ble_eq_true rfl, Nat.le_of_ble_eq_true rfl⟩ rfl hl.1 (Nat.le_of_ble_eq_true rfl) d_Rd_readRepetition_22 ⟨Nat.le_of_ble_eq_true rfl, Nat.le_of_ble_eq_true rfl⟩ (fun X ce q9 memx H locs hx9 hP hS g1 g2 g3 => f_out hlocks hno hP hS g1 g2 g3 ⟨Nat.le_of_ble_eq_true rfl, Nat.le_of_ble_eq_true rfl⟩ ⟨hx9.1, Or.inl (rep_E (bpF_1 hb18) hx9.2)⟩) (fun r19 mem20 H locs hq hP hS => ?_)
    have hD : va_D (Az sz) (fw n ad mem20) := fw_D hD
    obtain ⟨hr921, hec22, hRX23, hcl24, hfa25⟩ := hq
    subst hr921
    have hrk26 : ∀ i9, i9 < R → mem20 (7 + i9) = mem (7 + i9) := fun i9 q9 => (hfa25 (7 + i9) (by omega)).trans (hrk0 i9 q9)
    have hfr27 : ∀ i, 7 ≤ i ∧ i < 222 ∧ i ≠ 20 + 2 * Ec → mem20 i = mem i := fun i q => (hfa25 i (by omega)).trans (hfr0 i q)
    obtain ⟨ft28, h9_29⟩ := hRX23.2.1
    have h1_30 : mem20 1 = .inr (0, [.ref (ad 2), .int (nI Z)]) := (hRX23.1.2.2 1 (by omega)).trans hT.1
    have h2_31 : mem20 2 = .inl (cy 0, 240, .inl f) := (hRX23.1.2.2 2 (by omega)).trans hT.2.2
    have h5_32 := hRX23.1.1.2.1
    have hbd38 := hRX23.1.1.1
    obtain ⟨S33, g34, hS_35, h220_36, h221_37⟩ := hRX23.1.1.2.2.2.2.2.2
    obtain ⟨ft39, h9_40⟩ := hRX23.2.1
    have h1_41 : mem20 1 = .inr (0, [.ref (ad 2), .int (nI Z)]) := (hRX23.1.2.2 1 (by omega)).trans hT.1
    have h2_42 : mem20 2 = .inl (cy 0, 240, .inl f) := (hRX23.1.2.2 2 (by omega)).trans hT.2.2
    have h5_43 := hRX23.1.1.2.1
    have hbd49 := hRX23.1.1.1
    obtain ⟨S44, g45, hS_46, h220_47, h221_48⟩ := hRX23.1.1.2.2.2.2.2.2
    refine lv_astore_n (lv' := [(2, .ref (ad (20 + 2 * Ec))), (0, .ref (ad 222)), (1, .int (4))]) Bx.1 Bx.2.1 d_Rd_readRepetition_25 rfl hl (by decide) rfl (fun ls hl => ?_)
    refine lv_aload_n Bx.1 Bx.2.1 d_Rd_readRepetition_26 rfl (lv_at hl 1 rfl) ?_
    refine lv_aload_n Bx.1 Bx.2.1 d_Rd_readRepetition_27 rfl (lv_at hl 0 rfl) ?_
    have hdg := bpF_1 hb18
    have hE9 := hec22
    refine f_xVv (na := 1) (As := [.ref (ad (20 + 2 * Ec))]) (rest := []) Bx hml E hP hD hS (by omega) h9_40 rfl (m_Rd_readRepeatY l hlt hn hT hf hRX23 (by omega) (by omega) hcl24 (by omega) hdg) kw_482 kw_484 sel_Rd_readRepeat kw_6 kw_485 (by decide +kernel) ⟨rfl, rfl⟩ ⟨Nat.le_of_ble_eq_true rfl, Nat.le_of_ble_eq_true rfl⟩ rfl hl.1 (Nat.le_of_ble_eq_true rfl) d_Rd_readRepetition_28 ⟨Nat.le_of_ble_eq_true rfl, Nat.le_of_ble_eq_true rfl⟩ (fun X ce q9 memx H locs hx9 hP hS g1 g2 g3 => f_out hlocks hno hP hS g1 g2 g3 ⟨Nat.le_of_ble_eq_true rfl, Nat.le_of_ble_eq_true rfl⟩ ⟨hx9.1, hx9.2.elim (fun v1 z => z.elim (fun b1 z => z.elim (fun v2 z => z.elim (fun b2 z => Or.inl (rep_bad hdg hE9 z.1 z.2.1 (Or.inl z.2.2))))))⟩) (fun mem51 H locs hq hP hS => ?_)
    have hD : va_D (Az sz) (fw n ad mem51) := fw_D hD
    obtain ⟨v1, b1, v2, b2, hr1, hr2, hnv, hb8, hb9, hRXr, hclr, hfar⟩ := hq
    have hrk52 : ∀ i9, i9 < R → mem51 (7 + i9) = mem (7 + i9) := fun i9 q9 => (hfar (7 + i9) (by omega)).trans (hrk26 i9 q9)
    have hfr53 : ∀ i, 7 ≤ i ∧ i < 222 ∧ i ≠ 20 + 2 * Ec → mem51 i = mem i := fun i q => (hfar i (by omega)).trans (hfr27 i q)
    obtain ⟨ft54, h9_55⟩ := hRXr.2.1
    have h1_56 : mem51 1 = .inr (0, [.ref (ad 2), .int (nI Z)]) := (hRXr.1.2.2 1 (by omega)).trans hT.1
    have h2_57 : mem51 2 = .inl (cy 0, 240, .inl f) := (hRXr.1.2.2 2 (by omega)).trans hT.2.2
    have h5_58 := hRXr.1.1.2.1
    have hbd64 := hRXr.1.1.1
    obtain ⟨S59, g60, hS_61, h220_62, h221_63⟩ := hRXr.1.1.2.2.2.2.2.2
    obtain ⟨ft65, h9_66⟩ := hRXr.2.1
    have h1_67 : mem51 1 = .inr (0, [.ref (ad 2), .int (nI Z)]) := (hRXr.1.2.2 1 (by omega)).trans hT.1
    have h2_68 : mem51 2 = .inl (cy 0, 240, .inl f) := (hRXr.1.2.2 2 (by omega)).trans hT.2.2
    have h5_69 := hRXr.1.1.2.1
    have hbd75 := hRXr.1.1.1
    obtain ⟨S70, g71, hS_72, h220_73, h221_74⟩ := hRXr.1.1.2.2.2.2.2.2
    refine lv_aload_n Bx.1 Bx.2.1 d_Rd_readRepetition_31 rfl (lv_at hl 0 rfl) ?_
    refine lv_aload_n Bx.1 Bx.2.1 d_Rd_readRepetition_32 rfl (lv_at hl 1 rfl) ?_
    refine lv_iload_n Bx.1 Bx.2.1 d_Rd_readRepetition_33 rfl (lv_at hl 2 rfl) ?_
    have her76 : ER ad R (Ec + 1) (bwN Bw Ec 2 (v1) (v2) (-1) (-1) (-1) (Bw 234)) mem51 := hER.new (Nat.le_refl _) (by rw [vR_m]; exact hclr) (Or.inl rfl) (fun i9 hi9 => hfr53 (20 + 2 * i9) (by omega))
    have hsr77 : SR cy ad S (bwN Bw Ec 2 (v1) (v2) (-1) (-1) (-1) (Bw 234)) mem51 := ⟨(hfr53 220 (by omega)).trans hSR.1, (hfr53 221 (by omega)).trans hSR.2⟩
    obtain ⟨hLK1, hF1⟩ := frm_rep (v1 := v1) (v2 := v2) hLK hE9 hF h39
    refine f_xVr (na := 1) (As := [.int (4)]) (rest := [.ref (ad (20 + 2 * Ec))]) Bx hml E hP hD hS (by omega) h9_66 rfl (m_Rd_readElement_4Y l hlt hn hT hf hRXr (by omega) (u := u) (A := repB A 4 Ec v1 v2) her76 hsr77 (by omega) (by omega) hLK1 hF1) kw_443 kw_445 sel_Rd_readElement kw_6 kw_446 (by decide +kernel) ⟨rfl, rfl⟩ ⟨Nat.le_of_ble_eq_true rfl, Nat.le_of_ble_eq_true rfl⟩ rfl hl.1 (Nat.le_of_ble_eq_true rfl) d_Rd_readRepetition_34 ⟨Nat.le_of_ble_eq_true rfl, Nat.le_of_ble_eq_true rfl⟩ (fun X ce q9 memx H locs hx9 hP hS g1 g2 g3 => f_out hlocks hno hP hS g1 g2 g3 ⟨Nat.le_of_ble_eq_true rfl, Nat.le_of_ble_eq_true rfl⟩ ⟨hx9.1, rep_fai hdg hE9 hr1 hr2 hnv hx9.2⟩) (fun r78 mem79 H locs hq hP hS => ?_)
    have hD : va_D (Az sz) (fw n ad mem79) := fw_D hD
    obtain ⟨kx80, ax81, ux82, Rx83, Ex84, Sx85, Ax86, Bx_87, nx88, tox89, hr990, h191, h292, h393, h494, h595, htk96, hrk97, hRX98, rds99, h8100, hok101⟩ := hq
    subst hr990
    have hrk102 : ∀ i9, i9 < R → mem79 (7 + i9) = mem (7 + i9) := fun i9 q9 => (hrk97 i9 (by omega)).trans (hrk52 i9 q9)
    obtain ⟨ft103, h9_104⟩ := hRX98.2.1
    have h1_105 : mem79 1 = .inr (0, [.ref (ad 2), .int (nI Z)]) := (hRX98.1.2.2 1 (by omega)).trans hT.1
    have h2_106 : mem79 2 = .inl (cy 0, 240, .inl f) := (hRX98.1.2.2 2 (by omega)).trans hT.2.2
    have h5_107 := hRX98.1.1.2.1
    have hbd113 := hRX98.1.1.1
    obtain ⟨S108, g109, hS_110, h220_111, h221_112⟩ := hRX98.1.1.2.2.2.2.2.2
    have hbd114 := hRX98.1.1.1
    have hce115 := (rds99.2.1 Ec (by omega)).1
    refine f_putN Bx hP hD hS (by omega) hce115 rfl inEl tyEl okEl nmEl 4 (by decide) kw_87 rfl rfl rfl rfl (Nat.le_of_ble_eq_true rfl) d_Rd_readRepetition_37 (fun H locs hP hS => ?_)
    obtain ⟨mem116, e_mem116⟩ : ∃ z, z = va_up mem79 ((20 + 2 * Ec)) (.inr (2, [.int (Bx_87 228 Ec), .int (Bx_87 229 Ec), .int (Bx_87 230 Ec), vR ad (Bx_87 231 Ec), .ref (ad (20 + 2 * kx80)), vE ad (Bx_87 233 Ec), .ref (ad (21 + 2 * Ec))])) := ⟨_, rfl⟩
    have hP : va_P D vcl (fw n ad mem116) H := by rw [e_mem116]; exact hP
    have hD : va_D (Az sz) (fw n ad mem116) := fw_D hD
    have h_mem116 : mem116 ((20 + 2 * Ec)) = .inr (2, [.int (Bx_87 228 Ec), .int (Bx_87 229 Ec), .int (Bx_87 230 Ec), vR ad (Bx_87 231 Ec), .ref (ad (20 + 2 * kx80)), vE ad (Bx_87 233 Ec), .ref (ad (21 + 2 * Ec))]) := by rw [e_mem116, va_up_self]
    have hh117 := (va_up_ne mem79 (.inr (2, [.int (Bx_87 228 Ec), .int (Bx_87 229 Ec), .int (Bx_87 230 Ec), vR ad (Bx_87 231 Ec), .ref (ad (20 + 2 * kx80)), vE ad (Bx_87 233 Ec), .ref (ad (21 + 2 * Ec))])) (show (222 : Nat) ≠ (20 + 2 * Ec) by first | decide | assumption | omega)).trans h9_104
    rw [← e_mem116] at hh117
    have hh118 := (va_up_ne mem79 (.inr (2, [.int (Bx_87 228 Ec), .int (Bx_87 229 Ec), .int (Bx_87 230 Ec), vR ad (Bx_87 231 Ec), .ref (ad (20 + 2 * kx80)), vE ad (Bx_87 233 Ec), .ref (ad (21 + 2 * Ec))])) (show (1 : Nat) ≠ (20 + 2 * Ec) by first | decide | assumption | omega)).trans h1_105
    rw [← e_mem116] at hh118
    have hh119 := (va_up_ne mem79 (.inr (2, [.int (Bx_87 228 Ec), .int (Bx_87 229 Ec), .int (Bx_87 230 Ec), vR ad (Bx_87 231 Ec), .ref (ad (20 + 2 * kx80)), vE ad (Bx_87 233 Ec), .ref (ad (21 + 2 * Ec))])) (show (5 : Nat) ≠ (20 + 2 * Ec) by first | decide | assumption | omega)).trans h5_107
    rw [← e_mem116] at hh119
    have hh120 := (va_up_ne mem79 (.inr (2, [.int (Bx_87 228 Ec), .int (Bx_87 229 Ec), .int (Bx_87 230 Ec), vR ad (Bx_87 231 Ec), .ref (ad (20 + 2 * kx80)), vE ad (Bx_87 233 Ec), .ref (ad (21 + 2 * Ec))])) (show (220 : Nat) ≠ (20 + 2 * Ec) by first | decide | assumption | omega)).trans h220_111
    rw [← e_mem116] at hh120
    have hrk121 : ∀ i9, i9 < R → mem116 (7 + i9) = mem (7 + i9) := fun i9 q9 => (show mem116 (7 + i9) = mem79 (7 + i9) by rw [e_mem116]; exact va_up_ne _ _ (by omega)).trans (hrk102 i9 q9)
    have hRX122 : RX cy ad lim (ax81) (Rx83) (Ex84) (tox89) (nx88) m0 mem116 := by rw [e_mem116]; exact hRX98.el (by omega) (hRX98.1.mk (by omega) (hRX98.1.1.upEl (by omega) (fun _ => ⟨(rds99.2.1 Ec (by omega)).2.1.oR ad, Or.inr ⟨kx80, by omega, by omega, rfl⟩, (rds99.2.1 Ec (by omega)).2.2.2.oE ad (by omega)⟩)))
    have her123 : ER ad (Rx83) (Ex84) (va_up Bx_87 232 (upd (Bx_87 232) Ec (nI kx80))) mem116 := rds99.2.1.part (by omega) (by omega) (by omega) h_mem116 (fun i9 q9 hi9 => by rw [e_mem116]; exact va_up_ne _ _ (by omega))
    have hsr124 : SR cy ad (Sx85) (Bx_87) mem116 := ⟨(show mem116 220 = mem79 220 by rw [e_mem116]; exact va_up_ne _ _ (by omega)).trans rds99.2.2.1.1, (show mem116 221 = mem79 221 by rw [e_mem116]; exact va_up_ne _ _ (by omega)).trans rds99.2.2.1.2⟩
    obtain ⟨ft125, h9_126⟩ := hRX122.2.1
    have h1_127 : mem116 1 = .inr (0, [.ref (ad 2), .int (nI Z)]) := (hRX122.1.2.2 1 (by omega)).trans hT.1
    have h2_128 : mem116 2 = .inl (cy 0, 240, .inl f) := (hRX122.1.2.2 2 (by omega)).trans hT.2.2
    have h5_129 := hRX122.1.1.2.1
    have hbd135 := hRX122.1.1.1
    obtain ⟨S130, g131, hS_132, h220_133, h221_134⟩ := hRX122.1.1.2.2.2.2.2.2
    refine lv_aload_n Bx.1 Bx.2.1 d_Rd_readRepetition_40 rfl (lv_at hl 0 rfl) ?_
    have hrd9 := rep_rds hLK hE9 hF h39 rds99 h8100 ⟨by omega, by omega⟩ (rep_suc (u := u) (R := R) (f := 4) (A := A) (nm := nm) hdg hE9 hr1 hr2 hnv hok101) her123 hsr124
    exact x_aret hx hb hlocks hr (⟨Ec, ax81, ux82, Rx83, Ex84, Sx85, _, _, nx88, tox89, rfl, by omega, by omega, by omega, by omega, by omega, htk96, hrk121, hRX122, hrd9.1, hrd9.2⟩) hP hS d_Rd_readRepetition_41
  · refine lv_aload_n Bx.1 Bx.2.1 d_Rd_readRepetition_10 rfl (lv_at hl 0 rfl) ?_
    refine lv_iload_n Bx.1 Bx.2.1 d_Rd_readRepetition_11 rfl (lv_at hl 1 rfl) ?_
    obtain ⟨hd0, h42⟩ := bpF_0 hb18
    refine f_xVr (na := 1) (As := [.int (4)]) (rest := []) Bx hml E hP hD hS (by omega) h9_2 rfl (m_Rd_readElement_4Y l hlt hn hT hf hRX (by omega) (u := u) (A := A) hER hSR hSa (by omega) hLK hF) kw_443 kw_445 sel_Rd_readElement kw_6 kw_446 (by decide +kernel) ⟨rfl, rfl⟩ ⟨Nat.le_of_ble_eq_true rfl, Nat.le_of_ble_eq_true rfl⟩ rfl hl.1 (Nat.le_of_ble_eq_true rfl) d_Rd_readRepetition_12 ⟨Nat.le_of_ble_eq_true rfl, Nat.le_of_ble_eq_true rfl⟩ (fun X ce q9 memx H locs hx9 hP hS g1 g2 g3 => f_out hlocks hno hP hS g1 g2 g3 ⟨Nat.le_of_ble_eq_true rfl, Nat.le_of_ble_eq_true rfl⟩ ⟨hx9.1, (hx9.2.resolve_right (fun z => z ⟨hbg, hd0, h42⟩)).eq (rep_no hd0 h42)⟩) (fun r136 mem137 H locs hq hP hS => ?_)
    have hD : va_D (Az sz) (fw n ad mem137) := fw_D hD
    obtain ⟨kx138, ax139, ux140, Rx141, Ex142, Sx143, Ax144, Bx_145, nx146, tox147, hr9148, h1149, h2150, h3151, h4152, h5153, htk154, hrk155, hRX156, rds157, h8158, hok159⟩ := hq
    subst hr9148
    have hrk160 : ∀ i9, i9 < R → mem137 (7 + i9) = mem (7 + i9) := fun i9 q9 => (hrk155 i9 (by omega)).trans (hrk0 i9 q9)
    obtain ⟨ft161, h9_162⟩ := hRX156.2.1
    have h1_163 : mem137 1 = .inr (0, [.ref (ad 2), .int (nI Z)]) := (hRX156.1.2.2 1 (by omega)).trans hT.1
    have h2_164 : mem137 2 = .inl (cy 0, 240, .inl f) := (hRX156.1.2.2 2 (by omega)).trans hT.2.2
    have h5_165 := hRX156.1.1.2.1
    have hbd171 := hRX156.1.1.1
    obtain ⟨S166, g167, hS_168, h220_169, h221_170⟩ := hRX156.1.1.2.2.2.2.2.2
    have hbd172 := hRX156.1.1.1
    exact x_aret hx hb hlocks hr (⟨kx138, ax139, ux140, Rx141, Ex142, Sx143, Ax144, Bx_145, nx146, tox147, rfl, h1149, h2150, h3151, h4152, h5153, htk154, hrk155, hRX156, rdsEq rds157 (rep_no hd0 h42), h8158⟩) hP hS d_Rd_readRepetition_15
set_option maxHeartbeats 4000000 in
set_option maxRecDepth 100000 in
theorem m_Rd_readSequence_4Y (l : Launch) {D : va_G} {cy : Nat → ClassId} {sz n : Nat} {ad : Nat → Nat} {mem : Nat → va_E} {Z a R Ec lim : Nat} {f T : Nat → Int32} {to : Nat → Int32} {nm : Nat → Int64} {m0 : Nat → va_E} {u S : Nat} {A Bw : Ro} {cq : Nat} (hlt : l.stackTraces = false) (hn : 224 ≤ n) (hT : TX cy ad Z f m0) (hf : ∀ k, k < Z → f k = T k) (hRX : RX cy ad lim a R Ec to nm m0 mem) (haB : a ≤ 300) (hER : ER ad R Ec Bw mem) (hSR : SR cy ad S Bw mem) (hSa : S ≤ a) (haZ : a ≤ Z) (hLK : LKa Ec A) (hc : A 237 4 = nI cq) (hcl : cq < Ec) (h39 : A 239 4 = -1) : NXr l D cy sz n ad y_Rd_readSequence c_Rd_readSequence 5 (some (.object "AbnfChart$Element")) ({ frames := 30, cells := 1, slots := 6, locals := 712 } : Room) mem [.ref (ad 222), .int (4)] (fun r mem' => ∃ (a' u' R' E' S' : Nat) (A' Bw' : Ro) (nm' : Nat → Int64) (to' : Nat → Int32), r = ad (20 + 2 * Ec) ∧ Ec < E' ∧ R ≤ R' ∧ a < a' ∧ a' ≤ Z ∧ TOK R R' to to' ∧ (∀ i9, i9 < R → mem' (7 + i9) = mem (7 + i9)) ∧ RX cy ad lim (gapF T Z a') R' E' to' nm' m0 mem' ∧ RDS cy ad T Z 4 (seqS T Z a u R Ec 4 A nm) (slotOf A cq) R Ec S u A Bw Ec a' u' R' E' S' A' Bw' nm' mem' ∧ ¬ (bgF (hereF Z T (gapF T Z a')) = true ∧ a' < gapF T Z a')) (fun X mem' => ((X = cIA ∨ X = cIS) ∧ ∃ rc' ec' : Nat, RS cy ad lim rc' ec' m0 mem') ∧ (Fai T Z (seqS T Z a u R Ec 4 A nm))) := by
  refine vx_ofW (cc := c_Rd_readSequence) (maxL := 5) (ret := (some (.object "AbnfChart$Element"))) (by decide) rfl ?_
  intro p e s m args below meth c s₁ B hml hno hv
  obtain ⟨rfl, E, hP, hD⟩ := hv
  have hx := B.exec
  have hb := B.bytes
  have hr := B.returns
  have hlocks := B.notSynchronized
  have Bx : MB p s m [.ref (ad 222), .int (4)].toArray c c_Rd_readSequence "AbnfChart$Reader" D cy := ⟨hx, hb, tb_all (atoms_spec B.pre) E.2.1, findClass_of_methodNamed B.named, E.1⟩
  have hS : va_S (Az sz) s.heap s.heap [] := va_S.rf
  have hl := lv_entry ([.ref (ad 222), .int (4)]) (n := 5) (Nat.le_of_ble_eq_true rfl)
  rw [lg_entry_eq]
  generalize (lg_sl ([.ref (ad 222), .int (4)]) ++ List.replicate (5 - (lg_sl ([.ref (ad 222), .int (4)])).length) Slot.unset).toArray = ls at hl ⊢
  have hl : lv_has ls 5 [(0, .ref (ad 222)), (1, .int (4))] := hl
  have hZ9 := hT.2.1
  have hbd9 := hRX.1.1.1
  have hfr0 : ∀ i, 7 ≤ i ∧ i < 222 ∧ i ≠ 20 + 2 * Ec → mem i = mem i := fun _ _ => rfl
  have hrk0 : ∀ i9, i9 < R → mem (7 + i9) = mem (7 + i9) := fun _ _ => rfl
  obtain ⟨ft1, h9_2⟩ := hRX.2.1
  have h1_3 : mem 1 = .inr (0, [.ref (ad 2), .int (nI Z)]) := (hRX.1.2.2 1 (by omega)).trans hT.1
  have h2_4 : mem 2 = .inl (cy 0, 240, .inl f) := (hRX.1.2.2 2 (by omega)).trans hT.2.2
  have h5_5 := hRX.1.1.2.1
  have hbd11 := hRX.1.1.1
  obtain ⟨S6, g7, hS_8, h220_9, h221_10⟩ := hRX.1.1.2.2.2.2.2.2
  refine lv_aload_n Bx.1 Bx.2.1 d_Rd_readSequence_0 rfl (lv_at hl 0 rfl) ?_
  refine lv_iconst (v := 1) Bx.1 Bx.2.1 d_Rd_readSequence_1 (by decide) ?_
  refine f_xVr (na := 1) (As := [.int (1)]) (rest := []) Bx hml E hP hD hS (by omega) h9_2 rfl (m_Rd_beginRowY l hlt hn hT hf hRX (by omega)) kw_409 kw_411 sel_Rd_beginRow kw_6 kw_412 (by decide +kernel) ⟨rfl, rfl⟩ ⟨Nat.le_of_ble_eq_true rfl, Nat.le_of_ble_eq_true rfl⟩ rfl hl.1 (Nat.le_of_ble_eq_true rfl) d_Rd_readSequence_2 ⟨Nat.le_of_ble_eq_true rfl, Nat.le_of_ble_eq_true rfl⟩ (fun X ce q9 memx H locs hx9 hP hS g1 g2 g3 => f_out hlocks hno hP hS g1 g2 g3 ⟨Nat.le_of_ble_eq_true rfl, Nat.le_of_ble_eq_true rfl⟩ ⟨hx9.1, Or.inl (seq_no hx9.2)⟩) (fun r12 mem13 H locs hq hP hS => ?_)
  have hD : va_D (Az sz) (fw n ad mem13) := fw_D hD
  obtain ⟨hbg, hE9, hr9, hRXb, hclb, hfab⟩ := hq
  subst hr9
  have hrk14 : ∀ i9, i9 < R → mem13 (7 + i9) = mem (7 + i9) := fun i9 q9 => (hfab (7 + i9) (by omega)).trans (hrk0 i9 q9)
  have hfr15 : ∀ i, 7 ≤ i ∧ i < 222 ∧ i ≠ 20 + 2 * Ec → mem13 i = mem i := fun i q => (hfab i (by omega)).trans (hfr0 i q)
  obtain ⟨ft16, h9_17⟩ := hRXb.2.1
  have h1_18 : mem13 1 = .inr (0, [.ref (ad 2), .int (nI Z)]) := (hRXb.1.2.2 1 (by omega)).trans hT.1
  have h2_19 : mem13 2 = .inl (cy 0, 240, .inl f) := (hRXb.1.2.2 2 (by omega)).trans hT.2.2
  have h5_20 := hRXb.1.1.2.1
  have hbd26 := hRXb.1.1.1
  obtain ⟨S21, g22, hS_23, h220_24, h221_25⟩ := hRXb.1.1.2.2.2.2.2.2
  obtain ⟨ft27, h9_28⟩ := hRXb.2.1
  have h1_29 : mem13 1 = .inr (0, [.ref (ad 2), .int (nI Z)]) := (hRXb.1.2.2 1 (by omega)).trans hT.1
  have h2_30 : mem13 2 = .inl (cy 0, 240, .inl f) := (hRXb.1.2.2 2 (by omega)).trans hT.2.2
  have h5_31 := hRXb.1.1.2.1
  have hbd37 := hRXb.1.1.1
  obtain ⟨S32, g33, hS_34, h220_35, h221_36⟩ := hRXb.1.1.2.2.2.2.2.2
  refine lv_astore_n (lv' := [(2, .ref (ad (20 + 2 * Ec))), (0, .ref (ad 222)), (1, .int (4))]) Bx.1 Bx.2.1 d_Rd_readSequence_5 rfl hl (by decide) rfl (fun ls hl => ?_)
  refine lv_aload_n Bx.1 Bx.2.1 d_Rd_readSequence_6 rfl (lv_at hl 1 rfl) ?_
  refine lv_iload_n Bx.1 Bx.2.1 d_Rd_readSequence_7 rfl (lv_at hl 2 rfl) ?_
  have her38 : ER ad R (Ec + 1) (bwN Bw Ec 1 (0) (0) (-1) (-1) (-1) (Bw 234)) mem13 := hER.new (Nat.le_refl _) (by rw [vR_m]; exact hclb) (Or.inl rfl) (fun i9 hi9 => hfr15 (20 + 2 * i9) (by omega))
  have hsr39 : SR cy ad S (bwN Bw Ec 1 (0) (0) (-1) (-1) (-1) (Bw 234)) mem13 := ⟨(hfr15 220 (by omega)).trans hSR.1, (hfr15 221 (by omega)).trans hSR.2⟩
  obtain ⟨hLK1, hF1, h391⟩ := frm_seq hLK hE9 hc hcl h39
  refine f_xVr (na := 1) (As := [.int (4)]) (rest := []) Bx hml E hP hD hS (by omega) h9_28 rfl (m_Rd_readRepetition_4Y l hlt hn hT hf hRXb (by omega) (u := u) (A := seqA A 4 Ec) her38 hsr39 (by omega) (by omega) hLK1 hF1 h391 hbg) kw_439 kw_441 sel_Rd_readRepetition kw_6 kw_442 (by decide +kernel) ⟨rfl, rfl⟩ ⟨Nat.le_of_ble_eq_true rfl, Nat.le_of_ble_eq_true rfl⟩ rfl hl.1 (Nat.le_of_ble_eq_true rfl) d_Rd_readSequence_8 ⟨Nat.le_of_ble_eq_true rfl, Nat.le_of_ble_eq_true rfl⟩ (fun X ce q9 memx H locs hx9 hP hS g1 g2 g3 => f_out hlocks hno hP hS g1 g2 g3 ⟨Nat.le_of_ble_eq_true rfl, Nat.le_of_ble_eq_true rfl⟩ ⟨hx9.1, hx9.2.eq (seq_ok hbg hE9)⟩) (fun r40 mem41 H locs hq hP hS => ?_)
  have hD : va_D (Az sz) (fw n ad mem41) := fw_D hD
  obtain ⟨kx42, ax43, ux44, Rx45, Ex46, Sx47, Ax48, Bx_49, nx50, tox51, hr952, h153, h254, h355, h456, h557, htk58, hrk59, hRX60, rds61, h862⟩ := hq
  subst hr952
  have hrk63 : ∀ i9, i9 < R → mem41 (7 + i9) = mem (7 + i9) := fun i9 q9 => (hrk59 i9 (by omega)).trans (hrk14 i9 q9)
  obtain ⟨ft64, h9_65⟩ := hRX60.2.1
  have h1_66 : mem41 1 = .inr (0, [.ref (ad 2), .int (nI Z)]) := (hRX60.1.2.2 1 (by omega)).trans hT.1
  have h2_67 : mem41 2 = .inl (cy 0, 240, .inl f) := (hRX60.1.2.2 2 (by omega)).trans hT.2.2
  have h5_68 := hRX60.1.1.2.1
  have hbd74 := hRX60.1.1.1
  obtain ⟨S69, g70, hS_71, h220_72, h221_73⟩ := hRX60.1.1.2.2.2.2.2.2
  have hbd75 := hRX60.1.1.1
  refine lv_astore_n (lv' := [(3, .ref (ad (20 + 2 * kx42))), (2, .ref (ad (20 + 2 * Ec))), (0, .ref (ad 222)), (1, .int (4))]) Bx.1 Bx.2.1 d_Rd_readSequence_11 rfl hl (by decide) rfl (fun ls hl => ?_)
  refine lv_aload_n Bx.1 Bx.2.1 d_Rd_readSequence_12 rfl (lv_at hl 1 rfl) ?_
  refine lv_aload_n Bx.1 Bx.2.1 d_Rd_readSequence_13 rfl (lv_at hl 0 rfl) ?_
  have hce76 := (rds61.2.1 Ec (by omega)).1
  refine f_putN Bx hP hD hS (by omega) hce76 rfl inEl tyEl okEl nmEl 4 (by decide) kw_87 rfl rfl rfl rfl (Nat.le_of_ble_eq_true rfl) d_Rd_readSequence_14 (fun H locs hP hS => ?_)
  obtain ⟨mem77, e_mem77⟩ : ∃ z, z = va_up mem41 ((20 + 2 * Ec)) (.inr (2, [.int (Bx_49 228 Ec), .int (Bx_49 229 Ec), .int (Bx_49 230 Ec), vR ad (Bx_49 231 Ec), .ref (ad (20 + 2 * kx42)), vE ad (Bx_49 233 Ec), .ref (ad (21 + 2 * Ec))])) := ⟨_, rfl⟩
  have hP : va_P D vcl (fw n ad mem77) H := by rw [e_mem77]; exact hP
  have hD : va_D (Az sz) (fw n ad mem77) := fw_D hD
  have h_mem77 : mem77 ((20 + 2 * Ec)) = .inr (2, [.int (Bx_49 228 Ec), .int (Bx_49 229 Ec), .int (Bx_49 230 Ec), vR ad (Bx_49 231 Ec), .ref (ad (20 + 2 * kx42)), vE ad (Bx_49 233 Ec), .ref (ad (21 + 2 * Ec))]) := by rw [e_mem77, va_up_self]
  have hh78 := (va_up_ne mem41 (.inr (2, [.int (Bx_49 228 Ec), .int (Bx_49 229 Ec), .int (Bx_49 230 Ec), vR ad (Bx_49 231 Ec), .ref (ad (20 + 2 * kx42)), vE ad (Bx_49 233 Ec), .ref (ad (21 + 2 * Ec))])) (show (222 : Nat) ≠ (20 + 2 * Ec) by first | decide | assumption | omega)).trans h9_65
  rw [← e_mem77] at hh78
  have hh79 := (va_up_ne mem41 (.inr (2, [.int (Bx_49 228 Ec), .int (Bx_49 229 Ec), .int (Bx_49 230 Ec), vR ad (Bx_49 231 Ec), .ref (ad (20 + 2 * kx42)), vE ad (Bx_49 233 Ec), .ref (ad (21 + 2 * Ec))])) (show (1 : Nat) ≠ (20 + 2 * Ec) by first | decide | assumption | omega)).trans h1_66
  rw [← e_mem77] at hh79
  have hh80 := (va_up_ne mem41 (.inr (2, [.int (Bx_49 228 Ec), .int (Bx_49 229 Ec), .int (Bx_49 230 Ec), vR ad (Bx_49 231 Ec), .ref (ad (20 + 2 * kx42)), vE ad (Bx_49 233 Ec), .ref (ad (21 + 2 * Ec))])) (show (5 : Nat) ≠ (20 + 2 * Ec) by first | decide | assumption | omega)).trans h5_68
  rw [← e_mem77] at hh80
  have hh81 := (va_up_ne mem41 (.inr (2, [.int (Bx_49 228 Ec), .int (Bx_49 229 Ec), .int (Bx_49 230 Ec), vR ad (Bx_49 231 Ec), .ref (ad (20 + 2 * kx42)), vE ad (Bx_49 233 Ec), .ref (ad (21 + 2 * Ec))])) (show (220 : Nat) ≠ (20 + 2 * Ec) by first | decide | assumption | omega)).trans h220_72
  rw [← e_mem77] at hh81
  have hrk82 : ∀ i9, i9 < R → mem77 (7 + i9) = mem (7 + i9) := fun i9 q9 => (show mem77 (7 + i9) = mem41 (7 + i9) by rw [e_mem77]; exact va_up_ne _ _ (by omega)).trans (hrk63 i9 q9)
  have hRX83 : RX cy ad lim (ax43) (Rx45) (Ex46) (tox51) (nx50) m0 mem77 := by rw [e_mem77]; exact hRX60.el (by omega) (hRX60.1.mk (by omega) (hRX60.1.1.upEl (by omega) (fun _ => ⟨(rds61.2.1 Ec (by omega)).2.1.oR ad, Or.inr ⟨kx42, by omega, by omega, rfl⟩, (rds61.2.1 Ec (by omega)).2.2.2.oE ad (by omega)⟩)))
  have her84 : ER ad (Rx45) (Ex46) (va_up Bx_49 232 (upd (Bx_49 232) Ec (nI kx42))) mem77 := rds61.2.1.part (by omega) (by omega) (by omega) h_mem77 (fun i9 q9 hi9 => by rw [e_mem77]; exact va_up_ne _ _ (by omega))
  have hsr85 : SR cy ad (Sx47) (Bx_49) mem77 := ⟨(show mem77 220 = mem41 220 by rw [e_mem77]; exact va_up_ne _ _ (by omega)).trans rds61.2.2.1.1, (show mem77 221 = mem41 221 by rw [e_mem77]; exact va_up_ne _ _ (by omega)).trans rds61.2.2.1.2⟩
  obtain ⟨ft86, h9_87⟩ := hRX83.2.1
  have h1_88 : mem77 1 = .inr (0, [.ref (ad 2), .int (nI Z)]) := (hRX83.1.2.2 1 (by omega)).trans hT.1
  have h2_89 : mem77 2 = .inl (cy 0, 240, .inl f) := (hRX83.1.2.2 2 (by omega)).trans hT.2.2
  have h5_90 := hRX83.1.1.2.1
  have hbd96 := hRX83.1.1.1
  obtain ⟨S91, g92, hS_93, h220_94, h221_95⟩ := hRX83.1.1.2.2.2.2.2.2
  refine lv_iconst (v := 0) Bx.1 Bx.2.1 d_Rd_readSequence_17 (by decide) ?_
  refine lv_istore (lv' := [(4, .int (0)), (3, .ref (ad (20 + 2 * kx42))), (2, .ref (ad (20 + 2 * Ec))), (0, .ref (ad 222)), (1, .int (4))]) Bx.1 Bx.2.1 d_Rd_readSequence_18 hl (by decide) rfl (fun ls hl => ?_)
  have hsl9 := slot_lt hLK (by omega) hcl
  have hsq0 := seq_first hLK hE9 hc hcl h39 rds61 h862 ⟨by omega, by omega⟩ (by omega) (seq_ok (u := u) (R := R) (f := 4) (A := A) (nm := nm) hbg hE9) her84 hsr85
  have loop97 : ∀ (d98 : Nat) (mem9 : Nat → va_E) (a1 : Nat) (u1 : Nat) (R1 : Nat) (E1 : Nat) (S1 : Nat) (A1 : Ro) (B1 : Ro) (n1 : Nat → Int64) (to1 : Nat → Int32) (la : Nat) (k9 : Nat) (ls : Array Slot) (H : Heap) (locs : List Loc), (240 - k9 < d98) → (RX cy ad lim a1 R1 E1 to1 n1 m0 mem9) → (a < a1 ∧ a1 ≤ Z ∧ R ≤ R1 ∧ k9 < a1 ∧ k9 ≤ 240) → (SQI cy ad T Z 4 (seqS T Z a u R Ec 4 A nm) (slotOf A cq) R Ec S u A Bw la a1 u1 R1 E1 S1 A1 B1 n1 mem9) → (TOK R R1 to to1) → (∀ i9, i9 < R → mem9 (7 + i9) = mem (7 + i9)) → (va_P D vcl (fw n ad mem9) H) → (va_D (Az sz) (fw n ad mem9)) → (va_S (Az sz) s.heap H locs) → (lv_has ls 5 [(4, .int (nI k9)), (3, .ref (ad (20 + 2 * la))), (2, .ref (ad (20 + 2 * Ec))), (0, .ref (ad 222)), (1, .int (4))]) → W p l e (headSpec (Cond.code y_Rd_readSequence c_Rd_readSequence 5 (some (.object "AbnfChart$Element")) :: tg) ({ frames := 30, cells := 1, slots := 6, locals := 712 } : Room)).room s m [.ref (ad 222), .int (4)].toArray below meth c H locs 0 0 (vx_MQ below (QX (QR (fun r mem' => ∃ (a' u' R' E' S' : Nat) (A' Bw' : Ro) (nm' : Nat → Int64) (to' : Nat → Int32), r = ad (20 + 2 * Ec) ∧ Ec < E' ∧ R ≤ R' ∧ a < a' ∧ a' ≤ Z ∧ TOK R R' to to' ∧ (∀ i9, i9 < R → mem' (7 + i9) = mem (7 + i9)) ∧ RX cy ad lim (gapF T Z a') R' E' to' nm' m0 mem' ∧ RDS cy ad T Z 4 (seqS T Z a u R Ec 4 A nm) (slotOf A cq) R Ec S u A Bw Ec a' u' R' E' S' A' Bw' nm' mem' ∧ ¬ (bgF (hereF Z T (gapF T Z a')) = true ∧ a' < gapF T Z a')) (PP D n ad) (Az sz))) (XQ D sz n ad (fun X mem' => ((X = cIA ∨ X = cIS) ∧ ∃ rc' ec' : Nat, RS cy ad lim rc' ec' m0 mem') ∧ (Fai T Z (seqS T Z a u R Ec 4 A nm)))) [.ref (ad 222), .int (4)].toArray s 1 6 (Az sz)) (F0 m 20 ls []) := by
    intro d98
    induction d98 with
    | zero => intro mem9 a1 u1 R1 E1 S1 A1 B1 n1 to1 la k9 ls H locs hmeas105; exact absurd hmeas105 (Nat.not_lt_zero _)
    | succ d98 ih104 =>
      intro mem9 a1 u1 R1 E1 S1 A1 B1 n1 to1 la k9 ls H locs hmeas105 hz99 hz100 hz101 hz102 hz103 hP hD hS hl
      have hbd8 := hz100
      have hsq := hz101
      have hbdE := hz99.1.1.1
      have hla := hsq.2.2.2
      have hSa1 := hsq.1.2.2.2.1.2.1
      have hlka := sqi_lka hsq hLK hsl9
      obtain ⟨ft106, h9_107⟩ := hz99.2.1
      have h1_108 : mem9 1 = .inr (0, [.ref (ad 2), .int (nI Z)]) := (hz99.1.2.2 1 (by omega)).trans hT.1
      have h2_109 : mem9 2 = .inl (cy 0, 240, .inl f) := (hz99.1.2.2 2 (by omega)).trans hT.2.2
      have h5_110 := hz99.1.1.2.1
      have hbd116 := hz99.1.1.1
      obtain ⟨S111, g112, hS_113, h220_114, h221_115⟩ := hz99.1.1.2.2.2.2.2.2
      refine lv_iload Bx.1 Bx.2.1 d_Rd_readSequence_20 (lv_at hl 0 rfl) ?_
      refine lv_sipush (v := 240) Bx.1 Bx.2.1 d_Rd_readSequence_22 (by decide) ?_
      refine lv_icmp_ge Bx.1 Bx.2.1 d_Rd_readSequence_25 rfl (fun hb117 => ?_) (fun hb117 => ?_)
      · have hN118 : 240 ≤ k9 := (nI_leI (by omega) (by omega)).mp (show nI (240) ≤ nI (k9) from hb117)
        exact absurd hbd8 (by omega)
      · have hN119 : ¬ 240 ≤ k9 := fun q9 => hb117 (show nI (240) ≤ nI (k9) from (nI_leI (by omega) (by omega)).mpr q9)
        refine lv_aload_n Bx.1 Bx.2.1 d_Rd_readSequence_28 rfl (lv_at hl 3 rfl) ?_
        refine f_callVi (na := 0) (As := []) (rest := []) Bx hml E hP hD hS (by omega) h9_107 rfl (m_Rd_readGapY l hn hT hf hz99 (by omega) (by omega)) kw_397 kw_399 sel_Rd_readGap kw_6 kw_400 (by decide +kernel) ⟨rfl, rfl⟩ ⟨Nat.le_of_ble_eq_true rfl, Nat.le_of_ble_eq_true rfl⟩ rfl hl.1 (Nat.le_of_ble_eq_true rfl) d_Rd_readSequence_29 ⟨Nat.le_of_ble_eq_true rfl, Nat.le_of_ble_eq_true rfl⟩ (fun r120 mem121 H locs hq hP hS => ?_)
        have hD : va_D (Az sz) (fw n ad mem121) := fw_D hD
        obtain ⟨g122, eg123⟩ : ∃ z, z = gapF T Z (a1) := ⟨_, rfl⟩
        rw [← eg123] at hq
        obtain ⟨hRX124, hgc125, hfa126⟩ := hq
        have hg127 : a1 ≤ g122 := by rw [eg123]; exact gapF_ge T Z _
        have hg128 : g122 ≤ Z := by rw [eg123]; exact gapF_le T (by omega)
        have hrk129 : ∀ i9, i9 < R → mem121 (7 + i9) = mem (7 + i9) := fun i9 q9 => (hfa126 (7 + i9) (by omega)).trans (hz103 i9 q9)
        obtain ⟨ft130, h9_131⟩ := hRX124.2.1
        have h1_132 : mem121 1 = .inr (0, [.ref (ad 2), .int (nI Z)]) := (hRX124.1.2.2 1 (by omega)).trans hT.1
        have h2_133 : mem121 2 = .inl (cy 0, 240, .inl f) := (hRX124.1.2.2 2 (by omega)).trans hT.2.2
        have h5_134 := hRX124.1.1.2.1
        have hbd140 := hRX124.1.1.1
        obtain ⟨S135, g136, hS_137, h220_138, h221_139⟩ := hRX124.1.1.2.2.2.2.2.2
        have her141 : ER ad (R1) (E1) (B1) mem121 := hsq.1.2.1.fr (Nat.le_refl _) (fun i9 hi9 => hfa126 _ (by omega))
        have hsr142 : SR cy ad (S1) (B1) mem121 := ⟨(show mem121 220 = _ from hfa126 _ (by omega)).trans hsq.1.2.2.1.1, (show mem121 221 = _ from hfa126 _ (by omega)).trans hsq.1.2.2.1.2⟩
        rcases hgc125 with ⟨hr143, hga144⟩ | ⟨hr143, hga144⟩
        · subst hr143
          refine lv_if_eq Bx.1 Bx.2.1 d_Rd_readSequence_32 rfl (fun hb145 => ?_) (fun hb145 => ?_)
          · exact absurd hb145 (by decide)
          · refine lv_aload_n Bx.1 Bx.2.1 d_Rd_readSequence_35 rfl (lv_at hl 3 rfl) ?_
            refine f_callVi (na := 0) (As := []) (rest := []) Bx hml E hP hD hS (by omega) h9_131 rfl (m_Rd_peekX l hn hT hf hRX124 (by omega)) kw_353 kw_355 sel_Rd_peek kw_6 kw_356 (by decide +kernel) ⟨rfl, rfl⟩ ⟨Nat.le_of_ble_eq_true rfl, Nat.le_of_ble_eq_true rfl⟩ rfl hl.1 (Nat.le_of_ble_eq_true rfl) d_Rd_readSequence_36 ⟨Nat.le_of_ble_eq_true rfl, Nat.le_of_ble_eq_true rfl⟩ (fun r147 mem148 H locs hq hP hS => ?_)
            have hD : va_D (Az sz) (fw n ad mem148) := fw_D hD
            obtain ⟨hqe, hpk146⟩ := hq
            rw [hqe] at hP hD
            subst hpk146
            refine f_callSi (na := 1) (As := [.int (hereF Z T (g122))]) (rest := []) Bx hml E.2.1 (m_Rd_beginsRepetitionX l (hereF Z T (g122))) kw_413 kw_414 kw_6 kw_415 (by decide +kernel) ⟨rfl, rfl⟩ ⟨Nat.le_of_ble_eq_true rfl, Nat.le_of_ble_eq_true rfl⟩ rfl hl.1 (Nat.le_of_ble_eq_true rfl) d_Rd_readSequence_39 ⟨Nat.le_of_ble_eq_true rfl, Nat.le_of_ble_eq_true rfl⟩ (fun r151 hs150 => ?_)
            subst hs150
            refine lv_if_eq Bx.1 Bx.2.1 d_Rd_readSequence_42 rfl (fun hb152 => ?_) (fun hb152 => ?_)
            · refine lv_aload_n Bx.1 Bx.2.1 d_Rd_readSequence_65 rfl (lv_at hl 2 rfl) ?_
              exact x_aret hx hb hlocks hr (⟨a1, u1, R1, E1, S1, A1, B1, n1, to1, rfl, by omega, by omega, by omega, by omega, hz102, hrk129, by rw [← eg123]; exact hRX124, ⟨hsq.1.1, her141, hsr142, hsq.1.2.2.2⟩, fun z => by have q9 := z.1; rw [← eg123, bg_0 hb152] at q9; exact absurd q9 (by decide)⟩) hP hS d_Rd_readSequence_66
            · have hbg2 : bgF (hereF Z T (gapF T Z a1)) = true := by rw [← eg123]; exact bg_1 hb152
              have hgt2 : a1 < gapF T Z a1 := by rw [← eg123]; omega
              have h238 := hsq.2.1
              have h239 : A1 239 4 = -1 := hsq.1.2.2.2.2.2.2.2.2.2.2
              refine lv_aload_n Bx.1 Bx.2.1 d_Rd_readSequence_45 rfl (lv_at hl 1 rfl) ?_
              refine lv_aload_n Bx.1 Bx.2.1 d_Rd_readSequence_46 rfl (lv_at hl 3 rfl) ?_
              refine lv_iload_n Bx.1 Bx.2.1 d_Rd_readSequence_47 rfl (lv_at hl 4 rfl) ?_
              refine f_xVr (na := 1) (As := [.int (4)]) (rest := [.ref (ad (20 + 2 * la))]) Bx hml E hP hD hS (by omega) h9_131 rfl (m_Rd_readRepetition_4Y l hlt hn hT hf hRX124 (by omega) (u := u1) (A := A1) her141 hsr142 (by omega) (by omega) hlka ⟨⟨Ec, by omega, h238⟩, Or.inl h239⟩ h239 (by rw [eg123]; exact hbg2)) kw_439 kw_441 sel_Rd_readRepetition kw_6 kw_442 (by decide +kernel) ⟨rfl, rfl⟩ ⟨Nat.le_of_ble_eq_true rfl, Nat.le_of_ble_eq_true rfl⟩ rfl hl.1 (Nat.le_of_ble_eq_true rfl) d_Rd_readSequence_48 ⟨Nat.le_of_ble_eq_true rfl, Nat.le_of_ble_eq_true rfl⟩ (fun X ce q9 memx H locs hx9 hP hS g1 g2 g3 => f_out hlocks hno hP hS g1 g2 g3 ⟨Nat.le_of_ble_eq_true rfl, Nat.le_of_ble_eq_true rfl⟩ ⟨hx9.1, hsq.1.1.fai (go_rept hbg2 hgt2) (by rw [← eg123]; exact hx9.2)⟩) (fun r153 mem154 H locs hq hP hS => ?_)
              have hD : va_D (Az sz) (fw n ad mem154) := fw_D hD
              obtain ⟨kx155, ax156, ux157, Rx158, Ex159, Sx160, Ax161, Bx_162, nx163, tox164, hr9165, h1166, h2167, h3168, h4169, h5170, htk171, hrk172, hRX173, rds174, h8175⟩ := hq
              subst hr9165
              have hrk176 : ∀ i9, i9 < R → mem154 (7 + i9) = mem (7 + i9) := fun i9 q9 => (hrk172 i9 (by omega)).trans (hrk129 i9 q9)
              obtain ⟨ft177, h9_178⟩ := hRX173.2.1
              have h1_179 : mem154 1 = .inr (0, [.ref (ad 2), .int (nI Z)]) := (hRX173.1.2.2 1 (by omega)).trans hT.1
              have h2_180 : mem154 2 = .inl (cy 0, 240, .inl f) := (hRX173.1.2.2 2 (by omega)).trans hT.2.2
              have h5_181 := hRX173.1.1.2.1
              have hbd187 := hRX173.1.1.1
              obtain ⟨S182, g183, hS_184, h220_185, h221_186⟩ := hRX173.1.1.2.2.2.2.2.2
              have hbd188 := hRX173.1.1.1
              have hce189 := (rds174.2.1 la (by omega)).1
              refine f_putN Bx hP hD hS (by omega) hce189 rfl inEl tyEl okEl nmEl 5 (by decide) kw_91 rfl rfl rfl rfl (Nat.le_of_ble_eq_true rfl) d_Rd_readSequence_51 (fun H locs hP hS => ?_)
              obtain ⟨mem190, e_mem190⟩ : ∃ z, z = va_up mem154 ((20 + 2 * la)) (.inr (2, [.int (Bx_162 228 la), .int (Bx_162 229 la), .int (Bx_162 230 la), vR ad (Bx_162 231 la), vE ad (Bx_162 232 la), .ref (ad (20 + 2 * kx155)), .ref (ad (21 + 2 * la))])) := ⟨_, rfl⟩
              have hP : va_P D vcl (fw n ad mem190) H := by rw [e_mem190]; exact hP
              have hD : va_D (Az sz) (fw n ad mem190) := fw_D hD
              have h_mem190 : mem190 ((20 + 2 * la)) = .inr (2, [.int (Bx_162 228 la), .int (Bx_162 229 la), .int (Bx_162 230 la), vR ad (Bx_162 231 la), vE ad (Bx_162 232 la), .ref (ad (20 + 2 * kx155)), .ref (ad (21 + 2 * la))]) := by rw [e_mem190, va_up_self]
              have hh191 := (va_up_ne mem154 (.inr (2, [.int (Bx_162 228 la), .int (Bx_162 229 la), .int (Bx_162 230 la), vR ad (Bx_162 231 la), vE ad (Bx_162 232 la), .ref (ad (20 + 2 * kx155)), .ref (ad (21 + 2 * la))])) (show (222 : Nat) ≠ (20 + 2 * la) by first | decide | assumption | omega)).trans h9_178
              rw [← e_mem190] at hh191
              have hh192 := (va_up_ne mem154 (.inr (2, [.int (Bx_162 228 la), .int (Bx_162 229 la), .int (Bx_162 230 la), vR ad (Bx_162 231 la), vE ad (Bx_162 232 la), .ref (ad (20 + 2 * kx155)), .ref (ad (21 + 2 * la))])) (show (1 : Nat) ≠ (20 + 2 * la) by first | decide | assumption | omega)).trans h1_179
              rw [← e_mem190] at hh192
              have hh193 := (va_up_ne mem154 (.inr (2, [.int (Bx_162 228 la), .int (Bx_162 229 la), .int (Bx_162 230 la), vR ad (Bx_162 231 la), vE ad (Bx_162 232 la), .ref (ad (20 + 2 * kx155)), .ref (ad (21 + 2 * la))])) (show (5 : Nat) ≠ (20 + 2 * la) by first | decide | assumption | omega)).trans h5_181
              rw [← e_mem190] at hh193
              have hh194 := (va_up_ne mem154 (.inr (2, [.int (Bx_162 228 la), .int (Bx_162 229 la), .int (Bx_162 230 la), vR ad (Bx_162 231 la), vE ad (Bx_162 232 la), .ref (ad (20 + 2 * kx155)), .ref (ad (21 + 2 * la))])) (show (220 : Nat) ≠ (20 + 2 * la) by first | decide | assumption | omega)).trans h220_185
              rw [← e_mem190] at hh194
              have hrk195 : ∀ i9, i9 < R → mem190 (7 + i9) = mem (7 + i9) := fun i9 q9 => (show mem190 (7 + i9) = mem154 (7 + i9) by rw [e_mem190]; exact va_up_ne _ _ (by omega)).trans (hrk176 i9 q9)
              have hRX196 : RX cy ad lim (ax156) (Rx158) (Ex159) (tox164) (nx163) m0 mem190 := by rw [e_mem190]; exact hRX173.el (by omega) (hRX173.1.mk (by omega) (hRX173.1.1.upEl (by omega) (fun _ => ⟨(rds174.2.1 la (by omega)).2.1.oR ad, (rds174.2.1 la (by omega)).2.2.1.oE ad (by omega), Or.inr ⟨kx155, by omega, by omega, rfl⟩⟩)))
              have her197 : ER ad (Rx158) (Ex159) (va_up Bx_162 233 (upd (Bx_162 233) la (nI kx155))) mem190 := rds174.2.1.next (by omega) (by omega) (by omega) h_mem190 (fun i9 q9 hi9 => by rw [e_mem190]; exact va_up_ne _ _ (by omega))
              have hsr198 : SR cy ad (Sx160) (Bx_162) mem190 := ⟨(show mem190 220 = mem154 220 by rw [e_mem190]; exact va_up_ne _ _ (by omega)).trans rds174.2.2.1.1, (show mem190 221 = mem154 221 by rw [e_mem190]; exact va_up_ne _ _ (by omega)).trans rds174.2.2.1.2⟩
              obtain ⟨ft199, h9_200⟩ := hRX196.2.1
              have h1_201 : mem190 1 = .inr (0, [.ref (ad 2), .int (nI Z)]) := (hRX196.1.2.2 1 (by omega)).trans hT.1
              have h2_202 : mem190 2 = .inl (cy 0, 240, .inl f) := (hRX196.1.2.2 2 (by omega)).trans hT.2.2
              have h5_203 := hRX196.1.1.2.1
              have hbd209 := hRX196.1.1.1
              obtain ⟨S204, g205, hS_206, h220_207, h221_208⟩ := hRX196.1.1.2.2.2.2.2.2
              refine lv_aload_n Bx.1 Bx.2.1 d_Rd_readSequence_54 rfl (lv_at hl 1 rfl) ?_
              refine f_getN Bx hP (by omega) h_mem190 rfl inEl 5 (by decide) kw_91 rfl rfl d_Rd_readSequence_55 ?_
              refine lv_astore_n (lv' := [(3, .ref (ad (20 + 2 * kx155))), (4, .int (nI k9)), (2, .ref (ad (20 + 2 * Ec))), (0, .ref (ad 222)), (1, .int (4))]) Bx.1 Bx.2.1 d_Rd_readSequence_58 rfl hl (by decide) rfl (fun ls hl => ?_)
              refine lv_iinc (lv' := [(4, .int ((nI k9 + (1)))), (3, .ref (ad (20 + 2 * kx155))), (2, .ref (ad (20 + 2 * Ec))), (0, .ref (ad 222)), (1, .int (4))]) Bx.1 Bx.2.1 d_Rd_readSequence_59 hl (k := 1) rfl rfl (by decide) rfl (fun ls hl => ?_)
              rw [show (nI k9 + (1) : Int32) = nI (k9 + 1) from nI_1 (k9)] at hl
              refine lv_goto Bx.1 Bx.2.1 d_Rd_readSequence_62 rfl ?_
              have hsq3 := seq_step hsq (by omega) hlka (by omega) hsl9 rds174 h8175 ⟨by omega, by omega⟩ (by omega) (by rw [eg123]; exact go_rept hbg2 hgt2) her197 hsr198
              exact ih104 mem190 (ax156) (ux157) (Rx158) (Ex159) (Sx160) (Ax161) ((va_up Bx_162 233 (upd (Bx_162 233) la (nI kx155)))) (nx163) (tox164) (kx155) (k9 + 1) _ _ _ (by have := hmeas105; omega) (hRX196) (⟨by omega, by omega, by omega, by omega, by omega⟩) (hsq3) (hz102.trans htk171 (by omega)) (hrk195) hP hD hS (lv_sub hl [0, 1, 2, 3, 4] rfl)
        · subst hr143
          refine lv_if_eq Bx.1 Bx.2.1 d_Rd_readSequence_32 rfl (fun hb210 => ?_) (fun hb210 => ?_)
          · refine lv_aload_n Bx.1 Bx.2.1 d_Rd_readSequence_65 rfl (lv_at hl 2 rfl) ?_
            exact x_aret hx hb hlocks hr (⟨a1, u1, R1, E1, S1, A1, B1, n1, to1, rfl, by omega, by omega, by omega, by omega, hz102, hrk129, by rw [← eg123]; exact hRX124, ⟨hsq.1.1, her141, hsr142, hsq.1.2.2.2⟩, fun z => by have := z.2; rw [← eg123] at this; omega⟩) hP hS d_Rd_readSequence_66
          · exact absurd hb210 (by decide)
  exact loop97 _ mem77 (ax43) (ux44) (Rx45) (Ex46) (Sx47) (Ax48) ((va_up Bx_49 232 (upd (Bx_49 232) Ec (nI kx42)))) (nx50) (tox51) (kx42) (0) _ _ _ (Nat.lt_succ_self _) (hRX83) (⟨by omega, by omega, by omega, by omega, by omega⟩) (hsq0) (htk58) (hrk82) hP hD hS (lv_sub hl [0, 1, 2, 3, 4] rfl)
set_option maxHeartbeats 4000000 in
set_option maxRecDepth 100000 in
theorem m_Rd_readAlternatives_4Y (l : Launch) {D : va_G} {cy : Nat → ClassId} {sz n : Nat} {ad : Nat → Nat} {mem : Nat → va_E} {Z a R Ec lim : Nat} {f T : Nat → Int32} {to : Nat → Int32} {nm : Nat → Int64} {m0 : Nat → va_E} {u S : Nat} {A Bw : Ro} {cq : Nat} (hlt : l.stackTraces = false) (hn : 224 ≤ n) (hT : TX cy ad Z f m0) (hf : ∀ k, k < Z → f k = T k) (hRX : RX cy ad lim a R Ec to nm m0 mem) (haB : a ≤ 300) (hER : ER ad R Ec Bw mem) (hSR : SR cy ad S Bw mem) (hSa : S ≤ a) (haZ : a ≤ Z) (hLK : LKa (Ec + 1) A) (hc : A 237 4 = nI cq) (hcl : cq ≤ Ec) (h39 : A 239 4 = -1) : NXr l D cy sz n ad y_Rd_readAlternatives c_Rd_readAlternatives 5 (some (.object "AbnfChart$Element")) ({ frames := 31, cells := 1, slots := 6, locals := 738 } : Room) mem [.ref (ad 222), .int (4)] (fun r mem' => ∃ (la a' u' R' E' S' : Nat) (A' Bw' : Ro) (nm' : Nat → Int64) (to' : Nat → Int32), r = ad (20 + 2 * Ec) ∧ Ec + 1 < E' ∧ R ≤ R' ∧ a < a' ∧ a' ≤ Z ∧ TOK R R' to to' ∧ (∀ i9, i9 < R → mem' (7 + i9) = mem (7 + i9)) ∧ RX cy ad lim (gapF T Z a') R' E' to' nm' m0 mem' ∧ ALI cy ad T Z 4 (seqS T Z a u R (Ec + 1) 4 A nm) cq R Ec S u A Bw la a' u' R' E' S' A' Bw' nm' mem' ∧ bgF (hereF Z T a) = true ∧ Ec < 100 ∧ ¬ hereF Z T (gapF T Z a') = 47 ∧ ¬ (bgF (hereF Z T (gapF T Z a')) = true ∧ a' < gapF T Z a')) (fun X mem' => ((X = cIA ∨ X = cIS) ∧ ∃ rc' ec' : Nat, RS cy ad lim rc' ec' m0 mem') ∧ (bgF (hereF Z T a) = false ∨ Ec = 100 ∨ (bgF (hereF Z T a) = true ∧ Ec < 100 ∧ Fai T Z (seqS T Z a u R (Ec + 1) 4 A nm)))) := by
  refine vx_ofW (cc := c_Rd_readAlternatives) (maxL := 5) (ret := (some (.object "AbnfChart$Element"))) (by decide) rfl ?_
  intro p e s m args below meth c s₁ B hml hno hv
  obtain ⟨rfl, E, hP, hD⟩ := hv
  have hx := B.exec
  have hb := B.bytes
  have hr := B.returns
  have hlocks := B.notSynchronized
  have Bx : MB p s m [.ref (ad 222), .int (4)].toArray c c_Rd_readAlternatives "AbnfChart$Reader" D cy := ⟨hx, hb, tb_all (atoms_spec B.pre) E.2.1, findClass_of_methodNamed B.named, E.1⟩
  have hS : va_S (Az sz) s.heap s.heap [] := va_S.rf
  have hl := lv_entry ([.ref (ad 222), .int (4)]) (n := 5) (Nat.le_of_ble_eq_true rfl)
  rw [lg_entry_eq]
  generalize (lg_sl ([.ref (ad 222), .int (4)]) ++ List.replicate (5 - (lg_sl ([.ref (ad 222), .int (4)])).length) Slot.unset).toArray = ls at hl ⊢
  have hl : lv_has ls 5 [(0, .ref (ad 222)), (1, .int (4))] := hl
  have hZ9 := hT.2.1
  have hbd9 := hRX.1.1.1
  have hfr0 : ∀ i, 7 ≤ i ∧ i < 222 ∧ i ≠ 20 + 2 * Ec → mem i = mem i := fun _ _ => rfl
  have hrk0 : ∀ i9, i9 < R → mem (7 + i9) = mem (7 + i9) := fun _ _ => rfl
  obtain ⟨ft1, h9_2⟩ := hRX.2.1
  have h1_3 : mem 1 = .inr (0, [.ref (ad 2), .int (nI Z)]) := (hRX.1.2.2 1 (by omega)).trans hT.1
  have h2_4 : mem 2 = .inl (cy 0, 240, .inl f) := (hRX.1.2.2 2 (by omega)).trans hT.2.2
  have h5_5 := hRX.1.1.2.1
  have hbd11 := hRX.1.1.1
  obtain ⟨S6, g7, hS_8, h220_9, h221_10⟩ := hRX.1.1.2.2.2.2.2.2
  refine lv_aload_n Bx.1 Bx.2.1 d_Rd_readAlternatives_0 rfl (lv_at hl 0 rfl) ?_
  refine lv_iconst (v := 0) Bx.1 Bx.2.1 d_Rd_readAlternatives_1 (by decide) ?_
  refine f_xVr (na := 1) (As := [.int (0)]) (rest := []) Bx hml E hP hD hS (by omega) h9_2 rfl (m_Rd_beginRowY l hlt hn hT hf hRX (by omega)) kw_409 kw_411 sel_Rd_beginRow kw_6 kw_412 (by decide +kernel) ⟨rfl, rfl⟩ ⟨Nat.le_of_ble_eq_true rfl, Nat.le_of_ble_eq_true rfl⟩ rfl hl.1 (Nat.le_of_ble_eq_true rfl) d_Rd_readAlternatives_2 ⟨Nat.le_of_ble_eq_true rfl, Nat.le_of_ble_eq_true rfl⟩ (fun X ce q9 memx H locs hx9 hP hS g1 g2 g3 => f_out hlocks hno hP hS g1 g2 g3 ⟨Nat.le_of_ble_eq_true rfl, Nat.le_of_ble_eq_true rfl⟩ ⟨hx9.1, hx9.2.elim Or.inl (fun z => Or.inr (Or.inl z))⟩) (fun r12 mem13 H locs hq hP hS => ?_)
  have hD : va_D (Az sz) (fw n ad mem13) := fw_D hD
  obtain ⟨hbg, hE9, hr9, hRXb, hclb, hfab⟩ := hq
  subst hr9
  have hrk14 : ∀ i9, i9 < R → mem13 (7 + i9) = mem (7 + i9) := fun i9 q9 => (hfab (7 + i9) (by omega)).trans (hrk0 i9 q9)
  have hfr15 : ∀ i, 7 ≤ i ∧ i < 222 ∧ i ≠ 20 + 2 * Ec → mem13 i = mem i := fun i q => (hfab i (by omega)).trans (hfr0 i q)
  obtain ⟨ft16, h9_17⟩ := hRXb.2.1
  have h1_18 : mem13 1 = .inr (0, [.ref (ad 2), .int (nI Z)]) := (hRXb.1.2.2 1 (by omega)).trans hT.1
  have h2_19 : mem13 2 = .inl (cy 0, 240, .inl f) := (hRXb.1.2.2 2 (by omega)).trans hT.2.2
  have h5_20 := hRXb.1.1.2.1
  have hbd26 := hRXb.1.1.1
  obtain ⟨S21, g22, hS_23, h220_24, h221_25⟩ := hRXb.1.1.2.2.2.2.2.2
  obtain ⟨ft27, h9_28⟩ := hRXb.2.1
  have h1_29 : mem13 1 = .inr (0, [.ref (ad 2), .int (nI Z)]) := (hRXb.1.2.2 1 (by omega)).trans hT.1
  have h2_30 : mem13 2 = .inl (cy 0, 240, .inl f) := (hRXb.1.2.2 2 (by omega)).trans hT.2.2
  have h5_31 := hRXb.1.1.2.1
  have hbd37 := hRXb.1.1.1
  obtain ⟨S32, g33, hS_34, h220_35, h221_36⟩ := hRXb.1.1.2.2.2.2.2.2
  refine lv_astore_n (lv' := [(2, .ref (ad (20 + 2 * Ec))), (0, .ref (ad 222)), (1, .int (4))]) Bx.1 Bx.2.1 d_Rd_readAlternatives_5 rfl hl (by decide) rfl (fun ls hl => ?_)
  refine lv_aload_n Bx.1 Bx.2.1 d_Rd_readAlternatives_6 rfl (lv_at hl 1 rfl) ?_
  refine lv_iload_n Bx.1 Bx.2.1 d_Rd_readAlternatives_7 rfl (lv_at hl 2 rfl) ?_
  have her38 : ER ad R (Ec + 1) (bwN Bw Ec 0 (0) (0) (-1) (-1) (-1) (Bw 234)) mem13 := hER.new (Nat.le_refl _) (by rw [vR_m]; exact hclb) (Or.inl rfl) (fun i9 hi9 => hfr15 (20 + 2 * i9) (by omega))
  have hsr39 : SR cy ad S (bwN Bw Ec 0 (0) (0) (-1) (-1) (-1) (Bw 234)) mem13 := ⟨(hfr15 220 (by omega)).trans hSR.1, (hfr15 221 (by omega)).trans hSR.2⟩
  refine f_xVr (na := 1) (As := [.int (4)]) (rest := []) Bx hml E hP hD hS (by omega) h9_28 rfl (m_Rd_readSequence_4Y l hlt hn hT hf hRXb (by omega) (u := u) (A := A) her38 hsr39 (by omega) (by omega) hLK hc (by omega) h39) kw_435 kw_437 sel_Rd_readSequence kw_6 kw_438 (by decide +kernel) ⟨rfl, rfl⟩ ⟨Nat.le_of_ble_eq_true rfl, Nat.le_of_ble_eq_true rfl⟩ rfl hl.1 (Nat.le_of_ble_eq_true rfl) d_Rd_readAlternatives_8 ⟨Nat.le_of_ble_eq_true rfl, Nat.le_of_ble_eq_true rfl⟩ (fun X ce q9 memx H locs hx9 hP hS g1 g2 g3 => f_out hlocks hno hP hS g1 g2 g3 ⟨Nat.le_of_ble_eq_true rfl, Nat.le_of_ble_eq_true rfl⟩ ⟨hx9.1, Or.inr (Or.inr ⟨hbg, hE9, hx9.2⟩)⟩) (fun r40 mem41 H locs hq hP hS => ?_)
  have hD : va_D (Az sz) (fw n ad mem41) := fw_D hD
  obtain ⟨ax42, ux43, Rx44, Ex45, Sx46, Ax47, Bx_48, nx49, tox50, hr951, h252, h353, h454, h555, htk56, hrk57, hRX58, rds59, hnb60⟩ := hq
  subst hr951
  have hrk61 : ∀ i9, i9 < R → mem41 (7 + i9) = mem (7 + i9) := fun i9 q9 => (hrk57 i9 (by omega)).trans (hrk14 i9 q9)
  obtain ⟨g62, eg63⟩ : ∃ z, z = gapF T Z ax42 := ⟨_, rfl⟩
  have hg64 : ax42 ≤ g62 := by rw [eg63]; exact gapF_ge T Z _
  have hg65 : g62 ≤ Z := by rw [eg63]; exact gapF_le T (by omega)
  rw [← eg63] at hRX58
  obtain ⟨ft66, h9_67⟩ := hRX58.2.1
  have h1_68 : mem41 1 = .inr (0, [.ref (ad 2), .int (nI Z)]) := (hRX58.1.2.2 1 (by omega)).trans hT.1
  have h2_69 : mem41 2 = .inl (cy 0, 240, .inl f) := (hRX58.1.2.2 2 (by omega)).trans hT.2.2
  have h5_70 := hRX58.1.1.2.1
  have hbd76 := hRX58.1.1.1
  obtain ⟨S71, g72, hS_73, h220_74, h221_75⟩ := hRX58.1.1.2.2.2.2.2.2
  have hbd77 := hRX58.1.1.1
  refine lv_astore_n (lv' := [(3, .ref (ad (20 + 2 * (Ec + 1)))), (2, .ref (ad (20 + 2 * Ec))), (0, .ref (ad 222)), (1, .int (4))]) Bx.1 Bx.2.1 d_Rd_readAlternatives_11 rfl hl (by decide) rfl (fun ls hl => ?_)
  refine lv_aload_n Bx.1 Bx.2.1 d_Rd_readAlternatives_12 rfl (lv_at hl 1 rfl) ?_
  refine lv_aload_n Bx.1 Bx.2.1 d_Rd_readAlternatives_13 rfl (lv_at hl 0 rfl) ?_
  have hce78 := (rds59.2.1 Ec (by omega)).1
  refine f_putN Bx hP hD hS (by omega) hce78 rfl inEl tyEl okEl nmEl 4 (by decide) kw_87 rfl rfl rfl rfl (Nat.le_of_ble_eq_true rfl) d_Rd_readAlternatives_14 (fun H locs hP hS => ?_)
  obtain ⟨mem79, e_mem79⟩ : ∃ z, z = va_up mem41 ((20 + 2 * Ec)) (.inr (2, [.int (Bx_48 228 Ec), .int (Bx_48 229 Ec), .int (Bx_48 230 Ec), vR ad (Bx_48 231 Ec), .ref (ad (20 + 2 * (Ec + 1))), vE ad (Bx_48 233 Ec), .ref (ad (21 + 2 * Ec))])) := ⟨_, rfl⟩
  have hP : va_P D vcl (fw n ad mem79) H := by rw [e_mem79]; exact hP
  have hD : va_D (Az sz) (fw n ad mem79) := fw_D hD
  have h_mem79 : mem79 ((20 + 2 * Ec)) = .inr (2, [.int (Bx_48 228 Ec), .int (Bx_48 229 Ec), .int (Bx_48 230 Ec), vR ad (Bx_48 231 Ec), .ref (ad (20 + 2 * (Ec + 1))), vE ad (Bx_48 233 Ec), .ref (ad (21 + 2 * Ec))]) := by rw [e_mem79, va_up_self]
  have hh80 := (va_up_ne mem41 (.inr (2, [.int (Bx_48 228 Ec), .int (Bx_48 229 Ec), .int (Bx_48 230 Ec), vR ad (Bx_48 231 Ec), .ref (ad (20 + 2 * (Ec + 1))), vE ad (Bx_48 233 Ec), .ref (ad (21 + 2 * Ec))])) (show (222 : Nat) ≠ (20 + 2 * Ec) by first | decide | assumption | omega)).trans h9_67
  rw [← e_mem79] at hh80
  have hh81 := (va_up_ne mem41 (.inr (2, [.int (Bx_48 228 Ec), .int (Bx_48 229 Ec), .int (Bx_48 230 Ec), vR ad (Bx_48 231 Ec), .ref (ad (20 + 2 * (Ec + 1))), vE ad (Bx_48 233 Ec), .ref (ad (21 + 2 * Ec))])) (show (1 : Nat) ≠ (20 + 2 * Ec) by first | decide | assumption | omega)).trans h1_68
  rw [← e_mem79] at hh81
  have hh82 := (va_up_ne mem41 (.inr (2, [.int (Bx_48 228 Ec), .int (Bx_48 229 Ec), .int (Bx_48 230 Ec), vR ad (Bx_48 231 Ec), .ref (ad (20 + 2 * (Ec + 1))), vE ad (Bx_48 233 Ec), .ref (ad (21 + 2 * Ec))])) (show (5 : Nat) ≠ (20 + 2 * Ec) by first | decide | assumption | omega)).trans h5_70
  rw [← e_mem79] at hh82
  have hh83 := (va_up_ne mem41 (.inr (2, [.int (Bx_48 228 Ec), .int (Bx_48 229 Ec), .int (Bx_48 230 Ec), vR ad (Bx_48 231 Ec), .ref (ad (20 + 2 * (Ec + 1))), vE ad (Bx_48 233 Ec), .ref (ad (21 + 2 * Ec))])) (show (220 : Nat) ≠ (20 + 2 * Ec) by first | decide | assumption | omega)).trans h220_74
  rw [← e_mem79] at hh83
  have hrk84 : ∀ i9, i9 < R → mem79 (7 + i9) = mem (7 + i9) := fun i9 q9 => (show mem79 (7 + i9) = mem41 (7 + i9) by rw [e_mem79]; exact va_up_ne _ _ (by omega)).trans (hrk61 i9 q9)
  have hRX85 : RX cy ad lim (g62) (Rx44) (Ex45) (tox50) (nx49) m0 mem79 := by rw [e_mem79]; exact hRX58.el (by omega) (hRX58.1.mk (by omega) (hRX58.1.1.upEl (by omega) (fun _ => ⟨(rds59.2.1 Ec (by omega)).2.1.oR ad, Or.inr ⟨(Ec + 1), by omega, by omega, rfl⟩, (rds59.2.1 Ec (by omega)).2.2.2.oE ad (by omega)⟩)))
  have her86 : ER ad (Rx44) (Ex45) (va_up Bx_48 232 (upd (Bx_48 232) Ec (nI (Ec + 1)))) mem79 := rds59.2.1.part (by omega) (by omega) (by omega) h_mem79 (fun i9 q9 hi9 => by rw [e_mem79]; exact va_up_ne _ _ (by omega))
  have hsr87 : SR cy ad (Sx46) (Bx_48) mem79 := ⟨(show mem79 220 = mem41 220 by rw [e_mem79]; exact va_up_ne _ _ (by omega)).trans rds59.2.2.1.1, (show mem79 221 = mem41 221 by rw [e_mem79]; exact va_up_ne _ _ (by omega)).trans rds59.2.2.1.2⟩
  obtain ⟨ft88, h9_89⟩ := hRX85.2.1
  have h1_90 : mem79 1 = .inr (0, [.ref (ad 2), .int (nI Z)]) := (hRX85.1.2.2 1 (by omega)).trans hT.1
  have h2_91 : mem79 2 = .inl (cy 0, 240, .inl f) := (hRX85.1.2.2 2 (by omega)).trans hT.2.2
  have h5_92 := hRX85.1.1.2.1
  have hbd98 := hRX85.1.1.1
  obtain ⟨S93, g94, hS_95, h220_96, h221_97⟩ := hRX85.1.1.2.2.2.2.2.2
  refine lv_iconst (v := 0) Bx.1 Bx.2.1 d_Rd_readAlternatives_17 (by decide) ?_
  refine lv_istore (lv' := [(4, .int (0)), (3, .ref (ad (20 + 2 * (Ec + 1)))), (2, .ref (ad (20 + 2 * Ec))), (0, .ref (ad 222)), (1, .int (4))]) Bx.1 Bx.2.1 d_Rd_readAlternatives_18 hl (by decide) rfl (fun ls hl => ?_)
  have hal0 := alt_first hLK hE9 hcl rds59 (by omega) (by omega) her86 hsr87
  have loop99 : ∀ (d100 : Nat) (mem9 : Nat → va_E) (a1 : Nat) (u1 : Nat) (R1 : Nat) (E1 : Nat) (S1 : Nat) (A1 : Ro) (B1 : Ro) (n1 : Nat → Int64) (to1 : Nat → Int32) (la : Nat) (k9 : Nat) (ls : Array Slot) (H : Heap) (locs : List Loc), (240 - k9 < d100) → (RX cy ad lim (gapF T Z a1) R1 E1 to1 n1 m0 mem9) → (a < a1 ∧ a1 ≤ Z ∧ R ≤ R1 ∧ k9 < a1 ∧ k9 ≤ 240) → (ALI cy ad T Z 4 (seqS T Z a u R (Ec + 1) 4 A nm) cq R Ec S u A Bw la a1 u1 R1 E1 S1 A1 B1 n1 mem9) → (TOK R R1 to to1) → (¬ (bgF (hereF Z T (gapF T Z a1)) = true ∧ a1 < gapF T Z a1)) → (∀ i9, i9 < R → mem9 (7 + i9) = mem (7 + i9)) → (va_P D vcl (fw n ad mem9) H) → (va_D (Az sz) (fw n ad mem9)) → (va_S (Az sz) s.heap H locs) → (lv_has ls 5 [(4, .int (nI k9)), (3, .ref (ad (20 + 2 * la))), (2, .ref (ad (20 + 2 * Ec))), (0, .ref (ad 222)), (1, .int (4))]) → W p l e (headSpec (Cond.code y_Rd_readAlternatives c_Rd_readAlternatives 5 (some (.object "AbnfChart$Element")) :: tg) ({ frames := 31, cells := 1, slots := 6, locals := 738 } : Room)).room s m [.ref (ad 222), .int (4)].toArray below meth c H locs 0 0 (vx_MQ below (QX (QR (fun r mem' => ∃ (la a' u' R' E' S' : Nat) (A' Bw' : Ro) (nm' : Nat → Int64) (to' : Nat → Int32), r = ad (20 + 2 * Ec) ∧ Ec + 1 < E' ∧ R ≤ R' ∧ a < a' ∧ a' ≤ Z ∧ TOK R R' to to' ∧ (∀ i9, i9 < R → mem' (7 + i9) = mem (7 + i9)) ∧ RX cy ad lim (gapF T Z a') R' E' to' nm' m0 mem' ∧ ALI cy ad T Z 4 (seqS T Z a u R (Ec + 1) 4 A nm) cq R Ec S u A Bw la a' u' R' E' S' A' Bw' nm' mem' ∧ bgF (hereF Z T a) = true ∧ Ec < 100 ∧ ¬ hereF Z T (gapF T Z a') = 47 ∧ ¬ (bgF (hereF Z T (gapF T Z a')) = true ∧ a' < gapF T Z a')) (PP D n ad) (Az sz))) (XQ D sz n ad (fun X mem' => ((X = cIA ∨ X = cIS) ∧ ∃ rc' ec' : Nat, RS cy ad lim rc' ec' m0 mem') ∧ (bgF (hereF Z T a) = false ∨ Ec = 100 ∨ (bgF (hereF Z T a) = true ∧ Ec < 100 ∧ Fai T Z (seqS T Z a u R (Ec + 1) 4 A nm))))) [.ref (ad 222), .int (4)].toArray s 1 6 (Az sz)) (F0 m 20 ls []) := by
    intro d100
    induction d100 with
    | zero => intro mem9 a1 u1 R1 E1 S1 A1 B1 n1 to1 la k9 ls H locs hmeas108; exact absurd hmeas108 (Nat.not_lt_zero _)
    | succ d100 ih107 =>
      intro mem9 a1 u1 R1 E1 S1 A1 B1 n1 to1 la k9 ls H locs hmeas108 hz101 hz102 hz103 hz104 hz105 hz106 hP hD hS hl
      obtain ⟨g1, eg1⟩ : ∃ z, z = gapF T Z a1 := ⟨_, rfl⟩
      rw [← eg1] at hz101
      have hge1 : a1 ≤ g1 := by rw [eg1]; exact gapF_ge T Z _
      have hbd8 := hz102
      have hle1 : g1 ≤ Z := by rw [eg1]; exact gapF_le T (by omega)
      have hal := hz103
      have hbdE := hz101.1.1.1
      have hla := hal.2.2.2.2.2.2.2.2.2.2
      have hSa1 := hal.2.2.2.1.2.1
      have hlka := ali_lka hal hLK hE9 hcl
      obtain ⟨ft109, h9_110⟩ := hz101.2.1
      have h1_111 : mem9 1 = .inr (0, [.ref (ad 2), .int (nI Z)]) := (hz101.1.2.2 1 (by omega)).trans hT.1
      have h2_112 : mem9 2 = .inl (cy 0, 240, .inl f) := (hz101.1.2.2 2 (by omega)).trans hT.2.2
      have h5_113 := hz101.1.1.2.1
      have hbd119 := hz101.1.1.1
      obtain ⟨S114, g115, hS_116, h220_117, h221_118⟩ := hz101.1.1.2.2.2.2.2.2
      refine lv_iload Bx.1 Bx.2.1 d_Rd_readAlternatives_20 (lv_at hl 0 rfl) ?_
      refine lv_sipush (v := 240) Bx.1 Bx.2.1 d_Rd_readAlternatives_22 (by decide) ?_
      refine lv_icmp_ge Bx.1 Bx.2.1 d_Rd_readAlternatives_25 rfl (fun hb120 => ?_) (fun hb120 => ?_)
      · have hN121 : 240 ≤ k9 := (nI_leI (by omega) (by omega)).mp (show nI (240) ≤ nI (k9) from hb120)
        exact absurd hbd8 (by omega)
      · have hN122 : ¬ 240 ≤ k9 := fun q9 => hb120 (show nI (240) ≤ nI (k9) from (nI_leI (by omega) (by omega)).mpr q9)
        refine lv_aload_n Bx.1 Bx.2.1 d_Rd_readAlternatives_28 rfl (lv_at hl 3 rfl) ?_
        refine f_callVi (na := 0) (As := []) (rest := []) Bx hml E hP hD hS (by omega) h9_110 rfl (m_Rd_peekX l hn hT hf hz101 (by omega)) kw_353 kw_355 sel_Rd_peek kw_6 kw_356 (by decide +kernel) ⟨rfl, rfl⟩ ⟨Nat.le_of_ble_eq_true rfl, Nat.le_of_ble_eq_true rfl⟩ rfl hl.1 (Nat.le_of_ble_eq_true rfl) d_Rd_readAlternatives_29 ⟨Nat.le_of_ble_eq_true rfl, Nat.le_of_ble_eq_true rfl⟩ (fun r124 mem125 H locs hq hP hS => ?_)
        have hD : va_D (Az sz) (fw n ad mem125) := fw_D hD
        obtain ⟨hqe, hpk123⟩ := hq
        rw [hqe] at hP hD
        subst hpk123
        refine lv_bipush (v := 47) Bx.1 Bx.2.1 d_Rd_readAlternatives_32 (by decide) ?_
        refine lv_icmp_ne Bx.1 Bx.2.1 d_Rd_readAlternatives_34 rfl (fun hb127 => ?_) (fun hb127 => ?_)
        · refine lv_aload_n Bx.1 Bx.2.1 d_Rd_readAlternatives_72 rfl (lv_at hl 2 rfl) ?_
          exact x_aret hx hb hlocks hr (⟨la, a1, u1, R1, E1, S1, A1, B1, n1, to1, rfl, by omega, by omega, by omega, by omega, hz104, hz106, by rw [← eg1]; exact hz101, hal, hbg, hE9, by rw [← eg1]; exact hb127, hz105⟩) hP hS d_Rd_readAlternatives_73
        · have hlt128 := hereF_lt (by rw [hb127]; decide)
          have h47 : hereF Z T (gapF T Z a1) = 47 := by rw [← eg1]; exact hb127
          have h237 : A1 237 4 = nI cq := hal.2.2.2.2.2.2.2.2.1.2.2.1.trans hc
          have h239 : A1 239 4 = -1 := hal.2.2.2.2.2.2.2.2.1.2.2.2
          refine lv_aload_n Bx.1 Bx.2.1 d_Rd_readAlternatives_37 rfl (lv_at hl 3 rfl) ?_
          refine lv_dup Bx.1 Bx.2.1 d_Rd_readAlternatives_38 rfl ?_
          refine f_get Bx hP (by omega) h9_110 rfl inRd 2 (by decide) kw_146 rfl rfl d_Rd_readAlternatives_39 ?_
          refine lv_iconst (v := 1) Bx.1 Bx.2.1 d_Rd_readAlternatives_42 (by decide) ?_
          refine lv_iadd Bx.1 Bx.2.1 d_Rd_readAlternatives_43 ?_
          rw [show nI g1 + 1 = nI (g1 + 1) from nI_add (g1) (1)]
          refine f_put Bx hP hD hS (by omega) h9_110 rfl inRd tyRd okRd nmRd 2 (by decide) kw_146 rfl rfl rfl rfl (Nat.le_of_ble_eq_true rfl) d_Rd_readAlternatives_44 (fun H locs hP hS => ?_)
          obtain ⟨mem129, e_mem129⟩ : ∃ z, z = va_up mem9 (222) (.inr (4, [.ref (ad 1), .ref (ad 5), .int (nI (g1 + 1)), .int (ft109)])) := ⟨_, rfl⟩
          have hP : va_P D vcl (fw n ad mem129) H := by rw [e_mem129]; exact hP
          have hD : va_D (Az sz) (fw n ad mem129) := fw_D hD
          have h_mem129 : mem129 (222) = .inr (4, [.ref (ad 1), .ref (ad 5), .int (nI (g1 + 1)), .int (ft109)]) := by rw [e_mem129, va_up_self]
          have hh130 := (va_up_ne mem9 (.inr (4, [.ref (ad 1), .ref (ad 5), .int (nI (g1 + 1)), .int (ft109)])) (show (1 : Nat) ≠ 222 by first | decide | assumption | omega)).trans h1_111
          rw [← e_mem129] at hh130
          have hh131 := (va_up_ne mem9 (.inr (4, [.ref (ad 1), .ref (ad 5), .int (nI (g1 + 1)), .int (ft109)])) (show (5 : Nat) ≠ 222 by first | decide | assumption | omega)).trans h5_113
          rw [← e_mem129] at hh131
          have hh132 := (va_up_ne mem9 (.inr (4, [.ref (ad 1), .ref (ad 5), .int (nI (g1 + 1)), .int (ft109)])) (show (220 : Nat) ≠ 222 by first | decide | assumption | omega)).trans h220_117
          rw [← e_mem129] at hh132
          have hrk133 : ∀ i9, i9 < R → mem129 (7 + i9) = mem (7 + i9) := fun i9 q9 => (show mem129 (7 + i9) = mem9 (7 + i9) by rw [e_mem129]; exact va_up_ne _ _ (by omega)).trans (hz106 i9 q9)
          have her134 : ER ad (R1) (E1) (B1) mem129 := hal.2.1.fr (Nat.le_refl _) (fun i9 hi9 => by rw [e_mem129]; exact va_up_ne _ _ (by omega))
          have hsr135 : SR cy ad (S1) (B1) mem129 := ⟨(show mem129 220 = _ from by rw [e_mem129]; exact va_up_ne _ _ (by omega)).trans hal.2.2.1.1, (show mem129 221 = _ from by rw [e_mem129]; exact va_up_ne _ _ (by omega)).trans hal.2.2.1.2⟩
          have hRX136 : RX cy ad lim (g1 + 1) (R1) (E1) (to1) (n1) m0 mem129 := by rw [e_mem129]; exact hz101.at
          refine lv_aload_n Bx.1 Bx.2.1 d_Rd_readAlternatives_47 rfl (lv_at hl 3 rfl) ?_
          refine f_callVi (na := 0) (As := []) (rest := []) Bx hml E hP hD hS (by omega) h_mem129 rfl (m_Rd_readGapY l hn hT hf hRX136 (by omega) (by omega)) kw_397 kw_399 sel_Rd_readGap kw_6 kw_400 (by decide +kernel) ⟨rfl, rfl⟩ ⟨Nat.le_of_ble_eq_true rfl, Nat.le_of_ble_eq_true rfl⟩ rfl hl.1 (Nat.le_of_ble_eq_true rfl) d_Rd_readAlternatives_48 ⟨Nat.le_of_ble_eq_true rfl, Nat.le_of_ble_eq_true rfl⟩ (fun r137 mem138 H locs hq hP hS => ?_)
          have hD : va_D (Az sz) (fw n ad mem138) := fw_D hD
          obtain ⟨g139, eg140⟩ : ∃ z, z = gapF T Z (g1 + 1) := ⟨_, rfl⟩
          rw [← eg140] at hq
          obtain ⟨hRX141, hgc142, hfa143⟩ := hq
          have hg144 : g1 + 1 ≤ g139 := by rw [eg140]; exact gapF_ge T Z _
          have hg145 : g139 ≤ Z := by rw [eg140]; exact gapF_le T (by omega)
          have hrk146 : ∀ i9, i9 < R → mem138 (7 + i9) = mem (7 + i9) := fun i9 q9 => (hfa143 (7 + i9) (by omega)).trans (hrk133 i9 q9)
          obtain ⟨ft147, h9_148⟩ := hRX141.2.1
          have h1_149 : mem138 1 = .inr (0, [.ref (ad 2), .int (nI Z)]) := (hRX141.1.2.2 1 (by omega)).trans hT.1
          have h2_150 : mem138 2 = .inl (cy 0, 240, .inl f) := (hRX141.1.2.2 2 (by omega)).trans hT.2.2
          have h5_151 := hRX141.1.1.2.1
          have hbd157 := hRX141.1.1.1
          obtain ⟨S152, g153, hS_154, h220_155, h221_156⟩ := hRX141.1.1.2.2.2.2.2.2
          have her158 : ER ad (R1) (E1) (B1) mem138 := her134.fr (Nat.le_refl _) (fun i9 hi9 => hfa143 _ (by omega))
          have hsr159 : SR cy ad (S1) (B1) mem138 := ⟨(show mem138 220 = _ from hfa143 _ (by omega)).trans hsr135.1, (show mem138 221 = _ from hfa143 _ (by omega)).trans hsr135.2⟩
          refine lv_pop Bx.1 Bx.2.1 d_Rd_readAlternatives_51 rfl ?_
          refine lv_aload_n Bx.1 Bx.2.1 d_Rd_readAlternatives_52 rfl (lv_at hl 1 rfl) ?_
          refine lv_aload_n Bx.1 Bx.2.1 d_Rd_readAlternatives_53 rfl (lv_at hl 3 rfl) ?_
          refine lv_iload_n Bx.1 Bx.2.1 d_Rd_readAlternatives_54 rfl (lv_at hl 4 rfl) ?_
          refine f_xVr (na := 1) (As := [.int (4)]) (rest := [.ref (ad (20 + 2 * la))]) Bx hml E hP hD hS (by omega) h9_148 rfl (m_Rd_readSequence_4Y l hlt hn hT hf hRX141 (by omega) (u := u1) (A := A1) her158 hsr159 (by omega) (by omega) hlka h237 (by omega) h239) kw_435 kw_437 sel_Rd_readSequence kw_6 kw_438 (by decide +kernel) ⟨rfl, rfl⟩ ⟨Nat.le_of_ble_eq_true rfl, Nat.le_of_ble_eq_true rfl⟩ rfl hl.1 (Nat.le_of_ble_eq_true rfl) d_Rd_readAlternatives_55 ⟨Nat.le_of_ble_eq_true rfl, Nat.le_of_ble_eq_true rfl⟩ (fun X ce q9 memx H locs hx9 hP hS g1 g2 g3 => f_out hlocks hno hP hS g1 g2 g3 ⟨Nat.le_of_ble_eq_true rfl, Nat.le_of_ble_eq_true rfl⟩ ⟨hx9.1, Or.inr (Or.inr ⟨hbg, hE9, hal.1.fai (go_sl h47) (by rw [← eg1, ← eg140]; exact hx9.2)⟩)⟩) (fun r160 mem161 H locs hq hP hS => ?_)
          have hD : va_D (Az sz) (fw n ad mem161) := fw_D hD
          obtain ⟨ax162, ux163, Rx164, Ex165, Sx166, Ax167, Bx_168, nx169, tox170, hr9171, h2172, h3173, h4174, h5175, htk176, hrk177, hRX178, rds179, hnb180⟩ := hq
          subst hr9171
          have hrk181 : ∀ i9, i9 < R → mem161 (7 + i9) = mem (7 + i9) := fun i9 q9 => (hrk177 i9 (by omega)).trans (hrk146 i9 q9)
          obtain ⟨g182, eg183⟩ : ∃ z, z = gapF T Z ax162 := ⟨_, rfl⟩
          have hg184 : ax162 ≤ g182 := by rw [eg183]; exact gapF_ge T Z _
          have hg185 : g182 ≤ Z := by rw [eg183]; exact gapF_le T (by omega)
          rw [← eg183] at hRX178
          obtain ⟨ft186, h9_187⟩ := hRX178.2.1
          have h1_188 : mem161 1 = .inr (0, [.ref (ad 2), .int (nI Z)]) := (hRX178.1.2.2 1 (by omega)).trans hT.1
          have h2_189 : mem161 2 = .inl (cy 0, 240, .inl f) := (hRX178.1.2.2 2 (by omega)).trans hT.2.2
          have h5_190 := hRX178.1.1.2.1
          have hbd196 := hRX178.1.1.1
          obtain ⟨S191, g192, hS_193, h220_194, h221_195⟩ := hRX178.1.1.2.2.2.2.2.2
          have hbd197 := hRX178.1.1.1
          have hce198 := (rds179.2.1 la (by omega)).1
          refine f_putN Bx hP hD hS (by omega) hce198 rfl inEl tyEl okEl nmEl 5 (by decide) kw_91 rfl rfl rfl rfl (Nat.le_of_ble_eq_true rfl) d_Rd_readAlternatives_58 (fun H locs hP hS => ?_)
          obtain ⟨mem199, e_mem199⟩ : ∃ z, z = va_up mem161 ((20 + 2 * la)) (.inr (2, [.int (Bx_168 228 la), .int (Bx_168 229 la), .int (Bx_168 230 la), vR ad (Bx_168 231 la), vE ad (Bx_168 232 la), .ref (ad (20 + 2 * E1)), .ref (ad (21 + 2 * la))])) := ⟨_, rfl⟩
          have hP : va_P D vcl (fw n ad mem199) H := by rw [e_mem199]; exact hP
          have hD : va_D (Az sz) (fw n ad mem199) := fw_D hD
          have h_mem199 : mem199 ((20 + 2 * la)) = .inr (2, [.int (Bx_168 228 la), .int (Bx_168 229 la), .int (Bx_168 230 la), vR ad (Bx_168 231 la), vE ad (Bx_168 232 la), .ref (ad (20 + 2 * E1)), .ref (ad (21 + 2 * la))]) := by rw [e_mem199, va_up_self]
          have hh200 := (va_up_ne mem161 (.inr (2, [.int (Bx_168 228 la), .int (Bx_168 229 la), .int (Bx_168 230 la), vR ad (Bx_168 231 la), vE ad (Bx_168 232 la), .ref (ad (20 + 2 * E1)), .ref (ad (21 + 2 * la))])) (show (222 : Nat) ≠ (20 + 2 * la) by first | decide | assumption | omega)).trans h9_187
          rw [← e_mem199] at hh200
          have hh201 := (va_up_ne mem161 (.inr (2, [.int (Bx_168 228 la), .int (Bx_168 229 la), .int (Bx_168 230 la), vR ad (Bx_168 231 la), vE ad (Bx_168 232 la), .ref (ad (20 + 2 * E1)), .ref (ad (21 + 2 * la))])) (show (1 : Nat) ≠ (20 + 2 * la) by first | decide | assumption | omega)).trans h1_188
          rw [← e_mem199] at hh201
          have hh202 := (va_up_ne mem161 (.inr (2, [.int (Bx_168 228 la), .int (Bx_168 229 la), .int (Bx_168 230 la), vR ad (Bx_168 231 la), vE ad (Bx_168 232 la), .ref (ad (20 + 2 * E1)), .ref (ad (21 + 2 * la))])) (show (5 : Nat) ≠ (20 + 2 * la) by first | decide | assumption | omega)).trans h5_190
          rw [← e_mem199] at hh202
          have hh203 := (va_up_ne mem161 (.inr (2, [.int (Bx_168 228 la), .int (Bx_168 229 la), .int (Bx_168 230 la), vR ad (Bx_168 231 la), vE ad (Bx_168 232 la), .ref (ad (20 + 2 * E1)), .ref (ad (21 + 2 * la))])) (show (220 : Nat) ≠ (20 + 2 * la) by first | decide | assumption | omega)).trans h220_194
          rw [← e_mem199] at hh203
          have hrk204 : ∀ i9, i9 < R → mem199 (7 + i9) = mem (7 + i9) := fun i9 q9 => (show mem199 (7 + i9) = mem161 (7 + i9) by rw [e_mem199]; exact va_up_ne _ _ (by omega)).trans (hrk181 i9 q9)
          have hRX205 : RX cy ad lim (g182) (Rx164) (Ex165) (tox170) (nx169) m0 mem199 := by rw [e_mem199]; exact hRX178.el (by omega) (hRX178.1.mk (by omega) (hRX178.1.1.upEl (by omega) (fun _ => ⟨(rds179.2.1 la (by omega)).2.1.oR ad, (rds179.2.1 la (by omega)).2.2.1.oE ad (by omega), Or.inr ⟨E1, by omega, by omega, rfl⟩⟩)))
          have her206 : ER ad (Rx164) (Ex165) (va_up Bx_168 233 (upd (Bx_168 233) la (nI E1))) mem199 := rds179.2.1.next (by omega) (by omega) (by omega) h_mem199 (fun i9 q9 hi9 => by rw [e_mem199]; exact va_up_ne _ _ (by omega))
          have hsr207 : SR cy ad (Sx166) (Bx_168) mem199 := ⟨(show mem199 220 = mem161 220 by rw [e_mem199]; exact va_up_ne _ _ (by omega)).trans rds179.2.2.1.1, (show mem199 221 = mem161 221 by rw [e_mem199]; exact va_up_ne _ _ (by omega)).trans rds179.2.2.1.2⟩
          obtain ⟨ft208, h9_209⟩ := hRX205.2.1
          have h1_210 : mem199 1 = .inr (0, [.ref (ad 2), .int (nI Z)]) := (hRX205.1.2.2 1 (by omega)).trans hT.1
          have h2_211 : mem199 2 = .inl (cy 0, 240, .inl f) := (hRX205.1.2.2 2 (by omega)).trans hT.2.2
          have h5_212 := hRX205.1.1.2.1
          have hbd218 := hRX205.1.1.1
          obtain ⟨S213, g214, hS_215, h220_216, h221_217⟩ := hRX205.1.1.2.2.2.2.2.2
          refine lv_aload_n Bx.1 Bx.2.1 d_Rd_readAlternatives_61 rfl (lv_at hl 1 rfl) ?_
          refine f_getN Bx hP (by omega) h_mem199 rfl inEl 5 (by decide) kw_91 rfl rfl d_Rd_readAlternatives_62 ?_
          refine lv_astore_n (lv' := [(3, .ref (ad (20 + 2 * E1))), (4, .int (nI k9)), (2, .ref (ad (20 + 2 * Ec))), (0, .ref (ad 222)), (1, .int (4))]) Bx.1 Bx.2.1 d_Rd_readAlternatives_65 rfl hl (by decide) rfl (fun ls hl => ?_)
          refine lv_iinc (lv' := [(4, .int ((nI k9 + (1)))), (3, .ref (ad (20 + 2 * E1))), (2, .ref (ad (20 + 2 * Ec))), (0, .ref (ad 222)), (1, .int (4))]) Bx.1 Bx.2.1 d_Rd_readAlternatives_66 hl (k := 1) rfl rfl (by decide) rfl (fun ls hl => ?_)
          rw [show (nI k9 + (1) : Int32) = nI (k9 + 1) from nI_1 (k9)] at hl
          refine lv_goto Bx.1 Bx.2.1 d_Rd_readAlternatives_69 rfl ?_
          have hal3 := alt_step hal (by omega) hLK hlka (by omega) hcl rds179 (by omega) (by omega) (by rw [eg140, eg1]; exact go_sl h47) her206 hsr207
          exact ih107 mem199 (ax162) (ux163) (Rx164) (Ex165) (Sx166) (Ax167) ((va_up Bx_168 233 (upd (Bx_168 233) la (nI E1)))) (nx169) (tox170) (E1) (k9 + 1) _ _ _ (by have := hmeas108; omega) (by rw [← eg183]; exact hRX205) (⟨by omega, by omega, by omega, by omega, by omega⟩) (hal3) (hz104.trans htk176 (by omega)) (hnb180) (hrk204) hP hD hS (lv_sub hl [0, 1, 2, 3, 4] rfl)
  exact loop99 _ mem79 (ax42) (ux43) (Rx44) (Ex45) (Sx46) (Ax47) ((va_up Bx_48 232 (upd (Bx_48 232) Ec (nI (Ec + 1))))) (nx49) (tox50) (Ec + 1) (0) _ _ _ (Nat.lt_succ_self _) (by rw [← eg63]; exact hRX85) (⟨by omega, by omega, by omega, by omega, by omega⟩) (hal0) (htk56) (hnb60) (hrk84) hP hD hS (lv_sub hl [0, 1, 2, 3, 4] rfl)
set_option maxHeartbeats 4000000 in
set_option maxRecDepth 100000 in
theorem m_Rd_readBracket_3Y (l : Launch) {D : va_G} {cy : Nat → ClassId} {sz n : Nat} {ad : Nat → Nat} {mem : Nat → va_E} {Z a R Ec lim : Nat} {f T : Nat → Int32} {to : Nat → Int32} {nm : Nat → Int64} {m0 : Nat → va_E} {u S : Nat} {A Bw : Ro} {what oe en : Int32} (hlt : l.stackTraces = false) (hn : 224 ≤ n) (hT : TX cy ad Z f m0) (hf : ∀ k, k < Z → f k = T k) (hRX : RX cy ad lim a R Ec to nm m0 mem) (haB : a ≤ 300) (hER : ER ad R Ec Bw mem) (hSR : SR cy ad S Bw mem) (hSa : S ≤ a) (haZ : a < Z) (hwe : (what = 1 ∧ en = 41) ∨ (what = 2 ∧ en = 93)) (hLK : LKa Ec A) : NXr l D cy sz n ad y_Rd_readBracket c_Rd_readBracket 4 (some (.object "AbnfChart$Element")) ({ frames := 32, cells := 1, slots := 6, locals := 770 } : Room) mem [.ref (ad 222), .int (3), .int (en)] (fun r mem' => ∃ (la a1 u1 R1 E1 S1 : Nat) (A9 B9 : Ro) (nm1 : Nat → Int64) (to1 : Nat → Int32), r = ad (20 + 2 * Ec) ∧ Ec + 1 < E1 ∧ R ≤ R1 ∧ a + 1 < a1 ∧ gapF T Z a1 + 1 ≤ Z ∧ TOK R R1 to to1 ∧ (∀ i9, i9 < R → mem' (7 + i9) = mem (7 + i9)) ∧ RX cy ad lim (gapF T Z a1 + 1) R1 E1 to1 nm1 m0 mem' ∧ ALI cy ad T Z 4 (seqS T Z (gapF T Z (a + 1)) u R (Ec + 1) 4 (entA A 4 Ec what oe) nm) Ec R Ec S u (entA A 4 Ec what oe) Bw la a1 u1 R1 E1 S1 A9 B9 nm1 mem' ∧ hereF Z T (gapF T Z a1) = en ∧ entS T Z (a + 1) u R Ec 4 A nm what oe = some (gapF T Z (a + 1), u, R, Ec + 1, 4, (entA A 4 Ec what oe), nm, true)) (fun X mem' => ((X = cIA ∨ X = cIS) ∧ ∃ rc' ec' : Nat, RS cy ad lim rc' ec' m0 mem') ∧ (Fai T Z (entS T Z (a + 1) u R Ec 4 A nm what oe))) := by
  refine vx_ofW (cc := c_Rd_readBracket) (maxL := 4) (ret := (some (.object "AbnfChart$Element"))) (by decide) rfl ?_
  intro p e s m args below meth c s₁ B hml hno hv
  obtain ⟨rfl, E, hP, hD⟩ := hv
  have hx := B.exec
  have hb := B.bytes
  have hr := B.returns
  have hlocks := B.notSynchronized
  have Bx : MB p s m [.ref (ad 222), .int (3), .int (en)].toArray c c_Rd_readBracket "AbnfChart$Reader" D cy := ⟨hx, hb, tb_all (atoms_spec B.pre) E.2.1, findClass_of_methodNamed B.named, E.1⟩
  have hS : va_S (Az sz) s.heap s.heap [] := va_S.rf
  have hl := lv_entry ([.ref (ad 222), .int (3), .int (en)]) (n := 4) (Nat.le_of_ble_eq_true rfl)
  rw [lg_entry_eq]
  generalize (lg_sl ([.ref (ad 222), .int (3), .int (en)]) ++ List.replicate (4 - (lg_sl ([.ref (ad 222), .int (3), .int (en)])).length) Slot.unset).toArray = ls at hl ⊢
  have hl : lv_has ls 4 [(0, .ref (ad 222)), (1, .int (3)), (2, .int (en))] := hl
  have hZ9 := hT.2.1
  have hbd9 := hRX.1.1.1
  have hfr0 : ∀ i, 7 ≤ i ∧ i < 222 → mem i = mem i := fun _ _ => rfl
  have hrk0 : ∀ i9, i9 < R → mem (7 + i9) = mem (7 + i9) := fun _ _ => rfl
  obtain ⟨ft1, h9_2⟩ := hRX.2.1
  have h1_3 : mem 1 = .inr (0, [.ref (ad 2), .int (nI Z)]) := (hRX.1.2.2 1 (by omega)).trans hT.1
  have h2_4 : mem 2 = .inl (cy 0, 240, .inl f) := (hRX.1.2.2 2 (by omega)).trans hT.2.2
  have h5_5 := hRX.1.1.2.1
  have hbd11 := hRX.1.1.1
  obtain ⟨S6, g7, hS_8, h220_9, h221_10⟩ := hRX.1.1.2.2.2.2.2.2
  refine lv_aload_n Bx.1 Bx.2.1 d_Rd_readBracket_0 rfl (lv_at hl 0 rfl) ?_
  refine lv_iload_n Bx.1 Bx.2.1 d_Rd_readBracket_1 rfl (lv_at hl 1 rfl) ?_
  refine lv_bipush (v := 6) Bx.1 Bx.2.1 d_Rd_readBracket_2 (by decide) ?_
  refine lv_icmp_ge Bx.1 Bx.2.1 d_Rd_readBracket_4 rfl (fun hb12 => ?_) (fun hb12 => ?_)
  · exact absurd hb12 (by decide)
  · refine lv_iconst (v := 1) Bx.1 Bx.2.1 d_Rd_readBracket_7 (by decide) ?_
    refine lv_goto Bx.1 Bx.2.1 d_Rd_readBracket_8 rfl ?_
    refine lv_aload_n Bx.1 Bx.2.1 d_Rd_readBracket_12 rfl (lv_at hl 0 rfl) ?_
    refine f_get Bx hP (by omega) h9_2 rfl inRd 2 (by decide) kw_146 rfl rfl d_Rd_readBracket_13 ?_
    refine f_xVv (na := 2) (As := [.int (1), .int (nI a)]) (rest := []) Bx hml E hP hD hS (by omega) h9_2 rfl (m_Rd_needRoomX l hlt hn hT hf hRX (by omega)) kw_383 kw_385 sel_Rd_needRoom kw_6 kw_386 (by decide +kernel) ⟨rfl, rfl⟩ ⟨Nat.le_of_ble_eq_true rfl, Nat.le_of_ble_eq_true rfl⟩ rfl hl.1 (Nat.le_of_ble_eq_true rfl) d_Rd_readBracket_16 ⟨Nat.le_of_ble_eq_true rfl, Nat.le_of_ble_eq_true rfl⟩ (fun X ce q9 memx H locs hx9 hP hS g1 g2 g3 => f_out hlocks hno hP hS g1 g2 g3 ⟨Nat.le_of_ble_eq_true rfl, Nat.le_of_ble_eq_true rfl⟩ ⟨hx9.1, absurd hx9.2 (by decide)⟩) (fun mem14 H locs hq hP hS => ?_)
    have hD : va_D (Az sz) (fw n ad mem14) := fw_D hD
    obtain ⟨hqe, hg15⟩ := hq
    rw [hqe] at hP hD
    refine lv_aload_n Bx.1 Bx.2.1 d_Rd_readBracket_19 rfl (lv_at hl 0 rfl) ?_
    refine lv_dup Bx.1 Bx.2.1 d_Rd_readBracket_20 rfl ?_
    refine f_get Bx hP (by omega) h9_2 rfl inRd 2 (by decide) kw_146 rfl rfl d_Rd_readBracket_21 ?_
    refine lv_iconst (v := 1) Bx.1 Bx.2.1 d_Rd_readBracket_24 (by decide) ?_
    refine lv_iadd Bx.1 Bx.2.1 d_Rd_readBracket_25 ?_
    rw [show nI a + 1 = nI (a + 1) from nI_add (a) (1)]
    refine f_put Bx hP hD hS (by omega) h9_2 rfl inRd tyRd okRd nmRd 2 (by decide) kw_146 rfl rfl rfl rfl (Nat.le_of_ble_eq_true rfl) d_Rd_readBracket_26 (fun H locs hP hS => ?_)
    obtain ⟨mem16, e_mem16⟩ : ∃ z, z = va_up mem (222) (.inr (4, [.ref (ad 1), .ref (ad 5), .int (nI (a + 1)), .int (ft1)])) := ⟨_, rfl⟩
    have hP : va_P D vcl (fw n ad mem16) H := by rw [e_mem16]; exact hP
    have hD : va_D (Az sz) (fw n ad mem16) := fw_D hD
    have h_mem16 : mem16 (222) = .inr (4, [.ref (ad 1), .ref (ad 5), .int (nI (a + 1)), .int (ft1)]) := by rw [e_mem16, va_up_self]
    have hh17 := (va_up_ne mem (.inr (4, [.ref (ad 1), .ref (ad 5), .int (nI (a + 1)), .int (ft1)])) (show (1 : Nat) ≠ 222 by first | decide | assumption | omega)).trans h1_3
    rw [← e_mem16] at hh17
    have hh18 := (va_up_ne mem (.inr (4, [.ref (ad 1), .ref (ad 5), .int (nI (a + 1)), .int (ft1)])) (show (5 : Nat) ≠ 222 by first | decide | assumption | omega)).trans h5_5
    rw [← e_mem16] at hh18
    have hh19 := (va_up_ne mem (.inr (4, [.ref (ad 1), .ref (ad 5), .int (nI (a + 1)), .int (ft1)])) (show (220 : Nat) ≠ 222 by first | decide | assumption | omega)).trans h220_9
    rw [← e_mem16] at hh19
    have hfr20 : ∀ i, 7 ≤ i ∧ i < 222 → mem16 i = mem i := fun i q => (show mem16 i = mem i by rw [e_mem16]; exact va_up_ne _ _ (by omega)).trans (hfr0 i q)
    have hrk21 : ∀ i9, i9 < R → mem16 (7 + i9) = mem (7 + i9) := fun i9 q9 => (show mem16 (7 + i9) = mem (7 + i9) by rw [e_mem16]; exact va_up_ne _ _ (by omega)).trans (hrk0 i9 q9)
    have hRX22 : RX cy ad lim (a + 1) (R) (Ec) (to) (nm) m0 mem16 := by rw [e_mem16]; exact hRX.at
    refine lv_aload_n Bx.1 Bx.2.1 d_Rd_readBracket_29 rfl (lv_at hl 0 rfl) ?_
    refine f_callVi (na := 0) (As := []) (rest := []) Bx hml E hP hD hS (by omega) h_mem16 rfl (m_Rd_readGapY l hn hT hf hRX22 (by omega) (by omega)) kw_397 kw_399 sel_Rd_readGap kw_6 kw_400 (by decide +kernel) ⟨rfl, rfl⟩ ⟨Nat.le_of_ble_eq_true rfl, Nat.le_of_ble_eq_true rfl⟩ rfl hl.1 (Nat.le_of_ble_eq_true rfl) d_Rd_readBracket_30 ⟨Nat.le_of_ble_eq_true rfl, Nat.le_of_ble_eq_true rfl⟩ (fun r23 mem24 H locs hq hP hS => ?_)
    have hD : va_D (Az sz) (fw n ad mem24) := fw_D hD
    obtain ⟨g25, eg26⟩ : ∃ z, z = gapF T Z (a + 1) := ⟨_, rfl⟩
    rw [← eg26] at hq
    obtain ⟨hRX27, hgc28, hfa29⟩ := hq
    have hg30 : a + 1 ≤ g25 := by rw [eg26]; exact gapF_ge T Z _
    have hg31 : g25 ≤ Z := by rw [eg26]; exact gapF_le T (by omega)
    have hrk32 : ∀ i9, i9 < R → mem24 (7 + i9) = mem (7 + i9) := fun i9 q9 => (hfa29 (7 + i9) (by omega)).trans (hrk21 i9 q9)
    have hfr33 : ∀ i, 7 ≤ i ∧ i < 222 → mem24 i = mem i := fun i q => (hfa29 i (by omega)).trans (hfr20 i q)
    obtain ⟨ft34, h9_35⟩ := hRX27.2.1
    have h1_36 : mem24 1 = .inr (0, [.ref (ad 2), .int (nI Z)]) := (hRX27.1.2.2 1 (by omega)).trans hT.1
    have h2_37 : mem24 2 = .inl (cy 0, 240, .inl f) := (hRX27.1.2.2 2 (by omega)).trans hT.2.2
    have h5_38 := hRX27.1.1.2.1
    have hbd44 := hRX27.1.1.1
    obtain ⟨S39, g40, hS_41, h220_42, h221_43⟩ := hRX27.1.1.2.2.2.2.2.2
    refine lv_pop Bx.1 Bx.2.1 d_Rd_readBracket_33 rfl ?_
    refine lv_aload_n Bx.1 Bx.2.1 d_Rd_readBracket_34 rfl (lv_at hl 0 rfl) ?_
    refine lv_iload_n Bx.1 Bx.2.1 d_Rd_readBracket_35 rfl (lv_at hl 1 rfl) ?_
    refine lv_iconst (v := 1) Bx.1 Bx.2.1 d_Rd_readBracket_36 (by decide) ?_
    refine lv_iadd Bx.1 Bx.2.1 d_Rd_readBracket_37 ?_
    rw [show (3 + 1 : Int32) = 4 from rfl]
    have her45 : ER ad R Ec Bw mem24 := hER.fr (Nat.le_refl _) (fun i9 hi9 => hfr33 (20 + 2 * i9) (by omega))
    have hsr46 : SR cy ad S Bw mem24 := ⟨(hfr33 220 (by omega)).trans hSR.1, (hfr33 221 (by omega)).trans hSR.2⟩
    refine f_xVr (na := 1) (As := [.int (4)]) (rest := []) Bx hml E hP hD hS (by omega) h9_35 rfl (m_Rd_readAlternatives_4Y l hlt hn hT hf hRX27 (by omega) (u := u) (A := (entA A 4 Ec what oe)) her45 hsr46 (by omega) (by omega) (ent_lka hLK) (cq := Ec) entA_f.2.2.2.2.2.2.2.1 (Nat.le_refl _) (by rw [entA_f.2.2.2.2.2.2.1, upd_self])) kw_405 kw_407 sel_Rd_readAlternatives kw_6 kw_408 (by decide +kernel) ⟨rfl, rfl⟩ ⟨Nat.le_of_ble_eq_true rfl, Nat.le_of_ble_eq_true rfl⟩ rfl hl.1 (Nat.le_of_ble_eq_true rfl) d_Rd_readBracket_38 ⟨Nat.le_of_ble_eq_true rfl, Nat.le_of_ble_eq_true rfl⟩ (fun X ce q9 memx H locs hx9 hP hS g1 g2 g3 => f_out hlocks hno hP hS g1 g2 g3 ⟨Nat.le_of_ble_eq_true rfl, Nat.le_of_ble_eq_true rfl⟩ ⟨hx9.1, hx9.2.elim (fun z => Or.inl (entS_no (Or.inl (by rw [← eg26]; exact z)))) (fun z => z.elim (fun z => Or.inl (entS_no (Or.inr z))) (fun z => Fai.br0 (by rw [ent_ok (by rw [← eg26]; exact z.1) z.2.1, ← eg26]) z.2.2))⟩) (fun r47 mem48 H locs hq hP hS => ?_)
    have hD : va_D (Az sz) (fw n ad mem48) := fw_D hD
    obtain ⟨la49, ax50, ux51, Rx52, Ex53, Sx54, Ax55, Bx_56, nx57, tox58, hr959, h160, h261, h362, h463, htk64, hrk65, hRX66, ali67, hbg68, hE69, h4770, hnb71⟩ := hq
    subst hr959
    have hrk72 : ∀ i9, i9 < R → mem48 (7 + i9) = mem (7 + i9) := fun i9 q9 => (hrk65 i9 (by omega)).trans (hrk32 i9 q9)
    obtain ⟨g73, eg74⟩ : ∃ z, z = gapF T Z ax50 := ⟨_, rfl⟩
    have hg75 : ax50 ≤ g73 := by rw [eg74]; exact gapF_ge T Z _
    have hg76 : g73 ≤ Z := by rw [eg74]; exact gapF_le T (by omega)
    rw [← eg74] at hRX66
    obtain ⟨ft77, h9_78⟩ := hRX66.2.1
    have h1_79 : mem48 1 = .inr (0, [.ref (ad 2), .int (nI Z)]) := (hRX66.1.2.2 1 (by omega)).trans hT.1
    have h2_80 : mem48 2 = .inl (cy 0, 240, .inl f) := (hRX66.1.2.2 2 (by omega)).trans hT.2.2
    have h5_81 := hRX66.1.1.2.1
    have hbd87 := hRX66.1.1.1
    obtain ⟨S82, g83, hS_84, h220_85, h221_86⟩ := hRX66.1.1.2.2.2.2.2.2
    have hbd88 := hRX66.1.1.1
    have hent : entS T Z (a + 1) u R Ec 4 A nm what oe = some (g25, u, R, Ec + 1, 4, (entA A 4 Ec what oe), nm, true) := by rw [ent_ok (by rw [← eg26]; exact hbg68) hE69, ← eg26]
    have hA5 : Ax55 235 4 = what := by
      obtain ⟨c1, ho, hg, hk, hs⟩ := ali67.1
      rw [hk 4 (by omega), entA_5, upd_self]
    refine lv_astore_n (lv' := [(3, .ref (ad (20 + 2 * Ec))), (0, .ref (ad 222)), (1, .int (3)), (2, .int (en))]) Bx.1 Bx.2.1 d_Rd_readBracket_41 rfl hl (by decide) rfl (fun ls hl => ?_)
    refine lv_aload_n Bx.1 Bx.2.1 d_Rd_readBracket_42 rfl (lv_at hl 1 rfl) ?_
    refine lv_aload_n Bx.1 Bx.2.1 d_Rd_readBracket_43 rfl (lv_at hl 1 rfl) ?_
    refine f_callVi (na := 0) (As := []) (rest := [.ref (ad 222)]) Bx hml E hP hD hS (by omega) h9_78 rfl (m_Rd_peekX l hn hT hf hRX66 (by omega)) kw_353 kw_355 sel_Rd_peek kw_6 kw_356 (by decide +kernel) ⟨rfl, rfl⟩ ⟨Nat.le_of_ble_eq_true rfl, Nat.le_of_ble_eq_true rfl⟩ rfl hl.1 (Nat.le_of_ble_eq_true rfl) d_Rd_readBracket_44 ⟨Nat.le_of_ble_eq_true rfl, Nat.le_of_ble_eq_true rfl⟩ (fun r90 mem91 H locs hq hP hS => ?_)
    have hD : va_D (Az sz) (fw n ad mem91) := fw_D hD
    obtain ⟨hqe, hpk89⟩ := hq
    rw [hqe] at hP hD
    subst hpk89
    refine lv_iload_n Bx.1 Bx.2.1 d_Rd_readBracket_47 rfl (lv_at hl 3 rfl) ?_
    refine lv_icmp_ne Bx.1 Bx.2.1 d_Rd_readBracket_48 rfl (fun hb93 => ?_) (fun hb93 => ?_)
    · refine lv_iconst (v := 0) Bx.1 Bx.2.1 d_Rd_readBracket_55 (by decide) ?_
      refine lv_aload_n Bx.1 Bx.2.1 d_Rd_readBracket_56 rfl (lv_at hl 1 rfl) ?_
      refine f_get Bx hP (by omega) h9_78 rfl inRd 2 (by decide) kw_146 rfl rfl d_Rd_readBracket_57 ?_
      refine f_xVv (na := 2) (As := [.int (0), .int (nI g73)]) (rest := []) Bx hml E hP hD hS (by omega) h9_78 rfl (m_Rd_needReadableX l hlt hn hT hf hRX66 (by omega)) kw_360 kw_362 sel_Rd_needReadable kw_6 kw_363 (by decide +kernel) ⟨rfl, rfl⟩ ⟨Nat.le_of_ble_eq_true rfl, Nat.le_of_ble_eq_true rfl⟩ rfl hl.1 (Nat.le_of_ble_eq_true rfl) d_Rd_readBracket_60 ⟨Nat.le_of_ble_eq_true rfl, Nat.le_of_ble_eq_true rfl⟩ (fun X ce q9 memx H locs hx9 hP hS g1 g2 g3 => f_out hlocks hno hP hS g1 g2 g3 ⟨Nat.le_of_ble_eq_true rfl, Nat.le_of_ble_eq_true rfl⟩ ⟨hx9.1, Fai.br1 hent ali67.1.suc (br_no hwe hA5 (by rw [← eg74]; exact hb93) h4770 hnb71)⟩) (fun mem95 H locs hq hP hS => ?_)
      have hD : va_D (Az sz) (fw n ad mem95) := fw_D hD
      obtain ⟨hqe, hg96⟩ := hq
      rw [hqe] at hP hD
      exact absurd rfl hg96
    · refine lv_iconst (v := 1) Bx.1 Bx.2.1 d_Rd_readBracket_51 (by decide) ?_
      refine lv_goto Bx.1 Bx.2.1 d_Rd_readBracket_52 rfl ?_
      refine lv_aload_n Bx.1 Bx.2.1 d_Rd_readBracket_56 rfl (lv_at hl 1 rfl) ?_
      refine f_get Bx hP (by omega) h9_78 rfl inRd 2 (by decide) kw_146 rfl rfl d_Rd_readBracket_57 ?_
      refine f_xVv (na := 2) (As := [.int (1), .int (nI g73)]) (rest := []) Bx hml E hP hD hS (by omega) h9_78 rfl (m_Rd_needReadableX l hlt hn hT hf hRX66 (by omega)) kw_360 kw_362 sel_Rd_needReadable kw_6 kw_363 (by decide +kernel) ⟨rfl, rfl⟩ ⟨Nat.le_of_ble_eq_true rfl, Nat.le_of_ble_eq_true rfl⟩ rfl hl.1 (Nat.le_of_ble_eq_true rfl) d_Rd_readBracket_60 ⟨Nat.le_of_ble_eq_true rfl, Nat.le_of_ble_eq_true rfl⟩ (fun X ce q9 memx H locs hx9 hP hS g1 g2 g3 => f_out hlocks hno hP hS g1 g2 g3 ⟨Nat.le_of_ble_eq_true rfl, Nat.le_of_ble_eq_true rfl⟩ ⟨hx9.1, absurd hx9.2 (by decide)⟩) (fun mem98 H locs hq hP hS => ?_)
      have hD : va_D (Az sz) (fw n ad mem98) := fw_D hD
      obtain ⟨hqe, hg99⟩ := hq
      rw [hqe] at hP hD
      refine lv_aload_n Bx.1 Bx.2.1 d_Rd_readBracket_63 rfl (lv_at hl 1 rfl) ?_
      refine lv_dup Bx.1 Bx.2.1 d_Rd_readBracket_64 rfl ?_
      refine f_get Bx hP (by omega) h9_78 rfl inRd 2 (by decide) kw_146 rfl rfl d_Rd_readBracket_65 ?_
      refine lv_iconst (v := 1) Bx.1 Bx.2.1 d_Rd_readBracket_68 (by decide) ?_
      refine lv_iadd Bx.1 Bx.2.1 d_Rd_readBracket_69 ?_
      rw [show nI g73 + 1 = nI (g73 + 1) from nI_add (g73) (1)]
      refine f_put Bx hP hD hS (by omega) h9_78 rfl inRd tyRd okRd nmRd 2 (by decide) kw_146 rfl rfl rfl rfl (Nat.le_of_ble_eq_true rfl) d_Rd_readBracket_70 (fun H locs hP hS => ?_)
      obtain ⟨mem100, e_mem100⟩ : ∃ z, z = va_up mem48 (222) (.inr (4, [.ref (ad 1), .ref (ad 5), .int (nI (g73 + 1)), .int (ft77)])) := ⟨_, rfl⟩
      have hP : va_P D vcl (fw n ad mem100) H := by rw [e_mem100]; exact hP
      have hD : va_D (Az sz) (fw n ad mem100) := fw_D hD
      have h_mem100 : mem100 (222) = .inr (4, [.ref (ad 1), .ref (ad 5), .int (nI (g73 + 1)), .int (ft77)]) := by rw [e_mem100, va_up_self]
      have hh101 := (va_up_ne mem48 (.inr (4, [.ref (ad 1), .ref (ad 5), .int (nI (g73 + 1)), .int (ft77)])) (show (1 : Nat) ≠ 222 by first | decide | assumption | omega)).trans h1_79
      rw [← e_mem100] at hh101
      have hh102 := (va_up_ne mem48 (.inr (4, [.ref (ad 1), .ref (ad 5), .int (nI (g73 + 1)), .int (ft77)])) (show (5 : Nat) ≠ 222 by first | decide | assumption | omega)).trans h5_81
      rw [← e_mem100] at hh102
      have hh103 := (va_up_ne mem48 (.inr (4, [.ref (ad 1), .ref (ad 5), .int (nI (g73 + 1)), .int (ft77)])) (show (220 : Nat) ≠ 222 by first | decide | assumption | omega)).trans h220_85
      rw [← e_mem100] at hh103
      have hrk104 : ∀ i9, i9 < R → mem100 (7 + i9) = mem (7 + i9) := fun i9 q9 => (show mem100 (7 + i9) = mem48 (7 + i9) by rw [e_mem100]; exact va_up_ne _ _ (by omega)).trans (hrk72 i9 q9)
      have her105 : ER ad (Rx52) (Ex53) (Bx_56) mem100 := ali67.2.1.fr (Nat.le_refl _) (fun i9 hi9 => by rw [e_mem100]; exact va_up_ne _ _ (by omega))
      have hsr106 : SR cy ad (Sx54) (Bx_56) mem100 := ⟨(show mem100 220 = _ from by rw [e_mem100]; exact va_up_ne _ _ (by omega)).trans ali67.2.2.1.1, (show mem100 221 = _ from by rw [e_mem100]; exact va_up_ne _ _ (by omega)).trans ali67.2.2.1.2⟩
      have hRX107 : RX cy ad lim (g73 + 1) (Rx52) (Ex53) (tox58) (nx57) m0 mem100 := by rw [e_mem100]; exact hRX66.at
      refine lv_aload_n Bx.1 Bx.2.1 d_Rd_readBracket_73 rfl (lv_at hl 0 rfl) ?_
      have hal9 : ALI cy ad T Z 4 (seqS T Z (gapF T Z (a + 1)) u R (Ec + 1) 4 (entA A 4 Ec what oe) nm) Ec R Ec S u (entA A 4 Ec what oe) Bw la49 ax50 ux51 Rx52 Ex53 Sx54 Ax55 Bx_56 nx57 mem100 := by rw [← eg26]; exact ⟨ali67.1, her105, hsr106, ali67.2.2.2⟩
      exact x_aret hx hb hlocks hr (⟨la49, ax50, ux51, Rx52, Ex53, Sx54, Ax55, Bx_56, nx57, tox58, rfl, by omega, by omega, by omega, by rw [← eg74]; have := br_lt hwe hb93; omega, htk64, hrk104, by rw [← eg74]; exact hRX107, hal9, by rw [← eg74]; exact hb93, by rw [← eg26]; exact hent⟩) hP hS d_Rd_readBracket_74
set_option maxHeartbeats 4000000 in
set_option maxRecDepth 100000 in
theorem m_Rd_readOption_3Y (l : Launch) {D : va_G} {cy : Nat → ClassId} {sz n : Nat} {ad : Nat → Nat} {mem : Nat → va_E} {Z a R Ec lim : Nat} {f T : Nat → Int32} {to : Nat → Int32} {nm : Nat → Int64} {m0 : Nat → va_E} {u S : Nat} {A Bw : Ro} (hlt : l.stackTraces = false) (hn : 224 ≤ n) (hT : TX cy ad Z f m0) (hf : ∀ k, k < Z → f k = T k) (hRX : RX cy ad lim a R Ec to nm m0 mem) (haB : a ≤ 300) (hER : ER ad R Ec Bw mem) (hSR : SR cy ad S Bw mem) (hSa : S ≤ a) (haZ : a < Z) (hLK : LKa Ec A) (hF : FRM A 3 Ec) (c91 : hereF Z T a = 91) : NXr l D cy sz n ad y_Rd_readOption c_Rd_readOption 3 (some (.object "AbnfChart$Element")) ({ frames := 33, cells := 1, slots := 6, locals := 793 } : Room) mem [.ref (ad 222), .int (3)] (fun r mem' => ∃ (k' a' u' R' E' S' : Nat) (A' Bw' : Ro) (nm' : Nat → Int64) (to' : Nat → Int32), r = ad (20 + 2 * k') ∧ Ec ≤ k' ∧ k' < E' ∧ R ≤ R' ∧ a < a' ∧ a' ≤ Z ∧ TOK R R' to to' ∧ (∀ i9, i9 < R → mem' (7 + i9) = mem (7 + i9)) ∧ RX cy ad lim a' R' E' to' nm' m0 mem' ∧ RDS cy ad T Z 3 (singS T Z a u R Ec 3 A nm) (PSf A 3) R Ec S u A Bw k' a' u' R' E' S' A' Bw' nm' mem' ∧ A' 238 3 = A 238 3) (fun X mem' => ((X = cIA ∨ X = cIS) ∧ ∃ rc' ec' : Nat, RS cy ad lim rc' ec' m0 mem') ∧ (Fai T Z (singS T Z a u R Ec 3 A nm))) := by
  refine vx_ofW (cc := c_Rd_readOption) (maxL := 3) (ret := (some (.object "AbnfChart$Element"))) (by decide) rfl ?_
  intro p e s m args below meth c s₁ B hml hno hv
  obtain ⟨rfl, E, hP, hD⟩ := hv
  have hx := B.exec
  have hb := B.bytes
  have hr := B.returns
  have hlocks := B.notSynchronized
  have Bx : MB p s m [.ref (ad 222), .int (3)].toArray c c_Rd_readOption "AbnfChart$Reader" D cy := ⟨hx, hb, tb_all (atoms_spec B.pre) E.2.1, findClass_of_methodNamed B.named, E.1⟩
  have hS : va_S (Az sz) s.heap s.heap [] := va_S.rf
  have hl := lv_entry ([.ref (ad 222), .int (3)]) (n := 3) (Nat.le_of_ble_eq_true rfl)
  rw [lg_entry_eq]
  generalize (lg_sl ([.ref (ad 222), .int (3)]) ++ List.replicate (3 - (lg_sl ([.ref (ad 222), .int (3)])).length) Slot.unset).toArray = ls at hl ⊢
  have hl : lv_has ls 3 [(0, .ref (ad 222)), (1, .int (3))] := hl
  have hZ9 := hT.2.1
  have hbd9 := hRX.1.1.1
  have hfr0 : ∀ i, 7 ≤ i ∧ i < 222 ∧ i ≠ 20 + 2 * Ec → mem i = mem i := fun _ _ => rfl
  have hrk0 : ∀ i9, i9 < R → mem (7 + i9) = mem (7 + i9) := fun _ _ => rfl
  obtain ⟨ft1, h9_2⟩ := hRX.2.1
  have h1_3 : mem 1 = .inr (0, [.ref (ad 2), .int (nI Z)]) := (hRX.1.2.2 1 (by omega)).trans hT.1
  have h2_4 : mem 2 = .inl (cy 0, 240, .inl f) := (hRX.1.2.2 2 (by omega)).trans hT.2.2
  have h5_5 := hRX.1.1.2.1
  have hbd11 := hRX.1.1.1
  obtain ⟨S6, g7, hS_8, h220_9, h221_10⟩ := hRX.1.1.2.2.2.2.2.2
  refine lv_aload_n Bx.1 Bx.2.1 d_Rd_readOption_0 rfl (lv_at hl 0 rfl) ?_
  refine lv_iconst (v := 3) Bx.1 Bx.2.1 d_Rd_readOption_1 (by decide) ?_
  refine lv_aload_n Bx.1 Bx.2.1 d_Rd_readOption_2 rfl (lv_at hl 0 rfl) ?_
  refine f_get Bx hP (by omega) h9_2 rfl inRd 2 (by decide) kw_146 rfl rfl d_Rd_readOption_3 ?_
  refine f_xVr (na := 2) (As := [.int (3), .int (nI a)]) (rest := []) Bx hml E hP hD hS (by omega) h9_2 rfl (m_Rd_addElementY l hlt hn hT hf hRX (by omega)) kw_419 kw_421 sel_Rd_addElement kw_6 kw_422 (by decide +kernel) ⟨rfl, rfl⟩ ⟨Nat.le_of_ble_eq_true rfl, Nat.le_of_ble_eq_true rfl⟩ rfl hl.1 (Nat.le_of_ble_eq_true rfl) d_Rd_readOption_6 ⟨Nat.le_of_ble_eq_true rfl, Nat.le_of_ble_eq_true rfl⟩ (fun X ce q9 memx H locs hx9 hP hS g1 g2 g3 => f_out hlocks hno hP hS g1 g2 g3 ⟨Nat.le_of_ble_eq_true rfl, Nat.le_of_ble_eq_true rfl⟩ ⟨hx9.1, Or.inl (sing_o0 (l91 c91).1 c91 (Or.inr hx9.2))⟩) (fun r12 mem13 H locs hq hP hS => ?_)
  have hD : va_D (Az sz) (fw n ad mem13) := fw_D hD
  obtain ⟨hr914, hec15, hRX16, hcl17, hfa18⟩ := hq
  subst hr914
  have hrk19 : ∀ i9, i9 < R → mem13 (7 + i9) = mem (7 + i9) := fun i9 q9 => (hfa18 (7 + i9) (by omega)).trans (hrk0 i9 q9)
  have hfr20 : ∀ i, 7 ≤ i ∧ i < 222 ∧ i ≠ 20 + 2 * Ec → mem13 i = mem i := fun i q => (hfa18 i (by omega)).trans (hfr0 i q)
  obtain ⟨ft21, h9_22⟩ := hRX16.2.1
  have h1_23 : mem13 1 = .inr (0, [.ref (ad 2), .int (nI Z)]) := (hRX16.1.2.2 1 (by omega)).trans hT.1
  have h2_24 : mem13 2 = .inl (cy 0, 240, .inl f) := (hRX16.1.2.2 2 (by omega)).trans hT.2.2
  have h5_25 := hRX16.1.1.2.1
  have hbd31 := hRX16.1.1.1
  obtain ⟨S26, g27, hS_28, h220_29, h221_30⟩ := hRX16.1.1.2.2.2.2.2.2
  obtain ⟨ft32, h9_33⟩ := hRX16.2.1
  have h1_34 : mem13 1 = .inr (0, [.ref (ad 2), .int (nI Z)]) := (hRX16.1.2.2 1 (by omega)).trans hT.1
  have h2_35 : mem13 2 = .inl (cy 0, 240, .inl f) := (hRX16.1.2.2 2 (by omega)).trans hT.2.2
  have h5_36 := hRX16.1.1.2.1
  have hbd42 := hRX16.1.1.1
  obtain ⟨S37, g38, hS_39, h220_40, h221_41⟩ := hRX16.1.1.2.2.2.2.2.2
  refine lv_astore_n (lv' := [(2, .ref (ad (20 + 2 * Ec))), (0, .ref (ad 222)), (1, .int (3))]) Bx.1 Bx.2.1 d_Rd_readOption_9 rfl hl (by decide) rfl (fun ls hl => ?_)
  refine lv_aload_n Bx.1 Bx.2.1 d_Rd_readOption_10 rfl (lv_at hl 0 rfl) ?_
  refine lv_aload_n Bx.1 Bx.2.1 d_Rd_readOption_11 rfl (lv_at hl 1 rfl) ?_
  refine lv_iload_n Bx.1 Bx.2.1 d_Rd_readOption_12 rfl (lv_at hl 2 rfl) ?_
  refine lv_bipush (v := 93) Bx.1 Bx.2.1 d_Rd_readOption_13 (by decide) ?_
  have her43 : ER ad R (Ec + 1) (bwN Bw Ec 3 (0) (0) (-1) (-1) (-1) (Bw 234)) mem13 := hER.new (Nat.le_refl _) (by rw [vR_m]; exact hcl17) (Or.inl rfl) (fun i9 hi9 => hfr20 (20 + 2 * i9) (by omega))
  have hsr44 : SR cy ad S (bwN Bw Ec 3 (0) (0) (-1) (-1) (-1) (Bw 234)) mem13 := ⟨(hfr20 220 (by omega)).trans hSR.1, (hfr20 221 (by omega)).trans hSR.2⟩
  have hE9 := hec15
  refine f_xVr (na := 2) (As := [.int (3), .int (93)]) (rest := [.ref (ad (20 + 2 * Ec))]) Bx hml E hP hD hS (by omega) h9_33 rfl (m_Rd_readBracket_3Y l hlt hn hT hf hRX16 (by omega) (u := u) (A := elA A Ec 3) (what := 2) (oe := nI Ec) her43 hsr44 (by omega) (by omega) (Or.inr ⟨rfl, rfl⟩) (elA_lka hLK)) kw_447 kw_449 sel_Rd_readBracket kw_6 kw_450 (by decide +kernel) ⟨rfl, rfl⟩ ⟨Nat.le_of_ble_eq_true rfl, Nat.le_of_ble_eq_true rfl⟩ rfl hl.1 (Nat.le_of_ble_eq_true rfl) d_Rd_readOption_15 ⟨Nat.le_of_ble_eq_true rfl, Nat.le_of_ble_eq_true rfl⟩ (fun X ce q9 memx H locs hx9 hP hS g1 g2 g3 => f_out hlocks hno hP hS g1 g2 g3 ⟨Nat.le_of_ble_eq_true rfl, Nat.le_of_ble_eq_true rfl⟩ ⟨hx9.1, hx9.2.eq (sing_op (l91 c91).1 c91 (by omega) hE9)⟩) (fun r45 mem46 H locs hq hP hS => ?_)
  have hD : va_D (Az sz) (fw n ad mem46) := fw_D hD
  obtain ⟨la47, ax48, ux49, Rx50, Ex51, Sx52, Ax53, Bx_54, nx55, tox56, hr957, h158, h259, h360, h461, htk62, hrk63, hRX64, ali65, hh66, hent67⟩ := hq
  subst hr957
  have hrk68 : ∀ i9, i9 < R → mem46 (7 + i9) = mem (7 + i9) := fun i9 q9 => (hrk63 i9 (by omega)).trans (hrk19 i9 q9)
  obtain ⟨ft69, h9_70⟩ := hRX64.2.1
  have h1_71 : mem46 1 = .inr (0, [.ref (ad 2), .int (nI Z)]) := (hRX64.1.2.2 1 (by omega)).trans hT.1
  have h2_72 : mem46 2 = .inl (cy 0, 240, .inl f) := (hRX64.1.2.2 2 (by omega)).trans hT.2.2
  have h5_73 := hRX64.1.1.2.1
  have hbd79 := hRX64.1.1.1
  obtain ⟨S74, g75, hS_76, h220_77, h221_78⟩ := hRX64.1.1.2.2.2.2.2.2
  have hbd80 := hRX64.1.1.1
  have hce81 := (ali65.2.1 Ec (by omega)).1
  refine f_putN Bx hP hD hS (by omega) hce81 rfl inEl tyEl okEl nmEl 4 (by decide) kw_87 rfl rfl rfl rfl (Nat.le_of_ble_eq_true rfl) d_Rd_readOption_18 (fun H locs hP hS => ?_)
  obtain ⟨mem82, e_mem82⟩ : ∃ z, z = va_up mem46 ((20 + 2 * Ec)) (.inr (2, [.int (Bx_54 228 Ec), .int (Bx_54 229 Ec), .int (Bx_54 230 Ec), vR ad (Bx_54 231 Ec), .ref (ad (20 + 2 * (Ec + 1))), vE ad (Bx_54 233 Ec), .ref (ad (21 + 2 * Ec))])) := ⟨_, rfl⟩
  have hP : va_P D vcl (fw n ad mem82) H := by rw [e_mem82]; exact hP
  have hD : va_D (Az sz) (fw n ad mem82) := fw_D hD
  have h_mem82 : mem82 ((20 + 2 * Ec)) = .inr (2, [.int (Bx_54 228 Ec), .int (Bx_54 229 Ec), .int (Bx_54 230 Ec), vR ad (Bx_54 231 Ec), .ref (ad (20 + 2 * (Ec + 1))), vE ad (Bx_54 233 Ec), .ref (ad (21 + 2 * Ec))]) := by rw [e_mem82, va_up_self]
  have hh83 := (va_up_ne mem46 (.inr (2, [.int (Bx_54 228 Ec), .int (Bx_54 229 Ec), .int (Bx_54 230 Ec), vR ad (Bx_54 231 Ec), .ref (ad (20 + 2 * (Ec + 1))), vE ad (Bx_54 233 Ec), .ref (ad (21 + 2 * Ec))])) (show (222 : Nat) ≠ (20 + 2 * Ec) by first | decide | assumption | omega)).trans h9_70
  rw [← e_mem82] at hh83
  have hh84 := (va_up_ne mem46 (.inr (2, [.int (Bx_54 228 Ec), .int (Bx_54 229 Ec), .int (Bx_54 230 Ec), vR ad (Bx_54 231 Ec), .ref (ad (20 + 2 * (Ec + 1))), vE ad (Bx_54 233 Ec), .ref (ad (21 + 2 * Ec))])) (show (1 : Nat) ≠ (20 + 2 * Ec) by first | decide | assumption | omega)).trans h1_71
  rw [← e_mem82] at hh84
  have hh85 := (va_up_ne mem46 (.inr (2, [.int (Bx_54 228 Ec), .int (Bx_54 229 Ec), .int (Bx_54 230 Ec), vR ad (Bx_54 231 Ec), .ref (ad (20 + 2 * (Ec + 1))), vE ad (Bx_54 233 Ec), .ref (ad (21 + 2 * Ec))])) (show (5 : Nat) ≠ (20 + 2 * Ec) by first | decide | assumption | omega)).trans h5_73
  rw [← e_mem82] at hh85
  have hh86 := (va_up_ne mem46 (.inr (2, [.int (Bx_54 228 Ec), .int (Bx_54 229 Ec), .int (Bx_54 230 Ec), vR ad (Bx_54 231 Ec), .ref (ad (20 + 2 * (Ec + 1))), vE ad (Bx_54 233 Ec), .ref (ad (21 + 2 * Ec))])) (show (220 : Nat) ≠ (20 + 2 * Ec) by first | decide | assumption | omega)).trans h220_77
  rw [← e_mem82] at hh86
  have hrk87 : ∀ i9, i9 < R → mem82 (7 + i9) = mem (7 + i9) := fun i9 q9 => (show mem82 (7 + i9) = mem46 (7 + i9) by rw [e_mem82]; exact va_up_ne _ _ (by omega)).trans (hrk68 i9 q9)
  have hRX88 : RX cy ad lim (gapF T Z ax48 + 1) (Rx50) (Ex51) (tox56) (nx55) m0 mem82 := by rw [e_mem82]; exact hRX64.el (by omega) (hRX64.1.mk (by omega) (hRX64.1.1.upEl (by omega) (fun _ => ⟨(ali65.2.1 Ec (by omega)).2.1.oR ad, Or.inr ⟨(Ec + 1), by omega, by omega, rfl⟩, (ali65.2.1 Ec (by omega)).2.2.2.oE ad (by omega)⟩)))
  have her89 : ER ad (Rx50) (Ex51) (va_up Bx_54 232 (upd (Bx_54 232) Ec (nI (Ec + 1)))) mem82 := ali65.2.1.part (by omega) (by omega) (by omega) h_mem82 (fun i9 q9 hi9 => by rw [e_mem82]; exact va_up_ne _ _ (by omega))
  have hsr90 : SR cy ad (Sx52) (Bx_54) mem82 := ⟨(show mem82 220 = mem46 220 by rw [e_mem82]; exact va_up_ne _ _ (by omega)).trans ali65.2.2.1.1, (show mem82 221 = mem46 221 by rw [e_mem82]; exact va_up_ne _ _ (by omega)).trans ali65.2.2.1.2⟩
  obtain ⟨ft91, h9_92⟩ := hRX88.2.1
  have h1_93 : mem82 1 = .inr (0, [.ref (ad 2), .int (nI Z)]) := (hRX88.1.2.2 1 (by omega)).trans hT.1
  have h2_94 : mem82 2 = .inl (cy 0, 240, .inl f) := (hRX88.1.2.2 2 (by omega)).trans hT.2.2
  have h5_95 := hRX88.1.1.2.1
  have hbd101 := hRX88.1.1.1
  obtain ⟨S96, g97, hS_98, h220_99, h221_100⟩ := hRX88.1.1.2.2.2.2.2.2
  refine lv_aload_n Bx.1 Bx.2.1 d_Rd_readOption_21 rfl (lv_at hl 0 rfl) ?_
  have hrd9 := opt_rds (nm := nm) hLK (by omega) hF hent67 ali65 hh66 her89 hsr90
  exact x_aret hx hb hlocks hr (⟨Ec, gapF T Z ax48 + 1, ux49, Rx50, Ex51, Sx52, _, _, nx55, tox56, rfl, by omega, by omega, by omega, by have := gapF_ge T Z ax48; omega, by omega, htk62, hrk87, hRX88, rdsEq hrd9.1 (sing_op (l91 c91).1 c91 (by omega) hE9), hrd9.2⟩) hP hS d_Rd_readOption_22
set_option maxHeartbeats 4000000 in
set_option maxRecDepth 100000 in
theorem m_Rd_readElement_3Y (l : Launch) {D : va_G} {cy : Nat → ClassId} {sz n : Nat} {ad : Nat → Nat} {mem : Nat → va_E} {Z a R Ec lim : Nat} {f T : Nat → Int32} {to : Nat → Int32} {nm : Nat → Int64} {m0 : Nat → va_E} {u S : Nat} {A Bw : Ro} (hlt : l.stackTraces = false) (hn : 224 ≤ n) (hT : TX cy ad Z f m0) (hf : ∀ k, k < Z → f k = T k) (hRX : RX cy ad lim a R Ec to nm m0 mem) (haB : a ≤ 300) (hER : ER ad R Ec Bw mem) (hSR : SR cy ad S Bw mem) (hSa : S ≤ a) (haZ : a ≤ Z) (hLK : LKa Ec A) (hF : FRM A 3 Ec) : NXr l D cy sz n ad y_Rd_readElement c_Rd_readElement 2 (some (.object "AbnfChart$Element")) ({ frames := 34, cells := 1, slots := 6, locals := 816 } : Room) mem [.ref (ad 222), .int (3)] (fun r mem' => ∃ (k' a' u' R' E' S' : Nat) (A' Bw' : Ro) (nm' : Nat → Int64) (to' : Nat → Int32), r = ad (20 + 2 * k') ∧ Ec ≤ k' ∧ k' < E' ∧ R ≤ R' ∧ a < a' ∧ a' ≤ Z ∧ TOK R R' to to' ∧ (∀ i9, i9 < R → mem' (7 + i9) = mem (7 + i9)) ∧ RX cy ad lim a' R' E' to' nm' m0 mem' ∧ RDS cy ad T Z 3 (singS T Z a u R Ec 3 A nm) (PSf A 3) R Ec S u A Bw k' a' u' R' E' S' A' Bw' nm' mem' ∧ A' 238 3 = A 238 3 ∧ OKc (hereF Z T a)) (fun X mem' => ((X = cIA ∨ X = cIS) ∧ ∃ rc' ec' : Nat, RS cy ad lim rc' ec' m0 mem') ∧ (Fai T Z (singS T Z a u R Ec 3 A nm) ∨ ¬ OKc (hereF Z T a))) := by
  refine vx_ofW (cc := c_Rd_readElement) (maxL := 2) (ret := (some (.object "AbnfChart$Element"))) (by decide) rfl ?_
  intro p e s m args below meth c s₁ B hml hno hv
  obtain ⟨rfl, E, hP, hD⟩ := hv
  have hx := B.exec
  have hb := B.bytes
  have hr := B.returns
  have hlocks := B.notSynchronized
  have Bx : MB p s m [.ref (ad 222), .int (3)].toArray c c_Rd_readElement "AbnfChart$Reader" D cy := ⟨hx, hb, tb_all (atoms_spec B.pre) E.2.1, findClass_of_methodNamed B.named, E.1⟩
  have hS : va_S (Az sz) s.heap s.heap [] := va_S.rf
  have hl := lv_entry ([.ref (ad 222), .int (3)]) (n := 2) (Nat.le_of_ble_eq_true rfl)
  rw [lg_entry_eq]
  generalize (lg_sl ([.ref (ad 222), .int (3)]) ++ List.replicate (2 - (lg_sl ([.ref (ad 222), .int (3)])).length) Slot.unset).toArray = ls at hl ⊢
  have hl : lv_has ls 2 [(0, .ref (ad 222)), (1, .int (3))] := hl
  have hZ9 := hT.2.1
  have hbd9 := hRX.1.1.1
  have hfr0 : ∀ i, 7 ≤ i ∧ i < 222 ∧ i ≠ 20 + 2 * Ec → mem i = mem i := fun _ _ => rfl
  have hrk0 : ∀ i9, i9 < R → mem (7 + i9) = mem (7 + i9) := fun _ _ => rfl
  obtain ⟨ft1, h9_2⟩ := hRX.2.1
  have h1_3 : mem 1 = .inr (0, [.ref (ad 2), .int (nI Z)]) := (hRX.1.2.2 1 (by omega)).trans hT.1
  have h2_4 : mem 2 = .inl (cy 0, 240, .inl f) := (hRX.1.2.2 2 (by omega)).trans hT.2.2
  have h5_5 := hRX.1.1.2.1
  have hbd11 := hRX.1.1.1
  obtain ⟨S6, g7, hS_8, h220_9, h221_10⟩ := hRX.1.1.2.2.2.2.2.2
  refine lv_aload_n Bx.1 Bx.2.1 d_Rd_readElement_0 rfl (lv_at hl 0 rfl) ?_
  refine f_callVi (na := 0) (As := []) (rest := []) Bx hml E hP hD hS (by omega) h9_2 rfl (m_Rd_peekX l hn hT hf hRX (by omega)) kw_353 kw_355 sel_Rd_peek kw_6 kw_356 (by decide +kernel) ⟨rfl, rfl⟩ ⟨Nat.le_of_ble_eq_true rfl, Nat.le_of_ble_eq_true rfl⟩ rfl hl.1 (Nat.le_of_ble_eq_true rfl) d_Rd_readElement_1 ⟨Nat.le_of_ble_eq_true rfl, Nat.le_of_ble_eq_true rfl⟩ (fun r13 mem14 H locs hq hP hS => ?_)
  have hD : va_D (Az sz) (fw n ad mem14) := fw_D hD
  obtain ⟨hqe, hpk12⟩ := hq
  rw [hqe] at hP hD
  subst hpk12
  refine lv_topi (fun v16 e_v16 => ?_)
  by_cases c34 : v16 = 34
  · rw [c34]
    refine lv_lookup (off := 58) (tgt := 62) Bx.1 Bx.2.1 d_Rd_readElement_4 (by decide) (by decide) rfl ?_
    rw [e_v16] at c34
    have hlt34 := hereF_lt (show hereF Z T (a) ≠ -1 by rw [c34]; decide)
    refine lv_aload_n Bx.1 Bx.2.1 d_Rd_readElement_62 rfl (lv_at hl 0 rfl) ?_
    refine lv_aload_n Bx.1 Bx.2.1 d_Rd_readElement_63 rfl (lv_at hl 0 rfl) ?_
    refine f_get Bx hP (by omega) h9_2 rfl inRd 2 (by decide) kw_146 rfl rfl d_Rd_readElement_64 ?_
    refine lv_iconst (v := 5) Bx.1 Bx.2.1 d_Rd_readElement_67 (by decide) ?_
    refine f_xVr (na := 2) (As := [.int (nI a), .int (5)]) (rest := []) Bx hml E hP hD hS (by omega) h9_2 rfl (m_Rd_readStringY l hlt hn hT hf hRX (by omega) hSR.1 hSR.2 (by omega) hSa) kw_455 kw_457 sel_Rd_readString kw_6 kw_458 (by decide +kernel) ⟨rfl, rfl⟩ ⟨Nat.le_of_ble_eq_true rfl, Nat.le_of_ble_eq_true rfl⟩ rfl hl.1 (Nat.le_of_ble_eq_true rfl) d_Rd_readElement_68 ⟨Nat.le_of_ble_eq_true rfl, Nat.le_of_ble_eq_true rfl⟩ (fun X ce q9 memx H locs hx9 hP hS g1 g2 g3 => f_out hlocks hno hP hS g1 g2 g3 ⟨Nat.le_of_ble_eq_true rfl, Nat.le_of_ble_eq_true rfl⟩ ⟨hx9.1, Or.inl (fai_str c34 hx9.2 hbd9.2.1)⟩) (fun r17 mem18 H locs hq hP hS => ?_)
    have hD : va_D (Az sz) (fw n ad mem18) := fw_D hD
    obtain ⟨hE9, hq9, hr2, hle9, hRX2, hcl2, ⟨s9, hs0, hs1, hs2, hs3⟩, hfr2⟩ := hq
    subst hr2
    obtain ⟨A2, B2, hrd2, h82⟩ := rds_str (j := 3) (u := u) (nm := nm) c34 hE9 hq9 hLK hF hER hcl2 hs0 hs1 hs2 hs3 (fun k hk => hfr2 (20 + 2 * k) (by omega)) hSa
    exact x_aret hx hb hlocks hr (⟨Ec, _, _, R, Ec + 1, _, A2, B2, nm, to, rfl, by omega, by omega, by omega, by omega, hle9, TOK.of rfl, fun i9 q9 => hfr2 (7 + i9) (by omega), hRX2, hrd2, h82, (l34 c34).2.2.2⟩) hP hS d_Rd_readElement_71
  by_cases c37 : v16 = 37
  · rw [c37]
    refine lv_lookup (off := 68) (tgt := 72) Bx.1 Bx.2.1 d_Rd_readElement_4 (by decide) (by decide) rfl ?_
    rw [e_v16] at c37
    have hlt37 := hereF_lt (show hereF Z T (a) ≠ -1 by rw [c37]; decide)
    refine lv_aload_n Bx.1 Bx.2.1 d_Rd_readElement_72 rfl (lv_at hl 0 rfl) ?_
    refine f_get Bx hP (by omega) h9_2 rfl inRd 0 (by decide) kw_144 rfl rfl d_Rd_readElement_73 ?_
    refine lv_aload_n Bx.1 Bx.2.1 d_Rd_readElement_76 rfl (lv_at hl 0 rfl) ?_
    refine f_get Bx hP (by omega) h9_2 rfl inRd 2 (by decide) kw_146 rfl rfl d_Rd_readElement_77 ?_
    refine lv_iconst (v := 1) Bx.1 Bx.2.1 d_Rd_readElement_80 (by decide) ?_
    refine lv_iadd Bx.1 Bx.2.1 d_Rd_readElement_81 ?_
    rw [show nI a + 1 = nI (a + 1) from nI_add (a) (1)]
    refine f_callVi (na := 1) (As := [.int (nI (a + 1))]) (rest := []) Bx hml E hP hD hS (by omega) h1_3 rfl (m_Ch_codeAt l (by omega) h1_3 (by omega) h2_4 (by rw [nI_toInt (by omega)]; omega)) kw_341 kw_342 kw_343 kw_2 kw_344 (by decide +kernel) ⟨rfl, rfl⟩ ⟨Nat.le_of_ble_eq_true rfl, Nat.le_of_ble_eq_true rfl⟩ rfl hl.1 (Nat.le_of_ble_eq_true rfl) d_Rd_readElement_82 ⟨Nat.le_of_ble_eq_true rfl, Nat.le_of_ble_eq_true rfl⟩ (fun r19 mem20 H locs hq hP hS => ?_)
    have hD : va_D (Az sz) (fw n ad mem20) := fw_D hD
    obtain ⟨hco21, hqe⟩ := hq
    rw [hqe] at hP hD
    rw [code_here hf hT.2.1 (k := a + 1) (by omega)] at hco21
    subst hco21
    refine f_callSNi (na := 1) (As := [.int (hereF Z T (a + 1))]) (rest := []) Bx hml E.2.1 (m_Ab_smallOfX l (hereF Z T (a + 1))) kw_372 kw_373 kw_1 kw_374 (by decide +kernel) ⟨rfl, rfl⟩ ⟨Nat.le_of_ble_eq_true rfl, Nat.le_of_ble_eq_true rfl⟩ rfl hl.1 (Nat.le_of_ble_eq_true rfl) d_Rd_readElement_85 ⟨Nat.le_of_ble_eq_true rfl, Nat.le_of_ble_eq_true rfl⟩ (fun r23 hs22 => ?_)
    subst hs22
    refine lv_bipush (v := 115) Bx.1 Bx.2.1 d_Rd_readElement_88 (by decide) ?_
    refine lv_icmp_ne Bx.1 Bx.2.1 d_Rd_readElement_90 rfl (fun hb24 => ?_) (fun hb24 => ?_)
    · refine lv_aload_n Bx.1 Bx.2.1 d_Rd_readElement_100 rfl (lv_at hl 0 rfl) ?_
      refine f_xVr (na := 0) (As := []) (rest := []) Bx hml E hP hD hS (by omega) h9_2 rfl (m_Rd_readValueY l hlt hn hT hf hRX (by omega) (u8 := u) (e8 := Ec) (A0 := va_up (elA A Ec 4) 231 (upd (elA A Ec 4 231) Ec (vp_nar .boolean 1))) hSR.1 hSR.2 (by omega) hSa) kw_467 kw_469 sel_Rd_readValue kw_6 kw_470 (by decide +kernel) ⟨rfl, rfl⟩ ⟨Nat.le_of_ble_eq_true rfl, Nat.le_of_ble_eq_true rfl⟩ rfl hl.1 (Nat.le_of_ble_eq_true rfl) d_Rd_readElement_101 ⟨Nat.le_of_ble_eq_true rfl, Nat.le_of_ble_eq_true rfl⟩ (fun X ce q9 memx H locs hx9 hP hS g1 g2 g3 => f_out hlocks hno hP hS g1 g2 g3 ⟨Nat.le_of_ble_eq_true rfl, Nat.le_of_ble_eq_true rfl⟩ ⟨hx9.1, Or.inl (fai_val c37 hb24 hx9.2 hbd9.2.1)⟩) (fun r25 mem26 H locs hq hP hS => ?_)
      have hD : va_D (Az sz) (fw n ad mem26) := fw_D hD
      obtain ⟨hE9, ba, a2, u2, A1, hba, hn9, hr2, x1, x2, hRX2, hsp2, hc2, hfr2⟩ := hq
      subst hr2
      obtain ⟨S2, A2, B2, hrd2, h82⟩ := rds_val (j := 3) (nm := nm) c37 hba hE9 hn9 hsp2 hLK hF hER (fun k hk => hfr2 (20 + 2 * k) (by omega)) hSa x1 hc2
      exact x_aret hx hb hlocks hr (⟨Ec, a2, u2, R, Ec + 1, S2, A2, B2, nm, to, rfl, by omega, by omega, by omega, x1, x2, TOK.of rfl, fun i9 q9 => hfr2 (7 + i9) (by omega), hRX2, hrd2, h82, (l37 c37).2.2.2.2⟩) hP hS d_Rd_readElement_104
    · refine lv_aload_n Bx.1 Bx.2.1 d_Rd_readElement_93 rfl (lv_at hl 0 rfl) ?_
      refine f_xVr (na := 0) (As := []) (rest := []) Bx hml E hP hD hS (by omega) h9_2 rfl (m_Rd_readExactStringY l hlt hn hT hf hRX (by omega) hSR.1 hSR.2 (by omega) hSa) kw_463 kw_465 sel_Rd_readExactString kw_6 kw_466 (by decide +kernel) ⟨rfl, rfl⟩ ⟨Nat.le_of_ble_eq_true rfl, Nat.le_of_ble_eq_true rfl⟩ rfl hl.1 (Nat.le_of_ble_eq_true rfl) d_Rd_readElement_94 ⟨Nat.le_of_ble_eq_true rfl, Nat.le_of_ble_eq_true rfl⟩ (fun X ce q9 memx H locs hx9 hP hS g1 g2 g3 => f_out hlocks hno hP hS g1 g2 g3 ⟨Nat.le_of_ble_eq_true rfl, Nat.le_of_ble_eq_true rfl⟩ ⟨hx9.1, Or.inl (fai_xst c37 hb24 hx9.2 hbd9.2.1)⟩) (fun r27 mem28 H locs hq hP hS => ?_)
      have hD : va_D (Az sz) (fw n ad mem28) := fw_D hD
      obtain ⟨hq8, hE9, hq9, hr2, hle9, hRX2, hcl2, ⟨s9, hs0, hs1, hs2, hs3⟩, hfr2⟩ := hq
      subst hr2
      obtain ⟨A2, B2, hrd2, h82⟩ := rds_xst (j := 3) (u := u) (nm := nm) c37 hb24 hq8 hE9 hq9 hLK hF hER hcl2 hs0 hs1 hs2 hs3 (fun k hk => hfr2 (20 + 2 * k) (by omega)) hSa
      refine lv_goto Bx.1 Bx.2.1 d_Rd_readElement_97 rfl ?_
      exact x_aret hx hb hlocks hr (⟨Ec, _, _, R, Ec + 1, _, A2, B2, nm, to, rfl, by omega, by omega, by omega, by omega, hle9, TOK.of rfl, fun i9 q9 => hfr2 (7 + i9) (by omega), hRX2, hrd2, h82, (l37 c37).2.2.2.2⟩) hP hS d_Rd_readElement_104
  by_cases c40 : v16 = 40
  · rw [c40]
    refine lv_lookup (off := 44) (tgt := 48) Bx.1 Bx.2.1 d_Rd_readElement_4 (by decide) (by decide) rfl ?_
    rw [e_v16] at c40
    have hlt40 := hereF_lt (show hereF Z T (a) ≠ -1 by rw [c40]; decide)
    refine lv_aload_n Bx.1 Bx.2.1 d_Rd_readElement_48 rfl (lv_at hl 0 rfl) ?_
    refine lv_iload_n Bx.1 Bx.2.1 d_Rd_readElement_49 rfl (lv_at hl 1 rfl) ?_
    refine lv_bipush (v := 41) Bx.1 Bx.2.1 d_Rd_readElement_50 (by decide) ?_
    refine f_xVr (na := 2) (As := [.int (3), .int (41)]) (rest := []) Bx hml E hP hD hS (by omega) h9_2 rfl (m_Rd_readBracket_3Y l hlt hn hT hf hRX (by omega) (u := u) (A := A) (what := 1) (oe := -1) hER hSR hSa (by omega) (Or.inl ⟨rfl, rfl⟩) hLK) kw_447 kw_449 sel_Rd_readBracket kw_6 kw_450 (by decide +kernel) ⟨rfl, rfl⟩ ⟨Nat.le_of_ble_eq_true rfl, Nat.le_of_ble_eq_true rfl⟩ rfl hl.1 (Nat.le_of_ble_eq_true rfl) d_Rd_readElement_52 ⟨Nat.le_of_ble_eq_true rfl, Nat.le_of_ble_eq_true rfl⟩ (fun X ce q9 memx H locs hx9 hP hS g1 g2 g3 => f_out hlocks hno hP hS g1 g2 g3 ⟨Nat.le_of_ble_eq_true rfl, Nat.le_of_ble_eq_true rfl⟩ ⟨hx9.1, Or.inl (hx9.2.eq (sing_br (l40 c40).1 c40 (by omega)))⟩) (fun r29 mem30 H locs hq hP hS => ?_)
    have hD : va_D (Az sz) (fw n ad mem30) := fw_D hD
    obtain ⟨la31, ax32, ux33, Rx34, Ex35, Sx36, Ax37, Bx_38, nx39, tox40, hr941, h142, h243, h344, h445, htk46, hrk47, hRX48, ali49, hh50, hent51⟩ := hq
    subst hr941
    have hrk52 : ∀ i9, i9 < R → mem30 (7 + i9) = mem (7 + i9) := fun i9 q9 => (hrk47 i9 (by omega)).trans (hrk0 i9 q9)
    have hE9 : Ec < 100 := by have := hRX48.1.1.1; omega
    have hrd9 := brk_rds (nm := nm) hLK hE9 hF hent51 ali49 hh50 ali49.2.1 ali49.2.2.1
    exact x_aret hx hb hlocks hr (⟨Ec, gapF T Z ax32 + 1, ux33, Rx34, Ex35, Sx36, _, _, nx39, tox40, rfl, by omega, by omega, by omega, by have := gapF_ge T Z ax32; omega, by omega, htk46, hrk52, hRX48, rdsEq hrd9.1 (sing_br (l40 c40).1 c40 (by omega)), hrd9.2, (l40 c40).2⟩) hP hS d_Rd_readElement_55
  by_cases c91 : v16 = 91
  · rw [c91]
    refine lv_lookup (off := 52) (tgt := 56) Bx.1 Bx.2.1 d_Rd_readElement_4 (by decide) (by decide) rfl ?_
    rw [e_v16] at c91
    have hlt91 := hereF_lt (show hereF Z T (a) ≠ -1 by rw [c91]; decide)
    refine lv_aload_n Bx.1 Bx.2.1 d_Rd_readElement_56 rfl (lv_at hl 0 rfl) ?_
    refine lv_iload_n Bx.1 Bx.2.1 d_Rd_readElement_57 rfl (lv_at hl 1 rfl) ?_
    refine f_xVr (na := 1) (As := [.int (3)]) (rest := []) Bx hml E hP hD hS (by omega) h9_2 rfl (m_Rd_readOption_3Y l hlt hn hT hf hRX (by omega) (u := u) (A := A) hER hSR hSa (by omega) hLK hF c91) kw_451 kw_453 sel_Rd_readOption kw_6 kw_454 (by decide +kernel) ⟨rfl, rfl⟩ ⟨Nat.le_of_ble_eq_true rfl, Nat.le_of_ble_eq_true rfl⟩ rfl hl.1 (Nat.le_of_ble_eq_true rfl) d_Rd_readElement_58 ⟨Nat.le_of_ble_eq_true rfl, Nat.le_of_ble_eq_true rfl⟩ (fun X ce q9 memx H locs hx9 hP hS g1 g2 g3 => f_out hlocks hno hP hS g1 g2 g3 ⟨Nat.le_of_ble_eq_true rfl, Nat.le_of_ble_eq_true rfl⟩ ⟨hx9.1, Or.inl hx9.2⟩) (fun r53 mem54 H locs hq hP hS => ?_)
    have hD : va_D (Az sz) (fw n ad mem54) := fw_D hD
    obtain ⟨kx55, ax56, ux57, Rx58, Ex59, Sx60, Ax61, Bx_62, nx63, tox64, hr965, h166, h267, h368, h469, h570, htk71, hrk72, hRX73, rds74, h875⟩ := hq
    subst hr965
    have hrk76 : ∀ i9, i9 < R → mem54 (7 + i9) = mem (7 + i9) := fun i9 q9 => (hrk72 i9 (by omega)).trans (hrk0 i9 q9)
    exact x_aret hx hb hlocks hr (⟨kx55, ax56, ux57, Rx58, Ex59, Sx60, Ax61, Bx_62, nx63, tox64, rfl, h166, h267, h368, h469, h570, htk71, hrk72, hRX73, rds74, h875, (l91 c91).2⟩) hP hS d_Rd_readElement_61
  refine lv_lookup (off := 101) (tgt := 105) Bx.1 Bx.2.1 d_Rd_readElement_4 (by decide) (by show Op.lookupswitch.offset [(34, 58), (37, 68), (40, 44), (91, 52)] 101 (v16).toInt = 101; rw [lv_osw c34 (by decide), lv_osw c37 (by decide), lv_osw c40 (by decide), lv_osw c91 (by decide)]; rfl) rfl ?_
  rw [e_v16] at c40 c91 c34 c37
  refine lv_aload_n Bx.1 Bx.2.1 d_Rd_readElement_105 rfl (lv_at hl 0 rfl) ?_
  refine f_xVr (na := 0) (As := []) (rest := []) Bx hml E hP hD hS (by omega) h9_2 rfl (m_Rd_readAskedNameY l hlt hn hT hf hRX (by omega) (A := A) (by omega)) kw_478 kw_480 sel_Rd_readAskedName kw_6 kw_481 (by decide +kernel) ⟨rfl, rfl⟩ ⟨Nat.le_of_ble_eq_true rfl, Nat.le_of_ble_eq_true rfl⟩ rfl hl.1 (Nat.le_of_ble_eq_true rfl) d_Rd_readElement_106 ⟨Nat.le_of_ble_eq_true rfl, Nat.le_of_ble_eq_true rfl⟩ (fun X ce q9 memx H locs hx9 hP hS g1 g2 g3 => f_out hlocks hno hP hS g1 g2 g3 ⟨Nat.le_of_ble_eq_true rfl, Nat.le_of_ble_eq_true rfl⟩ ⟨hx9.1, fai_nam c40 c91 c34 c37 hx9.2⟩) (fun r77 mem78 H locs hq hP hS => ?_)
  have hD : va_D (Az sz) (fw n ad mem78) := fw_D hD
  obtain ⟨i9, a2, R2, A3, n2, hsn, hle, hE9, hr2, x1, x2, x3, hA3, htk, ⟨t2, htk2, hRX2⟩, hi9, hcl2, hfr2⟩ := hq
  subst hr2
  have hR12 := hRX2.1.1.1.1
  obtain ⟨A2, B2, hrd2, h82⟩ := rds_nam (j := 3) (u := u) hle hsn hE9 hA3 htk x1 hi9 hR12 hLK hF hER ⟨(hfr2 220 (by omega)).trans hSR.1, (hfr2 221 (by omega)).trans hSR.2⟩ hcl2 (fun k hk => hfr2 (20 + 2 * k) (by omega)) (by omega)
  exact x_aret hx hb hlocks hr (⟨Ec, a2, u, R2, Ec + 1, S, A2, B2, n2, t2, rfl, by omega, by omega, x1, x2, x3, htk2, fun i9 q9 => hfr2 (7 + i9) (by omega), hRX2, hrd2, h82, lt_ok hle⟩) hP hS d_Rd_readElement_109
set_option maxHeartbeats 4000000 in
set_option maxRecDepth 100000 in
theorem m_Rd_readRepetition_3Y (l : Launch) {D : va_G} {cy : Nat → ClassId} {sz n : Nat} {ad : Nat → Nat} {mem : Nat → va_E} {Z a R Ec lim : Nat} {f T : Nat → Int32} {to : Nat → Int32} {nm : Nat → Int64} {m0 : Nat → va_E} {u S : Nat} {A Bw : Ro} (hlt : l.stackTraces = false) (hn : 224 ≤ n) (hT : TX cy ad Z f m0) (hf : ∀ k, k < Z → f k = T k) (hRX : RX cy ad lim a R Ec to nm m0 mem) (haB : a ≤ 300) (hER : ER ad R Ec Bw mem) (hSR : SR cy ad S Bw mem) (hSa : S ≤ a) (haZ : a ≤ Z) (hLK : LKa Ec A) (hF : FRM A 3 Ec) (h39 : A 239 3 = -1) (hbg : bgF (hereF Z T a) = true) : NXr l D cy sz n ad y_Rd_readRepetition c_Rd_readRepetition 3 (some (.object "AbnfChart$Element")) ({ frames := 35, cells := 1, slots := 6, locals := 838 } : Room) mem [.ref (ad 222), .int (3)] (fun r mem' => ∃ (k' a' u' R' E' S' : Nat) (A' Bw' : Ro) (nm' : Nat → Int64) (to' : Nat → Int32), r = ad (20 + 2 * k') ∧ Ec ≤ k' ∧ k' < E' ∧ R ≤ R' ∧ a < a' ∧ a' ≤ Z ∧ TOK R R' to to' ∧ (∀ i9, i9 < R → mem' (7 + i9) = mem (7 + i9)) ∧ RX cy ad lim a' R' E' to' nm' m0 mem' ∧ RDS cy ad T Z 3 (repS T Z a u R Ec 3 A nm) (PSf A 3) R Ec S u A Bw k' a' u' R' E' S' A' Bw' nm' mem' ∧ A' 238 3 = A 238 3) (fun X mem' => ((X = cIA ∨ X = cIS) ∧ ∃ rc' ec' : Nat, RS cy ad lim rc' ec' m0 mem') ∧ (Fai T Z (repS T Z a u R Ec 3 A nm))) := by
  refine vx_ofW (cc := c_Rd_readRepetition) (maxL := 3) (ret := (some (.object "AbnfChart$Element"))) (by decide) rfl ?_
  intro p e s m args below meth c s₁ B hml hno hv
  obtain ⟨rfl, E, hP, hD⟩ := hv
  have hx := B.exec
  have hb := B.bytes
  have hr := B.returns
  have hlocks := B.notSynchronized
  have Bx : MB p s m [.ref (ad 222), .int (3)].toArray c c_Rd_readRepetition "AbnfChart$Reader" D cy := ⟨hx, hb, tb_all (atoms_spec B.pre) E.2.1, findClass_of_methodNamed B.named, E.1⟩
  have hS : va_S (Az sz) s.heap s.heap [] := va_S.rf
  have hl := lv_entry ([.ref (ad 222), .int (3)]) (n := 3) (Nat.le_of_ble_eq_true rfl)
  rw [lg_entry_eq]
  generalize (lg_sl ([.ref (ad 222), .int (3)]) ++ List.replicate (3 - (lg_sl ([.ref (ad 222), .int (3)])).length) Slot.unset).toArray = ls at hl ⊢
  have hl : lv_has ls 3 [(0, .ref (ad 222)), (1, .int (3))] := hl
  have hZ9 := hT.2.1
  have hbd9 := hRX.1.1.1
  have hfr0 : ∀ i, 7 ≤ i ∧ i < 222 ∧ i ≠ 20 + 2 * Ec → mem i = mem i := fun _ _ => rfl
  have hrk0 : ∀ i9, i9 < R → mem (7 + i9) = mem (7 + i9) := fun _ _ => rfl
  obtain ⟨ft1, h9_2⟩ := hRX.2.1
  have h1_3 : mem 1 = .inr (0, [.ref (ad 2), .int (nI Z)]) := (hRX.1.2.2 1 (by omega)).trans hT.1
  have h2_4 : mem 2 = .inl (cy 0, 240, .inl f) := (hRX.1.2.2 2 (by omega)).trans hT.2.2
  have h5_5 := hRX.1.1.2.1
  have hbd11 := hRX.1.1.1
  obtain ⟨S6, g7, hS_8, h220_9, h221_10⟩ := hRX.1.1.2.2.2.2.2.2
  refine lv_aload_n Bx.1 Bx.2.1 d_Rd_readRepetition_0 rfl (lv_at hl 0 rfl) ?_
  refine f_callVi (na := 0) (As := []) (rest := []) Bx hml E hP hD hS (by omega) h9_2 rfl (m_Rd_peekX l hn hT hf hRX (by omega)) kw_353 kw_355 sel_Rd_peek kw_6 kw_356 (by decide +kernel) ⟨rfl, rfl⟩ ⟨Nat.le_of_ble_eq_true rfl, Nat.le_of_ble_eq_true rfl⟩ rfl hl.1 (Nat.le_of_ble_eq_true rfl) d_Rd_readRepetition_1 ⟨Nat.le_of_ble_eq_true rfl, Nat.le_of_ble_eq_true rfl⟩ (fun r13 mem14 H locs hq hP hS => ?_)
  have hD : va_D (Az sz) (fw n ad mem14) := fw_D hD
  obtain ⟨hqe, hpk12⟩ := hq
  rw [hqe] at hP hD
  subst hpk12
  refine f_callSi (na := 1) (As := [.int (hereF Z T (a))]) (rest := []) Bx hml E.2.1 (m_Rd_beginsRepeatX l (hereF Z T (a))) kw_416 kw_417 kw_6 kw_418 (by decide +kernel) ⟨rfl, rfl⟩ ⟨Nat.le_of_ble_eq_true rfl, Nat.le_of_ble_eq_true rfl⟩ rfl hl.1 (Nat.le_of_ble_eq_true rfl) d_Rd_readRepetition_4 ⟨Nat.le_of_ble_eq_true rfl, Nat.le_of_ble_eq_true rfl⟩ (fun r17 hs16 => ?_)
  subst hs16
  refine lv_if_ne Bx.1 Bx.2.1 d_Rd_readRepetition_7 rfl (fun hb18 => ?_) (fun hb18 => ?_)
  · refine lv_aload_n Bx.1 Bx.2.1 d_Rd_readRepetition_16 rfl (lv_at hl 0 rfl) ?_
    refine lv_iconst (v := 2) Bx.1 Bx.2.1 d_Rd_readRepetition_17 (by decide) ?_
    refine lv_aload_n Bx.1 Bx.2.1 d_Rd_readRepetition_18 rfl (lv_at hl 0 rfl) ?_
    refine f_get Bx hP (by omega) h9_2 rfl inRd 2 (by decide) kw_146 rfl rfl d_Rd_readRepetition_19 ?_
    refine f_xVr (na := 2) (As := [.int (2), .int (nI a)]) (rest := []) Bx hml E hP hD hS (by omega) h9_2 rfl (m_Rd_addElementY l hlt hn hT hf hRX (by omega)) kw_419 kw_421 sel_Rd_addElement kw_6 kw_422 (by decide +kernel) ⟨rfl, rfl⟩ ⟨Nat.le_of_ble_eq_true rfl, Nat.le_of_ble_eq_true rfl⟩ rfl hl.1 (Nat.le_of_ble_eq_true rfl) d_Rd_readRepetition_22 ⟨Nat.le_of_ble_eq_true rfl, Nat.le_of_ble_eq_true rfl⟩ (fun X ce q9 memx H locs hx9 hP hS g1 g2 g3 => f_out hlocks hno hP hS g1 g2 g3 ⟨Nat.le_of_ble_eq_true rfl, Nat.le_of_ble_eq_true rfl⟩ ⟨hx9.1, Or.inl (rep_E (bpF_1 hb18) hx9.2)⟩) (fun r19 mem20 H locs hq hP hS => ?_)
    have hD : va_D (Az sz) (fw n ad mem20) := fw_D hD
    obtain ⟨hr921, hec22, hRX23, hcl24, hfa25⟩ := hq
    subst hr921
    have hrk26 : ∀ i9, i9 < R → mem20 (7 + i9) = mem (7 + i9) := fun i9 q9 => (hfa25 (7 + i9) (by omega)).trans (hrk0 i9 q9)
    have hfr27 : ∀ i, 7 ≤ i ∧ i < 222 ∧ i ≠ 20 + 2 * Ec → mem20 i = mem i := fun i q => (hfa25 i (by omega)).trans (hfr0 i q)
    obtain ⟨ft28, h9_29⟩ := hRX23.2.1
    have h1_30 : mem20 1 = .inr (0, [.ref (ad 2), .int (nI Z)]) := (hRX23.1.2.2 1 (by omega)).trans hT.1
    have h2_31 : mem20 2 = .inl (cy 0, 240, .inl f) := (hRX23.1.2.2 2 (by omega)).trans hT.2.2
    have h5_32 := hRX23.1.1.2.1
    have hbd38 := hRX23.1.1.1
    obtain ⟨S33, g34, hS_35, h220_36, h221_37⟩ := hRX23.1.1.2.2.2.2.2.2
    obtain ⟨ft39, h9_40⟩ := hRX23.2.1
    have h1_41 : mem20 1 = .inr (0, [.ref (ad 2), .int (nI Z)]) := (hRX23.1.2.2 1 (by omega)).trans hT.1
    have h2_42 : mem20 2 = .inl (cy 0, 240, .inl f) := (hRX23.1.2.2 2 (by omega)).trans hT.2.2
    have h5_43 := hRX23.1.1.2.1
    have hbd49 := hRX23.1.1.1
    obtain ⟨S44, g45, hS_46, h220_47, h221_48⟩ := hRX23.1.1.2.2.2.2.2.2
    refine lv_astore_n (lv' := [(2, .ref (ad (20 + 2 * Ec))), (0, .ref (ad 222)), (1, .int (3))]) Bx.1 Bx.2.1 d_Rd_readRepetition_25 rfl hl (by decide) rfl (fun ls hl => ?_)
    refine lv_aload_n Bx.1 Bx.2.1 d_Rd_readRepetition_26 rfl (lv_at hl 1 rfl) ?_
    refine lv_aload_n Bx.1 Bx.2.1 d_Rd_readRepetition_27 rfl (lv_at hl 0 rfl) ?_
    have hdg := bpF_1 hb18
    have hE9 := hec22
    refine f_xVv (na := 1) (As := [.ref (ad (20 + 2 * Ec))]) (rest := []) Bx hml E hP hD hS (by omega) h9_40 rfl (m_Rd_readRepeatY l hlt hn hT hf hRX23 (by omega) (by omega) hcl24 (by omega) hdg) kw_482 kw_484 sel_Rd_readRepeat kw_6 kw_485 (by decide +kernel) ⟨rfl, rfl⟩ ⟨Nat.le_of_ble_eq_true rfl, Nat.le_of_ble_eq_true rfl⟩ rfl hl.1 (Nat.le_of_ble_eq_true rfl) d_Rd_readRepetition_28 ⟨Nat.le_of_ble_eq_true rfl, Nat.le_of_ble_eq_true rfl⟩ (fun X ce q9 memx H locs hx9 hP hS g1 g2 g3 => f_out hlocks hno hP hS g1 g2 g3 ⟨Nat.le_of_ble_eq_true rfl, Nat.le_of_ble_eq_true rfl⟩ ⟨hx9.1, hx9.2.elim (fun v1 z => z.elim (fun b1 z => z.elim (fun v2 z => z.elim (fun b2 z => Or.inl (rep_bad hdg hE9 z.1 z.2.1 (Or.inl z.2.2))))))⟩) (fun mem51 H locs hq hP hS => ?_)
    have hD : va_D (Az sz) (fw n ad mem51) := fw_D hD
    obtain ⟨v1, b1, v2, b2, hr1, hr2, hnv, hb8, hb9, hRXr, hclr, hfar⟩ := hq
    have hrk52 : ∀ i9, i9 < R → mem51 (7 + i9) = mem (7 + i9) := fun i9 q9 => (hfar (7 + i9) (by omega)).trans (hrk26 i9 q9)
    have hfr53 : ∀ i, 7 ≤ i ∧ i < 222 ∧ i ≠ 20 + 2 * Ec → mem51 i = mem i := fun i q => (hfar i (by omega)).trans (hfr27 i q)
    obtain ⟨ft54, h9_55⟩ := hRXr.2.1
    have h1_56 : mem51 1 = .inr (0, [.ref (ad 2), .int (nI Z)]) := (hRXr.1.2.2 1 (by omega)).trans hT.1
    have h2_57 : mem51 2 = .inl (cy 0, 240, .inl f) := (hRXr.1.2.2 2 (by omega)).trans hT.2.2
    have h5_58 := hRXr.1.1.2.1
    have hbd64 := hRXr.1.1.1
    obtain ⟨S59, g60, hS_61, h220_62, h221_63⟩ := hRXr.1.1.2.2.2.2.2.2
    obtain ⟨ft65, h9_66⟩ := hRXr.2.1
    have h1_67 : mem51 1 = .inr (0, [.ref (ad 2), .int (nI Z)]) := (hRXr.1.2.2 1 (by omega)).trans hT.1
    have h2_68 : mem51 2 = .inl (cy 0, 240, .inl f) := (hRXr.1.2.2 2 (by omega)).trans hT.2.2
    have h5_69 := hRXr.1.1.2.1
    have hbd75 := hRXr.1.1.1
    obtain ⟨S70, g71, hS_72, h220_73, h221_74⟩ := hRXr.1.1.2.2.2.2.2.2
    refine lv_aload_n Bx.1 Bx.2.1 d_Rd_readRepetition_31 rfl (lv_at hl 0 rfl) ?_
    refine lv_aload_n Bx.1 Bx.2.1 d_Rd_readRepetition_32 rfl (lv_at hl 1 rfl) ?_
    refine lv_iload_n Bx.1 Bx.2.1 d_Rd_readRepetition_33 rfl (lv_at hl 2 rfl) ?_
    have her76 : ER ad R (Ec + 1) (bwN Bw Ec 2 (v1) (v2) (-1) (-1) (-1) (Bw 234)) mem51 := hER.new (Nat.le_refl _) (by rw [vR_m]; exact hclr) (Or.inl rfl) (fun i9 hi9 => hfr53 (20 + 2 * i9) (by omega))
    have hsr77 : SR cy ad S (bwN Bw Ec 2 (v1) (v2) (-1) (-1) (-1) (Bw 234)) mem51 := ⟨(hfr53 220 (by omega)).trans hSR.1, (hfr53 221 (by omega)).trans hSR.2⟩
    obtain ⟨hLK1, hF1⟩ := frm_rep (v1 := v1) (v2 := v2) hLK hE9 hF h39
    refine f_xVr (na := 1) (As := [.int (3)]) (rest := [.ref (ad (20 + 2 * Ec))]) Bx hml E hP hD hS (by omega) h9_66 rfl (m_Rd_readElement_3Y l hlt hn hT hf hRXr (by omega) (u := u) (A := repB A 3 Ec v1 v2) her76 hsr77 (by omega) (by omega) hLK1 hF1) kw_443 kw_445 sel_Rd_readElement kw_6 kw_446 (by decide +kernel) ⟨rfl, rfl⟩ ⟨Nat.le_of_ble_eq_true rfl, Nat.le_of_ble_eq_true rfl⟩ rfl hl.1 (Nat.le_of_ble_eq_true rfl) d_Rd_readRepetition_34 ⟨Nat.le_of_ble_eq_true rfl, Nat.le_of_ble_eq_true rfl⟩ (fun X ce q9 memx H locs hx9 hP hS g1 g2 g3 => f_out hlocks hno hP hS g1 g2 g3 ⟨Nat.le_of_ble_eq_true rfl, Nat.le_of_ble_eq_true rfl⟩ ⟨hx9.1, rep_fai hdg hE9 hr1 hr2 hnv hx9.2⟩) (fun r78 mem79 H locs hq hP hS => ?_)
    have hD : va_D (Az sz) (fw n ad mem79) := fw_D hD
    obtain ⟨kx80, ax81, ux82, Rx83, Ex84, Sx85, Ax86, Bx_87, nx88, tox89, hr990, h191, h292, h393, h494, h595, htk96, hrk97, hRX98, rds99, h8100, hok101⟩ := hq
    subst hr990
    have hrk102 : ∀ i9, i9 < R → mem79 (7 + i9) = mem (7 + i9) := fun i9 q9 => (hrk97 i9 (by omega)).trans (hrk52 i9 q9)
    obtain ⟨ft103, h9_104⟩ := hRX98.2.1
    have h1_105 : mem79 1 = .inr (0, [.ref (ad 2), .int (nI Z)]) := (hRX98.1.2.2 1 (by omega)).trans hT.1
    have h2_106 : mem79 2 = .inl (cy 0, 240, .inl f) := (hRX98.1.2.2 2 (by omega)).trans hT.2.2
    have h5_107 := hRX98.1.1.2.1
    have hbd113 := hRX98.1.1.1
    obtain ⟨S108, g109, hS_110, h220_111, h221_112⟩ := hRX98.1.1.2.2.2.2.2.2
    have hbd114 := hRX98.1.1.1
    have hce115 := (rds99.2.1 Ec (by omega)).1
    refine f_putN Bx hP hD hS (by omega) hce115 rfl inEl tyEl okEl nmEl 4 (by decide) kw_87 rfl rfl rfl rfl (Nat.le_of_ble_eq_true rfl) d_Rd_readRepetition_37 (fun H locs hP hS => ?_)
    obtain ⟨mem116, e_mem116⟩ : ∃ z, z = va_up mem79 ((20 + 2 * Ec)) (.inr (2, [.int (Bx_87 228 Ec), .int (Bx_87 229 Ec), .int (Bx_87 230 Ec), vR ad (Bx_87 231 Ec), .ref (ad (20 + 2 * kx80)), vE ad (Bx_87 233 Ec), .ref (ad (21 + 2 * Ec))])) := ⟨_, rfl⟩
    have hP : va_P D vcl (fw n ad mem116) H := by rw [e_mem116]; exact hP
    have hD : va_D (Az sz) (fw n ad mem116) := fw_D hD
    have h_mem116 : mem116 ((20 + 2 * Ec)) = .inr (2, [.int (Bx_87 228 Ec), .int (Bx_87 229 Ec), .int (Bx_87 230 Ec), vR ad (Bx_87 231 Ec), .ref (ad (20 + 2 * kx80)), vE ad (Bx_87 233 Ec), .ref (ad (21 + 2 * Ec))]) := by rw [e_mem116, va_up_self]
    have hh117 := (va_up_ne mem79 (.inr (2, [.int (Bx_87 228 Ec), .int (Bx_87 229 Ec), .int (Bx_87 230 Ec), vR ad (Bx_87 231 Ec), .ref (ad (20 + 2 * kx80)), vE ad (Bx_87 233 Ec), .ref (ad (21 + 2 * Ec))])) (show (222 : Nat) ≠ (20 + 2 * Ec) by first | decide | assumption | omega)).trans h9_104
    rw [← e_mem116] at hh117
    have hh118 := (va_up_ne mem79 (.inr (2, [.int (Bx_87 228 Ec), .int (Bx_87 229 Ec), .int (Bx_87 230 Ec), vR ad (Bx_87 231 Ec), .ref (ad (20 + 2 * kx80)), vE ad (Bx_87 233 Ec), .ref (ad (21 + 2 * Ec))])) (show (1 : Nat) ≠ (20 + 2 * Ec) by first | decide | assumption | omega)).trans h1_105
    rw [← e_mem116] at hh118
    have hh119 := (va_up_ne mem79 (.inr (2, [.int (Bx_87 228 Ec), .int (Bx_87 229 Ec), .int (Bx_87 230 Ec), vR ad (Bx_87 231 Ec), .ref (ad (20 + 2 * kx80)), vE ad (Bx_87 233 Ec), .ref (ad (21 + 2 * Ec))])) (show (5 : Nat) ≠ (20 + 2 * Ec) by first | decide | assumption | omega)).trans h5_107
    rw [← e_mem116] at hh119
    have hh120 := (va_up_ne mem79 (.inr (2, [.int (Bx_87 228 Ec), .int (Bx_87 229 Ec), .int (Bx_87 230 Ec), vR ad (Bx_87 231 Ec), .ref (ad (20 + 2 * kx80)), vE ad (Bx_87 233 Ec), .ref (ad (21 + 2 * Ec))])) (show (220 : Nat) ≠ (20 + 2 * Ec) by first | decide | assumption | omega)).trans h220_111
    rw [← e_mem116] at hh120
    have hrk121 : ∀ i9, i9 < R → mem116 (7 + i9) = mem (7 + i9) := fun i9 q9 => (show mem116 (7 + i9) = mem79 (7 + i9) by rw [e_mem116]; exact va_up_ne _ _ (by omega)).trans (hrk102 i9 q9)
    have hRX122 : RX cy ad lim (ax81) (Rx83) (Ex84) (tox89) (nx88) m0 mem116 := by rw [e_mem116]; exact hRX98.el (by omega) (hRX98.1.mk (by omega) (hRX98.1.1.upEl (by omega) (fun _ => ⟨(rds99.2.1 Ec (by omega)).2.1.oR ad, Or.inr ⟨kx80, by omega, by omega, rfl⟩, (rds99.2.1 Ec (by omega)).2.2.2.oE ad (by omega)⟩)))
    have her123 : ER ad (Rx83) (Ex84) (va_up Bx_87 232 (upd (Bx_87 232) Ec (nI kx80))) mem116 := rds99.2.1.part (by omega) (by omega) (by omega) h_mem116 (fun i9 q9 hi9 => by rw [e_mem116]; exact va_up_ne _ _ (by omega))
    have hsr124 : SR cy ad (Sx85) (Bx_87) mem116 := ⟨(show mem116 220 = mem79 220 by rw [e_mem116]; exact va_up_ne _ _ (by omega)).trans rds99.2.2.1.1, (show mem116 221 = mem79 221 by rw [e_mem116]; exact va_up_ne _ _ (by omega)).trans rds99.2.2.1.2⟩
    obtain ⟨ft125, h9_126⟩ := hRX122.2.1
    have h1_127 : mem116 1 = .inr (0, [.ref (ad 2), .int (nI Z)]) := (hRX122.1.2.2 1 (by omega)).trans hT.1
    have h2_128 : mem116 2 = .inl (cy 0, 240, .inl f) := (hRX122.1.2.2 2 (by omega)).trans hT.2.2
    have h5_129 := hRX122.1.1.2.1
    have hbd135 := hRX122.1.1.1
    obtain ⟨S130, g131, hS_132, h220_133, h221_134⟩ := hRX122.1.1.2.2.2.2.2.2
    refine lv_aload_n Bx.1 Bx.2.1 d_Rd_readRepetition_40 rfl (lv_at hl 0 rfl) ?_
    have hrd9 := rep_rds hLK hE9 hF h39 rds99 h8100 ⟨by omega, by omega⟩ (rep_suc (u := u) (R := R) (f := 3) (A := A) (nm := nm) hdg hE9 hr1 hr2 hnv hok101) her123 hsr124
    exact x_aret hx hb hlocks hr (⟨Ec, ax81, ux82, Rx83, Ex84, Sx85, _, _, nx88, tox89, rfl, by omega, by omega, by omega, by omega, by omega, htk96, hrk121, hRX122, hrd9.1, hrd9.2⟩) hP hS d_Rd_readRepetition_41
  · refine lv_aload_n Bx.1 Bx.2.1 d_Rd_readRepetition_10 rfl (lv_at hl 0 rfl) ?_
    refine lv_iload_n Bx.1 Bx.2.1 d_Rd_readRepetition_11 rfl (lv_at hl 1 rfl) ?_
    obtain ⟨hd0, h42⟩ := bpF_0 hb18
    refine f_xVr (na := 1) (As := [.int (3)]) (rest := []) Bx hml E hP hD hS (by omega) h9_2 rfl (m_Rd_readElement_3Y l hlt hn hT hf hRX (by omega) (u := u) (A := A) hER hSR hSa (by omega) hLK hF) kw_443 kw_445 sel_Rd_readElement kw_6 kw_446 (by decide +kernel) ⟨rfl, rfl⟩ ⟨Nat.le_of_ble_eq_true rfl, Nat.le_of_ble_eq_true rfl⟩ rfl hl.1 (Nat.le_of_ble_eq_true rfl) d_Rd_readRepetition_12 ⟨Nat.le_of_ble_eq_true rfl, Nat.le_of_ble_eq_true rfl⟩ (fun X ce q9 memx H locs hx9 hP hS g1 g2 g3 => f_out hlocks hno hP hS g1 g2 g3 ⟨Nat.le_of_ble_eq_true rfl, Nat.le_of_ble_eq_true rfl⟩ ⟨hx9.1, (hx9.2.resolve_right (fun z => z ⟨hbg, hd0, h42⟩)).eq (rep_no hd0 h42)⟩) (fun r136 mem137 H locs hq hP hS => ?_)
    have hD : va_D (Az sz) (fw n ad mem137) := fw_D hD
    obtain ⟨kx138, ax139, ux140, Rx141, Ex142, Sx143, Ax144, Bx_145, nx146, tox147, hr9148, h1149, h2150, h3151, h4152, h5153, htk154, hrk155, hRX156, rds157, h8158, hok159⟩ := hq
    subst hr9148
    have hrk160 : ∀ i9, i9 < R → mem137 (7 + i9) = mem (7 + i9) := fun i9 q9 => (hrk155 i9 (by omega)).trans (hrk0 i9 q9)
    obtain ⟨ft161, h9_162⟩ := hRX156.2.1
    have h1_163 : mem137 1 = .inr (0, [.ref (ad 2), .int (nI Z)]) := (hRX156.1.2.2 1 (by omega)).trans hT.1
    have h2_164 : mem137 2 = .inl (cy 0, 240, .inl f) := (hRX156.1.2.2 2 (by omega)).trans hT.2.2
    have h5_165 := hRX156.1.1.2.1
    have hbd171 := hRX156.1.1.1
    obtain ⟨S166, g167, hS_168, h220_169, h221_170⟩ := hRX156.1.1.2.2.2.2.2.2
    have hbd172 := hRX156.1.1.1
    exact x_aret hx hb hlocks hr (⟨kx138, ax139, ux140, Rx141, Ex142, Sx143, Ax144, Bx_145, nx146, tox147, rfl, h1149, h2150, h3151, h4152, h5153, htk154, hrk155, hRX156, rdsEq rds157 (rep_no hd0 h42), h8158⟩) hP hS d_Rd_readRepetition_15
set_option maxHeartbeats 4000000 in
set_option maxRecDepth 100000 in
theorem m_Rd_readSequence_3Y (l : Launch) {D : va_G} {cy : Nat → ClassId} {sz n : Nat} {ad : Nat → Nat} {mem : Nat → va_E} {Z a R Ec lim : Nat} {f T : Nat → Int32} {to : Nat → Int32} {nm : Nat → Int64} {m0 : Nat → va_E} {u S : Nat} {A Bw : Ro} {cq : Nat} (hlt : l.stackTraces = false) (hn : 224 ≤ n) (hT : TX cy ad Z f m0) (hf : ∀ k, k < Z → f k = T k) (hRX : RX cy ad lim a R Ec to nm m0 mem) (haB : a ≤ 300) (hER : ER ad R Ec Bw mem) (hSR : SR cy ad S Bw mem) (hSa : S ≤ a) (haZ : a ≤ Z) (hLK : LKa Ec A) (hc : A 237 3 = nI cq) (hcl : cq < Ec) (h39 : A 239 3 = -1) : NXr l D cy sz n ad y_Rd_readSequence c_Rd_readSequence 5 (some (.object "AbnfChart$Element")) ({ frames := 36, cells := 1, slots := 6, locals := 862 } : Room) mem [.ref (ad 222), .int (3)] (fun r mem' => ∃ (a' u' R' E' S' : Nat) (A' Bw' : Ro) (nm' : Nat → Int64) (to' : Nat → Int32), r = ad (20 + 2 * Ec) ∧ Ec < E' ∧ R ≤ R' ∧ a < a' ∧ a' ≤ Z ∧ TOK R R' to to' ∧ (∀ i9, i9 < R → mem' (7 + i9) = mem (7 + i9)) ∧ RX cy ad lim (gapF T Z a') R' E' to' nm' m0 mem' ∧ RDS cy ad T Z 3 (seqS T Z a u R Ec 3 A nm) (slotOf A cq) R Ec S u A Bw Ec a' u' R' E' S' A' Bw' nm' mem' ∧ ¬ (bgF (hereF Z T (gapF T Z a')) = true ∧ a' < gapF T Z a')) (fun X mem' => ((X = cIA ∨ X = cIS) ∧ ∃ rc' ec' : Nat, RS cy ad lim rc' ec' m0 mem') ∧ (Fai T Z (seqS T Z a u R Ec 3 A nm))) := by
  refine vx_ofW (cc := c_Rd_readSequence) (maxL := 5) (ret := (some (.object "AbnfChart$Element"))) (by decide) rfl ?_
  intro p e s m args below meth c s₁ B hml hno hv
  obtain ⟨rfl, E, hP, hD⟩ := hv
  have hx := B.exec
  have hb := B.bytes
  have hr := B.returns
  have hlocks := B.notSynchronized
  have Bx : MB p s m [.ref (ad 222), .int (3)].toArray c c_Rd_readSequence "AbnfChart$Reader" D cy := ⟨hx, hb, tb_all (atoms_spec B.pre) E.2.1, findClass_of_methodNamed B.named, E.1⟩
  have hS : va_S (Az sz) s.heap s.heap [] := va_S.rf
  have hl := lv_entry ([.ref (ad 222), .int (3)]) (n := 5) (Nat.le_of_ble_eq_true rfl)
  rw [lg_entry_eq]
  generalize (lg_sl ([.ref (ad 222), .int (3)]) ++ List.replicate (5 - (lg_sl ([.ref (ad 222), .int (3)])).length) Slot.unset).toArray = ls at hl ⊢
  have hl : lv_has ls 5 [(0, .ref (ad 222)), (1, .int (3))] := hl
  have hZ9 := hT.2.1
  have hbd9 := hRX.1.1.1
  have hfr0 : ∀ i, 7 ≤ i ∧ i < 222 ∧ i ≠ 20 + 2 * Ec → mem i = mem i := fun _ _ => rfl
  have hrk0 : ∀ i9, i9 < R → mem (7 + i9) = mem (7 + i9) := fun _ _ => rfl
  obtain ⟨ft1, h9_2⟩ := hRX.2.1
  have h1_3 : mem 1 = .inr (0, [.ref (ad 2), .int (nI Z)]) := (hRX.1.2.2 1 (by omega)).trans hT.1
  have h2_4 : mem 2 = .inl (cy 0, 240, .inl f) := (hRX.1.2.2 2 (by omega)).trans hT.2.2
  have h5_5 := hRX.1.1.2.1
  have hbd11 := hRX.1.1.1
  obtain ⟨S6, g7, hS_8, h220_9, h221_10⟩ := hRX.1.1.2.2.2.2.2.2
  refine lv_aload_n Bx.1 Bx.2.1 d_Rd_readSequence_0 rfl (lv_at hl 0 rfl) ?_
  refine lv_iconst (v := 1) Bx.1 Bx.2.1 d_Rd_readSequence_1 (by decide) ?_
  refine f_xVr (na := 1) (As := [.int (1)]) (rest := []) Bx hml E hP hD hS (by omega) h9_2 rfl (m_Rd_beginRowY l hlt hn hT hf hRX (by omega)) kw_409 kw_411 sel_Rd_beginRow kw_6 kw_412 (by decide +kernel) ⟨rfl, rfl⟩ ⟨Nat.le_of_ble_eq_true rfl, Nat.le_of_ble_eq_true rfl⟩ rfl hl.1 (Nat.le_of_ble_eq_true rfl) d_Rd_readSequence_2 ⟨Nat.le_of_ble_eq_true rfl, Nat.le_of_ble_eq_true rfl⟩ (fun X ce q9 memx H locs hx9 hP hS g1 g2 g3 => f_out hlocks hno hP hS g1 g2 g3 ⟨Nat.le_of_ble_eq_true rfl, Nat.le_of_ble_eq_true rfl⟩ ⟨hx9.1, Or.inl (seq_no hx9.2)⟩) (fun r12 mem13 H locs hq hP hS => ?_)
  have hD : va_D (Az sz) (fw n ad mem13) := fw_D hD
  obtain ⟨hbg, hE9, hr9, hRXb, hclb, hfab⟩ := hq
  subst hr9
  have hrk14 : ∀ i9, i9 < R → mem13 (7 + i9) = mem (7 + i9) := fun i9 q9 => (hfab (7 + i9) (by omega)).trans (hrk0 i9 q9)
  have hfr15 : ∀ i, 7 ≤ i ∧ i < 222 ∧ i ≠ 20 + 2 * Ec → mem13 i = mem i := fun i q => (hfab i (by omega)).trans (hfr0 i q)
  obtain ⟨ft16, h9_17⟩ := hRXb.2.1
  have h1_18 : mem13 1 = .inr (0, [.ref (ad 2), .int (nI Z)]) := (hRXb.1.2.2 1 (by omega)).trans hT.1
  have h2_19 : mem13 2 = .inl (cy 0, 240, .inl f) := (hRXb.1.2.2 2 (by omega)).trans hT.2.2
  have h5_20 := hRXb.1.1.2.1
  have hbd26 := hRXb.1.1.1
  obtain ⟨S21, g22, hS_23, h220_24, h221_25⟩ := hRXb.1.1.2.2.2.2.2.2
  obtain ⟨ft27, h9_28⟩ := hRXb.2.1
  have h1_29 : mem13 1 = .inr (0, [.ref (ad 2), .int (nI Z)]) := (hRXb.1.2.2 1 (by omega)).trans hT.1
  have h2_30 : mem13 2 = .inl (cy 0, 240, .inl f) := (hRXb.1.2.2 2 (by omega)).trans hT.2.2
  have h5_31 := hRXb.1.1.2.1
  have hbd37 := hRXb.1.1.1
  obtain ⟨S32, g33, hS_34, h220_35, h221_36⟩ := hRXb.1.1.2.2.2.2.2.2
  refine lv_astore_n (lv' := [(2, .ref (ad (20 + 2 * Ec))), (0, .ref (ad 222)), (1, .int (3))]) Bx.1 Bx.2.1 d_Rd_readSequence_5 rfl hl (by decide) rfl (fun ls hl => ?_)
  refine lv_aload_n Bx.1 Bx.2.1 d_Rd_readSequence_6 rfl (lv_at hl 1 rfl) ?_
  refine lv_iload_n Bx.1 Bx.2.1 d_Rd_readSequence_7 rfl (lv_at hl 2 rfl) ?_
  have her38 : ER ad R (Ec + 1) (bwN Bw Ec 1 (0) (0) (-1) (-1) (-1) (Bw 234)) mem13 := hER.new (Nat.le_refl _) (by rw [vR_m]; exact hclb) (Or.inl rfl) (fun i9 hi9 => hfr15 (20 + 2 * i9) (by omega))
  have hsr39 : SR cy ad S (bwN Bw Ec 1 (0) (0) (-1) (-1) (-1) (Bw 234)) mem13 := ⟨(hfr15 220 (by omega)).trans hSR.1, (hfr15 221 (by omega)).trans hSR.2⟩
  obtain ⟨hLK1, hF1, h391⟩ := frm_seq hLK hE9 hc hcl h39
  refine f_xVr (na := 1) (As := [.int (3)]) (rest := []) Bx hml E hP hD hS (by omega) h9_28 rfl (m_Rd_readRepetition_3Y l hlt hn hT hf hRXb (by omega) (u := u) (A := seqA A 3 Ec) her38 hsr39 (by omega) (by omega) hLK1 hF1 h391 hbg) kw_439 kw_441 sel_Rd_readRepetition kw_6 kw_442 (by decide +kernel) ⟨rfl, rfl⟩ ⟨Nat.le_of_ble_eq_true rfl, Nat.le_of_ble_eq_true rfl⟩ rfl hl.1 (Nat.le_of_ble_eq_true rfl) d_Rd_readSequence_8 ⟨Nat.le_of_ble_eq_true rfl, Nat.le_of_ble_eq_true rfl⟩ (fun X ce q9 memx H locs hx9 hP hS g1 g2 g3 => f_out hlocks hno hP hS g1 g2 g3 ⟨Nat.le_of_ble_eq_true rfl, Nat.le_of_ble_eq_true rfl⟩ ⟨hx9.1, hx9.2.eq (seq_ok hbg hE9)⟩) (fun r40 mem41 H locs hq hP hS => ?_)
  have hD : va_D (Az sz) (fw n ad mem41) := fw_D hD
  obtain ⟨kx42, ax43, ux44, Rx45, Ex46, Sx47, Ax48, Bx_49, nx50, tox51, hr952, h153, h254, h355, h456, h557, htk58, hrk59, hRX60, rds61, h862⟩ := hq
  subst hr952
  have hrk63 : ∀ i9, i9 < R → mem41 (7 + i9) = mem (7 + i9) := fun i9 q9 => (hrk59 i9 (by omega)).trans (hrk14 i9 q9)
  obtain ⟨ft64, h9_65⟩ := hRX60.2.1
  have h1_66 : mem41 1 = .inr (0, [.ref (ad 2), .int (nI Z)]) := (hRX60.1.2.2 1 (by omega)).trans hT.1
  have h2_67 : mem41 2 = .inl (cy 0, 240, .inl f) := (hRX60.1.2.2 2 (by omega)).trans hT.2.2
  have h5_68 := hRX60.1.1.2.1
  have hbd74 := hRX60.1.1.1
  obtain ⟨S69, g70, hS_71, h220_72, h221_73⟩ := hRX60.1.1.2.2.2.2.2.2
  have hbd75 := hRX60.1.1.1
  refine lv_astore_n (lv' := [(3, .ref (ad (20 + 2 * kx42))), (2, .ref (ad (20 + 2 * Ec))), (0, .ref (ad 222)), (1, .int (3))]) Bx.1 Bx.2.1 d_Rd_readSequence_11 rfl hl (by decide) rfl (fun ls hl => ?_)
  refine lv_aload_n Bx.1 Bx.2.1 d_Rd_readSequence_12 rfl (lv_at hl 1 rfl) ?_
  refine lv_aload_n Bx.1 Bx.2.1 d_Rd_readSequence_13 rfl (lv_at hl 0 rfl) ?_
  have hce76 := (rds61.2.1 Ec (by omega)).1
  refine f_putN Bx hP hD hS (by omega) hce76 rfl inEl tyEl okEl nmEl 4 (by decide) kw_87 rfl rfl rfl rfl (Nat.le_of_ble_eq_true rfl) d_Rd_readSequence_14 (fun H locs hP hS => ?_)
  obtain ⟨mem77, e_mem77⟩ : ∃ z, z = va_up mem41 ((20 + 2 * Ec)) (.inr (2, [.int (Bx_49 228 Ec), .int (Bx_49 229 Ec), .int (Bx_49 230 Ec), vR ad (Bx_49 231 Ec), .ref (ad (20 + 2 * kx42)), vE ad (Bx_49 233 Ec), .ref (ad (21 + 2 * Ec))])) := ⟨_, rfl⟩
  have hP : va_P D vcl (fw n ad mem77) H := by rw [e_mem77]; exact hP
  have hD : va_D (Az sz) (fw n ad mem77) := fw_D hD
  have h_mem77 : mem77 ((20 + 2 * Ec)) = .inr (2, [.int (Bx_49 228 Ec), .int (Bx_49 229 Ec), .int (Bx_49 230 Ec), vR ad (Bx_49 231 Ec), .ref (ad (20 + 2 * kx42)), vE ad (Bx_49 233 Ec), .ref (ad (21 + 2 * Ec))]) := by rw [e_mem77, va_up_self]
  have hh78 := (va_up_ne mem41 (.inr (2, [.int (Bx_49 228 Ec), .int (Bx_49 229 Ec), .int (Bx_49 230 Ec), vR ad (Bx_49 231 Ec), .ref (ad (20 + 2 * kx42)), vE ad (Bx_49 233 Ec), .ref (ad (21 + 2 * Ec))])) (show (222 : Nat) ≠ (20 + 2 * Ec) by first | decide | assumption | omega)).trans h9_65
  rw [← e_mem77] at hh78
  have hh79 := (va_up_ne mem41 (.inr (2, [.int (Bx_49 228 Ec), .int (Bx_49 229 Ec), .int (Bx_49 230 Ec), vR ad (Bx_49 231 Ec), .ref (ad (20 + 2 * kx42)), vE ad (Bx_49 233 Ec), .ref (ad (21 + 2 * Ec))])) (show (1 : Nat) ≠ (20 + 2 * Ec) by first | decide | assumption | omega)).trans h1_66
  rw [← e_mem77] at hh79
  have hh80 := (va_up_ne mem41 (.inr (2, [.int (Bx_49 228 Ec), .int (Bx_49 229 Ec), .int (Bx_49 230 Ec), vR ad (Bx_49 231 Ec), .ref (ad (20 + 2 * kx42)), vE ad (Bx_49 233 Ec), .ref (ad (21 + 2 * Ec))])) (show (5 : Nat) ≠ (20 + 2 * Ec) by first | decide | assumption | omega)).trans h5_68
  rw [← e_mem77] at hh80
  have hh81 := (va_up_ne mem41 (.inr (2, [.int (Bx_49 228 Ec), .int (Bx_49 229 Ec), .int (Bx_49 230 Ec), vR ad (Bx_49 231 Ec), .ref (ad (20 + 2 * kx42)), vE ad (Bx_49 233 Ec), .ref (ad (21 + 2 * Ec))])) (show (220 : Nat) ≠ (20 + 2 * Ec) by first | decide | assumption | omega)).trans h220_72
  rw [← e_mem77] at hh81
  have hrk82 : ∀ i9, i9 < R → mem77 (7 + i9) = mem (7 + i9) := fun i9 q9 => (show mem77 (7 + i9) = mem41 (7 + i9) by rw [e_mem77]; exact va_up_ne _ _ (by omega)).trans (hrk63 i9 q9)
  have hRX83 : RX cy ad lim (ax43) (Rx45) (Ex46) (tox51) (nx50) m0 mem77 := by rw [e_mem77]; exact hRX60.el (by omega) (hRX60.1.mk (by omega) (hRX60.1.1.upEl (by omega) (fun _ => ⟨(rds61.2.1 Ec (by omega)).2.1.oR ad, Or.inr ⟨kx42, by omega, by omega, rfl⟩, (rds61.2.1 Ec (by omega)).2.2.2.oE ad (by omega)⟩)))
  have her84 : ER ad (Rx45) (Ex46) (va_up Bx_49 232 (upd (Bx_49 232) Ec (nI kx42))) mem77 := rds61.2.1.part (by omega) (by omega) (by omega) h_mem77 (fun i9 q9 hi9 => by rw [e_mem77]; exact va_up_ne _ _ (by omega))
  have hsr85 : SR cy ad (Sx47) (Bx_49) mem77 := ⟨(show mem77 220 = mem41 220 by rw [e_mem77]; exact va_up_ne _ _ (by omega)).trans rds61.2.2.1.1, (show mem77 221 = mem41 221 by rw [e_mem77]; exact va_up_ne _ _ (by omega)).trans rds61.2.2.1.2⟩
  obtain ⟨ft86, h9_87⟩ := hRX83.2.1
  have h1_88 : mem77 1 = .inr (0, [.ref (ad 2), .int (nI Z)]) := (hRX83.1.2.2 1 (by omega)).trans hT.1
  have h2_89 : mem77 2 = .inl (cy 0, 240, .inl f) := (hRX83.1.2.2 2 (by omega)).trans hT.2.2
  have h5_90 := hRX83.1.1.2.1
  have hbd96 := hRX83.1.1.1
  obtain ⟨S91, g92, hS_93, h220_94, h221_95⟩ := hRX83.1.1.2.2.2.2.2.2
  refine lv_iconst (v := 0) Bx.1 Bx.2.1 d_Rd_readSequence_17 (by decide) ?_
  refine lv_istore (lv' := [(4, .int (0)), (3, .ref (ad (20 + 2 * kx42))), (2, .ref (ad (20 + 2 * Ec))), (0, .ref (ad 222)), (1, .int (3))]) Bx.1 Bx.2.1 d_Rd_readSequence_18 hl (by decide) rfl (fun ls hl => ?_)
  have hsl9 := slot_lt hLK (by omega) hcl
  have hsq0 := seq_first hLK hE9 hc hcl h39 rds61 h862 ⟨by omega, by omega⟩ (by omega) (seq_ok (u := u) (R := R) (f := 3) (A := A) (nm := nm) hbg hE9) her84 hsr85
  have loop97 : ∀ (d98 : Nat) (mem9 : Nat → va_E) (a1 : Nat) (u1 : Nat) (R1 : Nat) (E1 : Nat) (S1 : Nat) (A1 : Ro) (B1 : Ro) (n1 : Nat → Int64) (to1 : Nat → Int32) (la : Nat) (k9 : Nat) (ls : Array Slot) (H : Heap) (locs : List Loc), (240 - k9 < d98) → (RX cy ad lim a1 R1 E1 to1 n1 m0 mem9) → (a < a1 ∧ a1 ≤ Z ∧ R ≤ R1 ∧ k9 < a1 ∧ k9 ≤ 240) → (SQI cy ad T Z 3 (seqS T Z a u R Ec 3 A nm) (slotOf A cq) R Ec S u A Bw la a1 u1 R1 E1 S1 A1 B1 n1 mem9) → (TOK R R1 to to1) → (∀ i9, i9 < R → mem9 (7 + i9) = mem (7 + i9)) → (va_P D vcl (fw n ad mem9) H) → (va_D (Az sz) (fw n ad mem9)) → (va_S (Az sz) s.heap H locs) → (lv_has ls 5 [(4, .int (nI k9)), (3, .ref (ad (20 + 2 * la))), (2, .ref (ad (20 + 2 * Ec))), (0, .ref (ad 222)), (1, .int (3))]) → W p l e (headSpec (Cond.code y_Rd_readSequence c_Rd_readSequence 5 (some (.object "AbnfChart$Element")) :: tg) ({ frames := 36, cells := 1, slots := 6, locals := 862 } : Room)).room s m [.ref (ad 222), .int (3)].toArray below meth c H locs 0 0 (vx_MQ below (QX (QR (fun r mem' => ∃ (a' u' R' E' S' : Nat) (A' Bw' : Ro) (nm' : Nat → Int64) (to' : Nat → Int32), r = ad (20 + 2 * Ec) ∧ Ec < E' ∧ R ≤ R' ∧ a < a' ∧ a' ≤ Z ∧ TOK R R' to to' ∧ (∀ i9, i9 < R → mem' (7 + i9) = mem (7 + i9)) ∧ RX cy ad lim (gapF T Z a') R' E' to' nm' m0 mem' ∧ RDS cy ad T Z 3 (seqS T Z a u R Ec 3 A nm) (slotOf A cq) R Ec S u A Bw Ec a' u' R' E' S' A' Bw' nm' mem' ∧ ¬ (bgF (hereF Z T (gapF T Z a')) = true ∧ a' < gapF T Z a')) (PP D n ad) (Az sz))) (XQ D sz n ad (fun X mem' => ((X = cIA ∨ X = cIS) ∧ ∃ rc' ec' : Nat, RS cy ad lim rc' ec' m0 mem') ∧ (Fai T Z (seqS T Z a u R Ec 3 A nm)))) [.ref (ad 222), .int (3)].toArray s 1 6 (Az sz)) (F0 m 20 ls []) := by
    intro d98
    induction d98 with
    | zero => intro mem9 a1 u1 R1 E1 S1 A1 B1 n1 to1 la k9 ls H locs hmeas105; exact absurd hmeas105 (Nat.not_lt_zero _)
    | succ d98 ih104 =>
      intro mem9 a1 u1 R1 E1 S1 A1 B1 n1 to1 la k9 ls H locs hmeas105 hz99 hz100 hz101 hz102 hz103 hP hD hS hl
      have hbd8 := hz100
      have hsq := hz101
      have hbdE := hz99.1.1.1
      have hla := hsq.2.2.2
      have hSa1 := hsq.1.2.2.2.1.2.1
      have hlka := sqi_lka hsq hLK hsl9
      obtain ⟨ft106, h9_107⟩ := hz99.2.1
      have h1_108 : mem9 1 = .inr (0, [.ref (ad 2), .int (nI Z)]) := (hz99.1.2.2 1 (by omega)).trans hT.1
      have h2_109 : mem9 2 = .inl (cy 0, 240, .inl f) := (hz99.1.2.2 2 (by omega)).trans hT.2.2
      have h5_110 := hz99.1.1.2.1
      have hbd116 := hz99.1.1.1
      obtain ⟨S111, g112, hS_113, h220_114, h221_115⟩ := hz99.1.1.2.2.2.2.2.2
      refine lv_iload Bx.1 Bx.2.1 d_Rd_readSequence_20 (lv_at hl 0 rfl) ?_
      refine lv_sipush (v := 240) Bx.1 Bx.2.1 d_Rd_readSequence_22 (by decide) ?_
      refine lv_icmp_ge Bx.1 Bx.2.1 d_Rd_readSequence_25 rfl (fun hb117 => ?_) (fun hb117 => ?_)
      · have hN118 : 240 ≤ k9 := (nI_leI (by omega) (by omega)).mp (show nI (240) ≤ nI (k9) from hb117)
        exact absurd hbd8 (by omega)
      · have hN119 : ¬ 240 ≤ k9 := fun q9 => hb117 (show nI (240) ≤ nI (k9) from (nI_leI (by omega) (by omega)).mpr q9)
        refine lv_aload_n Bx.1 Bx.2.1 d_Rd_readSequence_28 rfl (lv_at hl 3 rfl) ?_
        refine f_callVi (na := 0) (As := []) (rest := []) Bx hml E hP hD hS (by omega) h9_107 rfl (m_Rd_readGapY l hn hT hf hz99 (by omega) (by omega)) kw_397 kw_399 sel_Rd_readGap kw_6 kw_400 (by decide +kernel) ⟨rfl, rfl⟩ ⟨Nat.le_of_ble_eq_true rfl, Nat.le_of_ble_eq_true rfl⟩ rfl hl.1 (Nat.le_of_ble_eq_true rfl) d_Rd_readSequence_29 ⟨Nat.le_of_ble_eq_true rfl, Nat.le_of_ble_eq_true rfl⟩ (fun r120 mem121 H locs hq hP hS => ?_)
        have hD : va_D (Az sz) (fw n ad mem121) := fw_D hD
        obtain ⟨g122, eg123⟩ : ∃ z, z = gapF T Z (a1) := ⟨_, rfl⟩
        rw [← eg123] at hq
        obtain ⟨hRX124, hgc125, hfa126⟩ := hq
        have hg127 : a1 ≤ g122 := by rw [eg123]; exact gapF_ge T Z _
        have hg128 : g122 ≤ Z := by rw [eg123]; exact gapF_le T (by omega)
        have hrk129 : ∀ i9, i9 < R → mem121 (7 + i9) = mem (7 + i9) := fun i9 q9 => (hfa126 (7 + i9) (by omega)).trans (hz103 i9 q9)
        obtain ⟨ft130, h9_131⟩ := hRX124.2.1
        have h1_132 : mem121 1 = .inr (0, [.ref (ad 2), .int (nI Z)]) := (hRX124.1.2.2 1 (by omega)).trans hT.1
        have h2_133 : mem121 2 = .inl (cy 0, 240, .inl f) := (hRX124.1.2.2 2 (by omega)).trans hT.2.2
        have h5_134 := hRX124.1.1.2.1
        have hbd140 := hRX124.1.1.1
        obtain ⟨S135, g136, hS_137, h220_138, h221_139⟩ := hRX124.1.1.2.2.2.2.2.2
        have her141 : ER ad (R1) (E1) (B1) mem121 := hsq.1.2.1.fr (Nat.le_refl _) (fun i9 hi9 => hfa126 _ (by omega))
        have hsr142 : SR cy ad (S1) (B1) mem121 := ⟨(show mem121 220 = _ from hfa126 _ (by omega)).trans hsq.1.2.2.1.1, (show mem121 221 = _ from hfa126 _ (by omega)).trans hsq.1.2.2.1.2⟩
        rcases hgc125 with ⟨hr143, hga144⟩ | ⟨hr143, hga144⟩
        · subst hr143
          refine lv_if_eq Bx.1 Bx.2.1 d_Rd_readSequence_32 rfl (fun hb145 => ?_) (fun hb145 => ?_)
          · exact absurd hb145 (by decide)
          · refine lv_aload_n Bx.1 Bx.2.1 d_Rd_readSequence_35 rfl (lv_at hl 3 rfl) ?_
            refine f_callVi (na := 0) (As := []) (rest := []) Bx hml E hP hD hS (by omega) h9_131 rfl (m_Rd_peekX l hn hT hf hRX124 (by omega)) kw_353 kw_355 sel_Rd_peek kw_6 kw_356 (by decide +kernel) ⟨rfl, rfl⟩ ⟨Nat.le_of_ble_eq_true rfl, Nat.le_of_ble_eq_true rfl⟩ rfl hl.1 (Nat.le_of_ble_eq_true rfl) d_Rd_readSequence_36 ⟨Nat.le_of_ble_eq_true rfl, Nat.le_of_ble_eq_true rfl⟩ (fun r147 mem148 H locs hq hP hS => ?_)
            have hD : va_D (Az sz) (fw n ad mem148) := fw_D hD
            obtain ⟨hqe, hpk146⟩ := hq
            rw [hqe] at hP hD
            subst hpk146
            refine f_callSi (na := 1) (As := [.int (hereF Z T (g122))]) (rest := []) Bx hml E.2.1 (m_Rd_beginsRepetitionX l (hereF Z T (g122))) kw_413 kw_414 kw_6 kw_415 (by decide +kernel) ⟨rfl, rfl⟩ ⟨Nat.le_of_ble_eq_true rfl, Nat.le_of_ble_eq_true rfl⟩ rfl hl.1 (Nat.le_of_ble_eq_true rfl) d_Rd_readSequence_39 ⟨Nat.le_of_ble_eq_true rfl, Nat.le_of_ble_eq_true rfl⟩ (fun r151 hs150 => ?_)
            subst hs150
            refine lv_if_eq Bx.1 Bx.2.1 d_Rd_readSequence_42 rfl (fun hb152 => ?_) (fun hb152 => ?_)
            · refine lv_aload_n Bx.1 Bx.2.1 d_Rd_readSequence_65 rfl (lv_at hl 2 rfl) ?_
              exact x_aret hx hb hlocks hr (⟨a1, u1, R1, E1, S1, A1, B1, n1, to1, rfl, by omega, by omega, by omega, by omega, hz102, hrk129, by rw [← eg123]; exact hRX124, ⟨hsq.1.1, her141, hsr142, hsq.1.2.2.2⟩, fun z => by have q9 := z.1; rw [← eg123, bg_0 hb152] at q9; exact absurd q9 (by decide)⟩) hP hS d_Rd_readSequence_66
            · have hbg2 : bgF (hereF Z T (gapF T Z a1)) = true := by rw [← eg123]; exact bg_1 hb152
              have hgt2 : a1 < gapF T Z a1 := by rw [← eg123]; omega
              have h238 := hsq.2.1
              have h239 : A1 239 3 = -1 := hsq.1.2.2.2.2.2.2.2.2.2.2
              refine lv_aload_n Bx.1 Bx.2.1 d_Rd_readSequence_45 rfl (lv_at hl 1 rfl) ?_
              refine lv_aload_n Bx.1 Bx.2.1 d_Rd_readSequence_46 rfl (lv_at hl 3 rfl) ?_
              refine lv_iload_n Bx.1 Bx.2.1 d_Rd_readSequence_47 rfl (lv_at hl 4 rfl) ?_
              refine f_xVr (na := 1) (As := [.int (3)]) (rest := [.ref (ad (20 + 2 * la))]) Bx hml E hP hD hS (by omega) h9_131 rfl (m_Rd_readRepetition_3Y l hlt hn hT hf hRX124 (by omega) (u := u1) (A := A1) her141 hsr142 (by omega) (by omega) hlka ⟨⟨Ec, by omega, h238⟩, Or.inl h239⟩ h239 (by rw [eg123]; exact hbg2)) kw_439 kw_441 sel_Rd_readRepetition kw_6 kw_442 (by decide +kernel) ⟨rfl, rfl⟩ ⟨Nat.le_of_ble_eq_true rfl, Nat.le_of_ble_eq_true rfl⟩ rfl hl.1 (Nat.le_of_ble_eq_true rfl) d_Rd_readSequence_48 ⟨Nat.le_of_ble_eq_true rfl, Nat.le_of_ble_eq_true rfl⟩ (fun X ce q9 memx H locs hx9 hP hS g1 g2 g3 => f_out hlocks hno hP hS g1 g2 g3 ⟨Nat.le_of_ble_eq_true rfl, Nat.le_of_ble_eq_true rfl⟩ ⟨hx9.1, hsq.1.1.fai (go_rept hbg2 hgt2) (by rw [← eg123]; exact hx9.2)⟩) (fun r153 mem154 H locs hq hP hS => ?_)
              have hD : va_D (Az sz) (fw n ad mem154) := fw_D hD
              obtain ⟨kx155, ax156, ux157, Rx158, Ex159, Sx160, Ax161, Bx_162, nx163, tox164, hr9165, h1166, h2167, h3168, h4169, h5170, htk171, hrk172, hRX173, rds174, h8175⟩ := hq
              subst hr9165
              have hrk176 : ∀ i9, i9 < R → mem154 (7 + i9) = mem (7 + i9) := fun i9 q9 => (hrk172 i9 (by omega)).trans (hrk129 i9 q9)
              obtain ⟨ft177, h9_178⟩ := hRX173.2.1
              have h1_179 : mem154 1 = .inr (0, [.ref (ad 2), .int (nI Z)]) := (hRX173.1.2.2 1 (by omega)).trans hT.1
              have h2_180 : mem154 2 = .inl (cy 0, 240, .inl f) := (hRX173.1.2.2 2 (by omega)).trans hT.2.2
              have h5_181 := hRX173.1.1.2.1
              have hbd187 := hRX173.1.1.1
              obtain ⟨S182, g183, hS_184, h220_185, h221_186⟩ := hRX173.1.1.2.2.2.2.2.2
              have hbd188 := hRX173.1.1.1
              have hce189 := (rds174.2.1 la (by omega)).1
              refine f_putN Bx hP hD hS (by omega) hce189 rfl inEl tyEl okEl nmEl 5 (by decide) kw_91 rfl rfl rfl rfl (Nat.le_of_ble_eq_true rfl) d_Rd_readSequence_51 (fun H locs hP hS => ?_)
              obtain ⟨mem190, e_mem190⟩ : ∃ z, z = va_up mem154 ((20 + 2 * la)) (.inr (2, [.int (Bx_162 228 la), .int (Bx_162 229 la), .int (Bx_162 230 la), vR ad (Bx_162 231 la), vE ad (Bx_162 232 la), .ref (ad (20 + 2 * kx155)), .ref (ad (21 + 2 * la))])) := ⟨_, rfl⟩
              have hP : va_P D vcl (fw n ad mem190) H := by rw [e_mem190]; exact hP
              have hD : va_D (Az sz) (fw n ad mem190) := fw_D hD
              have h_mem190 : mem190 ((20 + 2 * la)) = .inr (2, [.int (Bx_162 228 la), .int (Bx_162 229 la), .int (Bx_162 230 la), vR ad (Bx_162 231 la), vE ad (Bx_162 232 la), .ref (ad (20 + 2 * kx155)), .ref (ad (21 + 2 * la))]) := by rw [e_mem190, va_up_self]
              have hh191 := (va_up_ne mem154 (.inr (2, [.int (Bx_162 228 la), .int (Bx_162 229 la), .int (Bx_162 230 la), vR ad (Bx_162 231 la), vE ad (Bx_162 232 la), .ref (ad (20 + 2 * kx155)), .ref (ad (21 + 2 * la))])) (show (222 : Nat) ≠ (20 + 2 * la) by first | decide | assumption | omega)).trans h9_178
              rw [← e_mem190] at hh191
              have hh192 := (va_up_ne mem154 (.inr (2, [.int (Bx_162 228 la), .int (Bx_162 229 la), .int (Bx_162 230 la), vR ad (Bx_162 231 la), vE ad (Bx_162 232 la), .ref (ad (20 + 2 * kx155)), .ref (ad (21 + 2 * la))])) (show (1 : Nat) ≠ (20 + 2 * la) by first | decide | assumption | omega)).trans h1_179
              rw [← e_mem190] at hh192
              have hh193 := (va_up_ne mem154 (.inr (2, [.int (Bx_162 228 la), .int (Bx_162 229 la), .int (Bx_162 230 la), vR ad (Bx_162 231 la), vE ad (Bx_162 232 la), .ref (ad (20 + 2 * kx155)), .ref (ad (21 + 2 * la))])) (show (5 : Nat) ≠ (20 + 2 * la) by first | decide | assumption | omega)).trans h5_181
              rw [← e_mem190] at hh193
              have hh194 := (va_up_ne mem154 (.inr (2, [.int (Bx_162 228 la), .int (Bx_162 229 la), .int (Bx_162 230 la), vR ad (Bx_162 231 la), vE ad (Bx_162 232 la), .ref (ad (20 + 2 * kx155)), .ref (ad (21 + 2 * la))])) (show (220 : Nat) ≠ (20 + 2 * la) by first | decide | assumption | omega)).trans h220_185
              rw [← e_mem190] at hh194
              have hrk195 : ∀ i9, i9 < R → mem190 (7 + i9) = mem (7 + i9) := fun i9 q9 => (show mem190 (7 + i9) = mem154 (7 + i9) by rw [e_mem190]; exact va_up_ne _ _ (by omega)).trans (hrk176 i9 q9)
              have hRX196 : RX cy ad lim (ax156) (Rx158) (Ex159) (tox164) (nx163) m0 mem190 := by rw [e_mem190]; exact hRX173.el (by omega) (hRX173.1.mk (by omega) (hRX173.1.1.upEl (by omega) (fun _ => ⟨(rds174.2.1 la (by omega)).2.1.oR ad, (rds174.2.1 la (by omega)).2.2.1.oE ad (by omega), Or.inr ⟨kx155, by omega, by omega, rfl⟩⟩)))
              have her197 : ER ad (Rx158) (Ex159) (va_up Bx_162 233 (upd (Bx_162 233) la (nI kx155))) mem190 := rds174.2.1.next (by omega) (by omega) (by omega) h_mem190 (fun i9 q9 hi9 => by rw [e_mem190]; exact va_up_ne _ _ (by omega))
              have hsr198 : SR cy ad (Sx160) (Bx_162) mem190 := ⟨(show mem190 220 = mem154 220 by rw [e_mem190]; exact va_up_ne _ _ (by omega)).trans rds174.2.2.1.1, (show mem190 221 = mem154 221 by rw [e_mem190]; exact va_up_ne _ _ (by omega)).trans rds174.2.2.1.2⟩
              obtain ⟨ft199, h9_200⟩ := hRX196.2.1
              have h1_201 : mem190 1 = .inr (0, [.ref (ad 2), .int (nI Z)]) := (hRX196.1.2.2 1 (by omega)).trans hT.1
              have h2_202 : mem190 2 = .inl (cy 0, 240, .inl f) := (hRX196.1.2.2 2 (by omega)).trans hT.2.2
              have h5_203 := hRX196.1.1.2.1
              have hbd209 := hRX196.1.1.1
              obtain ⟨S204, g205, hS_206, h220_207, h221_208⟩ := hRX196.1.1.2.2.2.2.2.2
              refine lv_aload_n Bx.1 Bx.2.1 d_Rd_readSequence_54 rfl (lv_at hl 1 rfl) ?_
              refine f_getN Bx hP (by omega) h_mem190 rfl inEl 5 (by decide) kw_91 rfl rfl d_Rd_readSequence_55 ?_
              refine lv_astore_n (lv' := [(3, .ref (ad (20 + 2 * kx155))), (4, .int (nI k9)), (2, .ref (ad (20 + 2 * Ec))), (0, .ref (ad 222)), (1, .int (3))]) Bx.1 Bx.2.1 d_Rd_readSequence_58 rfl hl (by decide) rfl (fun ls hl => ?_)
              refine lv_iinc (lv' := [(4, .int ((nI k9 + (1)))), (3, .ref (ad (20 + 2 * kx155))), (2, .ref (ad (20 + 2 * Ec))), (0, .ref (ad 222)), (1, .int (3))]) Bx.1 Bx.2.1 d_Rd_readSequence_59 hl (k := 1) rfl rfl (by decide) rfl (fun ls hl => ?_)
              rw [show (nI k9 + (1) : Int32) = nI (k9 + 1) from nI_1 (k9)] at hl
              refine lv_goto Bx.1 Bx.2.1 d_Rd_readSequence_62 rfl ?_
              have hsq3 := seq_step hsq (by omega) hlka (by omega) hsl9 rds174 h8175 ⟨by omega, by omega⟩ (by omega) (by rw [eg123]; exact go_rept hbg2 hgt2) her197 hsr198
              exact ih104 mem190 (ax156) (ux157) (Rx158) (Ex159) (Sx160) (Ax161) ((va_up Bx_162 233 (upd (Bx_162 233) la (nI kx155)))) (nx163) (tox164) (kx155) (k9 + 1) _ _ _ (by have := hmeas105; omega) (hRX196) (⟨by omega, by omega, by omega, by omega, by omega⟩) (hsq3) (hz102.trans htk171 (by omega)) (hrk195) hP hD hS (lv_sub hl [0, 1, 2, 3, 4] rfl)
        · subst hr143
          refine lv_if_eq Bx.1 Bx.2.1 d_Rd_readSequence_32 rfl (fun hb210 => ?_) (fun hb210 => ?_)
          · refine lv_aload_n Bx.1 Bx.2.1 d_Rd_readSequence_65 rfl (lv_at hl 2 rfl) ?_
            exact x_aret hx hb hlocks hr (⟨a1, u1, R1, E1, S1, A1, B1, n1, to1, rfl, by omega, by omega, by omega, by omega, hz102, hrk129, by rw [← eg123]; exact hRX124, ⟨hsq.1.1, her141, hsr142, hsq.1.2.2.2⟩, fun z => by have := z.2; rw [← eg123] at this; omega⟩) hP hS d_Rd_readSequence_66
          · exact absurd hb210 (by decide)
  exact loop97 _ mem77 (ax43) (ux44) (Rx45) (Ex46) (Sx47) (Ax48) ((va_up Bx_49 232 (upd (Bx_49 232) Ec (nI kx42)))) (nx50) (tox51) (kx42) (0) _ _ _ (Nat.lt_succ_self _) (hRX83) (⟨by omega, by omega, by omega, by omega, by omega⟩) (hsq0) (htk58) (hrk82) hP hD hS (lv_sub hl [0, 1, 2, 3, 4] rfl)
set_option maxHeartbeats 4000000 in
set_option maxRecDepth 100000 in
theorem m_Rd_readAlternatives_3Y (l : Launch) {D : va_G} {cy : Nat → ClassId} {sz n : Nat} {ad : Nat → Nat} {mem : Nat → va_E} {Z a R Ec lim : Nat} {f T : Nat → Int32} {to : Nat → Int32} {nm : Nat → Int64} {m0 : Nat → va_E} {u S : Nat} {A Bw : Ro} {cq : Nat} (hlt : l.stackTraces = false) (hn : 224 ≤ n) (hT : TX cy ad Z f m0) (hf : ∀ k, k < Z → f k = T k) (hRX : RX cy ad lim a R Ec to nm m0 mem) (haB : a ≤ 300) (hER : ER ad R Ec Bw mem) (hSR : SR cy ad S Bw mem) (hSa : S ≤ a) (haZ : a ≤ Z) (hLK : LKa (Ec + 1) A) (hc : A 237 3 = nI cq) (hcl : cq ≤ Ec) (h39 : A 239 3 = -1) : NXr l D cy sz n ad y_Rd_readAlternatives c_Rd_readAlternatives 5 (some (.object "AbnfChart$Element")) ({ frames := 37, cells := 1, slots := 6, locals := 888 } : Room) mem [.ref (ad 222), .int (3)] (fun r mem' => ∃ (la a' u' R' E' S' : Nat) (A' Bw' : Ro) (nm' : Nat → Int64) (to' : Nat → Int32), r = ad (20 + 2 * Ec) ∧ Ec + 1 < E' ∧ R ≤ R' ∧ a < a' ∧ a' ≤ Z ∧ TOK R R' to to' ∧ (∀ i9, i9 < R → mem' (7 + i9) = mem (7 + i9)) ∧ RX cy ad lim (gapF T Z a') R' E' to' nm' m0 mem' ∧ ALI cy ad T Z 3 (seqS T Z a u R (Ec + 1) 3 A nm) cq R Ec S u A Bw la a' u' R' E' S' A' Bw' nm' mem' ∧ bgF (hereF Z T a) = true ∧ Ec < 100 ∧ ¬ hereF Z T (gapF T Z a') = 47 ∧ ¬ (bgF (hereF Z T (gapF T Z a')) = true ∧ a' < gapF T Z a')) (fun X mem' => ((X = cIA ∨ X = cIS) ∧ ∃ rc' ec' : Nat, RS cy ad lim rc' ec' m0 mem') ∧ (bgF (hereF Z T a) = false ∨ Ec = 100 ∨ (bgF (hereF Z T a) = true ∧ Ec < 100 ∧ Fai T Z (seqS T Z a u R (Ec + 1) 3 A nm)))) := by
  refine vx_ofW (cc := c_Rd_readAlternatives) (maxL := 5) (ret := (some (.object "AbnfChart$Element"))) (by decide) rfl ?_
  intro p e s m args below meth c s₁ B hml hno hv
  obtain ⟨rfl, E, hP, hD⟩ := hv
  have hx := B.exec
  have hb := B.bytes
  have hr := B.returns
  have hlocks := B.notSynchronized
  have Bx : MB p s m [.ref (ad 222), .int (3)].toArray c c_Rd_readAlternatives "AbnfChart$Reader" D cy := ⟨hx, hb, tb_all (atoms_spec B.pre) E.2.1, findClass_of_methodNamed B.named, E.1⟩
  have hS : va_S (Az sz) s.heap s.heap [] := va_S.rf
  have hl := lv_entry ([.ref (ad 222), .int (3)]) (n := 5) (Nat.le_of_ble_eq_true rfl)
  rw [lg_entry_eq]
  generalize (lg_sl ([.ref (ad 222), .int (3)]) ++ List.replicate (5 - (lg_sl ([.ref (ad 222), .int (3)])).length) Slot.unset).toArray = ls at hl ⊢
  have hl : lv_has ls 5 [(0, .ref (ad 222)), (1, .int (3))] := hl
  have hZ9 := hT.2.1
  have hbd9 := hRX.1.1.1
  have hfr0 : ∀ i, 7 ≤ i ∧ i < 222 ∧ i ≠ 20 + 2 * Ec → mem i = mem i := fun _ _ => rfl
  have hrk0 : ∀ i9, i9 < R → mem (7 + i9) = mem (7 + i9) := fun _ _ => rfl
  obtain ⟨ft1, h9_2⟩ := hRX.2.1
  have h1_3 : mem 1 = .inr (0, [.ref (ad 2), .int (nI Z)]) := (hRX.1.2.2 1 (by omega)).trans hT.1
  have h2_4 : mem 2 = .inl (cy 0, 240, .inl f) := (hRX.1.2.2 2 (by omega)).trans hT.2.2
  have h5_5 := hRX.1.1.2.1
  have hbd11 := hRX.1.1.1
  obtain ⟨S6, g7, hS_8, h220_9, h221_10⟩ := hRX.1.1.2.2.2.2.2.2
  refine lv_aload_n Bx.1 Bx.2.1 d_Rd_readAlternatives_0 rfl (lv_at hl 0 rfl) ?_
  refine lv_iconst (v := 0) Bx.1 Bx.2.1 d_Rd_readAlternatives_1 (by decide) ?_
  refine f_xVr (na := 1) (As := [.int (0)]) (rest := []) Bx hml E hP hD hS (by omega) h9_2 rfl (m_Rd_beginRowY l hlt hn hT hf hRX (by omega)) kw_409 kw_411 sel_Rd_beginRow kw_6 kw_412 (by decide +kernel) ⟨rfl, rfl⟩ ⟨Nat.le_of_ble_eq_true rfl, Nat.le_of_ble_eq_true rfl⟩ rfl hl.1 (Nat.le_of_ble_eq_true rfl) d_Rd_readAlternatives_2 ⟨Nat.le_of_ble_eq_true rfl, Nat.le_of_ble_eq_true rfl⟩ (fun X ce q9 memx H locs hx9 hP hS g1 g2 g3 => f_out hlocks hno hP hS g1 g2 g3 ⟨Nat.le_of_ble_eq_true rfl, Nat.le_of_ble_eq_true rfl⟩ ⟨hx9.1, hx9.2.elim Or.inl (fun z => Or.inr (Or.inl z))⟩) (fun r12 mem13 H locs hq hP hS => ?_)
  have hD : va_D (Az sz) (fw n ad mem13) := fw_D hD
  obtain ⟨hbg, hE9, hr9, hRXb, hclb, hfab⟩ := hq
  subst hr9
  have hrk14 : ∀ i9, i9 < R → mem13 (7 + i9) = mem (7 + i9) := fun i9 q9 => (hfab (7 + i9) (by omega)).trans (hrk0 i9 q9)
  have hfr15 : ∀ i, 7 ≤ i ∧ i < 222 ∧ i ≠ 20 + 2 * Ec → mem13 i = mem i := fun i q => (hfab i (by omega)).trans (hfr0 i q)
  obtain ⟨ft16, h9_17⟩ := hRXb.2.1
  have h1_18 : mem13 1 = .inr (0, [.ref (ad 2), .int (nI Z)]) := (hRXb.1.2.2 1 (by omega)).trans hT.1
  have h2_19 : mem13 2 = .inl (cy 0, 240, .inl f) := (hRXb.1.2.2 2 (by omega)).trans hT.2.2
  have h5_20 := hRXb.1.1.2.1
  have hbd26 := hRXb.1.1.1
  obtain ⟨S21, g22, hS_23, h220_24, h221_25⟩ := hRXb.1.1.2.2.2.2.2.2
  obtain ⟨ft27, h9_28⟩ := hRXb.2.1
  have h1_29 : mem13 1 = .inr (0, [.ref (ad 2), .int (nI Z)]) := (hRXb.1.2.2 1 (by omega)).trans hT.1
  have h2_30 : mem13 2 = .inl (cy 0, 240, .inl f) := (hRXb.1.2.2 2 (by omega)).trans hT.2.2
  have h5_31 := hRXb.1.1.2.1
  have hbd37 := hRXb.1.1.1
  obtain ⟨S32, g33, hS_34, h220_35, h221_36⟩ := hRXb.1.1.2.2.2.2.2.2
  refine lv_astore_n (lv' := [(2, .ref (ad (20 + 2 * Ec))), (0, .ref (ad 222)), (1, .int (3))]) Bx.1 Bx.2.1 d_Rd_readAlternatives_5 rfl hl (by decide) rfl (fun ls hl => ?_)
  refine lv_aload_n Bx.1 Bx.2.1 d_Rd_readAlternatives_6 rfl (lv_at hl 1 rfl) ?_
  refine lv_iload_n Bx.1 Bx.2.1 d_Rd_readAlternatives_7 rfl (lv_at hl 2 rfl) ?_
  have her38 : ER ad R (Ec + 1) (bwN Bw Ec 0 (0) (0) (-1) (-1) (-1) (Bw 234)) mem13 := hER.new (Nat.le_refl _) (by rw [vR_m]; exact hclb) (Or.inl rfl) (fun i9 hi9 => hfr15 (20 + 2 * i9) (by omega))
  have hsr39 : SR cy ad S (bwN Bw Ec 0 (0) (0) (-1) (-1) (-1) (Bw 234)) mem13 := ⟨(hfr15 220 (by omega)).trans hSR.1, (hfr15 221 (by omega)).trans hSR.2⟩
  refine f_xVr (na := 1) (As := [.int (3)]) (rest := []) Bx hml E hP hD hS (by omega) h9_28 rfl (m_Rd_readSequence_3Y l hlt hn hT hf hRXb (by omega) (u := u) (A := A) her38 hsr39 (by omega) (by omega) hLK hc (by omega) h39) kw_435 kw_437 sel_Rd_readSequence kw_6 kw_438 (by decide +kernel) ⟨rfl, rfl⟩ ⟨Nat.le_of_ble_eq_true rfl, Nat.le_of_ble_eq_true rfl⟩ rfl hl.1 (Nat.le_of_ble_eq_true rfl) d_Rd_readAlternatives_8 ⟨Nat.le_of_ble_eq_true rfl, Nat.le_of_ble_eq_true rfl⟩ (fun X ce q9 memx H locs hx9 hP hS g1 g2 g3 => f_out hlocks hno hP hS g1 g2 g3 ⟨Nat.le_of_ble_eq_true rfl, Nat.le_of_ble_eq_true rfl⟩ ⟨hx9.1, Or.inr (Or.inr ⟨hbg, hE9, hx9.2⟩)⟩) (fun r40 mem41 H locs hq hP hS => ?_)
  have hD : va_D (Az sz) (fw n ad mem41) := fw_D hD
  obtain ⟨ax42, ux43, Rx44, Ex45, Sx46, Ax47, Bx_48, nx49, tox50, hr951, h252, h353, h454, h555, htk56, hrk57, hRX58, rds59, hnb60⟩ := hq
  subst hr951
  have hrk61 : ∀ i9, i9 < R → mem41 (7 + i9) = mem (7 + i9) := fun i9 q9 => (hrk57 i9 (by omega)).trans (hrk14 i9 q9)
  obtain ⟨g62, eg63⟩ : ∃ z, z = gapF T Z ax42 := ⟨_, rfl⟩
  have hg64 : ax42 ≤ g62 := by rw [eg63]; exact gapF_ge T Z _
  have hg65 : g62 ≤ Z := by rw [eg63]; exact gapF_le T (by omega)
  rw [← eg63] at hRX58
  obtain ⟨ft66, h9_67⟩ := hRX58.2.1
  have h1_68 : mem41 1 = .inr (0, [.ref (ad 2), .int (nI Z)]) := (hRX58.1.2.2 1 (by omega)).trans hT.1
  have h2_69 : mem41 2 = .inl (cy 0, 240, .inl f) := (hRX58.1.2.2 2 (by omega)).trans hT.2.2
  have h5_70 := hRX58.1.1.2.1
  have hbd76 := hRX58.1.1.1
  obtain ⟨S71, g72, hS_73, h220_74, h221_75⟩ := hRX58.1.1.2.2.2.2.2.2
  have hbd77 := hRX58.1.1.1
  refine lv_astore_n (lv' := [(3, .ref (ad (20 + 2 * (Ec + 1)))), (2, .ref (ad (20 + 2 * Ec))), (0, .ref (ad 222)), (1, .int (3))]) Bx.1 Bx.2.1 d_Rd_readAlternatives_11 rfl hl (by decide) rfl (fun ls hl => ?_)
  refine lv_aload_n Bx.1 Bx.2.1 d_Rd_readAlternatives_12 rfl (lv_at hl 1 rfl) ?_
  refine lv_aload_n Bx.1 Bx.2.1 d_Rd_readAlternatives_13 rfl (lv_at hl 0 rfl) ?_
  have hce78 := (rds59.2.1 Ec (by omega)).1
  refine f_putN Bx hP hD hS (by omega) hce78 rfl inEl tyEl okEl nmEl 4 (by decide) kw_87 rfl rfl rfl rfl (Nat.le_of_ble_eq_true rfl) d_Rd_readAlternatives_14 (fun H locs hP hS => ?_)
  obtain ⟨mem79, e_mem79⟩ : ∃ z, z = va_up mem41 ((20 + 2 * Ec)) (.inr (2, [.int (Bx_48 228 Ec), .int (Bx_48 229 Ec), .int (Bx_48 230 Ec), vR ad (Bx_48 231 Ec), .ref (ad (20 + 2 * (Ec + 1))), vE ad (Bx_48 233 Ec), .ref (ad (21 + 2 * Ec))])) := ⟨_, rfl⟩
  have hP : va_P D vcl (fw n ad mem79) H := by rw [e_mem79]; exact hP
  have hD : va_D (Az sz) (fw n ad mem79) := fw_D hD
  have h_mem79 : mem79 ((20 + 2 * Ec)) = .inr (2, [.int (Bx_48 228 Ec), .int (Bx_48 229 Ec), .int (Bx_48 230 Ec), vR ad (Bx_48 231 Ec), .ref (ad (20 + 2 * (Ec + 1))), vE ad (Bx_48 233 Ec), .ref (ad (21 + 2 * Ec))]) := by rw [e_mem79, va_up_self]
  have hh80 := (va_up_ne mem41 (.inr (2, [.int (Bx_48 228 Ec), .int (Bx_48 229 Ec), .int (Bx_48 230 Ec), vR ad (Bx_48 231 Ec), .ref (ad (20 + 2 * (Ec + 1))), vE ad (Bx_48 233 Ec), .ref (ad (21 + 2 * Ec))])) (show (222 : Nat) ≠ (20 + 2 * Ec) by first | decide | assumption | omega)).trans h9_67
  rw [← e_mem79] at hh80
  have hh81 := (va_up_ne mem41 (.inr (2, [.int (Bx_48 228 Ec), .int (Bx_48 229 Ec), .int (Bx_48 230 Ec), vR ad (Bx_48 231 Ec), .ref (ad (20 + 2 * (Ec + 1))), vE ad (Bx_48 233 Ec), .ref (ad (21 + 2 * Ec))])) (show (1 : Nat) ≠ (20 + 2 * Ec) by first | decide | assumption | omega)).trans h1_68
  rw [← e_mem79] at hh81
  have hh82 := (va_up_ne mem41 (.inr (2, [.int (Bx_48 228 Ec), .int (Bx_48 229 Ec), .int (Bx_48 230 Ec), vR ad (Bx_48 231 Ec), .ref (ad (20 + 2 * (Ec + 1))), vE ad (Bx_48 233 Ec), .ref (ad (21 + 2 * Ec))])) (show (5 : Nat) ≠ (20 + 2 * Ec) by first | decide | assumption | omega)).trans h5_70
  rw [← e_mem79] at hh82
  have hh83 := (va_up_ne mem41 (.inr (2, [.int (Bx_48 228 Ec), .int (Bx_48 229 Ec), .int (Bx_48 230 Ec), vR ad (Bx_48 231 Ec), .ref (ad (20 + 2 * (Ec + 1))), vE ad (Bx_48 233 Ec), .ref (ad (21 + 2 * Ec))])) (show (220 : Nat) ≠ (20 + 2 * Ec) by first | decide | assumption | omega)).trans h220_74
  rw [← e_mem79] at hh83
  have hrk84 : ∀ i9, i9 < R → mem79 (7 + i9) = mem (7 + i9) := fun i9 q9 => (show mem79 (7 + i9) = mem41 (7 + i9) by rw [e_mem79]; exact va_up_ne _ _ (by omega)).trans (hrk61 i9 q9)
  have hRX85 : RX cy ad lim (g62) (Rx44) (Ex45) (tox50) (nx49) m0 mem79 := by rw [e_mem79]; exact hRX58.el (by omega) (hRX58.1.mk (by omega) (hRX58.1.1.upEl (by omega) (fun _ => ⟨(rds59.2.1 Ec (by omega)).2.1.oR ad, Or.inr ⟨(Ec + 1), by omega, by omega, rfl⟩, (rds59.2.1 Ec (by omega)).2.2.2.oE ad (by omega)⟩)))
  have her86 : ER ad (Rx44) (Ex45) (va_up Bx_48 232 (upd (Bx_48 232) Ec (nI (Ec + 1)))) mem79 := rds59.2.1.part (by omega) (by omega) (by omega) h_mem79 (fun i9 q9 hi9 => by rw [e_mem79]; exact va_up_ne _ _ (by omega))
  have hsr87 : SR cy ad (Sx46) (Bx_48) mem79 := ⟨(show mem79 220 = mem41 220 by rw [e_mem79]; exact va_up_ne _ _ (by omega)).trans rds59.2.2.1.1, (show mem79 221 = mem41 221 by rw [e_mem79]; exact va_up_ne _ _ (by omega)).trans rds59.2.2.1.2⟩
  obtain ⟨ft88, h9_89⟩ := hRX85.2.1
  have h1_90 : mem79 1 = .inr (0, [.ref (ad 2), .int (nI Z)]) := (hRX85.1.2.2 1 (by omega)).trans hT.1
  have h2_91 : mem79 2 = .inl (cy 0, 240, .inl f) := (hRX85.1.2.2 2 (by omega)).trans hT.2.2
  have h5_92 := hRX85.1.1.2.1
  have hbd98 := hRX85.1.1.1
  obtain ⟨S93, g94, hS_95, h220_96, h221_97⟩ := hRX85.1.1.2.2.2.2.2.2
  refine lv_iconst (v := 0) Bx.1 Bx.2.1 d_Rd_readAlternatives_17 (by decide) ?_
  refine lv_istore (lv' := [(4, .int (0)), (3, .ref (ad (20 + 2 * (Ec + 1)))), (2, .ref (ad (20 + 2 * Ec))), (0, .ref (ad 222)), (1, .int (3))]) Bx.1 Bx.2.1 d_Rd_readAlternatives_18 hl (by decide) rfl (fun ls hl => ?_)
  have hal0 := alt_first hLK hE9 hcl rds59 (by omega) (by omega) her86 hsr87
  have loop99 : ∀ (d100 : Nat) (mem9 : Nat → va_E) (a1 : Nat) (u1 : Nat) (R1 : Nat) (E1 : Nat) (S1 : Nat) (A1 : Ro) (B1 : Ro) (n1 : Nat → Int64) (to1 : Nat → Int32) (la : Nat) (k9 : Nat) (ls : Array Slot) (H : Heap) (locs : List Loc), (240 - k9 < d100) → (RX cy ad lim (gapF T Z a1) R1 E1 to1 n1 m0 mem9) → (a < a1 ∧ a1 ≤ Z ∧ R ≤ R1 ∧ k9 < a1 ∧ k9 ≤ 240) → (ALI cy ad T Z 3 (seqS T Z a u R (Ec + 1) 3 A nm) cq R Ec S u A Bw la a1 u1 R1 E1 S1 A1 B1 n1 mem9) → (TOK R R1 to to1) → (¬ (bgF (hereF Z T (gapF T Z a1)) = true ∧ a1 < gapF T Z a1)) → (∀ i9, i9 < R → mem9 (7 + i9) = mem (7 + i9)) → (va_P D vcl (fw n ad mem9) H) → (va_D (Az sz) (fw n ad mem9)) → (va_S (Az sz) s.heap H locs) → (lv_has ls 5 [(4, .int (nI k9)), (3, .ref (ad (20 + 2 * la))), (2, .ref (ad (20 + 2 * Ec))), (0, .ref (ad 222)), (1, .int (3))]) → W p l e (headSpec (Cond.code y_Rd_readAlternatives c_Rd_readAlternatives 5 (some (.object "AbnfChart$Element")) :: tg) ({ frames := 37, cells := 1, slots := 6, locals := 888 } : Room)).room s m [.ref (ad 222), .int (3)].toArray below meth c H locs 0 0 (vx_MQ below (QX (QR (fun r mem' => ∃ (la a' u' R' E' S' : Nat) (A' Bw' : Ro) (nm' : Nat → Int64) (to' : Nat → Int32), r = ad (20 + 2 * Ec) ∧ Ec + 1 < E' ∧ R ≤ R' ∧ a < a' ∧ a' ≤ Z ∧ TOK R R' to to' ∧ (∀ i9, i9 < R → mem' (7 + i9) = mem (7 + i9)) ∧ RX cy ad lim (gapF T Z a') R' E' to' nm' m0 mem' ∧ ALI cy ad T Z 3 (seqS T Z a u R (Ec + 1) 3 A nm) cq R Ec S u A Bw la a' u' R' E' S' A' Bw' nm' mem' ∧ bgF (hereF Z T a) = true ∧ Ec < 100 ∧ ¬ hereF Z T (gapF T Z a') = 47 ∧ ¬ (bgF (hereF Z T (gapF T Z a')) = true ∧ a' < gapF T Z a')) (PP D n ad) (Az sz))) (XQ D sz n ad (fun X mem' => ((X = cIA ∨ X = cIS) ∧ ∃ rc' ec' : Nat, RS cy ad lim rc' ec' m0 mem') ∧ (bgF (hereF Z T a) = false ∨ Ec = 100 ∨ (bgF (hereF Z T a) = true ∧ Ec < 100 ∧ Fai T Z (seqS T Z a u R (Ec + 1) 3 A nm))))) [.ref (ad 222), .int (3)].toArray s 1 6 (Az sz)) (F0 m 20 ls []) := by
    intro d100
    induction d100 with
    | zero => intro mem9 a1 u1 R1 E1 S1 A1 B1 n1 to1 la k9 ls H locs hmeas108; exact absurd hmeas108 (Nat.not_lt_zero _)
    | succ d100 ih107 =>
      intro mem9 a1 u1 R1 E1 S1 A1 B1 n1 to1 la k9 ls H locs hmeas108 hz101 hz102 hz103 hz104 hz105 hz106 hP hD hS hl
      obtain ⟨g1, eg1⟩ : ∃ z, z = gapF T Z a1 := ⟨_, rfl⟩
      rw [← eg1] at hz101
      have hge1 : a1 ≤ g1 := by rw [eg1]; exact gapF_ge T Z _
      have hbd8 := hz102
      have hle1 : g1 ≤ Z := by rw [eg1]; exact gapF_le T (by omega)
      have hal := hz103
      have hbdE := hz101.1.1.1
      have hla := hal.2.2.2.2.2.2.2.2.2.2
      have hSa1 := hal.2.2.2.1.2.1
      have hlka := ali_lka hal hLK hE9 hcl
      obtain ⟨ft109, h9_110⟩ := hz101.2.1
      have h1_111 : mem9 1 = .inr (0, [.ref (ad 2), .int (nI Z)]) := (hz101.1.2.2 1 (by omega)).trans hT.1
      have h2_112 : mem9 2 = .inl (cy 0, 240, .inl f) := (hz101.1.2.2 2 (by omega)).trans hT.2.2
      have h5_113 := hz101.1.1.2.1
      have hbd119 := hz101.1.1.1
      obtain ⟨S114, g115, hS_116, h220_117, h221_118⟩ := hz101.1.1.2.2.2.2.2.2
      refine lv_iload Bx.1 Bx.2.1 d_Rd_readAlternatives_20 (lv_at hl 0 rfl) ?_
      refine lv_sipush (v := 240) Bx.1 Bx.2.1 d_Rd_readAlternatives_22 (by decide) ?_
      refine lv_icmp_ge Bx.1 Bx.2.1 d_Rd_readAlternatives_25 rfl (fun hb120 => ?_) (fun hb120 => ?_)
      · have hN121 : 240 ≤ k9 := (nI_leI (by omega) (by omega)).mp (show nI (240) ≤ nI (k9) from hb120)
        exact absurd hbd8 (by omega)
      · have hN122 : ¬ 240 ≤ k9 := fun q9 => hb120 (show nI (240) ≤ nI (k9) from (nI_leI (by omega) (by omega)).mpr q9)
        refine lv_aload_n Bx.1 Bx.2.1 d_Rd_readAlternatives_28 rfl (lv_at hl 3 rfl) ?_
        refine f_callVi (na := 0) (As := []) (rest := []) Bx hml E hP hD hS (by omega) h9_110 rfl (m_Rd_peekX l hn hT hf hz101 (by omega)) kw_353 kw_355 sel_Rd_peek kw_6 kw_356 (by decide +kernel) ⟨rfl, rfl⟩ ⟨Nat.le_of_ble_eq_true rfl, Nat.le_of_ble_eq_true rfl⟩ rfl hl.1 (Nat.le_of_ble_eq_true rfl) d_Rd_readAlternatives_29 ⟨Nat.le_of_ble_eq_true rfl, Nat.le_of_ble_eq_true rfl⟩ (fun r124 mem125 H locs hq hP hS => ?_)
        have hD : va_D (Az sz) (fw n ad mem125) := fw_D hD
        obtain ⟨hqe, hpk123⟩ := hq
        rw [hqe] at hP hD
        subst hpk123
        refine lv_bipush (v := 47) Bx.1 Bx.2.1 d_Rd_readAlternatives_32 (by decide) ?_
        refine lv_icmp_ne Bx.1 Bx.2.1 d_Rd_readAlternatives_34 rfl (fun hb127 => ?_) (fun hb127 => ?_)
        · refine lv_aload_n Bx.1 Bx.2.1 d_Rd_readAlternatives_72 rfl (lv_at hl 2 rfl) ?_
          exact x_aret hx hb hlocks hr (⟨la, a1, u1, R1, E1, S1, A1, B1, n1, to1, rfl, by omega, by omega, by omega, by omega, hz104, hz106, by rw [← eg1]; exact hz101, hal, hbg, hE9, by rw [← eg1]; exact hb127, hz105⟩) hP hS d_Rd_readAlternatives_73
        · have hlt128 := hereF_lt (by rw [hb127]; decide)
          have h47 : hereF Z T (gapF T Z a1) = 47 := by rw [← eg1]; exact hb127
          have h237 : A1 237 3 = nI cq := hal.2.2.2.2.2.2.2.2.1.2.2.1.trans hc
          have h239 : A1 239 3 = -1 := hal.2.2.2.2.2.2.2.2.1.2.2.2
          refine lv_aload_n Bx.1 Bx.2.1 d_Rd_readAlternatives_37 rfl (lv_at hl 3 rfl) ?_
          refine lv_dup Bx.1 Bx.2.1 d_Rd_readAlternatives_38 rfl ?_
          refine f_get Bx hP (by omega) h9_110 rfl inRd 2 (by decide) kw_146 rfl rfl d_Rd_readAlternatives_39 ?_
          refine lv_iconst (v := 1) Bx.1 Bx.2.1 d_Rd_readAlternatives_42 (by decide) ?_
          refine lv_iadd Bx.1 Bx.2.1 d_Rd_readAlternatives_43 ?_
          rw [show nI g1 + 1 = nI (g1 + 1) from nI_add (g1) (1)]
          refine f_put Bx hP hD hS (by omega) h9_110 rfl inRd tyRd okRd nmRd 2 (by decide) kw_146 rfl rfl rfl rfl (Nat.le_of_ble_eq_true rfl) d_Rd_readAlternatives_44 (fun H locs hP hS => ?_)
          obtain ⟨mem129, e_mem129⟩ : ∃ z, z = va_up mem9 (222) (.inr (4, [.ref (ad 1), .ref (ad 5), .int (nI (g1 + 1)), .int (ft109)])) := ⟨_, rfl⟩
          have hP : va_P D vcl (fw n ad mem129) H := by rw [e_mem129]; exact hP
          have hD : va_D (Az sz) (fw n ad mem129) := fw_D hD
          have h_mem129 : mem129 (222) = .inr (4, [.ref (ad 1), .ref (ad 5), .int (nI (g1 + 1)), .int (ft109)]) := by rw [e_mem129, va_up_self]
          have hh130 := (va_up_ne mem9 (.inr (4, [.ref (ad 1), .ref (ad 5), .int (nI (g1 + 1)), .int (ft109)])) (show (1 : Nat) ≠ 222 by first | decide | assumption | omega)).trans h1_111
          rw [← e_mem129] at hh130
          have hh131 := (va_up_ne mem9 (.inr (4, [.ref (ad 1), .ref (ad 5), .int (nI (g1 + 1)), .int (ft109)])) (show (5 : Nat) ≠ 222 by first | decide | assumption | omega)).trans h5_113
          rw [← e_mem129] at hh131
          have hh132 := (va_up_ne mem9 (.inr (4, [.ref (ad 1), .ref (ad 5), .int (nI (g1 + 1)), .int (ft109)])) (show (220 : Nat) ≠ 222 by first | decide | assumption | omega)).trans h220_117
          rw [← e_mem129] at hh132
          have hrk133 : ∀ i9, i9 < R → mem129 (7 + i9) = mem (7 + i9) := fun i9 q9 => (show mem129 (7 + i9) = mem9 (7 + i9) by rw [e_mem129]; exact va_up_ne _ _ (by omega)).trans (hz106 i9 q9)
          have her134 : ER ad (R1) (E1) (B1) mem129 := hal.2.1.fr (Nat.le_refl _) (fun i9 hi9 => by rw [e_mem129]; exact va_up_ne _ _ (by omega))
          have hsr135 : SR cy ad (S1) (B1) mem129 := ⟨(show mem129 220 = _ from by rw [e_mem129]; exact va_up_ne _ _ (by omega)).trans hal.2.2.1.1, (show mem129 221 = _ from by rw [e_mem129]; exact va_up_ne _ _ (by omega)).trans hal.2.2.1.2⟩
          have hRX136 : RX cy ad lim (g1 + 1) (R1) (E1) (to1) (n1) m0 mem129 := by rw [e_mem129]; exact hz101.at
          refine lv_aload_n Bx.1 Bx.2.1 d_Rd_readAlternatives_47 rfl (lv_at hl 3 rfl) ?_
          refine f_callVi (na := 0) (As := []) (rest := []) Bx hml E hP hD hS (by omega) h_mem129 rfl (m_Rd_readGapY l hn hT hf hRX136 (by omega) (by omega)) kw_397 kw_399 sel_Rd_readGap kw_6 kw_400 (by decide +kernel) ⟨rfl, rfl⟩ ⟨Nat.le_of_ble_eq_true rfl, Nat.le_of_ble_eq_true rfl⟩ rfl hl.1 (Nat.le_of_ble_eq_true rfl) d_Rd_readAlternatives_48 ⟨Nat.le_of_ble_eq_true rfl, Nat.le_of_ble_eq_true rfl⟩ (fun r137 mem138 H locs hq hP hS => ?_)
          have hD : va_D (Az sz) (fw n ad mem138) := fw_D hD
          obtain ⟨g139, eg140⟩ : ∃ z, z = gapF T Z (g1 + 1) := ⟨_, rfl⟩
          rw [← eg140] at hq
          obtain ⟨hRX141, hgc142, hfa143⟩ := hq
          have hg144 : g1 + 1 ≤ g139 := by rw [eg140]; exact gapF_ge T Z _
          have hg145 : g139 ≤ Z := by rw [eg140]; exact gapF_le T (by omega)
          have hrk146 : ∀ i9, i9 < R → mem138 (7 + i9) = mem (7 + i9) := fun i9 q9 => (hfa143 (7 + i9) (by omega)).trans (hrk133 i9 q9)
          obtain ⟨ft147, h9_148⟩ := hRX141.2.1
          have h1_149 : mem138 1 = .inr (0, [.ref (ad 2), .int (nI Z)]) := (hRX141.1.2.2 1 (by omega)).trans hT.1
          have h2_150 : mem138 2 = .inl (cy 0, 240, .inl f) := (hRX141.1.2.2 2 (by omega)).trans hT.2.2
          have h5_151 := hRX141.1.1.2.1
          have hbd157 := hRX141.1.1.1
          obtain ⟨S152, g153, hS_154, h220_155, h221_156⟩ := hRX141.1.1.2.2.2.2.2.2
          have her158 : ER ad (R1) (E1) (B1) mem138 := her134.fr (Nat.le_refl _) (fun i9 hi9 => hfa143 _ (by omega))
          have hsr159 : SR cy ad (S1) (B1) mem138 := ⟨(show mem138 220 = _ from hfa143 _ (by omega)).trans hsr135.1, (show mem138 221 = _ from hfa143 _ (by omega)).trans hsr135.2⟩
          refine lv_pop Bx.1 Bx.2.1 d_Rd_readAlternatives_51 rfl ?_
          refine lv_aload_n Bx.1 Bx.2.1 d_Rd_readAlternatives_52 rfl (lv_at hl 1 rfl) ?_
          refine lv_aload_n Bx.1 Bx.2.1 d_Rd_readAlternatives_53 rfl (lv_at hl 3 rfl) ?_
          refine lv_iload_n Bx.1 Bx.2.1 d_Rd_readAlternatives_54 rfl (lv_at hl 4 rfl) ?_
          refine f_xVr (na := 1) (As := [.int (3)]) (rest := [.ref (ad (20 + 2 * la))]) Bx hml E hP hD hS (by omega) h9_148 rfl (m_Rd_readSequence_3Y l hlt hn hT hf hRX141 (by omega) (u := u1) (A := A1) her158 hsr159 (by omega) (by omega) hlka h237 (by omega) h239) kw_435 kw_437 sel_Rd_readSequence kw_6 kw_438 (by decide +kernel) ⟨rfl, rfl⟩ ⟨Nat.le_of_ble_eq_true rfl, Nat.le_of_ble_eq_true rfl⟩ rfl hl.1 (Nat.le_of_ble_eq_true rfl) d_Rd_readAlternatives_55 ⟨Nat.le_of_ble_eq_true rfl, Nat.le_of_ble_eq_true rfl⟩ (fun X ce q9 memx H locs hx9 hP hS g1 g2 g3 => f_out hlocks hno hP hS g1 g2 g3 ⟨Nat.le_of_ble_eq_true rfl, Nat.le_of_ble_eq_true rfl⟩ ⟨hx9.1, Or.inr (Or.inr ⟨hbg, hE9, hal.1.fai (go_sl h47) (by rw [← eg1, ← eg140]; exact hx9.2)⟩)⟩) (fun r160 mem161 H locs hq hP hS => ?_)
          have hD : va_D (Az sz) (fw n ad mem161) := fw_D hD
          obtain ⟨ax162, ux163, Rx164, Ex165, Sx166, Ax167, Bx_168, nx169, tox170, hr9171, h2172, h3173, h4174, h5175, htk176, hrk177, hRX178, rds179, hnb180⟩ := hq
          subst hr9171
          have hrk181 : ∀ i9, i9 < R → mem161 (7 + i9) = mem (7 + i9) := fun i9 q9 => (hrk177 i9 (by omega)).trans (hrk146 i9 q9)
          obtain ⟨g182, eg183⟩ : ∃ z, z = gapF T Z ax162 := ⟨_, rfl⟩
          have hg184 : ax162 ≤ g182 := by rw [eg183]; exact gapF_ge T Z _
          have hg185 : g182 ≤ Z := by rw [eg183]; exact gapF_le T (by omega)
          rw [← eg183] at hRX178
          obtain ⟨ft186, h9_187⟩ := hRX178.2.1
          have h1_188 : mem161 1 = .inr (0, [.ref (ad 2), .int (nI Z)]) := (hRX178.1.2.2 1 (by omega)).trans hT.1
          have h2_189 : mem161 2 = .inl (cy 0, 240, .inl f) := (hRX178.1.2.2 2 (by omega)).trans hT.2.2
          have h5_190 := hRX178.1.1.2.1
          have hbd196 := hRX178.1.1.1
          obtain ⟨S191, g192, hS_193, h220_194, h221_195⟩ := hRX178.1.1.2.2.2.2.2.2
          have hbd197 := hRX178.1.1.1
          have hce198 := (rds179.2.1 la (by omega)).1
          refine f_putN Bx hP hD hS (by omega) hce198 rfl inEl tyEl okEl nmEl 5 (by decide) kw_91 rfl rfl rfl rfl (Nat.le_of_ble_eq_true rfl) d_Rd_readAlternatives_58 (fun H locs hP hS => ?_)
          obtain ⟨mem199, e_mem199⟩ : ∃ z, z = va_up mem161 ((20 + 2 * la)) (.inr (2, [.int (Bx_168 228 la), .int (Bx_168 229 la), .int (Bx_168 230 la), vR ad (Bx_168 231 la), vE ad (Bx_168 232 la), .ref (ad (20 + 2 * E1)), .ref (ad (21 + 2 * la))])) := ⟨_, rfl⟩
          have hP : va_P D vcl (fw n ad mem199) H := by rw [e_mem199]; exact hP
          have hD : va_D (Az sz) (fw n ad mem199) := fw_D hD
          have h_mem199 : mem199 ((20 + 2 * la)) = .inr (2, [.int (Bx_168 228 la), .int (Bx_168 229 la), .int (Bx_168 230 la), vR ad (Bx_168 231 la), vE ad (Bx_168 232 la), .ref (ad (20 + 2 * E1)), .ref (ad (21 + 2 * la))]) := by rw [e_mem199, va_up_self]
          have hh200 := (va_up_ne mem161 (.inr (2, [.int (Bx_168 228 la), .int (Bx_168 229 la), .int (Bx_168 230 la), vR ad (Bx_168 231 la), vE ad (Bx_168 232 la), .ref (ad (20 + 2 * E1)), .ref (ad (21 + 2 * la))])) (show (222 : Nat) ≠ (20 + 2 * la) by first | decide | assumption | omega)).trans h9_187
          rw [← e_mem199] at hh200
          have hh201 := (va_up_ne mem161 (.inr (2, [.int (Bx_168 228 la), .int (Bx_168 229 la), .int (Bx_168 230 la), vR ad (Bx_168 231 la), vE ad (Bx_168 232 la), .ref (ad (20 + 2 * E1)), .ref (ad (21 + 2 * la))])) (show (1 : Nat) ≠ (20 + 2 * la) by first | decide | assumption | omega)).trans h1_188
          rw [← e_mem199] at hh201
          have hh202 := (va_up_ne mem161 (.inr (2, [.int (Bx_168 228 la), .int (Bx_168 229 la), .int (Bx_168 230 la), vR ad (Bx_168 231 la), vE ad (Bx_168 232 la), .ref (ad (20 + 2 * E1)), .ref (ad (21 + 2 * la))])) (show (5 : Nat) ≠ (20 + 2 * la) by first | decide | assumption | omega)).trans h5_190
          rw [← e_mem199] at hh202
          have hh203 := (va_up_ne mem161 (.inr (2, [.int (Bx_168 228 la), .int (Bx_168 229 la), .int (Bx_168 230 la), vR ad (Bx_168 231 la), vE ad (Bx_168 232 la), .ref (ad (20 + 2 * E1)), .ref (ad (21 + 2 * la))])) (show (220 : Nat) ≠ (20 + 2 * la) by first | decide | assumption | omega)).trans h220_194
          rw [← e_mem199] at hh203
          have hrk204 : ∀ i9, i9 < R → mem199 (7 + i9) = mem (7 + i9) := fun i9 q9 => (show mem199 (7 + i9) = mem161 (7 + i9) by rw [e_mem199]; exact va_up_ne _ _ (by omega)).trans (hrk181 i9 q9)
          have hRX205 : RX cy ad lim (g182) (Rx164) (Ex165) (tox170) (nx169) m0 mem199 := by rw [e_mem199]; exact hRX178.el (by omega) (hRX178.1.mk (by omega) (hRX178.1.1.upEl (by omega) (fun _ => ⟨(rds179.2.1 la (by omega)).2.1.oR ad, (rds179.2.1 la (by omega)).2.2.1.oE ad (by omega), Or.inr ⟨E1, by omega, by omega, rfl⟩⟩)))
          have her206 : ER ad (Rx164) (Ex165) (va_up Bx_168 233 (upd (Bx_168 233) la (nI E1))) mem199 := rds179.2.1.next (by omega) (by omega) (by omega) h_mem199 (fun i9 q9 hi9 => by rw [e_mem199]; exact va_up_ne _ _ (by omega))
          have hsr207 : SR cy ad (Sx166) (Bx_168) mem199 := ⟨(show mem199 220 = mem161 220 by rw [e_mem199]; exact va_up_ne _ _ (by omega)).trans rds179.2.2.1.1, (show mem199 221 = mem161 221 by rw [e_mem199]; exact va_up_ne _ _ (by omega)).trans rds179.2.2.1.2⟩
          obtain ⟨ft208, h9_209⟩ := hRX205.2.1
          have h1_210 : mem199 1 = .inr (0, [.ref (ad 2), .int (nI Z)]) := (hRX205.1.2.2 1 (by omega)).trans hT.1
          have h2_211 : mem199 2 = .inl (cy 0, 240, .inl f) := (hRX205.1.2.2 2 (by omega)).trans hT.2.2
          have h5_212 := hRX205.1.1.2.1
          have hbd218 := hRX205.1.1.1
          obtain ⟨S213, g214, hS_215, h220_216, h221_217⟩ := hRX205.1.1.2.2.2.2.2.2
          refine lv_aload_n Bx.1 Bx.2.1 d_Rd_readAlternatives_61 rfl (lv_at hl 1 rfl) ?_
          refine f_getN Bx hP (by omega) h_mem199 rfl inEl 5 (by decide) kw_91 rfl rfl d_Rd_readAlternatives_62 ?_
          refine lv_astore_n (lv' := [(3, .ref (ad (20 + 2 * E1))), (4, .int (nI k9)), (2, .ref (ad (20 + 2 * Ec))), (0, .ref (ad 222)), (1, .int (3))]) Bx.1 Bx.2.1 d_Rd_readAlternatives_65 rfl hl (by decide) rfl (fun ls hl => ?_)
          refine lv_iinc (lv' := [(4, .int ((nI k9 + (1)))), (3, .ref (ad (20 + 2 * E1))), (2, .ref (ad (20 + 2 * Ec))), (0, .ref (ad 222)), (1, .int (3))]) Bx.1 Bx.2.1 d_Rd_readAlternatives_66 hl (k := 1) rfl rfl (by decide) rfl (fun ls hl => ?_)
          rw [show (nI k9 + (1) : Int32) = nI (k9 + 1) from nI_1 (k9)] at hl
          refine lv_goto Bx.1 Bx.2.1 d_Rd_readAlternatives_69 rfl ?_
          have hal3 := alt_step hal (by omega) hLK hlka (by omega) hcl rds179 (by omega) (by omega) (by rw [eg140, eg1]; exact go_sl h47) her206 hsr207
          exact ih107 mem199 (ax162) (ux163) (Rx164) (Ex165) (Sx166) (Ax167) ((va_up Bx_168 233 (upd (Bx_168 233) la (nI E1)))) (nx169) (tox170) (E1) (k9 + 1) _ _ _ (by have := hmeas108; omega) (by rw [← eg183]; exact hRX205) (⟨by omega, by omega, by omega, by omega, by omega⟩) (hal3) (hz104.trans htk176 (by omega)) (hnb180) (hrk204) hP hD hS (lv_sub hl [0, 1, 2, 3, 4] rfl)
  exact loop99 _ mem79 (ax42) (ux43) (Rx44) (Ex45) (Sx46) (Ax47) ((va_up Bx_48 232 (upd (Bx_48 232) Ec (nI (Ec + 1))))) (nx49) (tox50) (Ec + 1) (0) _ _ _ (Nat.lt_succ_self _) (by rw [← eg63]; exact hRX85) (⟨by omega, by omega, by omega, by omega, by omega⟩) (hal0) (htk56) (hnb60) (hrk84) hP hD hS (lv_sub hl [0, 1, 2, 3, 4] rfl)
set_option maxHeartbeats 4000000 in
set_option maxRecDepth 100000 in
theorem m_Rd_readBracket_2Y (l : Launch) {D : va_G} {cy : Nat → ClassId} {sz n : Nat} {ad : Nat → Nat} {mem : Nat → va_E} {Z a R Ec lim : Nat} {f T : Nat → Int32} {to : Nat → Int32} {nm : Nat → Int64} {m0 : Nat → va_E} {u S : Nat} {A Bw : Ro} {what oe en : Int32} (hlt : l.stackTraces = false) (hn : 224 ≤ n) (hT : TX cy ad Z f m0) (hf : ∀ k, k < Z → f k = T k) (hRX : RX cy ad lim a R Ec to nm m0 mem) (haB : a ≤ 300) (hER : ER ad R Ec Bw mem) (hSR : SR cy ad S Bw mem) (hSa : S ≤ a) (haZ : a < Z) (hwe : (what = 1 ∧ en = 41) ∨ (what = 2 ∧ en = 93)) (hLK : LKa Ec A) : NXr l D cy sz n ad y_Rd_readBracket c_Rd_readBracket 4 (some (.object "AbnfChart$Element")) ({ frames := 38, cells := 1, slots := 6, locals := 920 } : Room) mem [.ref (ad 222), .int (2), .int (en)] (fun r mem' => ∃ (la a1 u1 R1 E1 S1 : Nat) (A9 B9 : Ro) (nm1 : Nat → Int64) (to1 : Nat → Int32), r = ad (20 + 2 * Ec) ∧ Ec + 1 < E1 ∧ R ≤ R1 ∧ a + 1 < a1 ∧ gapF T Z a1 + 1 ≤ Z ∧ TOK R R1 to to1 ∧ (∀ i9, i9 < R → mem' (7 + i9) = mem (7 + i9)) ∧ RX cy ad lim (gapF T Z a1 + 1) R1 E1 to1 nm1 m0 mem' ∧ ALI cy ad T Z 3 (seqS T Z (gapF T Z (a + 1)) u R (Ec + 1) 3 (entA A 3 Ec what oe) nm) Ec R Ec S u (entA A 3 Ec what oe) Bw la a1 u1 R1 E1 S1 A9 B9 nm1 mem' ∧ hereF Z T (gapF T Z a1) = en ∧ entS T Z (a + 1) u R Ec 3 A nm what oe = some (gapF T Z (a + 1), u, R, Ec + 1, 3, (entA A 3 Ec what oe), nm, true)) (fun X mem' => ((X = cIA ∨ X = cIS) ∧ ∃ rc' ec' : Nat, RS cy ad lim rc' ec' m0 mem') ∧ (Fai T Z (entS T Z (a + 1) u R Ec 3 A nm what oe))) := by
  refine vx_ofW (cc := c_Rd_readBracket) (maxL := 4) (ret := (some (.object "AbnfChart$Element"))) (by decide) rfl ?_
  intro p e s m args below meth c s₁ B hml hno hv
  obtain ⟨rfl, E, hP, hD⟩ := hv
  have hx := B.exec
  have hb := B.bytes
  have hr := B.returns
  have hlocks := B.notSynchronized
  have Bx : MB p s m [.ref (ad 222), .int (2), .int (en)].toArray c c_Rd_readBracket "AbnfChart$Reader" D cy := ⟨hx, hb, tb_all (atoms_spec B.pre) E.2.1, findClass_of_methodNamed B.named, E.1⟩
  have hS : va_S (Az sz) s.heap s.heap [] := va_S.rf
  have hl := lv_entry ([.ref (ad 222), .int (2), .int (en)]) (n := 4) (Nat.le_of_ble_eq_true rfl)
  rw [lg_entry_eq]
  generalize (lg_sl ([.ref (ad 222), .int (2), .int (en)]) ++ List.replicate (4 - (lg_sl ([.ref (ad 222), .int (2), .int (en)])).length) Slot.unset).toArray = ls at hl ⊢
  have hl : lv_has ls 4 [(0, .ref (ad 222)), (1, .int (2)), (2, .int (en))] := hl
  have hZ9 := hT.2.1
  have hbd9 := hRX.1.1.1
  have hfr0 : ∀ i, 7 ≤ i ∧ i < 222 → mem i = mem i := fun _ _ => rfl
  have hrk0 : ∀ i9, i9 < R → mem (7 + i9) = mem (7 + i9) := fun _ _ => rfl
  obtain ⟨ft1, h9_2⟩ := hRX.2.1
  have h1_3 : mem 1 = .inr (0, [.ref (ad 2), .int (nI Z)]) := (hRX.1.2.2 1 (by omega)).trans hT.1
  have h2_4 : mem 2 = .inl (cy 0, 240, .inl f) := (hRX.1.2.2 2 (by omega)).trans hT.2.2
  have h5_5 := hRX.1.1.2.1
  have hbd11 := hRX.1.1.1
  obtain ⟨S6, g7, hS_8, h220_9, h221_10⟩ := hRX.1.1.2.2.2.2.2.2
  refine lv_aload_n Bx.1 Bx.2.1 d_Rd_readBracket_0 rfl (lv_at hl 0 rfl) ?_
  refine lv_iload_n Bx.1 Bx.2.1 d_Rd_readBracket_1 rfl (lv_at hl 1 rfl) ?_
  refine lv_bipush (v := 6) Bx.1 Bx.2.1 d_Rd_readBracket_2 (by decide) ?_
  refine lv_icmp_ge Bx.1 Bx.2.1 d_Rd_readBracket_4 rfl (fun hb12 => ?_) (fun hb12 => ?_)
  · exact absurd hb12 (by decide)
  · refine lv_iconst (v := 1) Bx.1 Bx.2.1 d_Rd_readBracket_7 (by decide) ?_
    refine lv_goto Bx.1 Bx.2.1 d_Rd_readBracket_8 rfl ?_
    refine lv_aload_n Bx.1 Bx.2.1 d_Rd_readBracket_12 rfl (lv_at hl 0 rfl) ?_
    refine f_get Bx hP (by omega) h9_2 rfl inRd 2 (by decide) kw_146 rfl rfl d_Rd_readBracket_13 ?_
    refine f_xVv (na := 2) (As := [.int (1), .int (nI a)]) (rest := []) Bx hml E hP hD hS (by omega) h9_2 rfl (m_Rd_needRoomX l hlt hn hT hf hRX (by omega)) kw_383 kw_385 sel_Rd_needRoom kw_6 kw_386 (by decide +kernel) ⟨rfl, rfl⟩ ⟨Nat.le_of_ble_eq_true rfl, Nat.le_of_ble_eq_true rfl⟩ rfl hl.1 (Nat.le_of_ble_eq_true rfl) d_Rd_readBracket_16 ⟨Nat.le_of_ble_eq_true rfl, Nat.le_of_ble_eq_true rfl⟩ (fun X ce q9 memx H locs hx9 hP hS g1 g2 g3 => f_out hlocks hno hP hS g1 g2 g3 ⟨Nat.le_of_ble_eq_true rfl, Nat.le_of_ble_eq_true rfl⟩ ⟨hx9.1, absurd hx9.2 (by decide)⟩) (fun mem14 H locs hq hP hS => ?_)
    have hD : va_D (Az sz) (fw n ad mem14) := fw_D hD
    obtain ⟨hqe, hg15⟩ := hq
    rw [hqe] at hP hD
    refine lv_aload_n Bx.1 Bx.2.1 d_Rd_readBracket_19 rfl (lv_at hl 0 rfl) ?_
    refine lv_dup Bx.1 Bx.2.1 d_Rd_readBracket_20 rfl ?_
    refine f_get Bx hP (by omega) h9_2 rfl inRd 2 (by decide) kw_146 rfl rfl d_Rd_readBracket_21 ?_
    refine lv_iconst (v := 1) Bx.1 Bx.2.1 d_Rd_readBracket_24 (by decide) ?_
    refine lv_iadd Bx.1 Bx.2.1 d_Rd_readBracket_25 ?_
    rw [show nI a + 1 = nI (a + 1) from nI_add (a) (1)]
    refine f_put Bx hP hD hS (by omega) h9_2 rfl inRd tyRd okRd nmRd 2 (by decide) kw_146 rfl rfl rfl rfl (Nat.le_of_ble_eq_true rfl) d_Rd_readBracket_26 (fun H locs hP hS => ?_)
    obtain ⟨mem16, e_mem16⟩ : ∃ z, z = va_up mem (222) (.inr (4, [.ref (ad 1), .ref (ad 5), .int (nI (a + 1)), .int (ft1)])) := ⟨_, rfl⟩
    have hP : va_P D vcl (fw n ad mem16) H := by rw [e_mem16]; exact hP
    have hD : va_D (Az sz) (fw n ad mem16) := fw_D hD
    have h_mem16 : mem16 (222) = .inr (4, [.ref (ad 1), .ref (ad 5), .int (nI (a + 1)), .int (ft1)]) := by rw [e_mem16, va_up_self]
    have hh17 := (va_up_ne mem (.inr (4, [.ref (ad 1), .ref (ad 5), .int (nI (a + 1)), .int (ft1)])) (show (1 : Nat) ≠ 222 by first | decide | assumption | omega)).trans h1_3
    rw [← e_mem16] at hh17
    have hh18 := (va_up_ne mem (.inr (4, [.ref (ad 1), .ref (ad 5), .int (nI (a + 1)), .int (ft1)])) (show (5 : Nat) ≠ 222 by first | decide | assumption | omega)).trans h5_5
    rw [← e_mem16] at hh18
    have hh19 := (va_up_ne mem (.inr (4, [.ref (ad 1), .ref (ad 5), .int (nI (a + 1)), .int (ft1)])) (show (220 : Nat) ≠ 222 by first | decide | assumption | omega)).trans h220_9
    rw [← e_mem16] at hh19
    have hfr20 : ∀ i, 7 ≤ i ∧ i < 222 → mem16 i = mem i := fun i q => (show mem16 i = mem i by rw [e_mem16]; exact va_up_ne _ _ (by omega)).trans (hfr0 i q)
    have hrk21 : ∀ i9, i9 < R → mem16 (7 + i9) = mem (7 + i9) := fun i9 q9 => (show mem16 (7 + i9) = mem (7 + i9) by rw [e_mem16]; exact va_up_ne _ _ (by omega)).trans (hrk0 i9 q9)
    have hRX22 : RX cy ad lim (a + 1) (R) (Ec) (to) (nm) m0 mem16 := by rw [e_mem16]; exact hRX.at
    refine lv_aload_n Bx.1 Bx.2.1 d_Rd_readBracket_29 rfl (lv_at hl 0 rfl) ?_
    refine f_callVi (na := 0) (As := []) (rest := []) Bx hml E hP hD hS (by omega) h_mem16 rfl (m_Rd_readGapY l hn hT hf hRX22 (by omega) (by omega)) kw_397 kw_399 sel_Rd_readGap kw_6 kw_400 (by decide +kernel) ⟨rfl, rfl⟩ ⟨Nat.le_of_ble_eq_true rfl, Nat.le_of_ble_eq_true rfl⟩ rfl hl.1 (Nat.le_of_ble_eq_true rfl) d_Rd_readBracket_30 ⟨Nat.le_of_ble_eq_true rfl, Nat.le_of_ble_eq_true rfl⟩ (fun r23 mem24 H locs hq hP hS => ?_)
    have hD : va_D (Az sz) (fw n ad mem24) := fw_D hD
    obtain ⟨g25, eg26⟩ : ∃ z, z = gapF T Z (a + 1) := ⟨_, rfl⟩
    rw [← eg26] at hq
    obtain ⟨hRX27, hgc28, hfa29⟩ := hq
    have hg30 : a + 1 ≤ g25 := by rw [eg26]; exact gapF_ge T Z _
    have hg31 : g25 ≤ Z := by rw [eg26]; exact gapF_le T (by omega)
    have hrk32 : ∀ i9, i9 < R → mem24 (7 + i9) = mem (7 + i9) := fun i9 q9 => (hfa29 (7 + i9) (by omega)).trans (hrk21 i9 q9)
    have hfr33 : ∀ i, 7 ≤ i ∧ i < 222 → mem24 i = mem i := fun i q => (hfa29 i (by omega)).trans (hfr20 i q)
    obtain ⟨ft34, h9_35⟩ := hRX27.2.1
    have h1_36 : mem24 1 = .inr (0, [.ref (ad 2), .int (nI Z)]) := (hRX27.1.2.2 1 (by omega)).trans hT.1
    have h2_37 : mem24 2 = .inl (cy 0, 240, .inl f) := (hRX27.1.2.2 2 (by omega)).trans hT.2.2
    have h5_38 := hRX27.1.1.2.1
    have hbd44 := hRX27.1.1.1
    obtain ⟨S39, g40, hS_41, h220_42, h221_43⟩ := hRX27.1.1.2.2.2.2.2.2
    refine lv_pop Bx.1 Bx.2.1 d_Rd_readBracket_33 rfl ?_
    refine lv_aload_n Bx.1 Bx.2.1 d_Rd_readBracket_34 rfl (lv_at hl 0 rfl) ?_
    refine lv_iload_n Bx.1 Bx.2.1 d_Rd_readBracket_35 rfl (lv_at hl 1 rfl) ?_
    refine lv_iconst (v := 1) Bx.1 Bx.2.1 d_Rd_readBracket_36 (by decide) ?_
    refine lv_iadd Bx.1 Bx.2.1 d_Rd_readBracket_37 ?_
    rw [show (2 + 1 : Int32) = 3 from rfl]
    have her45 : ER ad R Ec Bw mem24 := hER.fr (Nat.le_refl _) (fun i9 hi9 => hfr33 (20 + 2 * i9) (by omega))
    have hsr46 : SR cy ad S Bw mem24 := ⟨(hfr33 220 (by omega)).trans hSR.1, (hfr33 221 (by omega)).trans hSR.2⟩
    refine f_xVr (na := 1) (As := [.int (3)]) (rest := []) Bx hml E hP hD hS (by omega) h9_35 rfl (m_Rd_readAlternatives_3Y l hlt hn hT hf hRX27 (by omega) (u := u) (A := (entA A 3 Ec what oe)) her45 hsr46 (by omega) (by omega) (ent_lka hLK) (cq := Ec) entA_f.2.2.2.2.2.2.2.1 (Nat.le_refl _) (by rw [entA_f.2.2.2.2.2.2.1, upd_self])) kw_405 kw_407 sel_Rd_readAlternatives kw_6 kw_408 (by decide +kernel) ⟨rfl, rfl⟩ ⟨Nat.le_of_ble_eq_true rfl, Nat.le_of_ble_eq_true rfl⟩ rfl hl.1 (Nat.le_of_ble_eq_true rfl) d_Rd_readBracket_38 ⟨Nat.le_of_ble_eq_true rfl, Nat.le_of_ble_eq_true rfl⟩ (fun X ce q9 memx H locs hx9 hP hS g1 g2 g3 => f_out hlocks hno hP hS g1 g2 g3 ⟨Nat.le_of_ble_eq_true rfl, Nat.le_of_ble_eq_true rfl⟩ ⟨hx9.1, hx9.2.elim (fun z => Or.inl (entS_no (Or.inl (by rw [← eg26]; exact z)))) (fun z => z.elim (fun z => Or.inl (entS_no (Or.inr z))) (fun z => Fai.br0 (by rw [ent_ok (by rw [← eg26]; exact z.1) z.2.1, ← eg26]) z.2.2))⟩) (fun r47 mem48 H locs hq hP hS => ?_)
    have hD : va_D (Az sz) (fw n ad mem48) := fw_D hD
    obtain ⟨la49, ax50, ux51, Rx52, Ex53, Sx54, Ax55, Bx_56, nx57, tox58, hr959, h160, h261, h362, h463, htk64, hrk65, hRX66, ali67, hbg68, hE69, h4770, hnb71⟩ := hq
    subst hr959
    have hrk72 : ∀ i9, i9 < R → mem48 (7 + i9) = mem (7 + i9) := fun i9 q9 => (hrk65 i9 (by omega)).trans (hrk32 i9 q9)
    obtain ⟨g73, eg74⟩ : ∃ z, z = gapF T Z ax50 := ⟨_, rfl⟩
    have hg75 : ax50 ≤ g73 := by rw [eg74]; exact gapF_ge T Z _
    have hg76 : g73 ≤ Z := by rw [eg74]; exact gapF_le T (by omega)
    rw [← eg74] at hRX66
    obtain ⟨ft77, h9_78⟩ := hRX66.2.1
    have h1_79 : mem48 1 = .inr (0, [.ref (ad 2), .int (nI Z)]) := (hRX66.1.2.2 1 (by omega)).trans hT.1
    have h2_80 : mem48 2 = .inl (cy 0, 240, .inl f) := (hRX66.1.2.2 2 (by omega)).trans hT.2.2
    have h5_81 := hRX66.1.1.2.1
    have hbd87 := hRX66.1.1.1
    obtain ⟨S82, g83, hS_84, h220_85, h221_86⟩ := hRX66.1.1.2.2.2.2.2.2
    have hbd88 := hRX66.1.1.1
    have hent : entS T Z (a + 1) u R Ec 3 A nm what oe = some (g25, u, R, Ec + 1, 3, (entA A 3 Ec what oe), nm, true) := by rw [ent_ok (by rw [← eg26]; exact hbg68) hE69, ← eg26]
    have hA5 : Ax55 235 3 = what := by
      obtain ⟨c1, ho, hg, hk, hs⟩ := ali67.1
      rw [hk 3 (by omega), entA_5, upd_self]
    refine lv_astore_n (lv' := [(3, .ref (ad (20 + 2 * Ec))), (0, .ref (ad 222)), (1, .int (2)), (2, .int (en))]) Bx.1 Bx.2.1 d_Rd_readBracket_41 rfl hl (by decide) rfl (fun ls hl => ?_)
    refine lv_aload_n Bx.1 Bx.2.1 d_Rd_readBracket_42 rfl (lv_at hl 1 rfl) ?_
    refine lv_aload_n Bx.1 Bx.2.1 d_Rd_readBracket_43 rfl (lv_at hl 1 rfl) ?_
    refine f_callVi (na := 0) (As := []) (rest := [.ref (ad 222)]) Bx hml E hP hD hS (by omega) h9_78 rfl (m_Rd_peekX l hn hT hf hRX66 (by omega)) kw_353 kw_355 sel_Rd_peek kw_6 kw_356 (by decide +kernel) ⟨rfl, rfl⟩ ⟨Nat.le_of_ble_eq_true rfl, Nat.le_of_ble_eq_true rfl⟩ rfl hl.1 (Nat.le_of_ble_eq_true rfl) d_Rd_readBracket_44 ⟨Nat.le_of_ble_eq_true rfl, Nat.le_of_ble_eq_true rfl⟩ (fun r90 mem91 H locs hq hP hS => ?_)
    have hD : va_D (Az sz) (fw n ad mem91) := fw_D hD
    obtain ⟨hqe, hpk89⟩ := hq
    rw [hqe] at hP hD
    subst hpk89
    refine lv_iload_n Bx.1 Bx.2.1 d_Rd_readBracket_47 rfl (lv_at hl 3 rfl) ?_
    refine lv_icmp_ne Bx.1 Bx.2.1 d_Rd_readBracket_48 rfl (fun hb93 => ?_) (fun hb93 => ?_)
    · refine lv_iconst (v := 0) Bx.1 Bx.2.1 d_Rd_readBracket_55 (by decide) ?_
      refine lv_aload_n Bx.1 Bx.2.1 d_Rd_readBracket_56 rfl (lv_at hl 1 rfl) ?_
      refine f_get Bx hP (by omega) h9_78 rfl inRd 2 (by decide) kw_146 rfl rfl d_Rd_readBracket_57 ?_
      refine f_xVv (na := 2) (As := [.int (0), .int (nI g73)]) (rest := []) Bx hml E hP hD hS (by omega) h9_78 rfl (m_Rd_needReadableX l hlt hn hT hf hRX66 (by omega)) kw_360 kw_362 sel_Rd_needReadable kw_6 kw_363 (by decide +kernel) ⟨rfl, rfl⟩ ⟨Nat.le_of_ble_eq_true rfl, Nat.le_of_ble_eq_true rfl⟩ rfl hl.1 (Nat.le_of_ble_eq_true rfl) d_Rd_readBracket_60 ⟨Nat.le_of_ble_eq_true rfl, Nat.le_of_ble_eq_true rfl⟩ (fun X ce q9 memx H locs hx9 hP hS g1 g2 g3 => f_out hlocks hno hP hS g1 g2 g3 ⟨Nat.le_of_ble_eq_true rfl, Nat.le_of_ble_eq_true rfl⟩ ⟨hx9.1, Fai.br1 hent ali67.1.suc (br_no hwe hA5 (by rw [← eg74]; exact hb93) h4770 hnb71)⟩) (fun mem95 H locs hq hP hS => ?_)
      have hD : va_D (Az sz) (fw n ad mem95) := fw_D hD
      obtain ⟨hqe, hg96⟩ := hq
      rw [hqe] at hP hD
      exact absurd rfl hg96
    · refine lv_iconst (v := 1) Bx.1 Bx.2.1 d_Rd_readBracket_51 (by decide) ?_
      refine lv_goto Bx.1 Bx.2.1 d_Rd_readBracket_52 rfl ?_
      refine lv_aload_n Bx.1 Bx.2.1 d_Rd_readBracket_56 rfl (lv_at hl 1 rfl) ?_
      refine f_get Bx hP (by omega) h9_78 rfl inRd 2 (by decide) kw_146 rfl rfl d_Rd_readBracket_57 ?_
      refine f_xVv (na := 2) (As := [.int (1), .int (nI g73)]) (rest := []) Bx hml E hP hD hS (by omega) h9_78 rfl (m_Rd_needReadableX l hlt hn hT hf hRX66 (by omega)) kw_360 kw_362 sel_Rd_needReadable kw_6 kw_363 (by decide +kernel) ⟨rfl, rfl⟩ ⟨Nat.le_of_ble_eq_true rfl, Nat.le_of_ble_eq_true rfl⟩ rfl hl.1 (Nat.le_of_ble_eq_true rfl) d_Rd_readBracket_60 ⟨Nat.le_of_ble_eq_true rfl, Nat.le_of_ble_eq_true rfl⟩ (fun X ce q9 memx H locs hx9 hP hS g1 g2 g3 => f_out hlocks hno hP hS g1 g2 g3 ⟨Nat.le_of_ble_eq_true rfl, Nat.le_of_ble_eq_true rfl⟩ ⟨hx9.1, absurd hx9.2 (by decide)⟩) (fun mem98 H locs hq hP hS => ?_)
      have hD : va_D (Az sz) (fw n ad mem98) := fw_D hD
      obtain ⟨hqe, hg99⟩ := hq
      rw [hqe] at hP hD
      refine lv_aload_n Bx.1 Bx.2.1 d_Rd_readBracket_63 rfl (lv_at hl 1 rfl) ?_
      refine lv_dup Bx.1 Bx.2.1 d_Rd_readBracket_64 rfl ?_
      refine f_get Bx hP (by omega) h9_78 rfl inRd 2 (by decide) kw_146 rfl rfl d_Rd_readBracket_65 ?_
      refine lv_iconst (v := 1) Bx.1 Bx.2.1 d_Rd_readBracket_68 (by decide) ?_
      refine lv_iadd Bx.1 Bx.2.1 d_Rd_readBracket_69 ?_
      rw [show nI g73 + 1 = nI (g73 + 1) from nI_add (g73) (1)]
      refine f_put Bx hP hD hS (by omega) h9_78 rfl inRd tyRd okRd nmRd 2 (by decide) kw_146 rfl rfl rfl rfl (Nat.le_of_ble_eq_true rfl) d_Rd_readBracket_70 (fun H locs hP hS => ?_)
      obtain ⟨mem100, e_mem100⟩ : ∃ z, z = va_up mem48 (222) (.inr (4, [.ref (ad 1), .ref (ad 5), .int (nI (g73 + 1)), .int (ft77)])) := ⟨_, rfl⟩
      have hP : va_P D vcl (fw n ad mem100) H := by rw [e_mem100]; exact hP
      have hD : va_D (Az sz) (fw n ad mem100) := fw_D hD
      have h_mem100 : mem100 (222) = .inr (4, [.ref (ad 1), .ref (ad 5), .int (nI (g73 + 1)), .int (ft77)]) := by rw [e_mem100, va_up_self]
      have hh101 := (va_up_ne mem48 (.inr (4, [.ref (ad 1), .ref (ad 5), .int (nI (g73 + 1)), .int (ft77)])) (show (1 : Nat) ≠ 222 by first | decide | assumption | omega)).trans h1_79
      rw [← e_mem100] at hh101
      have hh102 := (va_up_ne mem48 (.inr (4, [.ref (ad 1), .ref (ad 5), .int (nI (g73 + 1)), .int (ft77)])) (show (5 : Nat) ≠ 222 by first | decide | assumption | omega)).trans h5_81
      rw [← e_mem100] at hh102
      have hh103 := (va_up_ne mem48 (.inr (4, [.ref (ad 1), .ref (ad 5), .int (nI (g73 + 1)), .int (ft77)])) (show (220 : Nat) ≠ 222 by first | decide | assumption | omega)).trans h220_85
      rw [← e_mem100] at hh103
      have hrk104 : ∀ i9, i9 < R → mem100 (7 + i9) = mem (7 + i9) := fun i9 q9 => (show mem100 (7 + i9) = mem48 (7 + i9) by rw [e_mem100]; exact va_up_ne _ _ (by omega)).trans (hrk72 i9 q9)
      have her105 : ER ad (Rx52) (Ex53) (Bx_56) mem100 := ali67.2.1.fr (Nat.le_refl _) (fun i9 hi9 => by rw [e_mem100]; exact va_up_ne _ _ (by omega))
      have hsr106 : SR cy ad (Sx54) (Bx_56) mem100 := ⟨(show mem100 220 = _ from by rw [e_mem100]; exact va_up_ne _ _ (by omega)).trans ali67.2.2.1.1, (show mem100 221 = _ from by rw [e_mem100]; exact va_up_ne _ _ (by omega)).trans ali67.2.2.1.2⟩
      have hRX107 : RX cy ad lim (g73 + 1) (Rx52) (Ex53) (tox58) (nx57) m0 mem100 := by rw [e_mem100]; exact hRX66.at
      refine lv_aload_n Bx.1 Bx.2.1 d_Rd_readBracket_73 rfl (lv_at hl 0 rfl) ?_
      have hal9 : ALI cy ad T Z 3 (seqS T Z (gapF T Z (a + 1)) u R (Ec + 1) 3 (entA A 3 Ec what oe) nm) Ec R Ec S u (entA A 3 Ec what oe) Bw la49 ax50 ux51 Rx52 Ex53 Sx54 Ax55 Bx_56 nx57 mem100 := by rw [← eg26]; exact ⟨ali67.1, her105, hsr106, ali67.2.2.2⟩
      exact x_aret hx hb hlocks hr (⟨la49, ax50, ux51, Rx52, Ex53, Sx54, Ax55, Bx_56, nx57, tox58, rfl, by omega, by omega, by omega, by rw [← eg74]; have := br_lt hwe hb93; omega, htk64, hrk104, by rw [← eg74]; exact hRX107, hal9, by rw [← eg74]; exact hb93, by rw [← eg26]; exact hent⟩) hP hS d_Rd_readBracket_74
set_option maxHeartbeats 4000000 in
set_option maxRecDepth 100000 in
theorem m_Rd_readOption_2Y (l : Launch) {D : va_G} {cy : Nat → ClassId} {sz n : Nat} {ad : Nat → Nat} {mem : Nat → va_E} {Z a R Ec lim : Nat} {f T : Nat → Int32} {to : Nat → Int32} {nm : Nat → Int64} {m0 : Nat → va_E} {u S : Nat} {A Bw : Ro} (hlt : l.stackTraces = false) (hn : 224 ≤ n) (hT : TX cy ad Z f m0) (hf : ∀ k, k < Z → f k = T k) (hRX : RX cy ad lim a R Ec to nm m0 mem) (haB : a ≤ 300) (hER : ER ad R Ec Bw mem) (hSR : SR cy ad S Bw mem) (hSa : S ≤ a) (haZ : a < Z) (hLK : LKa Ec A) (hF : FRM A 2 Ec) (c91 : hereF Z T a = 91) : NXr l D cy sz n ad y_Rd_readOption c_Rd_readOption 3 (some (.object "AbnfChart$Element")) ({ frames := 39, cells := 1, slots := 6, locals := 943 } : Room) mem [.ref (ad 222), .int (2)] (fun r mem' => ∃ (k' a' u' R' E' S' : Nat) (A' Bw' : Ro) (nm' : Nat → Int64) (to' : Nat → Int32), r = ad (20 + 2 * k') ∧ Ec ≤ k' ∧ k' < E' ∧ R ≤ R' ∧ a < a' ∧ a' ≤ Z ∧ TOK R R' to to' ∧ (∀ i9, i9 < R → mem' (7 + i9) = mem (7 + i9)) ∧ RX cy ad lim a' R' E' to' nm' m0 mem' ∧ RDS cy ad T Z 2 (singS T Z a u R Ec 2 A nm) (PSf A 2) R Ec S u A Bw k' a' u' R' E' S' A' Bw' nm' mem' ∧ A' 238 2 = A 238 2) (fun X mem' => ((X = cIA ∨ X = cIS) ∧ ∃ rc' ec' : Nat, RS cy ad lim rc' ec' m0 mem') ∧ (Fai T Z (singS T Z a u R Ec 2 A nm))) := by
  refine vx_ofW (cc := c_Rd_readOption) (maxL := 3) (ret := (some (.object "AbnfChart$Element"))) (by decide) rfl ?_
  intro p e s m args below meth c s₁ B hml hno hv
  obtain ⟨rfl, E, hP, hD⟩ := hv
  have hx := B.exec
  have hb := B.bytes
  have hr := B.returns
  have hlocks := B.notSynchronized
  have Bx : MB p s m [.ref (ad 222), .int (2)].toArray c c_Rd_readOption "AbnfChart$Reader" D cy := ⟨hx, hb, tb_all (atoms_spec B.pre) E.2.1, findClass_of_methodNamed B.named, E.1⟩
  have hS : va_S (Az sz) s.heap s.heap [] := va_S.rf
  have hl := lv_entry ([.ref (ad 222), .int (2)]) (n := 3) (Nat.le_of_ble_eq_true rfl)
  rw [lg_entry_eq]
  generalize (lg_sl ([.ref (ad 222), .int (2)]) ++ List.replicate (3 - (lg_sl ([.ref (ad 222), .int (2)])).length) Slot.unset).toArray = ls at hl ⊢
  have hl : lv_has ls 3 [(0, .ref (ad 222)), (1, .int (2))] := hl
  have hZ9 := hT.2.1
  have hbd9 := hRX.1.1.1
  have hfr0 : ∀ i, 7 ≤ i ∧ i < 222 ∧ i ≠ 20 + 2 * Ec → mem i = mem i := fun _ _ => rfl
  have hrk0 : ∀ i9, i9 < R → mem (7 + i9) = mem (7 + i9) := fun _ _ => rfl
  obtain ⟨ft1, h9_2⟩ := hRX.2.1
  have h1_3 : mem 1 = .inr (0, [.ref (ad 2), .int (nI Z)]) := (hRX.1.2.2 1 (by omega)).trans hT.1
  have h2_4 : mem 2 = .inl (cy 0, 240, .inl f) := (hRX.1.2.2 2 (by omega)).trans hT.2.2
  have h5_5 := hRX.1.1.2.1
  have hbd11 := hRX.1.1.1
  obtain ⟨S6, g7, hS_8, h220_9, h221_10⟩ := hRX.1.1.2.2.2.2.2.2
  refine lv_aload_n Bx.1 Bx.2.1 d_Rd_readOption_0 rfl (lv_at hl 0 rfl) ?_
  refine lv_iconst (v := 3) Bx.1 Bx.2.1 d_Rd_readOption_1 (by decide) ?_
  refine lv_aload_n Bx.1 Bx.2.1 d_Rd_readOption_2 rfl (lv_at hl 0 rfl) ?_
  refine f_get Bx hP (by omega) h9_2 rfl inRd 2 (by decide) kw_146 rfl rfl d_Rd_readOption_3 ?_
  refine f_xVr (na := 2) (As := [.int (3), .int (nI a)]) (rest := []) Bx hml E hP hD hS (by omega) h9_2 rfl (m_Rd_addElementY l hlt hn hT hf hRX (by omega)) kw_419 kw_421 sel_Rd_addElement kw_6 kw_422 (by decide +kernel) ⟨rfl, rfl⟩ ⟨Nat.le_of_ble_eq_true rfl, Nat.le_of_ble_eq_true rfl⟩ rfl hl.1 (Nat.le_of_ble_eq_true rfl) d_Rd_readOption_6 ⟨Nat.le_of_ble_eq_true rfl, Nat.le_of_ble_eq_true rfl⟩ (fun X ce q9 memx H locs hx9 hP hS g1 g2 g3 => f_out hlocks hno hP hS g1 g2 g3 ⟨Nat.le_of_ble_eq_true rfl, Nat.le_of_ble_eq_true rfl⟩ ⟨hx9.1, Or.inl (sing_o0 (l91 c91).1 c91 (Or.inr hx9.2))⟩) (fun r12 mem13 H locs hq hP hS => ?_)
  have hD : va_D (Az sz) (fw n ad mem13) := fw_D hD
  obtain ⟨hr914, hec15, hRX16, hcl17, hfa18⟩ := hq
  subst hr914
  have hrk19 : ∀ i9, i9 < R → mem13 (7 + i9) = mem (7 + i9) := fun i9 q9 => (hfa18 (7 + i9) (by omega)).trans (hrk0 i9 q9)
  have hfr20 : ∀ i, 7 ≤ i ∧ i < 222 ∧ i ≠ 20 + 2 * Ec → mem13 i = mem i := fun i q => (hfa18 i (by omega)).trans (hfr0 i q)
  obtain ⟨ft21, h9_22⟩ := hRX16.2.1
  have h1_23 : mem13 1 = .inr (0, [.ref (ad 2), .int (nI Z)]) := (hRX16.1.2.2 1 (by omega)).trans hT.1
  have h2_24 : mem13 2 = .inl (cy 0, 240, .inl f) := (hRX16.1.2.2 2 (by omega)).trans hT.2.2
  have h5_25 := hRX16.1.1.2.1
  have hbd31 := hRX16.1.1.1
  obtain ⟨S26, g27, hS_28, h220_29, h221_30⟩ := hRX16.1.1.2.2.2.2.2.2
  obtain ⟨ft32, h9_33⟩ := hRX16.2.1
  have h1_34 : mem13 1 = .inr (0, [.ref (ad 2), .int (nI Z)]) := (hRX16.1.2.2 1 (by omega)).trans hT.1
  have h2_35 : mem13 2 = .inl (cy 0, 240, .inl f) := (hRX16.1.2.2 2 (by omega)).trans hT.2.2
  have h5_36 := hRX16.1.1.2.1
  have hbd42 := hRX16.1.1.1
  obtain ⟨S37, g38, hS_39, h220_40, h221_41⟩ := hRX16.1.1.2.2.2.2.2.2
  refine lv_astore_n (lv' := [(2, .ref (ad (20 + 2 * Ec))), (0, .ref (ad 222)), (1, .int (2))]) Bx.1 Bx.2.1 d_Rd_readOption_9 rfl hl (by decide) rfl (fun ls hl => ?_)
  refine lv_aload_n Bx.1 Bx.2.1 d_Rd_readOption_10 rfl (lv_at hl 0 rfl) ?_
  refine lv_aload_n Bx.1 Bx.2.1 d_Rd_readOption_11 rfl (lv_at hl 1 rfl) ?_
  refine lv_iload_n Bx.1 Bx.2.1 d_Rd_readOption_12 rfl (lv_at hl 2 rfl) ?_
  refine lv_bipush (v := 93) Bx.1 Bx.2.1 d_Rd_readOption_13 (by decide) ?_
  have her43 : ER ad R (Ec + 1) (bwN Bw Ec 3 (0) (0) (-1) (-1) (-1) (Bw 234)) mem13 := hER.new (Nat.le_refl _) (by rw [vR_m]; exact hcl17) (Or.inl rfl) (fun i9 hi9 => hfr20 (20 + 2 * i9) (by omega))
  have hsr44 : SR cy ad S (bwN Bw Ec 3 (0) (0) (-1) (-1) (-1) (Bw 234)) mem13 := ⟨(hfr20 220 (by omega)).trans hSR.1, (hfr20 221 (by omega)).trans hSR.2⟩
  have hE9 := hec15
  refine f_xVr (na := 2) (As := [.int (2), .int (93)]) (rest := [.ref (ad (20 + 2 * Ec))]) Bx hml E hP hD hS (by omega) h9_33 rfl (m_Rd_readBracket_2Y l hlt hn hT hf hRX16 (by omega) (u := u) (A := elA A Ec 3) (what := 2) (oe := nI Ec) her43 hsr44 (by omega) (by omega) (Or.inr ⟨rfl, rfl⟩) (elA_lka hLK)) kw_447 kw_449 sel_Rd_readBracket kw_6 kw_450 (by decide +kernel) ⟨rfl, rfl⟩ ⟨Nat.le_of_ble_eq_true rfl, Nat.le_of_ble_eq_true rfl⟩ rfl hl.1 (Nat.le_of_ble_eq_true rfl) d_Rd_readOption_15 ⟨Nat.le_of_ble_eq_true rfl, Nat.le_of_ble_eq_true rfl⟩ (fun X ce q9 memx H locs hx9 hP hS g1 g2 g3 => f_out hlocks hno hP hS g1 g2 g3 ⟨Nat.le_of_ble_eq_true rfl, Nat.le_of_ble_eq_true rfl⟩ ⟨hx9.1, hx9.2.eq (sing_op (l91 c91).1 c91 (by omega) hE9)⟩) (fun r45 mem46 H locs hq hP hS => ?_)
  have hD : va_D (Az sz) (fw n ad mem46) := fw_D hD
  obtain ⟨la47, ax48, ux49, Rx50, Ex51, Sx52, Ax53, Bx_54, nx55, tox56, hr957, h158, h259, h360, h461, htk62, hrk63, hRX64, ali65, hh66, hent67⟩ := hq
  subst hr957
  have hrk68 : ∀ i9, i9 < R → mem46 (7 + i9) = mem (7 + i9) := fun i9 q9 => (hrk63 i9 (by omega)).trans (hrk19 i9 q9)
  obtain ⟨ft69, h9_70⟩ := hRX64.2.1
  have h1_71 : mem46 1 = .inr (0, [.ref (ad 2), .int (nI Z)]) := (hRX64.1.2.2 1 (by omega)).trans hT.1
  have h2_72 : mem46 2 = .inl (cy 0, 240, .inl f) := (hRX64.1.2.2 2 (by omega)).trans hT.2.2
  have h5_73 := hRX64.1.1.2.1
  have hbd79 := hRX64.1.1.1
  obtain ⟨S74, g75, hS_76, h220_77, h221_78⟩ := hRX64.1.1.2.2.2.2.2.2
  have hbd80 := hRX64.1.1.1
  have hce81 := (ali65.2.1 Ec (by omega)).1
  refine f_putN Bx hP hD hS (by omega) hce81 rfl inEl tyEl okEl nmEl 4 (by decide) kw_87 rfl rfl rfl rfl (Nat.le_of_ble_eq_true rfl) d_Rd_readOption_18 (fun H locs hP hS => ?_)
  obtain ⟨mem82, e_mem82⟩ : ∃ z, z = va_up mem46 ((20 + 2 * Ec)) (.inr (2, [.int (Bx_54 228 Ec), .int (Bx_54 229 Ec), .int (Bx_54 230 Ec), vR ad (Bx_54 231 Ec), .ref (ad (20 + 2 * (Ec + 1))), vE ad (Bx_54 233 Ec), .ref (ad (21 + 2 * Ec))])) := ⟨_, rfl⟩
  have hP : va_P D vcl (fw n ad mem82) H := by rw [e_mem82]; exact hP
  have hD : va_D (Az sz) (fw n ad mem82) := fw_D hD
  have h_mem82 : mem82 ((20 + 2 * Ec)) = .inr (2, [.int (Bx_54 228 Ec), .int (Bx_54 229 Ec), .int (Bx_54 230 Ec), vR ad (Bx_54 231 Ec), .ref (ad (20 + 2 * (Ec + 1))), vE ad (Bx_54 233 Ec), .ref (ad (21 + 2 * Ec))]) := by rw [e_mem82, va_up_self]
  have hh83 := (va_up_ne mem46 (.inr (2, [.int (Bx_54 228 Ec), .int (Bx_54 229 Ec), .int (Bx_54 230 Ec), vR ad (Bx_54 231 Ec), .ref (ad (20 + 2 * (Ec + 1))), vE ad (Bx_54 233 Ec), .ref (ad (21 + 2 * Ec))])) (show (222 : Nat) ≠ (20 + 2 * Ec) by first | decide | assumption | omega)).trans h9_70
  rw [← e_mem82] at hh83
  have hh84 := (va_up_ne mem46 (.inr (2, [.int (Bx_54 228 Ec), .int (Bx_54 229 Ec), .int (Bx_54 230 Ec), vR ad (Bx_54 231 Ec), .ref (ad (20 + 2 * (Ec + 1))), vE ad (Bx_54 233 Ec), .ref (ad (21 + 2 * Ec))])) (show (1 : Nat) ≠ (20 + 2 * Ec) by first | decide | assumption | omega)).trans h1_71
  rw [← e_mem82] at hh84
  have hh85 := (va_up_ne mem46 (.inr (2, [.int (Bx_54 228 Ec), .int (Bx_54 229 Ec), .int (Bx_54 230 Ec), vR ad (Bx_54 231 Ec), .ref (ad (20 + 2 * (Ec + 1))), vE ad (Bx_54 233 Ec), .ref (ad (21 + 2 * Ec))])) (show (5 : Nat) ≠ (20 + 2 * Ec) by first | decide | assumption | omega)).trans h5_73
  rw [← e_mem82] at hh85
  have hh86 := (va_up_ne mem46 (.inr (2, [.int (Bx_54 228 Ec), .int (Bx_54 229 Ec), .int (Bx_54 230 Ec), vR ad (Bx_54 231 Ec), .ref (ad (20 + 2 * (Ec + 1))), vE ad (Bx_54 233 Ec), .ref (ad (21 + 2 * Ec))])) (show (220 : Nat) ≠ (20 + 2 * Ec) by first | decide | assumption | omega)).trans h220_77
  rw [← e_mem82] at hh86
  have hrk87 : ∀ i9, i9 < R → mem82 (7 + i9) = mem (7 + i9) := fun i9 q9 => (show mem82 (7 + i9) = mem46 (7 + i9) by rw [e_mem82]; exact va_up_ne _ _ (by omega)).trans (hrk68 i9 q9)
  have hRX88 : RX cy ad lim (gapF T Z ax48 + 1) (Rx50) (Ex51) (tox56) (nx55) m0 mem82 := by rw [e_mem82]; exact hRX64.el (by omega) (hRX64.1.mk (by omega) (hRX64.1.1.upEl (by omega) (fun _ => ⟨(ali65.2.1 Ec (by omega)).2.1.oR ad, Or.inr ⟨(Ec + 1), by omega, by omega, rfl⟩, (ali65.2.1 Ec (by omega)).2.2.2.oE ad (by omega)⟩)))
  have her89 : ER ad (Rx50) (Ex51) (va_up Bx_54 232 (upd (Bx_54 232) Ec (nI (Ec + 1)))) mem82 := ali65.2.1.part (by omega) (by omega) (by omega) h_mem82 (fun i9 q9 hi9 => by rw [e_mem82]; exact va_up_ne _ _ (by omega))
  have hsr90 : SR cy ad (Sx52) (Bx_54) mem82 := ⟨(show mem82 220 = mem46 220 by rw [e_mem82]; exact va_up_ne _ _ (by omega)).trans ali65.2.2.1.1, (show mem82 221 = mem46 221 by rw [e_mem82]; exact va_up_ne _ _ (by omega)).trans ali65.2.2.1.2⟩
  obtain ⟨ft91, h9_92⟩ := hRX88.2.1
  have h1_93 : mem82 1 = .inr (0, [.ref (ad 2), .int (nI Z)]) := (hRX88.1.2.2 1 (by omega)).trans hT.1
  have h2_94 : mem82 2 = .inl (cy 0, 240, .inl f) := (hRX88.1.2.2 2 (by omega)).trans hT.2.2
  have h5_95 := hRX88.1.1.2.1
  have hbd101 := hRX88.1.1.1
  obtain ⟨S96, g97, hS_98, h220_99, h221_100⟩ := hRX88.1.1.2.2.2.2.2.2
  refine lv_aload_n Bx.1 Bx.2.1 d_Rd_readOption_21 rfl (lv_at hl 0 rfl) ?_
  have hrd9 := opt_rds (nm := nm) hLK (by omega) hF hent67 ali65 hh66 her89 hsr90
  exact x_aret hx hb hlocks hr (⟨Ec, gapF T Z ax48 + 1, ux49, Rx50, Ex51, Sx52, _, _, nx55, tox56, rfl, by omega, by omega, by omega, by have := gapF_ge T Z ax48; omega, by omega, htk62, hrk87, hRX88, rdsEq hrd9.1 (sing_op (l91 c91).1 c91 (by omega) hE9), hrd9.2⟩) hP hS d_Rd_readOption_22
set_option maxHeartbeats 4000000 in
set_option maxRecDepth 100000 in
theorem m_Rd_readElement_2Y (l : Launch) {D : va_G} {cy : Nat → ClassId} {sz n : Nat} {ad : Nat → Nat} {mem : Nat → va_E} {Z a R Ec lim : Nat} {f T : Nat → Int32} {to : Nat → Int32} {nm : Nat → Int64} {m0 : Nat → va_E} {u S : Nat} {A Bw : Ro} (hlt : l.stackTraces = false) (hn : 224 ≤ n) (hT : TX cy ad Z f m0) (hf : ∀ k, k < Z → f k = T k) (hRX : RX cy ad lim a R Ec to nm m0 mem) (haB : a ≤ 300) (hER : ER ad R Ec Bw mem) (hSR : SR cy ad S Bw mem) (hSa : S ≤ a) (haZ : a ≤ Z) (hLK : LKa Ec A) (hF : FRM A 2 Ec) : NXr l D cy sz n ad y_Rd_readElement c_Rd_readElement 2 (some (.object "AbnfChart$Element")) ({ frames := 40, cells := 1, slots := 6, locals := 966 } : Room) mem [.ref (ad 222), .int (2)] (fun r mem' => ∃ (k' a' u' R' E' S' : Nat) (A' Bw' : Ro) (nm' : Nat → Int64) (to' : Nat → Int32), r = ad (20 + 2 * k') ∧ Ec ≤ k' ∧ k' < E' ∧ R ≤ R' ∧ a < a' ∧ a' ≤ Z ∧ TOK R R' to to' ∧ (∀ i9, i9 < R → mem' (7 + i9) = mem (7 + i9)) ∧ RX cy ad lim a' R' E' to' nm' m0 mem' ∧ RDS cy ad T Z 2 (singS T Z a u R Ec 2 A nm) (PSf A 2) R Ec S u A Bw k' a' u' R' E' S' A' Bw' nm' mem' ∧ A' 238 2 = A 238 2 ∧ OKc (hereF Z T a)) (fun X mem' => ((X = cIA ∨ X = cIS) ∧ ∃ rc' ec' : Nat, RS cy ad lim rc' ec' m0 mem') ∧ (Fai T Z (singS T Z a u R Ec 2 A nm) ∨ ¬ OKc (hereF Z T a))) := by
  refine vx_ofW (cc := c_Rd_readElement) (maxL := 2) (ret := (some (.object "AbnfChart$Element"))) (by decide) rfl ?_
  intro p e s m args below meth c s₁ B hml hno hv
  obtain ⟨rfl, E, hP, hD⟩ := hv
  have hx := B.exec
  have hb := B.bytes
  have hr := B.returns
  have hlocks := B.notSynchronized
  have Bx : MB p s m [.ref (ad 222), .int (2)].toArray c c_Rd_readElement "AbnfChart$Reader" D cy := ⟨hx, hb, tb_all (atoms_spec B.pre) E.2.1, findClass_of_methodNamed B.named, E.1⟩
  have hS : va_S (Az sz) s.heap s.heap [] := va_S.rf
  have hl := lv_entry ([.ref (ad 222), .int (2)]) (n := 2) (Nat.le_of_ble_eq_true rfl)
  rw [lg_entry_eq]
  generalize (lg_sl ([.ref (ad 222), .int (2)]) ++ List.replicate (2 - (lg_sl ([.ref (ad 222), .int (2)])).length) Slot.unset).toArray = ls at hl ⊢
  have hl : lv_has ls 2 [(0, .ref (ad 222)), (1, .int (2))] := hl
  have hZ9 := hT.2.1
  have hbd9 := hRX.1.1.1
  have hfr0 : ∀ i, 7 ≤ i ∧ i < 222 ∧ i ≠ 20 + 2 * Ec → mem i = mem i := fun _ _ => rfl
  have hrk0 : ∀ i9, i9 < R → mem (7 + i9) = mem (7 + i9) := fun _ _ => rfl
  obtain ⟨ft1, h9_2⟩ := hRX.2.1
  have h1_3 : mem 1 = .inr (0, [.ref (ad 2), .int (nI Z)]) := (hRX.1.2.2 1 (by omega)).trans hT.1
  have h2_4 : mem 2 = .inl (cy 0, 240, .inl f) := (hRX.1.2.2 2 (by omega)).trans hT.2.2
  have h5_5 := hRX.1.1.2.1
  have hbd11 := hRX.1.1.1
  obtain ⟨S6, g7, hS_8, h220_9, h221_10⟩ := hRX.1.1.2.2.2.2.2.2
  refine lv_aload_n Bx.1 Bx.2.1 d_Rd_readElement_0 rfl (lv_at hl 0 rfl) ?_
  refine f_callVi (na := 0) (As := []) (rest := []) Bx hml E hP hD hS (by omega) h9_2 rfl (m_Rd_peekX l hn hT hf hRX (by omega)) kw_353 kw_355 sel_Rd_peek kw_6 kw_356 (by decide +kernel) ⟨rfl, rfl⟩ ⟨Nat.le_of_ble_eq_true rfl, Nat.le_of_ble_eq_true rfl⟩ rfl hl.1 (Nat.le_of_ble_eq_true rfl) d_Rd_readElement_1 ⟨Nat.le_of_ble_eq_true rfl, Nat.le_of_ble_eq_true rfl⟩ (fun r13 mem14 H locs hq hP hS => ?_)
  have hD : va_D (Az sz) (fw n ad mem14) := fw_D hD
  obtain ⟨hqe, hpk12⟩ := hq
  rw [hqe] at hP hD
  subst hpk12
  refine lv_topi (fun v16 e_v16 => ?_)
  by_cases c34 : v16 = 34
  · rw [c34]
    refine lv_lookup (off := 58) (tgt := 62) Bx.1 Bx.2.1 d_Rd_readElement_4 (by decide) (by decide) rfl ?_
    rw [e_v16] at c34
    have hlt34 := hereF_lt (show hereF Z T (a) ≠ -1 by rw [c34]; decide)
    refine lv_aload_n Bx.1 Bx.2.1 d_Rd_readElement_62 rfl (lv_at hl 0 rfl) ?_
    refine lv_aload_n Bx.1 Bx.2.1 d_Rd_readElement_63 rfl (lv_at hl 0 rfl) ?_
    refine f_get Bx hP (by omega) h9_2 rfl inRd 2 (by decide) kw_146 rfl rfl d_Rd_readElement_64 ?_
    refine lv_iconst (v := 5) Bx.1 Bx.2.1 d_Rd_readElement_67 (by decide) ?_
    refine f_xVr (na := 2) (As := [.int (nI a), .int (5)]) (rest := []) Bx hml E hP hD hS (by omega) h9_2 rfl (m_Rd_readStringY l hlt hn hT hf hRX (by omega) hSR.1 hSR.2 (by omega) hSa) kw_455 kw_457 sel_Rd_readString kw_6 kw_458 (by decide +kernel) ⟨rfl, rfl⟩ ⟨Nat.le_of_ble_eq_true rfl, Nat.le_of_ble_eq_true rfl⟩ rfl hl.1 (Nat.le_of_ble_eq_true rfl) d_Rd_readElement_68 ⟨Nat.le_of_ble_eq_true rfl, Nat.le_of_ble_eq_true rfl⟩ (fun X ce q9 memx H locs hx9 hP hS g1 g2 g3 => f_out hlocks hno hP hS g1 g2 g3 ⟨Nat.le_of_ble_eq_true rfl, Nat.le_of_ble_eq_true rfl⟩ ⟨hx9.1, Or.inl (fai_str c34 hx9.2 hbd9.2.1)⟩) (fun r17 mem18 H locs hq hP hS => ?_)
    have hD : va_D (Az sz) (fw n ad mem18) := fw_D hD
    obtain ⟨hE9, hq9, hr2, hle9, hRX2, hcl2, ⟨s9, hs0, hs1, hs2, hs3⟩, hfr2⟩ := hq
    subst hr2
    obtain ⟨A2, B2, hrd2, h82⟩ := rds_str (j := 2) (u := u) (nm := nm) c34 hE9 hq9 hLK hF hER hcl2 hs0 hs1 hs2 hs3 (fun k hk => hfr2 (20 + 2 * k) (by omega)) hSa
    exact x_aret hx hb hlocks hr (⟨Ec, _, _, R, Ec + 1, _, A2, B2, nm, to, rfl, by omega, by omega, by omega, by omega, hle9, TOK.of rfl, fun i9 q9 => hfr2 (7 + i9) (by omega), hRX2, hrd2, h82, (l34 c34).2.2.2⟩) hP hS d_Rd_readElement_71
  by_cases c37 : v16 = 37
  · rw [c37]
    refine lv_lookup (off := 68) (tgt := 72) Bx.1 Bx.2.1 d_Rd_readElement_4 (by decide) (by decide) rfl ?_
    rw [e_v16] at c37
    have hlt37 := hereF_lt (show hereF Z T (a) ≠ -1 by rw [c37]; decide)
    refine lv_aload_n Bx.1 Bx.2.1 d_Rd_readElement_72 rfl (lv_at hl 0 rfl) ?_
    refine f_get Bx hP (by omega) h9_2 rfl inRd 0 (by decide) kw_144 rfl rfl d_Rd_readElement_73 ?_
    refine lv_aload_n Bx.1 Bx.2.1 d_Rd_readElement_76 rfl (lv_at hl 0 rfl) ?_
    refine f_get Bx hP (by omega) h9_2 rfl inRd 2 (by decide) kw_146 rfl rfl d_Rd_readElement_77 ?_
    refine lv_iconst (v := 1) Bx.1 Bx.2.1 d_Rd_readElement_80 (by decide) ?_
    refine lv_iadd Bx.1 Bx.2.1 d_Rd_readElement_81 ?_
    rw [show nI a + 1 = nI (a + 1) from nI_add (a) (1)]
    refine f_callVi (na := 1) (As := [.int (nI (a + 1))]) (rest := []) Bx hml E hP hD hS (by omega) h1_3 rfl (m_Ch_codeAt l (by omega) h1_3 (by omega) h2_4 (by rw [nI_toInt (by omega)]; omega)) kw_341 kw_342 kw_343 kw_2 kw_344 (by decide +kernel) ⟨rfl, rfl⟩ ⟨Nat.le_of_ble_eq_true rfl, Nat.le_of_ble_eq_true rfl⟩ rfl hl.1 (Nat.le_of_ble_eq_true rfl) d_Rd_readElement_82 ⟨Nat.le_of_ble_eq_true rfl, Nat.le_of_ble_eq_true rfl⟩ (fun r19 mem20 H locs hq hP hS => ?_)
    have hD : va_D (Az sz) (fw n ad mem20) := fw_D hD
    obtain ⟨hco21, hqe⟩ := hq
    rw [hqe] at hP hD
    rw [code_here hf hT.2.1 (k := a + 1) (by omega)] at hco21
    subst hco21
    refine f_callSNi (na := 1) (As := [.int (hereF Z T (a + 1))]) (rest := []) Bx hml E.2.1 (m_Ab_smallOfX l (hereF Z T (a + 1))) kw_372 kw_373 kw_1 kw_374 (by decide +kernel) ⟨rfl, rfl⟩ ⟨Nat.le_of_ble_eq_true rfl, Nat.le_of_ble_eq_true rfl⟩ rfl hl.1 (Nat.le_of_ble_eq_true rfl) d_Rd_readElement_85 ⟨Nat.le_of_ble_eq_true rfl, Nat.le_of_ble_eq_true rfl⟩ (fun r23 hs22 => ?_)
    subst hs22
    refine lv_bipush (v := 115) Bx.1 Bx.2.1 d_Rd_readElement_88 (by decide) ?_
    refine lv_icmp_ne Bx.1 Bx.2.1 d_Rd_readElement_90 rfl (fun hb24 => ?_) (fun hb24 => ?_)
    · refine lv_aload_n Bx.1 Bx.2.1 d_Rd_readElement_100 rfl (lv_at hl 0 rfl) ?_
      refine f_xVr (na := 0) (As := []) (rest := []) Bx hml E hP hD hS (by omega) h9_2 rfl (m_Rd_readValueY l hlt hn hT hf hRX (by omega) (u8 := u) (e8 := Ec) (A0 := va_up (elA A Ec 4) 231 (upd (elA A Ec 4 231) Ec (vp_nar .boolean 1))) hSR.1 hSR.2 (by omega) hSa) kw_467 kw_469 sel_Rd_readValue kw_6 kw_470 (by decide +kernel) ⟨rfl, rfl⟩ ⟨Nat.le_of_ble_eq_true rfl, Nat.le_of_ble_eq_true rfl⟩ rfl hl.1 (Nat.le_of_ble_eq_true rfl) d_Rd_readElement_101 ⟨Nat.le_of_ble_eq_true rfl, Nat.le_of_ble_eq_true rfl⟩ (fun X ce q9 memx H locs hx9 hP hS g1 g2 g3 => f_out hlocks hno hP hS g1 g2 g3 ⟨Nat.le_of_ble_eq_true rfl, Nat.le_of_ble_eq_true rfl⟩ ⟨hx9.1, Or.inl (fai_val c37 hb24 hx9.2 hbd9.2.1)⟩) (fun r25 mem26 H locs hq hP hS => ?_)
      have hD : va_D (Az sz) (fw n ad mem26) := fw_D hD
      obtain ⟨hE9, ba, a2, u2, A1, hba, hn9, hr2, x1, x2, hRX2, hsp2, hc2, hfr2⟩ := hq
      subst hr2
      obtain ⟨S2, A2, B2, hrd2, h82⟩ := rds_val (j := 2) (nm := nm) c37 hba hE9 hn9 hsp2 hLK hF hER (fun k hk => hfr2 (20 + 2 * k) (by omega)) hSa x1 hc2
      exact x_aret hx hb hlocks hr (⟨Ec, a2, u2, R, Ec + 1, S2, A2, B2, nm, to, rfl, by omega, by omega, by omega, x1, x2, TOK.of rfl, fun i9 q9 => hfr2 (7 + i9) (by omega), hRX2, hrd2, h82, (l37 c37).2.2.2.2⟩) hP hS d_Rd_readElement_104
    · refine lv_aload_n Bx.1 Bx.2.1 d_Rd_readElement_93 rfl (lv_at hl 0 rfl) ?_
      refine f_xVr (na := 0) (As := []) (rest := []) Bx hml E hP hD hS (by omega) h9_2 rfl (m_Rd_readExactStringY l hlt hn hT hf hRX (by omega) hSR.1 hSR.2 (by omega) hSa) kw_463 kw_465 sel_Rd_readExactString kw_6 kw_466 (by decide +kernel) ⟨rfl, rfl⟩ ⟨Nat.le_of_ble_eq_true rfl, Nat.le_of_ble_eq_true rfl⟩ rfl hl.1 (Nat.le_of_ble_eq_true rfl) d_Rd_readElement_94 ⟨Nat.le_of_ble_eq_true rfl, Nat.le_of_ble_eq_true rfl⟩ (fun X ce q9 memx H locs hx9 hP hS g1 g2 g3 => f_out hlocks hno hP hS g1 g2 g3 ⟨Nat.le_of_ble_eq_true rfl, Nat.le_of_ble_eq_true rfl⟩ ⟨hx9.1, Or.inl (fai_xst c37 hb24 hx9.2 hbd9.2.1)⟩) (fun r27 mem28 H locs hq hP hS => ?_)
      have hD : va_D (Az sz) (fw n ad mem28) := fw_D hD
      obtain ⟨hq8, hE9, hq9, hr2, hle9, hRX2, hcl2, ⟨s9, hs0, hs1, hs2, hs3⟩, hfr2⟩ := hq
      subst hr2
      obtain ⟨A2, B2, hrd2, h82⟩ := rds_xst (j := 2) (u := u) (nm := nm) c37 hb24 hq8 hE9 hq9 hLK hF hER hcl2 hs0 hs1 hs2 hs3 (fun k hk => hfr2 (20 + 2 * k) (by omega)) hSa
      refine lv_goto Bx.1 Bx.2.1 d_Rd_readElement_97 rfl ?_
      exact x_aret hx hb hlocks hr (⟨Ec, _, _, R, Ec + 1, _, A2, B2, nm, to, rfl, by omega, by omega, by omega, by omega, hle9, TOK.of rfl, fun i9 q9 => hfr2 (7 + i9) (by omega), hRX2, hrd2, h82, (l37 c37).2.2.2.2⟩) hP hS d_Rd_readElement_104
  by_cases c40 : v16 = 40
  · rw [c40]
    refine lv_lookup (off := 44) (tgt := 48) Bx.1 Bx.2.1 d_Rd_readElement_4 (by decide) (by decide) rfl ?_
    rw [e_v16] at c40
    have hlt40 := hereF_lt (show hereF Z T (a) ≠ -1 by rw [c40]; decide)
    refine lv_aload_n Bx.1 Bx.2.1 d_Rd_readElement_48 rfl (lv_at hl 0 rfl) ?_
    refine lv_iload_n Bx.1 Bx.2.1 d_Rd_readElement_49 rfl (lv_at hl 1 rfl) ?_
    refine lv_bipush (v := 41) Bx.1 Bx.2.1 d_Rd_readElement_50 (by decide) ?_
    refine f_xVr (na := 2) (As := [.int (2), .int (41)]) (rest := []) Bx hml E hP hD hS (by omega) h9_2 rfl (m_Rd_readBracket_2Y l hlt hn hT hf hRX (by omega) (u := u) (A := A) (what := 1) (oe := -1) hER hSR hSa (by omega) (Or.inl ⟨rfl, rfl⟩) hLK) kw_447 kw_449 sel_Rd_readBracket kw_6 kw_450 (by decide +kernel) ⟨rfl, rfl⟩ ⟨Nat.le_of_ble_eq_true rfl, Nat.le_of_ble_eq_true rfl⟩ rfl hl.1 (Nat.le_of_ble_eq_true rfl) d_Rd_readElement_52 ⟨Nat.le_of_ble_eq_true rfl, Nat.le_of_ble_eq_true rfl⟩ (fun X ce q9 memx H locs hx9 hP hS g1 g2 g3 => f_out hlocks hno hP hS g1 g2 g3 ⟨Nat.le_of_ble_eq_true rfl, Nat.le_of_ble_eq_true rfl⟩ ⟨hx9.1, Or.inl (hx9.2.eq (sing_br (l40 c40).1 c40 (by omega)))⟩) (fun r29 mem30 H locs hq hP hS => ?_)
    have hD : va_D (Az sz) (fw n ad mem30) := fw_D hD
    obtain ⟨la31, ax32, ux33, Rx34, Ex35, Sx36, Ax37, Bx_38, nx39, tox40, hr941, h142, h243, h344, h445, htk46, hrk47, hRX48, ali49, hh50, hent51⟩ := hq
    subst hr941
    have hrk52 : ∀ i9, i9 < R → mem30 (7 + i9) = mem (7 + i9) := fun i9 q9 => (hrk47 i9 (by omega)).trans (hrk0 i9 q9)
    have hE9 : Ec < 100 := by have := hRX48.1.1.1; omega
    have hrd9 := brk_rds (nm := nm) hLK hE9 hF hent51 ali49 hh50 ali49.2.1 ali49.2.2.1
    exact x_aret hx hb hlocks hr (⟨Ec, gapF T Z ax32 + 1, ux33, Rx34, Ex35, Sx36, _, _, nx39, tox40, rfl, by omega, by omega, by omega, by have := gapF_ge T Z ax32; omega, by omega, htk46, hrk52, hRX48, rdsEq hrd9.1 (sing_br (l40 c40).1 c40 (by omega)), hrd9.2, (l40 c40).2⟩) hP hS d_Rd_readElement_55
  by_cases c91 : v16 = 91
  · rw [c91]
    refine lv_lookup (off := 52) (tgt := 56) Bx.1 Bx.2.1 d_Rd_readElement_4 (by decide) (by decide) rfl ?_
    rw [e_v16] at c91
    have hlt91 := hereF_lt (show hereF Z T (a) ≠ -1 by rw [c91]; decide)
    refine lv_aload_n Bx.1 Bx.2.1 d_Rd_readElement_56 rfl (lv_at hl 0 rfl) ?_
    refine lv_iload_n Bx.1 Bx.2.1 d_Rd_readElement_57 rfl (lv_at hl 1 rfl) ?_
    refine f_xVr (na := 1) (As := [.int (2)]) (rest := []) Bx hml E hP hD hS (by omega) h9_2 rfl (m_Rd_readOption_2Y l hlt hn hT hf hRX (by omega) (u := u) (A := A) hER hSR hSa (by omega) hLK hF c91) kw_451 kw_453 sel_Rd_readOption kw_6 kw_454 (by decide +kernel) ⟨rfl, rfl⟩ ⟨Nat.le_of_ble_eq_true rfl, Nat.le_of_ble_eq_true rfl⟩ rfl hl.1 (Nat.le_of_ble_eq_true rfl) d_Rd_readElement_58 ⟨Nat.le_of_ble_eq_true rfl, Nat.le_of_ble_eq_true rfl⟩ (fun X ce q9 memx H locs hx9 hP hS g1 g2 g3 => f_out hlocks hno hP hS g1 g2 g3 ⟨Nat.le_of_ble_eq_true rfl, Nat.le_of_ble_eq_true rfl⟩ ⟨hx9.1, Or.inl hx9.2⟩) (fun r53 mem54 H locs hq hP hS => ?_)
    have hD : va_D (Az sz) (fw n ad mem54) := fw_D hD
    obtain ⟨kx55, ax56, ux57, Rx58, Ex59, Sx60, Ax61, Bx_62, nx63, tox64, hr965, h166, h267, h368, h469, h570, htk71, hrk72, hRX73, rds74, h875⟩ := hq
    subst hr965
    have hrk76 : ∀ i9, i9 < R → mem54 (7 + i9) = mem (7 + i9) := fun i9 q9 => (hrk72 i9 (by omega)).trans (hrk0 i9 q9)
    exact x_aret hx hb hlocks hr (⟨kx55, ax56, ux57, Rx58, Ex59, Sx60, Ax61, Bx_62, nx63, tox64, rfl, h166, h267, h368, h469, h570, htk71, hrk72, hRX73, rds74, h875, (l91 c91).2⟩) hP hS d_Rd_readElement_61
  refine lv_lookup (off := 101) (tgt := 105) Bx.1 Bx.2.1 d_Rd_readElement_4 (by decide) (by show Op.lookupswitch.offset [(34, 58), (37, 68), (40, 44), (91, 52)] 101 (v16).toInt = 101; rw [lv_osw c34 (by decide), lv_osw c37 (by decide), lv_osw c40 (by decide), lv_osw c91 (by decide)]; rfl) rfl ?_
  rw [e_v16] at c40 c91 c34 c37
  refine lv_aload_n Bx.1 Bx.2.1 d_Rd_readElement_105 rfl (lv_at hl 0 rfl) ?_
  refine f_xVr (na := 0) (As := []) (rest := []) Bx hml E hP hD hS (by omega) h9_2 rfl (m_Rd_readAskedNameY l hlt hn hT hf hRX (by omega) (A := A) (by omega)) kw_478 kw_480 sel_Rd_readAskedName kw_6 kw_481 (by decide +kernel) ⟨rfl, rfl⟩ ⟨Nat.le_of_ble_eq_true rfl, Nat.le_of_ble_eq_true rfl⟩ rfl hl.1 (Nat.le_of_ble_eq_true rfl) d_Rd_readElement_106 ⟨Nat.le_of_ble_eq_true rfl, Nat.le_of_ble_eq_true rfl⟩ (fun X ce q9 memx H locs hx9 hP hS g1 g2 g3 => f_out hlocks hno hP hS g1 g2 g3 ⟨Nat.le_of_ble_eq_true rfl, Nat.le_of_ble_eq_true rfl⟩ ⟨hx9.1, fai_nam c40 c91 c34 c37 hx9.2⟩) (fun r77 mem78 H locs hq hP hS => ?_)
  have hD : va_D (Az sz) (fw n ad mem78) := fw_D hD
  obtain ⟨i9, a2, R2, A3, n2, hsn, hle, hE9, hr2, x1, x2, x3, hA3, htk, ⟨t2, htk2, hRX2⟩, hi9, hcl2, hfr2⟩ := hq
  subst hr2
  have hR12 := hRX2.1.1.1.1
  obtain ⟨A2, B2, hrd2, h82⟩ := rds_nam (j := 2) (u := u) hle hsn hE9 hA3 htk x1 hi9 hR12 hLK hF hER ⟨(hfr2 220 (by omega)).trans hSR.1, (hfr2 221 (by omega)).trans hSR.2⟩ hcl2 (fun k hk => hfr2 (20 + 2 * k) (by omega)) (by omega)
  exact x_aret hx hb hlocks hr (⟨Ec, a2, u, R2, Ec + 1, S, A2, B2, n2, t2, rfl, by omega, by omega, x1, x2, x3, htk2, fun i9 q9 => hfr2 (7 + i9) (by omega), hRX2, hrd2, h82, lt_ok hle⟩) hP hS d_Rd_readElement_109
set_option maxHeartbeats 4000000 in
set_option maxRecDepth 100000 in
theorem m_Rd_readRepetition_2Y (l : Launch) {D : va_G} {cy : Nat → ClassId} {sz n : Nat} {ad : Nat → Nat} {mem : Nat → va_E} {Z a R Ec lim : Nat} {f T : Nat → Int32} {to : Nat → Int32} {nm : Nat → Int64} {m0 : Nat → va_E} {u S : Nat} {A Bw : Ro} (hlt : l.stackTraces = false) (hn : 224 ≤ n) (hT : TX cy ad Z f m0) (hf : ∀ k, k < Z → f k = T k) (hRX : RX cy ad lim a R Ec to nm m0 mem) (haB : a ≤ 300) (hER : ER ad R Ec Bw mem) (hSR : SR cy ad S Bw mem) (hSa : S ≤ a) (haZ : a ≤ Z) (hLK : LKa Ec A) (hF : FRM A 2 Ec) (h39 : A 239 2 = -1) (hbg : bgF (hereF Z T a) = true) : NXr l D cy sz n ad y_Rd_readRepetition c_Rd_readRepetition 3 (some (.object "AbnfChart$Element")) ({ frames := 41, cells := 1, slots := 6, locals := 988 } : Room) mem [.ref (ad 222), .int (2)] (fun r mem' => ∃ (k' a' u' R' E' S' : Nat) (A' Bw' : Ro) (nm' : Nat → Int64) (to' : Nat → Int32), r = ad (20 + 2 * k') ∧ Ec ≤ k' ∧ k' < E' ∧ R ≤ R' ∧ a < a' ∧ a' ≤ Z ∧ TOK R R' to to' ∧ (∀ i9, i9 < R → mem' (7 + i9) = mem (7 + i9)) ∧ RX cy ad lim a' R' E' to' nm' m0 mem' ∧ RDS cy ad T Z 2 (repS T Z a u R Ec 2 A nm) (PSf A 2) R Ec S u A Bw k' a' u' R' E' S' A' Bw' nm' mem' ∧ A' 238 2 = A 238 2) (fun X mem' => ((X = cIA ∨ X = cIS) ∧ ∃ rc' ec' : Nat, RS cy ad lim rc' ec' m0 mem') ∧ (Fai T Z (repS T Z a u R Ec 2 A nm))) := by
  refine vx_ofW (cc := c_Rd_readRepetition) (maxL := 3) (ret := (some (.object "AbnfChart$Element"))) (by decide) rfl ?_
  intro p e s m args below meth c s₁ B hml hno hv
  obtain ⟨rfl, E, hP, hD⟩ := hv
  have hx := B.exec
  have hb := B.bytes
  have hr := B.returns
  have hlocks := B.notSynchronized
  have Bx : MB p s m [.ref (ad 222), .int (2)].toArray c c_Rd_readRepetition "AbnfChart$Reader" D cy := ⟨hx, hb, tb_all (atoms_spec B.pre) E.2.1, findClass_of_methodNamed B.named, E.1⟩
  have hS : va_S (Az sz) s.heap s.heap [] := va_S.rf
  have hl := lv_entry ([.ref (ad 222), .int (2)]) (n := 3) (Nat.le_of_ble_eq_true rfl)
  rw [lg_entry_eq]
  generalize (lg_sl ([.ref (ad 222), .int (2)]) ++ List.replicate (3 - (lg_sl ([.ref (ad 222), .int (2)])).length) Slot.unset).toArray = ls at hl ⊢
  have hl : lv_has ls 3 [(0, .ref (ad 222)), (1, .int (2))] := hl
  have hZ9 := hT.2.1
  have hbd9 := hRX.1.1.1
  have hfr0 : ∀ i, 7 ≤ i ∧ i < 222 ∧ i ≠ 20 + 2 * Ec → mem i = mem i := fun _ _ => rfl
  have hrk0 : ∀ i9, i9 < R → mem (7 + i9) = mem (7 + i9) := fun _ _ => rfl
  obtain ⟨ft1, h9_2⟩ := hRX.2.1
  have h1_3 : mem 1 = .inr (0, [.ref (ad 2), .int (nI Z)]) := (hRX.1.2.2 1 (by omega)).trans hT.1
  have h2_4 : mem 2 = .inl (cy 0, 240, .inl f) := (hRX.1.2.2 2 (by omega)).trans hT.2.2
  have h5_5 := hRX.1.1.2.1
  have hbd11 := hRX.1.1.1
  obtain ⟨S6, g7, hS_8, h220_9, h221_10⟩ := hRX.1.1.2.2.2.2.2.2
  refine lv_aload_n Bx.1 Bx.2.1 d_Rd_readRepetition_0 rfl (lv_at hl 0 rfl) ?_
  refine f_callVi (na := 0) (As := []) (rest := []) Bx hml E hP hD hS (by omega) h9_2 rfl (m_Rd_peekX l hn hT hf hRX (by omega)) kw_353 kw_355 sel_Rd_peek kw_6 kw_356 (by decide +kernel) ⟨rfl, rfl⟩ ⟨Nat.le_of_ble_eq_true rfl, Nat.le_of_ble_eq_true rfl⟩ rfl hl.1 (Nat.le_of_ble_eq_true rfl) d_Rd_readRepetition_1 ⟨Nat.le_of_ble_eq_true rfl, Nat.le_of_ble_eq_true rfl⟩ (fun r13 mem14 H locs hq hP hS => ?_)
  have hD : va_D (Az sz) (fw n ad mem14) := fw_D hD
  obtain ⟨hqe, hpk12⟩ := hq
  rw [hqe] at hP hD
  subst hpk12
  refine f_callSi (na := 1) (As := [.int (hereF Z T (a))]) (rest := []) Bx hml E.2.1 (m_Rd_beginsRepeatX l (hereF Z T (a))) kw_416 kw_417 kw_6 kw_418 (by decide +kernel) ⟨rfl, rfl⟩ ⟨Nat.le_of_ble_eq_true rfl, Nat.le_of_ble_eq_true rfl⟩ rfl hl.1 (Nat.le_of_ble_eq_true rfl) d_Rd_readRepetition_4 ⟨Nat.le_of_ble_eq_true rfl, Nat.le_of_ble_eq_true rfl⟩ (fun r17 hs16 => ?_)
  subst hs16
  refine lv_if_ne Bx.1 Bx.2.1 d_Rd_readRepetition_7 rfl (fun hb18 => ?_) (fun hb18 => ?_)
  · refine lv_aload_n Bx.1 Bx.2.1 d_Rd_readRepetition_16 rfl (lv_at hl 0 rfl) ?_
    refine lv_iconst (v := 2) Bx.1 Bx.2.1 d_Rd_readRepetition_17 (by decide) ?_
    refine lv_aload_n Bx.1 Bx.2.1 d_Rd_readRepetition_18 rfl (lv_at hl 0 rfl) ?_
    refine f_get Bx hP (by omega) h9_2 rfl inRd 2 (by decide) kw_146 rfl rfl d_Rd_readRepetition_19 ?_
    refine f_xVr (na := 2) (As := [.int (2), .int (nI a)]) (rest := []) Bx hml E hP hD hS (by omega) h9_2 rfl (m_Rd_addElementY l hlt hn hT hf hRX (by omega)) kw_419 kw_421 sel_Rd_addElement kw_6 kw_422 (by decide +kernel) ⟨rfl, rfl⟩ ⟨Nat.le_of_ble_eq_true rfl, Nat.le_of_ble_eq_true rfl⟩ rfl hl.1 (Nat.le_of_ble_eq_true rfl) d_Rd_readRepetition_22 ⟨Nat.le_of_ble_eq_true rfl, Nat.le_of_ble_eq_true rfl⟩ (fun X ce q9 memx H locs hx9 hP hS g1 g2 g3 => f_out hlocks hno hP hS g1 g2 g3 ⟨Nat.le_of_ble_eq_true rfl, Nat.le_of_ble_eq_true rfl⟩ ⟨hx9.1, Or.inl (rep_E (bpF_1 hb18) hx9.2)⟩) (fun r19 mem20 H locs hq hP hS => ?_)
    have hD : va_D (Az sz) (fw n ad mem20) := fw_D hD
    obtain ⟨hr921, hec22, hRX23, hcl24, hfa25⟩ := hq
    subst hr921
    have hrk26 : ∀ i9, i9 < R → mem20 (7 + i9) = mem (7 + i9) := fun i9 q9 => (hfa25 (7 + i9) (by omega)).trans (hrk0 i9 q9)
    have hfr27 : ∀ i, 7 ≤ i ∧ i < 222 ∧ i ≠ 20 + 2 * Ec → mem20 i = mem i := fun i q => (hfa25 i (by omega)).trans (hfr0 i q)
    obtain ⟨ft28, h9_29⟩ := hRX23.2.1
    have h1_30 : mem20 1 = .inr (0, [.ref (ad 2), .int (nI Z)]) := (hRX23.1.2.2 1 (by omega)).trans hT.1
    have h2_31 : mem20 2 = .inl (cy 0, 240, .inl f) := (hRX23.1.2.2 2 (by omega)).trans hT.2.2
    have h5_32 := hRX23.1.1.2.1
    have hbd38 := hRX23.1.1.1
    obtain ⟨S33, g34, hS_35, h220_36, h221_37⟩ := hRX23.1.1.2.2.2.2.2.2
    obtain ⟨ft39, h9_40⟩ := hRX23.2.1
    have h1_41 : mem20 1 = .inr (0, [.ref (ad 2), .int (nI Z)]) := (hRX23.1.2.2 1 (by omega)).trans hT.1
    have h2_42 : mem20 2 = .inl (cy 0, 240, .inl f) := (hRX23.1.2.2 2 (by omega)).trans hT.2.2
    have h5_43 := hRX23.1.1.2.1
    have hbd49 := hRX23.1.1.1
    obtain ⟨S44, g45, hS_46, h220_47, h221_48⟩ := hRX23.1.1.2.2.2.2.2.2
    refine lv_astore_n (lv' := [(2, .ref (ad (20 + 2 * Ec))), (0, .ref (ad 222)), (1, .int (2))]) Bx.1 Bx.2.1 d_Rd_readRepetition_25 rfl hl (by decide) rfl (fun ls hl => ?_)
    refine lv_aload_n Bx.1 Bx.2.1 d_Rd_readRepetition_26 rfl (lv_at hl 1 rfl) ?_
    refine lv_aload_n Bx.1 Bx.2.1 d_Rd_readRepetition_27 rfl (lv_at hl 0 rfl) ?_
    have hdg := bpF_1 hb18
    have hE9 := hec22
    refine f_xVv (na := 1) (As := [.ref (ad (20 + 2 * Ec))]) (rest := []) Bx hml E hP hD hS (by omega) h9_40 rfl (m_Rd_readRepeatY l hlt hn hT hf hRX23 (by omega) (by omega) hcl24 (by omega) hdg) kw_482 kw_484 sel_Rd_readRepeat kw_6 kw_485 (by decide +kernel) ⟨rfl, rfl⟩ ⟨Nat.le_of_ble_eq_true rfl, Nat.le_of_ble_eq_true rfl⟩ rfl hl.1 (Nat.le_of_ble_eq_true rfl) d_Rd_readRepetition_28 ⟨Nat.le_of_ble_eq_true rfl, Nat.le_of_ble_eq_true rfl⟩ (fun X ce q9 memx H locs hx9 hP hS g1 g2 g3 => f_out hlocks hno hP hS g1 g2 g3 ⟨Nat.le_of_ble_eq_true rfl, Nat.le_of_ble_eq_true rfl⟩ ⟨hx9.1, hx9.2.elim (fun v1 z => z.elim (fun b1 z => z.elim (fun v2 z => z.elim (fun b2 z => Or.inl (rep_bad hdg hE9 z.1 z.2.1 (Or.inl z.2.2))))))⟩) (fun mem51 H locs hq hP hS => ?_)
    have hD : va_D (Az sz) (fw n ad mem51) := fw_D hD
    obtain ⟨v1, b1, v2, b2, hr1, hr2, hnv, hb8, hb9, hRXr, hclr, hfar⟩ := hq
    have hrk52 : ∀ i9, i9 < R → mem51 (7 + i9) = mem (7 + i9) := fun i9 q9 => (hfar (7 + i9) (by omega)).trans (hrk26 i9 q9)
    have hfr53 : ∀ i, 7 ≤ i ∧ i < 222 ∧ i ≠ 20 + 2 * Ec → mem51 i = mem i := fun i q => (hfar i (by omega)).trans (hfr27 i q)
    obtain ⟨ft54, h9_55⟩ := hRXr.2.1
    have h1_56 : mem51 1 = .inr (0, [.ref (ad 2), .int (nI Z)]) := (hRXr.1.2.2 1 (by omega)).trans hT.1
    have h2_57 : mem51 2 = .inl (cy 0, 240, .inl f) := (hRXr.1.2.2 2 (by omega)).trans hT.2.2
    have h5_58 := hRXr.1.1.2.1
    have hbd64 := hRXr.1.1.1
    obtain ⟨S59, g60, hS_61, h220_62, h221_63⟩ := hRXr.1.1.2.2.2.2.2.2
    obtain ⟨ft65, h9_66⟩ := hRXr.2.1
    have h1_67 : mem51 1 = .inr (0, [.ref (ad 2), .int (nI Z)]) := (hRXr.1.2.2 1 (by omega)).trans hT.1
    have h2_68 : mem51 2 = .inl (cy 0, 240, .inl f) := (hRXr.1.2.2 2 (by omega)).trans hT.2.2
    have h5_69 := hRXr.1.1.2.1
    have hbd75 := hRXr.1.1.1
    obtain ⟨S70, g71, hS_72, h220_73, h221_74⟩ := hRXr.1.1.2.2.2.2.2.2
    refine lv_aload_n Bx.1 Bx.2.1 d_Rd_readRepetition_31 rfl (lv_at hl 0 rfl) ?_
    refine lv_aload_n Bx.1 Bx.2.1 d_Rd_readRepetition_32 rfl (lv_at hl 1 rfl) ?_
    refine lv_iload_n Bx.1 Bx.2.1 d_Rd_readRepetition_33 rfl (lv_at hl 2 rfl) ?_
    have her76 : ER ad R (Ec + 1) (bwN Bw Ec 2 (v1) (v2) (-1) (-1) (-1) (Bw 234)) mem51 := hER.new (Nat.le_refl _) (by rw [vR_m]; exact hclr) (Or.inl rfl) (fun i9 hi9 => hfr53 (20 + 2 * i9) (by omega))
    have hsr77 : SR cy ad S (bwN Bw Ec 2 (v1) (v2) (-1) (-1) (-1) (Bw 234)) mem51 := ⟨(hfr53 220 (by omega)).trans hSR.1, (hfr53 221 (by omega)).trans hSR.2⟩
    obtain ⟨hLK1, hF1⟩ := frm_rep (v1 := v1) (v2 := v2) hLK hE9 hF h39
    refine f_xVr (na := 1) (As := [.int (2)]) (rest := [.ref (ad (20 + 2 * Ec))]) Bx hml E hP hD hS (by omega) h9_66 rfl (m_Rd_readElement_2Y l hlt hn hT hf hRXr (by omega) (u := u) (A := repB A 2 Ec v1 v2) her76 hsr77 (by omega) (by omega) hLK1 hF1) kw_443 kw_445 sel_Rd_readElement kw_6 kw_446 (by decide +kernel) ⟨rfl, rfl⟩ ⟨Nat.le_of_ble_eq_true rfl, Nat.le_of_ble_eq_true rfl⟩ rfl hl.1 (Nat.le_of_ble_eq_true rfl) d_Rd_readRepetition_34 ⟨Nat.le_of_ble_eq_true rfl, Nat.le_of_ble_eq_true rfl⟩ (fun X ce q9 memx H locs hx9 hP hS g1 g2 g3 => f_out hlocks hno hP hS g1 g2 g3 ⟨Nat.le_of_ble_eq_true rfl, Nat.le_of_ble_eq_true rfl⟩ ⟨hx9.1, rep_fai hdg hE9 hr1 hr2 hnv hx9.2⟩) (fun r78 mem79 H locs hq hP hS => ?_)
    have hD : va_D (Az sz) (fw n ad mem79) := fw_D hD
    obtain ⟨kx80, ax81, ux82, Rx83, Ex84, Sx85, Ax86, Bx_87, nx88, tox89, hr990, h191, h292, h393, h494, h595, htk96, hrk97, hRX98, rds99, h8100, hok101⟩ := hq
    subst hr990
    have hrk102 : ∀ i9, i9 < R → mem79 (7 + i9) = mem (7 + i9) := fun i9 q9 => (hrk97 i9 (by omega)).trans (hrk52 i9 q9)
    obtain ⟨ft103, h9_104⟩ := hRX98.2.1
    have h1_105 : mem79 1 = .inr (0, [.ref (ad 2), .int (nI Z)]) := (hRX98.1.2.2 1 (by omega)).trans hT.1
    have h2_106 : mem79 2 = .inl (cy 0, 240, .inl f) := (hRX98.1.2.2 2 (by omega)).trans hT.2.2
    have h5_107 := hRX98.1.1.2.1
    have hbd113 := hRX98.1.1.1
    obtain ⟨S108, g109, hS_110, h220_111, h221_112⟩ := hRX98.1.1.2.2.2.2.2.2
    have hbd114 := hRX98.1.1.1
    have hce115 := (rds99.2.1 Ec (by omega)).1
    refine f_putN Bx hP hD hS (by omega) hce115 rfl inEl tyEl okEl nmEl 4 (by decide) kw_87 rfl rfl rfl rfl (Nat.le_of_ble_eq_true rfl) d_Rd_readRepetition_37 (fun H locs hP hS => ?_)
    obtain ⟨mem116, e_mem116⟩ : ∃ z, z = va_up mem79 ((20 + 2 * Ec)) (.inr (2, [.int (Bx_87 228 Ec), .int (Bx_87 229 Ec), .int (Bx_87 230 Ec), vR ad (Bx_87 231 Ec), .ref (ad (20 + 2 * kx80)), vE ad (Bx_87 233 Ec), .ref (ad (21 + 2 * Ec))])) := ⟨_, rfl⟩
    have hP : va_P D vcl (fw n ad mem116) H := by rw [e_mem116]; exact hP
    have hD : va_D (Az sz) (fw n ad mem116) := fw_D hD
    have h_mem116 : mem116 ((20 + 2 * Ec)) = .inr (2, [.int (Bx_87 228 Ec), .int (Bx_87 229 Ec), .int (Bx_87 230 Ec), vR ad (Bx_87 231 Ec), .ref (ad (20 + 2 * kx80)), vE ad (Bx_87 233 Ec), .ref (ad (21 + 2 * Ec))]) := by rw [e_mem116, va_up_self]
    have hh117 := (va_up_ne mem79 (.inr (2, [.int (Bx_87 228 Ec), .int (Bx_87 229 Ec), .int (Bx_87 230 Ec), vR ad (Bx_87 231 Ec), .ref (ad (20 + 2 * kx80)), vE ad (Bx_87 233 Ec), .ref (ad (21 + 2 * Ec))])) (show (222 : Nat) ≠ (20 + 2 * Ec) by first | decide | assumption | omega)).trans h9_104
    rw [← e_mem116] at hh117
    have hh118 := (va_up_ne mem79 (.inr (2, [.int (Bx_87 228 Ec), .int (Bx_87 229 Ec), .int (Bx_87 230 Ec), vR ad (Bx_87 231 Ec), .ref (ad (20 + 2 * kx80)), vE ad (Bx_87 233 Ec), .ref (ad (21 + 2 * Ec))])) (show (1 : Nat) ≠ (20 + 2 * Ec) by first | decide | assumption | omega)).trans h1_105
    rw [← e_mem116] at hh118
    have hh119 := (va_up_ne mem79 (.inr (2, [.int (Bx_87 228 Ec), .int (Bx_87 229 Ec), .int (Bx_87 230 Ec), vR ad (Bx_87 231 Ec), .ref (ad (20 + 2 * kx80)), vE ad (Bx_87 233 Ec), .ref (ad (21 + 2 * Ec))])) (show (5 : Nat) ≠ (20 + 2 * Ec) by first | decide | assumption | omega)).trans h5_107
    rw [← e_mem116] at hh119
    have hh120 := (va_up_ne mem79 (.inr (2, [.int (Bx_87 228 Ec), .int (Bx_87 229 Ec), .int (Bx_87 230 Ec), vR ad (Bx_87 231 Ec), .ref (ad (20 + 2 * kx80)), vE ad (Bx_87 233 Ec), .ref (ad (21 + 2 * Ec))])) (show (220 : Nat) ≠ (20 + 2 * Ec) by first | decide | assumption | omega)).trans h220_111
    rw [← e_mem116] at hh120
    have hrk121 : ∀ i9, i9 < R → mem116 (7 + i9) = mem (7 + i9) := fun i9 q9 => (show mem116 (7 + i9) = mem79 (7 + i9) by rw [e_mem116]; exact va_up_ne _ _ (by omega)).trans (hrk102 i9 q9)
    have hRX122 : RX cy ad lim (ax81) (Rx83) (Ex84) (tox89) (nx88) m0 mem116 := by rw [e_mem116]; exact hRX98.el (by omega) (hRX98.1.mk (by omega) (hRX98.1.1.upEl (by omega) (fun _ => ⟨(rds99.2.1 Ec (by omega)).2.1.oR ad, Or.inr ⟨kx80, by omega, by omega, rfl⟩, (rds99.2.1 Ec (by omega)).2.2.2.oE ad (by omega)⟩)))
    have her123 : ER ad (Rx83) (Ex84) (va_up Bx_87 232 (upd (Bx_87 232) Ec (nI kx80))) mem116 := rds99.2.1.part (by omega) (by omega) (by omega) h_mem116 (fun i9 q9 hi9 => by rw [e_mem116]; exact va_up_ne _ _ (by omega))
    have hsr124 : SR cy ad (Sx85) (Bx_87) mem116 := ⟨(show mem116 220 = mem79 220 by rw [e_mem116]; exact va_up_ne _ _ (by omega)).trans rds99.2.2.1.1, (show mem116 221 = mem79 221 by rw [e_mem116]; exact va_up_ne _ _ (by omega)).trans rds99.2.2.1.2⟩
    obtain ⟨ft125, h9_126⟩ := hRX122.2.1
    have h1_127 : mem116 1 = .inr (0, [.ref (ad 2), .int (nI Z)]) := (hRX122.1.2.2 1 (by omega)).trans hT.1
    have h2_128 : mem116 2 = .inl (cy 0, 240, .inl f) := (hRX122.1.2.2 2 (by omega)).trans hT.2.2
    have h5_129 := hRX122.1.1.2.1
    have hbd135 := hRX122.1.1.1
    obtain ⟨S130, g131, hS_132, h220_133, h221_134⟩ := hRX122.1.1.2.2.2.2.2.2
    refine lv_aload_n Bx.1 Bx.2.1 d_Rd_readRepetition_40 rfl (lv_at hl 0 rfl) ?_
    have hrd9 := rep_rds hLK hE9 hF h39 rds99 h8100 ⟨by omega, by omega⟩ (rep_suc (u := u) (R := R) (f := 2) (A := A) (nm := nm) hdg hE9 hr1 hr2 hnv hok101) her123 hsr124
    exact x_aret hx hb hlocks hr (⟨Ec, ax81, ux82, Rx83, Ex84, Sx85, _, _, nx88, tox89, rfl, by omega, by omega, by omega, by omega, by omega, htk96, hrk121, hRX122, hrd9.1, hrd9.2⟩) hP hS d_Rd_readRepetition_41
  · refine lv_aload_n Bx.1 Bx.2.1 d_Rd_readRepetition_10 rfl (lv_at hl 0 rfl) ?_
    refine lv_iload_n Bx.1 Bx.2.1 d_Rd_readRepetition_11 rfl (lv_at hl 1 rfl) ?_
    obtain ⟨hd0, h42⟩ := bpF_0 hb18
    refine f_xVr (na := 1) (As := [.int (2)]) (rest := []) Bx hml E hP hD hS (by omega) h9_2 rfl (m_Rd_readElement_2Y l hlt hn hT hf hRX (by omega) (u := u) (A := A) hER hSR hSa (by omega) hLK hF) kw_443 kw_445 sel_Rd_readElement kw_6 kw_446 (by decide +kernel) ⟨rfl, rfl⟩ ⟨Nat.le_of_ble_eq_true rfl, Nat.le_of_ble_eq_true rfl⟩ rfl hl.1 (Nat.le_of_ble_eq_true rfl) d_Rd_readRepetition_12 ⟨Nat.le_of_ble_eq_true rfl, Nat.le_of_ble_eq_true rfl⟩ (fun X ce q9 memx H locs hx9 hP hS g1 g2 g3 => f_out hlocks hno hP hS g1 g2 g3 ⟨Nat.le_of_ble_eq_true rfl, Nat.le_of_ble_eq_true rfl⟩ ⟨hx9.1, (hx9.2.resolve_right (fun z => z ⟨hbg, hd0, h42⟩)).eq (rep_no hd0 h42)⟩) (fun r136 mem137 H locs hq hP hS => ?_)
    have hD : va_D (Az sz) (fw n ad mem137) := fw_D hD
    obtain ⟨kx138, ax139, ux140, Rx141, Ex142, Sx143, Ax144, Bx_145, nx146, tox147, hr9148, h1149, h2150, h3151, h4152, h5153, htk154, hrk155, hRX156, rds157, h8158, hok159⟩ := hq
    subst hr9148
    have hrk160 : ∀ i9, i9 < R → mem137 (7 + i9) = mem (7 + i9) := fun i9 q9 => (hrk155 i9 (by omega)).trans (hrk0 i9 q9)
    obtain ⟨ft161, h9_162⟩ := hRX156.2.1
    have h1_163 : mem137 1 = .inr (0, [.ref (ad 2), .int (nI Z)]) := (hRX156.1.2.2 1 (by omega)).trans hT.1
    have h2_164 : mem137 2 = .inl (cy 0, 240, .inl f) := (hRX156.1.2.2 2 (by omega)).trans hT.2.2
    have h5_165 := hRX156.1.1.2.1
    have hbd171 := hRX156.1.1.1
    obtain ⟨S166, g167, hS_168, h220_169, h221_170⟩ := hRX156.1.1.2.2.2.2.2.2
    have hbd172 := hRX156.1.1.1
    exact x_aret hx hb hlocks hr (⟨kx138, ax139, ux140, Rx141, Ex142, Sx143, Ax144, Bx_145, nx146, tox147, rfl, h1149, h2150, h3151, h4152, h5153, htk154, hrk155, hRX156, rdsEq rds157 (rep_no hd0 h42), h8158⟩) hP hS d_Rd_readRepetition_15
set_option maxHeartbeats 4000000 in
set_option maxRecDepth 100000 in
theorem m_Rd_readSequence_2Y (l : Launch) {D : va_G} {cy : Nat → ClassId} {sz n : Nat} {ad : Nat → Nat} {mem : Nat → va_E} {Z a R Ec lim : Nat} {f T : Nat → Int32} {to : Nat → Int32} {nm : Nat → Int64} {m0 : Nat → va_E} {u S : Nat} {A Bw : Ro} {cq : Nat} (hlt : l.stackTraces = false) (hn : 224 ≤ n) (hT : TX cy ad Z f m0) (hf : ∀ k, k < Z → f k = T k) (hRX : RX cy ad lim a R Ec to nm m0 mem) (haB : a ≤ 300) (hER : ER ad R Ec Bw mem) (hSR : SR cy ad S Bw mem) (hSa : S ≤ a) (haZ : a ≤ Z) (hLK : LKa Ec A) (hc : A 237 2 = nI cq) (hcl : cq < Ec) (h39 : A 239 2 = -1) : NXr l D cy sz n ad y_Rd_readSequence c_Rd_readSequence 5 (some (.object "AbnfChart$Element")) ({ frames := 42, cells := 1, slots := 6, locals := 1012 } : Room) mem [.ref (ad 222), .int (2)] (fun r mem' => ∃ (a' u' R' E' S' : Nat) (A' Bw' : Ro) (nm' : Nat → Int64) (to' : Nat → Int32), r = ad (20 + 2 * Ec) ∧ Ec < E' ∧ R ≤ R' ∧ a < a' ∧ a' ≤ Z ∧ TOK R R' to to' ∧ (∀ i9, i9 < R → mem' (7 + i9) = mem (7 + i9)) ∧ RX cy ad lim (gapF T Z a') R' E' to' nm' m0 mem' ∧ RDS cy ad T Z 2 (seqS T Z a u R Ec 2 A nm) (slotOf A cq) R Ec S u A Bw Ec a' u' R' E' S' A' Bw' nm' mem' ∧ ¬ (bgF (hereF Z T (gapF T Z a')) = true ∧ a' < gapF T Z a')) (fun X mem' => ((X = cIA ∨ X = cIS) ∧ ∃ rc' ec' : Nat, RS cy ad lim rc' ec' m0 mem') ∧ (Fai T Z (seqS T Z a u R Ec 2 A nm))) := by
  refine vx_ofW (cc := c_Rd_readSequence) (maxL := 5) (ret := (some (.object "AbnfChart$Element"))) (by decide) rfl ?_
  intro p e s m args below meth c s₁ B hml hno hv
  obtain ⟨rfl, E, hP, hD⟩ := hv
  have hx := B.exec
  have hb := B.bytes
  have hr := B.returns
  have hlocks := B.notSynchronized
  have Bx : MB p s m [.ref (ad 222), .int (2)].toArray c c_Rd_readSequence "AbnfChart$Reader" D cy := ⟨hx, hb, tb_all (atoms_spec B.pre) E.2.1, findClass_of_methodNamed B.named, E.1⟩
  have hS : va_S (Az sz) s.heap s.heap [] := va_S.rf
  have hl := lv_entry ([.ref (ad 222), .int (2)]) (n := 5) (Nat.le_of_ble_eq_true rfl)
  rw [lg_entry_eq]
  generalize (lg_sl ([.ref (ad 222), .int (2)]) ++ List.replicate (5 - (lg_sl ([.ref (ad 222), .int (2)])).length) Slot.unset).toArray = ls at hl ⊢
  have hl : lv_has ls 5 [(0, .ref (ad 222)), (1, .int (2))] := hl
  have hZ9 := hT.2.1
  have hbd9 := hRX.1.1.1
  have hfr0 : ∀ i, 7 ≤ i ∧ i < 222 ∧ i ≠ 20 + 2 * Ec → mem i = mem i := fun _ _ => rfl
  have hrk0 : ∀ i9, i9 < R → mem (7 + i9) = mem (7 + i9) := fun _ _ => rfl
  obtain ⟨ft1, h9_2⟩ := hRX.2.1
  have h1_3 : mem 1 = .inr (0, [.ref (ad 2), .int (nI Z)]) := (hRX.1.2.2 1 (by omega)).trans hT.1
  have h2_4 : mem 2 = .inl (cy 0, 240, .inl f) := (hRX.1.2.2 2 (by omega)).trans hT.2.2
  have h5_5 := hRX.1.1.2.1
  have hbd11 := hRX.1.1.1
  obtain ⟨S6, g7, hS_8, h220_9, h221_10⟩ := hRX.1.1.2.2.2.2.2.2
  refine lv_aload_n Bx.1 Bx.2.1 d_Rd_readSequence_0 rfl (lv_at hl 0 rfl) ?_
  refine lv_iconst (v := 1) Bx.1 Bx.2.1 d_Rd_readSequence_1 (by decide) ?_
  refine f_xVr (na := 1) (As := [.int (1)]) (rest := []) Bx hml E hP hD hS (by omega) h9_2 rfl (m_Rd_beginRowY l hlt hn hT hf hRX (by omega)) kw_409 kw_411 sel_Rd_beginRow kw_6 kw_412 (by decide +kernel) ⟨rfl, rfl⟩ ⟨Nat.le_of_ble_eq_true rfl, Nat.le_of_ble_eq_true rfl⟩ rfl hl.1 (Nat.le_of_ble_eq_true rfl) d_Rd_readSequence_2 ⟨Nat.le_of_ble_eq_true rfl, Nat.le_of_ble_eq_true rfl⟩ (fun X ce q9 memx H locs hx9 hP hS g1 g2 g3 => f_out hlocks hno hP hS g1 g2 g3 ⟨Nat.le_of_ble_eq_true rfl, Nat.le_of_ble_eq_true rfl⟩ ⟨hx9.1, Or.inl (seq_no hx9.2)⟩) (fun r12 mem13 H locs hq hP hS => ?_)
  have hD : va_D (Az sz) (fw n ad mem13) := fw_D hD
  obtain ⟨hbg, hE9, hr9, hRXb, hclb, hfab⟩ := hq
  subst hr9
  have hrk14 : ∀ i9, i9 < R → mem13 (7 + i9) = mem (7 + i9) := fun i9 q9 => (hfab (7 + i9) (by omega)).trans (hrk0 i9 q9)
  have hfr15 : ∀ i, 7 ≤ i ∧ i < 222 ∧ i ≠ 20 + 2 * Ec → mem13 i = mem i := fun i q => (hfab i (by omega)).trans (hfr0 i q)
  obtain ⟨ft16, h9_17⟩ := hRXb.2.1
  have h1_18 : mem13 1 = .inr (0, [.ref (ad 2), .int (nI Z)]) := (hRXb.1.2.2 1 (by omega)).trans hT.1
  have h2_19 : mem13 2 = .inl (cy 0, 240, .inl f) := (hRXb.1.2.2 2 (by omega)).trans hT.2.2
  have h5_20 := hRXb.1.1.2.1
  have hbd26 := hRXb.1.1.1
  obtain ⟨S21, g22, hS_23, h220_24, h221_25⟩ := hRXb.1.1.2.2.2.2.2.2
  obtain ⟨ft27, h9_28⟩ := hRXb.2.1
  have h1_29 : mem13 1 = .inr (0, [.ref (ad 2), .int (nI Z)]) := (hRXb.1.2.2 1 (by omega)).trans hT.1
  have h2_30 : mem13 2 = .inl (cy 0, 240, .inl f) := (hRXb.1.2.2 2 (by omega)).trans hT.2.2
  have h5_31 := hRXb.1.1.2.1
  have hbd37 := hRXb.1.1.1
  obtain ⟨S32, g33, hS_34, h220_35, h221_36⟩ := hRXb.1.1.2.2.2.2.2.2
  refine lv_astore_n (lv' := [(2, .ref (ad (20 + 2 * Ec))), (0, .ref (ad 222)), (1, .int (2))]) Bx.1 Bx.2.1 d_Rd_readSequence_5 rfl hl (by decide) rfl (fun ls hl => ?_)
  refine lv_aload_n Bx.1 Bx.2.1 d_Rd_readSequence_6 rfl (lv_at hl 1 rfl) ?_
  refine lv_iload_n Bx.1 Bx.2.1 d_Rd_readSequence_7 rfl (lv_at hl 2 rfl) ?_
  have her38 : ER ad R (Ec + 1) (bwN Bw Ec 1 (0) (0) (-1) (-1) (-1) (Bw 234)) mem13 := hER.new (Nat.le_refl _) (by rw [vR_m]; exact hclb) (Or.inl rfl) (fun i9 hi9 => hfr15 (20 + 2 * i9) (by omega))
  have hsr39 : SR cy ad S (bwN Bw Ec 1 (0) (0) (-1) (-1) (-1) (Bw 234)) mem13 := ⟨(hfr15 220 (by omega)).trans hSR.1, (hfr15 221 (by omega)).trans hSR.2⟩
  obtain ⟨hLK1, hF1, h391⟩ := frm_seq hLK hE9 hc hcl h39
  refine f_xVr (na := 1) (As := [.int (2)]) (rest := []) Bx hml E hP hD hS (by omega) h9_28 rfl (m_Rd_readRepetition_2Y l hlt hn hT hf hRXb (by omega) (u := u) (A := seqA A 2 Ec) her38 hsr39 (by omega) (by omega) hLK1 hF1 h391 hbg) kw_439 kw_441 sel_Rd_readRepetition kw_6 kw_442 (by decide +kernel) ⟨rfl, rfl⟩ ⟨Nat.le_of_ble_eq_true rfl, Nat.le_of_ble_eq_true rfl⟩ rfl hl.1 (Nat.le_of_ble_eq_true rfl) d_Rd_readSequence_8 ⟨Nat.le_of_ble_eq_true rfl, Nat.le_of_ble_eq_true rfl⟩ (fun X ce q9 memx H locs hx9 hP hS g1 g2 g3 => f_out hlocks hno hP hS g1 g2 g3 ⟨Nat.le_of_ble_eq_true rfl, Nat.le_of_ble_eq_true rfl⟩ ⟨hx9.1, hx9.2.eq (seq_ok hbg hE9)⟩) (fun r40 mem41 H locs hq hP hS => ?_)
  have hD : va_D (Az sz) (fw n ad mem41) := fw_D hD
  obtain ⟨kx42, ax43, ux44, Rx45, Ex46, Sx47, Ax48, Bx_49, nx50, tox51, hr952, h153, h254, h355, h456, h557, htk58, hrk59, hRX60, rds61, h862⟩ := hq
  subst hr952
  have hrk63 : ∀ i9, i9 < R → mem41 (7 + i9) = mem (7 + i9) := fun i9 q9 => (hrk59 i9 (by omega)).trans (hrk14 i9 q9)
  obtain ⟨ft64, h9_65⟩ := hRX60.2.1
  have h1_66 : mem41 1 = .inr (0, [.ref (ad 2), .int (nI Z)]) := (hRX60.1.2.2 1 (by omega)).trans hT.1
  have h2_67 : mem41 2 = .inl (cy 0, 240, .inl f) := (hRX60.1.2.2 2 (by omega)).trans hT.2.2
  have h5_68 := hRX60.1.1.2.1
  have hbd74 := hRX60.1.1.1
  obtain ⟨S69, g70, hS_71, h220_72, h221_73⟩ := hRX60.1.1.2.2.2.2.2.2
  have hbd75 := hRX60.1.1.1
  refine lv_astore_n (lv' := [(3, .ref (ad (20 + 2 * kx42))), (2, .ref (ad (20 + 2 * Ec))), (0, .ref (ad 222)), (1, .int (2))]) Bx.1 Bx.2.1 d_Rd_readSequence_11 rfl hl (by decide) rfl (fun ls hl => ?_)
  refine lv_aload_n Bx.1 Bx.2.1 d_Rd_readSequence_12 rfl (lv_at hl 1 rfl) ?_
  refine lv_aload_n Bx.1 Bx.2.1 d_Rd_readSequence_13 rfl (lv_at hl 0 rfl) ?_
  have hce76 := (rds61.2.1 Ec (by omega)).1
  refine f_putN Bx hP hD hS (by omega) hce76 rfl inEl tyEl okEl nmEl 4 (by decide) kw_87 rfl rfl rfl rfl (Nat.le_of_ble_eq_true rfl) d_Rd_readSequence_14 (fun H locs hP hS => ?_)
  obtain ⟨mem77, e_mem77⟩ : ∃ z, z = va_up mem41 ((20 + 2 * Ec)) (.inr (2, [.int (Bx_49 228 Ec), .int (Bx_49 229 Ec), .int (Bx_49 230 Ec), vR ad (Bx_49 231 Ec), .ref (ad (20 + 2 * kx42)), vE ad (Bx_49 233 Ec), .ref (ad (21 + 2 * Ec))])) := ⟨_, rfl⟩
  have hP : va_P D vcl (fw n ad mem77) H := by rw [e_mem77]; exact hP
  have hD : va_D (Az sz) (fw n ad mem77) := fw_D hD
  have h_mem77 : mem77 ((20 + 2 * Ec)) = .inr (2, [.int (Bx_49 228 Ec), .int (Bx_49 229 Ec), .int (Bx_49 230 Ec), vR ad (Bx_49 231 Ec), .ref (ad (20 + 2 * kx42)), vE ad (Bx_49 233 Ec), .ref (ad (21 + 2 * Ec))]) := by rw [e_mem77, va_up_self]
  have hh78 := (va_up_ne mem41 (.inr (2, [.int (Bx_49 228 Ec), .int (Bx_49 229 Ec), .int (Bx_49 230 Ec), vR ad (Bx_49 231 Ec), .ref (ad (20 + 2 * kx42)), vE ad (Bx_49 233 Ec), .ref (ad (21 + 2 * Ec))])) (show (222 : Nat) ≠ (20 + 2 * Ec) by first | decide | assumption | omega)).trans h9_65
  rw [← e_mem77] at hh78
  have hh79 := (va_up_ne mem41 (.inr (2, [.int (Bx_49 228 Ec), .int (Bx_49 229 Ec), .int (Bx_49 230 Ec), vR ad (Bx_49 231 Ec), .ref (ad (20 + 2 * kx42)), vE ad (Bx_49 233 Ec), .ref (ad (21 + 2 * Ec))])) (show (1 : Nat) ≠ (20 + 2 * Ec) by first | decide | assumption | omega)).trans h1_66
  rw [← e_mem77] at hh79
  have hh80 := (va_up_ne mem41 (.inr (2, [.int (Bx_49 228 Ec), .int (Bx_49 229 Ec), .int (Bx_49 230 Ec), vR ad (Bx_49 231 Ec), .ref (ad (20 + 2 * kx42)), vE ad (Bx_49 233 Ec), .ref (ad (21 + 2 * Ec))])) (show (5 : Nat) ≠ (20 + 2 * Ec) by first | decide | assumption | omega)).trans h5_68
  rw [← e_mem77] at hh80
  have hh81 := (va_up_ne mem41 (.inr (2, [.int (Bx_49 228 Ec), .int (Bx_49 229 Ec), .int (Bx_49 230 Ec), vR ad (Bx_49 231 Ec), .ref (ad (20 + 2 * kx42)), vE ad (Bx_49 233 Ec), .ref (ad (21 + 2 * Ec))])) (show (220 : Nat) ≠ (20 + 2 * Ec) by first | decide | assumption | omega)).trans h220_72
  rw [← e_mem77] at hh81
  have hrk82 : ∀ i9, i9 < R → mem77 (7 + i9) = mem (7 + i9) := fun i9 q9 => (show mem77 (7 + i9) = mem41 (7 + i9) by rw [e_mem77]; exact va_up_ne _ _ (by omega)).trans (hrk63 i9 q9)
  have hRX83 : RX cy ad lim (ax43) (Rx45) (Ex46) (tox51) (nx50) m0 mem77 := by rw [e_mem77]; exact hRX60.el (by omega) (hRX60.1.mk (by omega) (hRX60.1.1.upEl (by omega) (fun _ => ⟨(rds61.2.1 Ec (by omega)).2.1.oR ad, Or.inr ⟨kx42, by omega, by omega, rfl⟩, (rds61.2.1 Ec (by omega)).2.2.2.oE ad (by omega)⟩)))
  have her84 : ER ad (Rx45) (Ex46) (va_up Bx_49 232 (upd (Bx_49 232) Ec (nI kx42))) mem77 := rds61.2.1.part (by omega) (by omega) (by omega) h_mem77 (fun i9 q9 hi9 => by rw [e_mem77]; exact va_up_ne _ _ (by omega))
  have hsr85 : SR cy ad (Sx47) (Bx_49) mem77 := ⟨(show mem77 220 = mem41 220 by rw [e_mem77]; exact va_up_ne _ _ (by omega)).trans rds61.2.2.1.1, (show mem77 221 = mem41 221 by rw [e_mem77]; exact va_up_ne _ _ (by omega)).trans rds61.2.2.1.2⟩
  obtain ⟨ft86, h9_87⟩ := hRX83.2.1
  have h1_88 : mem77 1 = .inr (0, [.ref (ad 2), .int (nI Z)]) := (hRX83.1.2.2 1 (by omega)).trans hT.1
  have h2_89 : mem77 2 = .inl (cy 0, 240, .inl f) := (hRX83.1.2.2 2 (by omega)).trans hT.2.2
  have h5_90 := hRX83.1.1.2.1
  have hbd96 := hRX83.1.1.1
  obtain ⟨S91, g92, hS_93, h220_94, h221_95⟩ := hRX83.1.1.2.2.2.2.2.2
  refine lv_iconst (v := 0) Bx.1 Bx.2.1 d_Rd_readSequence_17 (by decide) ?_
  refine lv_istore (lv' := [(4, .int (0)), (3, .ref (ad (20 + 2 * kx42))), (2, .ref (ad (20 + 2 * Ec))), (0, .ref (ad 222)), (1, .int (2))]) Bx.1 Bx.2.1 d_Rd_readSequence_18 hl (by decide) rfl (fun ls hl => ?_)
  have hsl9 := slot_lt hLK (by omega) hcl
  have hsq0 := seq_first hLK hE9 hc hcl h39 rds61 h862 ⟨by omega, by omega⟩ (by omega) (seq_ok (u := u) (R := R) (f := 2) (A := A) (nm := nm) hbg hE9) her84 hsr85
  have loop97 : ∀ (d98 : Nat) (mem9 : Nat → va_E) (a1 : Nat) (u1 : Nat) (R1 : Nat) (E1 : Nat) (S1 : Nat) (A1 : Ro) (B1 : Ro) (n1 : Nat → Int64) (to1 : Nat → Int32) (la : Nat) (k9 : Nat) (ls : Array Slot) (H : Heap) (locs : List Loc), (240 - k9 < d98) → (RX cy ad lim a1 R1 E1 to1 n1 m0 mem9) → (a < a1 ∧ a1 ≤ Z ∧ R ≤ R1 ∧ k9 < a1 ∧ k9 ≤ 240) → (SQI cy ad T Z 2 (seqS T Z a u R Ec 2 A nm) (slotOf A cq) R Ec S u A Bw la a1 u1 R1 E1 S1 A1 B1 n1 mem9) → (TOK R R1 to to1) → (∀ i9, i9 < R → mem9 (7 + i9) = mem (7 + i9)) → (va_P D vcl (fw n ad mem9) H) → (va_D (Az sz) (fw n ad mem9)) → (va_S (Az sz) s.heap H locs) → (lv_has ls 5 [(4, .int (nI k9)), (3, .ref (ad (20 + 2 * la))), (2, .ref (ad (20 + 2 * Ec))), (0, .ref (ad 222)), (1, .int (2))]) → W p l e (headSpec (Cond.code y_Rd_readSequence c_Rd_readSequence 5 (some (.object "AbnfChart$Element")) :: tg) ({ frames := 42, cells := 1, slots := 6, locals := 1012 } : Room)).room s m [.ref (ad 222), .int (2)].toArray below meth c H locs 0 0 (vx_MQ below (QX (QR (fun r mem' => ∃ (a' u' R' E' S' : Nat) (A' Bw' : Ro) (nm' : Nat → Int64) (to' : Nat → Int32), r = ad (20 + 2 * Ec) ∧ Ec < E' ∧ R ≤ R' ∧ a < a' ∧ a' ≤ Z ∧ TOK R R' to to' ∧ (∀ i9, i9 < R → mem' (7 + i9) = mem (7 + i9)) ∧ RX cy ad lim (gapF T Z a') R' E' to' nm' m0 mem' ∧ RDS cy ad T Z 2 (seqS T Z a u R Ec 2 A nm) (slotOf A cq) R Ec S u A Bw Ec a' u' R' E' S' A' Bw' nm' mem' ∧ ¬ (bgF (hereF Z T (gapF T Z a')) = true ∧ a' < gapF T Z a')) (PP D n ad) (Az sz))) (XQ D sz n ad (fun X mem' => ((X = cIA ∨ X = cIS) ∧ ∃ rc' ec' : Nat, RS cy ad lim rc' ec' m0 mem') ∧ (Fai T Z (seqS T Z a u R Ec 2 A nm)))) [.ref (ad 222), .int (2)].toArray s 1 6 (Az sz)) (F0 m 20 ls []) := by
    intro d98
    induction d98 with
    | zero => intro mem9 a1 u1 R1 E1 S1 A1 B1 n1 to1 la k9 ls H locs hmeas105; exact absurd hmeas105 (Nat.not_lt_zero _)
    | succ d98 ih104 =>
      intro mem9 a1 u1 R1 E1 S1 A1 B1 n1 to1 la k9 ls H locs hmeas105 hz99 hz100 hz101 hz102 hz103 hP hD hS hl
      have hbd8 := hz100
      have hsq := hz101
      have hbdE := hz99.1.1.1
      have hla := hsq.2.2.2
      have hSa1 := hsq.1.2.2.2.1.2.1
      have hlka := sqi_lka hsq hLK hsl9
      obtain ⟨ft106, h9_107⟩ := hz99.2.1
      have h1_108 : mem9 1 = .inr (0, [.ref (ad 2), .int (nI Z)]) := (hz99.1.2.2 1 (by omega)).trans hT.1
      have h2_109 : mem9 2 = .inl (cy 0, 240, .inl f) := (hz99.1.2.2 2 (by omega)).trans hT.2.2
      have h5_110 := hz99.1.1.2.1
      have hbd116 := hz99.1.1.1
      obtain ⟨S111, g112, hS_113, h220_114, h221_115⟩ := hz99.1.1.2.2.2.2.2.2
      refine lv_iload Bx.1 Bx.2.1 d_Rd_readSequence_20 (lv_at hl 0 rfl) ?_
      refine lv_sipush (v := 240) Bx.1 Bx.2.1 d_Rd_readSequence_22 (by decide) ?_
      refine lv_icmp_ge Bx.1 Bx.2.1 d_Rd_readSequence_25 rfl (fun hb117 => ?_) (fun hb117 => ?_)
      · have hN118 : 240 ≤ k9 := (nI_leI (by omega) (by omega)).mp (show nI (240) ≤ nI (k9) from hb117)
        exact absurd hbd8 (by omega)
      · have hN119 : ¬ 240 ≤ k9 := fun q9 => hb117 (show nI (240) ≤ nI (k9) from (nI_leI (by omega) (by omega)).mpr q9)
        refine lv_aload_n Bx.1 Bx.2.1 d_Rd_readSequence_28 rfl (lv_at hl 3 rfl) ?_
        refine f_callVi (na := 0) (As := []) (rest := []) Bx hml E hP hD hS (by omega) h9_107 rfl (m_Rd_readGapY l hn hT hf hz99 (by omega) (by omega)) kw_397 kw_399 sel_Rd_readGap kw_6 kw_400 (by decide +kernel) ⟨rfl, rfl⟩ ⟨Nat.le_of_ble_eq_true rfl, Nat.le_of_ble_eq_true rfl⟩ rfl hl.1 (Nat.le_of_ble_eq_true rfl) d_Rd_readSequence_29 ⟨Nat.le_of_ble_eq_true rfl, Nat.le_of_ble_eq_true rfl⟩ (fun r120 mem121 H locs hq hP hS => ?_)
        have hD : va_D (Az sz) (fw n ad mem121) := fw_D hD
        obtain ⟨g122, eg123⟩ : ∃ z, z = gapF T Z (a1) := ⟨_, rfl⟩
        rw [← eg123] at hq
        obtain ⟨hRX124, hgc125, hfa126⟩ := hq
        have hg127 : a1 ≤ g122 := by rw [eg123]; exact gapF_ge T Z _
        have hg128 : g122 ≤ Z := by rw [eg123]; exact gapF_le T (by omega)
        have hrk129 : ∀ i9, i9 < R → mem121 (7 + i9) = mem (7 + i9) := fun i9 q9 => (hfa126 (7 + i9) (by omega)).trans (hz103 i9 q9)
        obtain ⟨ft130, h9_131⟩ := hRX124.2.1
        have h1_132 : mem121 1 = .inr (0, [.ref (ad 2), .int (nI Z)]) := (hRX124.1.2.2 1 (by omega)).trans hT.1
        have h2_133 : mem121 2 = .inl (cy 0, 240, .inl f) := (hRX124.1.2.2 2 (by omega)).trans hT.2.2
        have h5_134 := hRX124.1.1.2.1
        have hbd140 := hRX124.1.1.1
        obtain ⟨S135, g136, hS_137, h220_138, h221_139⟩ := hRX124.1.1.2.2.2.2.2.2
        have her141 : ER ad (R1) (E1) (B1) mem121 := hsq.1.2.1.fr (Nat.le_refl _) (fun i9 hi9 => hfa126 _ (by omega))
        have hsr142 : SR cy ad (S1) (B1) mem121 := ⟨(show mem121 220 = _ from hfa126 _ (by omega)).trans hsq.1.2.2.1.1, (show mem121 221 = _ from hfa126 _ (by omega)).trans hsq.1.2.2.1.2⟩
        rcases hgc125 with ⟨hr143, hga144⟩ | ⟨hr143, hga144⟩
        · subst hr143
          refine lv_if_eq Bx.1 Bx.2.1 d_Rd_readSequence_32 rfl (fun hb145 => ?_) (fun hb145 => ?_)
          · exact absurd hb145 (by decide)
          · refine lv_aload_n Bx.1 Bx.2.1 d_Rd_readSequence_35 rfl (lv_at hl 3 rfl) ?_
            refine f_callVi (na := 0) (As := []) (rest := []) Bx hml E hP hD hS (by omega) h9_131 rfl (m_Rd_peekX l hn hT hf hRX124 (by omega)) kw_353 kw_355 sel_Rd_peek kw_6 kw_356 (by decide +kernel) ⟨rfl, rfl⟩ ⟨Nat.le_of_ble_eq_true rfl, Nat.le_of_ble_eq_true rfl⟩ rfl hl.1 (Nat.le_of_ble_eq_true rfl) d_Rd_readSequence_36 ⟨Nat.le_of_ble_eq_true rfl, Nat.le_of_ble_eq_true rfl⟩ (fun r147 mem148 H locs hq hP hS => ?_)
            have hD : va_D (Az sz) (fw n ad mem148) := fw_D hD
            obtain ⟨hqe, hpk146⟩ := hq
            rw [hqe] at hP hD
            subst hpk146
            refine f_callSi (na := 1) (As := [.int (hereF Z T (g122))]) (rest := []) Bx hml E.2.1 (m_Rd_beginsRepetitionX l (hereF Z T (g122))) kw_413 kw_414 kw_6 kw_415 (by decide +kernel) ⟨rfl, rfl⟩ ⟨Nat.le_of_ble_eq_true rfl, Nat.le_of_ble_eq_true rfl⟩ rfl hl.1 (Nat.le_of_ble_eq_true rfl) d_Rd_readSequence_39 ⟨Nat.le_of_ble_eq_true rfl, Nat.le_of_ble_eq_true rfl⟩ (fun r151 hs150 => ?_)
            subst hs150
            refine lv_if_eq Bx.1 Bx.2.1 d_Rd_readSequence_42 rfl (fun hb152 => ?_) (fun hb152 => ?_)
            · refine lv_aload_n Bx.1 Bx.2.1 d_Rd_readSequence_65 rfl (lv_at hl 2 rfl) ?_
              exact x_aret hx hb hlocks hr (⟨a1, u1, R1, E1, S1, A1, B1, n1, to1, rfl, by omega, by omega, by omega, by omega, hz102, hrk129, by rw [← eg123]; exact hRX124, ⟨hsq.1.1, her141, hsr142, hsq.1.2.2.2⟩, fun z => by have q9 := z.1; rw [← eg123, bg_0 hb152] at q9; exact absurd q9 (by decide)⟩) hP hS d_Rd_readSequence_66
            · have hbg2 : bgF (hereF Z T (gapF T Z a1)) = true := by rw [← eg123]; exact bg_1 hb152
              have hgt2 : a1 < gapF T Z a1 := by rw [← eg123]; omega
              have h238 := hsq.2.1
              have h239 : A1 239 2 = -1 := hsq.1.2.2.2.2.2.2.2.2.2.2
              refine lv_aload_n Bx.1 Bx.2.1 d_Rd_readSequence_45 rfl (lv_at hl 1 rfl) ?_
              refine lv_aload_n Bx.1 Bx.2.1 d_Rd_readSequence_46 rfl (lv_at hl 3 rfl) ?_
              refine lv_iload_n Bx.1 Bx.2.1 d_Rd_readSequence_47 rfl (lv_at hl 4 rfl) ?_
              refine f_xVr (na := 1) (As := [.int (2)]) (rest := [.ref (ad (20 + 2 * la))]) Bx hml E hP hD hS (by omega) h9_131 rfl (m_Rd_readRepetition_2Y l hlt hn hT hf hRX124 (by omega) (u := u1) (A := A1) her141 hsr142 (by omega) (by omega) hlka ⟨⟨Ec, by omega, h238⟩, Or.inl h239⟩ h239 (by rw [eg123]; exact hbg2)) kw_439 kw_441 sel_Rd_readRepetition kw_6 kw_442 (by decide +kernel) ⟨rfl, rfl⟩ ⟨Nat.le_of_ble_eq_true rfl, Nat.le_of_ble_eq_true rfl⟩ rfl hl.1 (Nat.le_of_ble_eq_true rfl) d_Rd_readSequence_48 ⟨Nat.le_of_ble_eq_true rfl, Nat.le_of_ble_eq_true rfl⟩ (fun X ce q9 memx H locs hx9 hP hS g1 g2 g3 => f_out hlocks hno hP hS g1 g2 g3 ⟨Nat.le_of_ble_eq_true rfl, Nat.le_of_ble_eq_true rfl⟩ ⟨hx9.1, hsq.1.1.fai (go_rept hbg2 hgt2) (by rw [← eg123]; exact hx9.2)⟩) (fun r153 mem154 H locs hq hP hS => ?_)
              have hD : va_D (Az sz) (fw n ad mem154) := fw_D hD
              obtain ⟨kx155, ax156, ux157, Rx158, Ex159, Sx160, Ax161, Bx_162, nx163, tox164, hr9165, h1166, h2167, h3168, h4169, h5170, htk171, hrk172, hRX173, rds174, h8175⟩ := hq
              subst hr9165
              have hrk176 : ∀ i9, i9 < R → mem154 (7 + i9) = mem (7 + i9) := fun i9 q9 => (hrk172 i9 (by omega)).trans (hrk129 i9 q9)
              obtain ⟨ft177, h9_178⟩ := hRX173.2.1
              have h1_179 : mem154 1 = .inr (0, [.ref (ad 2), .int (nI Z)]) := (hRX173.1.2.2 1 (by omega)).trans hT.1
              have h2_180 : mem154 2 = .inl (cy 0, 240, .inl f) := (hRX173.1.2.2 2 (by omega)).trans hT.2.2
              have h5_181 := hRX173.1.1.2.1
              have hbd187 := hRX173.1.1.1
              obtain ⟨S182, g183, hS_184, h220_185, h221_186⟩ := hRX173.1.1.2.2.2.2.2.2
              have hbd188 := hRX173.1.1.1
              have hce189 := (rds174.2.1 la (by omega)).1
              refine f_putN Bx hP hD hS (by omega) hce189 rfl inEl tyEl okEl nmEl 5 (by decide) kw_91 rfl rfl rfl rfl (Nat.le_of_ble_eq_true rfl) d_Rd_readSequence_51 (fun H locs hP hS => ?_)
              obtain ⟨mem190, e_mem190⟩ : ∃ z, z = va_up mem154 ((20 + 2 * la)) (.inr (2, [.int (Bx_162 228 la), .int (Bx_162 229 la), .int (Bx_162 230 la), vR ad (Bx_162 231 la), vE ad (Bx_162 232 la), .ref (ad (20 + 2 * kx155)), .ref (ad (21 + 2 * la))])) := ⟨_, rfl⟩
              have hP : va_P D vcl (fw n ad mem190) H := by rw [e_mem190]; exact hP
              have hD : va_D (Az sz) (fw n ad mem190) := fw_D hD
              have h_mem190 : mem190 ((20 + 2 * la)) = .inr (2, [.int (Bx_162 228 la), .int (Bx_162 229 la), .int (Bx_162 230 la), vR ad (Bx_162 231 la), vE ad (Bx_162 232 la), .ref (ad (20 + 2 * kx155)), .ref (ad (21 + 2 * la))]) := by rw [e_mem190, va_up_self]
              have hh191 := (va_up_ne mem154 (.inr (2, [.int (Bx_162 228 la), .int (Bx_162 229 la), .int (Bx_162 230 la), vR ad (Bx_162 231 la), vE ad (Bx_162 232 la), .ref (ad (20 + 2 * kx155)), .ref (ad (21 + 2 * la))])) (show (222 : Nat) ≠ (20 + 2 * la) by first | decide | assumption | omega)).trans h9_178
              rw [← e_mem190] at hh191
              have hh192 := (va_up_ne mem154 (.inr (2, [.int (Bx_162 228 la), .int (Bx_162 229 la), .int (Bx_162 230 la), vR ad (Bx_162 231 la), vE ad (Bx_162 232 la), .ref (ad (20 + 2 * kx155)), .ref (ad (21 + 2 * la))])) (show (1 : Nat) ≠ (20 + 2 * la) by first | decide | assumption | omega)).trans h1_179
              rw [← e_mem190] at hh192
              have hh193 := (va_up_ne mem154 (.inr (2, [.int (Bx_162 228 la), .int (Bx_162 229 la), .int (Bx_162 230 la), vR ad (Bx_162 231 la), vE ad (Bx_162 232 la), .ref (ad (20 + 2 * kx155)), .ref (ad (21 + 2 * la))])) (show (5 : Nat) ≠ (20 + 2 * la) by first | decide | assumption | omega)).trans h5_181
              rw [← e_mem190] at hh193
              have hh194 := (va_up_ne mem154 (.inr (2, [.int (Bx_162 228 la), .int (Bx_162 229 la), .int (Bx_162 230 la), vR ad (Bx_162 231 la), vE ad (Bx_162 232 la), .ref (ad (20 + 2 * kx155)), .ref (ad (21 + 2 * la))])) (show (220 : Nat) ≠ (20 + 2 * la) by first | decide | assumption | omega)).trans h220_185
              rw [← e_mem190] at hh194
              have hrk195 : ∀ i9, i9 < R → mem190 (7 + i9) = mem (7 + i9) := fun i9 q9 => (show mem190 (7 + i9) = mem154 (7 + i9) by rw [e_mem190]; exact va_up_ne _ _ (by omega)).trans (hrk176 i9 q9)
              have hRX196 : RX cy ad lim (ax156) (Rx158) (Ex159) (tox164) (nx163) m0 mem190 := by rw [e_mem190]; exact hRX173.el (by omega) (hRX173.1.mk (by omega) (hRX173.1.1.upEl (by omega) (fun _ => ⟨(rds174.2.1 la (by omega)).2.1.oR ad, (rds174.2.1 la (by omega)).2.2.1.oE ad (by omega), Or.inr ⟨kx155, by omega, by omega, rfl⟩⟩)))
              have her197 : ER ad (Rx158) (Ex159) (va_up Bx_162 233 (upd (Bx_162 233) la (nI kx155))) mem190 := rds174.2.1.next (by omega) (by omega) (by omega) h_mem190 (fun i9 q9 hi9 => by rw [e_mem190]; exact va_up_ne _ _ (by omega))
              have hsr198 : SR cy ad (Sx160) (Bx_162) mem190 := ⟨(show mem190 220 = mem154 220 by rw [e_mem190]; exact va_up_ne _ _ (by omega)).trans rds174.2.2.1.1, (show mem190 221 = mem154 221 by rw [e_mem190]; exact va_up_ne _ _ (by omega)).trans rds174.2.2.1.2⟩
              obtain ⟨ft199, h9_200⟩ := hRX196.2.1
              have h1_201 : mem190 1 = .inr (0, [.ref (ad 2), .int (nI Z)]) := (hRX196.1.2.2 1 (by omega)).trans hT.1
              have h2_202 : mem190 2 = .inl (cy 0, 240, .inl f) := (hRX196.1.2.2 2 (by omega)).trans hT.2.2
              have h5_203 := hRX196.1.1.2.1
              have hbd209 := hRX196.1.1.1
              obtain ⟨S204, g205, hS_206, h220_207, h221_208⟩ := hRX196.1.1.2.2.2.2.2.2
              refine lv_aload_n Bx.1 Bx.2.1 d_Rd_readSequence_54 rfl (lv_at hl 1 rfl) ?_
              refine f_getN Bx hP (by omega) h_mem190 rfl inEl 5 (by decide) kw_91 rfl rfl d_Rd_readSequence_55 ?_
              refine lv_astore_n (lv' := [(3, .ref (ad (20 + 2 * kx155))), (4, .int (nI k9)), (2, .ref (ad (20 + 2 * Ec))), (0, .ref (ad 222)), (1, .int (2))]) Bx.1 Bx.2.1 d_Rd_readSequence_58 rfl hl (by decide) rfl (fun ls hl => ?_)
              refine lv_iinc (lv' := [(4, .int ((nI k9 + (1)))), (3, .ref (ad (20 + 2 * kx155))), (2, .ref (ad (20 + 2 * Ec))), (0, .ref (ad 222)), (1, .int (2))]) Bx.1 Bx.2.1 d_Rd_readSequence_59 hl (k := 1) rfl rfl (by decide) rfl (fun ls hl => ?_)
              rw [show (nI k9 + (1) : Int32) = nI (k9 + 1) from nI_1 (k9)] at hl
              refine lv_goto Bx.1 Bx.2.1 d_Rd_readSequence_62 rfl ?_
              have hsq3 := seq_step hsq (by omega) hlka (by omega) hsl9 rds174 h8175 ⟨by omega, by omega⟩ (by omega) (by rw [eg123]; exact go_rept hbg2 hgt2) her197 hsr198
              exact ih104 mem190 (ax156) (ux157) (Rx158) (Ex159) (Sx160) (Ax161) ((va_up Bx_162 233 (upd (Bx_162 233) la (nI kx155)))) (nx163) (tox164) (kx155) (k9 + 1) _ _ _ (by have := hmeas105; omega) (hRX196) (⟨by omega, by omega, by omega, by omega, by omega⟩) (hsq3) (hz102.trans htk171 (by omega)) (hrk195) hP hD hS (lv_sub hl [0, 1, 2, 3, 4] rfl)
        · subst hr143
          refine lv_if_eq Bx.1 Bx.2.1 d_Rd_readSequence_32 rfl (fun hb210 => ?_) (fun hb210 => ?_)
          · refine lv_aload_n Bx.1 Bx.2.1 d_Rd_readSequence_65 rfl (lv_at hl 2 rfl) ?_
            exact x_aret hx hb hlocks hr (⟨a1, u1, R1, E1, S1, A1, B1, n1, to1, rfl, by omega, by omega, by omega, by omega, hz102, hrk129, by rw [← eg123]; exact hRX124, ⟨hsq.1.1, her141, hsr142, hsq.1.2.2.2⟩, fun z => by have := z.2; rw [← eg123] at this; omega⟩) hP hS d_Rd_readSequence_66
          · exact absurd hb210 (by decide)
  exact loop97 _ mem77 (ax43) (ux44) (Rx45) (Ex46) (Sx47) (Ax48) ((va_up Bx_49 232 (upd (Bx_49 232) Ec (nI kx42)))) (nx50) (tox51) (kx42) (0) _ _ _ (Nat.lt_succ_self _) (hRX83) (⟨by omega, by omega, by omega, by omega, by omega⟩) (hsq0) (htk58) (hrk82) hP hD hS (lv_sub hl [0, 1, 2, 3, 4] rfl)
set_option maxHeartbeats 4000000 in
set_option maxRecDepth 100000 in
theorem m_Rd_readAlternatives_2Y (l : Launch) {D : va_G} {cy : Nat → ClassId} {sz n : Nat} {ad : Nat → Nat} {mem : Nat → va_E} {Z a R Ec lim : Nat} {f T : Nat → Int32} {to : Nat → Int32} {nm : Nat → Int64} {m0 : Nat → va_E} {u S : Nat} {A Bw : Ro} {cq : Nat} (hlt : l.stackTraces = false) (hn : 224 ≤ n) (hT : TX cy ad Z f m0) (hf : ∀ k, k < Z → f k = T k) (hRX : RX cy ad lim a R Ec to nm m0 mem) (haB : a ≤ 300) (hER : ER ad R Ec Bw mem) (hSR : SR cy ad S Bw mem) (hSa : S ≤ a) (haZ : a ≤ Z) (hLK : LKa (Ec + 1) A) (hc : A 237 2 = nI cq) (hcl : cq ≤ Ec) (h39 : A 239 2 = -1) : NXr l D cy sz n ad y_Rd_readAlternatives c_Rd_readAlternatives 5 (some (.object "AbnfChart$Element")) ({ frames := 43, cells := 1, slots := 6, locals := 1038 } : Room) mem [.ref (ad 222), .int (2)] (fun r mem' => ∃ (la a' u' R' E' S' : Nat) (A' Bw' : Ro) (nm' : Nat → Int64) (to' : Nat → Int32), r = ad (20 + 2 * Ec) ∧ Ec + 1 < E' ∧ R ≤ R' ∧ a < a' ∧ a' ≤ Z ∧ TOK R R' to to' ∧ (∀ i9, i9 < R → mem' (7 + i9) = mem (7 + i9)) ∧ RX cy ad lim (gapF T Z a') R' E' to' nm' m0 mem' ∧ ALI cy ad T Z 2 (seqS T Z a u R (Ec + 1) 2 A nm) cq R Ec S u A Bw la a' u' R' E' S' A' Bw' nm' mem' ∧ bgF (hereF Z T a) = true ∧ Ec < 100 ∧ ¬ hereF Z T (gapF T Z a') = 47 ∧ ¬ (bgF (hereF Z T (gapF T Z a')) = true ∧ a' < gapF T Z a')) (fun X mem' => ((X = cIA ∨ X = cIS) ∧ ∃ rc' ec' : Nat, RS cy ad lim rc' ec' m0 mem') ∧ (bgF (hereF Z T a) = false ∨ Ec = 100 ∨ (bgF (hereF Z T a) = true ∧ Ec < 100 ∧ Fai T Z (seqS T Z a u R (Ec + 1) 2 A nm)))) := by
  refine vx_ofW (cc := c_Rd_readAlternatives) (maxL := 5) (ret := (some (.object "AbnfChart$Element"))) (by decide) rfl ?_
  intro p e s m args below meth c s₁ B hml hno hv
  obtain ⟨rfl, E, hP, hD⟩ := hv
  have hx := B.exec
  have hb := B.bytes
  have hr := B.returns
  have hlocks := B.notSynchronized
  have Bx : MB p s m [.ref (ad 222), .int (2)].toArray c c_Rd_readAlternatives "AbnfChart$Reader" D cy := ⟨hx, hb, tb_all (atoms_spec B.pre) E.2.1, findClass_of_methodNamed B.named, E.1⟩
  have hS : va_S (Az sz) s.heap s.heap [] := va_S.rf
  have hl := lv_entry ([.ref (ad 222), .int (2)]) (n := 5) (Nat.le_of_ble_eq_true rfl)
  rw [lg_entry_eq]
  generalize (lg_sl ([.ref (ad 222), .int (2)]) ++ List.replicate (5 - (lg_sl ([.ref (ad 222), .int (2)])).length) Slot.unset).toArray = ls at hl ⊢
  have hl : lv_has ls 5 [(0, .ref (ad 222)), (1, .int (2))] := hl
  have hZ9 := hT.2.1
  have hbd9 := hRX.1.1.1
  have hfr0 : ∀ i, 7 ≤ i ∧ i < 222 ∧ i ≠ 20 + 2 * Ec → mem i = mem i := fun _ _ => rfl
  have hrk0 : ∀ i9, i9 < R → mem (7 + i9) = mem (7 + i9) := fun _ _ => rfl
  obtain ⟨ft1, h9_2⟩ := hRX.2.1
  have h1_3 : mem 1 = .inr (0, [.ref (ad 2), .int (nI Z)]) := (hRX.1.2.2 1 (by omega)).trans hT.1
  have h2_4 : mem 2 = .inl (cy 0, 240, .inl f) := (hRX.1.2.2 2 (by omega)).trans hT.2.2
  have h5_5 := hRX.1.1.2.1
  have hbd11 := hRX.1.1.1
  obtain ⟨S6, g7, hS_8, h220_9, h221_10⟩ := hRX.1.1.2.2.2.2.2.2
  refine lv_aload_n Bx.1 Bx.2.1 d_Rd_readAlternatives_0 rfl (lv_at hl 0 rfl) ?_
  refine lv_iconst (v := 0) Bx.1 Bx.2.1 d_Rd_readAlternatives_1 (by decide) ?_
  refine f_xVr (na := 1) (As := [.int (0)]) (rest := []) Bx hml E hP hD hS (by omega) h9_2 rfl (m_Rd_beginRowY l hlt hn hT hf hRX (by omega)) kw_409 kw_411 sel_Rd_beginRow kw_6 kw_412 (by decide +kernel) ⟨rfl, rfl⟩ ⟨Nat.le_of_ble_eq_true rfl, Nat.le_of_ble_eq_true rfl⟩ rfl hl.1 (Nat.le_of_ble_eq_true rfl) d_Rd_readAlternatives_2 ⟨Nat.le_of_ble_eq_true rfl, Nat.le_of_ble_eq_true rfl⟩ (fun X ce q9 memx H locs hx9 hP hS g1 g2 g3 => f_out hlocks hno hP hS g1 g2 g3 ⟨Nat.le_of_ble_eq_true rfl, Nat.le_of_ble_eq_true rfl⟩ ⟨hx9.1, hx9.2.elim Or.inl (fun z => Or.inr (Or.inl z))⟩) (fun r12 mem13 H locs hq hP hS => ?_)
  have hD : va_D (Az sz) (fw n ad mem13) := fw_D hD
  obtain ⟨hbg, hE9, hr9, hRXb, hclb, hfab⟩ := hq
  subst hr9
  have hrk14 : ∀ i9, i9 < R → mem13 (7 + i9) = mem (7 + i9) := fun i9 q9 => (hfab (7 + i9) (by omega)).trans (hrk0 i9 q9)
  have hfr15 : ∀ i, 7 ≤ i ∧ i < 222 ∧ i ≠ 20 + 2 * Ec → mem13 i = mem i := fun i q => (hfab i (by omega)).trans (hfr0 i q)
  obtain ⟨ft16, h9_17⟩ := hRXb.2.1
  have h1_18 : mem13 1 = .inr (0, [.ref (ad 2), .int (nI Z)]) := (hRXb.1.2.2 1 (by omega)).trans hT.1
  have h2_19 : mem13 2 = .inl (cy 0, 240, .inl f) := (hRXb.1.2.2 2 (by omega)).trans hT.2.2
  have h5_20 := hRXb.1.1.2.1
  have hbd26 := hRXb.1.1.1
  obtain ⟨S21, g22, hS_23, h220_24, h221_25⟩ := hRXb.1.1.2.2.2.2.2.2
  obtain ⟨ft27, h9_28⟩ := hRXb.2.1
  have h1_29 : mem13 1 = .inr (0, [.ref (ad 2), .int (nI Z)]) := (hRXb.1.2.2 1 (by omega)).trans hT.1
  have h2_30 : mem13 2 = .inl (cy 0, 240, .inl f) := (hRXb.1.2.2 2 (by omega)).trans hT.2.2
  have h5_31 := hRXb.1.1.2.1
  have hbd37 := hRXb.1.1.1
  obtain ⟨S32, g33, hS_34, h220_35, h221_36⟩ := hRXb.1.1.2.2.2.2.2.2
  refine lv_astore_n (lv' := [(2, .ref (ad (20 + 2 * Ec))), (0, .ref (ad 222)), (1, .int (2))]) Bx.1 Bx.2.1 d_Rd_readAlternatives_5 rfl hl (by decide) rfl (fun ls hl => ?_)
  refine lv_aload_n Bx.1 Bx.2.1 d_Rd_readAlternatives_6 rfl (lv_at hl 1 rfl) ?_
  refine lv_iload_n Bx.1 Bx.2.1 d_Rd_readAlternatives_7 rfl (lv_at hl 2 rfl) ?_
  have her38 : ER ad R (Ec + 1) (bwN Bw Ec 0 (0) (0) (-1) (-1) (-1) (Bw 234)) mem13 := hER.new (Nat.le_refl _) (by rw [vR_m]; exact hclb) (Or.inl rfl) (fun i9 hi9 => hfr15 (20 + 2 * i9) (by omega))
  have hsr39 : SR cy ad S (bwN Bw Ec 0 (0) (0) (-1) (-1) (-1) (Bw 234)) mem13 := ⟨(hfr15 220 (by omega)).trans hSR.1, (hfr15 221 (by omega)).trans hSR.2⟩
  refine f_xVr (na := 1) (As := [.int (2)]) (rest := []) Bx hml E hP hD hS (by omega) h9_28 rfl (m_Rd_readSequence_2Y l hlt hn hT hf hRXb (by omega) (u := u) (A := A) her38 hsr39 (by omega) (by omega) hLK hc (by omega) h39) kw_435 kw_437 sel_Rd_readSequence kw_6 kw_438 (by decide +kernel) ⟨rfl, rfl⟩ ⟨Nat.le_of_ble_eq_true rfl, Nat.le_of_ble_eq_true rfl⟩ rfl hl.1 (Nat.le_of_ble_eq_true rfl) d_Rd_readAlternatives_8 ⟨Nat.le_of_ble_eq_true rfl, Nat.le_of_ble_eq_true rfl⟩ (fun X ce q9 memx H locs hx9 hP hS g1 g2 g3 => f_out hlocks hno hP hS g1 g2 g3 ⟨Nat.le_of_ble_eq_true rfl, Nat.le_of_ble_eq_true rfl⟩ ⟨hx9.1, Or.inr (Or.inr ⟨hbg, hE9, hx9.2⟩)⟩) (fun r40 mem41 H locs hq hP hS => ?_)
  have hD : va_D (Az sz) (fw n ad mem41) := fw_D hD
  obtain ⟨ax42, ux43, Rx44, Ex45, Sx46, Ax47, Bx_48, nx49, tox50, hr951, h252, h353, h454, h555, htk56, hrk57, hRX58, rds59, hnb60⟩ := hq
  subst hr951
  have hrk61 : ∀ i9, i9 < R → mem41 (7 + i9) = mem (7 + i9) := fun i9 q9 => (hrk57 i9 (by omega)).trans (hrk14 i9 q9)
  obtain ⟨g62, eg63⟩ : ∃ z, z = gapF T Z ax42 := ⟨_, rfl⟩
  have hg64 : ax42 ≤ g62 := by rw [eg63]; exact gapF_ge T Z _
  have hg65 : g62 ≤ Z := by rw [eg63]; exact gapF_le T (by omega)
  rw [← eg63] at hRX58
  obtain ⟨ft66, h9_67⟩ := hRX58.2.1
  have h1_68 : mem41 1 = .inr (0, [.ref (ad 2), .int (nI Z)]) := (hRX58.1.2.2 1 (by omega)).trans hT.1
  have h2_69 : mem41 2 = .inl (cy 0, 240, .inl f) := (hRX58.1.2.2 2 (by omega)).trans hT.2.2
  have h5_70 := hRX58.1.1.2.1
  have hbd76 := hRX58.1.1.1
  obtain ⟨S71, g72, hS_73, h220_74, h221_75⟩ := hRX58.1.1.2.2.2.2.2.2
  have hbd77 := hRX58.1.1.1
  refine lv_astore_n (lv' := [(3, .ref (ad (20 + 2 * (Ec + 1)))), (2, .ref (ad (20 + 2 * Ec))), (0, .ref (ad 222)), (1, .int (2))]) Bx.1 Bx.2.1 d_Rd_readAlternatives_11 rfl hl (by decide) rfl (fun ls hl => ?_)
  refine lv_aload_n Bx.1 Bx.2.1 d_Rd_readAlternatives_12 rfl (lv_at hl 1 rfl) ?_
  refine lv_aload_n Bx.1 Bx.2.1 d_Rd_readAlternatives_13 rfl (lv_at hl 0 rfl) ?_
  have hce78 := (rds59.2.1 Ec (by omega)).1
  refine f_putN Bx hP hD hS (by omega) hce78 rfl inEl tyEl okEl nmEl 4 (by decide) kw_87 rfl rfl rfl rfl (Nat.le_of_ble_eq_true rfl) d_Rd_readAlternatives_14 (fun H locs hP hS => ?_)
  obtain ⟨mem79, e_mem79⟩ : ∃ z, z = va_up mem41 ((20 + 2 * Ec)) (.inr (2, [.int (Bx_48 228 Ec), .int (Bx_48 229 Ec), .int (Bx_48 230 Ec), vR ad (Bx_48 231 Ec), .ref (ad (20 + 2 * (Ec + 1))), vE ad (Bx_48 233 Ec), .ref (ad (21 + 2 * Ec))])) := ⟨_, rfl⟩
  have hP : va_P D vcl (fw n ad mem79) H := by rw [e_mem79]; exact hP
  have hD : va_D (Az sz) (fw n ad mem79) := fw_D hD
  have h_mem79 : mem79 ((20 + 2 * Ec)) = .inr (2, [.int (Bx_48 228 Ec), .int (Bx_48 229 Ec), .int (Bx_48 230 Ec), vR ad (Bx_48 231 Ec), .ref (ad (20 + 2 * (Ec + 1))), vE ad (Bx_48 233 Ec), .ref (ad (21 + 2 * Ec))]) := by rw [e_mem79, va_up_self]
  have hh80 := (va_up_ne mem41 (.inr (2, [.int (Bx_48 228 Ec), .int (Bx_48 229 Ec), .int (Bx_48 230 Ec), vR ad (Bx_48 231 Ec), .ref (ad (20 + 2 * (Ec + 1))), vE ad (Bx_48 233 Ec), .ref (ad (21 + 2 * Ec))])) (show (222 : Nat) ≠ (20 + 2 * Ec) by first | decide | assumption | omega)).trans h9_67
  rw [← e_mem79] at hh80
  have hh81 := (va_up_ne mem41 (.inr (2, [.int (Bx_48 228 Ec), .int (Bx_48 229 Ec), .int (Bx_48 230 Ec), vR ad (Bx_48 231 Ec), .ref (ad (20 + 2 * (Ec + 1))), vE ad (Bx_48 233 Ec), .ref (ad (21 + 2 * Ec))])) (show (1 : Nat) ≠ (20 + 2 * Ec) by first | decide | assumption | omega)).trans h1_68
  rw [← e_mem79] at hh81
  have hh82 := (va_up_ne mem41 (.inr (2, [.int (Bx_48 228 Ec), .int (Bx_48 229 Ec), .int (Bx_48 230 Ec), vR ad (Bx_48 231 Ec), .ref (ad (20 + 2 * (Ec + 1))), vE ad (Bx_48 233 Ec), .ref (ad (21 + 2 * Ec))])) (show (5 : Nat) ≠ (20 + 2 * Ec) by first | decide | assumption | omega)).trans h5_70
  rw [← e_mem79] at hh82
  have hh83 := (va_up_ne mem41 (.inr (2, [.int (Bx_48 228 Ec), .int (Bx_48 229 Ec), .int (Bx_48 230 Ec), vR ad (Bx_48 231 Ec), .ref (ad (20 + 2 * (Ec + 1))), vE ad (Bx_48 233 Ec), .ref (ad (21 + 2 * Ec))])) (show (220 : Nat) ≠ (20 + 2 * Ec) by first | decide | assumption | omega)).trans h220_74
  rw [← e_mem79] at hh83
  have hrk84 : ∀ i9, i9 < R → mem79 (7 + i9) = mem (7 + i9) := fun i9 q9 => (show mem79 (7 + i9) = mem41 (7 + i9) by rw [e_mem79]; exact va_up_ne _ _ (by omega)).trans (hrk61 i9 q9)
  have hRX85 : RX cy ad lim (g62) (Rx44) (Ex45) (tox50) (nx49) m0 mem79 := by rw [e_mem79]; exact hRX58.el (by omega) (hRX58.1.mk (by omega) (hRX58.1.1.upEl (by omega) (fun _ => ⟨(rds59.2.1 Ec (by omega)).2.1.oR ad, Or.inr ⟨(Ec + 1), by omega, by omega, rfl⟩, (rds59.2.1 Ec (by omega)).2.2.2.oE ad (by omega)⟩)))
  have her86 : ER ad (Rx44) (Ex45) (va_up Bx_48 232 (upd (Bx_48 232) Ec (nI (Ec + 1)))) mem79 := rds59.2.1.part (by omega) (by omega) (by omega) h_mem79 (fun i9 q9 hi9 => by rw [e_mem79]; exact va_up_ne _ _ (by omega))
  have hsr87 : SR cy ad (Sx46) (Bx_48) mem79 := ⟨(show mem79 220 = mem41 220 by rw [e_mem79]; exact va_up_ne _ _ (by omega)).trans rds59.2.2.1.1, (show mem79 221 = mem41 221 by rw [e_mem79]; exact va_up_ne _ _ (by omega)).trans rds59.2.2.1.2⟩
  obtain ⟨ft88, h9_89⟩ := hRX85.2.1
  have h1_90 : mem79 1 = .inr (0, [.ref (ad 2), .int (nI Z)]) := (hRX85.1.2.2 1 (by omega)).trans hT.1
  have h2_91 : mem79 2 = .inl (cy 0, 240, .inl f) := (hRX85.1.2.2 2 (by omega)).trans hT.2.2
  have h5_92 := hRX85.1.1.2.1
  have hbd98 := hRX85.1.1.1
  obtain ⟨S93, g94, hS_95, h220_96, h221_97⟩ := hRX85.1.1.2.2.2.2.2.2
  refine lv_iconst (v := 0) Bx.1 Bx.2.1 d_Rd_readAlternatives_17 (by decide) ?_
  refine lv_istore (lv' := [(4, .int (0)), (3, .ref (ad (20 + 2 * (Ec + 1)))), (2, .ref (ad (20 + 2 * Ec))), (0, .ref (ad 222)), (1, .int (2))]) Bx.1 Bx.2.1 d_Rd_readAlternatives_18 hl (by decide) rfl (fun ls hl => ?_)
  have hal0 := alt_first hLK hE9 hcl rds59 (by omega) (by omega) her86 hsr87
  have loop99 : ∀ (d100 : Nat) (mem9 : Nat → va_E) (a1 : Nat) (u1 : Nat) (R1 : Nat) (E1 : Nat) (S1 : Nat) (A1 : Ro) (B1 : Ro) (n1 : Nat → Int64) (to1 : Nat → Int32) (la : Nat) (k9 : Nat) (ls : Array Slot) (H : Heap) (locs : List Loc), (240 - k9 < d100) → (RX cy ad lim (gapF T Z a1) R1 E1 to1 n1 m0 mem9) → (a < a1 ∧ a1 ≤ Z ∧ R ≤ R1 ∧ k9 < a1 ∧ k9 ≤ 240) → (ALI cy ad T Z 2 (seqS T Z a u R (Ec + 1) 2 A nm) cq R Ec S u A Bw la a1 u1 R1 E1 S1 A1 B1 n1 mem9) → (TOK R R1 to to1) → (¬ (bgF (hereF Z T (gapF T Z a1)) = true ∧ a1 < gapF T Z a1)) → (∀ i9, i9 < R → mem9 (7 + i9) = mem (7 + i9)) → (va_P D vcl (fw n ad mem9) H) → (va_D (Az sz) (fw n ad mem9)) → (va_S (Az sz) s.heap H locs) → (lv_has ls 5 [(4, .int (nI k9)), (3, .ref (ad (20 + 2 * la))), (2, .ref (ad (20 + 2 * Ec))), (0, .ref (ad 222)), (1, .int (2))]) → W p l e (headSpec (Cond.code y_Rd_readAlternatives c_Rd_readAlternatives 5 (some (.object "AbnfChart$Element")) :: tg) ({ frames := 43, cells := 1, slots := 6, locals := 1038 } : Room)).room s m [.ref (ad 222), .int (2)].toArray below meth c H locs 0 0 (vx_MQ below (QX (QR (fun r mem' => ∃ (la a' u' R' E' S' : Nat) (A' Bw' : Ro) (nm' : Nat → Int64) (to' : Nat → Int32), r = ad (20 + 2 * Ec) ∧ Ec + 1 < E' ∧ R ≤ R' ∧ a < a' ∧ a' ≤ Z ∧ TOK R R' to to' ∧ (∀ i9, i9 < R → mem' (7 + i9) = mem (7 + i9)) ∧ RX cy ad lim (gapF T Z a') R' E' to' nm' m0 mem' ∧ ALI cy ad T Z 2 (seqS T Z a u R (Ec + 1) 2 A nm) cq R Ec S u A Bw la a' u' R' E' S' A' Bw' nm' mem' ∧ bgF (hereF Z T a) = true ∧ Ec < 100 ∧ ¬ hereF Z T (gapF T Z a') = 47 ∧ ¬ (bgF (hereF Z T (gapF T Z a')) = true ∧ a' < gapF T Z a')) (PP D n ad) (Az sz))) (XQ D sz n ad (fun X mem' => ((X = cIA ∨ X = cIS) ∧ ∃ rc' ec' : Nat, RS cy ad lim rc' ec' m0 mem') ∧ (bgF (hereF Z T a) = false ∨ Ec = 100 ∨ (bgF (hereF Z T a) = true ∧ Ec < 100 ∧ Fai T Z (seqS T Z a u R (Ec + 1) 2 A nm))))) [.ref (ad 222), .int (2)].toArray s 1 6 (Az sz)) (F0 m 20 ls []) := by
    intro d100
    induction d100 with
    | zero => intro mem9 a1 u1 R1 E1 S1 A1 B1 n1 to1 la k9 ls H locs hmeas108; exact absurd hmeas108 (Nat.not_lt_zero _)
    | succ d100 ih107 =>
      intro mem9 a1 u1 R1 E1 S1 A1 B1 n1 to1 la k9 ls H locs hmeas108 hz101 hz102 hz103 hz104 hz105 hz106 hP hD hS hl
      obtain ⟨g1, eg1⟩ : ∃ z, z = gapF T Z a1 := ⟨_, rfl⟩
      rw [← eg1] at hz101
      have hge1 : a1 ≤ g1 := by rw [eg1]; exact gapF_ge T Z _
      have hbd8 := hz102
      have hle1 : g1 ≤ Z := by rw [eg1]; exact gapF_le T (by omega)
      have hal := hz103
      have hbdE := hz101.1.1.1
      have hla := hal.2.2.2.2.2.2.2.2.2.2
      have hSa1 := hal.2.2.2.1.2.1
      have hlka := ali_lka hal hLK hE9 hcl
      obtain ⟨ft109, h9_110⟩ := hz101.2.1
      have h1_111 : mem9 1 = .inr (0, [.ref (ad 2), .int (nI Z)]) := (hz101.1.2.2 1 (by omega)).trans hT.1
      have h2_112 : mem9 2 = .inl (cy 0, 240, .inl f) := (hz101.1.2.2 2 (by omega)).trans hT.2.2
      have h5_113 := hz101.1.1.2.1
      have hbd119 := hz101.1.1.1
      obtain ⟨S114, g115, hS_116, h220_117, h221_118⟩ := hz101.1.1.2.2.2.2.2.2
      refine lv_iload Bx.1 Bx.2.1 d_Rd_readAlternatives_20 (lv_at hl 0 rfl) ?_
      refine lv_sipush (v := 240) Bx.1 Bx.2.1 d_Rd_readAlternatives_22 (by decide) ?_
      refine lv_icmp_ge Bx.1 Bx.2.1 d_Rd_readAlternatives_25 rfl (fun hb120 => ?_) (fun hb120 => ?_)
      · have hN121 : 240 ≤ k9 := (nI_leI (by omega) (by omega)).mp (show nI (240) ≤ nI (k9) from hb120)
        exact absurd hbd8 (by omega)
      · have hN122 : ¬ 240 ≤ k9 := fun q9 => hb120 (show nI (240) ≤ nI (k9) from (nI_leI (by omega) (by omega)).mpr q9)
        refine lv_aload_n Bx.1 Bx.2.1 d_Rd_readAlternatives_28 rfl (lv_at hl 3 rfl) ?_
        refine f_callVi (na := 0) (As := []) (rest := []) Bx hml E hP hD hS (by omega) h9_110 rfl (m_Rd_peekX l hn hT hf hz101 (by omega)) kw_353 kw_355 sel_Rd_peek kw_6 kw_356 (by decide +kernel) ⟨rfl, rfl⟩ ⟨Nat.le_of_ble_eq_true rfl, Nat.le_of_ble_eq_true rfl⟩ rfl hl.1 (Nat.le_of_ble_eq_true rfl) d_Rd_readAlternatives_29 ⟨Nat.le_of_ble_eq_true rfl, Nat.le_of_ble_eq_true rfl⟩ (fun r124 mem125 H locs hq hP hS => ?_)
        have hD : va_D (Az sz) (fw n ad mem125) := fw_D hD
        obtain ⟨hqe, hpk123⟩ := hq
        rw [hqe] at hP hD
        subst hpk123
        refine lv_bipush (v := 47) Bx.1 Bx.2.1 d_Rd_readAlternatives_32 (by decide) ?_
        refine lv_icmp_ne Bx.1 Bx.2.1 d_Rd_readAlternatives_34 rfl (fun hb127 => ?_) (fun hb127 => ?_)
        · refine lv_aload_n Bx.1 Bx.2.1 d_Rd_readAlternatives_72 rfl (lv_at hl 2 rfl) ?_
          exact x_aret hx hb hlocks hr (⟨la, a1, u1, R1, E1, S1, A1, B1, n1, to1, rfl, by omega, by omega, by omega, by omega, hz104, hz106, by rw [← eg1]; exact hz101, hal, hbg, hE9, by rw [← eg1]; exact hb127, hz105⟩) hP hS d_Rd_readAlternatives_73
        · have hlt128 := hereF_lt (by rw [hb127]; decide)
          have h47 : hereF Z T (gapF T Z a1) = 47 := by rw [← eg1]; exact hb127
          have h237 : A1 237 2 = nI cq := hal.2.2.2.2.2.2.2.2.1.2.2.1.trans hc
          have h239 : A1 239 2 = -1 := hal.2.2.2.2.2.2.2.2.1.2.2.2
          refine lv_aload_n Bx.1 Bx.2.1 d_Rd_readAlternatives_37 rfl (lv_at hl 3 rfl) ?_
          refine lv_dup Bx.1 Bx.2.1 d_Rd_readAlternatives_38 rfl ?_
          refine f_get Bx hP (by omega) h9_110 rfl inRd 2 (by decide) kw_146 rfl rfl d_Rd_readAlternatives_39 ?_
          refine lv_iconst (v := 1) Bx.1 Bx.2.1 d_Rd_readAlternatives_42 (by decide) ?_
          refine lv_iadd Bx.1 Bx.2.1 d_Rd_readAlternatives_43 ?_
          rw [show nI g1 + 1 = nI (g1 + 1) from nI_add (g1) (1)]
          refine f_put Bx hP hD hS (by omega) h9_110 rfl inRd tyRd okRd nmRd 2 (by decide) kw_146 rfl rfl rfl rfl (Nat.le_of_ble_eq_true rfl) d_Rd_readAlternatives_44 (fun H locs hP hS => ?_)
          obtain ⟨mem129, e_mem129⟩ : ∃ z, z = va_up mem9 (222) (.inr (4, [.ref (ad 1), .ref (ad 5), .int (nI (g1 + 1)), .int (ft109)])) := ⟨_, rfl⟩
          have hP : va_P D vcl (fw n ad mem129) H := by rw [e_mem129]; exact hP
          have hD : va_D (Az sz) (fw n ad mem129) := fw_D hD
          have h_mem129 : mem129 (222) = .inr (4, [.ref (ad 1), .ref (ad 5), .int (nI (g1 + 1)), .int (ft109)]) := by rw [e_mem129, va_up_self]
          have hh130 := (va_up_ne mem9 (.inr (4, [.ref (ad 1), .ref (ad 5), .int (nI (g1 + 1)), .int (ft109)])) (show (1 : Nat) ≠ 222 by first | decide | assumption | omega)).trans h1_111
          rw [← e_mem129] at hh130
          have hh131 := (va_up_ne mem9 (.inr (4, [.ref (ad 1), .ref (ad 5), .int (nI (g1 + 1)), .int (ft109)])) (show (5 : Nat) ≠ 222 by first | decide | assumption | omega)).trans h5_113
          rw [← e_mem129] at hh131
          have hh132 := (va_up_ne mem9 (.inr (4, [.ref (ad 1), .ref (ad 5), .int (nI (g1 + 1)), .int (ft109)])) (show (220 : Nat) ≠ 222 by first | decide | assumption | omega)).trans h220_117
          rw [← e_mem129] at hh132
          have hrk133 : ∀ i9, i9 < R → mem129 (7 + i9) = mem (7 + i9) := fun i9 q9 => (show mem129 (7 + i9) = mem9 (7 + i9) by rw [e_mem129]; exact va_up_ne _ _ (by omega)).trans (hz106 i9 q9)
          have her134 : ER ad (R1) (E1) (B1) mem129 := hal.2.1.fr (Nat.le_refl _) (fun i9 hi9 => by rw [e_mem129]; exact va_up_ne _ _ (by omega))
          have hsr135 : SR cy ad (S1) (B1) mem129 := ⟨(show mem129 220 = _ from by rw [e_mem129]; exact va_up_ne _ _ (by omega)).trans hal.2.2.1.1, (show mem129 221 = _ from by rw [e_mem129]; exact va_up_ne _ _ (by omega)).trans hal.2.2.1.2⟩
          have hRX136 : RX cy ad lim (g1 + 1) (R1) (E1) (to1) (n1) m0 mem129 := by rw [e_mem129]; exact hz101.at
          refine lv_aload_n Bx.1 Bx.2.1 d_Rd_readAlternatives_47 rfl (lv_at hl 3 rfl) ?_
          refine f_callVi (na := 0) (As := []) (rest := []) Bx hml E hP hD hS (by omega) h_mem129 rfl (m_Rd_readGapY l hn hT hf hRX136 (by omega) (by omega)) kw_397 kw_399 sel_Rd_readGap kw_6 kw_400 (by decide +kernel) ⟨rfl, rfl⟩ ⟨Nat.le_of_ble_eq_true rfl, Nat.le_of_ble_eq_true rfl⟩ rfl hl.1 (Nat.le_of_ble_eq_true rfl) d_Rd_readAlternatives_48 ⟨Nat.le_of_ble_eq_true rfl, Nat.le_of_ble_eq_true rfl⟩ (fun r137 mem138 H locs hq hP hS => ?_)
          have hD : va_D (Az sz) (fw n ad mem138) := fw_D hD
          obtain ⟨g139, eg140⟩ : ∃ z, z = gapF T Z (g1 + 1) := ⟨_, rfl⟩
          rw [← eg140] at hq
          obtain ⟨hRX141, hgc142, hfa143⟩ := hq
          have hg144 : g1 + 1 ≤ g139 := by rw [eg140]; exact gapF_ge T Z _
          have hg145 : g139 ≤ Z := by rw [eg140]; exact gapF_le T (by omega)
          have hrk146 : ∀ i9, i9 < R → mem138 (7 + i9) = mem (7 + i9) := fun i9 q9 => (hfa143 (7 + i9) (by omega)).trans (hrk133 i9 q9)
          obtain ⟨ft147, h9_148⟩ := hRX141.2.1
          have h1_149 : mem138 1 = .inr (0, [.ref (ad 2), .int (nI Z)]) := (hRX141.1.2.2 1 (by omega)).trans hT.1
          have h2_150 : mem138 2 = .inl (cy 0, 240, .inl f) := (hRX141.1.2.2 2 (by omega)).trans hT.2.2
          have h5_151 := hRX141.1.1.2.1
          have hbd157 := hRX141.1.1.1
          obtain ⟨S152, g153, hS_154, h220_155, h221_156⟩ := hRX141.1.1.2.2.2.2.2.2
          have her158 : ER ad (R1) (E1) (B1) mem138 := her134.fr (Nat.le_refl _) (fun i9 hi9 => hfa143 _ (by omega))
          have hsr159 : SR cy ad (S1) (B1) mem138 := ⟨(show mem138 220 = _ from hfa143 _ (by omega)).trans hsr135.1, (show mem138 221 = _ from hfa143 _ (by omega)).trans hsr135.2⟩
          refine lv_pop Bx.1 Bx.2.1 d_Rd_readAlternatives_51 rfl ?_
          refine lv_aload_n Bx.1 Bx.2.1 d_Rd_readAlternatives_52 rfl (lv_at hl 1 rfl) ?_
          refine lv_aload_n Bx.1 Bx.2.1 d_Rd_readAlternatives_53 rfl (lv_at hl 3 rfl) ?_
          refine lv_iload_n Bx.1 Bx.2.1 d_Rd_readAlternatives_54 rfl (lv_at hl 4 rfl) ?_
          refine f_xVr (na := 1) (As := [.int (2)]) (rest := [.ref (ad (20 + 2 * la))]) Bx hml E hP hD hS (by omega) h9_148 rfl (m_Rd_readSequence_2Y l hlt hn hT hf hRX141 (by omega) (u := u1) (A := A1) her158 hsr159 (by omega) (by omega) hlka h237 (by omega) h239) kw_435 kw_437 sel_Rd_readSequence kw_6 kw_438 (by decide +kernel) ⟨rfl, rfl⟩ ⟨Nat.le_of_ble_eq_true rfl, Nat.le_of_ble_eq_true rfl⟩ rfl hl.1 (Nat.le_of_ble_eq_true rfl) d_Rd_readAlternatives_55 ⟨Nat.le_of_ble_eq_true rfl, Nat.le_of_ble_eq_true rfl⟩ (fun X ce q9 memx H locs hx9 hP hS g1 g2 g3 => f_out hlocks hno hP hS g1 g2 g3 ⟨Nat.le_of_ble_eq_true rfl, Nat.le_of_ble_eq_true rfl⟩ ⟨hx9.1, Or.inr (Or.inr ⟨hbg, hE9, hal.1.fai (go_sl h47) (by rw [← eg1, ← eg140]; exact hx9.2)⟩)⟩) (fun r160 mem161 H locs hq hP hS => ?_)
          have hD : va_D (Az sz) (fw n ad mem161) := fw_D hD
          obtain ⟨ax162, ux163, Rx164, Ex165, Sx166, Ax167, Bx_168, nx169, tox170, hr9171, h2172, h3173, h4174, h5175, htk176, hrk177, hRX178, rds179, hnb180⟩ := hq
          subst hr9171
          have hrk181 : ∀ i9, i9 < R → mem161 (7 + i9) = mem (7 + i9) := fun i9 q9 => (hrk177 i9 (by omega)).trans (hrk146 i9 q9)
          obtain ⟨g182, eg183⟩ : ∃ z, z = gapF T Z ax162 := ⟨_, rfl⟩
          have hg184 : ax162 ≤ g182 := by rw [eg183]; exact gapF_ge T Z _
          have hg185 : g182 ≤ Z := by rw [eg183]; exact gapF_le T (by omega)
          rw [← eg183] at hRX178
          obtain ⟨ft186, h9_187⟩ := hRX178.2.1
          have h1_188 : mem161 1 = .inr (0, [.ref (ad 2), .int (nI Z)]) := (hRX178.1.2.2 1 (by omega)).trans hT.1
          have h2_189 : mem161 2 = .inl (cy 0, 240, .inl f) := (hRX178.1.2.2 2 (by omega)).trans hT.2.2
          have h5_190 := hRX178.1.1.2.1
          have hbd196 := hRX178.1.1.1
          obtain ⟨S191, g192, hS_193, h220_194, h221_195⟩ := hRX178.1.1.2.2.2.2.2.2
          have hbd197 := hRX178.1.1.1
          have hce198 := (rds179.2.1 la (by omega)).1
          refine f_putN Bx hP hD hS (by omega) hce198 rfl inEl tyEl okEl nmEl 5 (by decide) kw_91 rfl rfl rfl rfl (Nat.le_of_ble_eq_true rfl) d_Rd_readAlternatives_58 (fun H locs hP hS => ?_)
          obtain ⟨mem199, e_mem199⟩ : ∃ z, z = va_up mem161 ((20 + 2 * la)) (.inr (2, [.int (Bx_168 228 la), .int (Bx_168 229 la), .int (Bx_168 230 la), vR ad (Bx_168 231 la), vE ad (Bx_168 232 la), .ref (ad (20 + 2 * E1)), .ref (ad (21 + 2 * la))])) := ⟨_, rfl⟩
          have hP : va_P D vcl (fw n ad mem199) H := by rw [e_mem199]; exact hP
          have hD : va_D (Az sz) (fw n ad mem199) := fw_D hD
          have h_mem199 : mem199 ((20 + 2 * la)) = .inr (2, [.int (Bx_168 228 la), .int (Bx_168 229 la), .int (Bx_168 230 la), vR ad (Bx_168 231 la), vE ad (Bx_168 232 la), .ref (ad (20 + 2 * E1)), .ref (ad (21 + 2 * la))]) := by rw [e_mem199, va_up_self]
          have hh200 := (va_up_ne mem161 (.inr (2, [.int (Bx_168 228 la), .int (Bx_168 229 la), .int (Bx_168 230 la), vR ad (Bx_168 231 la), vE ad (Bx_168 232 la), .ref (ad (20 + 2 * E1)), .ref (ad (21 + 2 * la))])) (show (222 : Nat) ≠ (20 + 2 * la) by first | decide | assumption | omega)).trans h9_187
          rw [← e_mem199] at hh200
          have hh201 := (va_up_ne mem161 (.inr (2, [.int (Bx_168 228 la), .int (Bx_168 229 la), .int (Bx_168 230 la), vR ad (Bx_168 231 la), vE ad (Bx_168 232 la), .ref (ad (20 + 2 * E1)), .ref (ad (21 + 2 * la))])) (show (1 : Nat) ≠ (20 + 2 * la) by first | decide | assumption | omega)).trans h1_188
          rw [← e_mem199] at hh201
          have hh202 := (va_up_ne mem161 (.inr (2, [.int (Bx_168 228 la), .int (Bx_168 229 la), .int (Bx_168 230 la), vR ad (Bx_168 231 la), vE ad (Bx_168 232 la), .ref (ad (20 + 2 * E1)), .ref (ad (21 + 2 * la))])) (show (5 : Nat) ≠ (20 + 2 * la) by first | decide | assumption | omega)).trans h5_190
          rw [← e_mem199] at hh202
          have hh203 := (va_up_ne mem161 (.inr (2, [.int (Bx_168 228 la), .int (Bx_168 229 la), .int (Bx_168 230 la), vR ad (Bx_168 231 la), vE ad (Bx_168 232 la), .ref (ad (20 + 2 * E1)), .ref (ad (21 + 2 * la))])) (show (220 : Nat) ≠ (20 + 2 * la) by first | decide | assumption | omega)).trans h220_194
          rw [← e_mem199] at hh203
          have hrk204 : ∀ i9, i9 < R → mem199 (7 + i9) = mem (7 + i9) := fun i9 q9 => (show mem199 (7 + i9) = mem161 (7 + i9) by rw [e_mem199]; exact va_up_ne _ _ (by omega)).trans (hrk181 i9 q9)
          have hRX205 : RX cy ad lim (g182) (Rx164) (Ex165) (tox170) (nx169) m0 mem199 := by rw [e_mem199]; exact hRX178.el (by omega) (hRX178.1.mk (by omega) (hRX178.1.1.upEl (by omega) (fun _ => ⟨(rds179.2.1 la (by omega)).2.1.oR ad, (rds179.2.1 la (by omega)).2.2.1.oE ad (by omega), Or.inr ⟨E1, by omega, by omega, rfl⟩⟩)))
          have her206 : ER ad (Rx164) (Ex165) (va_up Bx_168 233 (upd (Bx_168 233) la (nI E1))) mem199 := rds179.2.1.next (by omega) (by omega) (by omega) h_mem199 (fun i9 q9 hi9 => by rw [e_mem199]; exact va_up_ne _ _ (by omega))
          have hsr207 : SR cy ad (Sx166) (Bx_168) mem199 := ⟨(show mem199 220 = mem161 220 by rw [e_mem199]; exact va_up_ne _ _ (by omega)).trans rds179.2.2.1.1, (show mem199 221 = mem161 221 by rw [e_mem199]; exact va_up_ne _ _ (by omega)).trans rds179.2.2.1.2⟩
          obtain ⟨ft208, h9_209⟩ := hRX205.2.1
          have h1_210 : mem199 1 = .inr (0, [.ref (ad 2), .int (nI Z)]) := (hRX205.1.2.2 1 (by omega)).trans hT.1
          have h2_211 : mem199 2 = .inl (cy 0, 240, .inl f) := (hRX205.1.2.2 2 (by omega)).trans hT.2.2
          have h5_212 := hRX205.1.1.2.1
          have hbd218 := hRX205.1.1.1
          obtain ⟨S213, g214, hS_215, h220_216, h221_217⟩ := hRX205.1.1.2.2.2.2.2.2
          refine lv_aload_n Bx.1 Bx.2.1 d_Rd_readAlternatives_61 rfl (lv_at hl 1 rfl) ?_
          refine f_getN Bx hP (by omega) h_mem199 rfl inEl 5 (by decide) kw_91 rfl rfl d_Rd_readAlternatives_62 ?_
          refine lv_astore_n (lv' := [(3, .ref (ad (20 + 2 * E1))), (4, .int (nI k9)), (2, .ref (ad (20 + 2 * Ec))), (0, .ref (ad 222)), (1, .int (2))]) Bx.1 Bx.2.1 d_Rd_readAlternatives_65 rfl hl (by decide) rfl (fun ls hl => ?_)
          refine lv_iinc (lv' := [(4, .int ((nI k9 + (1)))), (3, .ref (ad (20 + 2 * E1))), (2, .ref (ad (20 + 2 * Ec))), (0, .ref (ad 222)), (1, .int (2))]) Bx.1 Bx.2.1 d_Rd_readAlternatives_66 hl (k := 1) rfl rfl (by decide) rfl (fun ls hl => ?_)
          rw [show (nI k9 + (1) : Int32) = nI (k9 + 1) from nI_1 (k9)] at hl
          refine lv_goto Bx.1 Bx.2.1 d_Rd_readAlternatives_69 rfl ?_
          have hal3 := alt_step hal (by omega) hLK hlka (by omega) hcl rds179 (by omega) (by omega) (by rw [eg140, eg1]; exact go_sl h47) her206 hsr207
          exact ih107 mem199 (ax162) (ux163) (Rx164) (Ex165) (Sx166) (Ax167) ((va_up Bx_168 233 (upd (Bx_168 233) la (nI E1)))) (nx169) (tox170) (E1) (k9 + 1) _ _ _ (by have := hmeas108; omega) (by rw [← eg183]; exact hRX205) (⟨by omega, by omega, by omega, by omega, by omega⟩) (hal3) (hz104.trans htk176 (by omega)) (hnb180) (hrk204) hP hD hS (lv_sub hl [0, 1, 2, 3, 4] rfl)
  exact loop99 _ mem79 (ax42) (ux43) (Rx44) (Ex45) (Sx46) (Ax47) ((va_up Bx_48 232 (upd (Bx_48 232) Ec (nI (Ec + 1))))) (nx49) (tox50) (Ec + 1) (0) _ _ _ (Nat.lt_succ_self _) (by rw [← eg63]; exact hRX85) (⟨by omega, by omega, by omega, by omega, by omega⟩) (hal0) (htk56) (hnb60) (hrk84) hP hD hS (lv_sub hl [0, 1, 2, 3, 4] rfl)
set_option maxHeartbeats 4000000 in
set_option maxRecDepth 100000 in
theorem m_Rd_readBracket_1Y (l : Launch) {D : va_G} {cy : Nat → ClassId} {sz n : Nat} {ad : Nat → Nat} {mem : Nat → va_E} {Z a R Ec lim : Nat} {f T : Nat → Int32} {to : Nat → Int32} {nm : Nat → Int64} {m0 : Nat → va_E} {u S : Nat} {A Bw : Ro} {what oe en : Int32} (hlt : l.stackTraces = false) (hn : 224 ≤ n) (hT : TX cy ad Z f m0) (hf : ∀ k, k < Z → f k = T k) (hRX : RX cy ad lim a R Ec to nm m0 mem) (haB : a ≤ 300) (hER : ER ad R Ec Bw mem) (hSR : SR cy ad S Bw mem) (hSa : S ≤ a) (haZ : a < Z) (hwe : (what = 1 ∧ en = 41) ∨ (what = 2 ∧ en = 93)) (hLK : LKa Ec A) : NXr l D cy sz n ad y_Rd_readBracket c_Rd_readBracket 4 (some (.object "AbnfChart$Element")) ({ frames := 44, cells := 1, slots := 6, locals := 1070 } : Room) mem [.ref (ad 222), .int (1), .int (en)] (fun r mem' => ∃ (la a1 u1 R1 E1 S1 : Nat) (A9 B9 : Ro) (nm1 : Nat → Int64) (to1 : Nat → Int32), r = ad (20 + 2 * Ec) ∧ Ec + 1 < E1 ∧ R ≤ R1 ∧ a + 1 < a1 ∧ gapF T Z a1 + 1 ≤ Z ∧ TOK R R1 to to1 ∧ (∀ i9, i9 < R → mem' (7 + i9) = mem (7 + i9)) ∧ RX cy ad lim (gapF T Z a1 + 1) R1 E1 to1 nm1 m0 mem' ∧ ALI cy ad T Z 2 (seqS T Z (gapF T Z (a + 1)) u R (Ec + 1) 2 (entA A 2 Ec what oe) nm) Ec R Ec S u (entA A 2 Ec what oe) Bw la a1 u1 R1 E1 S1 A9 B9 nm1 mem' ∧ hereF Z T (gapF T Z a1) = en ∧ entS T Z (a + 1) u R Ec 2 A nm what oe = some (gapF T Z (a + 1), u, R, Ec + 1, 2, (entA A 2 Ec what oe), nm, true)) (fun X mem' => ((X = cIA ∨ X = cIS) ∧ ∃ rc' ec' : Nat, RS cy ad lim rc' ec' m0 mem') ∧ (Fai T Z (entS T Z (a + 1) u R Ec 2 A nm what oe))) := by
  refine vx_ofW (cc := c_Rd_readBracket) (maxL := 4) (ret := (some (.object "AbnfChart$Element"))) (by decide) rfl ?_
  intro p e s m args below meth c s₁ B hml hno hv
  obtain ⟨rfl, E, hP, hD⟩ := hv
  have hx := B.exec
  have hb := B.bytes
  have hr := B.returns
  have hlocks := B.notSynchronized
  have Bx : MB p s m [.ref (ad 222), .int (1), .int (en)].toArray c c_Rd_readBracket "AbnfChart$Reader" D cy := ⟨hx, hb, tb_all (atoms_spec B.pre) E.2.1, findClass_of_methodNamed B.named, E.1⟩
  have hS : va_S (Az sz) s.heap s.heap [] := va_S.rf
  have hl := lv_entry ([.ref (ad 222), .int (1), .int (en)]) (n := 4) (Nat.le_of_ble_eq_true rfl)
  rw [lg_entry_eq]
  generalize (lg_sl ([.ref (ad 222), .int (1), .int (en)]) ++ List.replicate (4 - (lg_sl ([.ref (ad 222), .int (1), .int (en)])).length) Slot.unset).toArray = ls at hl ⊢
  have hl : lv_has ls 4 [(0, .ref (ad 222)), (1, .int (1)), (2, .int (en))] := hl
  have hZ9 := hT.2.1
  have hbd9 := hRX.1.1.1
  have hfr0 : ∀ i, 7 ≤ i ∧ i < 222 → mem i = mem i := fun _ _ => rfl
  have hrk0 : ∀ i9, i9 < R → mem (7 + i9) = mem (7 + i9) := fun _ _ => rfl
  obtain ⟨ft1, h9_2⟩ := hRX.2.1
  have h1_3 : mem 1 = .inr (0, [.ref (ad 2), .int (nI Z)]) := (hRX.1.2.2 1 (by omega)).trans hT.1
  have h2_4 : mem 2 = .inl (cy 0, 240, .inl f) := (hRX.1.2.2 2 (by omega)).trans hT.2.2
  have h5_5 := hRX.1.1.2.1
  have hbd11 := hRX.1.1.1
  obtain ⟨S6, g7, hS_8, h220_9, h221_10⟩ := hRX.1.1.2.2.2.2.2.2
  refine lv_aload_n Bx.1 Bx.2.1 d_Rd_readBracket_0 rfl (lv_at hl 0 rfl) ?_
  refine lv_iload_n Bx.1 Bx.2.1 d_Rd_readBracket_1 rfl (lv_at hl 1 rfl) ?_
  refine lv_bipush (v := 6) Bx.1 Bx.2.1 d_Rd_readBracket_2 (by decide) ?_
  refine lv_icmp_ge Bx.1 Bx.2.1 d_Rd_readBracket_4 rfl (fun hb12 => ?_) (fun hb12 => ?_)
  · exact absurd hb12 (by decide)
  · refine lv_iconst (v := 1) Bx.1 Bx.2.1 d_Rd_readBracket_7 (by decide) ?_
    refine lv_goto Bx.1 Bx.2.1 d_Rd_readBracket_8 rfl ?_
    refine lv_aload_n Bx.1 Bx.2.1 d_Rd_readBracket_12 rfl (lv_at hl 0 rfl) ?_
    refine f_get Bx hP (by omega) h9_2 rfl inRd 2 (by decide) kw_146 rfl rfl d_Rd_readBracket_13 ?_
    refine f_xVv (na := 2) (As := [.int (1), .int (nI a)]) (rest := []) Bx hml E hP hD hS (by omega) h9_2 rfl (m_Rd_needRoomX l hlt hn hT hf hRX (by omega)) kw_383 kw_385 sel_Rd_needRoom kw_6 kw_386 (by decide +kernel) ⟨rfl, rfl⟩ ⟨Nat.le_of_ble_eq_true rfl, Nat.le_of_ble_eq_true rfl⟩ rfl hl.1 (Nat.le_of_ble_eq_true rfl) d_Rd_readBracket_16 ⟨Nat.le_of_ble_eq_true rfl, Nat.le_of_ble_eq_true rfl⟩ (fun X ce q9 memx H locs hx9 hP hS g1 g2 g3 => f_out hlocks hno hP hS g1 g2 g3 ⟨Nat.le_of_ble_eq_true rfl, Nat.le_of_ble_eq_true rfl⟩ ⟨hx9.1, absurd hx9.2 (by decide)⟩) (fun mem14 H locs hq hP hS => ?_)
    have hD : va_D (Az sz) (fw n ad mem14) := fw_D hD
    obtain ⟨hqe, hg15⟩ := hq
    rw [hqe] at hP hD
    refine lv_aload_n Bx.1 Bx.2.1 d_Rd_readBracket_19 rfl (lv_at hl 0 rfl) ?_
    refine lv_dup Bx.1 Bx.2.1 d_Rd_readBracket_20 rfl ?_
    refine f_get Bx hP (by omega) h9_2 rfl inRd 2 (by decide) kw_146 rfl rfl d_Rd_readBracket_21 ?_
    refine lv_iconst (v := 1) Bx.1 Bx.2.1 d_Rd_readBracket_24 (by decide) ?_
    refine lv_iadd Bx.1 Bx.2.1 d_Rd_readBracket_25 ?_
    rw [show nI a + 1 = nI (a + 1) from nI_add (a) (1)]
    refine f_put Bx hP hD hS (by omega) h9_2 rfl inRd tyRd okRd nmRd 2 (by decide) kw_146 rfl rfl rfl rfl (Nat.le_of_ble_eq_true rfl) d_Rd_readBracket_26 (fun H locs hP hS => ?_)
    obtain ⟨mem16, e_mem16⟩ : ∃ z, z = va_up mem (222) (.inr (4, [.ref (ad 1), .ref (ad 5), .int (nI (a + 1)), .int (ft1)])) := ⟨_, rfl⟩
    have hP : va_P D vcl (fw n ad mem16) H := by rw [e_mem16]; exact hP
    have hD : va_D (Az sz) (fw n ad mem16) := fw_D hD
    have h_mem16 : mem16 (222) = .inr (4, [.ref (ad 1), .ref (ad 5), .int (nI (a + 1)), .int (ft1)]) := by rw [e_mem16, va_up_self]
    have hh17 := (va_up_ne mem (.inr (4, [.ref (ad 1), .ref (ad 5), .int (nI (a + 1)), .int (ft1)])) (show (1 : Nat) ≠ 222 by first | decide | assumption | omega)).trans h1_3
    rw [← e_mem16] at hh17
    have hh18 := (va_up_ne mem (.inr (4, [.ref (ad 1), .ref (ad 5), .int (nI (a + 1)), .int (ft1)])) (show (5 : Nat) ≠ 222 by first | decide | assumption | omega)).trans h5_5
    rw [← e_mem16] at hh18
    have hh19 := (va_up_ne mem (.inr (4, [.ref (ad 1), .ref (ad 5), .int (nI (a + 1)), .int (ft1)])) (show (220 : Nat) ≠ 222 by first | decide | assumption | omega)).trans h220_9
    rw [← e_mem16] at hh19
    have hfr20 : ∀ i, 7 ≤ i ∧ i < 222 → mem16 i = mem i := fun i q => (show mem16 i = mem i by rw [e_mem16]; exact va_up_ne _ _ (by omega)).trans (hfr0 i q)
    have hrk21 : ∀ i9, i9 < R → mem16 (7 + i9) = mem (7 + i9) := fun i9 q9 => (show mem16 (7 + i9) = mem (7 + i9) by rw [e_mem16]; exact va_up_ne _ _ (by omega)).trans (hrk0 i9 q9)
    have hRX22 : RX cy ad lim (a + 1) (R) (Ec) (to) (nm) m0 mem16 := by rw [e_mem16]; exact hRX.at
    refine lv_aload_n Bx.1 Bx.2.1 d_Rd_readBracket_29 rfl (lv_at hl 0 rfl) ?_
    refine f_callVi (na := 0) (As := []) (rest := []) Bx hml E hP hD hS (by omega) h_mem16 rfl (m_Rd_readGapY l hn hT hf hRX22 (by omega) (by omega)) kw_397 kw_399 sel_Rd_readGap kw_6 kw_400 (by decide +kernel) ⟨rfl, rfl⟩ ⟨Nat.le_of_ble_eq_true rfl, Nat.le_of_ble_eq_true rfl⟩ rfl hl.1 (Nat.le_of_ble_eq_true rfl) d_Rd_readBracket_30 ⟨Nat.le_of_ble_eq_true rfl, Nat.le_of_ble_eq_true rfl⟩ (fun r23 mem24 H locs hq hP hS => ?_)
    have hD : va_D (Az sz) (fw n ad mem24) := fw_D hD
    obtain ⟨g25, eg26⟩ : ∃ z, z = gapF T Z (a + 1) := ⟨_, rfl⟩
    rw [← eg26] at hq
    obtain ⟨hRX27, hgc28, hfa29⟩ := hq
    have hg30 : a + 1 ≤ g25 := by rw [eg26]; exact gapF_ge T Z _
    have hg31 : g25 ≤ Z := by rw [eg26]; exact gapF_le T (by omega)
    have hrk32 : ∀ i9, i9 < R → mem24 (7 + i9) = mem (7 + i9) := fun i9 q9 => (hfa29 (7 + i9) (by omega)).trans (hrk21 i9 q9)
    have hfr33 : ∀ i, 7 ≤ i ∧ i < 222 → mem24 i = mem i := fun i q => (hfa29 i (by omega)).trans (hfr20 i q)
    obtain ⟨ft34, h9_35⟩ := hRX27.2.1
    have h1_36 : mem24 1 = .inr (0, [.ref (ad 2), .int (nI Z)]) := (hRX27.1.2.2 1 (by omega)).trans hT.1
    have h2_37 : mem24 2 = .inl (cy 0, 240, .inl f) := (hRX27.1.2.2 2 (by omega)).trans hT.2.2
    have h5_38 := hRX27.1.1.2.1
    have hbd44 := hRX27.1.1.1
    obtain ⟨S39, g40, hS_41, h220_42, h221_43⟩ := hRX27.1.1.2.2.2.2.2.2
    refine lv_pop Bx.1 Bx.2.1 d_Rd_readBracket_33 rfl ?_
    refine lv_aload_n Bx.1 Bx.2.1 d_Rd_readBracket_34 rfl (lv_at hl 0 rfl) ?_
    refine lv_iload_n Bx.1 Bx.2.1 d_Rd_readBracket_35 rfl (lv_at hl 1 rfl) ?_
    refine lv_iconst (v := 1) Bx.1 Bx.2.1 d_Rd_readBracket_36 (by decide) ?_
    refine lv_iadd Bx.1 Bx.2.1 d_Rd_readBracket_37 ?_
    rw [show (1 + 1 : Int32) = 2 from rfl]
    have her45 : ER ad R Ec Bw mem24 := hER.fr (Nat.le_refl _) (fun i9 hi9 => hfr33 (20 + 2 * i9) (by omega))
    have hsr46 : SR cy ad S Bw mem24 := ⟨(hfr33 220 (by omega)).trans hSR.1, (hfr33 221 (by omega)).trans hSR.2⟩
    refine f_xVr (na := 1) (As := [.int (2)]) (rest := []) Bx hml E hP hD hS (by omega) h9_35 rfl (m_Rd_readAlternatives_2Y l hlt hn hT hf hRX27 (by omega) (u := u) (A := (entA A 2 Ec what oe)) her45 hsr46 (by omega) (by omega) (ent_lka hLK) (cq := Ec) entA_f.2.2.2.2.2.2.2.1 (Nat.le_refl _) (by rw [entA_f.2.2.2.2.2.2.1, upd_self])) kw_405 kw_407 sel_Rd_readAlternatives kw_6 kw_408 (by decide +kernel) ⟨rfl, rfl⟩ ⟨Nat.le_of_ble_eq_true rfl, Nat.le_of_ble_eq_true rfl⟩ rfl hl.1 (Nat.le_of_ble_eq_true rfl) d_Rd_readBracket_38 ⟨Nat.le_of_ble_eq_true rfl, Nat.le_of_ble_eq_true rfl⟩ (fun X ce q9 memx H locs hx9 hP hS g1 g2 g3 => f_out hlocks hno hP hS g1 g2 g3 ⟨Nat.le_of_ble_eq_true rfl, Nat.le_of_ble_eq_true rfl⟩ ⟨hx9.1, hx9.2.elim (fun z => Or.inl (entS_no (Or.inl (by rw [← eg26]; exact z)))) (fun z => z.elim (fun z => Or.inl (entS_no (Or.inr z))) (fun z => Fai.br0 (by rw [ent_ok (by rw [← eg26]; exact z.1) z.2.1, ← eg26]) z.2.2))⟩) (fun r47 mem48 H locs hq hP hS => ?_)
    have hD : va_D (Az sz) (fw n ad mem48) := fw_D hD
    obtain ⟨la49, ax50, ux51, Rx52, Ex53, Sx54, Ax55, Bx_56, nx57, tox58, hr959, h160, h261, h362, h463, htk64, hrk65, hRX66, ali67, hbg68, hE69, h4770, hnb71⟩ := hq
    subst hr959
    have hrk72 : ∀ i9, i9 < R → mem48 (7 + i9) = mem (7 + i9) := fun i9 q9 => (hrk65 i9 (by omega)).trans (hrk32 i9 q9)
    obtain ⟨g73, eg74⟩ : ∃ z, z = gapF T Z ax50 := ⟨_, rfl⟩
    have hg75 : ax50 ≤ g73 := by rw [eg74]; exact gapF_ge T Z _
    have hg76 : g73 ≤ Z := by rw [eg74]; exact gapF_le T (by omega)
    rw [← eg74] at hRX66
    obtain ⟨ft77, h9_78⟩ := hRX66.2.1
    have h1_79 : mem48 1 = .inr (0, [.ref (ad 2), .int (nI Z)]) := (hRX66.1.2.2 1 (by omega)).trans hT.1
    have h2_80 : mem48 2 = .inl (cy 0, 240, .inl f) := (hRX66.1.2.2 2 (by omega)).trans hT.2.2
    have h5_81 := hRX66.1.1.2.1
    have hbd87 := hRX66.1.1.1
    obtain ⟨S82, g83, hS_84, h220_85, h221_86⟩ := hRX66.1.1.2.2.2.2.2.2
    have hbd88 := hRX66.1.1.1
    have hent : entS T Z (a + 1) u R Ec 2 A nm what oe = some (g25, u, R, Ec + 1, 2, (entA A 2 Ec what oe), nm, true) := by rw [ent_ok (by rw [← eg26]; exact hbg68) hE69, ← eg26]
    have hA5 : Ax55 235 2 = what := by
      obtain ⟨c1, ho, hg, hk, hs⟩ := ali67.1
      rw [hk 2 (by omega), entA_5, upd_self]
    refine lv_astore_n (lv' := [(3, .ref (ad (20 + 2 * Ec))), (0, .ref (ad 222)), (1, .int (1)), (2, .int (en))]) Bx.1 Bx.2.1 d_Rd_readBracket_41 rfl hl (by decide) rfl (fun ls hl => ?_)
    refine lv_aload_n Bx.1 Bx.2.1 d_Rd_readBracket_42 rfl (lv_at hl 1 rfl) ?_
    refine lv_aload_n Bx.1 Bx.2.1 d_Rd_readBracket_43 rfl (lv_at hl 1 rfl) ?_
    refine f_callVi (na := 0) (As := []) (rest := [.ref (ad 222)]) Bx hml E hP hD hS (by omega) h9_78 rfl (m_Rd_peekX l hn hT hf hRX66 (by omega)) kw_353 kw_355 sel_Rd_peek kw_6 kw_356 (by decide +kernel) ⟨rfl, rfl⟩ ⟨Nat.le_of_ble_eq_true rfl, Nat.le_of_ble_eq_true rfl⟩ rfl hl.1 (Nat.le_of_ble_eq_true rfl) d_Rd_readBracket_44 ⟨Nat.le_of_ble_eq_true rfl, Nat.le_of_ble_eq_true rfl⟩ (fun r90 mem91 H locs hq hP hS => ?_)
    have hD : va_D (Az sz) (fw n ad mem91) := fw_D hD
    obtain ⟨hqe, hpk89⟩ := hq
    rw [hqe] at hP hD
    subst hpk89
    refine lv_iload_n Bx.1 Bx.2.1 d_Rd_readBracket_47 rfl (lv_at hl 3 rfl) ?_
    refine lv_icmp_ne Bx.1 Bx.2.1 d_Rd_readBracket_48 rfl (fun hb93 => ?_) (fun hb93 => ?_)
    · refine lv_iconst (v := 0) Bx.1 Bx.2.1 d_Rd_readBracket_55 (by decide) ?_
      refine lv_aload_n Bx.1 Bx.2.1 d_Rd_readBracket_56 rfl (lv_at hl 1 rfl) ?_
      refine f_get Bx hP (by omega) h9_78 rfl inRd 2 (by decide) kw_146 rfl rfl d_Rd_readBracket_57 ?_
      refine f_xVv (na := 2) (As := [.int (0), .int (nI g73)]) (rest := []) Bx hml E hP hD hS (by omega) h9_78 rfl (m_Rd_needReadableX l hlt hn hT hf hRX66 (by omega)) kw_360 kw_362 sel_Rd_needReadable kw_6 kw_363 (by decide +kernel) ⟨rfl, rfl⟩ ⟨Nat.le_of_ble_eq_true rfl, Nat.le_of_ble_eq_true rfl⟩ rfl hl.1 (Nat.le_of_ble_eq_true rfl) d_Rd_readBracket_60 ⟨Nat.le_of_ble_eq_true rfl, Nat.le_of_ble_eq_true rfl⟩ (fun X ce q9 memx H locs hx9 hP hS g1 g2 g3 => f_out hlocks hno hP hS g1 g2 g3 ⟨Nat.le_of_ble_eq_true rfl, Nat.le_of_ble_eq_true rfl⟩ ⟨hx9.1, Fai.br1 hent ali67.1.suc (br_no hwe hA5 (by rw [← eg74]; exact hb93) h4770 hnb71)⟩) (fun mem95 H locs hq hP hS => ?_)
      have hD : va_D (Az sz) (fw n ad mem95) := fw_D hD
      obtain ⟨hqe, hg96⟩ := hq
      rw [hqe] at hP hD
      exact absurd rfl hg96
    · refine lv_iconst (v := 1) Bx.1 Bx.2.1 d_Rd_readBracket_51 (by decide) ?_
      refine lv_goto Bx.1 Bx.2.1 d_Rd_readBracket_52 rfl ?_
      refine lv_aload_n Bx.1 Bx.2.1 d_Rd_readBracket_56 rfl (lv_at hl 1 rfl) ?_
      refine f_get Bx hP (by omega) h9_78 rfl inRd 2 (by decide) kw_146 rfl rfl d_Rd_readBracket_57 ?_
      refine f_xVv (na := 2) (As := [.int (1), .int (nI g73)]) (rest := []) Bx hml E hP hD hS (by omega) h9_78 rfl (m_Rd_needReadableX l hlt hn hT hf hRX66 (by omega)) kw_360 kw_362 sel_Rd_needReadable kw_6 kw_363 (by decide +kernel) ⟨rfl, rfl⟩ ⟨Nat.le_of_ble_eq_true rfl, Nat.le_of_ble_eq_true rfl⟩ rfl hl.1 (Nat.le_of_ble_eq_true rfl) d_Rd_readBracket_60 ⟨Nat.le_of_ble_eq_true rfl, Nat.le_of_ble_eq_true rfl⟩ (fun X ce q9 memx H locs hx9 hP hS g1 g2 g3 => f_out hlocks hno hP hS g1 g2 g3 ⟨Nat.le_of_ble_eq_true rfl, Nat.le_of_ble_eq_true rfl⟩ ⟨hx9.1, absurd hx9.2 (by decide)⟩) (fun mem98 H locs hq hP hS => ?_)
      have hD : va_D (Az sz) (fw n ad mem98) := fw_D hD
      obtain ⟨hqe, hg99⟩ := hq
      rw [hqe] at hP hD
      refine lv_aload_n Bx.1 Bx.2.1 d_Rd_readBracket_63 rfl (lv_at hl 1 rfl) ?_
      refine lv_dup Bx.1 Bx.2.1 d_Rd_readBracket_64 rfl ?_
      refine f_get Bx hP (by omega) h9_78 rfl inRd 2 (by decide) kw_146 rfl rfl d_Rd_readBracket_65 ?_
      refine lv_iconst (v := 1) Bx.1 Bx.2.1 d_Rd_readBracket_68 (by decide) ?_
      refine lv_iadd Bx.1 Bx.2.1 d_Rd_readBracket_69 ?_
      rw [show nI g73 + 1 = nI (g73 + 1) from nI_add (g73) (1)]
      refine f_put Bx hP hD hS (by omega) h9_78 rfl inRd tyRd okRd nmRd 2 (by decide) kw_146 rfl rfl rfl rfl (Nat.le_of_ble_eq_true rfl) d_Rd_readBracket_70 (fun H locs hP hS => ?_)
      obtain ⟨mem100, e_mem100⟩ : ∃ z, z = va_up mem48 (222) (.inr (4, [.ref (ad 1), .ref (ad 5), .int (nI (g73 + 1)), .int (ft77)])) := ⟨_, rfl⟩
      have hP : va_P D vcl (fw n ad mem100) H := by rw [e_mem100]; exact hP
      have hD : va_D (Az sz) (fw n ad mem100) := fw_D hD
      have h_mem100 : mem100 (222) = .inr (4, [.ref (ad 1), .ref (ad 5), .int (nI (g73 + 1)), .int (ft77)]) := by rw [e_mem100, va_up_self]
      have hh101 := (va_up_ne mem48 (.inr (4, [.ref (ad 1), .ref (ad 5), .int (nI (g73 + 1)), .int (ft77)])) (show (1 : Nat) ≠ 222 by first | decide | assumption | omega)).trans h1_79
      rw [← e_mem100] at hh101
      have hh102 := (va_up_ne mem48 (.inr (4, [.ref (ad 1), .ref (ad 5), .int (nI (g73 + 1)), .int (ft77)])) (show (5 : Nat) ≠ 222 by first | decide | assumption | omega)).trans h5_81
      rw [← e_mem100] at hh102
      have hh103 := (va_up_ne mem48 (.inr (4, [.ref (ad 1), .ref (ad 5), .int (nI (g73 + 1)), .int (ft77)])) (show (220 : Nat) ≠ 222 by first | decide | assumption | omega)).trans h220_85
      rw [← e_mem100] at hh103
      have hrk104 : ∀ i9, i9 < R → mem100 (7 + i9) = mem (7 + i9) := fun i9 q9 => (show mem100 (7 + i9) = mem48 (7 + i9) by rw [e_mem100]; exact va_up_ne _ _ (by omega)).trans (hrk72 i9 q9)
      have her105 : ER ad (Rx52) (Ex53) (Bx_56) mem100 := ali67.2.1.fr (Nat.le_refl _) (fun i9 hi9 => by rw [e_mem100]; exact va_up_ne _ _ (by omega))
      have hsr106 : SR cy ad (Sx54) (Bx_56) mem100 := ⟨(show mem100 220 = _ from by rw [e_mem100]; exact va_up_ne _ _ (by omega)).trans ali67.2.2.1.1, (show mem100 221 = _ from by rw [e_mem100]; exact va_up_ne _ _ (by omega)).trans ali67.2.2.1.2⟩
      have hRX107 : RX cy ad lim (g73 + 1) (Rx52) (Ex53) (tox58) (nx57) m0 mem100 := by rw [e_mem100]; exact hRX66.at
      refine lv_aload_n Bx.1 Bx.2.1 d_Rd_readBracket_73 rfl (lv_at hl 0 rfl) ?_
      have hal9 : ALI cy ad T Z 2 (seqS T Z (gapF T Z (a + 1)) u R (Ec + 1) 2 (entA A 2 Ec what oe) nm) Ec R Ec S u (entA A 2 Ec what oe) Bw la49 ax50 ux51 Rx52 Ex53 Sx54 Ax55 Bx_56 nx57 mem100 := by rw [← eg26]; exact ⟨ali67.1, her105, hsr106, ali67.2.2.2⟩
      exact x_aret hx hb hlocks hr (⟨la49, ax50, ux51, Rx52, Ex53, Sx54, Ax55, Bx_56, nx57, tox58, rfl, by omega, by omega, by omega, by rw [← eg74]; have := br_lt hwe hb93; omega, htk64, hrk104, by rw [← eg74]; exact hRX107, hal9, by rw [← eg74]; exact hb93, by rw [← eg26]; exact hent⟩) hP hS d_Rd_readBracket_74
set_option maxHeartbeats 4000000 in
set_option maxRecDepth 100000 in
theorem m_Rd_readOption_1Y (l : Launch) {D : va_G} {cy : Nat → ClassId} {sz n : Nat} {ad : Nat → Nat} {mem : Nat → va_E} {Z a R Ec lim : Nat} {f T : Nat → Int32} {to : Nat → Int32} {nm : Nat → Int64} {m0 : Nat → va_E} {u S : Nat} {A Bw : Ro} (hlt : l.stackTraces = false) (hn : 224 ≤ n) (hT : TX cy ad Z f m0) (hf : ∀ k, k < Z → f k = T k) (hRX : RX cy ad lim a R Ec to nm m0 mem) (haB : a ≤ 300) (hER : ER ad R Ec Bw mem) (hSR : SR cy ad S Bw mem) (hSa : S ≤ a) (haZ : a < Z) (hLK : LKa Ec A) (hF : FRM A 1 Ec) (c91 : hereF Z T a = 91) : NXr l D cy sz n ad y_Rd_readOption c_Rd_readOption 3 (some (.object "AbnfChart$Element")) ({ frames := 45, cells := 1, slots := 6, locals := 1093 } : Room) mem [.ref (ad 222), .int (1)] (fun r mem' => ∃ (k' a' u' R' E' S' : Nat) (A' Bw' : Ro) (nm' : Nat → Int64) (to' : Nat → Int32), r = ad (20 + 2 * k') ∧ Ec ≤ k' ∧ k' < E' ∧ R ≤ R' ∧ a < a' ∧ a' ≤ Z ∧ TOK R R' to to' ∧ (∀ i9, i9 < R → mem' (7 + i9) = mem (7 + i9)) ∧ RX cy ad lim a' R' E' to' nm' m0 mem' ∧ RDS cy ad T Z 1 (singS T Z a u R Ec 1 A nm) (PSf A 1) R Ec S u A Bw k' a' u' R' E' S' A' Bw' nm' mem' ∧ A' 238 1 = A 238 1) (fun X mem' => ((X = cIA ∨ X = cIS) ∧ ∃ rc' ec' : Nat, RS cy ad lim rc' ec' m0 mem') ∧ (Fai T Z (singS T Z a u R Ec 1 A nm))) := by
  refine vx_ofW (cc := c_Rd_readOption) (maxL := 3) (ret := (some (.object "AbnfChart$Element"))) (by decide) rfl ?_
  intro p e s m args below meth c s₁ B hml hno hv
  obtain ⟨rfl, E, hP, hD⟩ := hv
  have hx := B.exec
  have hb := B.bytes
  have hr := B.returns
  have hlocks := B.notSynchronized
  have Bx : MB p s m [.ref (ad 222), .int (1)].toArray c c_Rd_readOption "AbnfChart$Reader" D cy := ⟨hx, hb, tb_all (atoms_spec B.pre) E.2.1, findClass_of_methodNamed B.named, E.1⟩
  have hS : va_S (Az sz) s.heap s.heap [] := va_S.rf
  have hl := lv_entry ([.ref (ad 222), .int (1)]) (n := 3) (Nat.le_of_ble_eq_true rfl)
  rw [lg_entry_eq]
  generalize (lg_sl ([.ref (ad 222), .int (1)]) ++ List.replicate (3 - (lg_sl ([.ref (ad 222), .int (1)])).length) Slot.unset).toArray = ls at hl ⊢
  have hl : lv_has ls 3 [(0, .ref (ad 222)), (1, .int (1))] := hl
  have hZ9 := hT.2.1
  have hbd9 := hRX.1.1.1
  have hfr0 : ∀ i, 7 ≤ i ∧ i < 222 ∧ i ≠ 20 + 2 * Ec → mem i = mem i := fun _ _ => rfl
  have hrk0 : ∀ i9, i9 < R → mem (7 + i9) = mem (7 + i9) := fun _ _ => rfl
  obtain ⟨ft1, h9_2⟩ := hRX.2.1
  have h1_3 : mem 1 = .inr (0, [.ref (ad 2), .int (nI Z)]) := (hRX.1.2.2 1 (by omega)).trans hT.1
  have h2_4 : mem 2 = .inl (cy 0, 240, .inl f) := (hRX.1.2.2 2 (by omega)).trans hT.2.2
  have h5_5 := hRX.1.1.2.1
  have hbd11 := hRX.1.1.1
  obtain ⟨S6, g7, hS_8, h220_9, h221_10⟩ := hRX.1.1.2.2.2.2.2.2
  refine lv_aload_n Bx.1 Bx.2.1 d_Rd_readOption_0 rfl (lv_at hl 0 rfl) ?_
  refine lv_iconst (v := 3) Bx.1 Bx.2.1 d_Rd_readOption_1 (by decide) ?_
  refine lv_aload_n Bx.1 Bx.2.1 d_Rd_readOption_2 rfl (lv_at hl 0 rfl) ?_
  refine f_get Bx hP (by omega) h9_2 rfl inRd 2 (by decide) kw_146 rfl rfl d_Rd_readOption_3 ?_
  refine f_xVr (na := 2) (As := [.int (3), .int (nI a)]) (rest := []) Bx hml E hP hD hS (by omega) h9_2 rfl (m_Rd_addElementY l hlt hn hT hf hRX (by omega)) kw_419 kw_421 sel_Rd_addElement kw_6 kw_422 (by decide +kernel) ⟨rfl, rfl⟩ ⟨Nat.le_of_ble_eq_true rfl, Nat.le_of_ble_eq_true rfl⟩ rfl hl.1 (Nat.le_of_ble_eq_true rfl) d_Rd_readOption_6 ⟨Nat.le_of_ble_eq_true rfl, Nat.le_of_ble_eq_true rfl⟩ (fun X ce q9 memx H locs hx9 hP hS g1 g2 g3 => f_out hlocks hno hP hS g1 g2 g3 ⟨Nat.le_of_ble_eq_true rfl, Nat.le_of_ble_eq_true rfl⟩ ⟨hx9.1, Or.inl (sing_o0 (l91 c91).1 c91 (Or.inr hx9.2))⟩) (fun r12 mem13 H locs hq hP hS => ?_)
  have hD : va_D (Az sz) (fw n ad mem13) := fw_D hD
  obtain ⟨hr914, hec15, hRX16, hcl17, hfa18⟩ := hq
  subst hr914
  have hrk19 : ∀ i9, i9 < R → mem13 (7 + i9) = mem (7 + i9) := fun i9 q9 => (hfa18 (7 + i9) (by omega)).trans (hrk0 i9 q9)
  have hfr20 : ∀ i, 7 ≤ i ∧ i < 222 ∧ i ≠ 20 + 2 * Ec → mem13 i = mem i := fun i q => (hfa18 i (by omega)).trans (hfr0 i q)
  obtain ⟨ft21, h9_22⟩ := hRX16.2.1
  have h1_23 : mem13 1 = .inr (0, [.ref (ad 2), .int (nI Z)]) := (hRX16.1.2.2 1 (by omega)).trans hT.1
  have h2_24 : mem13 2 = .inl (cy 0, 240, .inl f) := (hRX16.1.2.2 2 (by omega)).trans hT.2.2
  have h5_25 := hRX16.1.1.2.1
  have hbd31 := hRX16.1.1.1
  obtain ⟨S26, g27, hS_28, h220_29, h221_30⟩ := hRX16.1.1.2.2.2.2.2.2
  obtain ⟨ft32, h9_33⟩ := hRX16.2.1
  have h1_34 : mem13 1 = .inr (0, [.ref (ad 2), .int (nI Z)]) := (hRX16.1.2.2 1 (by omega)).trans hT.1
  have h2_35 : mem13 2 = .inl (cy 0, 240, .inl f) := (hRX16.1.2.2 2 (by omega)).trans hT.2.2
  have h5_36 := hRX16.1.1.2.1
  have hbd42 := hRX16.1.1.1
  obtain ⟨S37, g38, hS_39, h220_40, h221_41⟩ := hRX16.1.1.2.2.2.2.2.2
  refine lv_astore_n (lv' := [(2, .ref (ad (20 + 2 * Ec))), (0, .ref (ad 222)), (1, .int (1))]) Bx.1 Bx.2.1 d_Rd_readOption_9 rfl hl (by decide) rfl (fun ls hl => ?_)
  refine lv_aload_n Bx.1 Bx.2.1 d_Rd_readOption_10 rfl (lv_at hl 0 rfl) ?_
  refine lv_aload_n Bx.1 Bx.2.1 d_Rd_readOption_11 rfl (lv_at hl 1 rfl) ?_
  refine lv_iload_n Bx.1 Bx.2.1 d_Rd_readOption_12 rfl (lv_at hl 2 rfl) ?_
  refine lv_bipush (v := 93) Bx.1 Bx.2.1 d_Rd_readOption_13 (by decide) ?_
  have her43 : ER ad R (Ec + 1) (bwN Bw Ec 3 (0) (0) (-1) (-1) (-1) (Bw 234)) mem13 := hER.new (Nat.le_refl _) (by rw [vR_m]; exact hcl17) (Or.inl rfl) (fun i9 hi9 => hfr20 (20 + 2 * i9) (by omega))
  have hsr44 : SR cy ad S (bwN Bw Ec 3 (0) (0) (-1) (-1) (-1) (Bw 234)) mem13 := ⟨(hfr20 220 (by omega)).trans hSR.1, (hfr20 221 (by omega)).trans hSR.2⟩
  have hE9 := hec15
  refine f_xVr (na := 2) (As := [.int (1), .int (93)]) (rest := [.ref (ad (20 + 2 * Ec))]) Bx hml E hP hD hS (by omega) h9_33 rfl (m_Rd_readBracket_1Y l hlt hn hT hf hRX16 (by omega) (u := u) (A := elA A Ec 3) (what := 2) (oe := nI Ec) her43 hsr44 (by omega) (by omega) (Or.inr ⟨rfl, rfl⟩) (elA_lka hLK)) kw_447 kw_449 sel_Rd_readBracket kw_6 kw_450 (by decide +kernel) ⟨rfl, rfl⟩ ⟨Nat.le_of_ble_eq_true rfl, Nat.le_of_ble_eq_true rfl⟩ rfl hl.1 (Nat.le_of_ble_eq_true rfl) d_Rd_readOption_15 ⟨Nat.le_of_ble_eq_true rfl, Nat.le_of_ble_eq_true rfl⟩ (fun X ce q9 memx H locs hx9 hP hS g1 g2 g3 => f_out hlocks hno hP hS g1 g2 g3 ⟨Nat.le_of_ble_eq_true rfl, Nat.le_of_ble_eq_true rfl⟩ ⟨hx9.1, hx9.2.eq (sing_op (l91 c91).1 c91 (by omega) hE9)⟩) (fun r45 mem46 H locs hq hP hS => ?_)
  have hD : va_D (Az sz) (fw n ad mem46) := fw_D hD
  obtain ⟨la47, ax48, ux49, Rx50, Ex51, Sx52, Ax53, Bx_54, nx55, tox56, hr957, h158, h259, h360, h461, htk62, hrk63, hRX64, ali65, hh66, hent67⟩ := hq
  subst hr957
  have hrk68 : ∀ i9, i9 < R → mem46 (7 + i9) = mem (7 + i9) := fun i9 q9 => (hrk63 i9 (by omega)).trans (hrk19 i9 q9)
  obtain ⟨ft69, h9_70⟩ := hRX64.2.1
  have h1_71 : mem46 1 = .inr (0, [.ref (ad 2), .int (nI Z)]) := (hRX64.1.2.2 1 (by omega)).trans hT.1
  have h2_72 : mem46 2 = .inl (cy 0, 240, .inl f) := (hRX64.1.2.2 2 (by omega)).trans hT.2.2
  have h5_73 := hRX64.1.1.2.1
  have hbd79 := hRX64.1.1.1
  obtain ⟨S74, g75, hS_76, h220_77, h221_78⟩ := hRX64.1.1.2.2.2.2.2.2
  have hbd80 := hRX64.1.1.1
  have hce81 := (ali65.2.1 Ec (by omega)).1
  refine f_putN Bx hP hD hS (by omega) hce81 rfl inEl tyEl okEl nmEl 4 (by decide) kw_87 rfl rfl rfl rfl (Nat.le_of_ble_eq_true rfl) d_Rd_readOption_18 (fun H locs hP hS => ?_)
  obtain ⟨mem82, e_mem82⟩ : ∃ z, z = va_up mem46 ((20 + 2 * Ec)) (.inr (2, [.int (Bx_54 228 Ec), .int (Bx_54 229 Ec), .int (Bx_54 230 Ec), vR ad (Bx_54 231 Ec), .ref (ad (20 + 2 * (Ec + 1))), vE ad (Bx_54 233 Ec), .ref (ad (21 + 2 * Ec))])) := ⟨_, rfl⟩
  have hP : va_P D vcl (fw n ad mem82) H := by rw [e_mem82]; exact hP
  have hD : va_D (Az sz) (fw n ad mem82) := fw_D hD
  have h_mem82 : mem82 ((20 + 2 * Ec)) = .inr (2, [.int (Bx_54 228 Ec), .int (Bx_54 229 Ec), .int (Bx_54 230 Ec), vR ad (Bx_54 231 Ec), .ref (ad (20 + 2 * (Ec + 1))), vE ad (Bx_54 233 Ec), .ref (ad (21 + 2 * Ec))]) := by rw [e_mem82, va_up_self]
  have hh83 := (va_up_ne mem46 (.inr (2, [.int (Bx_54 228 Ec), .int (Bx_54 229 Ec), .int (Bx_54 230 Ec), vR ad (Bx_54 231 Ec), .ref (ad (20 + 2 * (Ec + 1))), vE ad (Bx_54 233 Ec), .ref (ad (21 + 2 * Ec))])) (show (222 : Nat) ≠ (20 + 2 * Ec) by first | decide | assumption | omega)).trans h9_70
  rw [← e_mem82] at hh83
  have hh84 := (va_up_ne mem46 (.inr (2, [.int (Bx_54 228 Ec), .int (Bx_54 229 Ec), .int (Bx_54 230 Ec), vR ad (Bx_54 231 Ec), .ref (ad (20 + 2 * (Ec + 1))), vE ad (Bx_54 233 Ec), .ref (ad (21 + 2 * Ec))])) (show (1 : Nat) ≠ (20 + 2 * Ec) by first | decide | assumption | omega)).trans h1_71
  rw [← e_mem82] at hh84
  have hh85 := (va_up_ne mem46 (.inr (2, [.int (Bx_54 228 Ec), .int (Bx_54 229 Ec), .int (Bx_54 230 Ec), vR ad (Bx_54 231 Ec), .ref (ad (20 + 2 * (Ec + 1))), vE ad (Bx_54 233 Ec), .ref (ad (21 + 2 * Ec))])) (show (5 : Nat) ≠ (20 + 2 * Ec) by first | decide | assumption | omega)).trans h5_73
  rw [← e_mem82] at hh85
  have hh86 := (va_up_ne mem46 (.inr (2, [.int (Bx_54 228 Ec), .int (Bx_54 229 Ec), .int (Bx_54 230 Ec), vR ad (Bx_54 231 Ec), .ref (ad (20 + 2 * (Ec + 1))), vE ad (Bx_54 233 Ec), .ref (ad (21 + 2 * Ec))])) (show (220 : Nat) ≠ (20 + 2 * Ec) by first | decide | assumption | omega)).trans h220_77
  rw [← e_mem82] at hh86
  have hrk87 : ∀ i9, i9 < R → mem82 (7 + i9) = mem (7 + i9) := fun i9 q9 => (show mem82 (7 + i9) = mem46 (7 + i9) by rw [e_mem82]; exact va_up_ne _ _ (by omega)).trans (hrk68 i9 q9)
  have hRX88 : RX cy ad lim (gapF T Z ax48 + 1) (Rx50) (Ex51) (tox56) (nx55) m0 mem82 := by rw [e_mem82]; exact hRX64.el (by omega) (hRX64.1.mk (by omega) (hRX64.1.1.upEl (by omega) (fun _ => ⟨(ali65.2.1 Ec (by omega)).2.1.oR ad, Or.inr ⟨(Ec + 1), by omega, by omega, rfl⟩, (ali65.2.1 Ec (by omega)).2.2.2.oE ad (by omega)⟩)))
  have her89 : ER ad (Rx50) (Ex51) (va_up Bx_54 232 (upd (Bx_54 232) Ec (nI (Ec + 1)))) mem82 := ali65.2.1.part (by omega) (by omega) (by omega) h_mem82 (fun i9 q9 hi9 => by rw [e_mem82]; exact va_up_ne _ _ (by omega))
  have hsr90 : SR cy ad (Sx52) (Bx_54) mem82 := ⟨(show mem82 220 = mem46 220 by rw [e_mem82]; exact va_up_ne _ _ (by omega)).trans ali65.2.2.1.1, (show mem82 221 = mem46 221 by rw [e_mem82]; exact va_up_ne _ _ (by omega)).trans ali65.2.2.1.2⟩
  obtain ⟨ft91, h9_92⟩ := hRX88.2.1
  have h1_93 : mem82 1 = .inr (0, [.ref (ad 2), .int (nI Z)]) := (hRX88.1.2.2 1 (by omega)).trans hT.1
  have h2_94 : mem82 2 = .inl (cy 0, 240, .inl f) := (hRX88.1.2.2 2 (by omega)).trans hT.2.2
  have h5_95 := hRX88.1.1.2.1
  have hbd101 := hRX88.1.1.1
  obtain ⟨S96, g97, hS_98, h220_99, h221_100⟩ := hRX88.1.1.2.2.2.2.2.2
  refine lv_aload_n Bx.1 Bx.2.1 d_Rd_readOption_21 rfl (lv_at hl 0 rfl) ?_
  have hrd9 := opt_rds (nm := nm) hLK (by omega) hF hent67 ali65 hh66 her89 hsr90
  exact x_aret hx hb hlocks hr (⟨Ec, gapF T Z ax48 + 1, ux49, Rx50, Ex51, Sx52, _, _, nx55, tox56, rfl, by omega, by omega, by omega, by have := gapF_ge T Z ax48; omega, by omega, htk62, hrk87, hRX88, rdsEq hrd9.1 (sing_op (l91 c91).1 c91 (by omega) hE9), hrd9.2⟩) hP hS d_Rd_readOption_22
set_option maxHeartbeats 4000000 in
set_option maxRecDepth 100000 in
theorem m_Rd_readElement_1Y (l : Launch) {D : va_G} {cy : Nat → ClassId} {sz n : Nat} {ad : Nat → Nat} {mem : Nat → va_E} {Z a R Ec lim : Nat} {f T : Nat → Int32} {to : Nat → Int32} {nm : Nat → Int64} {m0 : Nat → va_E} {u S : Nat} {A Bw : Ro} (hlt : l.stackTraces = false) (hn : 224 ≤ n) (hT : TX cy ad Z f m0) (hf : ∀ k, k < Z → f k = T k) (hRX : RX cy ad lim a R Ec to nm m0 mem) (haB : a ≤ 300) (hER : ER ad R Ec Bw mem) (hSR : SR cy ad S Bw mem) (hSa : S ≤ a) (haZ : a ≤ Z) (hLK : LKa Ec A) (hF : FRM A 1 Ec) : NXr l D cy sz n ad y_Rd_readElement c_Rd_readElement 2 (some (.object "AbnfChart$Element")) ({ frames := 46, cells := 1, slots := 6, locals := 1116 } : Room) mem [.ref (ad 222), .int (1)] (fun r mem' => ∃ (k' a' u' R' E' S' : Nat) (A' Bw' : Ro) (nm' : Nat → Int64) (to' : Nat → Int32), r = ad (20 + 2 * k') ∧ Ec ≤ k' ∧ k' < E' ∧ R ≤ R' ∧ a < a' ∧ a' ≤ Z ∧ TOK R R' to to' ∧ (∀ i9, i9 < R → mem' (7 + i9) = mem (7 + i9)) ∧ RX cy ad lim a' R' E' to' nm' m0 mem' ∧ RDS cy ad T Z 1 (singS T Z a u R Ec 1 A nm) (PSf A 1) R Ec S u A Bw k' a' u' R' E' S' A' Bw' nm' mem' ∧ A' 238 1 = A 238 1 ∧ OKc (hereF Z T a)) (fun X mem' => ((X = cIA ∨ X = cIS) ∧ ∃ rc' ec' : Nat, RS cy ad lim rc' ec' m0 mem') ∧ (Fai T Z (singS T Z a u R Ec 1 A nm) ∨ ¬ OKc (hereF Z T a))) := by
  refine vx_ofW (cc := c_Rd_readElement) (maxL := 2) (ret := (some (.object "AbnfChart$Element"))) (by decide) rfl ?_
  intro p e s m args below meth c s₁ B hml hno hv
  obtain ⟨rfl, E, hP, hD⟩ := hv
  have hx := B.exec
  have hb := B.bytes
  have hr := B.returns
  have hlocks := B.notSynchronized
  have Bx : MB p s m [.ref (ad 222), .int (1)].toArray c c_Rd_readElement "AbnfChart$Reader" D cy := ⟨hx, hb, tb_all (atoms_spec B.pre) E.2.1, findClass_of_methodNamed B.named, E.1⟩
  have hS : va_S (Az sz) s.heap s.heap [] := va_S.rf
  have hl := lv_entry ([.ref (ad 222), .int (1)]) (n := 2) (Nat.le_of_ble_eq_true rfl)
  rw [lg_entry_eq]
  generalize (lg_sl ([.ref (ad 222), .int (1)]) ++ List.replicate (2 - (lg_sl ([.ref (ad 222), .int (1)])).length) Slot.unset).toArray = ls at hl ⊢
  have hl : lv_has ls 2 [(0, .ref (ad 222)), (1, .int (1))] := hl
  have hZ9 := hT.2.1
  have hbd9 := hRX.1.1.1
  have hfr0 : ∀ i, 7 ≤ i ∧ i < 222 ∧ i ≠ 20 + 2 * Ec → mem i = mem i := fun _ _ => rfl
  have hrk0 : ∀ i9, i9 < R → mem (7 + i9) = mem (7 + i9) := fun _ _ => rfl
  obtain ⟨ft1, h9_2⟩ := hRX.2.1
  have h1_3 : mem 1 = .inr (0, [.ref (ad 2), .int (nI Z)]) := (hRX.1.2.2 1 (by omega)).trans hT.1
  have h2_4 : mem 2 = .inl (cy 0, 240, .inl f) := (hRX.1.2.2 2 (by omega)).trans hT.2.2
  have h5_5 := hRX.1.1.2.1
  have hbd11 := hRX.1.1.1
  obtain ⟨S6, g7, hS_8, h220_9, h221_10⟩ := hRX.1.1.2.2.2.2.2.2
  refine lv_aload_n Bx.1 Bx.2.1 d_Rd_readElement_0 rfl (lv_at hl 0 rfl) ?_
  refine f_callVi (na := 0) (As := []) (rest := []) Bx hml E hP hD hS (by omega) h9_2 rfl (m_Rd_peekX l hn hT hf hRX (by omega)) kw_353 kw_355 sel_Rd_peek kw_6 kw_356 (by decide +kernel) ⟨rfl, rfl⟩ ⟨Nat.le_of_ble_eq_true rfl, Nat.le_of_ble_eq_true rfl⟩ rfl hl.1 (Nat.le_of_ble_eq_true rfl) d_Rd_readElement_1 ⟨Nat.le_of_ble_eq_true rfl, Nat.le_of_ble_eq_true rfl⟩ (fun r13 mem14 H locs hq hP hS => ?_)
  have hD : va_D (Az sz) (fw n ad mem14) := fw_D hD
  obtain ⟨hqe, hpk12⟩ := hq
  rw [hqe] at hP hD
  subst hpk12
  refine lv_topi (fun v16 e_v16 => ?_)
  by_cases c34 : v16 = 34
  · rw [c34]
    refine lv_lookup (off := 58) (tgt := 62) Bx.1 Bx.2.1 d_Rd_readElement_4 (by decide) (by decide) rfl ?_
    rw [e_v16] at c34
    have hlt34 := hereF_lt (show hereF Z T (a) ≠ -1 by rw [c34]; decide)
    refine lv_aload_n Bx.1 Bx.2.1 d_Rd_readElement_62 rfl (lv_at hl 0 rfl) ?_
    refine lv_aload_n Bx.1 Bx.2.1 d_Rd_readElement_63 rfl (lv_at hl 0 rfl) ?_
    refine f_get Bx hP (by omega) h9_2 rfl inRd 2 (by decide) kw_146 rfl rfl d_Rd_readElement_64 ?_
    refine lv_iconst (v := 5) Bx.1 Bx.2.1 d_Rd_readElement_67 (by decide) ?_
    refine f_xVr (na := 2) (As := [.int (nI a), .int (5)]) (rest := []) Bx hml E hP hD hS (by omega) h9_2 rfl (m_Rd_readStringY l hlt hn hT hf hRX (by omega) hSR.1 hSR.2 (by omega) hSa) kw_455 kw_457 sel_Rd_readString kw_6 kw_458 (by decide +kernel) ⟨rfl, rfl⟩ ⟨Nat.le_of_ble_eq_true rfl, Nat.le_of_ble_eq_true rfl⟩ rfl hl.1 (Nat.le_of_ble_eq_true rfl) d_Rd_readElement_68 ⟨Nat.le_of_ble_eq_true rfl, Nat.le_of_ble_eq_true rfl⟩ (fun X ce q9 memx H locs hx9 hP hS g1 g2 g3 => f_out hlocks hno hP hS g1 g2 g3 ⟨Nat.le_of_ble_eq_true rfl, Nat.le_of_ble_eq_true rfl⟩ ⟨hx9.1, Or.inl (fai_str c34 hx9.2 hbd9.2.1)⟩) (fun r17 mem18 H locs hq hP hS => ?_)
    have hD : va_D (Az sz) (fw n ad mem18) := fw_D hD
    obtain ⟨hE9, hq9, hr2, hle9, hRX2, hcl2, ⟨s9, hs0, hs1, hs2, hs3⟩, hfr2⟩ := hq
    subst hr2
    obtain ⟨A2, B2, hrd2, h82⟩ := rds_str (j := 1) (u := u) (nm := nm) c34 hE9 hq9 hLK hF hER hcl2 hs0 hs1 hs2 hs3 (fun k hk => hfr2 (20 + 2 * k) (by omega)) hSa
    exact x_aret hx hb hlocks hr (⟨Ec, _, _, R, Ec + 1, _, A2, B2, nm, to, rfl, by omega, by omega, by omega, by omega, hle9, TOK.of rfl, fun i9 q9 => hfr2 (7 + i9) (by omega), hRX2, hrd2, h82, (l34 c34).2.2.2⟩) hP hS d_Rd_readElement_71
  by_cases c37 : v16 = 37
  · rw [c37]
    refine lv_lookup (off := 68) (tgt := 72) Bx.1 Bx.2.1 d_Rd_readElement_4 (by decide) (by decide) rfl ?_
    rw [e_v16] at c37
    have hlt37 := hereF_lt (show hereF Z T (a) ≠ -1 by rw [c37]; decide)
    refine lv_aload_n Bx.1 Bx.2.1 d_Rd_readElement_72 rfl (lv_at hl 0 rfl) ?_
    refine f_get Bx hP (by omega) h9_2 rfl inRd 0 (by decide) kw_144 rfl rfl d_Rd_readElement_73 ?_
    refine lv_aload_n Bx.1 Bx.2.1 d_Rd_readElement_76 rfl (lv_at hl 0 rfl) ?_
    refine f_get Bx hP (by omega) h9_2 rfl inRd 2 (by decide) kw_146 rfl rfl d_Rd_readElement_77 ?_
    refine lv_iconst (v := 1) Bx.1 Bx.2.1 d_Rd_readElement_80 (by decide) ?_
    refine lv_iadd Bx.1 Bx.2.1 d_Rd_readElement_81 ?_
    rw [show nI a + 1 = nI (a + 1) from nI_add (a) (1)]
    refine f_callVi (na := 1) (As := [.int (nI (a + 1))]) (rest := []) Bx hml E hP hD hS (by omega) h1_3 rfl (m_Ch_codeAt l (by omega) h1_3 (by omega) h2_4 (by rw [nI_toInt (by omega)]; omega)) kw_341 kw_342 kw_343 kw_2 kw_344 (by decide +kernel) ⟨rfl, rfl⟩ ⟨Nat.le_of_ble_eq_true rfl, Nat.le_of_ble_eq_true rfl⟩ rfl hl.1 (Nat.le_of_ble_eq_true rfl) d_Rd_readElement_82 ⟨Nat.le_of_ble_eq_true rfl, Nat.le_of_ble_eq_true rfl⟩ (fun r19 mem20 H locs hq hP hS => ?_)
    have hD : va_D (Az sz) (fw n ad mem20) := fw_D hD
    obtain ⟨hco21, hqe⟩ := hq
    rw [hqe] at hP hD
    rw [code_here hf hT.2.1 (k := a + 1) (by omega)] at hco21
    subst hco21
    refine f_callSNi (na := 1) (As := [.int (hereF Z T (a + 1))]) (rest := []) Bx hml E.2.1 (m_Ab_smallOfX l (hereF Z T (a + 1))) kw_372 kw_373 kw_1 kw_374 (by decide +kernel) ⟨rfl, rfl⟩ ⟨Nat.le_of_ble_eq_true rfl, Nat.le_of_ble_eq_true rfl⟩ rfl hl.1 (Nat.le_of_ble_eq_true rfl) d_Rd_readElement_85 ⟨Nat.le_of_ble_eq_true rfl, Nat.le_of_ble_eq_true rfl⟩ (fun r23 hs22 => ?_)
    subst hs22
    refine lv_bipush (v := 115) Bx.1 Bx.2.1 d_Rd_readElement_88 (by decide) ?_
    refine lv_icmp_ne Bx.1 Bx.2.1 d_Rd_readElement_90 rfl (fun hb24 => ?_) (fun hb24 => ?_)
    · refine lv_aload_n Bx.1 Bx.2.1 d_Rd_readElement_100 rfl (lv_at hl 0 rfl) ?_
      refine f_xVr (na := 0) (As := []) (rest := []) Bx hml E hP hD hS (by omega) h9_2 rfl (m_Rd_readValueY l hlt hn hT hf hRX (by omega) (u8 := u) (e8 := Ec) (A0 := va_up (elA A Ec 4) 231 (upd (elA A Ec 4 231) Ec (vp_nar .boolean 1))) hSR.1 hSR.2 (by omega) hSa) kw_467 kw_469 sel_Rd_readValue kw_6 kw_470 (by decide +kernel) ⟨rfl, rfl⟩ ⟨Nat.le_of_ble_eq_true rfl, Nat.le_of_ble_eq_true rfl⟩ rfl hl.1 (Nat.le_of_ble_eq_true rfl) d_Rd_readElement_101 ⟨Nat.le_of_ble_eq_true rfl, Nat.le_of_ble_eq_true rfl⟩ (fun X ce q9 memx H locs hx9 hP hS g1 g2 g3 => f_out hlocks hno hP hS g1 g2 g3 ⟨Nat.le_of_ble_eq_true rfl, Nat.le_of_ble_eq_true rfl⟩ ⟨hx9.1, Or.inl (fai_val c37 hb24 hx9.2 hbd9.2.1)⟩) (fun r25 mem26 H locs hq hP hS => ?_)
      have hD : va_D (Az sz) (fw n ad mem26) := fw_D hD
      obtain ⟨hE9, ba, a2, u2, A1, hba, hn9, hr2, x1, x2, hRX2, hsp2, hc2, hfr2⟩ := hq
      subst hr2
      obtain ⟨S2, A2, B2, hrd2, h82⟩ := rds_val (j := 1) (nm := nm) c37 hba hE9 hn9 hsp2 hLK hF hER (fun k hk => hfr2 (20 + 2 * k) (by omega)) hSa x1 hc2
      exact x_aret hx hb hlocks hr (⟨Ec, a2, u2, R, Ec + 1, S2, A2, B2, nm, to, rfl, by omega, by omega, by omega, x1, x2, TOK.of rfl, fun i9 q9 => hfr2 (7 + i9) (by omega), hRX2, hrd2, h82, (l37 c37).2.2.2.2⟩) hP hS d_Rd_readElement_104
    · refine lv_aload_n Bx.1 Bx.2.1 d_Rd_readElement_93 rfl (lv_at hl 0 rfl) ?_
      refine f_xVr (na := 0) (As := []) (rest := []) Bx hml E hP hD hS (by omega) h9_2 rfl (m_Rd_readExactStringY l hlt hn hT hf hRX (by omega) hSR.1 hSR.2 (by omega) hSa) kw_463 kw_465 sel_Rd_readExactString kw_6 kw_466 (by decide +kernel) ⟨rfl, rfl⟩ ⟨Nat.le_of_ble_eq_true rfl, Nat.le_of_ble_eq_true rfl⟩ rfl hl.1 (Nat.le_of_ble_eq_true rfl) d_Rd_readElement_94 ⟨Nat.le_of_ble_eq_true rfl, Nat.le_of_ble_eq_true rfl⟩ (fun X ce q9 memx H locs hx9 hP hS g1 g2 g3 => f_out hlocks hno hP hS g1 g2 g3 ⟨Nat.le_of_ble_eq_true rfl, Nat.le_of_ble_eq_true rfl⟩ ⟨hx9.1, Or.inl (fai_xst c37 hb24 hx9.2 hbd9.2.1)⟩) (fun r27 mem28 H locs hq hP hS => ?_)
      have hD : va_D (Az sz) (fw n ad mem28) := fw_D hD
      obtain ⟨hq8, hE9, hq9, hr2, hle9, hRX2, hcl2, ⟨s9, hs0, hs1, hs2, hs3⟩, hfr2⟩ := hq
      subst hr2
      obtain ⟨A2, B2, hrd2, h82⟩ := rds_xst (j := 1) (u := u) (nm := nm) c37 hb24 hq8 hE9 hq9 hLK hF hER hcl2 hs0 hs1 hs2 hs3 (fun k hk => hfr2 (20 + 2 * k) (by omega)) hSa
      refine lv_goto Bx.1 Bx.2.1 d_Rd_readElement_97 rfl ?_
      exact x_aret hx hb hlocks hr (⟨Ec, _, _, R, Ec + 1, _, A2, B2, nm, to, rfl, by omega, by omega, by omega, by omega, hle9, TOK.of rfl, fun i9 q9 => hfr2 (7 + i9) (by omega), hRX2, hrd2, h82, (l37 c37).2.2.2.2⟩) hP hS d_Rd_readElement_104
  by_cases c40 : v16 = 40
  · rw [c40]
    refine lv_lookup (off := 44) (tgt := 48) Bx.1 Bx.2.1 d_Rd_readElement_4 (by decide) (by decide) rfl ?_
    rw [e_v16] at c40
    have hlt40 := hereF_lt (show hereF Z T (a) ≠ -1 by rw [c40]; decide)
    refine lv_aload_n Bx.1 Bx.2.1 d_Rd_readElement_48 rfl (lv_at hl 0 rfl) ?_
    refine lv_iload_n Bx.1 Bx.2.1 d_Rd_readElement_49 rfl (lv_at hl 1 rfl) ?_
    refine lv_bipush (v := 41) Bx.1 Bx.2.1 d_Rd_readElement_50 (by decide) ?_
    refine f_xVr (na := 2) (As := [.int (1), .int (41)]) (rest := []) Bx hml E hP hD hS (by omega) h9_2 rfl (m_Rd_readBracket_1Y l hlt hn hT hf hRX (by omega) (u := u) (A := A) (what := 1) (oe := -1) hER hSR hSa (by omega) (Or.inl ⟨rfl, rfl⟩) hLK) kw_447 kw_449 sel_Rd_readBracket kw_6 kw_450 (by decide +kernel) ⟨rfl, rfl⟩ ⟨Nat.le_of_ble_eq_true rfl, Nat.le_of_ble_eq_true rfl⟩ rfl hl.1 (Nat.le_of_ble_eq_true rfl) d_Rd_readElement_52 ⟨Nat.le_of_ble_eq_true rfl, Nat.le_of_ble_eq_true rfl⟩ (fun X ce q9 memx H locs hx9 hP hS g1 g2 g3 => f_out hlocks hno hP hS g1 g2 g3 ⟨Nat.le_of_ble_eq_true rfl, Nat.le_of_ble_eq_true rfl⟩ ⟨hx9.1, Or.inl (hx9.2.eq (sing_br (l40 c40).1 c40 (by omega)))⟩) (fun r29 mem30 H locs hq hP hS => ?_)
    have hD : va_D (Az sz) (fw n ad mem30) := fw_D hD
    obtain ⟨la31, ax32, ux33, Rx34, Ex35, Sx36, Ax37, Bx_38, nx39, tox40, hr941, h142, h243, h344, h445, htk46, hrk47, hRX48, ali49, hh50, hent51⟩ := hq
    subst hr941
    have hrk52 : ∀ i9, i9 < R → mem30 (7 + i9) = mem (7 + i9) := fun i9 q9 => (hrk47 i9 (by omega)).trans (hrk0 i9 q9)
    have hE9 : Ec < 100 := by have := hRX48.1.1.1; omega
    have hrd9 := brk_rds (nm := nm) hLK hE9 hF hent51 ali49 hh50 ali49.2.1 ali49.2.2.1
    exact x_aret hx hb hlocks hr (⟨Ec, gapF T Z ax32 + 1, ux33, Rx34, Ex35, Sx36, _, _, nx39, tox40, rfl, by omega, by omega, by omega, by have := gapF_ge T Z ax32; omega, by omega, htk46, hrk52, hRX48, rdsEq hrd9.1 (sing_br (l40 c40).1 c40 (by omega)), hrd9.2, (l40 c40).2⟩) hP hS d_Rd_readElement_55
  by_cases c91 : v16 = 91
  · rw [c91]
    refine lv_lookup (off := 52) (tgt := 56) Bx.1 Bx.2.1 d_Rd_readElement_4 (by decide) (by decide) rfl ?_
    rw [e_v16] at c91
    have hlt91 := hereF_lt (show hereF Z T (a) ≠ -1 by rw [c91]; decide)
    refine lv_aload_n Bx.1 Bx.2.1 d_Rd_readElement_56 rfl (lv_at hl 0 rfl) ?_
    refine lv_iload_n Bx.1 Bx.2.1 d_Rd_readElement_57 rfl (lv_at hl 1 rfl) ?_
    refine f_xVr (na := 1) (As := [.int (1)]) (rest := []) Bx hml E hP hD hS (by omega) h9_2 rfl (m_Rd_readOption_1Y l hlt hn hT hf hRX (by omega) (u := u) (A := A) hER hSR hSa (by omega) hLK hF c91) kw_451 kw_453 sel_Rd_readOption kw_6 kw_454 (by decide +kernel) ⟨rfl, rfl⟩ ⟨Nat.le_of_ble_eq_true rfl, Nat.le_of_ble_eq_true rfl⟩ rfl hl.1 (Nat.le_of_ble_eq_true rfl) d_Rd_readElement_58 ⟨Nat.le_of_ble_eq_true rfl, Nat.le_of_ble_eq_true rfl⟩ (fun X ce q9 memx H locs hx9 hP hS g1 g2 g3 => f_out hlocks hno hP hS g1 g2 g3 ⟨Nat.le_of_ble_eq_true rfl, Nat.le_of_ble_eq_true rfl⟩ ⟨hx9.1, Or.inl hx9.2⟩) (fun r53 mem54 H locs hq hP hS => ?_)
    have hD : va_D (Az sz) (fw n ad mem54) := fw_D hD
    obtain ⟨kx55, ax56, ux57, Rx58, Ex59, Sx60, Ax61, Bx_62, nx63, tox64, hr965, h166, h267, h368, h469, h570, htk71, hrk72, hRX73, rds74, h875⟩ := hq
    subst hr965
    have hrk76 : ∀ i9, i9 < R → mem54 (7 + i9) = mem (7 + i9) := fun i9 q9 => (hrk72 i9 (by omega)).trans (hrk0 i9 q9)
    exact x_aret hx hb hlocks hr (⟨kx55, ax56, ux57, Rx58, Ex59, Sx60, Ax61, Bx_62, nx63, tox64, rfl, h166, h267, h368, h469, h570, htk71, hrk72, hRX73, rds74, h875, (l91 c91).2⟩) hP hS d_Rd_readElement_61
  refine lv_lookup (off := 101) (tgt := 105) Bx.1 Bx.2.1 d_Rd_readElement_4 (by decide) (by show Op.lookupswitch.offset [(34, 58), (37, 68), (40, 44), (91, 52)] 101 (v16).toInt = 101; rw [lv_osw c34 (by decide), lv_osw c37 (by decide), lv_osw c40 (by decide), lv_osw c91 (by decide)]; rfl) rfl ?_
  rw [e_v16] at c40 c91 c34 c37
  refine lv_aload_n Bx.1 Bx.2.1 d_Rd_readElement_105 rfl (lv_at hl 0 rfl) ?_
  refine f_xVr (na := 0) (As := []) (rest := []) Bx hml E hP hD hS (by omega) h9_2 rfl (m_Rd_readAskedNameY l hlt hn hT hf hRX (by omega) (A := A) (by omega)) kw_478 kw_480 sel_Rd_readAskedName kw_6 kw_481 (by decide +kernel) ⟨rfl, rfl⟩ ⟨Nat.le_of_ble_eq_true rfl, Nat.le_of_ble_eq_true rfl⟩ rfl hl.1 (Nat.le_of_ble_eq_true rfl) d_Rd_readElement_106 ⟨Nat.le_of_ble_eq_true rfl, Nat.le_of_ble_eq_true rfl⟩ (fun X ce q9 memx H locs hx9 hP hS g1 g2 g3 => f_out hlocks hno hP hS g1 g2 g3 ⟨Nat.le_of_ble_eq_true rfl, Nat.le_of_ble_eq_true rfl⟩ ⟨hx9.1, fai_nam c40 c91 c34 c37 hx9.2⟩) (fun r77 mem78 H locs hq hP hS => ?_)
  have hD : va_D (Az sz) (fw n ad mem78) := fw_D hD
  obtain ⟨i9, a2, R2, A3, n2, hsn, hle, hE9, hr2, x1, x2, x3, hA3, htk, ⟨t2, htk2, hRX2⟩, hi9, hcl2, hfr2⟩ := hq
  subst hr2
  have hR12 := hRX2.1.1.1.1
  obtain ⟨A2, B2, hrd2, h82⟩ := rds_nam (j := 1) (u := u) hle hsn hE9 hA3 htk x1 hi9 hR12 hLK hF hER ⟨(hfr2 220 (by omega)).trans hSR.1, (hfr2 221 (by omega)).trans hSR.2⟩ hcl2 (fun k hk => hfr2 (20 + 2 * k) (by omega)) (by omega)
  exact x_aret hx hb hlocks hr (⟨Ec, a2, u, R2, Ec + 1, S, A2, B2, n2, t2, rfl, by omega, by omega, x1, x2, x3, htk2, fun i9 q9 => hfr2 (7 + i9) (by omega), hRX2, hrd2, h82, lt_ok hle⟩) hP hS d_Rd_readElement_109
set_option maxHeartbeats 4000000 in
set_option maxRecDepth 100000 in
theorem m_Rd_readRepetition_1Y (l : Launch) {D : va_G} {cy : Nat → ClassId} {sz n : Nat} {ad : Nat → Nat} {mem : Nat → va_E} {Z a R Ec lim : Nat} {f T : Nat → Int32} {to : Nat → Int32} {nm : Nat → Int64} {m0 : Nat → va_E} {u S : Nat} {A Bw : Ro} (hlt : l.stackTraces = false) (hn : 224 ≤ n) (hT : TX cy ad Z f m0) (hf : ∀ k, k < Z → f k = T k) (hRX : RX cy ad lim a R Ec to nm m0 mem) (haB : a ≤ 300) (hER : ER ad R Ec Bw mem) (hSR : SR cy ad S Bw mem) (hSa : S ≤ a) (haZ : a ≤ Z) (hLK : LKa Ec A) (hF : FRM A 1 Ec) (h39 : A 239 1 = -1) (hbg : bgF (hereF Z T a) = true) : NXr l D cy sz n ad y_Rd_readRepetition c_Rd_readRepetition 3 (some (.object "AbnfChart$Element")) ({ frames := 47, cells := 1, slots := 6, locals := 1138 } : Room) mem [.ref (ad 222), .int (1)] (fun r mem' => ∃ (k' a' u' R' E' S' : Nat) (A' Bw' : Ro) (nm' : Nat → Int64) (to' : Nat → Int32), r = ad (20 + 2 * k') ∧ Ec ≤ k' ∧ k' < E' ∧ R ≤ R' ∧ a < a' ∧ a' ≤ Z ∧ TOK R R' to to' ∧ (∀ i9, i9 < R → mem' (7 + i9) = mem (7 + i9)) ∧ RX cy ad lim a' R' E' to' nm' m0 mem' ∧ RDS cy ad T Z 1 (repS T Z a u R Ec 1 A nm) (PSf A 1) R Ec S u A Bw k' a' u' R' E' S' A' Bw' nm' mem' ∧ A' 238 1 = A 238 1) (fun X mem' => ((X = cIA ∨ X = cIS) ∧ ∃ rc' ec' : Nat, RS cy ad lim rc' ec' m0 mem') ∧ (Fai T Z (repS T Z a u R Ec 1 A nm))) := by
  refine vx_ofW (cc := c_Rd_readRepetition) (maxL := 3) (ret := (some (.object "AbnfChart$Element"))) (by decide) rfl ?_
  intro p e s m args below meth c s₁ B hml hno hv
  obtain ⟨rfl, E, hP, hD⟩ := hv
  have hx := B.exec
  have hb := B.bytes
  have hr := B.returns
  have hlocks := B.notSynchronized
  have Bx : MB p s m [.ref (ad 222), .int (1)].toArray c c_Rd_readRepetition "AbnfChart$Reader" D cy := ⟨hx, hb, tb_all (atoms_spec B.pre) E.2.1, findClass_of_methodNamed B.named, E.1⟩
  have hS : va_S (Az sz) s.heap s.heap [] := va_S.rf
  have hl := lv_entry ([.ref (ad 222), .int (1)]) (n := 3) (Nat.le_of_ble_eq_true rfl)
  rw [lg_entry_eq]
  generalize (lg_sl ([.ref (ad 222), .int (1)]) ++ List.replicate (3 - (lg_sl ([.ref (ad 222), .int (1)])).length) Slot.unset).toArray = ls at hl ⊢
  have hl : lv_has ls 3 [(0, .ref (ad 222)), (1, .int (1))] := hl
  have hZ9 := hT.2.1
  have hbd9 := hRX.1.1.1
  have hfr0 : ∀ i, 7 ≤ i ∧ i < 222 ∧ i ≠ 20 + 2 * Ec → mem i = mem i := fun _ _ => rfl
  have hrk0 : ∀ i9, i9 < R → mem (7 + i9) = mem (7 + i9) := fun _ _ => rfl
  obtain ⟨ft1, h9_2⟩ := hRX.2.1
  have h1_3 : mem 1 = .inr (0, [.ref (ad 2), .int (nI Z)]) := (hRX.1.2.2 1 (by omega)).trans hT.1
  have h2_4 : mem 2 = .inl (cy 0, 240, .inl f) := (hRX.1.2.2 2 (by omega)).trans hT.2.2
  have h5_5 := hRX.1.1.2.1
  have hbd11 := hRX.1.1.1
  obtain ⟨S6, g7, hS_8, h220_9, h221_10⟩ := hRX.1.1.2.2.2.2.2.2
  refine lv_aload_n Bx.1 Bx.2.1 d_Rd_readRepetition_0 rfl (lv_at hl 0 rfl) ?_
  refine f_callVi (na := 0) (As := []) (rest := []) Bx hml E hP hD hS (by omega) h9_2 rfl (m_Rd_peekX l hn hT hf hRX (by omega)) kw_353 kw_355 sel_Rd_peek kw_6 kw_356 (by decide +kernel) ⟨rfl, rfl⟩ ⟨Nat.le_of_ble_eq_true rfl, Nat.le_of_ble_eq_true rfl⟩ rfl hl.1 (Nat.le_of_ble_eq_true rfl) d_Rd_readRepetition_1 ⟨Nat.le_of_ble_eq_true rfl, Nat.le_of_ble_eq_true rfl⟩ (fun r13 mem14 H locs hq hP hS => ?_)
  have hD : va_D (Az sz) (fw n ad mem14) := fw_D hD
  obtain ⟨hqe, hpk12⟩ := hq
  rw [hqe] at hP hD
  subst hpk12
  refine f_callSi (na := 1) (As := [.int (hereF Z T (a))]) (rest := []) Bx hml E.2.1 (m_Rd_beginsRepeatX l (hereF Z T (a))) kw_416 kw_417 kw_6 kw_418 (by decide +kernel) ⟨rfl, rfl⟩ ⟨Nat.le_of_ble_eq_true rfl, Nat.le_of_ble_eq_true rfl⟩ rfl hl.1 (Nat.le_of_ble_eq_true rfl) d_Rd_readRepetition_4 ⟨Nat.le_of_ble_eq_true rfl, Nat.le_of_ble_eq_true rfl⟩ (fun r17 hs16 => ?_)
  subst hs16
  refine lv_if_ne Bx.1 Bx.2.1 d_Rd_readRepetition_7 rfl (fun hb18 => ?_) (fun hb18 => ?_)
  · refine lv_aload_n Bx.1 Bx.2.1 d_Rd_readRepetition_16 rfl (lv_at hl 0 rfl) ?_
    refine lv_iconst (v := 2) Bx.1 Bx.2.1 d_Rd_readRepetition_17 (by decide) ?_
    refine lv_aload_n Bx.1 Bx.2.1 d_Rd_readRepetition_18 rfl (lv_at hl 0 rfl) ?_
    refine f_get Bx hP (by omega) h9_2 rfl inRd 2 (by decide) kw_146 rfl rfl d_Rd_readRepetition_19 ?_
    refine f_xVr (na := 2) (As := [.int (2), .int (nI a)]) (rest := []) Bx hml E hP hD hS (by omega) h9_2 rfl (m_Rd_addElementY l hlt hn hT hf hRX (by omega)) kw_419 kw_421 sel_Rd_addElement kw_6 kw_422 (by decide +kernel) ⟨rfl, rfl⟩ ⟨Nat.le_of_ble_eq_true rfl, Nat.le_of_ble_eq_true rfl⟩ rfl hl.1 (Nat.le_of_ble_eq_true rfl) d_Rd_readRepetition_22 ⟨Nat.le_of_ble_eq_true rfl, Nat.le_of_ble_eq_true rfl⟩ (fun X ce q9 memx H locs hx9 hP hS g1 g2 g3 => f_out hlocks hno hP hS g1 g2 g3 ⟨Nat.le_of_ble_eq_true rfl, Nat.le_of_ble_eq_true rfl⟩ ⟨hx9.1, Or.inl (rep_E (bpF_1 hb18) hx9.2)⟩) (fun r19 mem20 H locs hq hP hS => ?_)
    have hD : va_D (Az sz) (fw n ad mem20) := fw_D hD
    obtain ⟨hr921, hec22, hRX23, hcl24, hfa25⟩ := hq
    subst hr921
    have hrk26 : ∀ i9, i9 < R → mem20 (7 + i9) = mem (7 + i9) := fun i9 q9 => (hfa25 (7 + i9) (by omega)).trans (hrk0 i9 q9)
    have hfr27 : ∀ i, 7 ≤ i ∧ i < 222 ∧ i ≠ 20 + 2 * Ec → mem20 i = mem i := fun i q => (hfa25 i (by omega)).trans (hfr0 i q)
    obtain ⟨ft28, h9_29⟩ := hRX23.2.1
    have h1_30 : mem20 1 = .inr (0, [.ref (ad 2), .int (nI Z)]) := (hRX23.1.2.2 1 (by omega)).trans hT.1
    have h2_31 : mem20 2 = .inl (cy 0, 240, .inl f) := (hRX23.1.2.2 2 (by omega)).trans hT.2.2
    have h5_32 := hRX23.1.1.2.1
    have hbd38 := hRX23.1.1.1
    obtain ⟨S33, g34, hS_35, h220_36, h221_37⟩ := hRX23.1.1.2.2.2.2.2.2
    obtain ⟨ft39, h9_40⟩ := hRX23.2.1
    have h1_41 : mem20 1 = .inr (0, [.ref (ad 2), .int (nI Z)]) := (hRX23.1.2.2 1 (by omega)).trans hT.1
    have h2_42 : mem20 2 = .inl (cy 0, 240, .inl f) := (hRX23.1.2.2 2 (by omega)).trans hT.2.2
    have h5_43 := hRX23.1.1.2.1
    have hbd49 := hRX23.1.1.1
    obtain ⟨S44, g45, hS_46, h220_47, h221_48⟩ := hRX23.1.1.2.2.2.2.2.2
    refine lv_astore_n (lv' := [(2, .ref (ad (20 + 2 * Ec))), (0, .ref (ad 222)), (1, .int (1))]) Bx.1 Bx.2.1 d_Rd_readRepetition_25 rfl hl (by decide) rfl (fun ls hl => ?_)
    refine lv_aload_n Bx.1 Bx.2.1 d_Rd_readRepetition_26 rfl (lv_at hl 1 rfl) ?_
    refine lv_aload_n Bx.1 Bx.2.1 d_Rd_readRepetition_27 rfl (lv_at hl 0 rfl) ?_
    have hdg := bpF_1 hb18
    have hE9 := hec22
    refine f_xVv (na := 1) (As := [.ref (ad (20 + 2 * Ec))]) (rest := []) Bx hml E hP hD hS (by omega) h9_40 rfl (m_Rd_readRepeatY l hlt hn hT hf hRX23 (by omega) (by omega) hcl24 (by omega) hdg) kw_482 kw_484 sel_Rd_readRepeat kw_6 kw_485 (by decide +kernel) ⟨rfl, rfl⟩ ⟨Nat.le_of_ble_eq_true rfl, Nat.le_of_ble_eq_true rfl⟩ rfl hl.1 (Nat.le_of_ble_eq_true rfl) d_Rd_readRepetition_28 ⟨Nat.le_of_ble_eq_true rfl, Nat.le_of_ble_eq_true rfl⟩ (fun X ce q9 memx H locs hx9 hP hS g1 g2 g3 => f_out hlocks hno hP hS g1 g2 g3 ⟨Nat.le_of_ble_eq_true rfl, Nat.le_of_ble_eq_true rfl⟩ ⟨hx9.1, hx9.2.elim (fun v1 z => z.elim (fun b1 z => z.elim (fun v2 z => z.elim (fun b2 z => Or.inl (rep_bad hdg hE9 z.1 z.2.1 (Or.inl z.2.2))))))⟩) (fun mem51 H locs hq hP hS => ?_)
    have hD : va_D (Az sz) (fw n ad mem51) := fw_D hD
    obtain ⟨v1, b1, v2, b2, hr1, hr2, hnv, hb8, hb9, hRXr, hclr, hfar⟩ := hq
    have hrk52 : ∀ i9, i9 < R → mem51 (7 + i9) = mem (7 + i9) := fun i9 q9 => (hfar (7 + i9) (by omega)).trans (hrk26 i9 q9)
    have hfr53 : ∀ i, 7 ≤ i ∧ i < 222 ∧ i ≠ 20 + 2 * Ec → mem51 i = mem i := fun i q => (hfar i (by omega)).trans (hfr27 i q)
    obtain ⟨ft54, h9_55⟩ := hRXr.2.1
    have h1_56 : mem51 1 = .inr (0, [.ref (ad 2), .int (nI Z)]) := (hRXr.1.2.2 1 (by omega)).trans hT.1
    have h2_57 : mem51 2 = .inl (cy 0, 240, .inl f) := (hRXr.1.2.2 2 (by omega)).trans hT.2.2
    have h5_58 := hRXr.1.1.2.1
    have hbd64 := hRXr.1.1.1
    obtain ⟨S59, g60, hS_61, h220_62, h221_63⟩ := hRXr.1.1.2.2.2.2.2.2
    obtain ⟨ft65, h9_66⟩ := hRXr.2.1
    have h1_67 : mem51 1 = .inr (0, [.ref (ad 2), .int (nI Z)]) := (hRXr.1.2.2 1 (by omega)).trans hT.1
    have h2_68 : mem51 2 = .inl (cy 0, 240, .inl f) := (hRXr.1.2.2 2 (by omega)).trans hT.2.2
    have h5_69 := hRXr.1.1.2.1
    have hbd75 := hRXr.1.1.1
    obtain ⟨S70, g71, hS_72, h220_73, h221_74⟩ := hRXr.1.1.2.2.2.2.2.2
    refine lv_aload_n Bx.1 Bx.2.1 d_Rd_readRepetition_31 rfl (lv_at hl 0 rfl) ?_
    refine lv_aload_n Bx.1 Bx.2.1 d_Rd_readRepetition_32 rfl (lv_at hl 1 rfl) ?_
    refine lv_iload_n Bx.1 Bx.2.1 d_Rd_readRepetition_33 rfl (lv_at hl 2 rfl) ?_
    have her76 : ER ad R (Ec + 1) (bwN Bw Ec 2 (v1) (v2) (-1) (-1) (-1) (Bw 234)) mem51 := hER.new (Nat.le_refl _) (by rw [vR_m]; exact hclr) (Or.inl rfl) (fun i9 hi9 => hfr53 (20 + 2 * i9) (by omega))
    have hsr77 : SR cy ad S (bwN Bw Ec 2 (v1) (v2) (-1) (-1) (-1) (Bw 234)) mem51 := ⟨(hfr53 220 (by omega)).trans hSR.1, (hfr53 221 (by omega)).trans hSR.2⟩
    obtain ⟨hLK1, hF1⟩ := frm_rep (v1 := v1) (v2 := v2) hLK hE9 hF h39
    refine f_xVr (na := 1) (As := [.int (1)]) (rest := [.ref (ad (20 + 2 * Ec))]) Bx hml E hP hD hS (by omega) h9_66 rfl (m_Rd_readElement_1Y l hlt hn hT hf hRXr (by omega) (u := u) (A := repB A 1 Ec v1 v2) her76 hsr77 (by omega) (by omega) hLK1 hF1) kw_443 kw_445 sel_Rd_readElement kw_6 kw_446 (by decide +kernel) ⟨rfl, rfl⟩ ⟨Nat.le_of_ble_eq_true rfl, Nat.le_of_ble_eq_true rfl⟩ rfl hl.1 (Nat.le_of_ble_eq_true rfl) d_Rd_readRepetition_34 ⟨Nat.le_of_ble_eq_true rfl, Nat.le_of_ble_eq_true rfl⟩ (fun X ce q9 memx H locs hx9 hP hS g1 g2 g3 => f_out hlocks hno hP hS g1 g2 g3 ⟨Nat.le_of_ble_eq_true rfl, Nat.le_of_ble_eq_true rfl⟩ ⟨hx9.1, rep_fai hdg hE9 hr1 hr2 hnv hx9.2⟩) (fun r78 mem79 H locs hq hP hS => ?_)
    have hD : va_D (Az sz) (fw n ad mem79) := fw_D hD
    obtain ⟨kx80, ax81, ux82, Rx83, Ex84, Sx85, Ax86, Bx_87, nx88, tox89, hr990, h191, h292, h393, h494, h595, htk96, hrk97, hRX98, rds99, h8100, hok101⟩ := hq
    subst hr990
    have hrk102 : ∀ i9, i9 < R → mem79 (7 + i9) = mem (7 + i9) := fun i9 q9 => (hrk97 i9 (by omega)).trans (hrk52 i9 q9)
    obtain ⟨ft103, h9_104⟩ := hRX98.2.1
    have h1_105 : mem79 1 = .inr (0, [.ref (ad 2), .int (nI Z)]) := (hRX98.1.2.2 1 (by omega)).trans hT.1
    have h2_106 : mem79 2 = .inl (cy 0, 240, .inl f) := (hRX98.1.2.2 2 (by omega)).trans hT.2.2
    have h5_107 := hRX98.1.1.2.1
    have hbd113 := hRX98.1.1.1
    obtain ⟨S108, g109, hS_110, h220_111, h221_112⟩ := hRX98.1.1.2.2.2.2.2.2
    have hbd114 := hRX98.1.1.1
    have hce115 := (rds99.2.1 Ec (by omega)).1
    refine f_putN Bx hP hD hS (by omega) hce115 rfl inEl tyEl okEl nmEl 4 (by decide) kw_87 rfl rfl rfl rfl (Nat.le_of_ble_eq_true rfl) d_Rd_readRepetition_37 (fun H locs hP hS => ?_)
    obtain ⟨mem116, e_mem116⟩ : ∃ z, z = va_up mem79 ((20 + 2 * Ec)) (.inr (2, [.int (Bx_87 228 Ec), .int (Bx_87 229 Ec), .int (Bx_87 230 Ec), vR ad (Bx_87 231 Ec), .ref (ad (20 + 2 * kx80)), vE ad (Bx_87 233 Ec), .ref (ad (21 + 2 * Ec))])) := ⟨_, rfl⟩
    have hP : va_P D vcl (fw n ad mem116) H := by rw [e_mem116]; exact hP
    have hD : va_D (Az sz) (fw n ad mem116) := fw_D hD
    have h_mem116 : mem116 ((20 + 2 * Ec)) = .inr (2, [.int (Bx_87 228 Ec), .int (Bx_87 229 Ec), .int (Bx_87 230 Ec), vR ad (Bx_87 231 Ec), .ref (ad (20 + 2 * kx80)), vE ad (Bx_87 233 Ec), .ref (ad (21 + 2 * Ec))]) := by rw [e_mem116, va_up_self]
    have hh117 := (va_up_ne mem79 (.inr (2, [.int (Bx_87 228 Ec), .int (Bx_87 229 Ec), .int (Bx_87 230 Ec), vR ad (Bx_87 231 Ec), .ref (ad (20 + 2 * kx80)), vE ad (Bx_87 233 Ec), .ref (ad (21 + 2 * Ec))])) (show (222 : Nat) ≠ (20 + 2 * Ec) by first | decide | assumption | omega)).trans h9_104
    rw [← e_mem116] at hh117
    have hh118 := (va_up_ne mem79 (.inr (2, [.int (Bx_87 228 Ec), .int (Bx_87 229 Ec), .int (Bx_87 230 Ec), vR ad (Bx_87 231 Ec), .ref (ad (20 + 2 * kx80)), vE ad (Bx_87 233 Ec), .ref (ad (21 + 2 * Ec))])) (show (1 : Nat) ≠ (20 + 2 * Ec) by first | decide | assumption | omega)).trans h1_105
    rw [← e_mem116] at hh118
    have hh119 := (va_up_ne mem79 (.inr (2, [.int (Bx_87 228 Ec), .int (Bx_87 229 Ec), .int (Bx_87 230 Ec), vR ad (Bx_87 231 Ec), .ref (ad (20 + 2 * kx80)), vE ad (Bx_87 233 Ec), .ref (ad (21 + 2 * Ec))])) (show (5 : Nat) ≠ (20 + 2 * Ec) by first | decide | assumption | omega)).trans h5_107
    rw [← e_mem116] at hh119
    have hh120 := (va_up_ne mem79 (.inr (2, [.int (Bx_87 228 Ec), .int (Bx_87 229 Ec), .int (Bx_87 230 Ec), vR ad (Bx_87 231 Ec), .ref (ad (20 + 2 * kx80)), vE ad (Bx_87 233 Ec), .ref (ad (21 + 2 * Ec))])) (show (220 : Nat) ≠ (20 + 2 * Ec) by first | decide | assumption | omega)).trans h220_111
    rw [← e_mem116] at hh120
    have hrk121 : ∀ i9, i9 < R → mem116 (7 + i9) = mem (7 + i9) := fun i9 q9 => (show mem116 (7 + i9) = mem79 (7 + i9) by rw [e_mem116]; exact va_up_ne _ _ (by omega)).trans (hrk102 i9 q9)
    have hRX122 : RX cy ad lim (ax81) (Rx83) (Ex84) (tox89) (nx88) m0 mem116 := by rw [e_mem116]; exact hRX98.el (by omega) (hRX98.1.mk (by omega) (hRX98.1.1.upEl (by omega) (fun _ => ⟨(rds99.2.1 Ec (by omega)).2.1.oR ad, Or.inr ⟨kx80, by omega, by omega, rfl⟩, (rds99.2.1 Ec (by omega)).2.2.2.oE ad (by omega)⟩)))
    have her123 : ER ad (Rx83) (Ex84) (va_up Bx_87 232 (upd (Bx_87 232) Ec (nI kx80))) mem116 := rds99.2.1.part (by omega) (by omega) (by omega) h_mem116 (fun i9 q9 hi9 => by rw [e_mem116]; exact va_up_ne _ _ (by omega))
    have hsr124 : SR cy ad (Sx85) (Bx_87) mem116 := ⟨(show mem116 220 = mem79 220 by rw [e_mem116]; exact va_up_ne _ _ (by omega)).trans rds99.2.2.1.1, (show mem116 221 = mem79 221 by rw [e_mem116]; exact va_up_ne _ _ (by omega)).trans rds99.2.2.1.2⟩
    obtain ⟨ft125, h9_126⟩ := hRX122.2.1
    have h1_127 : mem116 1 = .inr (0, [.ref (ad 2), .int (nI Z)]) := (hRX122.1.2.2 1 (by omega)).trans hT.1
    have h2_128 : mem116 2 = .inl (cy 0, 240, .inl f) := (hRX122.1.2.2 2 (by omega)).trans hT.2.2
    have h5_129 := hRX122.1.1.2.1
    have hbd135 := hRX122.1.1.1
    obtain ⟨S130, g131, hS_132, h220_133, h221_134⟩ := hRX122.1.1.2.2.2.2.2.2
    refine lv_aload_n Bx.1 Bx.2.1 d_Rd_readRepetition_40 rfl (lv_at hl 0 rfl) ?_
    have hrd9 := rep_rds hLK hE9 hF h39 rds99 h8100 ⟨by omega, by omega⟩ (rep_suc (u := u) (R := R) (f := 1) (A := A) (nm := nm) hdg hE9 hr1 hr2 hnv hok101) her123 hsr124
    exact x_aret hx hb hlocks hr (⟨Ec, ax81, ux82, Rx83, Ex84, Sx85, _, _, nx88, tox89, rfl, by omega, by omega, by omega, by omega, by omega, htk96, hrk121, hRX122, hrd9.1, hrd9.2⟩) hP hS d_Rd_readRepetition_41
  · refine lv_aload_n Bx.1 Bx.2.1 d_Rd_readRepetition_10 rfl (lv_at hl 0 rfl) ?_
    refine lv_iload_n Bx.1 Bx.2.1 d_Rd_readRepetition_11 rfl (lv_at hl 1 rfl) ?_
    obtain ⟨hd0, h42⟩ := bpF_0 hb18
    refine f_xVr (na := 1) (As := [.int (1)]) (rest := []) Bx hml E hP hD hS (by omega) h9_2 rfl (m_Rd_readElement_1Y l hlt hn hT hf hRX (by omega) (u := u) (A := A) hER hSR hSa (by omega) hLK hF) kw_443 kw_445 sel_Rd_readElement kw_6 kw_446 (by decide +kernel) ⟨rfl, rfl⟩ ⟨Nat.le_of_ble_eq_true rfl, Nat.le_of_ble_eq_true rfl⟩ rfl hl.1 (Nat.le_of_ble_eq_true rfl) d_Rd_readRepetition_12 ⟨Nat.le_of_ble_eq_true rfl, Nat.le_of_ble_eq_true rfl⟩ (fun X ce q9 memx H locs hx9 hP hS g1 g2 g3 => f_out hlocks hno hP hS g1 g2 g3 ⟨Nat.le_of_ble_eq_true rfl, Nat.le_of_ble_eq_true rfl⟩ ⟨hx9.1, (hx9.2.resolve_right (fun z => z ⟨hbg, hd0, h42⟩)).eq (rep_no hd0 h42)⟩) (fun r136 mem137 H locs hq hP hS => ?_)
    have hD : va_D (Az sz) (fw n ad mem137) := fw_D hD
    obtain ⟨kx138, ax139, ux140, Rx141, Ex142, Sx143, Ax144, Bx_145, nx146, tox147, hr9148, h1149, h2150, h3151, h4152, h5153, htk154, hrk155, hRX156, rds157, h8158, hok159⟩ := hq
    subst hr9148
    have hrk160 : ∀ i9, i9 < R → mem137 (7 + i9) = mem (7 + i9) := fun i9 q9 => (hrk155 i9 (by omega)).trans (hrk0 i9 q9)
    obtain ⟨ft161, h9_162⟩ := hRX156.2.1
    have h1_163 : mem137 1 = .inr (0, [.ref (ad 2), .int (nI Z)]) := (hRX156.1.2.2 1 (by omega)).trans hT.1
    have h2_164 : mem137 2 = .inl (cy 0, 240, .inl f) := (hRX156.1.2.2 2 (by omega)).trans hT.2.2
    have h5_165 := hRX156.1.1.2.1
    have hbd171 := hRX156.1.1.1
    obtain ⟨S166, g167, hS_168, h220_169, h221_170⟩ := hRX156.1.1.2.2.2.2.2.2
    have hbd172 := hRX156.1.1.1
    exact x_aret hx hb hlocks hr (⟨kx138, ax139, ux140, Rx141, Ex142, Sx143, Ax144, Bx_145, nx146, tox147, rfl, h1149, h2150, h3151, h4152, h5153, htk154, hrk155, hRX156, rdsEq rds157 (rep_no hd0 h42), h8158⟩) hP hS d_Rd_readRepetition_15
set_option maxHeartbeats 4000000 in
set_option maxRecDepth 100000 in
theorem m_Rd_readSequence_1Y (l : Launch) {D : va_G} {cy : Nat → ClassId} {sz n : Nat} {ad : Nat → Nat} {mem : Nat → va_E} {Z a R Ec lim : Nat} {f T : Nat → Int32} {to : Nat → Int32} {nm : Nat → Int64} {m0 : Nat → va_E} {u S : Nat} {A Bw : Ro} {cq : Nat} (hlt : l.stackTraces = false) (hn : 224 ≤ n) (hT : TX cy ad Z f m0) (hf : ∀ k, k < Z → f k = T k) (hRX : RX cy ad lim a R Ec to nm m0 mem) (haB : a ≤ 300) (hER : ER ad R Ec Bw mem) (hSR : SR cy ad S Bw mem) (hSa : S ≤ a) (haZ : a ≤ Z) (hLK : LKa Ec A) (hc : A 237 1 = nI cq) (hcl : cq < Ec) (h39 : A 239 1 = -1) : NXr l D cy sz n ad y_Rd_readSequence c_Rd_readSequence 5 (some (.object "AbnfChart$Element")) ({ frames := 48, cells := 1, slots := 6, locals := 1162 } : Room) mem [.ref (ad 222), .int (1)] (fun r mem' => ∃ (a' u' R' E' S' : Nat) (A' Bw' : Ro) (nm' : Nat → Int64) (to' : Nat → Int32), r = ad (20 + 2 * Ec) ∧ Ec < E' ∧ R ≤ R' ∧ a < a' ∧ a' ≤ Z ∧ TOK R R' to to' ∧ (∀ i9, i9 < R → mem' (7 + i9) = mem (7 + i9)) ∧ RX cy ad lim (gapF T Z a') R' E' to' nm' m0 mem' ∧ RDS cy ad T Z 1 (seqS T Z a u R Ec 1 A nm) (slotOf A cq) R Ec S u A Bw Ec a' u' R' E' S' A' Bw' nm' mem' ∧ ¬ (bgF (hereF Z T (gapF T Z a')) = true ∧ a' < gapF T Z a')) (fun X mem' => ((X = cIA ∨ X = cIS) ∧ ∃ rc' ec' : Nat, RS cy ad lim rc' ec' m0 mem') ∧ (Fai T Z (seqS T Z a u R Ec 1 A nm))) := by
  refine vx_ofW (cc := c_Rd_readSequence) (maxL := 5) (ret := (some (.object "AbnfChart$Element"))) (by decide) rfl ?_
  intro p e s m args below meth c s₁ B hml hno hv
  obtain ⟨rfl, E, hP, hD⟩ := hv
  have hx := B.exec
  have hb := B.bytes
  have hr := B.returns
  have hlocks := B.notSynchronized
  have Bx : MB p s m [.ref (ad 222), .int (1)].toArray c c_Rd_readSequence "AbnfChart$Reader" D cy := ⟨hx, hb, tb_all (atoms_spec B.pre) E.2.1, findClass_of_methodNamed B.named, E.1⟩
  have hS : va_S (Az sz) s.heap s.heap [] := va_S.rf
  have hl := lv_entry ([.ref (ad 222), .int (1)]) (n := 5) (Nat.le_of_ble_eq_true rfl)
  rw [lg_entry_eq]
  generalize (lg_sl ([.ref (ad 222), .int (1)]) ++ List.replicate (5 - (lg_sl ([.ref (ad 222), .int (1)])).length) Slot.unset).toArray = ls at hl ⊢
  have hl : lv_has ls 5 [(0, .ref (ad 222)), (1, .int (1))] := hl
  have hZ9 := hT.2.1
  have hbd9 := hRX.1.1.1
  have hfr0 : ∀ i, 7 ≤ i ∧ i < 222 ∧ i ≠ 20 + 2 * Ec → mem i = mem i := fun _ _ => rfl
  have hrk0 : ∀ i9, i9 < R → mem (7 + i9) = mem (7 + i9) := fun _ _ => rfl
  obtain ⟨ft1, h9_2⟩ := hRX.2.1
  have h1_3 : mem 1 = .inr (0, [.ref (ad 2), .int (nI Z)]) := (hRX.1.2.2 1 (by omega)).trans hT.1
  have h2_4 : mem 2 = .inl (cy 0, 240, .inl f) := (hRX.1.2.2 2 (by omega)).trans hT.2.2
  have h5_5 := hRX.1.1.2.1
  have hbd11 := hRX.1.1.1
  obtain ⟨S6, g7, hS_8, h220_9, h221_10⟩ := hRX.1.1.2.2.2.2.2.2
  refine lv_aload_n Bx.1 Bx.2.1 d_Rd_readSequence_0 rfl (lv_at hl 0 rfl) ?_
  refine lv_iconst (v := 1) Bx.1 Bx.2.1 d_Rd_readSequence_1 (by decide) ?_
  refine f_xVr (na := 1) (As := [.int (1)]) (rest := []) Bx hml E hP hD hS (by omega) h9_2 rfl (m_Rd_beginRowY l hlt hn hT hf hRX (by omega)) kw_409 kw_411 sel_Rd_beginRow kw_6 kw_412 (by decide +kernel) ⟨rfl, rfl⟩ ⟨Nat.le_of_ble_eq_true rfl, Nat.le_of_ble_eq_true rfl⟩ rfl hl.1 (Nat.le_of_ble_eq_true rfl) d_Rd_readSequence_2 ⟨Nat.le_of_ble_eq_true rfl, Nat.le_of_ble_eq_true rfl⟩ (fun X ce q9 memx H locs hx9 hP hS g1 g2 g3 => f_out hlocks hno hP hS g1 g2 g3 ⟨Nat.le_of_ble_eq_true rfl, Nat.le_of_ble_eq_true rfl⟩ ⟨hx9.1, Or.inl (seq_no hx9.2)⟩) (fun r12 mem13 H locs hq hP hS => ?_)
  have hD : va_D (Az sz) (fw n ad mem13) := fw_D hD
  obtain ⟨hbg, hE9, hr9, hRXb, hclb, hfab⟩ := hq
  subst hr9
  have hrk14 : ∀ i9, i9 < R → mem13 (7 + i9) = mem (7 + i9) := fun i9 q9 => (hfab (7 + i9) (by omega)).trans (hrk0 i9 q9)
  have hfr15 : ∀ i, 7 ≤ i ∧ i < 222 ∧ i ≠ 20 + 2 * Ec → mem13 i = mem i := fun i q => (hfab i (by omega)).trans (hfr0 i q)
  obtain ⟨ft16, h9_17⟩ := hRXb.2.1
  have h1_18 : mem13 1 = .inr (0, [.ref (ad 2), .int (nI Z)]) := (hRXb.1.2.2 1 (by omega)).trans hT.1
  have h2_19 : mem13 2 = .inl (cy 0, 240, .inl f) := (hRXb.1.2.2 2 (by omega)).trans hT.2.2
  have h5_20 := hRXb.1.1.2.1
  have hbd26 := hRXb.1.1.1
  obtain ⟨S21, g22, hS_23, h220_24, h221_25⟩ := hRXb.1.1.2.2.2.2.2.2
  obtain ⟨ft27, h9_28⟩ := hRXb.2.1
  have h1_29 : mem13 1 = .inr (0, [.ref (ad 2), .int (nI Z)]) := (hRXb.1.2.2 1 (by omega)).trans hT.1
  have h2_30 : mem13 2 = .inl (cy 0, 240, .inl f) := (hRXb.1.2.2 2 (by omega)).trans hT.2.2
  have h5_31 := hRXb.1.1.2.1
  have hbd37 := hRXb.1.1.1
  obtain ⟨S32, g33, hS_34, h220_35, h221_36⟩ := hRXb.1.1.2.2.2.2.2.2
  refine lv_astore_n (lv' := [(2, .ref (ad (20 + 2 * Ec))), (0, .ref (ad 222)), (1, .int (1))]) Bx.1 Bx.2.1 d_Rd_readSequence_5 rfl hl (by decide) rfl (fun ls hl => ?_)
  refine lv_aload_n Bx.1 Bx.2.1 d_Rd_readSequence_6 rfl (lv_at hl 1 rfl) ?_
  refine lv_iload_n Bx.1 Bx.2.1 d_Rd_readSequence_7 rfl (lv_at hl 2 rfl) ?_
  have her38 : ER ad R (Ec + 1) (bwN Bw Ec 1 (0) (0) (-1) (-1) (-1) (Bw 234)) mem13 := hER.new (Nat.le_refl _) (by rw [vR_m]; exact hclb) (Or.inl rfl) (fun i9 hi9 => hfr15 (20 + 2 * i9) (by omega))
  have hsr39 : SR cy ad S (bwN Bw Ec 1 (0) (0) (-1) (-1) (-1) (Bw 234)) mem13 := ⟨(hfr15 220 (by omega)).trans hSR.1, (hfr15 221 (by omega)).trans hSR.2⟩
  obtain ⟨hLK1, hF1, h391⟩ := frm_seq hLK hE9 hc hcl h39
  refine f_xVr (na := 1) (As := [.int (1)]) (rest := []) Bx hml E hP hD hS (by omega) h9_28 rfl (m_Rd_readRepetition_1Y l hlt hn hT hf hRXb (by omega) (u := u) (A := seqA A 1 Ec) her38 hsr39 (by omega) (by omega) hLK1 hF1 h391 hbg) kw_439 kw_441 sel_Rd_readRepetition kw_6 kw_442 (by decide +kernel) ⟨rfl, rfl⟩ ⟨Nat.le_of_ble_eq_true rfl, Nat.le_of_ble_eq_true rfl⟩ rfl hl.1 (Nat.le_of_ble_eq_true rfl) d_Rd_readSequence_8 ⟨Nat.le_of_ble_eq_true rfl, Nat.le_of_ble_eq_true rfl⟩ (fun X ce q9 memx H locs hx9 hP hS g1 g2 g3 => f_out hlocks hno hP hS g1 g2 g3 ⟨Nat.le_of_ble_eq_true rfl, Nat.le_of_ble_eq_true rfl⟩ ⟨hx9.1, hx9.2.eq (seq_ok hbg hE9)⟩) (fun r40 mem41 H locs hq hP hS => ?_)
  have hD : va_D (Az sz) (fw n ad mem41) := fw_D hD
  obtain ⟨kx42, ax43, ux44, Rx45, Ex46, Sx47, Ax48, Bx_49, nx50, tox51, hr952, h153, h254, h355, h456, h557, htk58, hrk59, hRX60, rds61, h862⟩ := hq
  subst hr952
  have hrk63 : ∀ i9, i9 < R → mem41 (7 + i9) = mem (7 + i9) := fun i9 q9 => (hrk59 i9 (by omega)).trans (hrk14 i9 q9)
  obtain ⟨ft64, h9_65⟩ := hRX60.2.1
  have h1_66 : mem41 1 = .inr (0, [.ref (ad 2), .int (nI Z)]) := (hRX60.1.2.2 1 (by omega)).trans hT.1
  have h2_67 : mem41 2 = .inl (cy 0, 240, .inl f) := (hRX60.1.2.2 2 (by omega)).trans hT.2.2
  have h5_68 := hRX60.1.1.2.1
  have hbd74 := hRX60.1.1.1
  obtain ⟨S69, g70, hS_71, h220_72, h221_73⟩ := hRX60.1.1.2.2.2.2.2.2
  have hbd75 := hRX60.1.1.1
  refine lv_astore_n (lv' := [(3, .ref (ad (20 + 2 * kx42))), (2, .ref (ad (20 + 2 * Ec))), (0, .ref (ad 222)), (1, .int (1))]) Bx.1 Bx.2.1 d_Rd_readSequence_11 rfl hl (by decide) rfl (fun ls hl => ?_)
  refine lv_aload_n Bx.1 Bx.2.1 d_Rd_readSequence_12 rfl (lv_at hl 1 rfl) ?_
  refine lv_aload_n Bx.1 Bx.2.1 d_Rd_readSequence_13 rfl (lv_at hl 0 rfl) ?_
  have hce76 := (rds61.2.1 Ec (by omega)).1
  refine f_putN Bx hP hD hS (by omega) hce76 rfl inEl tyEl okEl nmEl 4 (by decide) kw_87 rfl rfl rfl rfl (Nat.le_of_ble_eq_true rfl) d_Rd_readSequence_14 (fun H locs hP hS => ?_)
  obtain ⟨mem77, e_mem77⟩ : ∃ z, z = va_up mem41 ((20 + 2 * Ec)) (.inr (2, [.int (Bx_49 228 Ec), .int (Bx_49 229 Ec), .int (Bx_49 230 Ec), vR ad (Bx_49 231 Ec), .ref (ad (20 + 2 * kx42)), vE ad (Bx_49 233 Ec), .ref (ad (21 + 2 * Ec))])) := ⟨_, rfl⟩
  have hP : va_P D vcl (fw n ad mem77) H := by rw [e_mem77]; exact hP
  have hD : va_D (Az sz) (fw n ad mem77) := fw_D hD
  have h_mem77 : mem77 ((20 + 2 * Ec)) = .inr (2, [.int (Bx_49 228 Ec), .int (Bx_49 229 Ec), .int (Bx_49 230 Ec), vR ad (Bx_49 231 Ec), .ref (ad (20 + 2 * kx42)), vE ad (Bx_49 233 Ec), .ref (ad (21 + 2 * Ec))]) := by rw [e_mem77, va_up_self]
  have hh78 := (va_up_ne mem41 (.inr (2, [.int (Bx_49 228 Ec), .int (Bx_49 229 Ec), .int (Bx_49 230 Ec), vR ad (Bx_49 231 Ec), .ref (ad (20 + 2 * kx42)), vE ad (Bx_49 233 Ec), .ref (ad (21 + 2 * Ec))])) (show (222 : Nat) ≠ (20 + 2 * Ec) by first | decide | assumption | omega)).trans h9_65
  rw [← e_mem77] at hh78
  have hh79 := (va_up_ne mem41 (.inr (2, [.int (Bx_49 228 Ec), .int (Bx_49 229 Ec), .int (Bx_49 230 Ec), vR ad (Bx_49 231 Ec), .ref (ad (20 + 2 * kx42)), vE ad (Bx_49 233 Ec), .ref (ad (21 + 2 * Ec))])) (show (1 : Nat) ≠ (20 + 2 * Ec) by first | decide | assumption | omega)).trans h1_66
  rw [← e_mem77] at hh79
  have hh80 := (va_up_ne mem41 (.inr (2, [.int (Bx_49 228 Ec), .int (Bx_49 229 Ec), .int (Bx_49 230 Ec), vR ad (Bx_49 231 Ec), .ref (ad (20 + 2 * kx42)), vE ad (Bx_49 233 Ec), .ref (ad (21 + 2 * Ec))])) (show (5 : Nat) ≠ (20 + 2 * Ec) by first | decide | assumption | omega)).trans h5_68
  rw [← e_mem77] at hh80
  have hh81 := (va_up_ne mem41 (.inr (2, [.int (Bx_49 228 Ec), .int (Bx_49 229 Ec), .int (Bx_49 230 Ec), vR ad (Bx_49 231 Ec), .ref (ad (20 + 2 * kx42)), vE ad (Bx_49 233 Ec), .ref (ad (21 + 2 * Ec))])) (show (220 : Nat) ≠ (20 + 2 * Ec) by first | decide | assumption | omega)).trans h220_72
  rw [← e_mem77] at hh81
  have hrk82 : ∀ i9, i9 < R → mem77 (7 + i9) = mem (7 + i9) := fun i9 q9 => (show mem77 (7 + i9) = mem41 (7 + i9) by rw [e_mem77]; exact va_up_ne _ _ (by omega)).trans (hrk63 i9 q9)
  have hRX83 : RX cy ad lim (ax43) (Rx45) (Ex46) (tox51) (nx50) m0 mem77 := by rw [e_mem77]; exact hRX60.el (by omega) (hRX60.1.mk (by omega) (hRX60.1.1.upEl (by omega) (fun _ => ⟨(rds61.2.1 Ec (by omega)).2.1.oR ad, Or.inr ⟨kx42, by omega, by omega, rfl⟩, (rds61.2.1 Ec (by omega)).2.2.2.oE ad (by omega)⟩)))
  have her84 : ER ad (Rx45) (Ex46) (va_up Bx_49 232 (upd (Bx_49 232) Ec (nI kx42))) mem77 := rds61.2.1.part (by omega) (by omega) (by omega) h_mem77 (fun i9 q9 hi9 => by rw [e_mem77]; exact va_up_ne _ _ (by omega))
  have hsr85 : SR cy ad (Sx47) (Bx_49) mem77 := ⟨(show mem77 220 = mem41 220 by rw [e_mem77]; exact va_up_ne _ _ (by omega)).trans rds61.2.2.1.1, (show mem77 221 = mem41 221 by rw [e_mem77]; exact va_up_ne _ _ (by omega)).trans rds61.2.2.1.2⟩
  obtain ⟨ft86, h9_87⟩ := hRX83.2.1
  have h1_88 : mem77 1 = .inr (0, [.ref (ad 2), .int (nI Z)]) := (hRX83.1.2.2 1 (by omega)).trans hT.1
  have h2_89 : mem77 2 = .inl (cy 0, 240, .inl f) := (hRX83.1.2.2 2 (by omega)).trans hT.2.2
  have h5_90 := hRX83.1.1.2.1
  have hbd96 := hRX83.1.1.1
  obtain ⟨S91, g92, hS_93, h220_94, h221_95⟩ := hRX83.1.1.2.2.2.2.2.2
  refine lv_iconst (v := 0) Bx.1 Bx.2.1 d_Rd_readSequence_17 (by decide) ?_
  refine lv_istore (lv' := [(4, .int (0)), (3, .ref (ad (20 + 2 * kx42))), (2, .ref (ad (20 + 2 * Ec))), (0, .ref (ad 222)), (1, .int (1))]) Bx.1 Bx.2.1 d_Rd_readSequence_18 hl (by decide) rfl (fun ls hl => ?_)
  have hsl9 := slot_lt hLK (by omega) hcl
  have hsq0 := seq_first hLK hE9 hc hcl h39 rds61 h862 ⟨by omega, by omega⟩ (by omega) (seq_ok (u := u) (R := R) (f := 1) (A := A) (nm := nm) hbg hE9) her84 hsr85
  have loop97 : ∀ (d98 : Nat) (mem9 : Nat → va_E) (a1 : Nat) (u1 : Nat) (R1 : Nat) (E1 : Nat) (S1 : Nat) (A1 : Ro) (B1 : Ro) (n1 : Nat → Int64) (to1 : Nat → Int32) (la : Nat) (k9 : Nat) (ls : Array Slot) (H : Heap) (locs : List Loc), (240 - k9 < d98) → (RX cy ad lim a1 R1 E1 to1 n1 m0 mem9) → (a < a1 ∧ a1 ≤ Z ∧ R ≤ R1 ∧ k9 < a1 ∧ k9 ≤ 240) → (SQI cy ad T Z 1 (seqS T Z a u R Ec 1 A nm) (slotOf A cq) R Ec S u A Bw la a1 u1 R1 E1 S1 A1 B1 n1 mem9) → (TOK R R1 to to1) → (∀ i9, i9 < R → mem9 (7 + i9) = mem (7 + i9)) → (va_P D vcl (fw n ad mem9) H) → (va_D (Az sz) (fw n ad mem9)) → (va_S (Az sz) s.heap H locs) → (lv_has ls 5 [(4, .int (nI k9)), (3, .ref (ad (20 + 2 * la))), (2, .ref (ad (20 + 2 * Ec))), (0, .ref (ad 222)), (1, .int (1))]) → W p l e (headSpec (Cond.code y_Rd_readSequence c_Rd_readSequence 5 (some (.object "AbnfChart$Element")) :: tg) ({ frames := 48, cells := 1, slots := 6, locals := 1162 } : Room)).room s m [.ref (ad 222), .int (1)].toArray below meth c H locs 0 0 (vx_MQ below (QX (QR (fun r mem' => ∃ (a' u' R' E' S' : Nat) (A' Bw' : Ro) (nm' : Nat → Int64) (to' : Nat → Int32), r = ad (20 + 2 * Ec) ∧ Ec < E' ∧ R ≤ R' ∧ a < a' ∧ a' ≤ Z ∧ TOK R R' to to' ∧ (∀ i9, i9 < R → mem' (7 + i9) = mem (7 + i9)) ∧ RX cy ad lim (gapF T Z a') R' E' to' nm' m0 mem' ∧ RDS cy ad T Z 1 (seqS T Z a u R Ec 1 A nm) (slotOf A cq) R Ec S u A Bw Ec a' u' R' E' S' A' Bw' nm' mem' ∧ ¬ (bgF (hereF Z T (gapF T Z a')) = true ∧ a' < gapF T Z a')) (PP D n ad) (Az sz))) (XQ D sz n ad (fun X mem' => ((X = cIA ∨ X = cIS) ∧ ∃ rc' ec' : Nat, RS cy ad lim rc' ec' m0 mem') ∧ (Fai T Z (seqS T Z a u R Ec 1 A nm)))) [.ref (ad 222), .int (1)].toArray s 1 6 (Az sz)) (F0 m 20 ls []) := by
    intro d98
    induction d98 with
    | zero => intro mem9 a1 u1 R1 E1 S1 A1 B1 n1 to1 la k9 ls H locs hmeas105; exact absurd hmeas105 (Nat.not_lt_zero _)
    | succ d98 ih104 =>
      intro mem9 a1 u1 R1 E1 S1 A1 B1 n1 to1 la k9 ls H locs hmeas105 hz99 hz100 hz101 hz102 hz103 hP hD hS hl
      have hbd8 := hz100
      have hsq := hz101
      have hbdE := hz99.1.1.1
      have hla := hsq.2.2.2
      have hSa1 := hsq.1.2.2.2.1.2.1
      have hlka := sqi_lka hsq hLK hsl9
      obtain ⟨ft106, h9_107⟩ := hz99.2.1
      have h1_108 : mem9 1 = .inr (0, [.ref (ad 2), .int (nI Z)]) := (hz99.1.2.2 1 (by omega)).trans hT.1
      have h2_109 : mem9 2 = .inl (cy 0, 240, .inl f) := (hz99.1.2.2 2 (by omega)).trans hT.2.2
      have h5_110 := hz99.1.1.2.1
      have hbd116 := hz99.1.1.1
      obtain ⟨S111, g112, hS_113, h220_114, h221_115⟩ := hz99.1.1.2.2.2.2.2.2
      refine lv_iload Bx.1 Bx.2.1 d_Rd_readSequence_20 (lv_at hl 0 rfl) ?_
      refine lv_sipush (v := 240) Bx.1 Bx.2.1 d_Rd_readSequence_22 (by decide) ?_
      refine lv_icmp_ge Bx.1 Bx.2.1 d_Rd_readSequence_25 rfl (fun hb117 => ?_) (fun hb117 => ?_)
      · have hN118 : 240 ≤ k9 := (nI_leI (by omega) (by omega)).mp (show nI (240) ≤ nI (k9) from hb117)
        exact absurd hbd8 (by omega)
      · have hN119 : ¬ 240 ≤ k9 := fun q9 => hb117 (show nI (240) ≤ nI (k9) from (nI_leI (by omega) (by omega)).mpr q9)
        refine lv_aload_n Bx.1 Bx.2.1 d_Rd_readSequence_28 rfl (lv_at hl 3 rfl) ?_
        refine f_callVi (na := 0) (As := []) (rest := []) Bx hml E hP hD hS (by omega) h9_107 rfl (m_Rd_readGapY l hn hT hf hz99 (by omega) (by omega)) kw_397 kw_399 sel_Rd_readGap kw_6 kw_400 (by decide +kernel) ⟨rfl, rfl⟩ ⟨Nat.le_of_ble_eq_true rfl, Nat.le_of_ble_eq_true rfl⟩ rfl hl.1 (Nat.le_of_ble_eq_true rfl) d_Rd_readSequence_29 ⟨Nat.le_of_ble_eq_true rfl, Nat.le_of_ble_eq_true rfl⟩ (fun r120 mem121 H locs hq hP hS => ?_)
        have hD : va_D (Az sz) (fw n ad mem121) := fw_D hD
        obtain ⟨g122, eg123⟩ : ∃ z, z = gapF T Z (a1) := ⟨_, rfl⟩
        rw [← eg123] at hq
        obtain ⟨hRX124, hgc125, hfa126⟩ := hq
        have hg127 : a1 ≤ g122 := by rw [eg123]; exact gapF_ge T Z _
        have hg128 : g122 ≤ Z := by rw [eg123]; exact gapF_le T (by omega)
        have hrk129 : ∀ i9, i9 < R → mem121 (7 + i9) = mem (7 + i9) := fun i9 q9 => (hfa126 (7 + i9) (by omega)).trans (hz103 i9 q9)
        obtain ⟨ft130, h9_131⟩ := hRX124.2.1
        have h1_132 : mem121 1 = .inr (0, [.ref (ad 2), .int (nI Z)]) := (hRX124.1.2.2 1 (by omega)).trans hT.1
        have h2_133 : mem121 2 = .inl (cy 0, 240, .inl f) := (hRX124.1.2.2 2 (by omega)).trans hT.2.2
        have h5_134 := hRX124.1.1.2.1
        have hbd140 := hRX124.1.1.1
        obtain ⟨S135, g136, hS_137, h220_138, h221_139⟩ := hRX124.1.1.2.2.2.2.2.2
        have her141 : ER ad (R1) (E1) (B1) mem121 := hsq.1.2.1.fr (Nat.le_refl _) (fun i9 hi9 => hfa126 _ (by omega))
        have hsr142 : SR cy ad (S1) (B1) mem121 := ⟨(show mem121 220 = _ from hfa126 _ (by omega)).trans hsq.1.2.2.1.1, (show mem121 221 = _ from hfa126 _ (by omega)).trans hsq.1.2.2.1.2⟩
        rcases hgc125 with ⟨hr143, hga144⟩ | ⟨hr143, hga144⟩
        · subst hr143
          refine lv_if_eq Bx.1 Bx.2.1 d_Rd_readSequence_32 rfl (fun hb145 => ?_) (fun hb145 => ?_)
          · exact absurd hb145 (by decide)
          · refine lv_aload_n Bx.1 Bx.2.1 d_Rd_readSequence_35 rfl (lv_at hl 3 rfl) ?_
            refine f_callVi (na := 0) (As := []) (rest := []) Bx hml E hP hD hS (by omega) h9_131 rfl (m_Rd_peekX l hn hT hf hRX124 (by omega)) kw_353 kw_355 sel_Rd_peek kw_6 kw_356 (by decide +kernel) ⟨rfl, rfl⟩ ⟨Nat.le_of_ble_eq_true rfl, Nat.le_of_ble_eq_true rfl⟩ rfl hl.1 (Nat.le_of_ble_eq_true rfl) d_Rd_readSequence_36 ⟨Nat.le_of_ble_eq_true rfl, Nat.le_of_ble_eq_true rfl⟩ (fun r147 mem148 H locs hq hP hS => ?_)
            have hD : va_D (Az sz) (fw n ad mem148) := fw_D hD
            obtain ⟨hqe, hpk146⟩ := hq
            rw [hqe] at hP hD
            subst hpk146
            refine f_callSi (na := 1) (As := [.int (hereF Z T (g122))]) (rest := []) Bx hml E.2.1 (m_Rd_beginsRepetitionX l (hereF Z T (g122))) kw_413 kw_414 kw_6 kw_415 (by decide +kernel) ⟨rfl, rfl⟩ ⟨Nat.le_of_ble_eq_true rfl, Nat.le_of_ble_eq_true rfl⟩ rfl hl.1 (Nat.le_of_ble_eq_true rfl) d_Rd_readSequence_39 ⟨Nat.le_of_ble_eq_true rfl, Nat.le_of_ble_eq_true rfl⟩ (fun r151 hs150 => ?_)
            subst hs150
            refine lv_if_eq Bx.1 Bx.2.1 d_Rd_readSequence_42 rfl (fun hb152 => ?_) (fun hb152 => ?_)
            · refine lv_aload_n Bx.1 Bx.2.1 d_Rd_readSequence_65 rfl (lv_at hl 2 rfl) ?_
              exact x_aret hx hb hlocks hr (⟨a1, u1, R1, E1, S1, A1, B1, n1, to1, rfl, by omega, by omega, by omega, by omega, hz102, hrk129, by rw [← eg123]; exact hRX124, ⟨hsq.1.1, her141, hsr142, hsq.1.2.2.2⟩, fun z => by have q9 := z.1; rw [← eg123, bg_0 hb152] at q9; exact absurd q9 (by decide)⟩) hP hS d_Rd_readSequence_66
            · have hbg2 : bgF (hereF Z T (gapF T Z a1)) = true := by rw [← eg123]; exact bg_1 hb152
              have hgt2 : a1 < gapF T Z a1 := by rw [← eg123]; omega
              have h238 := hsq.2.1
              have h239 : A1 239 1 = -1 := hsq.1.2.2.2.2.2.2.2.2.2.2
              refine lv_aload_n Bx.1 Bx.2.1 d_Rd_readSequence_45 rfl (lv_at hl 1 rfl) ?_
              refine lv_aload_n Bx.1 Bx.2.1 d_Rd_readSequence_46 rfl (lv_at hl 3 rfl) ?_
              refine lv_iload_n Bx.1 Bx.2.1 d_Rd_readSequence_47 rfl (lv_at hl 4 rfl) ?_
              refine f_xVr (na := 1) (As := [.int (1)]) (rest := [.ref (ad (20 + 2 * la))]) Bx hml E hP hD hS (by omega) h9_131 rfl (m_Rd_readRepetition_1Y l hlt hn hT hf hRX124 (by omega) (u := u1) (A := A1) her141 hsr142 (by omega) (by omega) hlka ⟨⟨Ec, by omega, h238⟩, Or.inl h239⟩ h239 (by rw [eg123]; exact hbg2)) kw_439 kw_441 sel_Rd_readRepetition kw_6 kw_442 (by decide +kernel) ⟨rfl, rfl⟩ ⟨Nat.le_of_ble_eq_true rfl, Nat.le_of_ble_eq_true rfl⟩ rfl hl.1 (Nat.le_of_ble_eq_true rfl) d_Rd_readSequence_48 ⟨Nat.le_of_ble_eq_true rfl, Nat.le_of_ble_eq_true rfl⟩ (fun X ce q9 memx H locs hx9 hP hS g1 g2 g3 => f_out hlocks hno hP hS g1 g2 g3 ⟨Nat.le_of_ble_eq_true rfl, Nat.le_of_ble_eq_true rfl⟩ ⟨hx9.1, hsq.1.1.fai (go_rept hbg2 hgt2) (by rw [← eg123]; exact hx9.2)⟩) (fun r153 mem154 H locs hq hP hS => ?_)
              have hD : va_D (Az sz) (fw n ad mem154) := fw_D hD
              obtain ⟨kx155, ax156, ux157, Rx158, Ex159, Sx160, Ax161, Bx_162, nx163, tox164, hr9165, h1166, h2167, h3168, h4169, h5170, htk171, hrk172, hRX173, rds174, h8175⟩ := hq
              subst hr9165
              have hrk176 : ∀ i9, i9 < R → mem154 (7 + i9) = mem (7 + i9) := fun i9 q9 => (hrk172 i9 (by omega)).trans (hrk129 i9 q9)
              obtain ⟨ft177, h9_178⟩ := hRX173.2.1
              have h1_179 : mem154 1 = .inr (0, [.ref (ad 2), .int (nI Z)]) := (hRX173.1.2.2 1 (by omega)).trans hT.1
              have h2_180 : mem154 2 = .inl (cy 0, 240, .inl f) := (hRX173.1.2.2 2 (by omega)).trans hT.2.2
              have h5_181 := hRX173.1.1.2.1
              have hbd187 := hRX173.1.1.1
              obtain ⟨S182, g183, hS_184, h220_185, h221_186⟩ := hRX173.1.1.2.2.2.2.2.2
              have hbd188 := hRX173.1.1.1
              have hce189 := (rds174.2.1 la (by omega)).1
              refine f_putN Bx hP hD hS (by omega) hce189 rfl inEl tyEl okEl nmEl 5 (by decide) kw_91 rfl rfl rfl rfl (Nat.le_of_ble_eq_true rfl) d_Rd_readSequence_51 (fun H locs hP hS => ?_)
              obtain ⟨mem190, e_mem190⟩ : ∃ z, z = va_up mem154 ((20 + 2 * la)) (.inr (2, [.int (Bx_162 228 la), .int (Bx_162 229 la), .int (Bx_162 230 la), vR ad (Bx_162 231 la), vE ad (Bx_162 232 la), .ref (ad (20 + 2 * kx155)), .ref (ad (21 + 2 * la))])) := ⟨_, rfl⟩
              have hP : va_P D vcl (fw n ad mem190) H := by rw [e_mem190]; exact hP
              have hD : va_D (Az sz) (fw n ad mem190) := fw_D hD
              have h_mem190 : mem190 ((20 + 2 * la)) = .inr (2, [.int (Bx_162 228 la), .int (Bx_162 229 la), .int (Bx_162 230 la), vR ad (Bx_162 231 la), vE ad (Bx_162 232 la), .ref (ad (20 + 2 * kx155)), .ref (ad (21 + 2 * la))]) := by rw [e_mem190, va_up_self]
              have hh191 := (va_up_ne mem154 (.inr (2, [.int (Bx_162 228 la), .int (Bx_162 229 la), .int (Bx_162 230 la), vR ad (Bx_162 231 la), vE ad (Bx_162 232 la), .ref (ad (20 + 2 * kx155)), .ref (ad (21 + 2 * la))])) (show (222 : Nat) ≠ (20 + 2 * la) by first | decide | assumption | omega)).trans h9_178
              rw [← e_mem190] at hh191
              have hh192 := (va_up_ne mem154 (.inr (2, [.int (Bx_162 228 la), .int (Bx_162 229 la), .int (Bx_162 230 la), vR ad (Bx_162 231 la), vE ad (Bx_162 232 la), .ref (ad (20 + 2 * kx155)), .ref (ad (21 + 2 * la))])) (show (1 : Nat) ≠ (20 + 2 * la) by first | decide | assumption | omega)).trans h1_179
              rw [← e_mem190] at hh192
              have hh193 := (va_up_ne mem154 (.inr (2, [.int (Bx_162 228 la), .int (Bx_162 229 la), .int (Bx_162 230 la), vR ad (Bx_162 231 la), vE ad (Bx_162 232 la), .ref (ad (20 + 2 * kx155)), .ref (ad (21 + 2 * la))])) (show (5 : Nat) ≠ (20 + 2 * la) by first | decide | assumption | omega)).trans h5_181
              rw [← e_mem190] at hh193
              have hh194 := (va_up_ne mem154 (.inr (2, [.int (Bx_162 228 la), .int (Bx_162 229 la), .int (Bx_162 230 la), vR ad (Bx_162 231 la), vE ad (Bx_162 232 la), .ref (ad (20 + 2 * kx155)), .ref (ad (21 + 2 * la))])) (show (220 : Nat) ≠ (20 + 2 * la) by first | decide | assumption | omega)).trans h220_185
              rw [← e_mem190] at hh194
              have hrk195 : ∀ i9, i9 < R → mem190 (7 + i9) = mem (7 + i9) := fun i9 q9 => (show mem190 (7 + i9) = mem154 (7 + i9) by rw [e_mem190]; exact va_up_ne _ _ (by omega)).trans (hrk176 i9 q9)
              have hRX196 : RX cy ad lim (ax156) (Rx158) (Ex159) (tox164) (nx163) m0 mem190 := by rw [e_mem190]; exact hRX173.el (by omega) (hRX173.1.mk (by omega) (hRX173.1.1.upEl (by omega) (fun _ => ⟨(rds174.2.1 la (by omega)).2.1.oR ad, (rds174.2.1 la (by omega)).2.2.1.oE ad (by omega), Or.inr ⟨kx155, by omega, by omega, rfl⟩⟩)))
              have her197 : ER ad (Rx158) (Ex159) (va_up Bx_162 233 (upd (Bx_162 233) la (nI kx155))) mem190 := rds174.2.1.next (by omega) (by omega) (by omega) h_mem190 (fun i9 q9 hi9 => by rw [e_mem190]; exact va_up_ne _ _ (by omega))
              have hsr198 : SR cy ad (Sx160) (Bx_162) mem190 := ⟨(show mem190 220 = mem154 220 by rw [e_mem190]; exact va_up_ne _ _ (by omega)).trans rds174.2.2.1.1, (show mem190 221 = mem154 221 by rw [e_mem190]; exact va_up_ne _ _ (by omega)).trans rds174.2.2.1.2⟩
              obtain ⟨ft199, h9_200⟩ := hRX196.2.1
              have h1_201 : mem190 1 = .inr (0, [.ref (ad 2), .int (nI Z)]) := (hRX196.1.2.2 1 (by omega)).trans hT.1
              have h2_202 : mem190 2 = .inl (cy 0, 240, .inl f) := (hRX196.1.2.2 2 (by omega)).trans hT.2.2
              have h5_203 := hRX196.1.1.2.1
              have hbd209 := hRX196.1.1.1
              obtain ⟨S204, g205, hS_206, h220_207, h221_208⟩ := hRX196.1.1.2.2.2.2.2.2
              refine lv_aload_n Bx.1 Bx.2.1 d_Rd_readSequence_54 rfl (lv_at hl 1 rfl) ?_
              refine f_getN Bx hP (by omega) h_mem190 rfl inEl 5 (by decide) kw_91 rfl rfl d_Rd_readSequence_55 ?_
              refine lv_astore_n (lv' := [(3, .ref (ad (20 + 2 * kx155))), (4, .int (nI k9)), (2, .ref (ad (20 + 2 * Ec))), (0, .ref (ad 222)), (1, .int (1))]) Bx.1 Bx.2.1 d_Rd_readSequence_58 rfl hl (by decide) rfl (fun ls hl => ?_)
              refine lv_iinc (lv' := [(4, .int ((nI k9 + (1)))), (3, .ref (ad (20 + 2 * kx155))), (2, .ref (ad (20 + 2 * Ec))), (0, .ref (ad 222)), (1, .int (1))]) Bx.1 Bx.2.1 d_Rd_readSequence_59 hl (k := 1) rfl rfl (by decide) rfl (fun ls hl => ?_)
              rw [show (nI k9 + (1) : Int32) = nI (k9 + 1) from nI_1 (k9)] at hl
              refine lv_goto Bx.1 Bx.2.1 d_Rd_readSequence_62 rfl ?_
              have hsq3 := seq_step hsq (by omega) hlka (by omega) hsl9 rds174 h8175 ⟨by omega, by omega⟩ (by omega) (by rw [eg123]; exact go_rept hbg2 hgt2) her197 hsr198
              exact ih104 mem190 (ax156) (ux157) (Rx158) (Ex159) (Sx160) (Ax161) ((va_up Bx_162 233 (upd (Bx_162 233) la (nI kx155)))) (nx163) (tox164) (kx155) (k9 + 1) _ _ _ (by have := hmeas105; omega) (hRX196) (⟨by omega, by omega, by omega, by omega, by omega⟩) (hsq3) (hz102.trans htk171 (by omega)) (hrk195) hP hD hS (lv_sub hl [0, 1, 2, 3, 4] rfl)
        · subst hr143
          refine lv_if_eq Bx.1 Bx.2.1 d_Rd_readSequence_32 rfl (fun hb210 => ?_) (fun hb210 => ?_)
          · refine lv_aload_n Bx.1 Bx.2.1 d_Rd_readSequence_65 rfl (lv_at hl 2 rfl) ?_
            exact x_aret hx hb hlocks hr (⟨a1, u1, R1, E1, S1, A1, B1, n1, to1, rfl, by omega, by omega, by omega, by omega, hz102, hrk129, by rw [← eg123]; exact hRX124, ⟨hsq.1.1, her141, hsr142, hsq.1.2.2.2⟩, fun z => by have := z.2; rw [← eg123] at this; omega⟩) hP hS d_Rd_readSequence_66
          · exact absurd hb210 (by decide)
  exact loop97 _ mem77 (ax43) (ux44) (Rx45) (Ex46) (Sx47) (Ax48) ((va_up Bx_49 232 (upd (Bx_49 232) Ec (nI kx42)))) (nx50) (tox51) (kx42) (0) _ _ _ (Nat.lt_succ_self _) (hRX83) (⟨by omega, by omega, by omega, by omega, by omega⟩) (hsq0) (htk58) (hrk82) hP hD hS (lv_sub hl [0, 1, 2, 3, 4] rfl)
set_option maxHeartbeats 4000000 in
set_option maxRecDepth 100000 in
theorem m_Rd_readAlternatives_1Y (l : Launch) {D : va_G} {cy : Nat → ClassId} {sz n : Nat} {ad : Nat → Nat} {mem : Nat → va_E} {Z a R Ec lim : Nat} {f T : Nat → Int32} {to : Nat → Int32} {nm : Nat → Int64} {m0 : Nat → va_E} {u S : Nat} {A Bw : Ro} {cq : Nat} (hlt : l.stackTraces = false) (hn : 224 ≤ n) (hT : TX cy ad Z f m0) (hf : ∀ k, k < Z → f k = T k) (hRX : RX cy ad lim a R Ec to nm m0 mem) (haB : a ≤ 300) (hER : ER ad R Ec Bw mem) (hSR : SR cy ad S Bw mem) (hSa : S ≤ a) (haZ : a ≤ Z) (hLK : LKa (Ec + 1) A) (hc : A 237 1 = nI cq) (hcl : cq ≤ Ec) (h39 : A 239 1 = -1) : NXr l D cy sz n ad y_Rd_readAlternatives c_Rd_readAlternatives 5 (some (.object "AbnfChart$Element")) ({ frames := 49, cells := 1, slots := 6, locals := 1188 } : Room) mem [.ref (ad 222), .int (1)] (fun r mem' => ∃ (la a' u' R' E' S' : Nat) (A' Bw' : Ro) (nm' : Nat → Int64) (to' : Nat → Int32), r = ad (20 + 2 * Ec) ∧ Ec + 1 < E' ∧ R ≤ R' ∧ a < a' ∧ a' ≤ Z ∧ TOK R R' to to' ∧ (∀ i9, i9 < R → mem' (7 + i9) = mem (7 + i9)) ∧ RX cy ad lim (gapF T Z a') R' E' to' nm' m0 mem' ∧ ALI cy ad T Z 1 (seqS T Z a u R (Ec + 1) 1 A nm) cq R Ec S u A Bw la a' u' R' E' S' A' Bw' nm' mem' ∧ bgF (hereF Z T a) = true ∧ Ec < 100 ∧ ¬ hereF Z T (gapF T Z a') = 47 ∧ ¬ (bgF (hereF Z T (gapF T Z a')) = true ∧ a' < gapF T Z a')) (fun X mem' => ((X = cIA ∨ X = cIS) ∧ ∃ rc' ec' : Nat, RS cy ad lim rc' ec' m0 mem') ∧ (bgF (hereF Z T a) = false ∨ Ec = 100 ∨ (bgF (hereF Z T a) = true ∧ Ec < 100 ∧ Fai T Z (seqS T Z a u R (Ec + 1) 1 A nm)))) := by
  refine vx_ofW (cc := c_Rd_readAlternatives) (maxL := 5) (ret := (some (.object "AbnfChart$Element"))) (by decide) rfl ?_
  intro p e s m args below meth c s₁ B hml hno hv
  obtain ⟨rfl, E, hP, hD⟩ := hv
  have hx := B.exec
  have hb := B.bytes
  have hr := B.returns
  have hlocks := B.notSynchronized
  have Bx : MB p s m [.ref (ad 222), .int (1)].toArray c c_Rd_readAlternatives "AbnfChart$Reader" D cy := ⟨hx, hb, tb_all (atoms_spec B.pre) E.2.1, findClass_of_methodNamed B.named, E.1⟩
  have hS : va_S (Az sz) s.heap s.heap [] := va_S.rf
  have hl := lv_entry ([.ref (ad 222), .int (1)]) (n := 5) (Nat.le_of_ble_eq_true rfl)
  rw [lg_entry_eq]
  generalize (lg_sl ([.ref (ad 222), .int (1)]) ++ List.replicate (5 - (lg_sl ([.ref (ad 222), .int (1)])).length) Slot.unset).toArray = ls at hl ⊢
  have hl : lv_has ls 5 [(0, .ref (ad 222)), (1, .int (1))] := hl
  have hZ9 := hT.2.1
  have hbd9 := hRX.1.1.1
  have hfr0 : ∀ i, 7 ≤ i ∧ i < 222 ∧ i ≠ 20 + 2 * Ec → mem i = mem i := fun _ _ => rfl
  have hrk0 : ∀ i9, i9 < R → mem (7 + i9) = mem (7 + i9) := fun _ _ => rfl
  obtain ⟨ft1, h9_2⟩ := hRX.2.1
  have h1_3 : mem 1 = .inr (0, [.ref (ad 2), .int (nI Z)]) := (hRX.1.2.2 1 (by omega)).trans hT.1
  have h2_4 : mem 2 = .inl (cy 0, 240, .inl f) := (hRX.1.2.2 2 (by omega)).trans hT.2.2
  have h5_5 := hRX.1.1.2.1
  have hbd11 := hRX.1.1.1
  obtain ⟨S6, g7, hS_8, h220_9, h221_10⟩ := hRX.1.1.2.2.2.2.2.2
  refine lv_aload_n Bx.1 Bx.2.1 d_Rd_readAlternatives_0 rfl (lv_at hl 0 rfl) ?_
  refine lv_iconst (v := 0) Bx.1 Bx.2.1 d_Rd_readAlternatives_1 (by decide) ?_
  refine f_xVr (na := 1) (As := [.int (0)]) (rest := []) Bx hml E hP hD hS (by omega) h9_2 rfl (m_Rd_beginRowY l hlt hn hT hf hRX (by omega)) kw_409 kw_411 sel_Rd_beginRow kw_6 kw_412 (by decide +kernel) ⟨rfl, rfl⟩ ⟨Nat.le_of_ble_eq_true rfl, Nat.le_of_ble_eq_true rfl⟩ rfl hl.1 (Nat.le_of_ble_eq_true rfl) d_Rd_readAlternatives_2 ⟨Nat.le_of_ble_eq_true rfl, Nat.le_of_ble_eq_true rfl⟩ (fun X ce q9 memx H locs hx9 hP hS g1 g2 g3 => f_out hlocks hno hP hS g1 g2 g3 ⟨Nat.le_of_ble_eq_true rfl, Nat.le_of_ble_eq_true rfl⟩ ⟨hx9.1, hx9.2.elim Or.inl (fun z => Or.inr (Or.inl z))⟩) (fun r12 mem13 H locs hq hP hS => ?_)
  have hD : va_D (Az sz) (fw n ad mem13) := fw_D hD
  obtain ⟨hbg, hE9, hr9, hRXb, hclb, hfab⟩ := hq
  subst hr9
  have hrk14 : ∀ i9, i9 < R → mem13 (7 + i9) = mem (7 + i9) := fun i9 q9 => (hfab (7 + i9) (by omega)).trans (hrk0 i9 q9)
  have hfr15 : ∀ i, 7 ≤ i ∧ i < 222 ∧ i ≠ 20 + 2 * Ec → mem13 i = mem i := fun i q => (hfab i (by omega)).trans (hfr0 i q)
  obtain ⟨ft16, h9_17⟩ := hRXb.2.1
  have h1_18 : mem13 1 = .inr (0, [.ref (ad 2), .int (nI Z)]) := (hRXb.1.2.2 1 (by omega)).trans hT.1
  have h2_19 : mem13 2 = .inl (cy 0, 240, .inl f) := (hRXb.1.2.2 2 (by omega)).trans hT.2.2
  have h5_20 := hRXb.1.1.2.1
  have hbd26 := hRXb.1.1.1
  obtain ⟨S21, g22, hS_23, h220_24, h221_25⟩ := hRXb.1.1.2.2.2.2.2.2
  obtain ⟨ft27, h9_28⟩ := hRXb.2.1
  have h1_29 : mem13 1 = .inr (0, [.ref (ad 2), .int (nI Z)]) := (hRXb.1.2.2 1 (by omega)).trans hT.1
  have h2_30 : mem13 2 = .inl (cy 0, 240, .inl f) := (hRXb.1.2.2 2 (by omega)).trans hT.2.2
  have h5_31 := hRXb.1.1.2.1
  have hbd37 := hRXb.1.1.1
  obtain ⟨S32, g33, hS_34, h220_35, h221_36⟩ := hRXb.1.1.2.2.2.2.2.2
  refine lv_astore_n (lv' := [(2, .ref (ad (20 + 2 * Ec))), (0, .ref (ad 222)), (1, .int (1))]) Bx.1 Bx.2.1 d_Rd_readAlternatives_5 rfl hl (by decide) rfl (fun ls hl => ?_)
  refine lv_aload_n Bx.1 Bx.2.1 d_Rd_readAlternatives_6 rfl (lv_at hl 1 rfl) ?_
  refine lv_iload_n Bx.1 Bx.2.1 d_Rd_readAlternatives_7 rfl (lv_at hl 2 rfl) ?_
  have her38 : ER ad R (Ec + 1) (bwN Bw Ec 0 (0) (0) (-1) (-1) (-1) (Bw 234)) mem13 := hER.new (Nat.le_refl _) (by rw [vR_m]; exact hclb) (Or.inl rfl) (fun i9 hi9 => hfr15 (20 + 2 * i9) (by omega))
  have hsr39 : SR cy ad S (bwN Bw Ec 0 (0) (0) (-1) (-1) (-1) (Bw 234)) mem13 := ⟨(hfr15 220 (by omega)).trans hSR.1, (hfr15 221 (by omega)).trans hSR.2⟩
  refine f_xVr (na := 1) (As := [.int (1)]) (rest := []) Bx hml E hP hD hS (by omega) h9_28 rfl (m_Rd_readSequence_1Y l hlt hn hT hf hRXb (by omega) (u := u) (A := A) her38 hsr39 (by omega) (by omega) hLK hc (by omega) h39) kw_435 kw_437 sel_Rd_readSequence kw_6 kw_438 (by decide +kernel) ⟨rfl, rfl⟩ ⟨Nat.le_of_ble_eq_true rfl, Nat.le_of_ble_eq_true rfl⟩ rfl hl.1 (Nat.le_of_ble_eq_true rfl) d_Rd_readAlternatives_8 ⟨Nat.le_of_ble_eq_true rfl, Nat.le_of_ble_eq_true rfl⟩ (fun X ce q9 memx H locs hx9 hP hS g1 g2 g3 => f_out hlocks hno hP hS g1 g2 g3 ⟨Nat.le_of_ble_eq_true rfl, Nat.le_of_ble_eq_true rfl⟩ ⟨hx9.1, Or.inr (Or.inr ⟨hbg, hE9, hx9.2⟩)⟩) (fun r40 mem41 H locs hq hP hS => ?_)
  have hD : va_D (Az sz) (fw n ad mem41) := fw_D hD
  obtain ⟨ax42, ux43, Rx44, Ex45, Sx46, Ax47, Bx_48, nx49, tox50, hr951, h252, h353, h454, h555, htk56, hrk57, hRX58, rds59, hnb60⟩ := hq
  subst hr951
  have hrk61 : ∀ i9, i9 < R → mem41 (7 + i9) = mem (7 + i9) := fun i9 q9 => (hrk57 i9 (by omega)).trans (hrk14 i9 q9)
  obtain ⟨g62, eg63⟩ : ∃ z, z = gapF T Z ax42 := ⟨_, rfl⟩
  have hg64 : ax42 ≤ g62 := by rw [eg63]; exact gapF_ge T Z _
  have hg65 : g62 ≤ Z := by rw [eg63]; exact gapF_le T (by omega)
  rw [← eg63] at hRX58
  obtain ⟨ft66, h9_67⟩ := hRX58.2.1
  have h1_68 : mem41 1 = .inr (0, [.ref (ad 2), .int (nI Z)]) := (hRX58.1.2.2 1 (by omega)).trans hT.1
  have h2_69 : mem41 2 = .inl (cy 0, 240, .inl f) := (hRX58.1.2.2 2 (by omega)).trans hT.2.2
  have h5_70 := hRX58.1.1.2.1
  have hbd76 := hRX58.1.1.1
  obtain ⟨S71, g72, hS_73, h220_74, h221_75⟩ := hRX58.1.1.2.2.2.2.2.2
  have hbd77 := hRX58.1.1.1
  refine lv_astore_n (lv' := [(3, .ref (ad (20 + 2 * (Ec + 1)))), (2, .ref (ad (20 + 2 * Ec))), (0, .ref (ad 222)), (1, .int (1))]) Bx.1 Bx.2.1 d_Rd_readAlternatives_11 rfl hl (by decide) rfl (fun ls hl => ?_)
  refine lv_aload_n Bx.1 Bx.2.1 d_Rd_readAlternatives_12 rfl (lv_at hl 1 rfl) ?_
  refine lv_aload_n Bx.1 Bx.2.1 d_Rd_readAlternatives_13 rfl (lv_at hl 0 rfl) ?_
  have hce78 := (rds59.2.1 Ec (by omega)).1
  refine f_putN Bx hP hD hS (by omega) hce78 rfl inEl tyEl okEl nmEl 4 (by decide) kw_87 rfl rfl rfl rfl (Nat.le_of_ble_eq_true rfl) d_Rd_readAlternatives_14 (fun H locs hP hS => ?_)
  obtain ⟨mem79, e_mem79⟩ : ∃ z, z = va_up mem41 ((20 + 2 * Ec)) (.inr (2, [.int (Bx_48 228 Ec), .int (Bx_48 229 Ec), .int (Bx_48 230 Ec), vR ad (Bx_48 231 Ec), .ref (ad (20 + 2 * (Ec + 1))), vE ad (Bx_48 233 Ec), .ref (ad (21 + 2 * Ec))])) := ⟨_, rfl⟩
  have hP : va_P D vcl (fw n ad mem79) H := by rw [e_mem79]; exact hP
  have hD : va_D (Az sz) (fw n ad mem79) := fw_D hD
  have h_mem79 : mem79 ((20 + 2 * Ec)) = .inr (2, [.int (Bx_48 228 Ec), .int (Bx_48 229 Ec), .int (Bx_48 230 Ec), vR ad (Bx_48 231 Ec), .ref (ad (20 + 2 * (Ec + 1))), vE ad (Bx_48 233 Ec), .ref (ad (21 + 2 * Ec))]) := by rw [e_mem79, va_up_self]
  have hh80 := (va_up_ne mem41 (.inr (2, [.int (Bx_48 228 Ec), .int (Bx_48 229 Ec), .int (Bx_48 230 Ec), vR ad (Bx_48 231 Ec), .ref (ad (20 + 2 * (Ec + 1))), vE ad (Bx_48 233 Ec), .ref (ad (21 + 2 * Ec))])) (show (222 : Nat) ≠ (20 + 2 * Ec) by first | decide | assumption | omega)).trans h9_67
  rw [← e_mem79] at hh80
  have hh81 := (va_up_ne mem41 (.inr (2, [.int (Bx_48 228 Ec), .int (Bx_48 229 Ec), .int (Bx_48 230 Ec), vR ad (Bx_48 231 Ec), .ref (ad (20 + 2 * (Ec + 1))), vE ad (Bx_48 233 Ec), .ref (ad (21 + 2 * Ec))])) (show (1 : Nat) ≠ (20 + 2 * Ec) by first | decide | assumption | omega)).trans h1_68
  rw [← e_mem79] at hh81
  have hh82 := (va_up_ne mem41 (.inr (2, [.int (Bx_48 228 Ec), .int (Bx_48 229 Ec), .int (Bx_48 230 Ec), vR ad (Bx_48 231 Ec), .ref (ad (20 + 2 * (Ec + 1))), vE ad (Bx_48 233 Ec), .ref (ad (21 + 2 * Ec))])) (show (5 : Nat) ≠ (20 + 2 * Ec) by first | decide | assumption | omega)).trans h5_70
  rw [← e_mem79] at hh82
  have hh83 := (va_up_ne mem41 (.inr (2, [.int (Bx_48 228 Ec), .int (Bx_48 229 Ec), .int (Bx_48 230 Ec), vR ad (Bx_48 231 Ec), .ref (ad (20 + 2 * (Ec + 1))), vE ad (Bx_48 233 Ec), .ref (ad (21 + 2 * Ec))])) (show (220 : Nat) ≠ (20 + 2 * Ec) by first | decide | assumption | omega)).trans h220_74
  rw [← e_mem79] at hh83
  have hrk84 : ∀ i9, i9 < R → mem79 (7 + i9) = mem (7 + i9) := fun i9 q9 => (show mem79 (7 + i9) = mem41 (7 + i9) by rw [e_mem79]; exact va_up_ne _ _ (by omega)).trans (hrk61 i9 q9)
  have hRX85 : RX cy ad lim (g62) (Rx44) (Ex45) (tox50) (nx49) m0 mem79 := by rw [e_mem79]; exact hRX58.el (by omega) (hRX58.1.mk (by omega) (hRX58.1.1.upEl (by omega) (fun _ => ⟨(rds59.2.1 Ec (by omega)).2.1.oR ad, Or.inr ⟨(Ec + 1), by omega, by omega, rfl⟩, (rds59.2.1 Ec (by omega)).2.2.2.oE ad (by omega)⟩)))
  have her86 : ER ad (Rx44) (Ex45) (va_up Bx_48 232 (upd (Bx_48 232) Ec (nI (Ec + 1)))) mem79 := rds59.2.1.part (by omega) (by omega) (by omega) h_mem79 (fun i9 q9 hi9 => by rw [e_mem79]; exact va_up_ne _ _ (by omega))
  have hsr87 : SR cy ad (Sx46) (Bx_48) mem79 := ⟨(show mem79 220 = mem41 220 by rw [e_mem79]; exact va_up_ne _ _ (by omega)).trans rds59.2.2.1.1, (show mem79 221 = mem41 221 by rw [e_mem79]; exact va_up_ne _ _ (by omega)).trans rds59.2.2.1.2⟩
  obtain ⟨ft88, h9_89⟩ := hRX85.2.1
  have h1_90 : mem79 1 = .inr (0, [.ref (ad 2), .int (nI Z)]) := (hRX85.1.2.2 1 (by omega)).trans hT.1
  have h2_91 : mem79 2 = .inl (cy 0, 240, .inl f) := (hRX85.1.2.2 2 (by omega)).trans hT.2.2
  have h5_92 := hRX85.1.1.2.1
  have hbd98 := hRX85.1.1.1
  obtain ⟨S93, g94, hS_95, h220_96, h221_97⟩ := hRX85.1.1.2.2.2.2.2.2
  refine lv_iconst (v := 0) Bx.1 Bx.2.1 d_Rd_readAlternatives_17 (by decide) ?_
  refine lv_istore (lv' := [(4, .int (0)), (3, .ref (ad (20 + 2 * (Ec + 1)))), (2, .ref (ad (20 + 2 * Ec))), (0, .ref (ad 222)), (1, .int (1))]) Bx.1 Bx.2.1 d_Rd_readAlternatives_18 hl (by decide) rfl (fun ls hl => ?_)
  have hal0 := alt_first hLK hE9 hcl rds59 (by omega) (by omega) her86 hsr87
  have loop99 : ∀ (d100 : Nat) (mem9 : Nat → va_E) (a1 : Nat) (u1 : Nat) (R1 : Nat) (E1 : Nat) (S1 : Nat) (A1 : Ro) (B1 : Ro) (n1 : Nat → Int64) (to1 : Nat → Int32) (la : Nat) (k9 : Nat) (ls : Array Slot) (H : Heap) (locs : List Loc), (240 - k9 < d100) → (RX cy ad lim (gapF T Z a1) R1 E1 to1 n1 m0 mem9) → (a < a1 ∧ a1 ≤ Z ∧ R ≤ R1 ∧ k9 < a1 ∧ k9 ≤ 240) → (ALI cy ad T Z 1 (seqS T Z a u R (Ec + 1) 1 A nm) cq R Ec S u A Bw la a1 u1 R1 E1 S1 A1 B1 n1 mem9) → (TOK R R1 to to1) → (¬ (bgF (hereF Z T (gapF T Z a1)) = true ∧ a1 < gapF T Z a1)) → (∀ i9, i9 < R → mem9 (7 + i9) = mem (7 + i9)) → (va_P D vcl (fw n ad mem9) H) → (va_D (Az sz) (fw n ad mem9)) → (va_S (Az sz) s.heap H locs) → (lv_has ls 5 [(4, .int (nI k9)), (3, .ref (ad (20 + 2 * la))), (2, .ref (ad (20 + 2 * Ec))), (0, .ref (ad 222)), (1, .int (1))]) → W p l e (headSpec (Cond.code y_Rd_readAlternatives c_Rd_readAlternatives 5 (some (.object "AbnfChart$Element")) :: tg) ({ frames := 49, cells := 1, slots := 6, locals := 1188 } : Room)).room s m [.ref (ad 222), .int (1)].toArray below meth c H locs 0 0 (vx_MQ below (QX (QR (fun r mem' => ∃ (la a' u' R' E' S' : Nat) (A' Bw' : Ro) (nm' : Nat → Int64) (to' : Nat → Int32), r = ad (20 + 2 * Ec) ∧ Ec + 1 < E' ∧ R ≤ R' ∧ a < a' ∧ a' ≤ Z ∧ TOK R R' to to' ∧ (∀ i9, i9 < R → mem' (7 + i9) = mem (7 + i9)) ∧ RX cy ad lim (gapF T Z a') R' E' to' nm' m0 mem' ∧ ALI cy ad T Z 1 (seqS T Z a u R (Ec + 1) 1 A nm) cq R Ec S u A Bw la a' u' R' E' S' A' Bw' nm' mem' ∧ bgF (hereF Z T a) = true ∧ Ec < 100 ∧ ¬ hereF Z T (gapF T Z a') = 47 ∧ ¬ (bgF (hereF Z T (gapF T Z a')) = true ∧ a' < gapF T Z a')) (PP D n ad) (Az sz))) (XQ D sz n ad (fun X mem' => ((X = cIA ∨ X = cIS) ∧ ∃ rc' ec' : Nat, RS cy ad lim rc' ec' m0 mem') ∧ (bgF (hereF Z T a) = false ∨ Ec = 100 ∨ (bgF (hereF Z T a) = true ∧ Ec < 100 ∧ Fai T Z (seqS T Z a u R (Ec + 1) 1 A nm))))) [.ref (ad 222), .int (1)].toArray s 1 6 (Az sz)) (F0 m 20 ls []) := by
    intro d100
    induction d100 with
    | zero => intro mem9 a1 u1 R1 E1 S1 A1 B1 n1 to1 la k9 ls H locs hmeas108; exact absurd hmeas108 (Nat.not_lt_zero _)
    | succ d100 ih107 =>
      intro mem9 a1 u1 R1 E1 S1 A1 B1 n1 to1 la k9 ls H locs hmeas108 hz101 hz102 hz103 hz104 hz105 hz106 hP hD hS hl
      obtain ⟨g1, eg1⟩ : ∃ z, z = gapF T Z a1 := ⟨_, rfl⟩
      rw [← eg1] at hz101
      have hge1 : a1 ≤ g1 := by rw [eg1]; exact gapF_ge T Z _
      have hbd8 := hz102
      have hle1 : g1 ≤ Z := by rw [eg1]; exact gapF_le T (by omega)
      have hal := hz103
      have hbdE := hz101.1.1.1
      have hla := hal.2.2.2.2.2.2.2.2.2.2
      have hSa1 := hal.2.2.2.1.2.1
      have hlka := ali_lka hal hLK hE9 hcl
      obtain ⟨ft109, h9_110⟩ := hz101.2.1
      have h1_111 : mem9 1 = .inr (0, [.ref (ad 2), .int (nI Z)]) := (hz101.1.2.2 1 (by omega)).trans hT.1
      have h2_112 : mem9 2 = .inl (cy 0, 240, .inl f) := (hz101.1.2.2 2 (by omega)).trans hT.2.2
      have h5_113 := hz101.1.1.2.1
      have hbd119 := hz101.1.1.1
      obtain ⟨S114, g115, hS_116, h220_117, h221_118⟩ := hz101.1.1.2.2.2.2.2.2
      refine lv_iload Bx.1 Bx.2.1 d_Rd_readAlternatives_20 (lv_at hl 0 rfl) ?_
      refine lv_sipush (v := 240) Bx.1 Bx.2.1 d_Rd_readAlternatives_22 (by decide) ?_
      refine lv_icmp_ge Bx.1 Bx.2.1 d_Rd_readAlternatives_25 rfl (fun hb120 => ?_) (fun hb120 => ?_)
      · have hN121 : 240 ≤ k9 := (nI_leI (by omega) (by omega)).mp (show nI (240) ≤ nI (k9) from hb120)
        exact absurd hbd8 (by omega)
      · have hN122 : ¬ 240 ≤ k9 := fun q9 => hb120 (show nI (240) ≤ nI (k9) from (nI_leI (by omega) (by omega)).mpr q9)
        refine lv_aload_n Bx.1 Bx.2.1 d_Rd_readAlternatives_28 rfl (lv_at hl 3 rfl) ?_
        refine f_callVi (na := 0) (As := []) (rest := []) Bx hml E hP hD hS (by omega) h9_110 rfl (m_Rd_peekX l hn hT hf hz101 (by omega)) kw_353 kw_355 sel_Rd_peek kw_6 kw_356 (by decide +kernel) ⟨rfl, rfl⟩ ⟨Nat.le_of_ble_eq_true rfl, Nat.le_of_ble_eq_true rfl⟩ rfl hl.1 (Nat.le_of_ble_eq_true rfl) d_Rd_readAlternatives_29 ⟨Nat.le_of_ble_eq_true rfl, Nat.le_of_ble_eq_true rfl⟩ (fun r124 mem125 H locs hq hP hS => ?_)
        have hD : va_D (Az sz) (fw n ad mem125) := fw_D hD
        obtain ⟨hqe, hpk123⟩ := hq
        rw [hqe] at hP hD
        subst hpk123
        refine lv_bipush (v := 47) Bx.1 Bx.2.1 d_Rd_readAlternatives_32 (by decide) ?_
        refine lv_icmp_ne Bx.1 Bx.2.1 d_Rd_readAlternatives_34 rfl (fun hb127 => ?_) (fun hb127 => ?_)
        · refine lv_aload_n Bx.1 Bx.2.1 d_Rd_readAlternatives_72 rfl (lv_at hl 2 rfl) ?_
          exact x_aret hx hb hlocks hr (⟨la, a1, u1, R1, E1, S1, A1, B1, n1, to1, rfl, by omega, by omega, by omega, by omega, hz104, hz106, by rw [← eg1]; exact hz101, hal, hbg, hE9, by rw [← eg1]; exact hb127, hz105⟩) hP hS d_Rd_readAlternatives_73
        · have hlt128 := hereF_lt (by rw [hb127]; decide)
          have h47 : hereF Z T (gapF T Z a1) = 47 := by rw [← eg1]; exact hb127
          have h237 : A1 237 1 = nI cq := hal.2.2.2.2.2.2.2.2.1.2.2.1.trans hc
          have h239 : A1 239 1 = -1 := hal.2.2.2.2.2.2.2.2.1.2.2.2
          refine lv_aload_n Bx.1 Bx.2.1 d_Rd_readAlternatives_37 rfl (lv_at hl 3 rfl) ?_
          refine lv_dup Bx.1 Bx.2.1 d_Rd_readAlternatives_38 rfl ?_
          refine f_get Bx hP (by omega) h9_110 rfl inRd 2 (by decide) kw_146 rfl rfl d_Rd_readAlternatives_39 ?_
          refine lv_iconst (v := 1) Bx.1 Bx.2.1 d_Rd_readAlternatives_42 (by decide) ?_
          refine lv_iadd Bx.1 Bx.2.1 d_Rd_readAlternatives_43 ?_
          rw [show nI g1 + 1 = nI (g1 + 1) from nI_add (g1) (1)]
          refine f_put Bx hP hD hS (by omega) h9_110 rfl inRd tyRd okRd nmRd 2 (by decide) kw_146 rfl rfl rfl rfl (Nat.le_of_ble_eq_true rfl) d_Rd_readAlternatives_44 (fun H locs hP hS => ?_)
          obtain ⟨mem129, e_mem129⟩ : ∃ z, z = va_up mem9 (222) (.inr (4, [.ref (ad 1), .ref (ad 5), .int (nI (g1 + 1)), .int (ft109)])) := ⟨_, rfl⟩
          have hP : va_P D vcl (fw n ad mem129) H := by rw [e_mem129]; exact hP
          have hD : va_D (Az sz) (fw n ad mem129) := fw_D hD
          have h_mem129 : mem129 (222) = .inr (4, [.ref (ad 1), .ref (ad 5), .int (nI (g1 + 1)), .int (ft109)]) := by rw [e_mem129, va_up_self]
          have hh130 := (va_up_ne mem9 (.inr (4, [.ref (ad 1), .ref (ad 5), .int (nI (g1 + 1)), .int (ft109)])) (show (1 : Nat) ≠ 222 by first | decide | assumption | omega)).trans h1_111
          rw [← e_mem129] at hh130
          have hh131 := (va_up_ne mem9 (.inr (4, [.ref (ad 1), .ref (ad 5), .int (nI (g1 + 1)), .int (ft109)])) (show (5 : Nat) ≠ 222 by first | decide | assumption | omega)).trans h5_113
          rw [← e_mem129] at hh131
          have hh132 := (va_up_ne mem9 (.inr (4, [.ref (ad 1), .ref (ad 5), .int (nI (g1 + 1)), .int (ft109)])) (show (220 : Nat) ≠ 222 by first | decide | assumption | omega)).trans h220_117
          rw [← e_mem129] at hh132
          have hrk133 : ∀ i9, i9 < R → mem129 (7 + i9) = mem (7 + i9) := fun i9 q9 => (show mem129 (7 + i9) = mem9 (7 + i9) by rw [e_mem129]; exact va_up_ne _ _ (by omega)).trans (hz106 i9 q9)
          have her134 : ER ad (R1) (E1) (B1) mem129 := hal.2.1.fr (Nat.le_refl _) (fun i9 hi9 => by rw [e_mem129]; exact va_up_ne _ _ (by omega))
          have hsr135 : SR cy ad (S1) (B1) mem129 := ⟨(show mem129 220 = _ from by rw [e_mem129]; exact va_up_ne _ _ (by omega)).trans hal.2.2.1.1, (show mem129 221 = _ from by rw [e_mem129]; exact va_up_ne _ _ (by omega)).trans hal.2.2.1.2⟩
          have hRX136 : RX cy ad lim (g1 + 1) (R1) (E1) (to1) (n1) m0 mem129 := by rw [e_mem129]; exact hz101.at
          refine lv_aload_n Bx.1 Bx.2.1 d_Rd_readAlternatives_47 rfl (lv_at hl 3 rfl) ?_
          refine f_callVi (na := 0) (As := []) (rest := []) Bx hml E hP hD hS (by omega) h_mem129 rfl (m_Rd_readGapY l hn hT hf hRX136 (by omega) (by omega)) kw_397 kw_399 sel_Rd_readGap kw_6 kw_400 (by decide +kernel) ⟨rfl, rfl⟩ ⟨Nat.le_of_ble_eq_true rfl, Nat.le_of_ble_eq_true rfl⟩ rfl hl.1 (Nat.le_of_ble_eq_true rfl) d_Rd_readAlternatives_48 ⟨Nat.le_of_ble_eq_true rfl, Nat.le_of_ble_eq_true rfl⟩ (fun r137 mem138 H locs hq hP hS => ?_)
          have hD : va_D (Az sz) (fw n ad mem138) := fw_D hD
          obtain ⟨g139, eg140⟩ : ∃ z, z = gapF T Z (g1 + 1) := ⟨_, rfl⟩
          rw [← eg140] at hq
          obtain ⟨hRX141, hgc142, hfa143⟩ := hq
          have hg144 : g1 + 1 ≤ g139 := by rw [eg140]; exact gapF_ge T Z _
          have hg145 : g139 ≤ Z := by rw [eg140]; exact gapF_le T (by omega)
          have hrk146 : ∀ i9, i9 < R → mem138 (7 + i9) = mem (7 + i9) := fun i9 q9 => (hfa143 (7 + i9) (by omega)).trans (hrk133 i9 q9)
          obtain ⟨ft147, h9_148⟩ := hRX141.2.1
          have h1_149 : mem138 1 = .inr (0, [.ref (ad 2), .int (nI Z)]) := (hRX141.1.2.2 1 (by omega)).trans hT.1
          have h2_150 : mem138 2 = .inl (cy 0, 240, .inl f) := (hRX141.1.2.2 2 (by omega)).trans hT.2.2
          have h5_151 := hRX141.1.1.2.1
          have hbd157 := hRX141.1.1.1
          obtain ⟨S152, g153, hS_154, h220_155, h221_156⟩ := hRX141.1.1.2.2.2.2.2.2
          have her158 : ER ad (R1) (E1) (B1) mem138 := her134.fr (Nat.le_refl _) (fun i9 hi9 => hfa143 _ (by omega))
          have hsr159 : SR cy ad (S1) (B1) mem138 := ⟨(show mem138 220 = _ from hfa143 _ (by omega)).trans hsr135.1, (show mem138 221 = _ from hfa143 _ (by omega)).trans hsr135.2⟩
          refine lv_pop Bx.1 Bx.2.1 d_Rd_readAlternatives_51 rfl ?_
          refine lv_aload_n Bx.1 Bx.2.1 d_Rd_readAlternatives_52 rfl (lv_at hl 1 rfl) ?_
          refine lv_aload_n Bx.1 Bx.2.1 d_Rd_readAlternatives_53 rfl (lv_at hl 3 rfl) ?_
          refine lv_iload_n Bx.1 Bx.2.1 d_Rd_readAlternatives_54 rfl (lv_at hl 4 rfl) ?_
          refine f_xVr (na := 1) (As := [.int (1)]) (rest := [.ref (ad (20 + 2 * la))]) Bx hml E hP hD hS (by omega) h9_148 rfl (m_Rd_readSequence_1Y l hlt hn hT hf hRX141 (by omega) (u := u1) (A := A1) her158 hsr159 (by omega) (by omega) hlka h237 (by omega) h239) kw_435 kw_437 sel_Rd_readSequence kw_6 kw_438 (by decide +kernel) ⟨rfl, rfl⟩ ⟨Nat.le_of_ble_eq_true rfl, Nat.le_of_ble_eq_true rfl⟩ rfl hl.1 (Nat.le_of_ble_eq_true rfl) d_Rd_readAlternatives_55 ⟨Nat.le_of_ble_eq_true rfl, Nat.le_of_ble_eq_true rfl⟩ (fun X ce q9 memx H locs hx9 hP hS g1 g2 g3 => f_out hlocks hno hP hS g1 g2 g3 ⟨Nat.le_of_ble_eq_true rfl, Nat.le_of_ble_eq_true rfl⟩ ⟨hx9.1, Or.inr (Or.inr ⟨hbg, hE9, hal.1.fai (go_sl h47) (by rw [← eg1, ← eg140]; exact hx9.2)⟩)⟩) (fun r160 mem161 H locs hq hP hS => ?_)
          have hD : va_D (Az sz) (fw n ad mem161) := fw_D hD
          obtain ⟨ax162, ux163, Rx164, Ex165, Sx166, Ax167, Bx_168, nx169, tox170, hr9171, h2172, h3173, h4174, h5175, htk176, hrk177, hRX178, rds179, hnb180⟩ := hq
          subst hr9171
          have hrk181 : ∀ i9, i9 < R → mem161 (7 + i9) = mem (7 + i9) := fun i9 q9 => (hrk177 i9 (by omega)).trans (hrk146 i9 q9)
          obtain ⟨g182, eg183⟩ : ∃ z, z = gapF T Z ax162 := ⟨_, rfl⟩
          have hg184 : ax162 ≤ g182 := by rw [eg183]; exact gapF_ge T Z _
          have hg185 : g182 ≤ Z := by rw [eg183]; exact gapF_le T (by omega)
          rw [← eg183] at hRX178
          obtain ⟨ft186, h9_187⟩ := hRX178.2.1
          have h1_188 : mem161 1 = .inr (0, [.ref (ad 2), .int (nI Z)]) := (hRX178.1.2.2 1 (by omega)).trans hT.1
          have h2_189 : mem161 2 = .inl (cy 0, 240, .inl f) := (hRX178.1.2.2 2 (by omega)).trans hT.2.2
          have h5_190 := hRX178.1.1.2.1
          have hbd196 := hRX178.1.1.1
          obtain ⟨S191, g192, hS_193, h220_194, h221_195⟩ := hRX178.1.1.2.2.2.2.2.2
          have hbd197 := hRX178.1.1.1
          have hce198 := (rds179.2.1 la (by omega)).1
          refine f_putN Bx hP hD hS (by omega) hce198 rfl inEl tyEl okEl nmEl 5 (by decide) kw_91 rfl rfl rfl rfl (Nat.le_of_ble_eq_true rfl) d_Rd_readAlternatives_58 (fun H locs hP hS => ?_)
          obtain ⟨mem199, e_mem199⟩ : ∃ z, z = va_up mem161 ((20 + 2 * la)) (.inr (2, [.int (Bx_168 228 la), .int (Bx_168 229 la), .int (Bx_168 230 la), vR ad (Bx_168 231 la), vE ad (Bx_168 232 la), .ref (ad (20 + 2 * E1)), .ref (ad (21 + 2 * la))])) := ⟨_, rfl⟩
          have hP : va_P D vcl (fw n ad mem199) H := by rw [e_mem199]; exact hP
          have hD : va_D (Az sz) (fw n ad mem199) := fw_D hD
          have h_mem199 : mem199 ((20 + 2 * la)) = .inr (2, [.int (Bx_168 228 la), .int (Bx_168 229 la), .int (Bx_168 230 la), vR ad (Bx_168 231 la), vE ad (Bx_168 232 la), .ref (ad (20 + 2 * E1)), .ref (ad (21 + 2 * la))]) := by rw [e_mem199, va_up_self]
          have hh200 := (va_up_ne mem161 (.inr (2, [.int (Bx_168 228 la), .int (Bx_168 229 la), .int (Bx_168 230 la), vR ad (Bx_168 231 la), vE ad (Bx_168 232 la), .ref (ad (20 + 2 * E1)), .ref (ad (21 + 2 * la))])) (show (222 : Nat) ≠ (20 + 2 * la) by first | decide | assumption | omega)).trans h9_187
          rw [← e_mem199] at hh200
          have hh201 := (va_up_ne mem161 (.inr (2, [.int (Bx_168 228 la), .int (Bx_168 229 la), .int (Bx_168 230 la), vR ad (Bx_168 231 la), vE ad (Bx_168 232 la), .ref (ad (20 + 2 * E1)), .ref (ad (21 + 2 * la))])) (show (1 : Nat) ≠ (20 + 2 * la) by first | decide | assumption | omega)).trans h1_188
          rw [← e_mem199] at hh201
          have hh202 := (va_up_ne mem161 (.inr (2, [.int (Bx_168 228 la), .int (Bx_168 229 la), .int (Bx_168 230 la), vR ad (Bx_168 231 la), vE ad (Bx_168 232 la), .ref (ad (20 + 2 * E1)), .ref (ad (21 + 2 * la))])) (show (5 : Nat) ≠ (20 + 2 * la) by first | decide | assumption | omega)).trans h5_190
          rw [← e_mem199] at hh202
          have hh203 := (va_up_ne mem161 (.inr (2, [.int (Bx_168 228 la), .int (Bx_168 229 la), .int (Bx_168 230 la), vR ad (Bx_168 231 la), vE ad (Bx_168 232 la), .ref (ad (20 + 2 * E1)), .ref (ad (21 + 2 * la))])) (show (220 : Nat) ≠ (20 + 2 * la) by first | decide | assumption | omega)).trans h220_194
          rw [← e_mem199] at hh203
          have hrk204 : ∀ i9, i9 < R → mem199 (7 + i9) = mem (7 + i9) := fun i9 q9 => (show mem199 (7 + i9) = mem161 (7 + i9) by rw [e_mem199]; exact va_up_ne _ _ (by omega)).trans (hrk181 i9 q9)
          have hRX205 : RX cy ad lim (g182) (Rx164) (Ex165) (tox170) (nx169) m0 mem199 := by rw [e_mem199]; exact hRX178.el (by omega) (hRX178.1.mk (by omega) (hRX178.1.1.upEl (by omega) (fun _ => ⟨(rds179.2.1 la (by omega)).2.1.oR ad, (rds179.2.1 la (by omega)).2.2.1.oE ad (by omega), Or.inr ⟨E1, by omega, by omega, rfl⟩⟩)))
          have her206 : ER ad (Rx164) (Ex165) (va_up Bx_168 233 (upd (Bx_168 233) la (nI E1))) mem199 := rds179.2.1.next (by omega) (by omega) (by omega) h_mem199 (fun i9 q9 hi9 => by rw [e_mem199]; exact va_up_ne _ _ (by omega))
          have hsr207 : SR cy ad (Sx166) (Bx_168) mem199 := ⟨(show mem199 220 = mem161 220 by rw [e_mem199]; exact va_up_ne _ _ (by omega)).trans rds179.2.2.1.1, (show mem199 221 = mem161 221 by rw [e_mem199]; exact va_up_ne _ _ (by omega)).trans rds179.2.2.1.2⟩
          obtain ⟨ft208, h9_209⟩ := hRX205.2.1
          have h1_210 : mem199 1 = .inr (0, [.ref (ad 2), .int (nI Z)]) := (hRX205.1.2.2 1 (by omega)).trans hT.1
          have h2_211 : mem199 2 = .inl (cy 0, 240, .inl f) := (hRX205.1.2.2 2 (by omega)).trans hT.2.2
          have h5_212 := hRX205.1.1.2.1
          have hbd218 := hRX205.1.1.1
          obtain ⟨S213, g214, hS_215, h220_216, h221_217⟩ := hRX205.1.1.2.2.2.2.2.2
          refine lv_aload_n Bx.1 Bx.2.1 d_Rd_readAlternatives_61 rfl (lv_at hl 1 rfl) ?_
          refine f_getN Bx hP (by omega) h_mem199 rfl inEl 5 (by decide) kw_91 rfl rfl d_Rd_readAlternatives_62 ?_
          refine lv_astore_n (lv' := [(3, .ref (ad (20 + 2 * E1))), (4, .int (nI k9)), (2, .ref (ad (20 + 2 * Ec))), (0, .ref (ad 222)), (1, .int (1))]) Bx.1 Bx.2.1 d_Rd_readAlternatives_65 rfl hl (by decide) rfl (fun ls hl => ?_)
          refine lv_iinc (lv' := [(4, .int ((nI k9 + (1)))), (3, .ref (ad (20 + 2 * E1))), (2, .ref (ad (20 + 2 * Ec))), (0, .ref (ad 222)), (1, .int (1))]) Bx.1 Bx.2.1 d_Rd_readAlternatives_66 hl (k := 1) rfl rfl (by decide) rfl (fun ls hl => ?_)
          rw [show (nI k9 + (1) : Int32) = nI (k9 + 1) from nI_1 (k9)] at hl
          refine lv_goto Bx.1 Bx.2.1 d_Rd_readAlternatives_69 rfl ?_
          have hal3 := alt_step hal (by omega) hLK hlka (by omega) hcl rds179 (by omega) (by omega) (by rw [eg140, eg1]; exact go_sl h47) her206 hsr207
          exact ih107 mem199 (ax162) (ux163) (Rx164) (Ex165) (Sx166) (Ax167) ((va_up Bx_168 233 (upd (Bx_168 233) la (nI E1)))) (nx169) (tox170) (E1) (k9 + 1) _ _ _ (by have := hmeas108; omega) (by rw [← eg183]; exact hRX205) (⟨by omega, by omega, by omega, by omega, by omega⟩) (hal3) (hz104.trans htk176 (by omega)) (hnb180) (hrk204) hP hD hS (lv_sub hl [0, 1, 2, 3, 4] rfl)
  exact loop99 _ mem79 (ax42) (ux43) (Rx44) (Ex45) (Sx46) (Ax47) ((va_up Bx_48 232 (upd (Bx_48 232) Ec (nI (Ec + 1))))) (nx49) (tox50) (Ec + 1) (0) _ _ _ (Nat.lt_succ_self _) (by rw [← eg63]; exact hRX85) (⟨by omega, by omega, by omega, by omega, by omega⟩) (hal0) (htk56) (hnb60) (hrk84) hP hD hS (lv_sub hl [0, 1, 2, 3, 4] rfl)
set_option maxHeartbeats 4000000 in
set_option maxRecDepth 100000 in
theorem m_Rd_readBracket_0Y (l : Launch) {D : va_G} {cy : Nat → ClassId} {sz n : Nat} {ad : Nat → Nat} {mem : Nat → va_E} {Z a R Ec lim : Nat} {f T : Nat → Int32} {to : Nat → Int32} {nm : Nat → Int64} {m0 : Nat → va_E} {u S : Nat} {A Bw : Ro} {what oe en : Int32} (hlt : l.stackTraces = false) (hn : 224 ≤ n) (hT : TX cy ad Z f m0) (hf : ∀ k, k < Z → f k = T k) (hRX : RX cy ad lim a R Ec to nm m0 mem) (haB : a ≤ 300) (hER : ER ad R Ec Bw mem) (hSR : SR cy ad S Bw mem) (hSa : S ≤ a) (haZ : a < Z) (hwe : (what = 1 ∧ en = 41) ∨ (what = 2 ∧ en = 93)) (hLK : LKa Ec A) : NXr l D cy sz n ad y_Rd_readBracket c_Rd_readBracket 4 (some (.object "AbnfChart$Element")) ({ frames := 50, cells := 1, slots := 6, locals := 1220 } : Room) mem [.ref (ad 222), .int (0), .int (en)] (fun r mem' => ∃ (la a1 u1 R1 E1 S1 : Nat) (A9 B9 : Ro) (nm1 : Nat → Int64) (to1 : Nat → Int32), r = ad (20 + 2 * Ec) ∧ Ec + 1 < E1 ∧ R ≤ R1 ∧ a + 1 < a1 ∧ gapF T Z a1 + 1 ≤ Z ∧ TOK R R1 to to1 ∧ (∀ i9, i9 < R → mem' (7 + i9) = mem (7 + i9)) ∧ RX cy ad lim (gapF T Z a1 + 1) R1 E1 to1 nm1 m0 mem' ∧ ALI cy ad T Z 1 (seqS T Z (gapF T Z (a + 1)) u R (Ec + 1) 1 (entA A 1 Ec what oe) nm) Ec R Ec S u (entA A 1 Ec what oe) Bw la a1 u1 R1 E1 S1 A9 B9 nm1 mem' ∧ hereF Z T (gapF T Z a1) = en ∧ entS T Z (a + 1) u R Ec 1 A nm what oe = some (gapF T Z (a + 1), u, R, Ec + 1, 1, (entA A 1 Ec what oe), nm, true)) (fun X mem' => ((X = cIA ∨ X = cIS) ∧ ∃ rc' ec' : Nat, RS cy ad lim rc' ec' m0 mem') ∧ (Fai T Z (entS T Z (a + 1) u R Ec 1 A nm what oe))) := by
  refine vx_ofW (cc := c_Rd_readBracket) (maxL := 4) (ret := (some (.object "AbnfChart$Element"))) (by decide) rfl ?_
  intro p e s m args below meth c s₁ B hml hno hv
  obtain ⟨rfl, E, hP, hD⟩ := hv
  have hx := B.exec
  have hb := B.bytes
  have hr := B.returns
  have hlocks := B.notSynchronized
  have Bx : MB p s m [.ref (ad 222), .int (0), .int (en)].toArray c c_Rd_readBracket "AbnfChart$Reader" D cy := ⟨hx, hb, tb_all (atoms_spec B.pre) E.2.1, findClass_of_methodNamed B.named, E.1⟩
  have hS : va_S (Az sz) s.heap s.heap [] := va_S.rf
  have hl := lv_entry ([.ref (ad 222), .int (0), .int (en)]) (n := 4) (Nat.le_of_ble_eq_true rfl)
  rw [lg_entry_eq]
  generalize (lg_sl ([.ref (ad 222), .int (0), .int (en)]) ++ List.replicate (4 - (lg_sl ([.ref (ad 222), .int (0), .int (en)])).length) Slot.unset).toArray = ls at hl ⊢
  have hl : lv_has ls 4 [(0, .ref (ad 222)), (1, .int (0)), (2, .int (en))] := hl
  have hZ9 := hT.2.1
  have hbd9 := hRX.1.1.1
  have hfr0 : ∀ i, 7 ≤ i ∧ i < 222 → mem i = mem i := fun _ _ => rfl
  have hrk0 : ∀ i9, i9 < R → mem (7 + i9) = mem (7 + i9) := fun _ _ => rfl
  obtain ⟨ft1, h9_2⟩ := hRX.2.1
  have h1_3 : mem 1 = .inr (0, [.ref (ad 2), .int (nI Z)]) := (hRX.1.2.2 1 (by omega)).trans hT.1
  have h2_4 : mem 2 = .inl (cy 0, 240, .inl f) := (hRX.1.2.2 2 (by omega)).trans hT.2.2
  have h5_5 := hRX.1.1.2.1
  have hbd11 := hRX.1.1.1
  obtain ⟨S6, g7, hS_8, h220_9, h221_10⟩ := hRX.1.1.2.2.2.2.2.2
  refine lv_aload_n Bx.1 Bx.2.1 d_Rd_readBracket_0 rfl (lv_at hl 0 rfl) ?_
  refine lv_iload_n Bx.1 Bx.2.1 d_Rd_readBracket_1 rfl (lv_at hl 1 rfl) ?_
  refine lv_bipush (v := 6) Bx.1 Bx.2.1 d_Rd_readBracket_2 (by decide) ?_
  refine lv_icmp_ge Bx.1 Bx.2.1 d_Rd_readBracket_4 rfl (fun hb12 => ?_) (fun hb12 => ?_)
  · exact absurd hb12 (by decide)
  · refine lv_iconst (v := 1) Bx.1 Bx.2.1 d_Rd_readBracket_7 (by decide) ?_
    refine lv_goto Bx.1 Bx.2.1 d_Rd_readBracket_8 rfl ?_
    refine lv_aload_n Bx.1 Bx.2.1 d_Rd_readBracket_12 rfl (lv_at hl 0 rfl) ?_
    refine f_get Bx hP (by omega) h9_2 rfl inRd 2 (by decide) kw_146 rfl rfl d_Rd_readBracket_13 ?_
    refine f_xVv (na := 2) (As := [.int (1), .int (nI a)]) (rest := []) Bx hml E hP hD hS (by omega) h9_2 rfl (m_Rd_needRoomX l hlt hn hT hf hRX (by omega)) kw_383 kw_385 sel_Rd_needRoom kw_6 kw_386 (by decide +kernel) ⟨rfl, rfl⟩ ⟨Nat.le_of_ble_eq_true rfl, Nat.le_of_ble_eq_true rfl⟩ rfl hl.1 (Nat.le_of_ble_eq_true rfl) d_Rd_readBracket_16 ⟨Nat.le_of_ble_eq_true rfl, Nat.le_of_ble_eq_true rfl⟩ (fun X ce q9 memx H locs hx9 hP hS g1 g2 g3 => f_out hlocks hno hP hS g1 g2 g3 ⟨Nat.le_of_ble_eq_true rfl, Nat.le_of_ble_eq_true rfl⟩ ⟨hx9.1, absurd hx9.2 (by decide)⟩) (fun mem14 H locs hq hP hS => ?_)
    have hD : va_D (Az sz) (fw n ad mem14) := fw_D hD
    obtain ⟨hqe, hg15⟩ := hq
    rw [hqe] at hP hD
    refine lv_aload_n Bx.1 Bx.2.1 d_Rd_readBracket_19 rfl (lv_at hl 0 rfl) ?_
    refine lv_dup Bx.1 Bx.2.1 d_Rd_readBracket_20 rfl ?_
    refine f_get Bx hP (by omega) h9_2 rfl inRd 2 (by decide) kw_146 rfl rfl d_Rd_readBracket_21 ?_
    refine lv_iconst (v := 1) Bx.1 Bx.2.1 d_Rd_readBracket_24 (by decide) ?_
    refine lv_iadd Bx.1 Bx.2.1 d_Rd_readBracket_25 ?_
    rw [show nI a + 1 = nI (a + 1) from nI_add (a) (1)]
    refine f_put Bx hP hD hS (by omega) h9_2 rfl inRd tyRd okRd nmRd 2 (by decide) kw_146 rfl rfl rfl rfl (Nat.le_of_ble_eq_true rfl) d_Rd_readBracket_26 (fun H locs hP hS => ?_)
    obtain ⟨mem16, e_mem16⟩ : ∃ z, z = va_up mem (222) (.inr (4, [.ref (ad 1), .ref (ad 5), .int (nI (a + 1)), .int (ft1)])) := ⟨_, rfl⟩
    have hP : va_P D vcl (fw n ad mem16) H := by rw [e_mem16]; exact hP
    have hD : va_D (Az sz) (fw n ad mem16) := fw_D hD
    have h_mem16 : mem16 (222) = .inr (4, [.ref (ad 1), .ref (ad 5), .int (nI (a + 1)), .int (ft1)]) := by rw [e_mem16, va_up_self]
    have hh17 := (va_up_ne mem (.inr (4, [.ref (ad 1), .ref (ad 5), .int (nI (a + 1)), .int (ft1)])) (show (1 : Nat) ≠ 222 by first | decide | assumption | omega)).trans h1_3
    rw [← e_mem16] at hh17
    have hh18 := (va_up_ne mem (.inr (4, [.ref (ad 1), .ref (ad 5), .int (nI (a + 1)), .int (ft1)])) (show (5 : Nat) ≠ 222 by first | decide | assumption | omega)).trans h5_5
    rw [← e_mem16] at hh18
    have hh19 := (va_up_ne mem (.inr (4, [.ref (ad 1), .ref (ad 5), .int (nI (a + 1)), .int (ft1)])) (show (220 : Nat) ≠ 222 by first | decide | assumption | omega)).trans h220_9
    rw [← e_mem16] at hh19
    have hfr20 : ∀ i, 7 ≤ i ∧ i < 222 → mem16 i = mem i := fun i q => (show mem16 i = mem i by rw [e_mem16]; exact va_up_ne _ _ (by omega)).trans (hfr0 i q)
    have hrk21 : ∀ i9, i9 < R → mem16 (7 + i9) = mem (7 + i9) := fun i9 q9 => (show mem16 (7 + i9) = mem (7 + i9) by rw [e_mem16]; exact va_up_ne _ _ (by omega)).trans (hrk0 i9 q9)
    have hRX22 : RX cy ad lim (a + 1) (R) (Ec) (to) (nm) m0 mem16 := by rw [e_mem16]; exact hRX.at
    refine lv_aload_n Bx.1 Bx.2.1 d_Rd_readBracket_29 rfl (lv_at hl 0 rfl) ?_
    refine f_callVi (na := 0) (As := []) (rest := []) Bx hml E hP hD hS (by omega) h_mem16 rfl (m_Rd_readGapY l hn hT hf hRX22 (by omega) (by omega)) kw_397 kw_399 sel_Rd_readGap kw_6 kw_400 (by decide +kernel) ⟨rfl, rfl⟩ ⟨Nat.le_of_ble_eq_true rfl, Nat.le_of_ble_eq_true rfl⟩ rfl hl.1 (Nat.le_of_ble_eq_true rfl) d_Rd_readBracket_30 ⟨Nat.le_of_ble_eq_true rfl, Nat.le_of_ble_eq_true rfl⟩ (fun r23 mem24 H locs hq hP hS => ?_)
    have hD : va_D (Az sz) (fw n ad mem24) := fw_D hD
    obtain ⟨g25, eg26⟩ : ∃ z, z = gapF T Z (a + 1) := ⟨_, rfl⟩
    rw [← eg26] at hq
    obtain ⟨hRX27, hgc28, hfa29⟩ := hq
    have hg30 : a + 1 ≤ g25 := by rw [eg26]; exact gapF_ge T Z _
    have hg31 : g25 ≤ Z := by rw [eg26]; exact gapF_le T (by omega)
    have hrk32 : ∀ i9, i9 < R → mem24 (7 + i9) = mem (7 + i9) := fun i9 q9 => (hfa29 (7 + i9) (by omega)).trans (hrk21 i9 q9)
    have hfr33 : ∀ i, 7 ≤ i ∧ i < 222 → mem24 i = mem i := fun i q => (hfa29 i (by omega)).trans (hfr20 i q)
    obtain ⟨ft34, h9_35⟩ := hRX27.2.1
    have h1_36 : mem24 1 = .inr (0, [.ref (ad 2), .int (nI Z)]) := (hRX27.1.2.2 1 (by omega)).trans hT.1
    have h2_37 : mem24 2 = .inl (cy 0, 240, .inl f) := (hRX27.1.2.2 2 (by omega)).trans hT.2.2
    have h5_38 := hRX27.1.1.2.1
    have hbd44 := hRX27.1.1.1
    obtain ⟨S39, g40, hS_41, h220_42, h221_43⟩ := hRX27.1.1.2.2.2.2.2.2
    refine lv_pop Bx.1 Bx.2.1 d_Rd_readBracket_33 rfl ?_
    refine lv_aload_n Bx.1 Bx.2.1 d_Rd_readBracket_34 rfl (lv_at hl 0 rfl) ?_
    refine lv_iload_n Bx.1 Bx.2.1 d_Rd_readBracket_35 rfl (lv_at hl 1 rfl) ?_
    refine lv_iconst (v := 1) Bx.1 Bx.2.1 d_Rd_readBracket_36 (by decide) ?_
    refine lv_iadd Bx.1 Bx.2.1 d_Rd_readBracket_37 ?_
    rw [show (0 + 1 : Int32) = 1 from rfl]
    have her45 : ER ad R Ec Bw mem24 := hER.fr (Nat.le_refl _) (fun i9 hi9 => hfr33 (20 + 2 * i9) (by omega))
    have hsr46 : SR cy ad S Bw mem24 := ⟨(hfr33 220 (by omega)).trans hSR.1, (hfr33 221 (by omega)).trans hSR.2⟩
    refine f_xVr (na := 1) (As := [.int (1)]) (rest := []) Bx hml E hP hD hS (by omega) h9_35 rfl (m_Rd_readAlternatives_1Y l hlt hn hT hf hRX27 (by omega) (u := u) (A := (entA A 1 Ec what oe)) her45 hsr46 (by omega) (by omega) (ent_lka hLK) (cq := Ec) entA_f.2.2.2.2.2.2.2.1 (Nat.le_refl _) (by rw [entA_f.2.2.2.2.2.2.1, upd_self])) kw_405 kw_407 sel_Rd_readAlternatives kw_6 kw_408 (by decide +kernel) ⟨rfl, rfl⟩ ⟨Nat.le_of_ble_eq_true rfl, Nat.le_of_ble_eq_true rfl⟩ rfl hl.1 (Nat.le_of_ble_eq_true rfl) d_Rd_readBracket_38 ⟨Nat.le_of_ble_eq_true rfl, Nat.le_of_ble_eq_true rfl⟩ (fun X ce q9 memx H locs hx9 hP hS g1 g2 g3 => f_out hlocks hno hP hS g1 g2 g3 ⟨Nat.le_of_ble_eq_true rfl, Nat.le_of_ble_eq_true rfl⟩ ⟨hx9.1, hx9.2.elim (fun z => Or.inl (entS_no (Or.inl (by rw [← eg26]; exact z)))) (fun z => z.elim (fun z => Or.inl (entS_no (Or.inr z))) (fun z => Fai.br0 (by rw [ent_ok (by rw [← eg26]; exact z.1) z.2.1, ← eg26]) z.2.2))⟩) (fun r47 mem48 H locs hq hP hS => ?_)
    have hD : va_D (Az sz) (fw n ad mem48) := fw_D hD
    obtain ⟨la49, ax50, ux51, Rx52, Ex53, Sx54, Ax55, Bx_56, nx57, tox58, hr959, h160, h261, h362, h463, htk64, hrk65, hRX66, ali67, hbg68, hE69, h4770, hnb71⟩ := hq
    subst hr959
    have hrk72 : ∀ i9, i9 < R → mem48 (7 + i9) = mem (7 + i9) := fun i9 q9 => (hrk65 i9 (by omega)).trans (hrk32 i9 q9)
    obtain ⟨g73, eg74⟩ : ∃ z, z = gapF T Z ax50 := ⟨_, rfl⟩
    have hg75 : ax50 ≤ g73 := by rw [eg74]; exact gapF_ge T Z _
    have hg76 : g73 ≤ Z := by rw [eg74]; exact gapF_le T (by omega)
    rw [← eg74] at hRX66
    obtain ⟨ft77, h9_78⟩ := hRX66.2.1
    have h1_79 : mem48 1 = .inr (0, [.ref (ad 2), .int (nI Z)]) := (hRX66.1.2.2 1 (by omega)).trans hT.1
    have h2_80 : mem48 2 = .inl (cy 0, 240, .inl f) := (hRX66.1.2.2 2 (by omega)).trans hT.2.2
    have h5_81 := hRX66.1.1.2.1
    have hbd87 := hRX66.1.1.1
    obtain ⟨S82, g83, hS_84, h220_85, h221_86⟩ := hRX66.1.1.2.2.2.2.2.2
    have hbd88 := hRX66.1.1.1
    have hent : entS T Z (a + 1) u R Ec 1 A nm what oe = some (g25, u, R, Ec + 1, 1, (entA A 1 Ec what oe), nm, true) := by rw [ent_ok (by rw [← eg26]; exact hbg68) hE69, ← eg26]
    have hA5 : Ax55 235 1 = what := by
      obtain ⟨c1, ho, hg, hk, hs⟩ := ali67.1
      rw [hk 1 (by omega), entA_5, upd_self]
    refine lv_astore_n (lv' := [(3, .ref (ad (20 + 2 * Ec))), (0, .ref (ad 222)), (1, .int (0)), (2, .int (en))]) Bx.1 Bx.2.1 d_Rd_readBracket_41 rfl hl (by decide) rfl (fun ls hl => ?_)
    refine lv_aload_n Bx.1 Bx.2.1 d_Rd_readBracket_42 rfl (lv_at hl 1 rfl) ?_
    refine lv_aload_n Bx.1 Bx.2.1 d_Rd_readBracket_43 rfl (lv_at hl 1 rfl) ?_
    refine f_callVi (na := 0) (As := []) (rest := [.ref (ad 222)]) Bx hml E hP hD hS (by omega) h9_78 rfl (m_Rd_peekX l hn hT hf hRX66 (by omega)) kw_353 kw_355 sel_Rd_peek kw_6 kw_356 (by decide +kernel) ⟨rfl, rfl⟩ ⟨Nat.le_of_ble_eq_true rfl, Nat.le_of_ble_eq_true rfl⟩ rfl hl.1 (Nat.le_of_ble_eq_true rfl) d_Rd_readBracket_44 ⟨Nat.le_of_ble_eq_true rfl, Nat.le_of_ble_eq_true rfl⟩ (fun r90 mem91 H locs hq hP hS => ?_)
    have hD : va_D (Az sz) (fw n ad mem91) := fw_D hD
    obtain ⟨hqe, hpk89⟩ := hq
    rw [hqe] at hP hD
    subst hpk89
    refine lv_iload_n Bx.1 Bx.2.1 d_Rd_readBracket_47 rfl (lv_at hl 3 rfl) ?_
    refine lv_icmp_ne Bx.1 Bx.2.1 d_Rd_readBracket_48 rfl (fun hb93 => ?_) (fun hb93 => ?_)
    · refine lv_iconst (v := 0) Bx.1 Bx.2.1 d_Rd_readBracket_55 (by decide) ?_
      refine lv_aload_n Bx.1 Bx.2.1 d_Rd_readBracket_56 rfl (lv_at hl 1 rfl) ?_
      refine f_get Bx hP (by omega) h9_78 rfl inRd 2 (by decide) kw_146 rfl rfl d_Rd_readBracket_57 ?_
      refine f_xVv (na := 2) (As := [.int (0), .int (nI g73)]) (rest := []) Bx hml E hP hD hS (by omega) h9_78 rfl (m_Rd_needReadableX l hlt hn hT hf hRX66 (by omega)) kw_360 kw_362 sel_Rd_needReadable kw_6 kw_363 (by decide +kernel) ⟨rfl, rfl⟩ ⟨Nat.le_of_ble_eq_true rfl, Nat.le_of_ble_eq_true rfl⟩ rfl hl.1 (Nat.le_of_ble_eq_true rfl) d_Rd_readBracket_60 ⟨Nat.le_of_ble_eq_true rfl, Nat.le_of_ble_eq_true rfl⟩ (fun X ce q9 memx H locs hx9 hP hS g1 g2 g3 => f_out hlocks hno hP hS g1 g2 g3 ⟨Nat.le_of_ble_eq_true rfl, Nat.le_of_ble_eq_true rfl⟩ ⟨hx9.1, Fai.br1 hent ali67.1.suc (br_no hwe hA5 (by rw [← eg74]; exact hb93) h4770 hnb71)⟩) (fun mem95 H locs hq hP hS => ?_)
      have hD : va_D (Az sz) (fw n ad mem95) := fw_D hD
      obtain ⟨hqe, hg96⟩ := hq
      rw [hqe] at hP hD
      exact absurd rfl hg96
    · refine lv_iconst (v := 1) Bx.1 Bx.2.1 d_Rd_readBracket_51 (by decide) ?_
      refine lv_goto Bx.1 Bx.2.1 d_Rd_readBracket_52 rfl ?_
      refine lv_aload_n Bx.1 Bx.2.1 d_Rd_readBracket_56 rfl (lv_at hl 1 rfl) ?_
      refine f_get Bx hP (by omega) h9_78 rfl inRd 2 (by decide) kw_146 rfl rfl d_Rd_readBracket_57 ?_
      refine f_xVv (na := 2) (As := [.int (1), .int (nI g73)]) (rest := []) Bx hml E hP hD hS (by omega) h9_78 rfl (m_Rd_needReadableX l hlt hn hT hf hRX66 (by omega)) kw_360 kw_362 sel_Rd_needReadable kw_6 kw_363 (by decide +kernel) ⟨rfl, rfl⟩ ⟨Nat.le_of_ble_eq_true rfl, Nat.le_of_ble_eq_true rfl⟩ rfl hl.1 (Nat.le_of_ble_eq_true rfl) d_Rd_readBracket_60 ⟨Nat.le_of_ble_eq_true rfl, Nat.le_of_ble_eq_true rfl⟩ (fun X ce q9 memx H locs hx9 hP hS g1 g2 g3 => f_out hlocks hno hP hS g1 g2 g3 ⟨Nat.le_of_ble_eq_true rfl, Nat.le_of_ble_eq_true rfl⟩ ⟨hx9.1, absurd hx9.2 (by decide)⟩) (fun mem98 H locs hq hP hS => ?_)
      have hD : va_D (Az sz) (fw n ad mem98) := fw_D hD
      obtain ⟨hqe, hg99⟩ := hq
      rw [hqe] at hP hD
      refine lv_aload_n Bx.1 Bx.2.1 d_Rd_readBracket_63 rfl (lv_at hl 1 rfl) ?_
      refine lv_dup Bx.1 Bx.2.1 d_Rd_readBracket_64 rfl ?_
      refine f_get Bx hP (by omega) h9_78 rfl inRd 2 (by decide) kw_146 rfl rfl d_Rd_readBracket_65 ?_
      refine lv_iconst (v := 1) Bx.1 Bx.2.1 d_Rd_readBracket_68 (by decide) ?_
      refine lv_iadd Bx.1 Bx.2.1 d_Rd_readBracket_69 ?_
      rw [show nI g73 + 1 = nI (g73 + 1) from nI_add (g73) (1)]
      refine f_put Bx hP hD hS (by omega) h9_78 rfl inRd tyRd okRd nmRd 2 (by decide) kw_146 rfl rfl rfl rfl (Nat.le_of_ble_eq_true rfl) d_Rd_readBracket_70 (fun H locs hP hS => ?_)
      obtain ⟨mem100, e_mem100⟩ : ∃ z, z = va_up mem48 (222) (.inr (4, [.ref (ad 1), .ref (ad 5), .int (nI (g73 + 1)), .int (ft77)])) := ⟨_, rfl⟩
      have hP : va_P D vcl (fw n ad mem100) H := by rw [e_mem100]; exact hP
      have hD : va_D (Az sz) (fw n ad mem100) := fw_D hD
      have h_mem100 : mem100 (222) = .inr (4, [.ref (ad 1), .ref (ad 5), .int (nI (g73 + 1)), .int (ft77)]) := by rw [e_mem100, va_up_self]
      have hh101 := (va_up_ne mem48 (.inr (4, [.ref (ad 1), .ref (ad 5), .int (nI (g73 + 1)), .int (ft77)])) (show (1 : Nat) ≠ 222 by first | decide | assumption | omega)).trans h1_79
      rw [← e_mem100] at hh101
      have hh102 := (va_up_ne mem48 (.inr (4, [.ref (ad 1), .ref (ad 5), .int (nI (g73 + 1)), .int (ft77)])) (show (5 : Nat) ≠ 222 by first | decide | assumption | omega)).trans h5_81
      rw [← e_mem100] at hh102
      have hh103 := (va_up_ne mem48 (.inr (4, [.ref (ad 1), .ref (ad 5), .int (nI (g73 + 1)), .int (ft77)])) (show (220 : Nat) ≠ 222 by first | decide | assumption | omega)).trans h220_85
      rw [← e_mem100] at hh103
      have hrk104 : ∀ i9, i9 < R → mem100 (7 + i9) = mem (7 + i9) := fun i9 q9 => (show mem100 (7 + i9) = mem48 (7 + i9) by rw [e_mem100]; exact va_up_ne _ _ (by omega)).trans (hrk72 i9 q9)
      have her105 : ER ad (Rx52) (Ex53) (Bx_56) mem100 := ali67.2.1.fr (Nat.le_refl _) (fun i9 hi9 => by rw [e_mem100]; exact va_up_ne _ _ (by omega))
      have hsr106 : SR cy ad (Sx54) (Bx_56) mem100 := ⟨(show mem100 220 = _ from by rw [e_mem100]; exact va_up_ne _ _ (by omega)).trans ali67.2.2.1.1, (show mem100 221 = _ from by rw [e_mem100]; exact va_up_ne _ _ (by omega)).trans ali67.2.2.1.2⟩
      have hRX107 : RX cy ad lim (g73 + 1) (Rx52) (Ex53) (tox58) (nx57) m0 mem100 := by rw [e_mem100]; exact hRX66.at
      refine lv_aload_n Bx.1 Bx.2.1 d_Rd_readBracket_73 rfl (lv_at hl 0 rfl) ?_
      have hal9 : ALI cy ad T Z 1 (seqS T Z (gapF T Z (a + 1)) u R (Ec + 1) 1 (entA A 1 Ec what oe) nm) Ec R Ec S u (entA A 1 Ec what oe) Bw la49 ax50 ux51 Rx52 Ex53 Sx54 Ax55 Bx_56 nx57 mem100 := by rw [← eg26]; exact ⟨ali67.1, her105, hsr106, ali67.2.2.2⟩
      exact x_aret hx hb hlocks hr (⟨la49, ax50, ux51, Rx52, Ex53, Sx54, Ax55, Bx_56, nx57, tox58, rfl, by omega, by omega, by omega, by rw [← eg74]; have := br_lt hwe hb93; omega, htk64, hrk104, by rw [← eg74]; exact hRX107, hal9, by rw [← eg74]; exact hb93, by rw [← eg26]; exact hent⟩) hP hS d_Rd_readBracket_74
set_option maxHeartbeats 4000000 in
set_option maxRecDepth 100000 in
theorem m_Rd_readOption_0Y (l : Launch) {D : va_G} {cy : Nat → ClassId} {sz n : Nat} {ad : Nat → Nat} {mem : Nat → va_E} {Z a R Ec lim : Nat} {f T : Nat → Int32} {to : Nat → Int32} {nm : Nat → Int64} {m0 : Nat → va_E} {u S : Nat} {A Bw : Ro} (hlt : l.stackTraces = false) (hn : 224 ≤ n) (hT : TX cy ad Z f m0) (hf : ∀ k, k < Z → f k = T k) (hRX : RX cy ad lim a R Ec to nm m0 mem) (haB : a ≤ 300) (hER : ER ad R Ec Bw mem) (hSR : SR cy ad S Bw mem) (hSa : S ≤ a) (haZ : a < Z) (hLK : LKa Ec A) (hF : FRM A 0 Ec) (c91 : hereF Z T a = 91) : NXr l D cy sz n ad y_Rd_readOption c_Rd_readOption 3 (some (.object "AbnfChart$Element")) ({ frames := 51, cells := 1, slots := 6, locals := 1243 } : Room) mem [.ref (ad 222), .int (0)] (fun r mem' => ∃ (k' a' u' R' E' S' : Nat) (A' Bw' : Ro) (nm' : Nat → Int64) (to' : Nat → Int32), r = ad (20 + 2 * k') ∧ Ec ≤ k' ∧ k' < E' ∧ R ≤ R' ∧ a < a' ∧ a' ≤ Z ∧ TOK R R' to to' ∧ (∀ i9, i9 < R → mem' (7 + i9) = mem (7 + i9)) ∧ RX cy ad lim a' R' E' to' nm' m0 mem' ∧ RDS cy ad T Z 0 (singS T Z a u R Ec 0 A nm) (PSf A 0) R Ec S u A Bw k' a' u' R' E' S' A' Bw' nm' mem' ∧ A' 238 0 = A 238 0) (fun X mem' => ((X = cIA ∨ X = cIS) ∧ ∃ rc' ec' : Nat, RS cy ad lim rc' ec' m0 mem') ∧ (Fai T Z (singS T Z a u R Ec 0 A nm))) := by
  refine vx_ofW (cc := c_Rd_readOption) (maxL := 3) (ret := (some (.object "AbnfChart$Element"))) (by decide) rfl ?_
  intro p e s m args below meth c s₁ B hml hno hv
  obtain ⟨rfl, E, hP, hD⟩ := hv
  have hx := B.exec
  have hb := B.bytes
  have hr := B.returns
  have hlocks := B.notSynchronized
  have Bx : MB p s m [.ref (ad 222), .int (0)].toArray c c_Rd_readOption "AbnfChart$Reader" D cy := ⟨hx, hb, tb_all (atoms_spec B.pre) E.2.1, findClass_of_methodNamed B.named, E.1⟩
  have hS : va_S (Az sz) s.heap s.heap [] := va_S.rf
  have hl := lv_entry ([.ref (ad 222), .int (0)]) (n := 3) (Nat.le_of_ble_eq_true rfl)
  rw [lg_entry_eq]
  generalize (lg_sl ([.ref (ad 222), .int (0)]) ++ List.replicate (3 - (lg_sl ([.ref (ad 222), .int (0)])).length) Slot.unset).toArray = ls at hl ⊢
  have hl : lv_has ls 3 [(0, .ref (ad 222)), (1, .int (0))] := hl
  have hZ9 := hT.2.1
  have hbd9 := hRX.1.1.1
  have hfr0 : ∀ i, 7 ≤ i ∧ i < 222 ∧ i ≠ 20 + 2 * Ec → mem i = mem i := fun _ _ => rfl
  have hrk0 : ∀ i9, i9 < R → mem (7 + i9) = mem (7 + i9) := fun _ _ => rfl
  obtain ⟨ft1, h9_2⟩ := hRX.2.1
  have h1_3 : mem 1 = .inr (0, [.ref (ad 2), .int (nI Z)]) := (hRX.1.2.2 1 (by omega)).trans hT.1
  have h2_4 : mem 2 = .inl (cy 0, 240, .inl f) := (hRX.1.2.2 2 (by omega)).trans hT.2.2
  have h5_5 := hRX.1.1.2.1
  have hbd11 := hRX.1.1.1
  obtain ⟨S6, g7, hS_8, h220_9, h221_10⟩ := hRX.1.1.2.2.2.2.2.2
  refine lv_aload_n Bx.1 Bx.2.1 d_Rd_readOption_0 rfl (lv_at hl 0 rfl) ?_
  refine lv_iconst (v := 3) Bx.1 Bx.2.1 d_Rd_readOption_1 (by decide) ?_
  refine lv_aload_n Bx.1 Bx.2.1 d_Rd_readOption_2 rfl (lv_at hl 0 rfl) ?_
  refine f_get Bx hP (by omega) h9_2 rfl inRd 2 (by decide) kw_146 rfl rfl d_Rd_readOption_3 ?_
  refine f_xVr (na := 2) (As := [.int (3), .int (nI a)]) (rest := []) Bx hml E hP hD hS (by omega) h9_2 rfl (m_Rd_addElementY l hlt hn hT hf hRX (by omega)) kw_419 kw_421 sel_Rd_addElement kw_6 kw_422 (by decide +kernel) ⟨rfl, rfl⟩ ⟨Nat.le_of_ble_eq_true rfl, Nat.le_of_ble_eq_true rfl⟩ rfl hl.1 (Nat.le_of_ble_eq_true rfl) d_Rd_readOption_6 ⟨Nat.le_of_ble_eq_true rfl, Nat.le_of_ble_eq_true rfl⟩ (fun X ce q9 memx H locs hx9 hP hS g1 g2 g3 => f_out hlocks hno hP hS g1 g2 g3 ⟨Nat.le_of_ble_eq_true rfl, Nat.le_of_ble_eq_true rfl⟩ ⟨hx9.1, Or.inl (sing_o0 (l91 c91).1 c91 (Or.inr hx9.2))⟩) (fun r12 mem13 H locs hq hP hS => ?_)
  have hD : va_D (Az sz) (fw n ad mem13) := fw_D hD
  obtain ⟨hr914, hec15, hRX16, hcl17, hfa18⟩ := hq
  subst hr914
  have hrk19 : ∀ i9, i9 < R → mem13 (7 + i9) = mem (7 + i9) := fun i9 q9 => (hfa18 (7 + i9) (by omega)).trans (hrk0 i9 q9)
  have hfr20 : ∀ i, 7 ≤ i ∧ i < 222 ∧ i ≠ 20 + 2 * Ec → mem13 i = mem i := fun i q => (hfa18 i (by omega)).trans (hfr0 i q)
  obtain ⟨ft21, h9_22⟩ := hRX16.2.1
  have h1_23 : mem13 1 = .inr (0, [.ref (ad 2), .int (nI Z)]) := (hRX16.1.2.2 1 (by omega)).trans hT.1
  have h2_24 : mem13 2 = .inl (cy 0, 240, .inl f) := (hRX16.1.2.2 2 (by omega)).trans hT.2.2
  have h5_25 := hRX16.1.1.2.1
  have hbd31 := hRX16.1.1.1
  obtain ⟨S26, g27, hS_28, h220_29, h221_30⟩ := hRX16.1.1.2.2.2.2.2.2
  obtain ⟨ft32, h9_33⟩ := hRX16.2.1
  have h1_34 : mem13 1 = .inr (0, [.ref (ad 2), .int (nI Z)]) := (hRX16.1.2.2 1 (by omega)).trans hT.1
  have h2_35 : mem13 2 = .inl (cy 0, 240, .inl f) := (hRX16.1.2.2 2 (by omega)).trans hT.2.2
  have h5_36 := hRX16.1.1.2.1
  have hbd42 := hRX16.1.1.1
  obtain ⟨S37, g38, hS_39, h220_40, h221_41⟩ := hRX16.1.1.2.2.2.2.2.2
  refine lv_astore_n (lv' := [(2, .ref (ad (20 + 2 * Ec))), (0, .ref (ad 222)), (1, .int (0))]) Bx.1 Bx.2.1 d_Rd_readOption_9 rfl hl (by decide) rfl (fun ls hl => ?_)
  refine lv_aload_n Bx.1 Bx.2.1 d_Rd_readOption_10 rfl (lv_at hl 0 rfl) ?_
  refine lv_aload_n Bx.1 Bx.2.1 d_Rd_readOption_11 rfl (lv_at hl 1 rfl) ?_
  refine lv_iload_n Bx.1 Bx.2.1 d_Rd_readOption_12 rfl (lv_at hl 2 rfl) ?_
  refine lv_bipush (v := 93) Bx.1 Bx.2.1 d_Rd_readOption_13 (by decide) ?_
  have her43 : ER ad R (Ec + 1) (bwN Bw Ec 3 (0) (0) (-1) (-1) (-1) (Bw 234)) mem13 := hER.new (Nat.le_refl _) (by rw [vR_m]; exact hcl17) (Or.inl rfl) (fun i9 hi9 => hfr20 (20 + 2 * i9) (by omega))
  have hsr44 : SR cy ad S (bwN Bw Ec 3 (0) (0) (-1) (-1) (-1) (Bw 234)) mem13 := ⟨(hfr20 220 (by omega)).trans hSR.1, (hfr20 221 (by omega)).trans hSR.2⟩
  have hE9 := hec15
  refine f_xVr (na := 2) (As := [.int (0), .int (93)]) (rest := [.ref (ad (20 + 2 * Ec))]) Bx hml E hP hD hS (by omega) h9_33 rfl (m_Rd_readBracket_0Y l hlt hn hT hf hRX16 (by omega) (u := u) (A := elA A Ec 3) (what := 2) (oe := nI Ec) her43 hsr44 (by omega) (by omega) (Or.inr ⟨rfl, rfl⟩) (elA_lka hLK)) kw_447 kw_449 sel_Rd_readBracket kw_6 kw_450 (by decide +kernel) ⟨rfl, rfl⟩ ⟨Nat.le_of_ble_eq_true rfl, Nat.le_of_ble_eq_true rfl⟩ rfl hl.1 (Nat.le_of_ble_eq_true rfl) d_Rd_readOption_15 ⟨Nat.le_of_ble_eq_true rfl, Nat.le_of_ble_eq_true rfl⟩ (fun X ce q9 memx H locs hx9 hP hS g1 g2 g3 => f_out hlocks hno hP hS g1 g2 g3 ⟨Nat.le_of_ble_eq_true rfl, Nat.le_of_ble_eq_true rfl⟩ ⟨hx9.1, hx9.2.eq (sing_op (l91 c91).1 c91 (by omega) hE9)⟩) (fun r45 mem46 H locs hq hP hS => ?_)
  have hD : va_D (Az sz) (fw n ad mem46) := fw_D hD
  obtain ⟨la47, ax48, ux49, Rx50, Ex51, Sx52, Ax53, Bx_54, nx55, tox56, hr957, h158, h259, h360, h461, htk62, hrk63, hRX64, ali65, hh66, hent67⟩ := hq
  subst hr957
  have hrk68 : ∀ i9, i9 < R → mem46 (7 + i9) = mem (7 + i9) := fun i9 q9 => (hrk63 i9 (by omega)).trans (hrk19 i9 q9)
  obtain ⟨ft69, h9_70⟩ := hRX64.2.1
  have h1_71 : mem46 1 = .inr (0, [.ref (ad 2), .int (nI Z)]) := (hRX64.1.2.2 1 (by omega)).trans hT.1
  have h2_72 : mem46 2 = .inl (cy 0, 240, .inl f) := (hRX64.1.2.2 2 (by omega)).trans hT.2.2
  have h5_73 := hRX64.1.1.2.1
  have hbd79 := hRX64.1.1.1
  obtain ⟨S74, g75, hS_76, h220_77, h221_78⟩ := hRX64.1.1.2.2.2.2.2.2
  have hbd80 := hRX64.1.1.1
  have hce81 := (ali65.2.1 Ec (by omega)).1
  refine f_putN Bx hP hD hS (by omega) hce81 rfl inEl tyEl okEl nmEl 4 (by decide) kw_87 rfl rfl rfl rfl (Nat.le_of_ble_eq_true rfl) d_Rd_readOption_18 (fun H locs hP hS => ?_)
  obtain ⟨mem82, e_mem82⟩ : ∃ z, z = va_up mem46 ((20 + 2 * Ec)) (.inr (2, [.int (Bx_54 228 Ec), .int (Bx_54 229 Ec), .int (Bx_54 230 Ec), vR ad (Bx_54 231 Ec), .ref (ad (20 + 2 * (Ec + 1))), vE ad (Bx_54 233 Ec), .ref (ad (21 + 2 * Ec))])) := ⟨_, rfl⟩
  have hP : va_P D vcl (fw n ad mem82) H := by rw [e_mem82]; exact hP
  have hD : va_D (Az sz) (fw n ad mem82) := fw_D hD
  have h_mem82 : mem82 ((20 + 2 * Ec)) = .inr (2, [.int (Bx_54 228 Ec), .int (Bx_54 229 Ec), .int (Bx_54 230 Ec), vR ad (Bx_54 231 Ec), .ref (ad (20 + 2 * (Ec + 1))), vE ad (Bx_54 233 Ec), .ref (ad (21 + 2 * Ec))]) := by rw [e_mem82, va_up_self]
  have hh83 := (va_up_ne mem46 (.inr (2, [.int (Bx_54 228 Ec), .int (Bx_54 229 Ec), .int (Bx_54 230 Ec), vR ad (Bx_54 231 Ec), .ref (ad (20 + 2 * (Ec + 1))), vE ad (Bx_54 233 Ec), .ref (ad (21 + 2 * Ec))])) (show (222 : Nat) ≠ (20 + 2 * Ec) by first | decide | assumption | omega)).trans h9_70
  rw [← e_mem82] at hh83
  have hh84 := (va_up_ne mem46 (.inr (2, [.int (Bx_54 228 Ec), .int (Bx_54 229 Ec), .int (Bx_54 230 Ec), vR ad (Bx_54 231 Ec), .ref (ad (20 + 2 * (Ec + 1))), vE ad (Bx_54 233 Ec), .ref (ad (21 + 2 * Ec))])) (show (1 : Nat) ≠ (20 + 2 * Ec) by first | decide | assumption | omega)).trans h1_71
  rw [← e_mem82] at hh84
  have hh85 := (va_up_ne mem46 (.inr (2, [.int (Bx_54 228 Ec), .int (Bx_54 229 Ec), .int (Bx_54 230 Ec), vR ad (Bx_54 231 Ec), .ref (ad (20 + 2 * (Ec + 1))), vE ad (Bx_54 233 Ec), .ref (ad (21 + 2 * Ec))])) (show (5 : Nat) ≠ (20 + 2 * Ec) by first | decide | assumption | omega)).trans h5_73
  rw [← e_mem82] at hh85
  have hh86 := (va_up_ne mem46 (.inr (2, [.int (Bx_54 228 Ec), .int (Bx_54 229 Ec), .int (Bx_54 230 Ec), vR ad (Bx_54 231 Ec), .ref (ad (20 + 2 * (Ec + 1))), vE ad (Bx_54 233 Ec), .ref (ad (21 + 2 * Ec))])) (show (220 : Nat) ≠ (20 + 2 * Ec) by first | decide | assumption | omega)).trans h220_77
  rw [← e_mem82] at hh86
  have hrk87 : ∀ i9, i9 < R → mem82 (7 + i9) = mem (7 + i9) := fun i9 q9 => (show mem82 (7 + i9) = mem46 (7 + i9) by rw [e_mem82]; exact va_up_ne _ _ (by omega)).trans (hrk68 i9 q9)
  have hRX88 : RX cy ad lim (gapF T Z ax48 + 1) (Rx50) (Ex51) (tox56) (nx55) m0 mem82 := by rw [e_mem82]; exact hRX64.el (by omega) (hRX64.1.mk (by omega) (hRX64.1.1.upEl (by omega) (fun _ => ⟨(ali65.2.1 Ec (by omega)).2.1.oR ad, Or.inr ⟨(Ec + 1), by omega, by omega, rfl⟩, (ali65.2.1 Ec (by omega)).2.2.2.oE ad (by omega)⟩)))
  have her89 : ER ad (Rx50) (Ex51) (va_up Bx_54 232 (upd (Bx_54 232) Ec (nI (Ec + 1)))) mem82 := ali65.2.1.part (by omega) (by omega) (by omega) h_mem82 (fun i9 q9 hi9 => by rw [e_mem82]; exact va_up_ne _ _ (by omega))
  have hsr90 : SR cy ad (Sx52) (Bx_54) mem82 := ⟨(show mem82 220 = mem46 220 by rw [e_mem82]; exact va_up_ne _ _ (by omega)).trans ali65.2.2.1.1, (show mem82 221 = mem46 221 by rw [e_mem82]; exact va_up_ne _ _ (by omega)).trans ali65.2.2.1.2⟩
  obtain ⟨ft91, h9_92⟩ := hRX88.2.1
  have h1_93 : mem82 1 = .inr (0, [.ref (ad 2), .int (nI Z)]) := (hRX88.1.2.2 1 (by omega)).trans hT.1
  have h2_94 : mem82 2 = .inl (cy 0, 240, .inl f) := (hRX88.1.2.2 2 (by omega)).trans hT.2.2
  have h5_95 := hRX88.1.1.2.1
  have hbd101 := hRX88.1.1.1
  obtain ⟨S96, g97, hS_98, h220_99, h221_100⟩ := hRX88.1.1.2.2.2.2.2.2
  refine lv_aload_n Bx.1 Bx.2.1 d_Rd_readOption_21 rfl (lv_at hl 0 rfl) ?_
  have hrd9 := opt_rds (nm := nm) hLK (by omega) hF hent67 ali65 hh66 her89 hsr90
  exact x_aret hx hb hlocks hr (⟨Ec, gapF T Z ax48 + 1, ux49, Rx50, Ex51, Sx52, _, _, nx55, tox56, rfl, by omega, by omega, by omega, by have := gapF_ge T Z ax48; omega, by omega, htk62, hrk87, hRX88, rdsEq hrd9.1 (sing_op (l91 c91).1 c91 (by omega) hE9), hrd9.2⟩) hP hS d_Rd_readOption_22
set_option maxHeartbeats 4000000 in
set_option maxRecDepth 100000 in
theorem m_Rd_readElement_0Y (l : Launch) {D : va_G} {cy : Nat → ClassId} {sz n : Nat} {ad : Nat → Nat} {mem : Nat → va_E} {Z a R Ec lim : Nat} {f T : Nat → Int32} {to : Nat → Int32} {nm : Nat → Int64} {m0 : Nat → va_E} {u S : Nat} {A Bw : Ro} (hlt : l.stackTraces = false) (hn : 224 ≤ n) (hT : TX cy ad Z f m0) (hf : ∀ k, k < Z → f k = T k) (hRX : RX cy ad lim a R Ec to nm m0 mem) (haB : a ≤ 300) (hER : ER ad R Ec Bw mem) (hSR : SR cy ad S Bw mem) (hSa : S ≤ a) (haZ : a ≤ Z) (hLK : LKa Ec A) (hF : FRM A 0 Ec) : NXr l D cy sz n ad y_Rd_readElement c_Rd_readElement 2 (some (.object "AbnfChart$Element")) ({ frames := 52, cells := 1, slots := 6, locals := 1266 } : Room) mem [.ref (ad 222), .int (0)] (fun r mem' => ∃ (k' a' u' R' E' S' : Nat) (A' Bw' : Ro) (nm' : Nat → Int64) (to' : Nat → Int32), r = ad (20 + 2 * k') ∧ Ec ≤ k' ∧ k' < E' ∧ R ≤ R' ∧ a < a' ∧ a' ≤ Z ∧ TOK R R' to to' ∧ (∀ i9, i9 < R → mem' (7 + i9) = mem (7 + i9)) ∧ RX cy ad lim a' R' E' to' nm' m0 mem' ∧ RDS cy ad T Z 0 (singS T Z a u R Ec 0 A nm) (PSf A 0) R Ec S u A Bw k' a' u' R' E' S' A' Bw' nm' mem' ∧ A' 238 0 = A 238 0 ∧ OKc (hereF Z T a)) (fun X mem' => ((X = cIA ∨ X = cIS) ∧ ∃ rc' ec' : Nat, RS cy ad lim rc' ec' m0 mem') ∧ (Fai T Z (singS T Z a u R Ec 0 A nm) ∨ ¬ OKc (hereF Z T a))) := by
  refine vx_ofW (cc := c_Rd_readElement) (maxL := 2) (ret := (some (.object "AbnfChart$Element"))) (by decide) rfl ?_
  intro p e s m args below meth c s₁ B hml hno hv
  obtain ⟨rfl, E, hP, hD⟩ := hv
  have hx := B.exec
  have hb := B.bytes
  have hr := B.returns
  have hlocks := B.notSynchronized
  have Bx : MB p s m [.ref (ad 222), .int (0)].toArray c c_Rd_readElement "AbnfChart$Reader" D cy := ⟨hx, hb, tb_all (atoms_spec B.pre) E.2.1, findClass_of_methodNamed B.named, E.1⟩
  have hS : va_S (Az sz) s.heap s.heap [] := va_S.rf
  have hl := lv_entry ([.ref (ad 222), .int (0)]) (n := 2) (Nat.le_of_ble_eq_true rfl)
  rw [lg_entry_eq]
  generalize (lg_sl ([.ref (ad 222), .int (0)]) ++ List.replicate (2 - (lg_sl ([.ref (ad 222), .int (0)])).length) Slot.unset).toArray = ls at hl ⊢
  have hl : lv_has ls 2 [(0, .ref (ad 222)), (1, .int (0))] := hl
  have hZ9 := hT.2.1
  have hbd9 := hRX.1.1.1
  have hfr0 : ∀ i, 7 ≤ i ∧ i < 222 ∧ i ≠ 20 + 2 * Ec → mem i = mem i := fun _ _ => rfl
  have hrk0 : ∀ i9, i9 < R → mem (7 + i9) = mem (7 + i9) := fun _ _ => rfl
  obtain ⟨ft1, h9_2⟩ := hRX.2.1
  have h1_3 : mem 1 = .inr (0, [.ref (ad 2), .int (nI Z)]) := (hRX.1.2.2 1 (by omega)).trans hT.1
  have h2_4 : mem 2 = .inl (cy 0, 240, .inl f) := (hRX.1.2.2 2 (by omega)).trans hT.2.2
  have h5_5 := hRX.1.1.2.1
  have hbd11 := hRX.1.1.1
  obtain ⟨S6, g7, hS_8, h220_9, h221_10⟩ := hRX.1.1.2.2.2.2.2.2
  refine lv_aload_n Bx.1 Bx.2.1 d_Rd_readElement_0 rfl (lv_at hl 0 rfl) ?_
  refine f_callVi (na := 0) (As := []) (rest := []) Bx hml E hP hD hS (by omega) h9_2 rfl (m_Rd_peekX l hn hT hf hRX (by omega)) kw_353 kw_355 sel_Rd_peek kw_6 kw_356 (by decide +kernel) ⟨rfl, rfl⟩ ⟨Nat.le_of_ble_eq_true rfl, Nat.le_of_ble_eq_true rfl⟩ rfl hl.1 (Nat.le_of_ble_eq_true rfl) d_Rd_readElement_1 ⟨Nat.le_of_ble_eq_true rfl, Nat.le_of_ble_eq_true rfl⟩ (fun r13 mem14 H locs hq hP hS => ?_)
  have hD : va_D (Az sz) (fw n ad mem14) := fw_D hD
  obtain ⟨hqe, hpk12⟩ := hq
  rw [hqe] at hP hD
  subst hpk12
  refine lv_topi (fun v16 e_v16 => ?_)
  by_cases c34 : v16 = 34
  · rw [c34]
    refine lv_lookup (off := 58) (tgt := 62) Bx.1 Bx.2.1 d_Rd_readElement_4 (by decide) (by decide) rfl ?_
    rw [e_v16] at c34
    have hlt34 := hereF_lt (show hereF Z T (a) ≠ -1 by rw [c34]; decide)
    refine lv_aload_n Bx.1 Bx.2.1 d_Rd_readElement_62 rfl (lv_at hl 0 rfl) ?_
    refine lv_aload_n Bx.1 Bx.2.1 d_Rd_readElement_63 rfl (lv_at hl 0 rfl) ?_
    refine f_get Bx hP (by omega) h9_2 rfl inRd 2 (by decide) kw_146 rfl rfl d_Rd_readElement_64 ?_
    refine lv_iconst (v := 5) Bx.1 Bx.2.1 d_Rd_readElement_67 (by decide) ?_
    refine f_xVr (na := 2) (As := [.int (nI a), .int (5)]) (rest := []) Bx hml E hP hD hS (by omega) h9_2 rfl (m_Rd_readStringY l hlt hn hT hf hRX (by omega) hSR.1 hSR.2 (by omega) hSa) kw_455 kw_457 sel_Rd_readString kw_6 kw_458 (by decide +kernel) ⟨rfl, rfl⟩ ⟨Nat.le_of_ble_eq_true rfl, Nat.le_of_ble_eq_true rfl⟩ rfl hl.1 (Nat.le_of_ble_eq_true rfl) d_Rd_readElement_68 ⟨Nat.le_of_ble_eq_true rfl, Nat.le_of_ble_eq_true rfl⟩ (fun X ce q9 memx H locs hx9 hP hS g1 g2 g3 => f_out hlocks hno hP hS g1 g2 g3 ⟨Nat.le_of_ble_eq_true rfl, Nat.le_of_ble_eq_true rfl⟩ ⟨hx9.1, Or.inl (fai_str c34 hx9.2 hbd9.2.1)⟩) (fun r17 mem18 H locs hq hP hS => ?_)
    have hD : va_D (Az sz) (fw n ad mem18) := fw_D hD
    obtain ⟨hE9, hq9, hr2, hle9, hRX2, hcl2, ⟨s9, hs0, hs1, hs2, hs3⟩, hfr2⟩ := hq
    subst hr2
    obtain ⟨A2, B2, hrd2, h82⟩ := rds_str (j := 0) (u := u) (nm := nm) c34 hE9 hq9 hLK hF hER hcl2 hs0 hs1 hs2 hs3 (fun k hk => hfr2 (20 + 2 * k) (by omega)) hSa
    exact x_aret hx hb hlocks hr (⟨Ec, _, _, R, Ec + 1, _, A2, B2, nm, to, rfl, by omega, by omega, by omega, by omega, hle9, TOK.of rfl, fun i9 q9 => hfr2 (7 + i9) (by omega), hRX2, hrd2, h82, (l34 c34).2.2.2⟩) hP hS d_Rd_readElement_71
  by_cases c37 : v16 = 37
  · rw [c37]
    refine lv_lookup (off := 68) (tgt := 72) Bx.1 Bx.2.1 d_Rd_readElement_4 (by decide) (by decide) rfl ?_
    rw [e_v16] at c37
    have hlt37 := hereF_lt (show hereF Z T (a) ≠ -1 by rw [c37]; decide)
    refine lv_aload_n Bx.1 Bx.2.1 d_Rd_readElement_72 rfl (lv_at hl 0 rfl) ?_
    refine f_get Bx hP (by omega) h9_2 rfl inRd 0 (by decide) kw_144 rfl rfl d_Rd_readElement_73 ?_
    refine lv_aload_n Bx.1 Bx.2.1 d_Rd_readElement_76 rfl (lv_at hl 0 rfl) ?_
    refine f_get Bx hP (by omega) h9_2 rfl inRd 2 (by decide) kw_146 rfl rfl d_Rd_readElement_77 ?_
    refine lv_iconst (v := 1) Bx.1 Bx.2.1 d_Rd_readElement_80 (by decide) ?_
    refine lv_iadd Bx.1 Bx.2.1 d_Rd_readElement_81 ?_
    rw [show nI a + 1 = nI (a + 1) from nI_add (a) (1)]
    refine f_callVi (na := 1) (As := [.int (nI (a + 1))]) (rest := []) Bx hml E hP hD hS (by omega) h1_3 rfl (m_Ch_codeAt l (by omega) h1_3 (by omega) h2_4 (by rw [nI_toInt (by omega)]; omega)) kw_341 kw_342 kw_343 kw_2 kw_344 (by decide +kernel) ⟨rfl, rfl⟩ ⟨Nat.le_of_ble_eq_true rfl, Nat.le_of_ble_eq_true rfl⟩ rfl hl.1 (Nat.le_of_ble_eq_true rfl) d_Rd_readElement_82 ⟨Nat.le_of_ble_eq_true rfl, Nat.le_of_ble_eq_true rfl⟩ (fun r19 mem20 H locs hq hP hS => ?_)
    have hD : va_D (Az sz) (fw n ad mem20) := fw_D hD
    obtain ⟨hco21, hqe⟩ := hq
    rw [hqe] at hP hD
    rw [code_here hf hT.2.1 (k := a + 1) (by omega)] at hco21
    subst hco21
    refine f_callSNi (na := 1) (As := [.int (hereF Z T (a + 1))]) (rest := []) Bx hml E.2.1 (m_Ab_smallOfX l (hereF Z T (a + 1))) kw_372 kw_373 kw_1 kw_374 (by decide +kernel) ⟨rfl, rfl⟩ ⟨Nat.le_of_ble_eq_true rfl, Nat.le_of_ble_eq_true rfl⟩ rfl hl.1 (Nat.le_of_ble_eq_true rfl) d_Rd_readElement_85 ⟨Nat.le_of_ble_eq_true rfl, Nat.le_of_ble_eq_true rfl⟩ (fun r23 hs22 => ?_)
    subst hs22
    refine lv_bipush (v := 115) Bx.1 Bx.2.1 d_Rd_readElement_88 (by decide) ?_
    refine lv_icmp_ne Bx.1 Bx.2.1 d_Rd_readElement_90 rfl (fun hb24 => ?_) (fun hb24 => ?_)
    · refine lv_aload_n Bx.1 Bx.2.1 d_Rd_readElement_100 rfl (lv_at hl 0 rfl) ?_
      refine f_xVr (na := 0) (As := []) (rest := []) Bx hml E hP hD hS (by omega) h9_2 rfl (m_Rd_readValueY l hlt hn hT hf hRX (by omega) (u8 := u) (e8 := Ec) (A0 := va_up (elA A Ec 4) 231 (upd (elA A Ec 4 231) Ec (vp_nar .boolean 1))) hSR.1 hSR.2 (by omega) hSa) kw_467 kw_469 sel_Rd_readValue kw_6 kw_470 (by decide +kernel) ⟨rfl, rfl⟩ ⟨Nat.le_of_ble_eq_true rfl, Nat.le_of_ble_eq_true rfl⟩ rfl hl.1 (Nat.le_of_ble_eq_true rfl) d_Rd_readElement_101 ⟨Nat.le_of_ble_eq_true rfl, Nat.le_of_ble_eq_true rfl⟩ (fun X ce q9 memx H locs hx9 hP hS g1 g2 g3 => f_out hlocks hno hP hS g1 g2 g3 ⟨Nat.le_of_ble_eq_true rfl, Nat.le_of_ble_eq_true rfl⟩ ⟨hx9.1, Or.inl (fai_val c37 hb24 hx9.2 hbd9.2.1)⟩) (fun r25 mem26 H locs hq hP hS => ?_)
      have hD : va_D (Az sz) (fw n ad mem26) := fw_D hD
      obtain ⟨hE9, ba, a2, u2, A1, hba, hn9, hr2, x1, x2, hRX2, hsp2, hc2, hfr2⟩ := hq
      subst hr2
      obtain ⟨S2, A2, B2, hrd2, h82⟩ := rds_val (j := 0) (nm := nm) c37 hba hE9 hn9 hsp2 hLK hF hER (fun k hk => hfr2 (20 + 2 * k) (by omega)) hSa x1 hc2
      exact x_aret hx hb hlocks hr (⟨Ec, a2, u2, R, Ec + 1, S2, A2, B2, nm, to, rfl, by omega, by omega, by omega, x1, x2, TOK.of rfl, fun i9 q9 => hfr2 (7 + i9) (by omega), hRX2, hrd2, h82, (l37 c37).2.2.2.2⟩) hP hS d_Rd_readElement_104
    · refine lv_aload_n Bx.1 Bx.2.1 d_Rd_readElement_93 rfl (lv_at hl 0 rfl) ?_
      refine f_xVr (na := 0) (As := []) (rest := []) Bx hml E hP hD hS (by omega) h9_2 rfl (m_Rd_readExactStringY l hlt hn hT hf hRX (by omega) hSR.1 hSR.2 (by omega) hSa) kw_463 kw_465 sel_Rd_readExactString kw_6 kw_466 (by decide +kernel) ⟨rfl, rfl⟩ ⟨Nat.le_of_ble_eq_true rfl, Nat.le_of_ble_eq_true rfl⟩ rfl hl.1 (Nat.le_of_ble_eq_true rfl) d_Rd_readElement_94 ⟨Nat.le_of_ble_eq_true rfl, Nat.le_of_ble_eq_true rfl⟩ (fun X ce q9 memx H locs hx9 hP hS g1 g2 g3 => f_out hlocks hno hP hS g1 g2 g3 ⟨Nat.le_of_ble_eq_true rfl, Nat.le_of_ble_eq_true rfl⟩ ⟨hx9.1, Or.inl (fai_xst c37 hb24 hx9.2 hbd9.2.1)⟩) (fun r27 mem28 H locs hq hP hS => ?_)
      have hD : va_D (Az sz) (fw n ad mem28) := fw_D hD
      obtain ⟨hq8, hE9, hq9, hr2, hle9, hRX2, hcl2, ⟨s9, hs0, hs1, hs2, hs3⟩, hfr2⟩ := hq
      subst hr2
      obtain ⟨A2, B2, hrd2, h82⟩ := rds_xst (j := 0) (u := u) (nm := nm) c37 hb24 hq8 hE9 hq9 hLK hF hER hcl2 hs0 hs1 hs2 hs3 (fun k hk => hfr2 (20 + 2 * k) (by omega)) hSa
      refine lv_goto Bx.1 Bx.2.1 d_Rd_readElement_97 rfl ?_
      exact x_aret hx hb hlocks hr (⟨Ec, _, _, R, Ec + 1, _, A2, B2, nm, to, rfl, by omega, by omega, by omega, by omega, hle9, TOK.of rfl, fun i9 q9 => hfr2 (7 + i9) (by omega), hRX2, hrd2, h82, (l37 c37).2.2.2.2⟩) hP hS d_Rd_readElement_104
  by_cases c40 : v16 = 40
  · rw [c40]
    refine lv_lookup (off := 44) (tgt := 48) Bx.1 Bx.2.1 d_Rd_readElement_4 (by decide) (by decide) rfl ?_
    rw [e_v16] at c40
    have hlt40 := hereF_lt (show hereF Z T (a) ≠ -1 by rw [c40]; decide)
    refine lv_aload_n Bx.1 Bx.2.1 d_Rd_readElement_48 rfl (lv_at hl 0 rfl) ?_
    refine lv_iload_n Bx.1 Bx.2.1 d_Rd_readElement_49 rfl (lv_at hl 1 rfl) ?_
    refine lv_bipush (v := 41) Bx.1 Bx.2.1 d_Rd_readElement_50 (by decide) ?_
    refine f_xVr (na := 2) (As := [.int (0), .int (41)]) (rest := []) Bx hml E hP hD hS (by omega) h9_2 rfl (m_Rd_readBracket_0Y l hlt hn hT hf hRX (by omega) (u := u) (A := A) (what := 1) (oe := -1) hER hSR hSa (by omega) (Or.inl ⟨rfl, rfl⟩) hLK) kw_447 kw_449 sel_Rd_readBracket kw_6 kw_450 (by decide +kernel) ⟨rfl, rfl⟩ ⟨Nat.le_of_ble_eq_true rfl, Nat.le_of_ble_eq_true rfl⟩ rfl hl.1 (Nat.le_of_ble_eq_true rfl) d_Rd_readElement_52 ⟨Nat.le_of_ble_eq_true rfl, Nat.le_of_ble_eq_true rfl⟩ (fun X ce q9 memx H locs hx9 hP hS g1 g2 g3 => f_out hlocks hno hP hS g1 g2 g3 ⟨Nat.le_of_ble_eq_true rfl, Nat.le_of_ble_eq_true rfl⟩ ⟨hx9.1, Or.inl (hx9.2.eq (sing_br (l40 c40).1 c40 (by omega)))⟩) (fun r29 mem30 H locs hq hP hS => ?_)
    have hD : va_D (Az sz) (fw n ad mem30) := fw_D hD
    obtain ⟨la31, ax32, ux33, Rx34, Ex35, Sx36, Ax37, Bx_38, nx39, tox40, hr941, h142, h243, h344, h445, htk46, hrk47, hRX48, ali49, hh50, hent51⟩ := hq
    subst hr941
    have hrk52 : ∀ i9, i9 < R → mem30 (7 + i9) = mem (7 + i9) := fun i9 q9 => (hrk47 i9 (by omega)).trans (hrk0 i9 q9)
    have hE9 : Ec < 100 := by have := hRX48.1.1.1; omega
    have hrd9 := brk_rds (nm := nm) hLK hE9 hF hent51 ali49 hh50 ali49.2.1 ali49.2.2.1
    exact x_aret hx hb hlocks hr (⟨Ec, gapF T Z ax32 + 1, ux33, Rx34, Ex35, Sx36, _, _, nx39, tox40, rfl, by omega, by omega, by omega, by have := gapF_ge T Z ax32; omega, by omega, htk46, hrk52, hRX48, rdsEq hrd9.1 (sing_br (l40 c40).1 c40 (by omega)), hrd9.2, (l40 c40).2⟩) hP hS d_Rd_readElement_55
  by_cases c91 : v16 = 91
  · rw [c91]
    refine lv_lookup (off := 52) (tgt := 56) Bx.1 Bx.2.1 d_Rd_readElement_4 (by decide) (by decide) rfl ?_
    rw [e_v16] at c91
    have hlt91 := hereF_lt (show hereF Z T (a) ≠ -1 by rw [c91]; decide)
    refine lv_aload_n Bx.1 Bx.2.1 d_Rd_readElement_56 rfl (lv_at hl 0 rfl) ?_
    refine lv_iload_n Bx.1 Bx.2.1 d_Rd_readElement_57 rfl (lv_at hl 1 rfl) ?_
    refine f_xVr (na := 1) (As := [.int (0)]) (rest := []) Bx hml E hP hD hS (by omega) h9_2 rfl (m_Rd_readOption_0Y l hlt hn hT hf hRX (by omega) (u := u) (A := A) hER hSR hSa (by omega) hLK hF c91) kw_451 kw_453 sel_Rd_readOption kw_6 kw_454 (by decide +kernel) ⟨rfl, rfl⟩ ⟨Nat.le_of_ble_eq_true rfl, Nat.le_of_ble_eq_true rfl⟩ rfl hl.1 (Nat.le_of_ble_eq_true rfl) d_Rd_readElement_58 ⟨Nat.le_of_ble_eq_true rfl, Nat.le_of_ble_eq_true rfl⟩ (fun X ce q9 memx H locs hx9 hP hS g1 g2 g3 => f_out hlocks hno hP hS g1 g2 g3 ⟨Nat.le_of_ble_eq_true rfl, Nat.le_of_ble_eq_true rfl⟩ ⟨hx9.1, Or.inl hx9.2⟩) (fun r53 mem54 H locs hq hP hS => ?_)
    have hD : va_D (Az sz) (fw n ad mem54) := fw_D hD
    obtain ⟨kx55, ax56, ux57, Rx58, Ex59, Sx60, Ax61, Bx_62, nx63, tox64, hr965, h166, h267, h368, h469, h570, htk71, hrk72, hRX73, rds74, h875⟩ := hq
    subst hr965
    have hrk76 : ∀ i9, i9 < R → mem54 (7 + i9) = mem (7 + i9) := fun i9 q9 => (hrk72 i9 (by omega)).trans (hrk0 i9 q9)
    exact x_aret hx hb hlocks hr (⟨kx55, ax56, ux57, Rx58, Ex59, Sx60, Ax61, Bx_62, nx63, tox64, rfl, h166, h267, h368, h469, h570, htk71, hrk72, hRX73, rds74, h875, (l91 c91).2⟩) hP hS d_Rd_readElement_61
  refine lv_lookup (off := 101) (tgt := 105) Bx.1 Bx.2.1 d_Rd_readElement_4 (by decide) (by show Op.lookupswitch.offset [(34, 58), (37, 68), (40, 44), (91, 52)] 101 (v16).toInt = 101; rw [lv_osw c34 (by decide), lv_osw c37 (by decide), lv_osw c40 (by decide), lv_osw c91 (by decide)]; rfl) rfl ?_
  rw [e_v16] at c40 c91 c34 c37
  refine lv_aload_n Bx.1 Bx.2.1 d_Rd_readElement_105 rfl (lv_at hl 0 rfl) ?_
  refine f_xVr (na := 0) (As := []) (rest := []) Bx hml E hP hD hS (by omega) h9_2 rfl (m_Rd_readAskedNameY l hlt hn hT hf hRX (by omega) (A := A) (by omega)) kw_478 kw_480 sel_Rd_readAskedName kw_6 kw_481 (by decide +kernel) ⟨rfl, rfl⟩ ⟨Nat.le_of_ble_eq_true rfl, Nat.le_of_ble_eq_true rfl⟩ rfl hl.1 (Nat.le_of_ble_eq_true rfl) d_Rd_readElement_106 ⟨Nat.le_of_ble_eq_true rfl, Nat.le_of_ble_eq_true rfl⟩ (fun X ce q9 memx H locs hx9 hP hS g1 g2 g3 => f_out hlocks hno hP hS g1 g2 g3 ⟨Nat.le_of_ble_eq_true rfl, Nat.le_of_ble_eq_true rfl⟩ ⟨hx9.1, fai_nam c40 c91 c34 c37 hx9.2⟩) (fun r77 mem78 H locs hq hP hS => ?_)
  have hD : va_D (Az sz) (fw n ad mem78) := fw_D hD
  obtain ⟨i9, a2, R2, A3, n2, hsn, hle, hE9, hr2, x1, x2, x3, hA3, htk, ⟨t2, htk2, hRX2⟩, hi9, hcl2, hfr2⟩ := hq
  subst hr2
  have hR12 := hRX2.1.1.1.1
  obtain ⟨A2, B2, hrd2, h82⟩ := rds_nam (j := 0) (u := u) hle hsn hE9 hA3 htk x1 hi9 hR12 hLK hF hER ⟨(hfr2 220 (by omega)).trans hSR.1, (hfr2 221 (by omega)).trans hSR.2⟩ hcl2 (fun k hk => hfr2 (20 + 2 * k) (by omega)) (by omega)
  exact x_aret hx hb hlocks hr (⟨Ec, a2, u, R2, Ec + 1, S, A2, B2, n2, t2, rfl, by omega, by omega, x1, x2, x3, htk2, fun i9 q9 => hfr2 (7 + i9) (by omega), hRX2, hrd2, h82, lt_ok hle⟩) hP hS d_Rd_readElement_109
set_option maxHeartbeats 4000000 in
set_option maxRecDepth 100000 in
theorem m_Rd_readRepetition_0Y (l : Launch) {D : va_G} {cy : Nat → ClassId} {sz n : Nat} {ad : Nat → Nat} {mem : Nat → va_E} {Z a R Ec lim : Nat} {f T : Nat → Int32} {to : Nat → Int32} {nm : Nat → Int64} {m0 : Nat → va_E} {u S : Nat} {A Bw : Ro} (hlt : l.stackTraces = false) (hn : 224 ≤ n) (hT : TX cy ad Z f m0) (hf : ∀ k, k < Z → f k = T k) (hRX : RX cy ad lim a R Ec to nm m0 mem) (haB : a ≤ 300) (hER : ER ad R Ec Bw mem) (hSR : SR cy ad S Bw mem) (hSa : S ≤ a) (haZ : a ≤ Z) (hLK : LKa Ec A) (hF : FRM A 0 Ec) (h39 : A 239 0 = -1) (hbg : bgF (hereF Z T a) = true) : NXr l D cy sz n ad y_Rd_readRepetition c_Rd_readRepetition 3 (some (.object "AbnfChart$Element")) ({ frames := 53, cells := 1, slots := 6, locals := 1288 } : Room) mem [.ref (ad 222), .int (0)] (fun r mem' => ∃ (k' a' u' R' E' S' : Nat) (A' Bw' : Ro) (nm' : Nat → Int64) (to' : Nat → Int32), r = ad (20 + 2 * k') ∧ Ec ≤ k' ∧ k' < E' ∧ R ≤ R' ∧ a < a' ∧ a' ≤ Z ∧ TOK R R' to to' ∧ (∀ i9, i9 < R → mem' (7 + i9) = mem (7 + i9)) ∧ RX cy ad lim a' R' E' to' nm' m0 mem' ∧ RDS cy ad T Z 0 (repS T Z a u R Ec 0 A nm) (PSf A 0) R Ec S u A Bw k' a' u' R' E' S' A' Bw' nm' mem' ∧ A' 238 0 = A 238 0) (fun X mem' => ((X = cIA ∨ X = cIS) ∧ ∃ rc' ec' : Nat, RS cy ad lim rc' ec' m0 mem') ∧ (Fai T Z (repS T Z a u R Ec 0 A nm))) := by
  refine vx_ofW (cc := c_Rd_readRepetition) (maxL := 3) (ret := (some (.object "AbnfChart$Element"))) (by decide) rfl ?_
  intro p e s m args below meth c s₁ B hml hno hv
  obtain ⟨rfl, E, hP, hD⟩ := hv
  have hx := B.exec
  have hb := B.bytes
  have hr := B.returns
  have hlocks := B.notSynchronized
  have Bx : MB p s m [.ref (ad 222), .int (0)].toArray c c_Rd_readRepetition "AbnfChart$Reader" D cy := ⟨hx, hb, tb_all (atoms_spec B.pre) E.2.1, findClass_of_methodNamed B.named, E.1⟩
  have hS : va_S (Az sz) s.heap s.heap [] := va_S.rf
  have hl := lv_entry ([.ref (ad 222), .int (0)]) (n := 3) (Nat.le_of_ble_eq_true rfl)
  rw [lg_entry_eq]
  generalize (lg_sl ([.ref (ad 222), .int (0)]) ++ List.replicate (3 - (lg_sl ([.ref (ad 222), .int (0)])).length) Slot.unset).toArray = ls at hl ⊢
  have hl : lv_has ls 3 [(0, .ref (ad 222)), (1, .int (0))] := hl
  have hZ9 := hT.2.1
  have hbd9 := hRX.1.1.1
  have hfr0 : ∀ i, 7 ≤ i ∧ i < 222 ∧ i ≠ 20 + 2 * Ec → mem i = mem i := fun _ _ => rfl
  have hrk0 : ∀ i9, i9 < R → mem (7 + i9) = mem (7 + i9) := fun _ _ => rfl
  obtain ⟨ft1, h9_2⟩ := hRX.2.1
  have h1_3 : mem 1 = .inr (0, [.ref (ad 2), .int (nI Z)]) := (hRX.1.2.2 1 (by omega)).trans hT.1
  have h2_4 : mem 2 = .inl (cy 0, 240, .inl f) := (hRX.1.2.2 2 (by omega)).trans hT.2.2
  have h5_5 := hRX.1.1.2.1
  have hbd11 := hRX.1.1.1
  obtain ⟨S6, g7, hS_8, h220_9, h221_10⟩ := hRX.1.1.2.2.2.2.2.2
  refine lv_aload_n Bx.1 Bx.2.1 d_Rd_readRepetition_0 rfl (lv_at hl 0 rfl) ?_
  refine f_callVi (na := 0) (As := []) (rest := []) Bx hml E hP hD hS (by omega) h9_2 rfl (m_Rd_peekX l hn hT hf hRX (by omega)) kw_353 kw_355 sel_Rd_peek kw_6 kw_356 (by decide +kernel) ⟨rfl, rfl⟩ ⟨Nat.le_of_ble_eq_true rfl, Nat.le_of_ble_eq_true rfl⟩ rfl hl.1 (Nat.le_of_ble_eq_true rfl) d_Rd_readRepetition_1 ⟨Nat.le_of_ble_eq_true rfl, Nat.le_of_ble_eq_true rfl⟩ (fun r13 mem14 H locs hq hP hS => ?_)
  have hD : va_D (Az sz) (fw n ad mem14) := fw_D hD
  obtain ⟨hqe, hpk12⟩ := hq
  rw [hqe] at hP hD
  subst hpk12
  refine f_callSi (na := 1) (As := [.int (hereF Z T (a))]) (rest := []) Bx hml E.2.1 (m_Rd_beginsRepeatX l (hereF Z T (a))) kw_416 kw_417 kw_6 kw_418 (by decide +kernel) ⟨rfl, rfl⟩ ⟨Nat.le_of_ble_eq_true rfl, Nat.le_of_ble_eq_true rfl⟩ rfl hl.1 (Nat.le_of_ble_eq_true rfl) d_Rd_readRepetition_4 ⟨Nat.le_of_ble_eq_true rfl, Nat.le_of_ble_eq_true rfl⟩ (fun r17 hs16 => ?_)
  subst hs16
  refine lv_if_ne Bx.1 Bx.2.1 d_Rd_readRepetition_7 rfl (fun hb18 => ?_) (fun hb18 => ?_)
  · refine lv_aload_n Bx.1 Bx.2.1 d_Rd_readRepetition_16 rfl (lv_at hl 0 rfl) ?_
    refine lv_iconst (v := 2) Bx.1 Bx.2.1 d_Rd_readRepetition_17 (by decide) ?_
    refine lv_aload_n Bx.1 Bx.2.1 d_Rd_readRepetition_18 rfl (lv_at hl 0 rfl) ?_
    refine f_get Bx hP (by omega) h9_2 rfl inRd 2 (by decide) kw_146 rfl rfl d_Rd_readRepetition_19 ?_
    refine f_xVr (na := 2) (As := [.int (2), .int (nI a)]) (rest := []) Bx hml E hP hD hS (by omega) h9_2 rfl (m_Rd_addElementY l hlt hn hT hf hRX (by omega)) kw_419 kw_421 sel_Rd_addElement kw_6 kw_422 (by decide +kernel) ⟨rfl, rfl⟩ ⟨Nat.le_of_ble_eq_true rfl, Nat.le_of_ble_eq_true rfl⟩ rfl hl.1 (Nat.le_of_ble_eq_true rfl) d_Rd_readRepetition_22 ⟨Nat.le_of_ble_eq_true rfl, Nat.le_of_ble_eq_true rfl⟩ (fun X ce q9 memx H locs hx9 hP hS g1 g2 g3 => f_out hlocks hno hP hS g1 g2 g3 ⟨Nat.le_of_ble_eq_true rfl, Nat.le_of_ble_eq_true rfl⟩ ⟨hx9.1, Or.inl (rep_E (bpF_1 hb18) hx9.2)⟩) (fun r19 mem20 H locs hq hP hS => ?_)
    have hD : va_D (Az sz) (fw n ad mem20) := fw_D hD
    obtain ⟨hr921, hec22, hRX23, hcl24, hfa25⟩ := hq
    subst hr921
    have hrk26 : ∀ i9, i9 < R → mem20 (7 + i9) = mem (7 + i9) := fun i9 q9 => (hfa25 (7 + i9) (by omega)).trans (hrk0 i9 q9)
    have hfr27 : ∀ i, 7 ≤ i ∧ i < 222 ∧ i ≠ 20 + 2 * Ec → mem20 i = mem i := fun i q => (hfa25 i (by omega)).trans (hfr0 i q)
    obtain ⟨ft28, h9_29⟩ := hRX23.2.1
    have h1_30 : mem20 1 = .inr (0, [.ref (ad 2), .int (nI Z)]) := (hRX23.1.2.2 1 (by omega)).trans hT.1
    have h2_31 : mem20 2 = .inl (cy 0, 240, .inl f) := (hRX23.1.2.2 2 (by omega)).trans hT.2.2
    have h5_32 := hRX23.1.1.2.1
    have hbd38 := hRX23.1.1.1
    obtain ⟨S33, g34, hS_35, h220_36, h221_37⟩ := hRX23.1.1.2.2.2.2.2.2
    obtain ⟨ft39, h9_40⟩ := hRX23.2.1
    have h1_41 : mem20 1 = .inr (0, [.ref (ad 2), .int (nI Z)]) := (hRX23.1.2.2 1 (by omega)).trans hT.1
    have h2_42 : mem20 2 = .inl (cy 0, 240, .inl f) := (hRX23.1.2.2 2 (by omega)).trans hT.2.2
    have h5_43 := hRX23.1.1.2.1
    have hbd49 := hRX23.1.1.1
    obtain ⟨S44, g45, hS_46, h220_47, h221_48⟩ := hRX23.1.1.2.2.2.2.2.2
    refine lv_astore_n (lv' := [(2, .ref (ad (20 + 2 * Ec))), (0, .ref (ad 222)), (1, .int (0))]) Bx.1 Bx.2.1 d_Rd_readRepetition_25 rfl hl (by decide) rfl (fun ls hl => ?_)
    refine lv_aload_n Bx.1 Bx.2.1 d_Rd_readRepetition_26 rfl (lv_at hl 1 rfl) ?_
    refine lv_aload_n Bx.1 Bx.2.1 d_Rd_readRepetition_27 rfl (lv_at hl 0 rfl) ?_
    have hdg := bpF_1 hb18
    have hE9 := hec22
    refine f_xVv (na := 1) (As := [.ref (ad (20 + 2 * Ec))]) (rest := []) Bx hml E hP hD hS (by omega) h9_40 rfl (m_Rd_readRepeatY l hlt hn hT hf hRX23 (by omega) (by omega) hcl24 (by omega) hdg) kw_482 kw_484 sel_Rd_readRepeat kw_6 kw_485 (by decide +kernel) ⟨rfl, rfl⟩ ⟨Nat.le_of_ble_eq_true rfl, Nat.le_of_ble_eq_true rfl⟩ rfl hl.1 (Nat.le_of_ble_eq_true rfl) d_Rd_readRepetition_28 ⟨Nat.le_of_ble_eq_true rfl, Nat.le_of_ble_eq_true rfl⟩ (fun X ce q9 memx H locs hx9 hP hS g1 g2 g3 => f_out hlocks hno hP hS g1 g2 g3 ⟨Nat.le_of_ble_eq_true rfl, Nat.le_of_ble_eq_true rfl⟩ ⟨hx9.1, hx9.2.elim (fun v1 z => z.elim (fun b1 z => z.elim (fun v2 z => z.elim (fun b2 z => Or.inl (rep_bad hdg hE9 z.1 z.2.1 (Or.inl z.2.2))))))⟩) (fun mem51 H locs hq hP hS => ?_)
    have hD : va_D (Az sz) (fw n ad mem51) := fw_D hD
    obtain ⟨v1, b1, v2, b2, hr1, hr2, hnv, hb8, hb9, hRXr, hclr, hfar⟩ := hq
    have hrk52 : ∀ i9, i9 < R → mem51 (7 + i9) = mem (7 + i9) := fun i9 q9 => (hfar (7 + i9) (by omega)).trans (hrk26 i9 q9)
    have hfr53 : ∀ i, 7 ≤ i ∧ i < 222 ∧ i ≠ 20 + 2 * Ec → mem51 i = mem i := fun i q => (hfar i (by omega)).trans (hfr27 i q)
    obtain ⟨ft54, h9_55⟩ := hRXr.2.1
    have h1_56 : mem51 1 = .inr (0, [.ref (ad 2), .int (nI Z)]) := (hRXr.1.2.2 1 (by omega)).trans hT.1
    have h2_57 : mem51 2 = .inl (cy 0, 240, .inl f) := (hRXr.1.2.2 2 (by omega)).trans hT.2.2
    have h5_58 := hRXr.1.1.2.1
    have hbd64 := hRXr.1.1.1
    obtain ⟨S59, g60, hS_61, h220_62, h221_63⟩ := hRXr.1.1.2.2.2.2.2.2
    obtain ⟨ft65, h9_66⟩ := hRXr.2.1
    have h1_67 : mem51 1 = .inr (0, [.ref (ad 2), .int (nI Z)]) := (hRXr.1.2.2 1 (by omega)).trans hT.1
    have h2_68 : mem51 2 = .inl (cy 0, 240, .inl f) := (hRXr.1.2.2 2 (by omega)).trans hT.2.2
    have h5_69 := hRXr.1.1.2.1
    have hbd75 := hRXr.1.1.1
    obtain ⟨S70, g71, hS_72, h220_73, h221_74⟩ := hRXr.1.1.2.2.2.2.2.2
    refine lv_aload_n Bx.1 Bx.2.1 d_Rd_readRepetition_31 rfl (lv_at hl 0 rfl) ?_
    refine lv_aload_n Bx.1 Bx.2.1 d_Rd_readRepetition_32 rfl (lv_at hl 1 rfl) ?_
    refine lv_iload_n Bx.1 Bx.2.1 d_Rd_readRepetition_33 rfl (lv_at hl 2 rfl) ?_
    have her76 : ER ad R (Ec + 1) (bwN Bw Ec 2 (v1) (v2) (-1) (-1) (-1) (Bw 234)) mem51 := hER.new (Nat.le_refl _) (by rw [vR_m]; exact hclr) (Or.inl rfl) (fun i9 hi9 => hfr53 (20 + 2 * i9) (by omega))
    have hsr77 : SR cy ad S (bwN Bw Ec 2 (v1) (v2) (-1) (-1) (-1) (Bw 234)) mem51 := ⟨(hfr53 220 (by omega)).trans hSR.1, (hfr53 221 (by omega)).trans hSR.2⟩
    obtain ⟨hLK1, hF1⟩ := frm_rep (v1 := v1) (v2 := v2) hLK hE9 hF h39
    refine f_xVr (na := 1) (As := [.int (0)]) (rest := [.ref (ad (20 + 2 * Ec))]) Bx hml E hP hD hS (by omega) h9_66 rfl (m_Rd_readElement_0Y l hlt hn hT hf hRXr (by omega) (u := u) (A := repB A 0 Ec v1 v2) her76 hsr77 (by omega) (by omega) hLK1 hF1) kw_443 kw_445 sel_Rd_readElement kw_6 kw_446 (by decide +kernel) ⟨rfl, rfl⟩ ⟨Nat.le_of_ble_eq_true rfl, Nat.le_of_ble_eq_true rfl⟩ rfl hl.1 (Nat.le_of_ble_eq_true rfl) d_Rd_readRepetition_34 ⟨Nat.le_of_ble_eq_true rfl, Nat.le_of_ble_eq_true rfl⟩ (fun X ce q9 memx H locs hx9 hP hS g1 g2 g3 => f_out hlocks hno hP hS g1 g2 g3 ⟨Nat.le_of_ble_eq_true rfl, Nat.le_of_ble_eq_true rfl⟩ ⟨hx9.1, rep_fai hdg hE9 hr1 hr2 hnv hx9.2⟩) (fun r78 mem79 H locs hq hP hS => ?_)
    have hD : va_D (Az sz) (fw n ad mem79) := fw_D hD
    obtain ⟨kx80, ax81, ux82, Rx83, Ex84, Sx85, Ax86, Bx_87, nx88, tox89, hr990, h191, h292, h393, h494, h595, htk96, hrk97, hRX98, rds99, h8100, hok101⟩ := hq
    subst hr990
    have hrk102 : ∀ i9, i9 < R → mem79 (7 + i9) = mem (7 + i9) := fun i9 q9 => (hrk97 i9 (by omega)).trans (hrk52 i9 q9)
    obtain ⟨ft103, h9_104⟩ := hRX98.2.1
    have h1_105 : mem79 1 = .inr (0, [.ref (ad 2), .int (nI Z)]) := (hRX98.1.2.2 1 (by omega)).trans hT.1
    have h2_106 : mem79 2 = .inl (cy 0, 240, .inl f) := (hRX98.1.2.2 2 (by omega)).trans hT.2.2
    have h5_107 := hRX98.1.1.2.1
    have hbd113 := hRX98.1.1.1
    obtain ⟨S108, g109, hS_110, h220_111, h221_112⟩ := hRX98.1.1.2.2.2.2.2.2
    have hbd114 := hRX98.1.1.1
    have hce115 := (rds99.2.1 Ec (by omega)).1
    refine f_putN Bx hP hD hS (by omega) hce115 rfl inEl tyEl okEl nmEl 4 (by decide) kw_87 rfl rfl rfl rfl (Nat.le_of_ble_eq_true rfl) d_Rd_readRepetition_37 (fun H locs hP hS => ?_)
    obtain ⟨mem116, e_mem116⟩ : ∃ z, z = va_up mem79 ((20 + 2 * Ec)) (.inr (2, [.int (Bx_87 228 Ec), .int (Bx_87 229 Ec), .int (Bx_87 230 Ec), vR ad (Bx_87 231 Ec), .ref (ad (20 + 2 * kx80)), vE ad (Bx_87 233 Ec), .ref (ad (21 + 2 * Ec))])) := ⟨_, rfl⟩
    have hP : va_P D vcl (fw n ad mem116) H := by rw [e_mem116]; exact hP
    have hD : va_D (Az sz) (fw n ad mem116) := fw_D hD
    have h_mem116 : mem116 ((20 + 2 * Ec)) = .inr (2, [.int (Bx_87 228 Ec), .int (Bx_87 229 Ec), .int (Bx_87 230 Ec), vR ad (Bx_87 231 Ec), .ref (ad (20 + 2 * kx80)), vE ad (Bx_87 233 Ec), .ref (ad (21 + 2 * Ec))]) := by rw [e_mem116, va_up_self]
    have hh117 := (va_up_ne mem79 (.inr (2, [.int (Bx_87 228 Ec), .int (Bx_87 229 Ec), .int (Bx_87 230 Ec), vR ad (Bx_87 231 Ec), .ref (ad (20 + 2 * kx80)), vE ad (Bx_87 233 Ec), .ref (ad (21 + 2 * Ec))])) (show (222 : Nat) ≠ (20 + 2 * Ec) by first | decide | assumption | omega)).trans h9_104
    rw [← e_mem116] at hh117
    have hh118 := (va_up_ne mem79 (.inr (2, [.int (Bx_87 228 Ec), .int (Bx_87 229 Ec), .int (Bx_87 230 Ec), vR ad (Bx_87 231 Ec), .ref (ad (20 + 2 * kx80)), vE ad (Bx_87 233 Ec), .ref (ad (21 + 2 * Ec))])) (show (1 : Nat) ≠ (20 + 2 * Ec) by first | decide | assumption | omega)).trans h1_105
    rw [← e_mem116] at hh118
    have hh119 := (va_up_ne mem79 (.inr (2, [.int (Bx_87 228 Ec), .int (Bx_87 229 Ec), .int (Bx_87 230 Ec), vR ad (Bx_87 231 Ec), .ref (ad (20 + 2 * kx80)), vE ad (Bx_87 233 Ec), .ref (ad (21 + 2 * Ec))])) (show (5 : Nat) ≠ (20 + 2 * Ec) by first | decide | assumption | omega)).trans h5_107
    rw [← e_mem116] at hh119
    have hh120 := (va_up_ne mem79 (.inr (2, [.int (Bx_87 228 Ec), .int (Bx_87 229 Ec), .int (Bx_87 230 Ec), vR ad (Bx_87 231 Ec), .ref (ad (20 + 2 * kx80)), vE ad (Bx_87 233 Ec), .ref (ad (21 + 2 * Ec))])) (show (220 : Nat) ≠ (20 + 2 * Ec) by first | decide | assumption | omega)).trans h220_111
    rw [← e_mem116] at hh120
    have hrk121 : ∀ i9, i9 < R → mem116 (7 + i9) = mem (7 + i9) := fun i9 q9 => (show mem116 (7 + i9) = mem79 (7 + i9) by rw [e_mem116]; exact va_up_ne _ _ (by omega)).trans (hrk102 i9 q9)
    have hRX122 : RX cy ad lim (ax81) (Rx83) (Ex84) (tox89) (nx88) m0 mem116 := by rw [e_mem116]; exact hRX98.el (by omega) (hRX98.1.mk (by omega) (hRX98.1.1.upEl (by omega) (fun _ => ⟨(rds99.2.1 Ec (by omega)).2.1.oR ad, Or.inr ⟨kx80, by omega, by omega, rfl⟩, (rds99.2.1 Ec (by omega)).2.2.2.oE ad (by omega)⟩)))
    have her123 : ER ad (Rx83) (Ex84) (va_up Bx_87 232 (upd (Bx_87 232) Ec (nI kx80))) mem116 := rds99.2.1.part (by omega) (by omega) (by omega) h_mem116 (fun i9 q9 hi9 => by rw [e_mem116]; exact va_up_ne _ _ (by omega))
    have hsr124 : SR cy ad (Sx85) (Bx_87) mem116 := ⟨(show mem116 220 = mem79 220 by rw [e_mem116]; exact va_up_ne _ _ (by omega)).trans rds99.2.2.1.1, (show mem116 221 = mem79 221 by rw [e_mem116]; exact va_up_ne _ _ (by omega)).trans rds99.2.2.1.2⟩
    obtain ⟨ft125, h9_126⟩ := hRX122.2.1
    have h1_127 : mem116 1 = .inr (0, [.ref (ad 2), .int (nI Z)]) := (hRX122.1.2.2 1 (by omega)).trans hT.1
    have h2_128 : mem116 2 = .inl (cy 0, 240, .inl f) := (hRX122.1.2.2 2 (by omega)).trans hT.2.2
    have h5_129 := hRX122.1.1.2.1
    have hbd135 := hRX122.1.1.1
    obtain ⟨S130, g131, hS_132, h220_133, h221_134⟩ := hRX122.1.1.2.2.2.2.2.2
    refine lv_aload_n Bx.1 Bx.2.1 d_Rd_readRepetition_40 rfl (lv_at hl 0 rfl) ?_
    have hrd9 := rep_rds hLK hE9 hF h39 rds99 h8100 ⟨by omega, by omega⟩ (rep_suc (u := u) (R := R) (f := 0) (A := A) (nm := nm) hdg hE9 hr1 hr2 hnv hok101) her123 hsr124
    exact x_aret hx hb hlocks hr (⟨Ec, ax81, ux82, Rx83, Ex84, Sx85, _, _, nx88, tox89, rfl, by omega, by omega, by omega, by omega, by omega, htk96, hrk121, hRX122, hrd9.1, hrd9.2⟩) hP hS d_Rd_readRepetition_41
  · refine lv_aload_n Bx.1 Bx.2.1 d_Rd_readRepetition_10 rfl (lv_at hl 0 rfl) ?_
    refine lv_iload_n Bx.1 Bx.2.1 d_Rd_readRepetition_11 rfl (lv_at hl 1 rfl) ?_
    obtain ⟨hd0, h42⟩ := bpF_0 hb18
    refine f_xVr (na := 1) (As := [.int (0)]) (rest := []) Bx hml E hP hD hS (by omega) h9_2 rfl (m_Rd_readElement_0Y l hlt hn hT hf hRX (by omega) (u := u) (A := A) hER hSR hSa (by omega) hLK hF) kw_443 kw_445 sel_Rd_readElement kw_6 kw_446 (by decide +kernel) ⟨rfl, rfl⟩ ⟨Nat.le_of_ble_eq_true rfl, Nat.le_of_ble_eq_true rfl⟩ rfl hl.1 (Nat.le_of_ble_eq_true rfl) d_Rd_readRepetition_12 ⟨Nat.le_of_ble_eq_true rfl, Nat.le_of_ble_eq_true rfl⟩ (fun X ce q9 memx H locs hx9 hP hS g1 g2 g3 => f_out hlocks hno hP hS g1 g2 g3 ⟨Nat.le_of_ble_eq_true rfl, Nat.le_of_ble_eq_true rfl⟩ ⟨hx9.1, (hx9.2.resolve_right (fun z => z ⟨hbg, hd0, h42⟩)).eq (rep_no hd0 h42)⟩) (fun r136 mem137 H locs hq hP hS => ?_)
    have hD : va_D (Az sz) (fw n ad mem137) := fw_D hD
    obtain ⟨kx138, ax139, ux140, Rx141, Ex142, Sx143, Ax144, Bx_145, nx146, tox147, hr9148, h1149, h2150, h3151, h4152, h5153, htk154, hrk155, hRX156, rds157, h8158, hok159⟩ := hq
    subst hr9148
    have hrk160 : ∀ i9, i9 < R → mem137 (7 + i9) = mem (7 + i9) := fun i9 q9 => (hrk155 i9 (by omega)).trans (hrk0 i9 q9)
    obtain ⟨ft161, h9_162⟩ := hRX156.2.1
    have h1_163 : mem137 1 = .inr (0, [.ref (ad 2), .int (nI Z)]) := (hRX156.1.2.2 1 (by omega)).trans hT.1
    have h2_164 : mem137 2 = .inl (cy 0, 240, .inl f) := (hRX156.1.2.2 2 (by omega)).trans hT.2.2
    have h5_165 := hRX156.1.1.2.1
    have hbd171 := hRX156.1.1.1
    obtain ⟨S166, g167, hS_168, h220_169, h221_170⟩ := hRX156.1.1.2.2.2.2.2.2
    have hbd172 := hRX156.1.1.1
    exact x_aret hx hb hlocks hr (⟨kx138, ax139, ux140, Rx141, Ex142, Sx143, Ax144, Bx_145, nx146, tox147, rfl, h1149, h2150, h3151, h4152, h5153, htk154, hrk155, hRX156, rdsEq rds157 (rep_no hd0 h42), h8158⟩) hP hS d_Rd_readRepetition_15
set_option maxHeartbeats 4000000 in
set_option maxRecDepth 100000 in
theorem m_Rd_readSequence_0Y (l : Launch) {D : va_G} {cy : Nat → ClassId} {sz n : Nat} {ad : Nat → Nat} {mem : Nat → va_E} {Z a R Ec lim : Nat} {f T : Nat → Int32} {to : Nat → Int32} {nm : Nat → Int64} {m0 : Nat → va_E} {u S : Nat} {A Bw : Ro} {cq : Nat} (hlt : l.stackTraces = false) (hn : 224 ≤ n) (hT : TX cy ad Z f m0) (hf : ∀ k, k < Z → f k = T k) (hRX : RX cy ad lim a R Ec to nm m0 mem) (haB : a ≤ 300) (hER : ER ad R Ec Bw mem) (hSR : SR cy ad S Bw mem) (hSa : S ≤ a) (haZ : a ≤ Z) (hLK : LKa Ec A) (hc : A 237 0 = nI cq) (hcl : cq < Ec) (h39 : A 239 0 = -1) : NXr l D cy sz n ad y_Rd_readSequence c_Rd_readSequence 5 (some (.object "AbnfChart$Element")) ({ frames := 54, cells := 1, slots := 6, locals := 1312 } : Room) mem [.ref (ad 222), .int (0)] (fun r mem' => ∃ (a' u' R' E' S' : Nat) (A' Bw' : Ro) (nm' : Nat → Int64) (to' : Nat → Int32), r = ad (20 + 2 * Ec) ∧ Ec < E' ∧ R ≤ R' ∧ a < a' ∧ a' ≤ Z ∧ TOK R R' to to' ∧ (∀ i9, i9 < R → mem' (7 + i9) = mem (7 + i9)) ∧ RX cy ad lim (gapF T Z a') R' E' to' nm' m0 mem' ∧ RDS cy ad T Z 0 (seqS T Z a u R Ec 0 A nm) (slotOf A cq) R Ec S u A Bw Ec a' u' R' E' S' A' Bw' nm' mem' ∧ ¬ (bgF (hereF Z T (gapF T Z a')) = true ∧ a' < gapF T Z a')) (fun X mem' => ((X = cIA ∨ X = cIS) ∧ ∃ rc' ec' : Nat, RS cy ad lim rc' ec' m0 mem') ∧ (Fai T Z (seqS T Z a u R Ec 0 A nm))) := by
  refine vx_ofW (cc := c_Rd_readSequence) (maxL := 5) (ret := (some (.object "AbnfChart$Element"))) (by decide) rfl ?_
  intro p e s m args below meth c s₁ B hml hno hv
  obtain ⟨rfl, E, hP, hD⟩ := hv
  have hx := B.exec
  have hb := B.bytes
  have hr := B.returns
  have hlocks := B.notSynchronized
  have Bx : MB p s m [.ref (ad 222), .int (0)].toArray c c_Rd_readSequence "AbnfChart$Reader" D cy := ⟨hx, hb, tb_all (atoms_spec B.pre) E.2.1, findClass_of_methodNamed B.named, E.1⟩
  have hS : va_S (Az sz) s.heap s.heap [] := va_S.rf
  have hl := lv_entry ([.ref (ad 222), .int (0)]) (n := 5) (Nat.le_of_ble_eq_true rfl)
  rw [lg_entry_eq]
  generalize (lg_sl ([.ref (ad 222), .int (0)]) ++ List.replicate (5 - (lg_sl ([.ref (ad 222), .int (0)])).length) Slot.unset).toArray = ls at hl ⊢
  have hl : lv_has ls 5 [(0, .ref (ad 222)), (1, .int (0))] := hl
  have hZ9 := hT.2.1
  have hbd9 := hRX.1.1.1
  have hfr0 : ∀ i, 7 ≤ i ∧ i < 222 ∧ i ≠ 20 + 2 * Ec → mem i = mem i := fun _ _ => rfl
  have hrk0 : ∀ i9, i9 < R → mem (7 + i9) = mem (7 + i9) := fun _ _ => rfl
  obtain ⟨ft1, h9_2⟩ := hRX.2.1
  have h1_3 : mem 1 = .inr (0, [.ref (ad 2), .int (nI Z)]) := (hRX.1.2.2 1 (by omega)).trans hT.1
  have h2_4 : mem 2 = .inl (cy 0, 240, .inl f) := (hRX.1.2.2 2 (by omega)).trans hT.2.2
  have h5_5 := hRX.1.1.2.1
  have hbd11 := hRX.1.1.1
  obtain ⟨S6, g7, hS_8, h220_9, h221_10⟩ := hRX.1.1.2.2.2.2.2.2
  refine lv_aload_n Bx.1 Bx.2.1 d_Rd_readSequence_0 rfl (lv_at hl 0 rfl) ?_
  refine lv_iconst (v := 1) Bx.1 Bx.2.1 d_Rd_readSequence_1 (by decide) ?_
  refine f_xVr (na := 1) (As := [.int (1)]) (rest := []) Bx hml E hP hD hS (by omega) h9_2 rfl (m_Rd_beginRowY l hlt hn hT hf hRX (by omega)) kw_409 kw_411 sel_Rd_beginRow kw_6 kw_412 (by decide +kernel) ⟨rfl, rfl⟩ ⟨Nat.le_of_ble_eq_true rfl, Nat.le_of_ble_eq_true rfl⟩ rfl hl.1 (Nat.le_of_ble_eq_true rfl) d_Rd_readSequence_2 ⟨Nat.le_of_ble_eq_true rfl, Nat.le_of_ble_eq_true rfl⟩ (fun X ce q9 memx H locs hx9 hP hS g1 g2 g3 => f_out hlocks hno hP hS g1 g2 g3 ⟨Nat.le_of_ble_eq_true rfl, Nat.le_of_ble_eq_true rfl⟩ ⟨hx9.1, Or.inl (seq_no hx9.2)⟩) (fun r12 mem13 H locs hq hP hS => ?_)
  have hD : va_D (Az sz) (fw n ad mem13) := fw_D hD
  obtain ⟨hbg, hE9, hr9, hRXb, hclb, hfab⟩ := hq
  subst hr9
  have hrk14 : ∀ i9, i9 < R → mem13 (7 + i9) = mem (7 + i9) := fun i9 q9 => (hfab (7 + i9) (by omega)).trans (hrk0 i9 q9)
  have hfr15 : ∀ i, 7 ≤ i ∧ i < 222 ∧ i ≠ 20 + 2 * Ec → mem13 i = mem i := fun i q => (hfab i (by omega)).trans (hfr0 i q)
  obtain ⟨ft16, h9_17⟩ := hRXb.2.1
  have h1_18 : mem13 1 = .inr (0, [.ref (ad 2), .int (nI Z)]) := (hRXb.1.2.2 1 (by omega)).trans hT.1
  have h2_19 : mem13 2 = .inl (cy 0, 240, .inl f) := (hRXb.1.2.2 2 (by omega)).trans hT.2.2
  have h5_20 := hRXb.1.1.2.1
  have hbd26 := hRXb.1.1.1
  obtain ⟨S21, g22, hS_23, h220_24, h221_25⟩ := hRXb.1.1.2.2.2.2.2.2
  obtain ⟨ft27, h9_28⟩ := hRXb.2.1
  have h1_29 : mem13 1 = .inr (0, [.ref (ad 2), .int (nI Z)]) := (hRXb.1.2.2 1 (by omega)).trans hT.1
  have h2_30 : mem13 2 = .inl (cy 0, 240, .inl f) := (hRXb.1.2.2 2 (by omega)).trans hT.2.2
  have h5_31 := hRXb.1.1.2.1
  have hbd37 := hRXb.1.1.1
  obtain ⟨S32, g33, hS_34, h220_35, h221_36⟩ := hRXb.1.1.2.2.2.2.2.2
  refine lv_astore_n (lv' := [(2, .ref (ad (20 + 2 * Ec))), (0, .ref (ad 222)), (1, .int (0))]) Bx.1 Bx.2.1 d_Rd_readSequence_5 rfl hl (by decide) rfl (fun ls hl => ?_)
  refine lv_aload_n Bx.1 Bx.2.1 d_Rd_readSequence_6 rfl (lv_at hl 1 rfl) ?_
  refine lv_iload_n Bx.1 Bx.2.1 d_Rd_readSequence_7 rfl (lv_at hl 2 rfl) ?_
  have her38 : ER ad R (Ec + 1) (bwN Bw Ec 1 (0) (0) (-1) (-1) (-1) (Bw 234)) mem13 := hER.new (Nat.le_refl _) (by rw [vR_m]; exact hclb) (Or.inl rfl) (fun i9 hi9 => hfr15 (20 + 2 * i9) (by omega))
  have hsr39 : SR cy ad S (bwN Bw Ec 1 (0) (0) (-1) (-1) (-1) (Bw 234)) mem13 := ⟨(hfr15 220 (by omega)).trans hSR.1, (hfr15 221 (by omega)).trans hSR.2⟩
  obtain ⟨hLK1, hF1, h391⟩ := frm_seq hLK hE9 hc hcl h39
  refine f_xVr (na := 1) (As := [.int (0)]) (rest := []) Bx hml E hP hD hS (by omega) h9_28 rfl (m_Rd_readRepetition_0Y l hlt hn hT hf hRXb (by omega) (u := u) (A := seqA A 0 Ec) her38 hsr39 (by omega) (by omega) hLK1 hF1 h391 hbg) kw_439 kw_441 sel_Rd_readRepetition kw_6 kw_442 (by decide +kernel) ⟨rfl, rfl⟩ ⟨Nat.le_of_ble_eq_true rfl, Nat.le_of_ble_eq_true rfl⟩ rfl hl.1 (Nat.le_of_ble_eq_true rfl) d_Rd_readSequence_8 ⟨Nat.le_of_ble_eq_true rfl, Nat.le_of_ble_eq_true rfl⟩ (fun X ce q9 memx H locs hx9 hP hS g1 g2 g3 => f_out hlocks hno hP hS g1 g2 g3 ⟨Nat.le_of_ble_eq_true rfl, Nat.le_of_ble_eq_true rfl⟩ ⟨hx9.1, hx9.2.eq (seq_ok hbg hE9)⟩) (fun r40 mem41 H locs hq hP hS => ?_)
  have hD : va_D (Az sz) (fw n ad mem41) := fw_D hD
  obtain ⟨kx42, ax43, ux44, Rx45, Ex46, Sx47, Ax48, Bx_49, nx50, tox51, hr952, h153, h254, h355, h456, h557, htk58, hrk59, hRX60, rds61, h862⟩ := hq
  subst hr952
  have hrk63 : ∀ i9, i9 < R → mem41 (7 + i9) = mem (7 + i9) := fun i9 q9 => (hrk59 i9 (by omega)).trans (hrk14 i9 q9)
  obtain ⟨ft64, h9_65⟩ := hRX60.2.1
  have h1_66 : mem41 1 = .inr (0, [.ref (ad 2), .int (nI Z)]) := (hRX60.1.2.2 1 (by omega)).trans hT.1
  have h2_67 : mem41 2 = .inl (cy 0, 240, .inl f) := (hRX60.1.2.2 2 (by omega)).trans hT.2.2
  have h5_68 := hRX60.1.1.2.1
  have hbd74 := hRX60.1.1.1
  obtain ⟨S69, g70, hS_71, h220_72, h221_73⟩ := hRX60.1.1.2.2.2.2.2.2
  have hbd75 := hRX60.1.1.1
  refine lv_astore_n (lv' := [(3, .ref (ad (20 + 2 * kx42))), (2, .ref (ad (20 + 2 * Ec))), (0, .ref (ad 222)), (1, .int (0))]) Bx.1 Bx.2.1 d_Rd_readSequence_11 rfl hl (by decide) rfl (fun ls hl => ?_)
  refine lv_aload_n Bx.1 Bx.2.1 d_Rd_readSequence_12 rfl (lv_at hl 1 rfl) ?_
  refine lv_aload_n Bx.1 Bx.2.1 d_Rd_readSequence_13 rfl (lv_at hl 0 rfl) ?_
  have hce76 := (rds61.2.1 Ec (by omega)).1
  refine f_putN Bx hP hD hS (by omega) hce76 rfl inEl tyEl okEl nmEl 4 (by decide) kw_87 rfl rfl rfl rfl (Nat.le_of_ble_eq_true rfl) d_Rd_readSequence_14 (fun H locs hP hS => ?_)
  obtain ⟨mem77, e_mem77⟩ : ∃ z, z = va_up mem41 ((20 + 2 * Ec)) (.inr (2, [.int (Bx_49 228 Ec), .int (Bx_49 229 Ec), .int (Bx_49 230 Ec), vR ad (Bx_49 231 Ec), .ref (ad (20 + 2 * kx42)), vE ad (Bx_49 233 Ec), .ref (ad (21 + 2 * Ec))])) := ⟨_, rfl⟩
  have hP : va_P D vcl (fw n ad mem77) H := by rw [e_mem77]; exact hP
  have hD : va_D (Az sz) (fw n ad mem77) := fw_D hD
  have h_mem77 : mem77 ((20 + 2 * Ec)) = .inr (2, [.int (Bx_49 228 Ec), .int (Bx_49 229 Ec), .int (Bx_49 230 Ec), vR ad (Bx_49 231 Ec), .ref (ad (20 + 2 * kx42)), vE ad (Bx_49 233 Ec), .ref (ad (21 + 2 * Ec))]) := by rw [e_mem77, va_up_self]
  have hh78 := (va_up_ne mem41 (.inr (2, [.int (Bx_49 228 Ec), .int (Bx_49 229 Ec), .int (Bx_49 230 Ec), vR ad (Bx_49 231 Ec), .ref (ad (20 + 2 * kx42)), vE ad (Bx_49 233 Ec), .ref (ad (21 + 2 * Ec))])) (show (222 : Nat) ≠ (20 + 2 * Ec) by first | decide | assumption | omega)).trans h9_65
  rw [← e_mem77] at hh78
  have hh79 := (va_up_ne mem41 (.inr (2, [.int (Bx_49 228 Ec), .int (Bx_49 229 Ec), .int (Bx_49 230 Ec), vR ad (Bx_49 231 Ec), .ref (ad (20 + 2 * kx42)), vE ad (Bx_49 233 Ec), .ref (ad (21 + 2 * Ec))])) (show (1 : Nat) ≠ (20 + 2 * Ec) by first | decide | assumption | omega)).trans h1_66
  rw [← e_mem77] at hh79
  have hh80 := (va_up_ne mem41 (.inr (2, [.int (Bx_49 228 Ec), .int (Bx_49 229 Ec), .int (Bx_49 230 Ec), vR ad (Bx_49 231 Ec), .ref (ad (20 + 2 * kx42)), vE ad (Bx_49 233 Ec), .ref (ad (21 + 2 * Ec))])) (show (5 : Nat) ≠ (20 + 2 * Ec) by first | decide | assumption | omega)).trans h5_68
  rw [← e_mem77] at hh80
  have hh81 := (va_up_ne mem41 (.inr (2, [.int (Bx_49 228 Ec), .int (Bx_49 229 Ec), .int (Bx_49 230 Ec), vR ad (Bx_49 231 Ec), .ref (ad (20 + 2 * kx42)), vE ad (Bx_49 233 Ec), .ref (ad (21 + 2 * Ec))])) (show (220 : Nat) ≠ (20 + 2 * Ec) by first | decide | assumption | omega)).trans h220_72
  rw [← e_mem77] at hh81
  have hrk82 : ∀ i9, i9 < R → mem77 (7 + i9) = mem (7 + i9) := fun i9 q9 => (show mem77 (7 + i9) = mem41 (7 + i9) by rw [e_mem77]; exact va_up_ne _ _ (by omega)).trans (hrk63 i9 q9)
  have hRX83 : RX cy ad lim (ax43) (Rx45) (Ex46) (tox51) (nx50) m0 mem77 := by rw [e_mem77]; exact hRX60.el (by omega) (hRX60.1.mk (by omega) (hRX60.1.1.upEl (by omega) (fun _ => ⟨(rds61.2.1 Ec (by omega)).2.1.oR ad, Or.inr ⟨kx42, by omega, by omega, rfl⟩, (rds61.2.1 Ec (by omega)).2.2.2.oE ad (by omega)⟩)))
  have her84 : ER ad (Rx45) (Ex46) (va_up Bx_49 232 (upd (Bx_49 232) Ec (nI kx42))) mem77 := rds61.2.1.part (by omega) (by omega) (by omega) h_mem77 (fun i9 q9 hi9 => by rw [e_mem77]; exact va_up_ne _ _ (by omega))
  have hsr85 : SR cy ad (Sx47) (Bx_49) mem77 := ⟨(show mem77 220 = mem41 220 by rw [e_mem77]; exact va_up_ne _ _ (by omega)).trans rds61.2.2.1.1, (show mem77 221 = mem41 221 by rw [e_mem77]; exact va_up_ne _ _ (by omega)).trans rds61.2.2.1.2⟩
  obtain ⟨ft86, h9_87⟩ := hRX83.2.1
  have h1_88 : mem77 1 = .inr (0, [.ref (ad 2), .int (nI Z)]) := (hRX83.1.2.2 1 (by omega)).trans hT.1
  have h2_89 : mem77 2 = .inl (cy 0, 240, .inl f) := (hRX83.1.2.2 2 (by omega)).trans hT.2.2
  have h5_90 := hRX83.1.1.2.1
  have hbd96 := hRX83.1.1.1
  obtain ⟨S91, g92, hS_93, h220_94, h221_95⟩ := hRX83.1.1.2.2.2.2.2.2
  refine lv_iconst (v := 0) Bx.1 Bx.2.1 d_Rd_readSequence_17 (by decide) ?_
  refine lv_istore (lv' := [(4, .int (0)), (3, .ref (ad (20 + 2 * kx42))), (2, .ref (ad (20 + 2 * Ec))), (0, .ref (ad 222)), (1, .int (0))]) Bx.1 Bx.2.1 d_Rd_readSequence_18 hl (by decide) rfl (fun ls hl => ?_)
  have hsl9 := slot_lt hLK (by omega) hcl
  have hsq0 := seq_first hLK hE9 hc hcl h39 rds61 h862 ⟨by omega, by omega⟩ (by omega) (seq_ok (u := u) (R := R) (f := 0) (A := A) (nm := nm) hbg hE9) her84 hsr85
  have loop97 : ∀ (d98 : Nat) (mem9 : Nat → va_E) (a1 : Nat) (u1 : Nat) (R1 : Nat) (E1 : Nat) (S1 : Nat) (A1 : Ro) (B1 : Ro) (n1 : Nat → Int64) (to1 : Nat → Int32) (la : Nat) (k9 : Nat) (ls : Array Slot) (H : Heap) (locs : List Loc), (240 - k9 < d98) → (RX cy ad lim a1 R1 E1 to1 n1 m0 mem9) → (a < a1 ∧ a1 ≤ Z ∧ R ≤ R1 ∧ k9 < a1 ∧ k9 ≤ 240) → (SQI cy ad T Z 0 (seqS T Z a u R Ec 0 A nm) (slotOf A cq) R Ec S u A Bw la a1 u1 R1 E1 S1 A1 B1 n1 mem9) → (TOK R R1 to to1) → (∀ i9, i9 < R → mem9 (7 + i9) = mem (7 + i9)) → (va_P D vcl (fw n ad mem9) H) → (va_D (Az sz) (fw n ad mem9)) → (va_S (Az sz) s.heap H locs) → (lv_has ls 5 [(4, .int (nI k9)), (3, .ref (ad (20 + 2 * la))), (2, .ref (ad (20 + 2 * Ec))), (0, .ref (ad 222)), (1, .int (0))]) → W p l e (headSpec (Cond.code y_Rd_readSequence c_Rd_readSequence 5 (some (.object "AbnfChart$Element")) :: tg) ({ frames := 54, cells := 1, slots := 6, locals := 1312 } : Room)).room s m [.ref (ad 222), .int (0)].toArray below meth c H locs 0 0 (vx_MQ below (QX (QR (fun r mem' => ∃ (a' u' R' E' S' : Nat) (A' Bw' : Ro) (nm' : Nat → Int64) (to' : Nat → Int32), r = ad (20 + 2 * Ec) ∧ Ec < E' ∧ R ≤ R' ∧ a < a' ∧ a' ≤ Z ∧ TOK R R' to to' ∧ (∀ i9, i9 < R → mem' (7 + i9) = mem (7 + i9)) ∧ RX cy ad lim (gapF T Z a') R' E' to' nm' m0 mem' ∧ RDS cy ad T Z 0 (seqS T Z a u R Ec 0 A nm) (slotOf A cq) R Ec S u A Bw Ec a' u' R' E' S' A' Bw' nm' mem' ∧ ¬ (bgF (hereF Z T (gapF T Z a')) = true ∧ a' < gapF T Z a')) (PP D n ad) (Az sz))) (XQ D sz n ad (fun X mem' => ((X = cIA ∨ X = cIS) ∧ ∃ rc' ec' : Nat, RS cy ad lim rc' ec' m0 mem') ∧ (Fai T Z (seqS T Z a u R Ec 0 A nm)))) [.ref (ad 222), .int (0)].toArray s 1 6 (Az sz)) (F0 m 20 ls []) := by
    intro d98
    induction d98 with
    | zero => intro mem9 a1 u1 R1 E1 S1 A1 B1 n1 to1 la k9 ls H locs hmeas105; exact absurd hmeas105 (Nat.not_lt_zero _)
    | succ d98 ih104 =>
      intro mem9 a1 u1 R1 E1 S1 A1 B1 n1 to1 la k9 ls H locs hmeas105 hz99 hz100 hz101 hz102 hz103 hP hD hS hl
      have hbd8 := hz100
      have hsq := hz101
      have hbdE := hz99.1.1.1
      have hla := hsq.2.2.2
      have hSa1 := hsq.1.2.2.2.1.2.1
      have hlka := sqi_lka hsq hLK hsl9
      obtain ⟨ft106, h9_107⟩ := hz99.2.1
      have h1_108 : mem9 1 = .inr (0, [.ref (ad 2), .int (nI Z)]) := (hz99.1.2.2 1 (by omega)).trans hT.1
      have h2_109 : mem9 2 = .inl (cy 0, 240, .inl f) := (hz99.1.2.2 2 (by omega)).trans hT.2.2
      have h5_110 := hz99.1.1.2.1
      have hbd116 := hz99.1.1.1
      obtain ⟨S111, g112, hS_113, h220_114, h221_115⟩ := hz99.1.1.2.2.2.2.2.2
      refine lv_iload Bx.1 Bx.2.1 d_Rd_readSequence_20 (lv_at hl 0 rfl) ?_
      refine lv_sipush (v := 240) Bx.1 Bx.2.1 d_Rd_readSequence_22 (by decide) ?_
      refine lv_icmp_ge Bx.1 Bx.2.1 d_Rd_readSequence_25 rfl (fun hb117 => ?_) (fun hb117 => ?_)
      · have hN118 : 240 ≤ k9 := (nI_leI (by omega) (by omega)).mp (show nI (240) ≤ nI (k9) from hb117)
        exact absurd hbd8 (by omega)
      · have hN119 : ¬ 240 ≤ k9 := fun q9 => hb117 (show nI (240) ≤ nI (k9) from (nI_leI (by omega) (by omega)).mpr q9)
        refine lv_aload_n Bx.1 Bx.2.1 d_Rd_readSequence_28 rfl (lv_at hl 3 rfl) ?_
        refine f_callVi (na := 0) (As := []) (rest := []) Bx hml E hP hD hS (by omega) h9_107 rfl (m_Rd_readGapY l hn hT hf hz99 (by omega) (by omega)) kw_397 kw_399 sel_Rd_readGap kw_6 kw_400 (by decide +kernel) ⟨rfl, rfl⟩ ⟨Nat.le_of_ble_eq_true rfl, Nat.le_of_ble_eq_true rfl⟩ rfl hl.1 (Nat.le_of_ble_eq_true rfl) d_Rd_readSequence_29 ⟨Nat.le_of_ble_eq_true rfl, Nat.le_of_ble_eq_true rfl⟩ (fun r120 mem121 H locs hq hP hS => ?_)
        have hD : va_D (Az sz) (fw n ad mem121) := fw_D hD
        obtain ⟨g122, eg123⟩ : ∃ z, z = gapF T Z (a1) := ⟨_, rfl⟩
        rw [← eg123] at hq
        obtain ⟨hRX124, hgc125, hfa126⟩ := hq
        have hg127 : a1 ≤ g122 := by rw [eg123]; exact gapF_ge T Z _
        have hg128 : g122 ≤ Z := by rw [eg123]; exact gapF_le T (by omega)
        have hrk129 : ∀ i9, i9 < R → mem121 (7 + i9) = mem (7 + i9) := fun i9 q9 => (hfa126 (7 + i9) (by omega)).trans (hz103 i9 q9)
        obtain ⟨ft130, h9_131⟩ := hRX124.2.1
        have h1_132 : mem121 1 = .inr (0, [.ref (ad 2), .int (nI Z)]) := (hRX124.1.2.2 1 (by omega)).trans hT.1
        have h2_133 : mem121 2 = .inl (cy 0, 240, .inl f) := (hRX124.1.2.2 2 (by omega)).trans hT.2.2
        have h5_134 := hRX124.1.1.2.1
        have hbd140 := hRX124.1.1.1
        obtain ⟨S135, g136, hS_137, h220_138, h221_139⟩ := hRX124.1.1.2.2.2.2.2.2
        have her141 : ER ad (R1) (E1) (B1) mem121 := hsq.1.2.1.fr (Nat.le_refl _) (fun i9 hi9 => hfa126 _ (by omega))
        have hsr142 : SR cy ad (S1) (B1) mem121 := ⟨(show mem121 220 = _ from hfa126 _ (by omega)).trans hsq.1.2.2.1.1, (show mem121 221 = _ from hfa126 _ (by omega)).trans hsq.1.2.2.1.2⟩
        rcases hgc125 with ⟨hr143, hga144⟩ | ⟨hr143, hga144⟩
        · subst hr143
          refine lv_if_eq Bx.1 Bx.2.1 d_Rd_readSequence_32 rfl (fun hb145 => ?_) (fun hb145 => ?_)
          · exact absurd hb145 (by decide)
          · refine lv_aload_n Bx.1 Bx.2.1 d_Rd_readSequence_35 rfl (lv_at hl 3 rfl) ?_
            refine f_callVi (na := 0) (As := []) (rest := []) Bx hml E hP hD hS (by omega) h9_131 rfl (m_Rd_peekX l hn hT hf hRX124 (by omega)) kw_353 kw_355 sel_Rd_peek kw_6 kw_356 (by decide +kernel) ⟨rfl, rfl⟩ ⟨Nat.le_of_ble_eq_true rfl, Nat.le_of_ble_eq_true rfl⟩ rfl hl.1 (Nat.le_of_ble_eq_true rfl) d_Rd_readSequence_36 ⟨Nat.le_of_ble_eq_true rfl, Nat.le_of_ble_eq_true rfl⟩ (fun r147 mem148 H locs hq hP hS => ?_)
            have hD : va_D (Az sz) (fw n ad mem148) := fw_D hD
            obtain ⟨hqe, hpk146⟩ := hq
            rw [hqe] at hP hD
            subst hpk146
            refine f_callSi (na := 1) (As := [.int (hereF Z T (g122))]) (rest := []) Bx hml E.2.1 (m_Rd_beginsRepetitionX l (hereF Z T (g122))) kw_413 kw_414 kw_6 kw_415 (by decide +kernel) ⟨rfl, rfl⟩ ⟨Nat.le_of_ble_eq_true rfl, Nat.le_of_ble_eq_true rfl⟩ rfl hl.1 (Nat.le_of_ble_eq_true rfl) d_Rd_readSequence_39 ⟨Nat.le_of_ble_eq_true rfl, Nat.le_of_ble_eq_true rfl⟩ (fun r151 hs150 => ?_)
            subst hs150
            refine lv_if_eq Bx.1 Bx.2.1 d_Rd_readSequence_42 rfl (fun hb152 => ?_) (fun hb152 => ?_)
            · refine lv_aload_n Bx.1 Bx.2.1 d_Rd_readSequence_65 rfl (lv_at hl 2 rfl) ?_
              exact x_aret hx hb hlocks hr (⟨a1, u1, R1, E1, S1, A1, B1, n1, to1, rfl, by omega, by omega, by omega, by omega, hz102, hrk129, by rw [← eg123]; exact hRX124, ⟨hsq.1.1, her141, hsr142, hsq.1.2.2.2⟩, fun z => by have q9 := z.1; rw [← eg123, bg_0 hb152] at q9; exact absurd q9 (by decide)⟩) hP hS d_Rd_readSequence_66
            · have hbg2 : bgF (hereF Z T (gapF T Z a1)) = true := by rw [← eg123]; exact bg_1 hb152
              have hgt2 : a1 < gapF T Z a1 := by rw [← eg123]; omega
              have h238 := hsq.2.1
              have h239 : A1 239 0 = -1 := hsq.1.2.2.2.2.2.2.2.2.2.2
              refine lv_aload_n Bx.1 Bx.2.1 d_Rd_readSequence_45 rfl (lv_at hl 1 rfl) ?_
              refine lv_aload_n Bx.1 Bx.2.1 d_Rd_readSequence_46 rfl (lv_at hl 3 rfl) ?_
              refine lv_iload_n Bx.1 Bx.2.1 d_Rd_readSequence_47 rfl (lv_at hl 4 rfl) ?_
              refine f_xVr (na := 1) (As := [.int (0)]) (rest := [.ref (ad (20 + 2 * la))]) Bx hml E hP hD hS (by omega) h9_131 rfl (m_Rd_readRepetition_0Y l hlt hn hT hf hRX124 (by omega) (u := u1) (A := A1) her141 hsr142 (by omega) (by omega) hlka ⟨⟨Ec, by omega, h238⟩, Or.inl h239⟩ h239 (by rw [eg123]; exact hbg2)) kw_439 kw_441 sel_Rd_readRepetition kw_6 kw_442 (by decide +kernel) ⟨rfl, rfl⟩ ⟨Nat.le_of_ble_eq_true rfl, Nat.le_of_ble_eq_true rfl⟩ rfl hl.1 (Nat.le_of_ble_eq_true rfl) d_Rd_readSequence_48 ⟨Nat.le_of_ble_eq_true rfl, Nat.le_of_ble_eq_true rfl⟩ (fun X ce q9 memx H locs hx9 hP hS g1 g2 g3 => f_out hlocks hno hP hS g1 g2 g3 ⟨Nat.le_of_ble_eq_true rfl, Nat.le_of_ble_eq_true rfl⟩ ⟨hx9.1, hsq.1.1.fai (go_rept hbg2 hgt2) (by rw [← eg123]; exact hx9.2)⟩) (fun r153 mem154 H locs hq hP hS => ?_)
              have hD : va_D (Az sz) (fw n ad mem154) := fw_D hD
              obtain ⟨kx155, ax156, ux157, Rx158, Ex159, Sx160, Ax161, Bx_162, nx163, tox164, hr9165, h1166, h2167, h3168, h4169, h5170, htk171, hrk172, hRX173, rds174, h8175⟩ := hq
              subst hr9165
              have hrk176 : ∀ i9, i9 < R → mem154 (7 + i9) = mem (7 + i9) := fun i9 q9 => (hrk172 i9 (by omega)).trans (hrk129 i9 q9)
              obtain ⟨ft177, h9_178⟩ := hRX173.2.1
              have h1_179 : mem154 1 = .inr (0, [.ref (ad 2), .int (nI Z)]) := (hRX173.1.2.2 1 (by omega)).trans hT.1
              have h2_180 : mem154 2 = .inl (cy 0, 240, .inl f) := (hRX173.1.2.2 2 (by omega)).trans hT.2.2
              have h5_181 := hRX173.1.1.2.1
              have hbd187 := hRX173.1.1.1
              obtain ⟨S182, g183, hS_184, h220_185, h221_186⟩ := hRX173.1.1.2.2.2.2.2.2
              have hbd188 := hRX173.1.1.1
              have hce189 := (rds174.2.1 la (by omega)).1
              refine f_putN Bx hP hD hS (by omega) hce189 rfl inEl tyEl okEl nmEl 5 (by decide) kw_91 rfl rfl rfl rfl (Nat.le_of_ble_eq_true rfl) d_Rd_readSequence_51 (fun H locs hP hS => ?_)
              obtain ⟨mem190, e_mem190⟩ : ∃ z, z = va_up mem154 ((20 + 2 * la)) (.inr (2, [.int (Bx_162 228 la), .int (Bx_162 229 la), .int (Bx_162 230 la), vR ad (Bx_162 231 la), vE ad (Bx_162 232 la), .ref (ad (20 + 2 * kx155)), .ref (ad (21 + 2 * la))])) := ⟨_, rfl⟩
              have hP : va_P D vcl (fw n ad mem190) H := by rw [e_mem190]; exact hP
              have hD : va_D (Az sz) (fw n ad mem190) := fw_D hD
              have h_mem190 : mem190 ((20 + 2 * la)) = .inr (2, [.int (Bx_162 228 la), .int (Bx_162 229 la), .int (Bx_162 230 la), vR ad (Bx_162 231 la), vE ad (Bx_162 232 la), .ref (ad (20 + 2 * kx155)), .ref (ad (21 + 2 * la))]) := by rw [e_mem190, va_up_self]
              have hh191 := (va_up_ne mem154 (.inr (2, [.int (Bx_162 228 la), .int (Bx_162 229 la), .int (Bx_162 230 la), vR ad (Bx_162 231 la), vE ad (Bx_162 232 la), .ref (ad (20 + 2 * kx155)), .ref (ad (21 + 2 * la))])) (show (222 : Nat) ≠ (20 + 2 * la) by first | decide | assumption | omega)).trans h9_178
              rw [← e_mem190] at hh191
              have hh192 := (va_up_ne mem154 (.inr (2, [.int (Bx_162 228 la), .int (Bx_162 229 la), .int (Bx_162 230 la), vR ad (Bx_162 231 la), vE ad (Bx_162 232 la), .ref (ad (20 + 2 * kx155)), .ref (ad (21 + 2 * la))])) (show (1 : Nat) ≠ (20 + 2 * la) by first | decide | assumption | omega)).trans h1_179
              rw [← e_mem190] at hh192
              have hh193 := (va_up_ne mem154 (.inr (2, [.int (Bx_162 228 la), .int (Bx_162 229 la), .int (Bx_162 230 la), vR ad (Bx_162 231 la), vE ad (Bx_162 232 la), .ref (ad (20 + 2 * kx155)), .ref (ad (21 + 2 * la))])) (show (5 : Nat) ≠ (20 + 2 * la) by first | decide | assumption | omega)).trans h5_181
              rw [← e_mem190] at hh193
              have hh194 := (va_up_ne mem154 (.inr (2, [.int (Bx_162 228 la), .int (Bx_162 229 la), .int (Bx_162 230 la), vR ad (Bx_162 231 la), vE ad (Bx_162 232 la), .ref (ad (20 + 2 * kx155)), .ref (ad (21 + 2 * la))])) (show (220 : Nat) ≠ (20 + 2 * la) by first | decide | assumption | omega)).trans h220_185
              rw [← e_mem190] at hh194
              have hrk195 : ∀ i9, i9 < R → mem190 (7 + i9) = mem (7 + i9) := fun i9 q9 => (show mem190 (7 + i9) = mem154 (7 + i9) by rw [e_mem190]; exact va_up_ne _ _ (by omega)).trans (hrk176 i9 q9)
              have hRX196 : RX cy ad lim (ax156) (Rx158) (Ex159) (tox164) (nx163) m0 mem190 := by rw [e_mem190]; exact hRX173.el (by omega) (hRX173.1.mk (by omega) (hRX173.1.1.upEl (by omega) (fun _ => ⟨(rds174.2.1 la (by omega)).2.1.oR ad, (rds174.2.1 la (by omega)).2.2.1.oE ad (by omega), Or.inr ⟨kx155, by omega, by omega, rfl⟩⟩)))
              have her197 : ER ad (Rx158) (Ex159) (va_up Bx_162 233 (upd (Bx_162 233) la (nI kx155))) mem190 := rds174.2.1.next (by omega) (by omega) (by omega) h_mem190 (fun i9 q9 hi9 => by rw [e_mem190]; exact va_up_ne _ _ (by omega))
              have hsr198 : SR cy ad (Sx160) (Bx_162) mem190 := ⟨(show mem190 220 = mem154 220 by rw [e_mem190]; exact va_up_ne _ _ (by omega)).trans rds174.2.2.1.1, (show mem190 221 = mem154 221 by rw [e_mem190]; exact va_up_ne _ _ (by omega)).trans rds174.2.2.1.2⟩
              obtain ⟨ft199, h9_200⟩ := hRX196.2.1
              have h1_201 : mem190 1 = .inr (0, [.ref (ad 2), .int (nI Z)]) := (hRX196.1.2.2 1 (by omega)).trans hT.1
              have h2_202 : mem190 2 = .inl (cy 0, 240, .inl f) := (hRX196.1.2.2 2 (by omega)).trans hT.2.2
              have h5_203 := hRX196.1.1.2.1
              have hbd209 := hRX196.1.1.1
              obtain ⟨S204, g205, hS_206, h220_207, h221_208⟩ := hRX196.1.1.2.2.2.2.2.2
              refine lv_aload_n Bx.1 Bx.2.1 d_Rd_readSequence_54 rfl (lv_at hl 1 rfl) ?_
              refine f_getN Bx hP (by omega) h_mem190 rfl inEl 5 (by decide) kw_91 rfl rfl d_Rd_readSequence_55 ?_
              refine lv_astore_n (lv' := [(3, .ref (ad (20 + 2 * kx155))), (4, .int (nI k9)), (2, .ref (ad (20 + 2 * Ec))), (0, .ref (ad 222)), (1, .int (0))]) Bx.1 Bx.2.1 d_Rd_readSequence_58 rfl hl (by decide) rfl (fun ls hl => ?_)
              refine lv_iinc (lv' := [(4, .int ((nI k9 + (1)))), (3, .ref (ad (20 + 2 * kx155))), (2, .ref (ad (20 + 2 * Ec))), (0, .ref (ad 222)), (1, .int (0))]) Bx.1 Bx.2.1 d_Rd_readSequence_59 hl (k := 1) rfl rfl (by decide) rfl (fun ls hl => ?_)
              rw [show (nI k9 + (1) : Int32) = nI (k9 + 1) from nI_1 (k9)] at hl
              refine lv_goto Bx.1 Bx.2.1 d_Rd_readSequence_62 rfl ?_
              have hsq3 := seq_step hsq (by omega) hlka (by omega) hsl9 rds174 h8175 ⟨by omega, by omega⟩ (by omega) (by rw [eg123]; exact go_rept hbg2 hgt2) her197 hsr198
              exact ih104 mem190 (ax156) (ux157) (Rx158) (Ex159) (Sx160) (Ax161) ((va_up Bx_162 233 (upd (Bx_162 233) la (nI kx155)))) (nx163) (tox164) (kx155) (k9 + 1) _ _ _ (by have := hmeas105; omega) (hRX196) (⟨by omega, by omega, by omega, by omega, by omega⟩) (hsq3) (hz102.trans htk171 (by omega)) (hrk195) hP hD hS (lv_sub hl [0, 1, 2, 3, 4] rfl)
        · subst hr143
          refine lv_if_eq Bx.1 Bx.2.1 d_Rd_readSequence_32 rfl (fun hb210 => ?_) (fun hb210 => ?_)
          · refine lv_aload_n Bx.1 Bx.2.1 d_Rd_readSequence_65 rfl (lv_at hl 2 rfl) ?_
            exact x_aret hx hb hlocks hr (⟨a1, u1, R1, E1, S1, A1, B1, n1, to1, rfl, by omega, by omega, by omega, by omega, hz102, hrk129, by rw [← eg123]; exact hRX124, ⟨hsq.1.1, her141, hsr142, hsq.1.2.2.2⟩, fun z => by have := z.2; rw [← eg123] at this; omega⟩) hP hS d_Rd_readSequence_66
          · exact absurd hb210 (by decide)
  exact loop97 _ mem77 (ax43) (ux44) (Rx45) (Ex46) (Sx47) (Ax48) ((va_up Bx_49 232 (upd (Bx_49 232) Ec (nI kx42)))) (nx50) (tox51) (kx42) (0) _ _ _ (Nat.lt_succ_self _) (hRX83) (⟨by omega, by omega, by omega, by omega, by omega⟩) (hsq0) (htk58) (hrk82) hP hD hS (lv_sub hl [0, 1, 2, 3, 4] rfl)
set_option maxHeartbeats 4000000 in
set_option maxRecDepth 100000 in
theorem m_Rd_readAlternatives_0Y (l : Launch) {D : va_G} {cy : Nat → ClassId} {sz n : Nat} {ad : Nat → Nat} {mem : Nat → va_E} {Z a R Ec lim : Nat} {f T : Nat → Int32} {to : Nat → Int32} {nm : Nat → Int64} {m0 : Nat → va_E} {u S : Nat} {A Bw : Ro} {cq : Nat} (hlt : l.stackTraces = false) (hn : 224 ≤ n) (hT : TX cy ad Z f m0) (hf : ∀ k, k < Z → f k = T k) (hRX : RX cy ad lim a R Ec to nm m0 mem) (haB : a ≤ 300) (hER : ER ad R Ec Bw mem) (hSR : SR cy ad S Bw mem) (hSa : S ≤ a) (haZ : a ≤ Z) (hLK : LKa (Ec + 1) A) (hc : A 237 0 = nI cq) (hcl : cq ≤ Ec) (h39 : A 239 0 = -1) : NXr l D cy sz n ad y_Rd_readAlternatives c_Rd_readAlternatives 5 (some (.object "AbnfChart$Element")) ({ frames := 55, cells := 1, slots := 6, locals := 1338 } : Room) mem [.ref (ad 222), .int (0)] (fun r mem' => ∃ (la a' u' R' E' S' : Nat) (A' Bw' : Ro) (nm' : Nat → Int64) (to' : Nat → Int32), r = ad (20 + 2 * Ec) ∧ Ec + 1 < E' ∧ R ≤ R' ∧ a < a' ∧ a' ≤ Z ∧ TOK R R' to to' ∧ (∀ i9, i9 < R → mem' (7 + i9) = mem (7 + i9)) ∧ RX cy ad lim (gapF T Z a') R' E' to' nm' m0 mem' ∧ ALI cy ad T Z 0 (seqS T Z a u R (Ec + 1) 0 A nm) cq R Ec S u A Bw la a' u' R' E' S' A' Bw' nm' mem' ∧ bgF (hereF Z T a) = true ∧ Ec < 100 ∧ ¬ hereF Z T (gapF T Z a') = 47 ∧ ¬ (bgF (hereF Z T (gapF T Z a')) = true ∧ a' < gapF T Z a')) (fun X mem' => ((X = cIA ∨ X = cIS) ∧ ∃ rc' ec' : Nat, RS cy ad lim rc' ec' m0 mem') ∧ (bgF (hereF Z T a) = false ∨ Ec = 100 ∨ (bgF (hereF Z T a) = true ∧ Ec < 100 ∧ Fai T Z (seqS T Z a u R (Ec + 1) 0 A nm)))) := by
  refine vx_ofW (cc := c_Rd_readAlternatives) (maxL := 5) (ret := (some (.object "AbnfChart$Element"))) (by decide) rfl ?_
  intro p e s m args below meth c s₁ B hml hno hv
  obtain ⟨rfl, E, hP, hD⟩ := hv
  have hx := B.exec
  have hb := B.bytes
  have hr := B.returns
  have hlocks := B.notSynchronized
  have Bx : MB p s m [.ref (ad 222), .int (0)].toArray c c_Rd_readAlternatives "AbnfChart$Reader" D cy := ⟨hx, hb, tb_all (atoms_spec B.pre) E.2.1, findClass_of_methodNamed B.named, E.1⟩
  have hS : va_S (Az sz) s.heap s.heap [] := va_S.rf
  have hl := lv_entry ([.ref (ad 222), .int (0)]) (n := 5) (Nat.le_of_ble_eq_true rfl)
  rw [lg_entry_eq]
  generalize (lg_sl ([.ref (ad 222), .int (0)]) ++ List.replicate (5 - (lg_sl ([.ref (ad 222), .int (0)])).length) Slot.unset).toArray = ls at hl ⊢
  have hl : lv_has ls 5 [(0, .ref (ad 222)), (1, .int (0))] := hl
  have hZ9 := hT.2.1
  have hbd9 := hRX.1.1.1
  have hfr0 : ∀ i, 7 ≤ i ∧ i < 222 ∧ i ≠ 20 + 2 * Ec → mem i = mem i := fun _ _ => rfl
  have hrk0 : ∀ i9, i9 < R → mem (7 + i9) = mem (7 + i9) := fun _ _ => rfl
  obtain ⟨ft1, h9_2⟩ := hRX.2.1
  have h1_3 : mem 1 = .inr (0, [.ref (ad 2), .int (nI Z)]) := (hRX.1.2.2 1 (by omega)).trans hT.1
  have h2_4 : mem 2 = .inl (cy 0, 240, .inl f) := (hRX.1.2.2 2 (by omega)).trans hT.2.2
  have h5_5 := hRX.1.1.2.1
  have hbd11 := hRX.1.1.1
  obtain ⟨S6, g7, hS_8, h220_9, h221_10⟩ := hRX.1.1.2.2.2.2.2.2
  refine lv_aload_n Bx.1 Bx.2.1 d_Rd_readAlternatives_0 rfl (lv_at hl 0 rfl) ?_
  refine lv_iconst (v := 0) Bx.1 Bx.2.1 d_Rd_readAlternatives_1 (by decide) ?_
  refine f_xVr (na := 1) (As := [.int (0)]) (rest := []) Bx hml E hP hD hS (by omega) h9_2 rfl (m_Rd_beginRowY l hlt hn hT hf hRX (by omega)) kw_409 kw_411 sel_Rd_beginRow kw_6 kw_412 (by decide +kernel) ⟨rfl, rfl⟩ ⟨Nat.le_of_ble_eq_true rfl, Nat.le_of_ble_eq_true rfl⟩ rfl hl.1 (Nat.le_of_ble_eq_true rfl) d_Rd_readAlternatives_2 ⟨Nat.le_of_ble_eq_true rfl, Nat.le_of_ble_eq_true rfl⟩ (fun X ce q9 memx H locs hx9 hP hS g1 g2 g3 => f_out hlocks hno hP hS g1 g2 g3 ⟨Nat.le_of_ble_eq_true rfl, Nat.le_of_ble_eq_true rfl⟩ ⟨hx9.1, hx9.2.elim Or.inl (fun z => Or.inr (Or.inl z))⟩) (fun r12 mem13 H locs hq hP hS => ?_)
  have hD : va_D (Az sz) (fw n ad mem13) := fw_D hD
  obtain ⟨hbg, hE9, hr9, hRXb, hclb, hfab⟩ := hq
  subst hr9
  have hrk14 : ∀ i9, i9 < R → mem13 (7 + i9) = mem (7 + i9) := fun i9 q9 => (hfab (7 + i9) (by omega)).trans (hrk0 i9 q9)
  have hfr15 : ∀ i, 7 ≤ i ∧ i < 222 ∧ i ≠ 20 + 2 * Ec → mem13 i = mem i := fun i q => (hfab i (by omega)).trans (hfr0 i q)
  obtain ⟨ft16, h9_17⟩ := hRXb.2.1
  have h1_18 : mem13 1 = .inr (0, [.ref (ad 2), .int (nI Z)]) := (hRXb.1.2.2 1 (by omega)).trans hT.1
  have h2_19 : mem13 2 = .inl (cy 0, 240, .inl f) := (hRXb.1.2.2 2 (by omega)).trans hT.2.2
  have h5_20 := hRXb.1.1.2.1
  have hbd26 := hRXb.1.1.1
  obtain ⟨S21, g22, hS_23, h220_24, h221_25⟩ := hRXb.1.1.2.2.2.2.2.2
  obtain ⟨ft27, h9_28⟩ := hRXb.2.1
  have h1_29 : mem13 1 = .inr (0, [.ref (ad 2), .int (nI Z)]) := (hRXb.1.2.2 1 (by omega)).trans hT.1
  have h2_30 : mem13 2 = .inl (cy 0, 240, .inl f) := (hRXb.1.2.2 2 (by omega)).trans hT.2.2
  have h5_31 := hRXb.1.1.2.1
  have hbd37 := hRXb.1.1.1
  obtain ⟨S32, g33, hS_34, h220_35, h221_36⟩ := hRXb.1.1.2.2.2.2.2.2
  refine lv_astore_n (lv' := [(2, .ref (ad (20 + 2 * Ec))), (0, .ref (ad 222)), (1, .int (0))]) Bx.1 Bx.2.1 d_Rd_readAlternatives_5 rfl hl (by decide) rfl (fun ls hl => ?_)
  refine lv_aload_n Bx.1 Bx.2.1 d_Rd_readAlternatives_6 rfl (lv_at hl 1 rfl) ?_
  refine lv_iload_n Bx.1 Bx.2.1 d_Rd_readAlternatives_7 rfl (lv_at hl 2 rfl) ?_
  have her38 : ER ad R (Ec + 1) (bwN Bw Ec 0 (0) (0) (-1) (-1) (-1) (Bw 234)) mem13 := hER.new (Nat.le_refl _) (by rw [vR_m]; exact hclb) (Or.inl rfl) (fun i9 hi9 => hfr15 (20 + 2 * i9) (by omega))
  have hsr39 : SR cy ad S (bwN Bw Ec 0 (0) (0) (-1) (-1) (-1) (Bw 234)) mem13 := ⟨(hfr15 220 (by omega)).trans hSR.1, (hfr15 221 (by omega)).trans hSR.2⟩
  refine f_xVr (na := 1) (As := [.int (0)]) (rest := []) Bx hml E hP hD hS (by omega) h9_28 rfl (m_Rd_readSequence_0Y l hlt hn hT hf hRXb (by omega) (u := u) (A := A) her38 hsr39 (by omega) (by omega) hLK hc (by omega) h39) kw_435 kw_437 sel_Rd_readSequence kw_6 kw_438 (by decide +kernel) ⟨rfl, rfl⟩ ⟨Nat.le_of_ble_eq_true rfl, Nat.le_of_ble_eq_true rfl⟩ rfl hl.1 (Nat.le_of_ble_eq_true rfl) d_Rd_readAlternatives_8 ⟨Nat.le_of_ble_eq_true rfl, Nat.le_of_ble_eq_true rfl⟩ (fun X ce q9 memx H locs hx9 hP hS g1 g2 g3 => f_out hlocks hno hP hS g1 g2 g3 ⟨Nat.le_of_ble_eq_true rfl, Nat.le_of_ble_eq_true rfl⟩ ⟨hx9.1, Or.inr (Or.inr ⟨hbg, hE9, hx9.2⟩)⟩) (fun r40 mem41 H locs hq hP hS => ?_)
  have hD : va_D (Az sz) (fw n ad mem41) := fw_D hD
  obtain ⟨ax42, ux43, Rx44, Ex45, Sx46, Ax47, Bx_48, nx49, tox50, hr951, h252, h353, h454, h555, htk56, hrk57, hRX58, rds59, hnb60⟩ := hq
  subst hr951
  have hrk61 : ∀ i9, i9 < R → mem41 (7 + i9) = mem (7 + i9) := fun i9 q9 => (hrk57 i9 (by omega)).trans (hrk14 i9 q9)
  obtain ⟨g62, eg63⟩ : ∃ z, z = gapF T Z ax42 := ⟨_, rfl⟩
  have hg64 : ax42 ≤ g62 := by rw [eg63]; exact gapF_ge T Z _
  have hg65 : g62 ≤ Z := by rw [eg63]; exact gapF_le T (by omega)
  rw [← eg63] at hRX58
  obtain ⟨ft66, h9_67⟩ := hRX58.2.1
  have h1_68 : mem41 1 = .inr (0, [.ref (ad 2), .int (nI Z)]) := (hRX58.1.2.2 1 (by omega)).trans hT.1
  have h2_69 : mem41 2 = .inl (cy 0, 240, .inl f) := (hRX58.1.2.2 2 (by omega)).trans hT.2.2
  have h5_70 := hRX58.1.1.2.1
  have hbd76 := hRX58.1.1.1
  obtain ⟨S71, g72, hS_73, h220_74, h221_75⟩ := hRX58.1.1.2.2.2.2.2.2
  have hbd77 := hRX58.1.1.1
  refine lv_astore_n (lv' := [(3, .ref (ad (20 + 2 * (Ec + 1)))), (2, .ref (ad (20 + 2 * Ec))), (0, .ref (ad 222)), (1, .int (0))]) Bx.1 Bx.2.1 d_Rd_readAlternatives_11 rfl hl (by decide) rfl (fun ls hl => ?_)
  refine lv_aload_n Bx.1 Bx.2.1 d_Rd_readAlternatives_12 rfl (lv_at hl 1 rfl) ?_
  refine lv_aload_n Bx.1 Bx.2.1 d_Rd_readAlternatives_13 rfl (lv_at hl 0 rfl) ?_
  have hce78 := (rds59.2.1 Ec (by omega)).1
  refine f_putN Bx hP hD hS (by omega) hce78 rfl inEl tyEl okEl nmEl 4 (by decide) kw_87 rfl rfl rfl rfl (Nat.le_of_ble_eq_true rfl) d_Rd_readAlternatives_14 (fun H locs hP hS => ?_)
  obtain ⟨mem79, e_mem79⟩ : ∃ z, z = va_up mem41 ((20 + 2 * Ec)) (.inr (2, [.int (Bx_48 228 Ec), .int (Bx_48 229 Ec), .int (Bx_48 230 Ec), vR ad (Bx_48 231 Ec), .ref (ad (20 + 2 * (Ec + 1))), vE ad (Bx_48 233 Ec), .ref (ad (21 + 2 * Ec))])) := ⟨_, rfl⟩
  have hP : va_P D vcl (fw n ad mem79) H := by rw [e_mem79]; exact hP
  have hD : va_D (Az sz) (fw n ad mem79) := fw_D hD
  have h_mem79 : mem79 ((20 + 2 * Ec)) = .inr (2, [.int (Bx_48 228 Ec), .int (Bx_48 229 Ec), .int (Bx_48 230 Ec), vR ad (Bx_48 231 Ec), .ref (ad (20 + 2 * (Ec + 1))), vE ad (Bx_48 233 Ec), .ref (ad (21 + 2 * Ec))]) := by rw [e_mem79, va_up_self]
  have hh80 := (va_up_ne mem41 (.inr (2, [.int (Bx_48 228 Ec), .int (Bx_48 229 Ec), .int (Bx_48 230 Ec), vR ad (Bx_48 231 Ec), .ref (ad (20 + 2 * (Ec + 1))), vE ad (Bx_48 233 Ec), .ref (ad (21 + 2 * Ec))])) (show (222 : Nat) ≠ (20 + 2 * Ec) by first | decide | assumption | omega)).trans h9_67
  rw [← e_mem79] at hh80
  have hh81 := (va_up_ne mem41 (.inr (2, [.int (Bx_48 228 Ec), .int (Bx_48 229 Ec), .int (Bx_48 230 Ec), vR ad (Bx_48 231 Ec), .ref (ad (20 + 2 * (Ec + 1))), vE ad (Bx_48 233 Ec), .ref (ad (21 + 2 * Ec))])) (show (1 : Nat) ≠ (20 + 2 * Ec) by first | decide | assumption | omega)).trans h1_68
  rw [← e_mem79] at hh81
  have hh82 := (va_up_ne mem41 (.inr (2, [.int (Bx_48 228 Ec), .int (Bx_48 229 Ec), .int (Bx_48 230 Ec), vR ad (Bx_48 231 Ec), .ref (ad (20 + 2 * (Ec + 1))), vE ad (Bx_48 233 Ec), .ref (ad (21 + 2 * Ec))])) (show (5 : Nat) ≠ (20 + 2 * Ec) by first | decide | assumption | omega)).trans h5_70
  rw [← e_mem79] at hh82
  have hh83 := (va_up_ne mem41 (.inr (2, [.int (Bx_48 228 Ec), .int (Bx_48 229 Ec), .int (Bx_48 230 Ec), vR ad (Bx_48 231 Ec), .ref (ad (20 + 2 * (Ec + 1))), vE ad (Bx_48 233 Ec), .ref (ad (21 + 2 * Ec))])) (show (220 : Nat) ≠ (20 + 2 * Ec) by first | decide | assumption | omega)).trans h220_74
  rw [← e_mem79] at hh83
  have hrk84 : ∀ i9, i9 < R → mem79 (7 + i9) = mem (7 + i9) := fun i9 q9 => (show mem79 (7 + i9) = mem41 (7 + i9) by rw [e_mem79]; exact va_up_ne _ _ (by omega)).trans (hrk61 i9 q9)
  have hRX85 : RX cy ad lim (g62) (Rx44) (Ex45) (tox50) (nx49) m0 mem79 := by rw [e_mem79]; exact hRX58.el (by omega) (hRX58.1.mk (by omega) (hRX58.1.1.upEl (by omega) (fun _ => ⟨(rds59.2.1 Ec (by omega)).2.1.oR ad, Or.inr ⟨(Ec + 1), by omega, by omega, rfl⟩, (rds59.2.1 Ec (by omega)).2.2.2.oE ad (by omega)⟩)))
  have her86 : ER ad (Rx44) (Ex45) (va_up Bx_48 232 (upd (Bx_48 232) Ec (nI (Ec + 1)))) mem79 := rds59.2.1.part (by omega) (by omega) (by omega) h_mem79 (fun i9 q9 hi9 => by rw [e_mem79]; exact va_up_ne _ _ (by omega))
  have hsr87 : SR cy ad (Sx46) (Bx_48) mem79 := ⟨(show mem79 220 = mem41 220 by rw [e_mem79]; exact va_up_ne _ _ (by omega)).trans rds59.2.2.1.1, (show mem79 221 = mem41 221 by rw [e_mem79]; exact va_up_ne _ _ (by omega)).trans rds59.2.2.1.2⟩
  obtain ⟨ft88, h9_89⟩ := hRX85.2.1
  have h1_90 : mem79 1 = .inr (0, [.ref (ad 2), .int (nI Z)]) := (hRX85.1.2.2 1 (by omega)).trans hT.1
  have h2_91 : mem79 2 = .inl (cy 0, 240, .inl f) := (hRX85.1.2.2 2 (by omega)).trans hT.2.2
  have h5_92 := hRX85.1.1.2.1
  have hbd98 := hRX85.1.1.1
  obtain ⟨S93, g94, hS_95, h220_96, h221_97⟩ := hRX85.1.1.2.2.2.2.2.2
  refine lv_iconst (v := 0) Bx.1 Bx.2.1 d_Rd_readAlternatives_17 (by decide) ?_
  refine lv_istore (lv' := [(4, .int (0)), (3, .ref (ad (20 + 2 * (Ec + 1)))), (2, .ref (ad (20 + 2 * Ec))), (0, .ref (ad 222)), (1, .int (0))]) Bx.1 Bx.2.1 d_Rd_readAlternatives_18 hl (by decide) rfl (fun ls hl => ?_)
  have hal0 := alt_first hLK hE9 hcl rds59 (by omega) (by omega) her86 hsr87
  have loop99 : ∀ (d100 : Nat) (mem9 : Nat → va_E) (a1 : Nat) (u1 : Nat) (R1 : Nat) (E1 : Nat) (S1 : Nat) (A1 : Ro) (B1 : Ro) (n1 : Nat → Int64) (to1 : Nat → Int32) (la : Nat) (k9 : Nat) (ls : Array Slot) (H : Heap) (locs : List Loc), (240 - k9 < d100) → (RX cy ad lim (gapF T Z a1) R1 E1 to1 n1 m0 mem9) → (a < a1 ∧ a1 ≤ Z ∧ R ≤ R1 ∧ k9 < a1 ∧ k9 ≤ 240) → (ALI cy ad T Z 0 (seqS T Z a u R (Ec + 1) 0 A nm) cq R Ec S u A Bw la a1 u1 R1 E1 S1 A1 B1 n1 mem9) → (TOK R R1 to to1) → (¬ (bgF (hereF Z T (gapF T Z a1)) = true ∧ a1 < gapF T Z a1)) → (∀ i9, i9 < R → mem9 (7 + i9) = mem (7 + i9)) → (va_P D vcl (fw n ad mem9) H) → (va_D (Az sz) (fw n ad mem9)) → (va_S (Az sz) s.heap H locs) → (lv_has ls 5 [(4, .int (nI k9)), (3, .ref (ad (20 + 2 * la))), (2, .ref (ad (20 + 2 * Ec))), (0, .ref (ad 222)), (1, .int (0))]) → W p l e (headSpec (Cond.code y_Rd_readAlternatives c_Rd_readAlternatives 5 (some (.object "AbnfChart$Element")) :: tg) ({ frames := 55, cells := 1, slots := 6, locals := 1338 } : Room)).room s m [.ref (ad 222), .int (0)].toArray below meth c H locs 0 0 (vx_MQ below (QX (QR (fun r mem' => ∃ (la a' u' R' E' S' : Nat) (A' Bw' : Ro) (nm' : Nat → Int64) (to' : Nat → Int32), r = ad (20 + 2 * Ec) ∧ Ec + 1 < E' ∧ R ≤ R' ∧ a < a' ∧ a' ≤ Z ∧ TOK R R' to to' ∧ (∀ i9, i9 < R → mem' (7 + i9) = mem (7 + i9)) ∧ RX cy ad lim (gapF T Z a') R' E' to' nm' m0 mem' ∧ ALI cy ad T Z 0 (seqS T Z a u R (Ec + 1) 0 A nm) cq R Ec S u A Bw la a' u' R' E' S' A' Bw' nm' mem' ∧ bgF (hereF Z T a) = true ∧ Ec < 100 ∧ ¬ hereF Z T (gapF T Z a') = 47 ∧ ¬ (bgF (hereF Z T (gapF T Z a')) = true ∧ a' < gapF T Z a')) (PP D n ad) (Az sz))) (XQ D sz n ad (fun X mem' => ((X = cIA ∨ X = cIS) ∧ ∃ rc' ec' : Nat, RS cy ad lim rc' ec' m0 mem') ∧ (bgF (hereF Z T a) = false ∨ Ec = 100 ∨ (bgF (hereF Z T a) = true ∧ Ec < 100 ∧ Fai T Z (seqS T Z a u R (Ec + 1) 0 A nm))))) [.ref (ad 222), .int (0)].toArray s 1 6 (Az sz)) (F0 m 20 ls []) := by
    intro d100
    induction d100 with
    | zero => intro mem9 a1 u1 R1 E1 S1 A1 B1 n1 to1 la k9 ls H locs hmeas108; exact absurd hmeas108 (Nat.not_lt_zero _)
    | succ d100 ih107 =>
      intro mem9 a1 u1 R1 E1 S1 A1 B1 n1 to1 la k9 ls H locs hmeas108 hz101 hz102 hz103 hz104 hz105 hz106 hP hD hS hl
      obtain ⟨g1, eg1⟩ : ∃ z, z = gapF T Z a1 := ⟨_, rfl⟩
      rw [← eg1] at hz101
      have hge1 : a1 ≤ g1 := by rw [eg1]; exact gapF_ge T Z _
      have hbd8 := hz102
      have hle1 : g1 ≤ Z := by rw [eg1]; exact gapF_le T (by omega)
      have hal := hz103
      have hbdE := hz101.1.1.1
      have hla := hal.2.2.2.2.2.2.2.2.2.2
      have hSa1 := hal.2.2.2.1.2.1
      have hlka := ali_lka hal hLK hE9 hcl
      obtain ⟨ft109, h9_110⟩ := hz101.2.1
      have h1_111 : mem9 1 = .inr (0, [.ref (ad 2), .int (nI Z)]) := (hz101.1.2.2 1 (by omega)).trans hT.1
      have h2_112 : mem9 2 = .inl (cy 0, 240, .inl f) := (hz101.1.2.2 2 (by omega)).trans hT.2.2
      have h5_113 := hz101.1.1.2.1
      have hbd119 := hz101.1.1.1
      obtain ⟨S114, g115, hS_116, h220_117, h221_118⟩ := hz101.1.1.2.2.2.2.2.2
      refine lv_iload Bx.1 Bx.2.1 d_Rd_readAlternatives_20 (lv_at hl 0 rfl) ?_
      refine lv_sipush (v := 240) Bx.1 Bx.2.1 d_Rd_readAlternatives_22 (by decide) ?_
      refine lv_icmp_ge Bx.1 Bx.2.1 d_Rd_readAlternatives_25 rfl (fun hb120 => ?_) (fun hb120 => ?_)
      · have hN121 : 240 ≤ k9 := (nI_leI (by omega) (by omega)).mp (show nI (240) ≤ nI (k9) from hb120)
        exact absurd hbd8 (by omega)
      · have hN122 : ¬ 240 ≤ k9 := fun q9 => hb120 (show nI (240) ≤ nI (k9) from (nI_leI (by omega) (by omega)).mpr q9)
        refine lv_aload_n Bx.1 Bx.2.1 d_Rd_readAlternatives_28 rfl (lv_at hl 3 rfl) ?_
        refine f_callVi (na := 0) (As := []) (rest := []) Bx hml E hP hD hS (by omega) h9_110 rfl (m_Rd_peekX l hn hT hf hz101 (by omega)) kw_353 kw_355 sel_Rd_peek kw_6 kw_356 (by decide +kernel) ⟨rfl, rfl⟩ ⟨Nat.le_of_ble_eq_true rfl, Nat.le_of_ble_eq_true rfl⟩ rfl hl.1 (Nat.le_of_ble_eq_true rfl) d_Rd_readAlternatives_29 ⟨Nat.le_of_ble_eq_true rfl, Nat.le_of_ble_eq_true rfl⟩ (fun r124 mem125 H locs hq hP hS => ?_)
        have hD : va_D (Az sz) (fw n ad mem125) := fw_D hD
        obtain ⟨hqe, hpk123⟩ := hq
        rw [hqe] at hP hD
        subst hpk123
        refine lv_bipush (v := 47) Bx.1 Bx.2.1 d_Rd_readAlternatives_32 (by decide) ?_
        refine lv_icmp_ne Bx.1 Bx.2.1 d_Rd_readAlternatives_34 rfl (fun hb127 => ?_) (fun hb127 => ?_)
        · refine lv_aload_n Bx.1 Bx.2.1 d_Rd_readAlternatives_72 rfl (lv_at hl 2 rfl) ?_
          exact x_aret hx hb hlocks hr (⟨la, a1, u1, R1, E1, S1, A1, B1, n1, to1, rfl, by omega, by omega, by omega, by omega, hz104, hz106, by rw [← eg1]; exact hz101, hal, hbg, hE9, by rw [← eg1]; exact hb127, hz105⟩) hP hS d_Rd_readAlternatives_73
        · have hlt128 := hereF_lt (by rw [hb127]; decide)
          have h47 : hereF Z T (gapF T Z a1) = 47 := by rw [← eg1]; exact hb127
          have h237 : A1 237 0 = nI cq := hal.2.2.2.2.2.2.2.2.1.2.2.1.trans hc
          have h239 : A1 239 0 = -1 := hal.2.2.2.2.2.2.2.2.1.2.2.2
          refine lv_aload_n Bx.1 Bx.2.1 d_Rd_readAlternatives_37 rfl (lv_at hl 3 rfl) ?_
          refine lv_dup Bx.1 Bx.2.1 d_Rd_readAlternatives_38 rfl ?_
          refine f_get Bx hP (by omega) h9_110 rfl inRd 2 (by decide) kw_146 rfl rfl d_Rd_readAlternatives_39 ?_
          refine lv_iconst (v := 1) Bx.1 Bx.2.1 d_Rd_readAlternatives_42 (by decide) ?_
          refine lv_iadd Bx.1 Bx.2.1 d_Rd_readAlternatives_43 ?_
          rw [show nI g1 + 1 = nI (g1 + 1) from nI_add (g1) (1)]
          refine f_put Bx hP hD hS (by omega) h9_110 rfl inRd tyRd okRd nmRd 2 (by decide) kw_146 rfl rfl rfl rfl (Nat.le_of_ble_eq_true rfl) d_Rd_readAlternatives_44 (fun H locs hP hS => ?_)
          obtain ⟨mem129, e_mem129⟩ : ∃ z, z = va_up mem9 (222) (.inr (4, [.ref (ad 1), .ref (ad 5), .int (nI (g1 + 1)), .int (ft109)])) := ⟨_, rfl⟩
          have hP : va_P D vcl (fw n ad mem129) H := by rw [e_mem129]; exact hP
          have hD : va_D (Az sz) (fw n ad mem129) := fw_D hD
          have h_mem129 : mem129 (222) = .inr (4, [.ref (ad 1), .ref (ad 5), .int (nI (g1 + 1)), .int (ft109)]) := by rw [e_mem129, va_up_self]
          have hh130 := (va_up_ne mem9 (.inr (4, [.ref (ad 1), .ref (ad 5), .int (nI (g1 + 1)), .int (ft109)])) (show (1 : Nat) ≠ 222 by first | decide | assumption | omega)).trans h1_111
          rw [← e_mem129] at hh130
          have hh131 := (va_up_ne mem9 (.inr (4, [.ref (ad 1), .ref (ad 5), .int (nI (g1 + 1)), .int (ft109)])) (show (5 : Nat) ≠ 222 by first | decide | assumption | omega)).trans h5_113
          rw [← e_mem129] at hh131
          have hh132 := (va_up_ne mem9 (.inr (4, [.ref (ad 1), .ref (ad 5), .int (nI (g1 + 1)), .int (ft109)])) (show (220 : Nat) ≠ 222 by first | decide | assumption | omega)).trans h220_117
          rw [← e_mem129] at hh132
          have hrk133 : ∀ i9, i9 < R → mem129 (7 + i9) = mem (7 + i9) := fun i9 q9 => (show mem129 (7 + i9) = mem9 (7 + i9) by rw [e_mem129]; exact va_up_ne _ _ (by omega)).trans (hz106 i9 q9)
          have her134 : ER ad (R1) (E1) (B1) mem129 := hal.2.1.fr (Nat.le_refl _) (fun i9 hi9 => by rw [e_mem129]; exact va_up_ne _ _ (by omega))
          have hsr135 : SR cy ad (S1) (B1) mem129 := ⟨(show mem129 220 = _ from by rw [e_mem129]; exact va_up_ne _ _ (by omega)).trans hal.2.2.1.1, (show mem129 221 = _ from by rw [e_mem129]; exact va_up_ne _ _ (by omega)).trans hal.2.2.1.2⟩
          have hRX136 : RX cy ad lim (g1 + 1) (R1) (E1) (to1) (n1) m0 mem129 := by rw [e_mem129]; exact hz101.at
          refine lv_aload_n Bx.1 Bx.2.1 d_Rd_readAlternatives_47 rfl (lv_at hl 3 rfl) ?_
          refine f_callVi (na := 0) (As := []) (rest := []) Bx hml E hP hD hS (by omega) h_mem129 rfl (m_Rd_readGapY l hn hT hf hRX136 (by omega) (by omega)) kw_397 kw_399 sel_Rd_readGap kw_6 kw_400 (by decide +kernel) ⟨rfl, rfl⟩ ⟨Nat.le_of_ble_eq_true rfl, Nat.le_of_ble_eq_true rfl⟩ rfl hl.1 (Nat.le_of_ble_eq_true rfl) d_Rd_readAlternatives_48 ⟨Nat.le_of_ble_eq_true rfl, Nat.le_of_ble_eq_true rfl⟩ (fun r137 mem138 H locs hq hP hS => ?_)
          have hD : va_D (Az sz) (fw n ad mem138) := fw_D hD
          obtain ⟨g139, eg140⟩ : ∃ z, z = gapF T Z (g1 + 1) := ⟨_, rfl⟩
          rw [← eg140] at hq
          obtain ⟨hRX141, hgc142, hfa143⟩ := hq
          have hg144 : g1 + 1 ≤ g139 := by rw [eg140]; exact gapF_ge T Z _
          have hg145 : g139 ≤ Z := by rw [eg140]; exact gapF_le T (by omega)
          have hrk146 : ∀ i9, i9 < R → mem138 (7 + i9) = mem (7 + i9) := fun i9 q9 => (hfa143 (7 + i9) (by omega)).trans (hrk133 i9 q9)
          obtain ⟨ft147, h9_148⟩ := hRX141.2.1
          have h1_149 : mem138 1 = .inr (0, [.ref (ad 2), .int (nI Z)]) := (hRX141.1.2.2 1 (by omega)).trans hT.1
          have h2_150 : mem138 2 = .inl (cy 0, 240, .inl f) := (hRX141.1.2.2 2 (by omega)).trans hT.2.2
          have h5_151 := hRX141.1.1.2.1
          have hbd157 := hRX141.1.1.1
          obtain ⟨S152, g153, hS_154, h220_155, h221_156⟩ := hRX141.1.1.2.2.2.2.2.2
          have her158 : ER ad (R1) (E1) (B1) mem138 := her134.fr (Nat.le_refl _) (fun i9 hi9 => hfa143 _ (by omega))
          have hsr159 : SR cy ad (S1) (B1) mem138 := ⟨(show mem138 220 = _ from hfa143 _ (by omega)).trans hsr135.1, (show mem138 221 = _ from hfa143 _ (by omega)).trans hsr135.2⟩
          refine lv_pop Bx.1 Bx.2.1 d_Rd_readAlternatives_51 rfl ?_
          refine lv_aload_n Bx.1 Bx.2.1 d_Rd_readAlternatives_52 rfl (lv_at hl 1 rfl) ?_
          refine lv_aload_n Bx.1 Bx.2.1 d_Rd_readAlternatives_53 rfl (lv_at hl 3 rfl) ?_
          refine lv_iload_n Bx.1 Bx.2.1 d_Rd_readAlternatives_54 rfl (lv_at hl 4 rfl) ?_
          refine f_xVr (na := 1) (As := [.int (0)]) (rest := [.ref (ad (20 + 2 * la))]) Bx hml E hP hD hS (by omega) h9_148 rfl (m_Rd_readSequence_0Y l hlt hn hT hf hRX141 (by omega) (u := u1) (A := A1) her158 hsr159 (by omega) (by omega) hlka h237 (by omega) h239) kw_435 kw_437 sel_Rd_readSequence kw_6 kw_438 (by decide +kernel) ⟨rfl, rfl⟩ ⟨Nat.le_of_ble_eq_true rfl, Nat.le_of_ble_eq_true rfl⟩ rfl hl.1 (Nat.le_of_ble_eq_true rfl) d_Rd_readAlternatives_55 ⟨Nat.le_of_ble_eq_true rfl, Nat.le_of_ble_eq_true rfl⟩ (fun X ce q9 memx H locs hx9 hP hS g1 g2 g3 => f_out hlocks hno hP hS g1 g2 g3 ⟨Nat.le_of_ble_eq_true rfl, Nat.le_of_ble_eq_true rfl⟩ ⟨hx9.1, Or.inr (Or.inr ⟨hbg, hE9, hal.1.fai (go_sl h47) (by rw [← eg1, ← eg140]; exact hx9.2)⟩)⟩) (fun r160 mem161 H locs hq hP hS => ?_)
          have hD : va_D (Az sz) (fw n ad mem161) := fw_D hD
          obtain ⟨ax162, ux163, Rx164, Ex165, Sx166, Ax167, Bx_168, nx169, tox170, hr9171, h2172, h3173, h4174, h5175, htk176, hrk177, hRX178, rds179, hnb180⟩ := hq
          subst hr9171
          have hrk181 : ∀ i9, i9 < R → mem161 (7 + i9) = mem (7 + i9) := fun i9 q9 => (hrk177 i9 (by omega)).trans (hrk146 i9 q9)
          obtain ⟨g182, eg183⟩ : ∃ z, z = gapF T Z ax162 := ⟨_, rfl⟩
          have hg184 : ax162 ≤ g182 := by rw [eg183]; exact gapF_ge T Z _
          have hg185 : g182 ≤ Z := by rw [eg183]; exact gapF_le T (by omega)
          rw [← eg183] at hRX178
          obtain ⟨ft186, h9_187⟩ := hRX178.2.1
          have h1_188 : mem161 1 = .inr (0, [.ref (ad 2), .int (nI Z)]) := (hRX178.1.2.2 1 (by omega)).trans hT.1
          have h2_189 : mem161 2 = .inl (cy 0, 240, .inl f) := (hRX178.1.2.2 2 (by omega)).trans hT.2.2
          have h5_190 := hRX178.1.1.2.1
          have hbd196 := hRX178.1.1.1
          obtain ⟨S191, g192, hS_193, h220_194, h221_195⟩ := hRX178.1.1.2.2.2.2.2.2
          have hbd197 := hRX178.1.1.1
          have hce198 := (rds179.2.1 la (by omega)).1
          refine f_putN Bx hP hD hS (by omega) hce198 rfl inEl tyEl okEl nmEl 5 (by decide) kw_91 rfl rfl rfl rfl (Nat.le_of_ble_eq_true rfl) d_Rd_readAlternatives_58 (fun H locs hP hS => ?_)
          obtain ⟨mem199, e_mem199⟩ : ∃ z, z = va_up mem161 ((20 + 2 * la)) (.inr (2, [.int (Bx_168 228 la), .int (Bx_168 229 la), .int (Bx_168 230 la), vR ad (Bx_168 231 la), vE ad (Bx_168 232 la), .ref (ad (20 + 2 * E1)), .ref (ad (21 + 2 * la))])) := ⟨_, rfl⟩
          have hP : va_P D vcl (fw n ad mem199) H := by rw [e_mem199]; exact hP
          have hD : va_D (Az sz) (fw n ad mem199) := fw_D hD
          have h_mem199 : mem199 ((20 + 2 * la)) = .inr (2, [.int (Bx_168 228 la), .int (Bx_168 229 la), .int (Bx_168 230 la), vR ad (Bx_168 231 la), vE ad (Bx_168 232 la), .ref (ad (20 + 2 * E1)), .ref (ad (21 + 2 * la))]) := by rw [e_mem199, va_up_self]
          have hh200 := (va_up_ne mem161 (.inr (2, [.int (Bx_168 228 la), .int (Bx_168 229 la), .int (Bx_168 230 la), vR ad (Bx_168 231 la), vE ad (Bx_168 232 la), .ref (ad (20 + 2 * E1)), .ref (ad (21 + 2 * la))])) (show (222 : Nat) ≠ (20 + 2 * la) by first | decide | assumption | omega)).trans h9_187
          rw [← e_mem199] at hh200
          have hh201 := (va_up_ne mem161 (.inr (2, [.int (Bx_168 228 la), .int (Bx_168 229 la), .int (Bx_168 230 la), vR ad (Bx_168 231 la), vE ad (Bx_168 232 la), .ref (ad (20 + 2 * E1)), .ref (ad (21 + 2 * la))])) (show (1 : Nat) ≠ (20 + 2 * la) by first | decide | assumption | omega)).trans h1_188
          rw [← e_mem199] at hh201
          have hh202 := (va_up_ne mem161 (.inr (2, [.int (Bx_168 228 la), .int (Bx_168 229 la), .int (Bx_168 230 la), vR ad (Bx_168 231 la), vE ad (Bx_168 232 la), .ref (ad (20 + 2 * E1)), .ref (ad (21 + 2 * la))])) (show (5 : Nat) ≠ (20 + 2 * la) by first | decide | assumption | omega)).trans h5_190
          rw [← e_mem199] at hh202
          have hh203 := (va_up_ne mem161 (.inr (2, [.int (Bx_168 228 la), .int (Bx_168 229 la), .int (Bx_168 230 la), vR ad (Bx_168 231 la), vE ad (Bx_168 232 la), .ref (ad (20 + 2 * E1)), .ref (ad (21 + 2 * la))])) (show (220 : Nat) ≠ (20 + 2 * la) by first | decide | assumption | omega)).trans h220_194
          rw [← e_mem199] at hh203
          have hrk204 : ∀ i9, i9 < R → mem199 (7 + i9) = mem (7 + i9) := fun i9 q9 => (show mem199 (7 + i9) = mem161 (7 + i9) by rw [e_mem199]; exact va_up_ne _ _ (by omega)).trans (hrk181 i9 q9)
          have hRX205 : RX cy ad lim (g182) (Rx164) (Ex165) (tox170) (nx169) m0 mem199 := by rw [e_mem199]; exact hRX178.el (by omega) (hRX178.1.mk (by omega) (hRX178.1.1.upEl (by omega) (fun _ => ⟨(rds179.2.1 la (by omega)).2.1.oR ad, (rds179.2.1 la (by omega)).2.2.1.oE ad (by omega), Or.inr ⟨E1, by omega, by omega, rfl⟩⟩)))
          have her206 : ER ad (Rx164) (Ex165) (va_up Bx_168 233 (upd (Bx_168 233) la (nI E1))) mem199 := rds179.2.1.next (by omega) (by omega) (by omega) h_mem199 (fun i9 q9 hi9 => by rw [e_mem199]; exact va_up_ne _ _ (by omega))
          have hsr207 : SR cy ad (Sx166) (Bx_168) mem199 := ⟨(show mem199 220 = mem161 220 by rw [e_mem199]; exact va_up_ne _ _ (by omega)).trans rds179.2.2.1.1, (show mem199 221 = mem161 221 by rw [e_mem199]; exact va_up_ne _ _ (by omega)).trans rds179.2.2.1.2⟩
          obtain ⟨ft208, h9_209⟩ := hRX205.2.1
          have h1_210 : mem199 1 = .inr (0, [.ref (ad 2), .int (nI Z)]) := (hRX205.1.2.2 1 (by omega)).trans hT.1
          have h2_211 : mem199 2 = .inl (cy 0, 240, .inl f) := (hRX205.1.2.2 2 (by omega)).trans hT.2.2
          have h5_212 := hRX205.1.1.2.1
          have hbd218 := hRX205.1.1.1
          obtain ⟨S213, g214, hS_215, h220_216, h221_217⟩ := hRX205.1.1.2.2.2.2.2.2
          refine lv_aload_n Bx.1 Bx.2.1 d_Rd_readAlternatives_61 rfl (lv_at hl 1 rfl) ?_
          refine f_getN Bx hP (by omega) h_mem199 rfl inEl 5 (by decide) kw_91 rfl rfl d_Rd_readAlternatives_62 ?_
          refine lv_astore_n (lv' := [(3, .ref (ad (20 + 2 * E1))), (4, .int (nI k9)), (2, .ref (ad (20 + 2 * Ec))), (0, .ref (ad 222)), (1, .int (0))]) Bx.1 Bx.2.1 d_Rd_readAlternatives_65 rfl hl (by decide) rfl (fun ls hl => ?_)
          refine lv_iinc (lv' := [(4, .int ((nI k9 + (1)))), (3, .ref (ad (20 + 2 * E1))), (2, .ref (ad (20 + 2 * Ec))), (0, .ref (ad 222)), (1, .int (0))]) Bx.1 Bx.2.1 d_Rd_readAlternatives_66 hl (k := 1) rfl rfl (by decide) rfl (fun ls hl => ?_)
          rw [show (nI k9 + (1) : Int32) = nI (k9 + 1) from nI_1 (k9)] at hl
          refine lv_goto Bx.1 Bx.2.1 d_Rd_readAlternatives_69 rfl ?_
          have hal3 := alt_step hal (by omega) hLK hlka (by omega) hcl rds179 (by omega) (by omega) (by rw [eg140, eg1]; exact go_sl h47) her206 hsr207
          exact ih107 mem199 (ax162) (ux163) (Rx164) (Ex165) (Sx166) (Ax167) ((va_up Bx_168 233 (upd (Bx_168 233) la (nI E1)))) (nx169) (tox170) (E1) (k9 + 1) _ _ _ (by have := hmeas108; omega) (by rw [← eg183]; exact hRX205) (⟨by omega, by omega, by omega, by omega, by omega⟩) (hal3) (hz104.trans htk176 (by omega)) (hnb180) (hrk204) hP hD hS (lv_sub hl [0, 1, 2, 3, 4] rfl)
  exact loop99 _ mem79 (ax42) (ux43) (Rx44) (Ex45) (Sx46) (Ax47) ((va_up Bx_48 232 (upd (Bx_48 232) Ec (nI (Ec + 1))))) (nx49) (tox50) (Ec + 1) (0) _ _ _ (Nat.lt_succ_self _) (by rw [← eg63]; exact hRX85) (⟨by omega, by omega, by omega, by omega, by omega⟩) (hal0) (htk56) (hnb60) (hrk84) hP hD hS (lv_sub hl [0, 1, 2, 3, 4] rfl)
