set_option maxHeartbeats 4000000 in
set_option maxRecDepth 100000 in
theorem m_Rd_beginRowX (l : Launch) {D : va_G} {cy : Nat → ClassId} {sz n : Nat} {ad : Nat → Nat} {mem : Nat → va_E} {Z a R Ec lim : Nat} {f T : Nat → Int32} {to : Nat → Int32} {nm : Nat → Int64} {m0 : Nat → va_E} {kd : Int32} (hlt : l.stackTraces = false) (hn : 224 ≤ n) (hT : TX cy ad Z f m0) (hf : ∀ k, k < Z → f k = T k) (hRX : RX cy ad lim a R Ec to nm m0 mem) (haB : a ≤ 300) : NXr l D cy sz n ad y_Rd_beginRow c_Rd_beginRow 2 (some (.object "AbnfChart$Element")) ({ frames := 10, cells := 1, slots := 6, locals := 220 } : Room) mem [.ref (ad 222), .int (kd)] (fun r mem' => bgF (hereF Z T a) = true ∧ Ec < 100 ∧ r = ad (20 + 2 * Ec) ∧ RX cy ad lim a R (Ec + 1) to nm m0 mem') (fun X mem' => ((X = cIA ∨ X = cIS) ∧ ∃ rc' ec' : Nat, RS cy ad lim rc' ec' m0 mem') ∧ (bgF (hereF Z T a) = false ∨ Ec = 100)) := by
  refine vx_ofW (cc := c_Rd_beginRow) (maxL := 2) (ret := (some (.object "AbnfChart$Element"))) (by decide) rfl ?_
  intro p e s m args below meth c s₁ B hml hno hv
  obtain ⟨rfl, E, hP, hD⟩ := hv
  have hx := B.exec
  have hb := B.bytes
  have hr := B.returns
  have hlocks := B.notSynchronized
  have Bx : MB p s m [.ref (ad 222), .int (kd)].toArray c c_Rd_beginRow "AbnfChart$Reader" D cy := ⟨hx, hb, tb_all (atoms_spec B.pre) E.2.1, findClass_of_methodNamed B.named, E.1⟩
  have hS : va_S (Az sz) s.heap s.heap [] := va_S.rf
  have hl := lv_entry ([.ref (ad 222), .int (kd)]) (n := 2) (Nat.le_of_ble_eq_true rfl)
  rw [lg_entry_eq]
  generalize (lg_sl ([.ref (ad 222), .int (kd)]) ++ List.replicate (2 - (lg_sl ([.ref (ad 222), .int (kd)])).length) Slot.unset).toArray = ls at hl ⊢
  have hl : lv_has ls 2 [(0, .ref (ad 222)), (1, .int (kd))] := hl
  have hZ9 := hT.2.1
  have hbd9 := hRX.1.1.1
  obtain ⟨ft1, h9_2⟩ := hRX.2.1
  have h1_3 : mem 1 = .inr (0, [.ref (ad 2), .int (nI Z)]) := (hRX.1.2.2 1 (by omega)).trans hT.1
  have h2_4 : mem 2 = .inl (cy 0, 240, .inl f) := (hRX.1.2.2 2 (by omega)).trans hT.2.2
  have h5_5 := hRX.1.1.2.1
  have hbd11 := hRX.1.1.1
  obtain ⟨S6, g7, hS_8, h220_9, h221_10⟩ := hRX.1.1.2.2.2.2.2.2
  refine lv_aload_n Bx.1 Bx.2.1 d_Rd_beginRow_0 rfl (lv_at hl 0 rfl) ?_
  refine lv_aload_n Bx.1 Bx.2.1 d_Rd_beginRow_1 rfl (lv_at hl 0 rfl) ?_
  refine f_callVi (na := 0) (As := []) (rest := [.ref (ad 222)]) Bx hml E hP hD hS (by omega) h9_2 rfl (m_Rd_peekX l hn hT hf hRX (by omega)) kw_353 kw_355 sel_Rd_peek kw_6 kw_356 (by decide +kernel) ⟨rfl, rfl⟩ ⟨Nat.le_of_ble_eq_true rfl, Nat.le_of_ble_eq_true rfl⟩ rfl hl.1 (Nat.le_of_ble_eq_true rfl) d_Rd_beginRow_2 ⟨Nat.le_of_ble_eq_true rfl, Nat.le_of_ble_eq_true rfl⟩ (fun r13 mem14 H locs hq hP hS => ?_)
  have hD : va_D (Az sz) (fw n ad mem14) := fw_D hD
  obtain ⟨hqe, hpk12⟩ := hq
  rw [hqe] at hP hD
  subst hpk12
  refine f_callSi (na := 1) (As := [.int (hereF Z T (a))]) (rest := [.ref (ad 222)]) Bx hml E.2.1 (m_Rd_beginsRepetitionX l (hereF Z T (a))) kw_413 kw_414 kw_6 kw_415 (by decide +kernel) ⟨rfl, rfl⟩ ⟨Nat.le_of_ble_eq_true rfl, Nat.le_of_ble_eq_true rfl⟩ rfl hl.1 (Nat.le_of_ble_eq_true rfl) d_Rd_beginRow_5 ⟨Nat.le_of_ble_eq_true rfl, Nat.le_of_ble_eq_true rfl⟩ (fun r17 hs16 => ?_)
  subst hs16
  refine lv_aload_n Bx.1 Bx.2.1 d_Rd_beginRow_8 rfl (lv_at hl 0 rfl) ?_
  refine f_get Bx hP (by omega) h9_2 rfl inRd 2 (by decide) kw_146 rfl rfl d_Rd_beginRow_9 ?_
  refine f_xVv (na := 2) (As := [.int ((if bgF (hereF Z T (a)) then 1 else 0)), .int (nI a)]) (rest := []) Bx hml E hP hD hS (by omega) h9_2 rfl (m_Rd_needReadableX l hlt hn hT hf hRX (by omega)) kw_360 kw_362 sel_Rd_needReadable kw_6 kw_363 (by decide +kernel) ⟨rfl, rfl⟩ ⟨Nat.le_of_ble_eq_true rfl, Nat.le_of_ble_eq_true rfl⟩ rfl hl.1 (Nat.le_of_ble_eq_true rfl) d_Rd_beginRow_12 ⟨Nat.le_of_ble_eq_true rfl, Nat.le_of_ble_eq_true rfl⟩ (fun X ce q9 memx H locs hx9 hP hS g1 g2 g3 => f_out hlocks hno hP hS g1 g2 g3 ⟨Nat.le_of_ble_eq_true rfl, Nat.le_of_ble_eq_true rfl⟩ ⟨hx9.1, Or.inl (bg_0 hx9.2)⟩) (fun mem19 H locs hq hP hS => ?_)
  have hD : va_D (Az sz) (fw n ad mem19) := fw_D hD
  obtain ⟨hqe, hg20⟩ := hq
  rw [hqe] at hP hD
  refine lv_aload_n Bx.1 Bx.2.1 d_Rd_beginRow_15 rfl (lv_at hl 0 rfl) ?_
  refine lv_iload_n Bx.1 Bx.2.1 d_Rd_beginRow_16 rfl (lv_at hl 1 rfl) ?_
  refine lv_aload_n Bx.1 Bx.2.1 d_Rd_beginRow_17 rfl (lv_at hl 0 rfl) ?_
  refine f_get Bx hP (by omega) h9_2 rfl inRd 2 (by decide) kw_146 rfl rfl d_Rd_beginRow_18 ?_
  refine f_xVr (na := 2) (As := [.int (kd), .int (nI a)]) (rest := []) Bx hml E hP hD hS (by omega) h9_2 rfl (m_Rd_addElementX l hlt hn hT hf hRX (by omega)) kw_419 kw_421 sel_Rd_addElement kw_6 kw_422 (by decide +kernel) ⟨rfl, rfl⟩ ⟨Nat.le_of_ble_eq_true rfl, Nat.le_of_ble_eq_true rfl⟩ rfl hl.1 (Nat.le_of_ble_eq_true rfl) d_Rd_beginRow_21 ⟨Nat.le_of_ble_eq_true rfl, Nat.le_of_ble_eq_true rfl⟩ (fun X ce q9 memx H locs hx9 hP hS g1 g2 g3 => f_out hlocks hno hP hS g1 g2 g3 ⟨Nat.le_of_ble_eq_true rfl, Nat.le_of_ble_eq_true rfl⟩ ⟨hx9.1, Or.inr hx9.2⟩) (fun r21 mem22 H locs hq hP hS => ?_)
  have hD : va_D (Az sz) (fw n ad mem22) := fw_D hD
  obtain ⟨hr925, hec24, hRX23⟩ := hq
  subst hr925
  obtain ⟨ft26, h9_27⟩ := hRX23.2.1
  have h1_28 : mem22 1 = .inr (0, [.ref (ad 2), .int (nI Z)]) := (hRX23.1.2.2 1 (by omega)).trans hT.1
  have h2_29 : mem22 2 = .inl (cy 0, 240, .inl f) := (hRX23.1.2.2 2 (by omega)).trans hT.2.2
  have h5_30 := hRX23.1.1.2.1
  have hbd36 := hRX23.1.1.1
  obtain ⟨S31, g32, hS_33, h220_34, h221_35⟩ := hRX23.1.1.2.2.2.2.2.2
  obtain ⟨k37, lo38, hi39, as40, pa41, ne42, he_43, ho_44⟩ := (hRX23.1.1.2.2.2.2.2.1 Ec (by omega)).1
  exact x_aret hx hb hlocks hr (⟨bg_1 hg20, hec24, rfl, hRX23⟩) hP hS d_Rd_beginRow_24
set_option maxHeartbeats 4000000 in
set_option maxRecDepth 100000 in
theorem m_Rd_readBracket_6X (l : Launch) {D : va_G} {cy : Nat → ClassId} {sz n : Nat} {ad : Nat → Nat} {mem : Nat → va_E} {Z a R Ec lim : Nat} {f T : Nat → Int32} {to : Nat → Int32} {nm : Nat → Int64} {m0 : Nat → va_E} {u : Nat} {A : Ro} {what oe en : Int32} (hlt : l.stackTraces = false) (hn : 224 ≤ n) (hT : TX cy ad Z f m0) (hf : ∀ k, k < Z → f k = T k) (hRX : RX cy ad lim a R Ec to nm m0 mem) (haB : a ≤ 300) (haZ : a < Z) (hwe : (what = 1 ∧ en = 41) ∨ (what = 2 ∧ en = 93)) : NXr l D cy sz n ad y_Rd_readBracket c_Rd_readBracket 4 (some (.object "AbnfChart$Element")) ({ frames := 14, cells := 1, slots := 6, locals := 320 } : Room) mem [.ref (ad 222), .int (6), .int (en)] (fun r mem' => False) (fun X mem' => ((X = cIA ∨ X = cIS) ∧ ∃ rc' ec' : Nat, RS cy ad lim rc' ec' m0 mem') ∧ (True)) := by
  refine vx_ofW (cc := c_Rd_readBracket) (maxL := 4) (ret := (some (.object "AbnfChart$Element"))) (by decide) rfl ?_
  intro p e s m args below meth c s₁ B hml hno hv
  obtain ⟨rfl, E, hP, hD⟩ := hv
  have hx := B.exec
  have hb := B.bytes
  have hr := B.returns
  have hlocks := B.notSynchronized
  have Bx : MB p s m [.ref (ad 222), .int (6), .int (en)].toArray c c_Rd_readBracket "AbnfChart$Reader" D cy := ⟨hx, hb, tb_all (atoms_spec B.pre) E.2.1, findClass_of_methodNamed B.named, E.1⟩
  have hS : va_S (Az sz) s.heap s.heap [] := va_S.rf
  have hl := lv_entry ([.ref (ad 222), .int (6), .int (en)]) (n := 4) (Nat.le_of_ble_eq_true rfl)
  rw [lg_entry_eq]
  generalize (lg_sl ([.ref (ad 222), .int (6), .int (en)]) ++ List.replicate (4 - (lg_sl ([.ref (ad 222), .int (6), .int (en)])).length) Slot.unset).toArray = ls at hl ⊢
  have hl : lv_has ls 4 [(0, .ref (ad 222)), (1, .int (6)), (2, .int (en))] := hl
  have hZ9 := hT.2.1
  have hbd9 := hRX.1.1.1
  obtain ⟨ft1, h9_2⟩ := hRX.2.1
  have h1_3 : mem 1 = .inr (0, [.ref (ad 2), .int (nI Z)]) := (hRX.1.2.2 1 (by omega)).trans hT.1
  have h2_4 : mem 2 = .inl (cy 0, 240, .inl f) := (hRX.1.2.2 2 (by omega)).trans hT.2.2
  have h5_5 := hRX.1.1.2.1
  have hbd11 := hRX.1.1.1
  obtain ⟨S6, g7, hS_8, h220_9, h221_10⟩ := hRX.1.1.2.2.2.2.2.2
  refine lv_aload_n Bx.1 Bx.2.1 d_Rd_readBracket_0 rfl (lv_at hl 0 rfl) ?_
  refine lv_iload_n Bx.1 Bx.2.1 d_Rd_readBracket_1 rfl (lv_at hl 1 rfl) ?_
  refine lv_bipush (v := 6) Bx.1 Bx.2.1 d_Rd_readBracket_2 (by decide) ?_
  refine lv_icmp_ge Bx.1 Bx.2.1 d_Rd_readBracket_4 rfl (fun hb12 => ?_) (fun hb12 => ?_)
  · refine lv_iconst (v := 0) Bx.1 Bx.2.1 d_Rd_readBracket_11 (by decide) ?_
    refine lv_aload_n Bx.1 Bx.2.1 d_Rd_readBracket_12 rfl (lv_at hl 0 rfl) ?_
    refine f_get Bx hP (by omega) h9_2 rfl inRd 2 (by decide) kw_146 rfl rfl d_Rd_readBracket_13 ?_
    refine f_xVv (na := 2) (As := [.int (0), .int (nI a)]) (rest := []) Bx hml E hP hD hS (by omega) h9_2 rfl (m_Rd_needRoomX l hlt hn hT hf hRX (by omega)) kw_383 kw_385 sel_Rd_needRoom kw_6 kw_386 (by decide +kernel) ⟨rfl, rfl⟩ ⟨Nat.le_of_ble_eq_true rfl, Nat.le_of_ble_eq_true rfl⟩ rfl hl.1 (Nat.le_of_ble_eq_true rfl) d_Rd_readBracket_16 ⟨Nat.le_of_ble_eq_true rfl, Nat.le_of_ble_eq_true rfl⟩ (fun X ce q9 memx H locs hx9 hP hS g1 g2 g3 => f_out hlocks hno hP hS g1 g2 g3 ⟨Nat.le_of_ble_eq_true rfl, Nat.le_of_ble_eq_true rfl⟩ ⟨hx9.1, trivial⟩) (fun mem14 H locs hq hP hS => ?_)
    have hD : va_D (Az sz) (fw n ad mem14) := fw_D hD
    obtain ⟨hqe, hg15⟩ := hq
    rw [hqe] at hP hD
    exact absurd rfl hg15
  · exact absurd hb12 (by decide)
set_option maxHeartbeats 4000000 in
set_option maxRecDepth 100000 in
theorem m_Rd_readOption_6X (l : Launch) {D : va_G} {cy : Nat → ClassId} {sz n : Nat} {ad : Nat → Nat} {mem : Nat → va_E} {Z a R Ec lim : Nat} {f T : Nat → Int32} {to : Nat → Int32} {nm : Nat → Int64} {m0 : Nat → va_E} {u : Nat} {A : Ro} (hlt : l.stackTraces = false) (hn : 224 ≤ n) (hT : TX cy ad Z f m0) (hf : ∀ k, k < Z → f k = T k) (hRX : RX cy ad lim a R Ec to nm m0 mem) (haB : a ≤ 300) (haZ : a < Z) : NXr l D cy sz n ad y_Rd_readOption c_Rd_readOption 3 (some (.object "AbnfChart$Element")) ({ frames := 15, cells := 1, slots := 6, locals := 343 } : Room) mem [.ref (ad 222), .int (6)] (fun r mem' => False) (fun X mem' => ((X = cIA ∨ X = cIS) ∧ ∃ rc' ec' : Nat, RS cy ad lim rc' ec' m0 mem') ∧ (True)) := by
  refine vx_ofW (cc := c_Rd_readOption) (maxL := 3) (ret := (some (.object "AbnfChart$Element"))) (by decide) rfl ?_
  intro p e s m args below meth c s₁ B hml hno hv
  obtain ⟨rfl, E, hP, hD⟩ := hv
  have hx := B.exec
  have hb := B.bytes
  have hr := B.returns
  have hlocks := B.notSynchronized
  have Bx : MB p s m [.ref (ad 222), .int (6)].toArray c c_Rd_readOption "AbnfChart$Reader" D cy := ⟨hx, hb, tb_all (atoms_spec B.pre) E.2.1, findClass_of_methodNamed B.named, E.1⟩
  have hS : va_S (Az sz) s.heap s.heap [] := va_S.rf
  have hl := lv_entry ([.ref (ad 222), .int (6)]) (n := 3) (Nat.le_of_ble_eq_true rfl)
  rw [lg_entry_eq]
  generalize (lg_sl ([.ref (ad 222), .int (6)]) ++ List.replicate (3 - (lg_sl ([.ref (ad 222), .int (6)])).length) Slot.unset).toArray = ls at hl ⊢
  have hl : lv_has ls 3 [(0, .ref (ad 222)), (1, .int (6))] := hl
  have hZ9 := hT.2.1
  have hbd9 := hRX.1.1.1
  obtain ⟨ft1, h9_2⟩ := hRX.2.1
  have h1_3 : mem 1 = .inr (0, [.ref (ad 2), .int (nI Z)]) := (hRX.1.2.2 1 (by omega)).trans hT.1
  have h2_4 : mem 2 = .inl (cy 0, 240, .inl f) := (hRX.1.2.2 2 (by omega)).trans hT.2.2
  have h5_5 := hRX.1.1.2.1
  have hbd11 := hRX.1.1.1
  obtain ⟨S6, g7, hS_8, h220_9, h221_10⟩ := hRX.1.1.2.2.2.2.2.2
  refine lv_aload_n Bx.1 Bx.2.1 d_Rd_readOption_0 rfl (lv_at hl 0 rfl) ?_
  refine lv_iconst (v := 3) Bx.1 Bx.2.1 d_Rd_readOption_1 (by decide) ?_
  refine lv_aload_n Bx.1 Bx.2.1 d_Rd_readOption_2 rfl (lv_at hl 0 rfl) ?_
  refine f_get Bx hP (by omega) h9_2 rfl inRd 2 (by decide) kw_146 rfl rfl d_Rd_readOption_3 ?_
  refine f_xVr (na := 2) (As := [.int (3), .int (nI a)]) (rest := []) Bx hml E hP hD hS (by omega) h9_2 rfl (m_Rd_addElementX l hlt hn hT hf hRX (by omega)) kw_419 kw_421 sel_Rd_addElement kw_6 kw_422 (by decide +kernel) ⟨rfl, rfl⟩ ⟨Nat.le_of_ble_eq_true rfl, Nat.le_of_ble_eq_true rfl⟩ rfl hl.1 (Nat.le_of_ble_eq_true rfl) d_Rd_readOption_6 ⟨Nat.le_of_ble_eq_true rfl, Nat.le_of_ble_eq_true rfl⟩ (fun X ce q9 memx H locs hx9 hP hS g1 g2 g3 => f_out hlocks hno hP hS g1 g2 g3 ⟨Nat.le_of_ble_eq_true rfl, Nat.le_of_ble_eq_true rfl⟩ ⟨hx9.1, trivial⟩) (fun r12 mem13 H locs hq hP hS => ?_)
  have hD : va_D (Az sz) (fw n ad mem13) := fw_D hD
  obtain ⟨hr916, hec15, hRX14⟩ := hq
  subst hr916
  obtain ⟨ft17, h9_18⟩ := hRX14.2.1
  have h1_19 : mem13 1 = .inr (0, [.ref (ad 2), .int (nI Z)]) := (hRX14.1.2.2 1 (by omega)).trans hT.1
  have h2_20 : mem13 2 = .inl (cy 0, 240, .inl f) := (hRX14.1.2.2 2 (by omega)).trans hT.2.2
  have h5_21 := hRX14.1.1.2.1
  have hbd27 := hRX14.1.1.1
  obtain ⟨S22, g23, hS_24, h220_25, h221_26⟩ := hRX14.1.1.2.2.2.2.2.2
  obtain ⟨k28, lo29, hi30, as31, pa32, ne33, he_34, ho_35⟩ := (hRX14.1.1.2.2.2.2.2.1 Ec (by omega)).1
  refine lv_astore_n (lv' := [(2, .ref (ad (20 + 2 * Ec))), (0, .ref (ad 222)), (1, .int (6))]) Bx.1 Bx.2.1 d_Rd_readOption_9 rfl hl (by decide) rfl (fun ls hl => ?_)
  refine lv_aload_n Bx.1 Bx.2.1 d_Rd_readOption_10 rfl (lv_at hl 0 rfl) ?_
  refine lv_aload_n Bx.1 Bx.2.1 d_Rd_readOption_11 rfl (lv_at hl 1 rfl) ?_
  refine lv_iload_n Bx.1 Bx.2.1 d_Rd_readOption_12 rfl (lv_at hl 2 rfl) ?_
  refine lv_bipush (v := 93) Bx.1 Bx.2.1 d_Rd_readOption_13 (by decide) ?_
  refine f_xVr (na := 2) (As := [.int (6), .int (93)]) (rest := [.ref (ad (20 + 2 * Ec))]) Bx hml E hP hD hS (by omega) h9_18 rfl (m_Rd_readBracket_6X l hlt hn hT hf hRX14 (by omega) (u := u) (A := A) (what := 2) (oe := 0) (by omega) (Or.inr ⟨rfl, rfl⟩)) kw_447 kw_449 sel_Rd_readBracket kw_6 kw_450 (by decide +kernel) ⟨rfl, rfl⟩ ⟨Nat.le_of_ble_eq_true rfl, Nat.le_of_ble_eq_true rfl⟩ rfl hl.1 (Nat.le_of_ble_eq_true rfl) d_Rd_readOption_15 ⟨Nat.le_of_ble_eq_true rfl, Nat.le_of_ble_eq_true rfl⟩ (fun X ce q9 memx H locs hx9 hP hS g1 g2 g3 => f_out hlocks hno hP hS g1 g2 g3 ⟨Nat.le_of_ble_eq_true rfl, Nat.le_of_ble_eq_true rfl⟩ ⟨hx9.1, trivial⟩) (fun r36 mem37 H locs hq hP hS => ?_)
  have hD : va_D (Az sz) (fw n ad mem37) := fw_D hD
  exact hq.elim
set_option maxHeartbeats 4000000 in
set_option maxRecDepth 100000 in
theorem m_Rd_readElement_6X (l : Launch) {D : va_G} {cy : Nat → ClassId} {sz n : Nat} {ad : Nat → Nat} {mem : Nat → va_E} {Z a R Ec lim : Nat} {f T : Nat → Int32} {to : Nat → Int32} {nm : Nat → Int64} {m0 : Nat → va_E} {u : Nat} {A : Ro} (hlt : l.stackTraces = false) (hn : 224 ≤ n) (hT : TX cy ad Z f m0) (hf : ∀ k, k < Z → f k = T k) (hRX : RX cy ad lim a R Ec to nm m0 mem) (haB : a ≤ 300) (haZ : a ≤ Z) : NXr l D cy sz n ad y_Rd_readElement c_Rd_readElement 2 (some (.object "AbnfChart$Element")) ({ frames := 16, cells := 1, slots := 6, locals := 366 } : Room) mem [.ref (ad 222), .int (6)] (fun r mem' => ∃ (k' a' R' E' : Nat) (A' : Ro) (nm' : Nat → Int64) (to' : Nat → Int32), r = ad (20 + 2 * k') ∧ Ec ≤ k' ∧ k' < E' ∧ R ≤ R' ∧ a < a' ∧ a' ≤ Z ∧ TOK R R' to to' ∧ RX cy ad lim a' R' E' to' nm' m0 mem' ∧ Suc T Z (singS T Z a u R Ec 6 A nm) 6 R (A 235) (A 227) a' R' E' A' nm' ∧ OKc (hereF Z T a)) (fun X mem' => ((X = cIA ∨ X = cIS) ∧ ∃ rc' ec' : Nat, RS cy ad lim rc' ec' m0 mem') ∧ (Fai T Z (singS T Z a u R Ec 6 A nm) ∨ ¬ OKc (hereF Z T a))) := by
  refine vx_ofW (cc := c_Rd_readElement) (maxL := 2) (ret := (some (.object "AbnfChart$Element"))) (by decide) rfl ?_
  intro p e s m args below meth c s₁ B hml hno hv
  obtain ⟨rfl, E, hP, hD⟩ := hv
  have hx := B.exec
  have hb := B.bytes
  have hr := B.returns
  have hlocks := B.notSynchronized
  have Bx : MB p s m [.ref (ad 222), .int (6)].toArray c c_Rd_readElement "AbnfChart$Reader" D cy := ⟨hx, hb, tb_all (atoms_spec B.pre) E.2.1, findClass_of_methodNamed B.named, E.1⟩
  have hS : va_S (Az sz) s.heap s.heap [] := va_S.rf
  have hl := lv_entry ([.ref (ad 222), .int (6)]) (n := 2) (Nat.le_of_ble_eq_true rfl)
  rw [lg_entry_eq]
  generalize (lg_sl ([.ref (ad 222), .int (6)]) ++ List.replicate (2 - (lg_sl ([.ref (ad 222), .int (6)])).length) Slot.unset).toArray = ls at hl ⊢
  have hl : lv_has ls 2 [(0, .ref (ad 222)), (1, .int (6))] := hl
  have hZ9 := hT.2.1
  have hbd9 := hRX.1.1.1
  obtain ⟨ft1, h9_2⟩ := hRX.2.1
  have h1_3 : mem 1 = .inr (0, [.ref (ad 2), .int (nI Z)]) := (hRX.1.2.2 1 (by omega)).trans hT.1
  have h2_4 : mem 2 = .inl (cy 0, 240, .inl f) := (hRX.1.2.2 2 (by omega)).trans hT.2.2
  have h5_5 := hRX.1.1.2.1
  have hbd11 := hRX.1.1.1
  obtain ⟨S6, g7, hS_8, h220_9, h221_10⟩ := hRX.1.1.2.2.2.2.2.2
  refine lv_aload_n Bx.1 Bx.2.1 d_Rd_readElement_0 rfl (lv_at hl 0 rfl) ?_
  refine f_callVi (na := 0) (As := []) (rest := []) Bx hml E hP hD hS (by omega) h9_2 rfl (m_Rd_peekX l hn hT hf hRX (by omega)) kw_353 kw_355 sel_Rd_peek kw_6 kw_356 (by decide +kernel) ⟨rfl, rfl⟩ ⟨Nat.le_of_ble_eq_true rfl, Nat.le_of_ble_eq_true rfl⟩ rfl hl.1 (Nat.le_of_ble_eq_true rfl) d_Rd_readElement_1 ⟨Nat.le_of_ble_eq_true rfl, Nat.le_of_ble_eq_true rfl⟩ (fun r13 mem14 H locs hq hP hS => ?_)
  have hD : va_D (Az sz) (fw n ad mem14) := fw_D hD
  obtain ⟨hqe, hpk12⟩ := hq
  rw [hqe] at hP hD
  subst hpk12
  refine lv_topi (fun v16 e_v16 => ?_)
  by_cases c34 : v16 = 34
  · rw [c34]
    refine lv_lookup (off := 58) (tgt := 62) Bx.1 Bx.2.1 d_Rd_readElement_4 (by decide) (by decide) rfl ?_
    rw [e_v16] at c34
    have hlt34 := hereF_lt (show hereF Z T (a) ≠ -1 by rw [c34]; decide)
    refine lv_aload_n Bx.1 Bx.2.1 d_Rd_readElement_62 rfl (lv_at hl 0 rfl) ?_
    refine lv_aload_n Bx.1 Bx.2.1 d_Rd_readElement_63 rfl (lv_at hl 0 rfl) ?_
    refine f_get Bx hP (by omega) h9_2 rfl inRd 2 (by decide) kw_146 rfl rfl d_Rd_readElement_64 ?_
    refine lv_iconst (v := 5) Bx.1 Bx.2.1 d_Rd_readElement_67 (by decide) ?_
    refine f_xVr (na := 2) (As := [.int (nI a), .int (5)]) (rest := []) Bx hml E hP hD hS (by omega) h9_2 rfl (m_Rd_readStringX l hlt hn hT hf hRX (by omega) (by omega)) kw_455 kw_457 sel_Rd_readString kw_6 kw_458 (by decide +kernel) ⟨rfl, rfl⟩ ⟨Nat.le_of_ble_eq_true rfl, Nat.le_of_ble_eq_true rfl⟩ rfl hl.1 (Nat.le_of_ble_eq_true rfl) d_Rd_readElement_68 ⟨Nat.le_of_ble_eq_true rfl, Nat.le_of_ble_eq_true rfl⟩ (fun X ce q9 memx H locs hx9 hP hS g1 g2 g3 => f_out hlocks hno hP hS g1 g2 g3 ⟨Nat.le_of_ble_eq_true rfl, Nat.le_of_ble_eq_true rfl⟩ ⟨hx9.1, Or.inl (fai_str c34 hx9.2 hbd9.2.1)⟩) (fun r17 mem18 H locs hq hP hS => ?_)
    have hD : va_D (Az sz) (fw n ad mem18) := fw_D hD
    obtain ⟨hE9, hq9, hr2, hle9, hRX2⟩ := hq
    subst hr2
    obtain ⟨A2, hsc2⟩ := suc_str (u := u) (R := R) (f := 6) (A := A) (nm := nm) c34 hE9 hq9
    exact x_aret hx hb hlocks hr (⟨Ec, _, R, Ec + 1, A2, nm, to, rfl, by omega, by omega, by omega, by omega, hle9, TOK.of rfl, hRX2, hsc2, (l34 c34).2.2.2⟩) hP hS d_Rd_readElement_71
  by_cases c37 : v16 = 37
  · rw [c37]
    refine lv_lookup (off := 68) (tgt := 72) Bx.1 Bx.2.1 d_Rd_readElement_4 (by decide) (by decide) rfl ?_
    rw [e_v16] at c37
    have hlt37 := hereF_lt (show hereF Z T (a) ≠ -1 by rw [c37]; decide)
    refine lv_aload_n Bx.1 Bx.2.1 d_Rd_readElement_72 rfl (lv_at hl 0 rfl) ?_
    refine f_get Bx hP (by omega) h9_2 rfl inRd 0 (by decide) kw_144 rfl rfl d_Rd_readElement_73 ?_
    refine lv_aload_n Bx.1 Bx.2.1 d_Rd_readElement_76 rfl (lv_at hl 0 rfl) ?_
    refine f_get Bx hP (by omega) h9_2 rfl inRd 2 (by decide) kw_146 rfl rfl d_Rd_readElement_77 ?_
    refine lv_iconst (v := 1) Bx.1 Bx.2.1 d_Rd_readElement_80 (by decide) ?_
    refine lv_iadd Bx.1 Bx.2.1 d_Rd_readElement_81 ?_
    rw [show nI a + 1 = nI (a + 1) from nI_add (a) (1)]
    refine f_callVi (na := 1) (As := [.int (nI (a + 1))]) (rest := []) Bx hml E hP hD hS (by omega) h1_3 rfl (m_Ch_codeAt l (by omega) h1_3 (by omega) h2_4 (by rw [nI_toInt (by omega)]; omega)) kw_341 kw_342 kw_343 kw_2 kw_344 (by decide +kernel) ⟨rfl, rfl⟩ ⟨Nat.le_of_ble_eq_true rfl, Nat.le_of_ble_eq_true rfl⟩ rfl hl.1 (Nat.le_of_ble_eq_true rfl) d_Rd_readElement_82 ⟨Nat.le_of_ble_eq_true rfl, Nat.le_of_ble_eq_true rfl⟩ (fun r19 mem20 H locs hq hP hS => ?_)
    have hD : va_D (Az sz) (fw n ad mem20) := fw_D hD
    obtain ⟨hco21, hqe⟩ := hq
    rw [hqe] at hP hD
    rw [code_here hf hT.2.1 (k := a + 1) (by omega)] at hco21
    subst hco21
    refine f_callSNi (na := 1) (As := [.int (hereF Z T (a + 1))]) (rest := []) Bx hml E.2.1 (m_Ab_smallOfX l (hereF Z T (a + 1))) kw_372 kw_373 kw_1 kw_374 (by decide +kernel) ⟨rfl, rfl⟩ ⟨Nat.le_of_ble_eq_true rfl, Nat.le_of_ble_eq_true rfl⟩ rfl hl.1 (Nat.le_of_ble_eq_true rfl) d_Rd_readElement_85 ⟨Nat.le_of_ble_eq_true rfl, Nat.le_of_ble_eq_true rfl⟩ (fun r23 hs22 => ?_)
    subst hs22
    refine lv_bipush (v := 115) Bx.1 Bx.2.1 d_Rd_readElement_88 (by decide) ?_
    refine lv_icmp_ne Bx.1 Bx.2.1 d_Rd_readElement_90 rfl (fun hb24 => ?_) (fun hb24 => ?_)
    · refine lv_aload_n Bx.1 Bx.2.1 d_Rd_readElement_100 rfl (lv_at hl 0 rfl) ?_
      refine f_xVr (na := 0) (As := []) (rest := []) Bx hml E hP hD hS (by omega) h9_2 rfl (m_Rd_readValueX l hlt hn hT hf hRX (by omega) (by omega)) kw_467 kw_469 sel_Rd_readValue kw_6 kw_470 (by decide +kernel) ⟨rfl, rfl⟩ ⟨Nat.le_of_ble_eq_true rfl, Nat.le_of_ble_eq_true rfl⟩ rfl hl.1 (Nat.le_of_ble_eq_true rfl) d_Rd_readElement_101 ⟨Nat.le_of_ble_eq_true rfl, Nat.le_of_ble_eq_true rfl⟩ (fun X ce q9 memx H locs hx9 hP hS g1 g2 g3 => f_out hlocks hno hP hS g1 g2 g3 ⟨Nat.le_of_ble_eq_true rfl, Nat.le_of_ble_eq_true rfl⟩ ⟨hx9.1, Or.inl (fai_val c37 hb24 hx9.2 hbd9.2.1)⟩) (fun r25 mem26 H locs hq hP hS => ?_)
      have hD : va_D (Az sz) (fw n ad mem26) := fw_D hD
      obtain ⟨hE9, ba, a2, hba, hp9, hr2, x1, x2, hRX2⟩ := hq
      subst hr2
      obtain ⟨A2, hsc2⟩ := suc_val (u := u) (R := R) (f := 6) (A := A) (nm := nm) c37 hba hE9 hp9
      exact x_aret hx hb hlocks hr (⟨Ec, a2, R, Ec + 1, A2, nm, to, rfl, by omega, by omega, by omega, x1, x2, TOK.of rfl, hRX2, hsc2, (l37 c37).2.2.2.2⟩) hP hS d_Rd_readElement_104
    · refine lv_aload_n Bx.1 Bx.2.1 d_Rd_readElement_93 rfl (lv_at hl 0 rfl) ?_
      refine f_xVr (na := 0) (As := []) (rest := []) Bx hml E hP hD hS (by omega) h9_2 rfl (m_Rd_readExactStringX l hlt hn hT hf hRX (by omega) (by omega)) kw_463 kw_465 sel_Rd_readExactString kw_6 kw_466 (by decide +kernel) ⟨rfl, rfl⟩ ⟨Nat.le_of_ble_eq_true rfl, Nat.le_of_ble_eq_true rfl⟩ rfl hl.1 (Nat.le_of_ble_eq_true rfl) d_Rd_readElement_94 ⟨Nat.le_of_ble_eq_true rfl, Nat.le_of_ble_eq_true rfl⟩ (fun X ce q9 memx H locs hx9 hP hS g1 g2 g3 => f_out hlocks hno hP hS g1 g2 g3 ⟨Nat.le_of_ble_eq_true rfl, Nat.le_of_ble_eq_true rfl⟩ ⟨hx9.1, Or.inl (fai_xst c37 hb24 hx9.2 hbd9.2.1)⟩) (fun r27 mem28 H locs hq hP hS => ?_)
      have hD : va_D (Az sz) (fw n ad mem28) := fw_D hD
      obtain ⟨hq8, hE9, hq9, hr2, hle9, hRX2⟩ := hq
      subst hr2
      obtain ⟨A2, hsc2⟩ := suc_xst (u := u) (R := R) (f := 6) (A := A) (nm := nm) c37 hb24 hq8 hE9 hq9
      refine lv_goto Bx.1 Bx.2.1 d_Rd_readElement_97 rfl ?_
      exact x_aret hx hb hlocks hr (⟨Ec, _, R, Ec + 1, A2, nm, to, rfl, by omega, by omega, by omega, by omega, hle9, TOK.of rfl, hRX2, hsc2, (l37 c37).2.2.2.2⟩) hP hS d_Rd_readElement_104
  by_cases c40 : v16 = 40
  · rw [c40]
    refine lv_lookup (off := 44) (tgt := 48) Bx.1 Bx.2.1 d_Rd_readElement_4 (by decide) (by decide) rfl ?_
    rw [e_v16] at c40
    have hlt40 := hereF_lt (show hereF Z T (a) ≠ -1 by rw [c40]; decide)
    refine lv_aload_n Bx.1 Bx.2.1 d_Rd_readElement_48 rfl (lv_at hl 0 rfl) ?_
    refine lv_iload_n Bx.1 Bx.2.1 d_Rd_readElement_49 rfl (lv_at hl 1 rfl) ?_
    refine lv_bipush (v := 41) Bx.1 Bx.2.1 d_Rd_readElement_50 (by decide) ?_
    refine f_xVr (na := 2) (As := [.int (6), .int (41)]) (rest := []) Bx hml E hP hD hS (by omega) h9_2 rfl (m_Rd_readBracket_6X l hlt hn hT hf hRX (by omega) (u := u) (A := A) (what := 1) (oe := -1) (by omega) (Or.inl ⟨rfl, rfl⟩)) kw_447 kw_449 sel_Rd_readBracket kw_6 kw_450 (by decide +kernel) ⟨rfl, rfl⟩ ⟨Nat.le_of_ble_eq_true rfl, Nat.le_of_ble_eq_true rfl⟩ rfl hl.1 (Nat.le_of_ble_eq_true rfl) d_Rd_readElement_52 ⟨Nat.le_of_ble_eq_true rfl, Nat.le_of_ble_eq_true rfl⟩ (fun X ce q9 memx H locs hx9 hP hS g1 g2 g3 => f_out hlocks hno hP hS g1 g2 g3 ⟨Nat.le_of_ble_eq_true rfl, Nat.le_of_ble_eq_true rfl⟩ ⟨hx9.1, Or.inl (Or.inl (sing_b0 (l40 c40).1 c40 (by omega)))⟩) (fun r29 mem30 H locs hq hP hS => ?_)
    have hD : va_D (Az sz) (fw n ad mem30) := fw_D hD
    exact hq.elim
  by_cases c91 : v16 = 91
  · rw [c91]
    refine lv_lookup (off := 52) (tgt := 56) Bx.1 Bx.2.1 d_Rd_readElement_4 (by decide) (by decide) rfl ?_
    rw [e_v16] at c91
    have hlt91 := hereF_lt (show hereF Z T (a) ≠ -1 by rw [c91]; decide)
    refine lv_aload_n Bx.1 Bx.2.1 d_Rd_readElement_56 rfl (lv_at hl 0 rfl) ?_
    refine lv_iload_n Bx.1 Bx.2.1 d_Rd_readElement_57 rfl (lv_at hl 1 rfl) ?_
    refine f_xVr (na := 1) (As := [.int (6)]) (rest := []) Bx hml E hP hD hS (by omega) h9_2 rfl (m_Rd_readOption_6X l hlt hn hT hf hRX (by omega) (u := u) (A := A) (by omega)) kw_451 kw_453 sel_Rd_readOption kw_6 kw_454 (by decide +kernel) ⟨rfl, rfl⟩ ⟨Nat.le_of_ble_eq_true rfl, Nat.le_of_ble_eq_true rfl⟩ rfl hl.1 (Nat.le_of_ble_eq_true rfl) d_Rd_readElement_58 ⟨Nat.le_of_ble_eq_true rfl, Nat.le_of_ble_eq_true rfl⟩ (fun X ce q9 memx H locs hx9 hP hS g1 g2 g3 => f_out hlocks hno hP hS g1 g2 g3 ⟨Nat.le_of_ble_eq_true rfl, Nat.le_of_ble_eq_true rfl⟩ ⟨hx9.1, Or.inl (Or.inl (sing_o0 (l91 c91).1 c91 (by omega)))⟩) (fun r31 mem32 H locs hq hP hS => ?_)
    have hD : va_D (Az sz) (fw n ad mem32) := fw_D hD
    exact hq.elim
  refine lv_lookup (off := 101) (tgt := 105) Bx.1 Bx.2.1 d_Rd_readElement_4 (by decide) (by show Op.lookupswitch.offset [(34, 58), (37, 68), (40, 44), (91, 52)] 101 (v16).toInt = 101; rw [lv_osw c34 (by decide), lv_osw c37 (by decide), lv_osw c40 (by decide), lv_osw c91 (by decide)]; rfl) rfl ?_
  rw [e_v16] at c40 c91 c34 c37
  refine lv_aload_n Bx.1 Bx.2.1 d_Rd_readElement_105 rfl (lv_at hl 0 rfl) ?_
  refine f_xVr (na := 0) (As := []) (rest := []) Bx hml E hP hD hS (by omega) h9_2 rfl (m_Rd_readAskedNameX l hlt hn hT hf hRX (by omega) (A := A) (by omega)) kw_478 kw_480 sel_Rd_readAskedName kw_6 kw_481 (by decide +kernel) ⟨rfl, rfl⟩ ⟨Nat.le_of_ble_eq_true rfl, Nat.le_of_ble_eq_true rfl⟩ rfl hl.1 (Nat.le_of_ble_eq_true rfl) d_Rd_readElement_106 ⟨Nat.le_of_ble_eq_true rfl, Nat.le_of_ble_eq_true rfl⟩ (fun X ce q9 memx H locs hx9 hP hS g1 g2 g3 => f_out hlocks hno hP hS g1 g2 g3 ⟨Nat.le_of_ble_eq_true rfl, Nat.le_of_ble_eq_true rfl⟩ ⟨hx9.1, fai_nam c40 c91 c34 c37 hx9.2⟩) (fun r33 mem34 H locs hq hP hS => ?_)
  have hD : va_D (Az sz) (fw n ad mem34) := fw_D hD
  obtain ⟨i9, a2, R2, A3, n2, hsn, hle, hE9, hr2, x1, x2, x3, hA3, htk, t2, htk2, hRX2⟩ := hq
  subst hr2
  obtain ⟨A2, hsc2⟩ := suc_nam (u := u) (f := 6) hle hsn hE9 hA3 htk
  exact x_aret hx hb hlocks hr (⟨Ec, a2, R2, Ec + 1, A2, n2, t2, rfl, by omega, by omega, x1, x2, x3, htk2, hRX2, hsc2, lt_ok hle⟩) hP hS d_Rd_readElement_109
set_option maxHeartbeats 4000000 in
set_option maxRecDepth 100000 in
theorem m_Rd_readRepetition_6X (l : Launch) {D : va_G} {cy : Nat → ClassId} {sz n : Nat} {ad : Nat → Nat} {mem : Nat → va_E} {Z a R Ec lim : Nat} {f T : Nat → Int32} {to : Nat → Int32} {nm : Nat → Int64} {m0 : Nat → va_E} {u : Nat} {A : Ro} (hlt : l.stackTraces = false) (hn : 224 ≤ n) (hT : TX cy ad Z f m0) (hf : ∀ k, k < Z → f k = T k) (hRX : RX cy ad lim a R Ec to nm m0 mem) (haB : a ≤ 300) (haZ : a ≤ Z) (hbg : bgF (hereF Z T a) = true) : NXr l D cy sz n ad y_Rd_readRepetition c_Rd_readRepetition 3 (some (.object "AbnfChart$Element")) ({ frames := 17, cells := 1, slots := 6, locals := 388 } : Room) mem [.ref (ad 222), .int (6)] (fun r mem' => ∃ (k' a' R' E' : Nat) (A' : Ro) (nm' : Nat → Int64) (to' : Nat → Int32), r = ad (20 + 2 * k') ∧ Ec ≤ k' ∧ k' < E' ∧ R ≤ R' ∧ a < a' ∧ a' ≤ Z ∧ TOK R R' to to' ∧ RX cy ad lim a' R' E' to' nm' m0 mem' ∧ Suc T Z (repS T Z a u R Ec 6 A nm) 6 R (A 235) (A 227) a' R' E' A' nm') (fun X mem' => ((X = cIA ∨ X = cIS) ∧ ∃ rc' ec' : Nat, RS cy ad lim rc' ec' m0 mem') ∧ (Fai T Z (repS T Z a u R Ec 6 A nm))) := by
  refine vx_ofW (cc := c_Rd_readRepetition) (maxL := 3) (ret := (some (.object "AbnfChart$Element"))) (by decide) rfl ?_
  intro p e s m args below meth c s₁ B hml hno hv
  obtain ⟨rfl, E, hP, hD⟩ := hv
  have hx := B.exec
  have hb := B.bytes
  have hr := B.returns
  have hlocks := B.notSynchronized
  have Bx : MB p s m [.ref (ad 222), .int (6)].toArray c c_Rd_readRepetition "AbnfChart$Reader" D cy := ⟨hx, hb, tb_all (atoms_spec B.pre) E.2.1, findClass_of_methodNamed B.named, E.1⟩
  have hS : va_S (Az sz) s.heap s.heap [] := va_S.rf
  have hl := lv_entry ([.ref (ad 222), .int (6)]) (n := 3) (Nat.le_of_ble_eq_true rfl)
  rw [lg_entry_eq]
  generalize (lg_sl ([.ref (ad 222), .int (6)]) ++ List.replicate (3 - (lg_sl ([.ref (ad 222), .int (6)])).length) Slot.unset).toArray = ls at hl ⊢
  have hl : lv_has ls 3 [(0, .ref (ad 222)), (1, .int (6))] := hl
  have hZ9 := hT.2.1
  have hbd9 := hRX.1.1.1
  obtain ⟨ft1, h9_2⟩ := hRX.2.1
  have h1_3 : mem 1 = .inr (0, [.ref (ad 2), .int (nI Z)]) := (hRX.1.2.2 1 (by omega)).trans hT.1
  have h2_4 : mem 2 = .inl (cy 0, 240, .inl f) := (hRX.1.2.2 2 (by omega)).trans hT.2.2
  have h5_5 := hRX.1.1.2.1
  have hbd11 := hRX.1.1.1
  obtain ⟨S6, g7, hS_8, h220_9, h221_10⟩ := hRX.1.1.2.2.2.2.2.2
  refine lv_aload_n Bx.1 Bx.2.1 d_Rd_readRepetition_0 rfl (lv_at hl 0 rfl) ?_
  refine f_callVi (na := 0) (As := []) (rest := []) Bx hml E hP hD hS (by omega) h9_2 rfl (m_Rd_peekX l hn hT hf hRX (by omega)) kw_353 kw_355 sel_Rd_peek kw_6 kw_356 (by decide +kernel) ⟨rfl, rfl⟩ ⟨Nat.le_of_ble_eq_true rfl, Nat.le_of_ble_eq_true rfl⟩ rfl hl.1 (Nat.le_of_ble_eq_true rfl) d_Rd_readRepetition_1 ⟨Nat.le_of_ble_eq_true rfl, Nat.le_of_ble_eq_true rfl⟩ (fun r13 mem14 H locs hq hP hS => ?_)
  have hD : va_D (Az sz) (fw n ad mem14) := fw_D hD
  obtain ⟨hqe, hpk12⟩ := hq
  rw [hqe] at hP hD
  subst hpk12
  refine f_callSi (na := 1) (As := [.int (hereF Z T (a))]) (rest := []) Bx hml E.2.1 (m_Rd_beginsRepeatX l (hereF Z T (a))) kw_416 kw_417 kw_6 kw_418 (by decide +kernel) ⟨rfl, rfl⟩ ⟨Nat.le_of_ble_eq_true rfl, Nat.le_of_ble_eq_true rfl⟩ rfl hl.1 (Nat.le_of_ble_eq_true rfl) d_Rd_readRepetition_4 ⟨Nat.le_of_ble_eq_true rfl, Nat.le_of_ble_eq_true rfl⟩ (fun r17 hs16 => ?_)
  subst hs16
  refine lv_if_ne Bx.1 Bx.2.1 d_Rd_readRepetition_7 rfl (fun hb18 => ?_) (fun hb18 => ?_)
  · refine lv_aload_n Bx.1 Bx.2.1 d_Rd_readRepetition_16 rfl (lv_at hl 0 rfl) ?_
    refine lv_iconst (v := 2) Bx.1 Bx.2.1 d_Rd_readRepetition_17 (by decide) ?_
    refine lv_aload_n Bx.1 Bx.2.1 d_Rd_readRepetition_18 rfl (lv_at hl 0 rfl) ?_
    refine f_get Bx hP (by omega) h9_2 rfl inRd 2 (by decide) kw_146 rfl rfl d_Rd_readRepetition_19 ?_
    refine f_xVr (na := 2) (As := [.int (2), .int (nI a)]) (rest := []) Bx hml E hP hD hS (by omega) h9_2 rfl (m_Rd_addElementX l hlt hn hT hf hRX (by omega)) kw_419 kw_421 sel_Rd_addElement kw_6 kw_422 (by decide +kernel) ⟨rfl, rfl⟩ ⟨Nat.le_of_ble_eq_true rfl, Nat.le_of_ble_eq_true rfl⟩ rfl hl.1 (Nat.le_of_ble_eq_true rfl) d_Rd_readRepetition_22 ⟨Nat.le_of_ble_eq_true rfl, Nat.le_of_ble_eq_true rfl⟩ (fun X ce q9 memx H locs hx9 hP hS g1 g2 g3 => f_out hlocks hno hP hS g1 g2 g3 ⟨Nat.le_of_ble_eq_true rfl, Nat.le_of_ble_eq_true rfl⟩ ⟨hx9.1, Or.inl (rep_E (bpF_1 hb18) hx9.2)⟩) (fun r19 mem20 H locs hq hP hS => ?_)
    have hD : va_D (Az sz) (fw n ad mem20) := fw_D hD
    obtain ⟨hr923, hec22, hRX21⟩ := hq
    subst hr923
    obtain ⟨ft24, h9_25⟩ := hRX21.2.1
    have h1_26 : mem20 1 = .inr (0, [.ref (ad 2), .int (nI Z)]) := (hRX21.1.2.2 1 (by omega)).trans hT.1
    have h2_27 : mem20 2 = .inl (cy 0, 240, .inl f) := (hRX21.1.2.2 2 (by omega)).trans hT.2.2
    have h5_28 := hRX21.1.1.2.1
    have hbd34 := hRX21.1.1.1
    obtain ⟨S29, g30, hS_31, h220_32, h221_33⟩ := hRX21.1.1.2.2.2.2.2.2
    obtain ⟨k35, lo36, hi37, as38, pa39, ne40, he_41, ho_42⟩ := (hRX21.1.1.2.2.2.2.2.1 Ec (by omega)).1
    refine lv_astore_n (lv' := [(2, .ref (ad (20 + 2 * Ec))), (0, .ref (ad 222)), (1, .int (6))]) Bx.1 Bx.2.1 d_Rd_readRepetition_25 rfl hl (by decide) rfl (fun ls hl => ?_)
    refine lv_aload_n Bx.1 Bx.2.1 d_Rd_readRepetition_26 rfl (lv_at hl 1 rfl) ?_
    refine lv_aload_n Bx.1 Bx.2.1 d_Rd_readRepetition_27 rfl (lv_at hl 0 rfl) ?_
    have hdg := bpF_1 hb18
    have hE9 := hec22
    refine f_xVv (na := 1) (As := [.ref (ad (20 + 2 * Ec))]) (rest := []) Bx hml E hP hD hS (by omega) h9_25 rfl (m_Rd_readRepeatX l hlt hn hT hf hRX21 (by omega) (by omega) (by omega) hdg) kw_482 kw_484 sel_Rd_readRepeat kw_6 kw_485 (by decide +kernel) ⟨rfl, rfl⟩ ⟨Nat.le_of_ble_eq_true rfl, Nat.le_of_ble_eq_true rfl⟩ rfl hl.1 (Nat.le_of_ble_eq_true rfl) d_Rd_readRepetition_28 ⟨Nat.le_of_ble_eq_true rfl, Nat.le_of_ble_eq_true rfl⟩ (fun X ce q9 memx H locs hx9 hP hS g1 g2 g3 => f_out hlocks hno hP hS g1 g2 g3 ⟨Nat.le_of_ble_eq_true rfl, Nat.le_of_ble_eq_true rfl⟩ ⟨hx9.1, hx9.2.elim (fun v1 z => z.elim (fun b1 z => z.elim (fun v2 z => z.elim (fun b2 z => Or.inl (rep_bad hdg hE9 z.1 z.2.1 (Or.inl z.2.2))))))⟩) (fun mem44 H locs hq hP hS => ?_)
    have hD : va_D (Az sz) (fw n ad mem44) := fw_D hD
    obtain ⟨v1, b1, v2, b2, hr1, hr2, hnv, hb8, hb9, hRXr⟩ := hq
    obtain ⟨ft45, h9_46⟩ := hRXr.2.1
    have h1_47 : mem44 1 = .inr (0, [.ref (ad 2), .int (nI Z)]) := (hRXr.1.2.2 1 (by omega)).trans hT.1
    have h2_48 : mem44 2 = .inl (cy 0, 240, .inl f) := (hRXr.1.2.2 2 (by omega)).trans hT.2.2
    have h5_49 := hRXr.1.1.2.1
    have hbd55 := hRXr.1.1.1
    obtain ⟨S50, g51, hS_52, h220_53, h221_54⟩ := hRXr.1.1.2.2.2.2.2.2
    obtain ⟨k56, lo57, hi58, as59, pa60, ne61, he_62, ho_63⟩ := (hRXr.1.1.2.2.2.2.2.1 Ec (by omega)).1
    refine lv_aload_n Bx.1 Bx.2.1 d_Rd_readRepetition_31 rfl (lv_at hl 0 rfl) ?_
    refine lv_aload_n Bx.1 Bx.2.1 d_Rd_readRepetition_32 rfl (lv_at hl 1 rfl) ?_
    refine lv_iload_n Bx.1 Bx.2.1 d_Rd_readRepetition_33 rfl (lv_at hl 2 rfl) ?_
    refine f_xVr (na := 1) (As := [.int (6)]) (rest := [.ref (ad (20 + 2 * Ec))]) Bx hml E hP hD hS (by omega) h9_46 rfl (m_Rd_readElement_6X l hlt hn hT hf hRXr (by omega) (u := u) (A := repB A 6 Ec v1 v2) (by omega)) kw_443 kw_445 sel_Rd_readElement kw_6 kw_446 (by decide +kernel) ⟨rfl, rfl⟩ ⟨Nat.le_of_ble_eq_true rfl, Nat.le_of_ble_eq_true rfl⟩ rfl hl.1 (Nat.le_of_ble_eq_true rfl) d_Rd_readRepetition_34 ⟨Nat.le_of_ble_eq_true rfl, Nat.le_of_ble_eq_true rfl⟩ (fun X ce q9 memx H locs hx9 hP hS g1 g2 g3 => f_out hlocks hno hP hS g1 g2 g3 ⟨Nat.le_of_ble_eq_true rfl, Nat.le_of_ble_eq_true rfl⟩ ⟨hx9.1, rep_fai hdg hE9 hr1 hr2 hnv hx9.2⟩) (fun r64 mem65 H locs hq hP hS => ?_)
    have hD : va_D (Az sz) (fw n ad mem65) := fw_D hD
    obtain ⟨kx66, a67, R68, E69, A70, nn71, to72, hr973, hb74, hb75, hb76, hb77, hb78, htk79, hRX80, hsc81, hok82⟩ := hq
    subst hr973
    obtain ⟨ft83, h9_84⟩ := hRX80.2.1
    have h1_85 : mem65 1 = .inr (0, [.ref (ad 2), .int (nI Z)]) := (hRX80.1.2.2 1 (by omega)).trans hT.1
    have h2_86 : mem65 2 = .inl (cy 0, 240, .inl f) := (hRX80.1.2.2 2 (by omega)).trans hT.2.2
    have h5_87 := hRX80.1.1.2.1
    have hbd93 := hRX80.1.1.1
    obtain ⟨S88, g89, hS_90, h220_91, h221_92⟩ := hRX80.1.1.2.2.2.2.2.2
    obtain ⟨k94, lo95, hi96, as97, pa98, ne99, he_100, ho_101⟩ := (hRX80.1.1.2.2.2.2.2.1 Ec (by omega)).1
    obtain ⟨k102, lo103, hi104, as105, pa106, ne107, he_108, ho_109⟩ := (hRX80.1.1.2.2.2.2.2.1 kx66 (by omega)).1
    have hbd110 := hRX80.1.1.1
    refine f_putN Bx hP hD hS (by omega) he_100 rfl inEl tyEl okEl nmEl 4 (by decide) kw_87 rfl rfl rfl rfl (Nat.le_of_ble_eq_true rfl) d_Rd_readRepetition_37 (fun H locs hP hS => ?_)
    obtain ⟨mem111, e_mem111⟩ : ∃ z, z = va_up mem65 ((20 + 2 * Ec)) (.inr (2, [.int (k94), .int (lo95), .int (hi96), as97, .ref (ad (20 + 2 * kx66)), ne99, .ref (ad (21 + 2 * Ec))])) := ⟨_, rfl⟩
    have hP : va_P D vcl (fw n ad mem111) H := by rw [e_mem111]; exact hP
    have hD : va_D (Az sz) (fw n ad mem111) := fw_D hD
    have h_mem111 : mem111 ((20 + 2 * Ec)) = .inr (2, [.int (k94), .int (lo95), .int (hi96), as97, .ref (ad (20 + 2 * kx66)), ne99, .ref (ad (21 + 2 * Ec))]) := by rw [e_mem111, va_up_self]
    have hh112 := (va_up_ne mem65 (.inr (2, [.int (k94), .int (lo95), .int (hi96), as97, .ref (ad (20 + 2 * kx66)), ne99, .ref (ad (21 + 2 * Ec))])) (show (222 : Nat) ≠ (20 + 2 * Ec) by first | decide | assumption | omega)).trans h9_84
    rw [← e_mem111] at hh112
    have hh113 := (va_up_ne mem65 (.inr (2, [.int (k94), .int (lo95), .int (hi96), as97, .ref (ad (20 + 2 * kx66)), ne99, .ref (ad (21 + 2 * Ec))])) (show (1 : Nat) ≠ (20 + 2 * Ec) by first | decide | assumption | omega)).trans h1_85
    rw [← e_mem111] at hh113
    have hh114 := (va_up_ne mem65 (.inr (2, [.int (k94), .int (lo95), .int (hi96), as97, .ref (ad (20 + 2 * kx66)), ne99, .ref (ad (21 + 2 * Ec))])) (show (5 : Nat) ≠ (20 + 2 * Ec) by first | decide | assumption | omega)).trans h5_87
    rw [← e_mem111] at hh114
    have hh115 := (va_up_ne mem65 (.inr (2, [.int (k94), .int (lo95), .int (hi96), as97, .ref (ad (20 + 2 * kx66)), ne99, .ref (ad (21 + 2 * Ec))])) (show (220 : Nat) ≠ (20 + 2 * Ec) by first | decide | assumption | omega)).trans h220_91
    rw [← e_mem111] at hh115
    have hh116 := (va_up_ne mem65 (.inr (2, [.int (k94), .int (lo95), .int (hi96), as97, .ref (ad (20 + 2 * kx66)), ne99, .ref (ad (21 + 2 * Ec))])) (show ((20 + 2 * kx66) : Nat) ≠ (20 + 2 * Ec) by first | decide | assumption | omega)).trans he_108
    rw [← e_mem111] at hh116
    have hRX117 : RX cy ad lim (a67) (R68) (E69) (to72) (nn71) m0 mem111 := by rw [e_mem111]; exact hRX80.el (by omega) (hRX80.1.mk (by omega) (hRX80.1.1.upEl (by omega) (fun q9 => ⟨(ho_101 q9).1, Or.inr ⟨kx66, by omega, by omega, rfl⟩, (ho_101 q9).2.2⟩)))
    refine lv_aload_n Bx.1 Bx.2.1 d_Rd_readRepetition_40 rfl (lv_at hl 0 rfl) ?_
    exact x_aret hx hb hlocks hr (⟨Ec, a67, R68, E69, _, nn71, to72, rfl, by omega, by omega, by omega, by omega, by omega, htk79, hRX117, hsc81.eq (rep_suc hdg hE9 hr1 hr2 hnv hok82) (repB_ne (by decide) (by decide)) (repB_ne (by decide) (by decide))⟩) hP hS d_Rd_readRepetition_41
  · refine lv_aload_n Bx.1 Bx.2.1 d_Rd_readRepetition_10 rfl (lv_at hl 0 rfl) ?_
    refine lv_iload_n Bx.1 Bx.2.1 d_Rd_readRepetition_11 rfl (lv_at hl 1 rfl) ?_
    obtain ⟨hd0, h42⟩ := bpF_0 hb18
    refine f_xVr (na := 1) (As := [.int (6)]) (rest := []) Bx hml E hP hD hS (by omega) h9_2 rfl (m_Rd_readElement_6X l hlt hn hT hf hRX (by omega) (u := u) (A := A) (by omega)) kw_443 kw_445 sel_Rd_readElement kw_6 kw_446 (by decide +kernel) ⟨rfl, rfl⟩ ⟨Nat.le_of_ble_eq_true rfl, Nat.le_of_ble_eq_true rfl⟩ rfl hl.1 (Nat.le_of_ble_eq_true rfl) d_Rd_readRepetition_12 ⟨Nat.le_of_ble_eq_true rfl, Nat.le_of_ble_eq_true rfl⟩ (fun X ce q9 memx H locs hx9 hP hS g1 g2 g3 => f_out hlocks hno hP hS g1 g2 g3 ⟨Nat.le_of_ble_eq_true rfl, Nat.le_of_ble_eq_true rfl⟩ ⟨hx9.1, (hx9.2.resolve_right (fun z => z ⟨hbg, hd0, h42⟩)).eq (rep_no hd0 h42)⟩) (fun r118 mem119 H locs hq hP hS => ?_)
    have hD : va_D (Az sz) (fw n ad mem119) := fw_D hD
    obtain ⟨kx120, a121, R122, E123, A124, nn125, to126, hr9127, hb128, hb129, hb130, hb131, hb132, htk133, hRX134, hsc135, hok136⟩ := hq
    subst hr9127
    obtain ⟨ft137, h9_138⟩ := hRX134.2.1
    have h1_139 : mem119 1 = .inr (0, [.ref (ad 2), .int (nI Z)]) := (hRX134.1.2.2 1 (by omega)).trans hT.1
    have h2_140 : mem119 2 = .inl (cy 0, 240, .inl f) := (hRX134.1.2.2 2 (by omega)).trans hT.2.2
    have h5_141 := hRX134.1.1.2.1
    have hbd147 := hRX134.1.1.1
    obtain ⟨S142, g143, hS_144, h220_145, h221_146⟩ := hRX134.1.1.2.2.2.2.2.2
    obtain ⟨k148, lo149, hi150, as151, pa152, ne153, he_154, ho_155⟩ := (hRX134.1.1.2.2.2.2.2.1 kx120 (by omega)).1
    have hbd156 := hRX134.1.1.1
    exact x_aret hx hb hlocks hr (⟨kx120, a121, R122, E123, _, nn125, to126, rfl, by omega, by omega, by omega, by omega, by omega, htk133, hRX134, hsc135.eq (rep_no hd0 h42) rfl rfl⟩) hP hS d_Rd_readRepetition_15
set_option maxHeartbeats 4000000 in
set_option maxRecDepth 100000 in
theorem m_Rd_readSequence_6X (l : Launch) {D : va_G} {cy : Nat → ClassId} {sz n : Nat} {ad : Nat → Nat} {mem : Nat → va_E} {Z a R Ec lim : Nat} {f T : Nat → Int32} {to : Nat → Int32} {nm : Nat → Int64} {m0 : Nat → va_E} {u : Nat} {A : Ro} (hlt : l.stackTraces = false) (hn : 224 ≤ n) (hT : TX cy ad Z f m0) (hf : ∀ k, k < Z → f k = T k) (hRX : RX cy ad lim a R Ec to nm m0 mem) (haB : a ≤ 300) (haZ : a ≤ Z) : NXr l D cy sz n ad y_Rd_readSequence c_Rd_readSequence 5 (some (.object "AbnfChart$Element")) ({ frames := 18, cells := 1, slots := 6, locals := 412 } : Room) mem [.ref (ad 222), .int (6)] (fun r mem' => ∃ (k' a' R' E' : Nat) (A' : Ro) (nm' : Nat → Int64) (to' : Nat → Int32), r = ad (20 + 2 * k') ∧ Ec ≤ k' ∧ k' < E' ∧ R ≤ R' ∧ a < a' ∧ a' ≤ Z ∧ TOK R R' to to' ∧ RX cy ad lim (gapF T Z a') R' E' to' nm' m0 mem' ∧ Suc T Z (seqS T Z a u R Ec 6 A nm) 6 R (A 235) (A 227) a' R' E' A' nm' ∧ ¬ (bgF (hereF Z T (gapF T Z a')) = true ∧ a' < gapF T Z a')) (fun X mem' => ((X = cIA ∨ X = cIS) ∧ ∃ rc' ec' : Nat, RS cy ad lim rc' ec' m0 mem') ∧ (Fai T Z (seqS T Z a u R Ec 6 A nm))) := by
  refine vx_ofW (cc := c_Rd_readSequence) (maxL := 5) (ret := (some (.object "AbnfChart$Element"))) (by decide) rfl ?_
  intro p e s m args below meth c s₁ B hml hno hv
  obtain ⟨rfl, E, hP, hD⟩ := hv
  have hx := B.exec
  have hb := B.bytes
  have hr := B.returns
  have hlocks := B.notSynchronized
  have Bx : MB p s m [.ref (ad 222), .int (6)].toArray c c_Rd_readSequence "AbnfChart$Reader" D cy := ⟨hx, hb, tb_all (atoms_spec B.pre) E.2.1, findClass_of_methodNamed B.named, E.1⟩
  have hS : va_S (Az sz) s.heap s.heap [] := va_S.rf
  have hl := lv_entry ([.ref (ad 222), .int (6)]) (n := 5) (Nat.le_of_ble_eq_true rfl)
  rw [lg_entry_eq]
  generalize (lg_sl ([.ref (ad 222), .int (6)]) ++ List.replicate (5 - (lg_sl ([.ref (ad 222), .int (6)])).length) Slot.unset).toArray = ls at hl ⊢
  have hl : lv_has ls 5 [(0, .ref (ad 222)), (1, .int (6))] := hl
  have hZ9 := hT.2.1
  have hbd9 := hRX.1.1.1
  obtain ⟨ft1, h9_2⟩ := hRX.2.1
  have h1_3 : mem 1 = .inr (0, [.ref (ad 2), .int (nI Z)]) := (hRX.1.2.2 1 (by omega)).trans hT.1
  have h2_4 : mem 2 = .inl (cy 0, 240, .inl f) := (hRX.1.2.2 2 (by omega)).trans hT.2.2
  have h5_5 := hRX.1.1.2.1
  have hbd11 := hRX.1.1.1
  obtain ⟨S6, g7, hS_8, h220_9, h221_10⟩ := hRX.1.1.2.2.2.2.2.2
  refine lv_aload_n Bx.1 Bx.2.1 d_Rd_readSequence_0 rfl (lv_at hl 0 rfl) ?_
  refine lv_iconst (v := 1) Bx.1 Bx.2.1 d_Rd_readSequence_1 (by decide) ?_
  refine f_xVr (na := 1) (As := [.int (1)]) (rest := []) Bx hml E hP hD hS (by omega) h9_2 rfl (m_Rd_beginRowX l hlt hn hT hf hRX (by omega)) kw_409 kw_411 sel_Rd_beginRow kw_6 kw_412 (by decide +kernel) ⟨rfl, rfl⟩ ⟨Nat.le_of_ble_eq_true rfl, Nat.le_of_ble_eq_true rfl⟩ rfl hl.1 (Nat.le_of_ble_eq_true rfl) d_Rd_readSequence_2 ⟨Nat.le_of_ble_eq_true rfl, Nat.le_of_ble_eq_true rfl⟩ (fun X ce q9 memx H locs hx9 hP hS g1 g2 g3 => f_out hlocks hno hP hS g1 g2 g3 ⟨Nat.le_of_ble_eq_true rfl, Nat.le_of_ble_eq_true rfl⟩ ⟨hx9.1, Or.inl (seq_no hx9.2)⟩) (fun r12 mem13 H locs hq hP hS => ?_)
  have hD : va_D (Az sz) (fw n ad mem13) := fw_D hD
  obtain ⟨hbg, hE9, hr9, hRXb⟩ := hq
  subst hr9
  obtain ⟨ft14, h9_15⟩ := hRXb.2.1
  have h1_16 : mem13 1 = .inr (0, [.ref (ad 2), .int (nI Z)]) := (hRXb.1.2.2 1 (by omega)).trans hT.1
  have h2_17 : mem13 2 = .inl (cy 0, 240, .inl f) := (hRXb.1.2.2 2 (by omega)).trans hT.2.2
  have h5_18 := hRXb.1.1.2.1
  have hbd24 := hRXb.1.1.1
  obtain ⟨S19, g20, hS_21, h220_22, h221_23⟩ := hRXb.1.1.2.2.2.2.2.2
  obtain ⟨k25, lo26, hi27, as28, pa29, ne30, he_31, ho_32⟩ := (hRXb.1.1.2.2.2.2.2.1 Ec (by omega)).1
  refine lv_astore_n (lv' := [(2, .ref (ad (20 + 2 * Ec))), (0, .ref (ad 222)), (1, .int (6))]) Bx.1 Bx.2.1 d_Rd_readSequence_5 rfl hl (by decide) rfl (fun ls hl => ?_)
  refine lv_aload_n Bx.1 Bx.2.1 d_Rd_readSequence_6 rfl (lv_at hl 1 rfl) ?_
  refine lv_iload_n Bx.1 Bx.2.1 d_Rd_readSequence_7 rfl (lv_at hl 2 rfl) ?_
  refine f_xVr (na := 1) (As := [.int (6)]) (rest := []) Bx hml E hP hD hS (by omega) h9_15 rfl (m_Rd_readRepetition_6X l hlt hn hT hf hRXb (by omega) (u := u) (A := seqA A 6 Ec) (by omega) hbg) kw_439 kw_441 sel_Rd_readRepetition kw_6 kw_442 (by decide +kernel) ⟨rfl, rfl⟩ ⟨Nat.le_of_ble_eq_true rfl, Nat.le_of_ble_eq_true rfl⟩ rfl hl.1 (Nat.le_of_ble_eq_true rfl) d_Rd_readSequence_8 ⟨Nat.le_of_ble_eq_true rfl, Nat.le_of_ble_eq_true rfl⟩ (fun X ce q9 memx H locs hx9 hP hS g1 g2 g3 => f_out hlocks hno hP hS g1 g2 g3 ⟨Nat.le_of_ble_eq_true rfl, Nat.le_of_ble_eq_true rfl⟩ ⟨hx9.1, hx9.2.eq (seq_ok hbg hE9)⟩) (fun r33 mem34 H locs hq hP hS => ?_)
  have hD : va_D (Az sz) (fw n ad mem34) := fw_D hD
  obtain ⟨kx35, a36, R37, E38, A39, nn40, to41, hr942, hb43, hb44, hb45, hb46, hb47, htk48, hRX49, hsc50⟩ := hq
  subst hr942
  obtain ⟨ft51, h9_52⟩ := hRX49.2.1
  have h1_53 : mem34 1 = .inr (0, [.ref (ad 2), .int (nI Z)]) := (hRX49.1.2.2 1 (by omega)).trans hT.1
  have h2_54 : mem34 2 = .inl (cy 0, 240, .inl f) := (hRX49.1.2.2 2 (by omega)).trans hT.2.2
  have h5_55 := hRX49.1.1.2.1
  have hbd61 := hRX49.1.1.1
  obtain ⟨S56, g57, hS_58, h220_59, h221_60⟩ := hRX49.1.1.2.2.2.2.2.2
  obtain ⟨k62, lo63, hi64, as65, pa66, ne67, he_68, ho_69⟩ := (hRX49.1.1.2.2.2.2.2.1 Ec (by omega)).1
  obtain ⟨k70, lo71, hi72, as73, pa74, ne75, he_76, ho_77⟩ := (hRX49.1.1.2.2.2.2.2.1 kx35 (by omega)).1
  have hbd78 := hRX49.1.1.1
  refine lv_astore_n (lv' := [(3, .ref (ad (20 + 2 * kx35))), (2, .ref (ad (20 + 2 * Ec))), (0, .ref (ad 222)), (1, .int (6))]) Bx.1 Bx.2.1 d_Rd_readSequence_11 rfl hl (by decide) rfl (fun ls hl => ?_)
  refine lv_aload_n Bx.1 Bx.2.1 d_Rd_readSequence_12 rfl (lv_at hl 1 rfl) ?_
  refine lv_aload_n Bx.1 Bx.2.1 d_Rd_readSequence_13 rfl (lv_at hl 0 rfl) ?_
  refine f_putN Bx hP hD hS (by omega) he_68 rfl inEl tyEl okEl nmEl 4 (by decide) kw_87 rfl rfl rfl rfl (Nat.le_of_ble_eq_true rfl) d_Rd_readSequence_14 (fun H locs hP hS => ?_)
  obtain ⟨mem79, e_mem79⟩ : ∃ z, z = va_up mem34 ((20 + 2 * Ec)) (.inr (2, [.int (k62), .int (lo63), .int (hi64), as65, .ref (ad (20 + 2 * kx35)), ne67, .ref (ad (21 + 2 * Ec))])) := ⟨_, rfl⟩
  have hP : va_P D vcl (fw n ad mem79) H := by rw [e_mem79]; exact hP
  have hD : va_D (Az sz) (fw n ad mem79) := fw_D hD
  have h_mem79 : mem79 ((20 + 2 * Ec)) = .inr (2, [.int (k62), .int (lo63), .int (hi64), as65, .ref (ad (20 + 2 * kx35)), ne67, .ref (ad (21 + 2 * Ec))]) := by rw [e_mem79, va_up_self]
  have hh80 := (va_up_ne mem34 (.inr (2, [.int (k62), .int (lo63), .int (hi64), as65, .ref (ad (20 + 2 * kx35)), ne67, .ref (ad (21 + 2 * Ec))])) (show (222 : Nat) ≠ (20 + 2 * Ec) by first | decide | assumption | omega)).trans h9_52
  rw [← e_mem79] at hh80
  have hh81 := (va_up_ne mem34 (.inr (2, [.int (k62), .int (lo63), .int (hi64), as65, .ref (ad (20 + 2 * kx35)), ne67, .ref (ad (21 + 2 * Ec))])) (show (1 : Nat) ≠ (20 + 2 * Ec) by first | decide | assumption | omega)).trans h1_53
  rw [← e_mem79] at hh81
  have hh82 := (va_up_ne mem34 (.inr (2, [.int (k62), .int (lo63), .int (hi64), as65, .ref (ad (20 + 2 * kx35)), ne67, .ref (ad (21 + 2 * Ec))])) (show (5 : Nat) ≠ (20 + 2 * Ec) by first | decide | assumption | omega)).trans h5_55
  rw [← e_mem79] at hh82
  have hh83 := (va_up_ne mem34 (.inr (2, [.int (k62), .int (lo63), .int (hi64), as65, .ref (ad (20 + 2 * kx35)), ne67, .ref (ad (21 + 2 * Ec))])) (show (220 : Nat) ≠ (20 + 2 * Ec) by first | decide | assumption | omega)).trans h220_59
  rw [← e_mem79] at hh83
  have hh84 := (va_up_ne mem34 (.inr (2, [.int (k62), .int (lo63), .int (hi64), as65, .ref (ad (20 + 2 * kx35)), ne67, .ref (ad (21 + 2 * Ec))])) (show ((20 + 2 * kx35) : Nat) ≠ (20 + 2 * Ec) by first | decide | assumption | omega)).trans he_76
  rw [← e_mem79] at hh84
  have hRX85 : RX cy ad lim (a36) (R37) (E38) (to41) (nn40) m0 mem79 := by rw [e_mem79]; exact hRX49.el (by omega) (hRX49.1.mk (by omega) (hRX49.1.1.upEl (by omega) (fun q9 => ⟨(ho_69 q9).1, Or.inr ⟨kx35, by omega, by omega, rfl⟩, (ho_69 q9).2.2⟩)))
  refine lv_iconst (v := 0) Bx.1 Bx.2.1 d_Rd_readSequence_17 (by decide) ?_
  refine lv_istore (lv' := [(4, .int (0)), (3, .ref (ad (20 + 2 * kx35))), (2, .ref (ad (20 + 2 * Ec))), (0, .ref (ad 222)), (1, .int (6))]) Bx.1 Bx.2.1 d_Rd_readSequence_18 hl (by decide) rfl (fun ls hl => ?_)
  have hsuc0 := hsc50.eq (seq_ok hbg hE9) (seqA_ne (by decide) (by decide)) (seqA_ne (by decide) (by decide))
  have loop86 : ∀ (d87 : Nat) (mem9 : Nat → va_E) (a1 : Nat) (R1 : Nat) (E1 : Nat) (A1 : Ro) (n1 : Nat → Int64) (to1 : Nat → Int32) (la : Nat) (k9 : Nat) (ls : Array Slot) (H : Heap) (locs : List Loc), (240 - k9 < d87) → (RX cy ad lim a1 R1 E1 to1 n1 m0 mem9) → (a < a1 ∧ a1 ≤ Z ∧ R ≤ R1 ∧ Ec < la ∧ la < E1 ∧ k9 < a1 ∧ k9 ≤ 240 ∧ Ec < E1) → (Suc T Z (seqS T Z a u R Ec 6 A nm) 6 R (A 235) (A 227) a1 R1 E1 A1 n1) → (TOK R R1 to to1) → (va_P D vcl (fw n ad mem9) H) → (va_D (Az sz) (fw n ad mem9)) → (va_S (Az sz) s.heap H locs) → (lv_has ls 5 [(4, .int (nI k9)), (3, .ref (ad (20 + 2 * la))), (2, .ref (ad (20 + 2 * Ec))), (0, .ref (ad 222)), (1, .int (6))]) → W p l e (headSpec (Cond.code y_Rd_readSequence c_Rd_readSequence 5 (some (.object "AbnfChart$Element")) :: tg) ({ frames := 18, cells := 1, slots := 6, locals := 412 } : Room)).room s m [.ref (ad 222), .int (6)].toArray below meth c H locs 0 0 (vx_MQ below (QX (QR (fun r mem' => ∃ (k' a' R' E' : Nat) (A' : Ro) (nm' : Nat → Int64) (to' : Nat → Int32), r = ad (20 + 2 * k') ∧ Ec ≤ k' ∧ k' < E' ∧ R ≤ R' ∧ a < a' ∧ a' ≤ Z ∧ TOK R R' to to' ∧ RX cy ad lim (gapF T Z a') R' E' to' nm' m0 mem' ∧ Suc T Z (seqS T Z a u R Ec 6 A nm) 6 R (A 235) (A 227) a' R' E' A' nm' ∧ ¬ (bgF (hereF Z T (gapF T Z a')) = true ∧ a' < gapF T Z a')) (PP D n ad) (Az sz))) (XQ D sz n ad (fun X mem' => ((X = cIA ∨ X = cIS) ∧ ∃ rc' ec' : Nat, RS cy ad lim rc' ec' m0 mem') ∧ (Fai T Z (seqS T Z a u R Ec 6 A nm)))) [.ref (ad 222), .int (6)].toArray s 1 6 (Az sz)) (F0 m 20 ls []) := by
    intro d87
    induction d87 with
    | zero => intro mem9 a1 R1 E1 A1 n1 to1 la k9 ls H locs hmeas93; exact absurd hmeas93 (Nat.not_lt_zero _)
    | succ d87 ih92 =>
      intro mem9 a1 R1 E1 A1 n1 to1 la k9 ls H locs hmeas93 hz88 hz89 hz90 hz91 hP hD hS hl
      have hbd8 := hz89
      obtain ⟨ft94, h9_95⟩ := hz88.2.1
      have h1_96 : mem9 1 = .inr (0, [.ref (ad 2), .int (nI Z)]) := (hz88.1.2.2 1 (by omega)).trans hT.1
      have h2_97 : mem9 2 = .inl (cy 0, 240, .inl f) := (hz88.1.2.2 2 (by omega)).trans hT.2.2
      have h5_98 := hz88.1.1.2.1
      have hbd104 := hz88.1.1.1
      obtain ⟨S99, g100, hS_101, h220_102, h221_103⟩ := hz88.1.1.2.2.2.2.2.2
      obtain ⟨k105, lo106, hi107, as108, pa109, ne110, he_111, ho_112⟩ := (hz88.1.1.2.2.2.2.2.1 la (by omega)).1
      obtain ⟨c1, u1, ho, hg, hk9, hs9⟩ := id hz90
      refine lv_iload Bx.1 Bx.2.1 d_Rd_readSequence_20 (lv_at hl 0 rfl) ?_
      refine lv_sipush (v := 240) Bx.1 Bx.2.1 d_Rd_readSequence_22 (by decide) ?_
      refine lv_icmp_ge Bx.1 Bx.2.1 d_Rd_readSequence_25 rfl (fun hb113 => ?_) (fun hb113 => ?_)
      · have hN114 : 240 ≤ k9 := (nI_leI (by omega) (by omega)).mp (show nI (240) ≤ nI (k9) from hb113)
        exact absurd hbd8 (by omega)
      · have hN115 : ¬ 240 ≤ k9 := fun q9 => hb113 (show nI (240) ≤ nI (k9) from (nI_leI (by omega) (by omega)).mpr q9)
        refine lv_aload_n Bx.1 Bx.2.1 d_Rd_readSequence_28 rfl (lv_at hl 3 rfl) ?_
        refine f_callVi (na := 0) (As := []) (rest := []) Bx hml E hP hD hS (by omega) h9_95 rfl (m_Rd_readGapX l hn hT hf hz88 (by omega) (by omega)) kw_397 kw_399 sel_Rd_readGap kw_6 kw_400 (by decide +kernel) ⟨rfl, rfl⟩ ⟨Nat.le_of_ble_eq_true rfl, Nat.le_of_ble_eq_true rfl⟩ rfl hl.1 (Nat.le_of_ble_eq_true rfl) d_Rd_readSequence_29 ⟨Nat.le_of_ble_eq_true rfl, Nat.le_of_ble_eq_true rfl⟩ (fun r116 mem117 H locs hq hP hS => ?_)
        have hD : va_D (Az sz) (fw n ad mem117) := fw_D hD
        obtain ⟨g118, eg119⟩ : ∃ z, z = gapF T Z (a1) := ⟨_, rfl⟩
        rw [← eg119] at hq
        obtain ⟨hRX120, hgc121⟩ := hq
        have hg122 : a1 ≤ g118 := by rw [eg119]; exact gapF_ge T Z _
        have hg123 : g118 ≤ Z := by rw [eg119]; exact gapF_le T (by omega)
        obtain ⟨ft124, h9_125⟩ := hRX120.2.1
        have h1_126 : mem117 1 = .inr (0, [.ref (ad 2), .int (nI Z)]) := (hRX120.1.2.2 1 (by omega)).trans hT.1
        have h2_127 : mem117 2 = .inl (cy 0, 240, .inl f) := (hRX120.1.2.2 2 (by omega)).trans hT.2.2
        have h5_128 := hRX120.1.1.2.1
        have hbd134 := hRX120.1.1.1
        obtain ⟨S129, g130, hS_131, h220_132, h221_133⟩ := hRX120.1.1.2.2.2.2.2.2
        obtain ⟨k135, lo136, hi137, as138, pa139, ne140, he_141, ho_142⟩ := (hRX120.1.1.2.2.2.2.2.1 la (by omega)).1
        rcases hgc121 with ⟨hr143, hga144⟩ | ⟨hr143, hga144⟩
        · subst hr143
          refine lv_if_eq Bx.1 Bx.2.1 d_Rd_readSequence_32 rfl (fun hb145 => ?_) (fun hb145 => ?_)
          · exact absurd hb145 (by decide)
          · refine lv_aload_n Bx.1 Bx.2.1 d_Rd_readSequence_35 rfl (lv_at hl 3 rfl) ?_
            refine f_callVi (na := 0) (As := []) (rest := []) Bx hml E hP hD hS (by omega) h9_125 rfl (m_Rd_peekX l hn hT hf hRX120 (by omega)) kw_353 kw_355 sel_Rd_peek kw_6 kw_356 (by decide +kernel) ⟨rfl, rfl⟩ ⟨Nat.le_of_ble_eq_true rfl, Nat.le_of_ble_eq_true rfl⟩ rfl hl.1 (Nat.le_of_ble_eq_true rfl) d_Rd_readSequence_36 ⟨Nat.le_of_ble_eq_true rfl, Nat.le_of_ble_eq_true rfl⟩ (fun r147 mem148 H locs hq hP hS => ?_)
            have hD : va_D (Az sz) (fw n ad mem148) := fw_D hD
            obtain ⟨hqe, hpk146⟩ := hq
            rw [hqe] at hP hD
            subst hpk146
            refine f_callSi (na := 1) (As := [.int (hereF Z T (g118))]) (rest := []) Bx hml E.2.1 (m_Rd_beginsRepetitionX l (hereF Z T (g118))) kw_413 kw_414 kw_6 kw_415 (by decide +kernel) ⟨rfl, rfl⟩ ⟨Nat.le_of_ble_eq_true rfl, Nat.le_of_ble_eq_true rfl⟩ rfl hl.1 (Nat.le_of_ble_eq_true rfl) d_Rd_readSequence_39 ⟨Nat.le_of_ble_eq_true rfl, Nat.le_of_ble_eq_true rfl⟩ (fun r151 hs150 => ?_)
            subst hs150
            refine lv_if_eq Bx.1 Bx.2.1 d_Rd_readSequence_42 rfl (fun hb152 => ?_) (fun hb152 => ?_)
            · refine lv_aload_n Bx.1 Bx.2.1 d_Rd_readSequence_65 rfl (lv_at hl 2 rfl) ?_
              exact x_aret hx hb hlocks hr (⟨Ec, a1, R1, E1, A1, n1, to1, rfl, by omega, by omega, by omega, by omega, by omega, hz91, by rw [← eg119]; exact hRX120, hz90, fun z => by have q9 := z.1; rw [← eg119, bg_0 hb152] at q9; exact absurd q9 (by decide)⟩) hP hS d_Rd_readSequence_66
            · have hbg2 : bgF (hereF Z T (gapF T Z a1)) = true := by rw [← eg119]; exact bg_1 hb152
              have hgt2 : a1 < gapF T Z a1 := by rw [← eg119]; omega
              refine lv_aload_n Bx.1 Bx.2.1 d_Rd_readSequence_45 rfl (lv_at hl 1 rfl) ?_
              refine lv_aload_n Bx.1 Bx.2.1 d_Rd_readSequence_46 rfl (lv_at hl 3 rfl) ?_
              refine lv_iload_n Bx.1 Bx.2.1 d_Rd_readSequence_47 rfl (lv_at hl 4 rfl) ?_
              refine f_xVr (na := 1) (As := [.int (6)]) (rest := [.ref (ad (20 + 2 * la))]) Bx hml E hP hD hS (by omega) h9_125 rfl (m_Rd_readRepetition_6X l hlt hn hT hf hRX120 (by omega) (u := u1) (A := A1) (by omega) (by rw [eg119]; exact hbg2)) kw_439 kw_441 sel_Rd_readRepetition kw_6 kw_442 (by decide +kernel) ⟨rfl, rfl⟩ ⟨Nat.le_of_ble_eq_true rfl, Nat.le_of_ble_eq_true rfl⟩ rfl hl.1 (Nat.le_of_ble_eq_true rfl) d_Rd_readSequence_48 ⟨Nat.le_of_ble_eq_true rfl, Nat.le_of_ble_eq_true rfl⟩ (fun X ce q9 memx H locs hx9 hP hS g1 g2 g3 => f_out hlocks hno hP hS g1 g2 g3 ⟨Nat.le_of_ble_eq_true rfl, Nat.le_of_ble_eq_true rfl⟩ ⟨hx9.1, Fai.go ho hg (go_rept hbg2 hgt2) (by rw [← eg119]; exact hx9.2)⟩) (fun r153 mem154 H locs hq hP hS => ?_)
              have hD : va_D (Az sz) (fw n ad mem154) := fw_D hD
              obtain ⟨kx155, a156, R157, E158, A159, nn160, to161, hr9162, hb163, hb164, hb165, hb166, hb167, htk168, hRX169, hsc170⟩ := hq
              subst hr9162
              obtain ⟨ft171, h9_172⟩ := hRX169.2.1
              have h1_173 : mem154 1 = .inr (0, [.ref (ad 2), .int (nI Z)]) := (hRX169.1.2.2 1 (by omega)).trans hT.1
              have h2_174 : mem154 2 = .inl (cy 0, 240, .inl f) := (hRX169.1.2.2 2 (by omega)).trans hT.2.2
              have h5_175 := hRX169.1.1.2.1
              have hbd181 := hRX169.1.1.1
              obtain ⟨S176, g177, hS_178, h220_179, h221_180⟩ := hRX169.1.1.2.2.2.2.2.2
              obtain ⟨k182, lo183, hi184, as185, pa186, ne187, he_188, ho_189⟩ := (hRX169.1.1.2.2.2.2.2.1 la (by omega)).1
              obtain ⟨k190, lo191, hi192, as193, pa194, ne195, he_196, ho_197⟩ := (hRX169.1.1.2.2.2.2.2.1 kx155 (by omega)).1
              have hbd198 := hRX169.1.1.1
              have hsuc3 := Suc.go ho hg hk9 hs9 (by omega) (go_rept hbg2 hgt2) (by rw [← eg119]; exact hsc170)
              have htk3 := hz91.trans htk168 (by omega)
              refine f_putN Bx hP hD hS (by omega) he_188 rfl inEl tyEl okEl nmEl 5 (by decide) kw_91 rfl rfl rfl rfl (Nat.le_of_ble_eq_true rfl) d_Rd_readSequence_51 (fun H locs hP hS => ?_)
              obtain ⟨mem199, e_mem199⟩ : ∃ z, z = va_up mem154 ((20 + 2 * la)) (.inr (2, [.int (k182), .int (lo183), .int (hi184), as185, pa186, .ref (ad (20 + 2 * kx155)), .ref (ad (21 + 2 * la))])) := ⟨_, rfl⟩
              have hP : va_P D vcl (fw n ad mem199) H := by rw [e_mem199]; exact hP
              have hD : va_D (Az sz) (fw n ad mem199) := fw_D hD
              have h_mem199 : mem199 ((20 + 2 * la)) = .inr (2, [.int (k182), .int (lo183), .int (hi184), as185, pa186, .ref (ad (20 + 2 * kx155)), .ref (ad (21 + 2 * la))]) := by rw [e_mem199, va_up_self]
              have hh200 := (va_up_ne mem154 (.inr (2, [.int (k182), .int (lo183), .int (hi184), as185, pa186, .ref (ad (20 + 2 * kx155)), .ref (ad (21 + 2 * la))])) (show (222 : Nat) ≠ (20 + 2 * la) by first | decide | assumption | omega)).trans h9_172
              rw [← e_mem199] at hh200
              have hh201 := (va_up_ne mem154 (.inr (2, [.int (k182), .int (lo183), .int (hi184), as185, pa186, .ref (ad (20 + 2 * kx155)), .ref (ad (21 + 2 * la))])) (show (1 : Nat) ≠ (20 + 2 * la) by first | decide | assumption | omega)).trans h1_173
              rw [← e_mem199] at hh201
              have hh202 := (va_up_ne mem154 (.inr (2, [.int (k182), .int (lo183), .int (hi184), as185, pa186, .ref (ad (20 + 2 * kx155)), .ref (ad (21 + 2 * la))])) (show (5 : Nat) ≠ (20 + 2 * la) by first | decide | assumption | omega)).trans h5_175
              rw [← e_mem199] at hh202
              have hh203 := (va_up_ne mem154 (.inr (2, [.int (k182), .int (lo183), .int (hi184), as185, pa186, .ref (ad (20 + 2 * kx155)), .ref (ad (21 + 2 * la))])) (show (220 : Nat) ≠ (20 + 2 * la) by first | decide | assumption | omega)).trans h220_179
              rw [← e_mem199] at hh203
              have hh204 := (va_up_ne mem154 (.inr (2, [.int (k182), .int (lo183), .int (hi184), as185, pa186, .ref (ad (20 + 2 * kx155)), .ref (ad (21 + 2 * la))])) (show ((20 + 2 * kx155) : Nat) ≠ (20 + 2 * la) by first | decide | assumption | omega)).trans he_196
              rw [← e_mem199] at hh204
              have hRX205 : RX cy ad lim (a156) (R157) (E158) (to161) (nn160) m0 mem199 := by rw [e_mem199]; exact hRX169.el (by omega) (hRX169.1.mk (by omega) (hRX169.1.1.upEl (by omega) (fun q9 => ⟨(ho_189 q9).1, (ho_189 q9).2.1, Or.inr ⟨kx155, by omega, by omega, rfl⟩⟩)))
              refine lv_aload_n Bx.1 Bx.2.1 d_Rd_readSequence_54 rfl (lv_at hl 1 rfl) ?_
              refine f_getN Bx hP (by omega) h_mem199 rfl inEl 5 (by decide) kw_91 rfl rfl d_Rd_readSequence_55 ?_
              refine lv_astore_n (lv' := [(3, .ref (ad (20 + 2 * kx155))), (4, .int (nI k9)), (2, .ref (ad (20 + 2 * Ec))), (0, .ref (ad 222)), (1, .int (6))]) Bx.1 Bx.2.1 d_Rd_readSequence_58 rfl hl (by decide) rfl (fun ls hl => ?_)
              refine lv_iinc (lv' := [(4, .int ((nI k9 + (1)))), (3, .ref (ad (20 + 2 * kx155))), (2, .ref (ad (20 + 2 * Ec))), (0, .ref (ad 222)), (1, .int (6))]) Bx.1 Bx.2.1 d_Rd_readSequence_59 hl (k := 1) rfl rfl (by decide) rfl (fun ls hl => ?_)
              rw [show (nI k9 + (1) : Int32) = nI (k9 + 1) from nI_1 (k9)] at hl
              refine lv_goto Bx.1 Bx.2.1 d_Rd_readSequence_62 rfl ?_
              exact ih92 mem199 (a156) (R157) (E158) (A159) (nn160) (to161) (kx155) (k9 + 1) _ _ _ (by have := hmeas93; omega) (hRX205) (⟨by omega, by omega, by omega, by omega, by omega, by omega, by omega, by omega⟩) (hsuc3) (htk3) hP hD hS (lv_sub hl [0, 1, 2, 3, 4] rfl)
        · subst hr143
          refine lv_if_eq Bx.1 Bx.2.1 d_Rd_readSequence_32 rfl (fun hb206 => ?_) (fun hb206 => ?_)
          · refine lv_aload_n Bx.1 Bx.2.1 d_Rd_readSequence_65 rfl (lv_at hl 2 rfl) ?_
            exact x_aret hx hb hlocks hr (⟨Ec, a1, R1, E1, A1, n1, to1, rfl, by omega, by omega, by omega, by omega, by omega, hz91, by rw [← eg119]; exact hRX120, hz90, fun z => by have := z.2; rw [← eg119] at this; omega⟩) hP hS d_Rd_readSequence_66
          · exact absurd hb206 (by decide)
  exact loop86 _ mem79 (a36) (R37) (E38) (A39) (nn40) (to41) (kx35) (0) _ _ _ (Nat.lt_succ_self _) (hRX85) (⟨by omega, by omega, by omega, by omega, by omega, by omega, by omega, by omega⟩) (hsuc0) (htk48) hP hD hS (lv_sub hl [0, 1, 2, 3, 4] rfl)
set_option maxHeartbeats 4000000 in
set_option maxRecDepth 100000 in
theorem m_Rd_readAlternatives_6X (l : Launch) {D : va_G} {cy : Nat → ClassId} {sz n : Nat} {ad : Nat → Nat} {mem : Nat → va_E} {Z a R Ec lim : Nat} {f T : Nat → Int32} {to : Nat → Int32} {nm : Nat → Int64} {m0 : Nat → va_E} {u : Nat} {A : Ro} (hlt : l.stackTraces = false) (hn : 224 ≤ n) (hT : TX cy ad Z f m0) (hf : ∀ k, k < Z → f k = T k) (hRX : RX cy ad lim a R Ec to nm m0 mem) (haB : a ≤ 300) (haZ : a ≤ Z) : NXr l D cy sz n ad y_Rd_readAlternatives c_Rd_readAlternatives 5 (some (.object "AbnfChart$Element")) ({ frames := 19, cells := 1, slots := 6, locals := 438 } : Room) mem [.ref (ad 222), .int (6)] (fun r mem' => ∃ (k' a' R' E' : Nat) (A' : Ro) (nm' : Nat → Int64) (to' : Nat → Int32), r = ad (20 + 2 * k') ∧ Ec ≤ k' ∧ k' < E' ∧ R ≤ R' ∧ a < a' ∧ a' ≤ Z ∧ TOK R R' to to' ∧ RX cy ad lim (gapF T Z a') R' E' to' nm' m0 mem' ∧ Suc T Z (seqS T Z a u R (Ec + 1) 6 A nm) 6 R (A 235) (A 227) a' R' E' A' nm' ∧ bgF (hereF Z T a) = true ∧ Ec < 100 ∧ ¬ hereF Z T (gapF T Z a') = 47 ∧ ¬ (bgF (hereF Z T (gapF T Z a')) = true ∧ a' < gapF T Z a')) (fun X mem' => ((X = cIA ∨ X = cIS) ∧ ∃ rc' ec' : Nat, RS cy ad lim rc' ec' m0 mem') ∧ (bgF (hereF Z T a) = false ∨ Ec = 100 ∨ (bgF (hereF Z T a) = true ∧ Ec < 100 ∧ Fai T Z (seqS T Z a u R (Ec + 1) 6 A nm)))) := by
  refine vx_ofW (cc := c_Rd_readAlternatives) (maxL := 5) (ret := (some (.object "AbnfChart$Element"))) (by decide) rfl ?_
  intro p e s m args below meth c s₁ B hml hno hv
  obtain ⟨rfl, E, hP, hD⟩ := hv
  have hx := B.exec
  have hb := B.bytes
  have hr := B.returns
  have hlocks := B.notSynchronized
  have Bx : MB p s m [.ref (ad 222), .int (6)].toArray c c_Rd_readAlternatives "AbnfChart$Reader" D cy := ⟨hx, hb, tb_all (atoms_spec B.pre) E.2.1, findClass_of_methodNamed B.named, E.1⟩
  have hS : va_S (Az sz) s.heap s.heap [] := va_S.rf
  have hl := lv_entry ([.ref (ad 222), .int (6)]) (n := 5) (Nat.le_of_ble_eq_true rfl)
  rw [lg_entry_eq]
  generalize (lg_sl ([.ref (ad 222), .int (6)]) ++ List.replicate (5 - (lg_sl ([.ref (ad 222), .int (6)])).length) Slot.unset).toArray = ls at hl ⊢
  have hl : lv_has ls 5 [(0, .ref (ad 222)), (1, .int (6))] := hl
  have hZ9 := hT.2.1
  have hbd9 := hRX.1.1.1
  obtain ⟨ft1, h9_2⟩ := hRX.2.1
  have h1_3 : mem 1 = .inr (0, [.ref (ad 2), .int (nI Z)]) := (hRX.1.2.2 1 (by omega)).trans hT.1
  have h2_4 : mem 2 = .inl (cy 0, 240, .inl f) := (hRX.1.2.2 2 (by omega)).trans hT.2.2
  have h5_5 := hRX.1.1.2.1
  have hbd11 := hRX.1.1.1
  obtain ⟨S6, g7, hS_8, h220_9, h221_10⟩ := hRX.1.1.2.2.2.2.2.2
  refine lv_aload_n Bx.1 Bx.2.1 d_Rd_readAlternatives_0 rfl (lv_at hl 0 rfl) ?_
  refine lv_iconst (v := 0) Bx.1 Bx.2.1 d_Rd_readAlternatives_1 (by decide) ?_
  refine f_xVr (na := 1) (As := [.int (0)]) (rest := []) Bx hml E hP hD hS (by omega) h9_2 rfl (m_Rd_beginRowX l hlt hn hT hf hRX (by omega)) kw_409 kw_411 sel_Rd_beginRow kw_6 kw_412 (by decide +kernel) ⟨rfl, rfl⟩ ⟨Nat.le_of_ble_eq_true rfl, Nat.le_of_ble_eq_true rfl⟩ rfl hl.1 (Nat.le_of_ble_eq_true rfl) d_Rd_readAlternatives_2 ⟨Nat.le_of_ble_eq_true rfl, Nat.le_of_ble_eq_true rfl⟩ (fun X ce q9 memx H locs hx9 hP hS g1 g2 g3 => f_out hlocks hno hP hS g1 g2 g3 ⟨Nat.le_of_ble_eq_true rfl, Nat.le_of_ble_eq_true rfl⟩ ⟨hx9.1, hx9.2.elim Or.inl (fun z => Or.inr (Or.inl z))⟩) (fun r12 mem13 H locs hq hP hS => ?_)
  have hD : va_D (Az sz) (fw n ad mem13) := fw_D hD
  obtain ⟨hbg, hE9, hr9, hRXb⟩ := hq
  subst hr9
  obtain ⟨ft14, h9_15⟩ := hRXb.2.1
  have h1_16 : mem13 1 = .inr (0, [.ref (ad 2), .int (nI Z)]) := (hRXb.1.2.2 1 (by omega)).trans hT.1
  have h2_17 : mem13 2 = .inl (cy 0, 240, .inl f) := (hRXb.1.2.2 2 (by omega)).trans hT.2.2
  have h5_18 := hRXb.1.1.2.1
  have hbd24 := hRXb.1.1.1
  obtain ⟨S19, g20, hS_21, h220_22, h221_23⟩ := hRXb.1.1.2.2.2.2.2.2
  obtain ⟨k25, lo26, hi27, as28, pa29, ne30, he_31, ho_32⟩ := (hRXb.1.1.2.2.2.2.2.1 Ec (by omega)).1
  refine lv_astore_n (lv' := [(2, .ref (ad (20 + 2 * Ec))), (0, .ref (ad 222)), (1, .int (6))]) Bx.1 Bx.2.1 d_Rd_readAlternatives_5 rfl hl (by decide) rfl (fun ls hl => ?_)
  refine lv_aload_n Bx.1 Bx.2.1 d_Rd_readAlternatives_6 rfl (lv_at hl 1 rfl) ?_
  refine lv_iload_n Bx.1 Bx.2.1 d_Rd_readAlternatives_7 rfl (lv_at hl 2 rfl) ?_
  refine f_xVr (na := 1) (As := [.int (6)]) (rest := []) Bx hml E hP hD hS (by omega) h9_15 rfl (m_Rd_readSequence_6X l hlt hn hT hf hRXb (by omega) (u := u) (A := A) (by omega)) kw_435 kw_437 sel_Rd_readSequence kw_6 kw_438 (by decide +kernel) ⟨rfl, rfl⟩ ⟨Nat.le_of_ble_eq_true rfl, Nat.le_of_ble_eq_true rfl⟩ rfl hl.1 (Nat.le_of_ble_eq_true rfl) d_Rd_readAlternatives_8 ⟨Nat.le_of_ble_eq_true rfl, Nat.le_of_ble_eq_true rfl⟩ (fun X ce q9 memx H locs hx9 hP hS g1 g2 g3 => f_out hlocks hno hP hS g1 g2 g3 ⟨Nat.le_of_ble_eq_true rfl, Nat.le_of_ble_eq_true rfl⟩ ⟨hx9.1, Or.inr (Or.inr ⟨hbg, hE9, hx9.2⟩)⟩) (fun r33 mem34 H locs hq hP hS => ?_)
  have hD : va_D (Az sz) (fw n ad mem34) := fw_D hD
  obtain ⟨kx35, a36, R37, E38, A39, nn40, to41, hr942, hb43, hb44, hb45, hb46, hb47, htk48, hRX49, hsc50, hnb51⟩ := hq
  subst hr942
  obtain ⟨g52, eg53⟩ : ∃ z, z = gapF T Z a36 := ⟨_, rfl⟩
  have hg54 : a36 ≤ g52 := by rw [eg53]; exact gapF_ge T Z _
  have hg55 : g52 ≤ Z := by rw [eg53]; exact gapF_le T (by omega)
  rw [← eg53] at hRX49
  obtain ⟨ft56, h9_57⟩ := hRX49.2.1
  have h1_58 : mem34 1 = .inr (0, [.ref (ad 2), .int (nI Z)]) := (hRX49.1.2.2 1 (by omega)).trans hT.1
  have h2_59 : mem34 2 = .inl (cy 0, 240, .inl f) := (hRX49.1.2.2 2 (by omega)).trans hT.2.2
  have h5_60 := hRX49.1.1.2.1
  have hbd66 := hRX49.1.1.1
  obtain ⟨S61, g62, hS_63, h220_64, h221_65⟩ := hRX49.1.1.2.2.2.2.2.2
  obtain ⟨k67, lo68, hi69, as70, pa71, ne72, he_73, ho_74⟩ := (hRX49.1.1.2.2.2.2.2.1 Ec (by omega)).1
  obtain ⟨k75, lo76, hi77, as78, pa79, ne80, he_81, ho_82⟩ := (hRX49.1.1.2.2.2.2.2.1 kx35 (by omega)).1
  have hbd83 := hRX49.1.1.1
  refine lv_astore_n (lv' := [(3, .ref (ad (20 + 2 * kx35))), (2, .ref (ad (20 + 2 * Ec))), (0, .ref (ad 222)), (1, .int (6))]) Bx.1 Bx.2.1 d_Rd_readAlternatives_11 rfl hl (by decide) rfl (fun ls hl => ?_)
  refine lv_aload_n Bx.1 Bx.2.1 d_Rd_readAlternatives_12 rfl (lv_at hl 1 rfl) ?_
  refine lv_aload_n Bx.1 Bx.2.1 d_Rd_readAlternatives_13 rfl (lv_at hl 0 rfl) ?_
  refine f_putN Bx hP hD hS (by omega) he_73 rfl inEl tyEl okEl nmEl 4 (by decide) kw_87 rfl rfl rfl rfl (Nat.le_of_ble_eq_true rfl) d_Rd_readAlternatives_14 (fun H locs hP hS => ?_)
  obtain ⟨mem84, e_mem84⟩ : ∃ z, z = va_up mem34 ((20 + 2 * Ec)) (.inr (2, [.int (k67), .int (lo68), .int (hi69), as70, .ref (ad (20 + 2 * kx35)), ne72, .ref (ad (21 + 2 * Ec))])) := ⟨_, rfl⟩
  have hP : va_P D vcl (fw n ad mem84) H := by rw [e_mem84]; exact hP
  have hD : va_D (Az sz) (fw n ad mem84) := fw_D hD
  have h_mem84 : mem84 ((20 + 2 * Ec)) = .inr (2, [.int (k67), .int (lo68), .int (hi69), as70, .ref (ad (20 + 2 * kx35)), ne72, .ref (ad (21 + 2 * Ec))]) := by rw [e_mem84, va_up_self]
  have hh85 := (va_up_ne mem34 (.inr (2, [.int (k67), .int (lo68), .int (hi69), as70, .ref (ad (20 + 2 * kx35)), ne72, .ref (ad (21 + 2 * Ec))])) (show (222 : Nat) ≠ (20 + 2 * Ec) by first | decide | assumption | omega)).trans h9_57
  rw [← e_mem84] at hh85
  have hh86 := (va_up_ne mem34 (.inr (2, [.int (k67), .int (lo68), .int (hi69), as70, .ref (ad (20 + 2 * kx35)), ne72, .ref (ad (21 + 2 * Ec))])) (show (1 : Nat) ≠ (20 + 2 * Ec) by first | decide | assumption | omega)).trans h1_58
  rw [← e_mem84] at hh86
  have hh87 := (va_up_ne mem34 (.inr (2, [.int (k67), .int (lo68), .int (hi69), as70, .ref (ad (20 + 2 * kx35)), ne72, .ref (ad (21 + 2 * Ec))])) (show (5 : Nat) ≠ (20 + 2 * Ec) by first | decide | assumption | omega)).trans h5_60
  rw [← e_mem84] at hh87
  have hh88 := (va_up_ne mem34 (.inr (2, [.int (k67), .int (lo68), .int (hi69), as70, .ref (ad (20 + 2 * kx35)), ne72, .ref (ad (21 + 2 * Ec))])) (show (220 : Nat) ≠ (20 + 2 * Ec) by first | decide | assumption | omega)).trans h220_64
  rw [← e_mem84] at hh88
  have hh89 := (va_up_ne mem34 (.inr (2, [.int (k67), .int (lo68), .int (hi69), as70, .ref (ad (20 + 2 * kx35)), ne72, .ref (ad (21 + 2 * Ec))])) (show ((20 + 2 * kx35) : Nat) ≠ (20 + 2 * Ec) by first | decide | assumption | omega)).trans he_81
  rw [← e_mem84] at hh89
  have hRX90 : RX cy ad lim (g52) (R37) (E38) (to41) (nn40) m0 mem84 := by rw [e_mem84]; exact hRX49.el (by omega) (hRX49.1.mk (by omega) (hRX49.1.1.upEl (by omega) (fun q9 => ⟨(ho_74 q9).1, Or.inr ⟨kx35, by omega, by omega, rfl⟩, (ho_74 q9).2.2⟩)))
  refine lv_iconst (v := 0) Bx.1 Bx.2.1 d_Rd_readAlternatives_17 (by decide) ?_
  refine lv_istore (lv' := [(4, .int (0)), (3, .ref (ad (20 + 2 * kx35))), (2, .ref (ad (20 + 2 * Ec))), (0, .ref (ad 222)), (1, .int (6))]) Bx.1 Bx.2.1 d_Rd_readAlternatives_18 hl (by decide) rfl (fun ls hl => ?_)
  have loop91 : ∀ (d92 : Nat) (mem9 : Nat → va_E) (a1 : Nat) (R1 : Nat) (E1 : Nat) (A1 : Ro) (n1 : Nat → Int64) (to1 : Nat → Int32) (la : Nat) (k9 : Nat) (ls : Array Slot) (H : Heap) (locs : List Loc), (240 - k9 < d92) → (RX cy ad lim (gapF T Z a1) R1 E1 to1 n1 m0 mem9) → (a < a1 ∧ a1 ≤ Z ∧ R ≤ R1 ∧ Ec < la ∧ la < E1 ∧ k9 < a1 ∧ k9 ≤ 240 ∧ Ec < E1) → (Suc T Z (seqS T Z a u R (Ec + 1) 6 A nm) 6 R (A 235) (A 227) a1 R1 E1 A1 n1) → (TOK R R1 to to1) → (¬ (bgF (hereF Z T (gapF T Z a1)) = true ∧ a1 < gapF T Z a1)) → (va_P D vcl (fw n ad mem9) H) → (va_D (Az sz) (fw n ad mem9)) → (va_S (Az sz) s.heap H locs) → (lv_has ls 5 [(4, .int (nI k9)), (3, .ref (ad (20 + 2 * la))), (2, .ref (ad (20 + 2 * Ec))), (0, .ref (ad 222)), (1, .int (6))]) → W p l e (headSpec (Cond.code y_Rd_readAlternatives c_Rd_readAlternatives 5 (some (.object "AbnfChart$Element")) :: tg) ({ frames := 19, cells := 1, slots := 6, locals := 438 } : Room)).room s m [.ref (ad 222), .int (6)].toArray below meth c H locs 0 0 (vx_MQ below (QX (QR (fun r mem' => ∃ (k' a' R' E' : Nat) (A' : Ro) (nm' : Nat → Int64) (to' : Nat → Int32), r = ad (20 + 2 * k') ∧ Ec ≤ k' ∧ k' < E' ∧ R ≤ R' ∧ a < a' ∧ a' ≤ Z ∧ TOK R R' to to' ∧ RX cy ad lim (gapF T Z a') R' E' to' nm' m0 mem' ∧ Suc T Z (seqS T Z a u R (Ec + 1) 6 A nm) 6 R (A 235) (A 227) a' R' E' A' nm' ∧ bgF (hereF Z T a) = true ∧ Ec < 100 ∧ ¬ hereF Z T (gapF T Z a') = 47 ∧ ¬ (bgF (hereF Z T (gapF T Z a')) = true ∧ a' < gapF T Z a')) (PP D n ad) (Az sz))) (XQ D sz n ad (fun X mem' => ((X = cIA ∨ X = cIS) ∧ ∃ rc' ec' : Nat, RS cy ad lim rc' ec' m0 mem') ∧ (bgF (hereF Z T a) = false ∨ Ec = 100 ∨ (bgF (hereF Z T a) = true ∧ Ec < 100 ∧ Fai T Z (seqS T Z a u R (Ec + 1) 6 A nm))))) [.ref (ad 222), .int (6)].toArray s 1 6 (Az sz)) (F0 m 20 ls []) := by
    intro d92
    induction d92 with
    | zero => intro mem9 a1 R1 E1 A1 n1 to1 la k9 ls H locs hmeas99; exact absurd hmeas99 (Nat.not_lt_zero _)
    | succ d92 ih98 =>
      intro mem9 a1 R1 E1 A1 n1 to1 la k9 ls H locs hmeas99 hz93 hz94 hz95 hz96 hz97 hP hD hS hl
      obtain ⟨g1, eg1⟩ : ∃ z, z = gapF T Z a1 := ⟨_, rfl⟩
      rw [← eg1] at hz93
      have hge1 : a1 ≤ g1 := by rw [eg1]; exact gapF_ge T Z _
      have hbd8 := hz94
      have hle1 : g1 ≤ Z := by rw [eg1]; exact gapF_le T (by omega)
      obtain ⟨ft100, h9_101⟩ := hz93.2.1
      have h1_102 : mem9 1 = .inr (0, [.ref (ad 2), .int (nI Z)]) := (hz93.1.2.2 1 (by omega)).trans hT.1
      have h2_103 : mem9 2 = .inl (cy 0, 240, .inl f) := (hz93.1.2.2 2 (by omega)).trans hT.2.2
      have h5_104 := hz93.1.1.2.1
      have hbd110 := hz93.1.1.1
      obtain ⟨S105, g106, hS_107, h220_108, h221_109⟩ := hz93.1.1.2.2.2.2.2.2
      obtain ⟨k111, lo112, hi113, as114, pa115, ne116, he_117, ho_118⟩ := (hz93.1.1.2.2.2.2.2.1 la (by omega)).1
      obtain ⟨c1, u1, ho, hg, hk9, hs9⟩ := id hz95
      refine lv_iload Bx.1 Bx.2.1 d_Rd_readAlternatives_20 (lv_at hl 0 rfl) ?_
      refine lv_sipush (v := 240) Bx.1 Bx.2.1 d_Rd_readAlternatives_22 (by decide) ?_
      refine lv_icmp_ge Bx.1 Bx.2.1 d_Rd_readAlternatives_25 rfl (fun hb119 => ?_) (fun hb119 => ?_)
      · have hN120 : 240 ≤ k9 := (nI_leI (by omega) (by omega)).mp (show nI (240) ≤ nI (k9) from hb119)
        exact absurd hbd8 (by omega)
      · have hN121 : ¬ 240 ≤ k9 := fun q9 => hb119 (show nI (240) ≤ nI (k9) from (nI_leI (by omega) (by omega)).mpr q9)
        refine lv_aload_n Bx.1 Bx.2.1 d_Rd_readAlternatives_28 rfl (lv_at hl 3 rfl) ?_
        refine f_callVi (na := 0) (As := []) (rest := []) Bx hml E hP hD hS (by omega) h9_101 rfl (m_Rd_peekX l hn hT hf hz93 (by omega)) kw_353 kw_355 sel_Rd_peek kw_6 kw_356 (by decide +kernel) ⟨rfl, rfl⟩ ⟨Nat.le_of_ble_eq_true rfl, Nat.le_of_ble_eq_true rfl⟩ rfl hl.1 (Nat.le_of_ble_eq_true rfl) d_Rd_readAlternatives_29 ⟨Nat.le_of_ble_eq_true rfl, Nat.le_of_ble_eq_true rfl⟩ (fun r123 mem124 H locs hq hP hS => ?_)
        have hD : va_D (Az sz) (fw n ad mem124) := fw_D hD
        obtain ⟨hqe, hpk122⟩ := hq
        rw [hqe] at hP hD
        subst hpk122
        refine lv_bipush (v := 47) Bx.1 Bx.2.1 d_Rd_readAlternatives_32 (by decide) ?_
        refine lv_icmp_ne Bx.1 Bx.2.1 d_Rd_readAlternatives_34 rfl (fun hb126 => ?_) (fun hb126 => ?_)
        · refine lv_aload_n Bx.1 Bx.2.1 d_Rd_readAlternatives_72 rfl (lv_at hl 2 rfl) ?_
          exact x_aret hx hb hlocks hr (⟨Ec, a1, R1, E1, A1, n1, to1, rfl, by omega, by omega, by omega, by omega, by omega, hz96, by rw [← eg1]; exact hz93, hz95, hbg, hE9, by rw [← eg1]; exact hb126, hz97⟩) hP hS d_Rd_readAlternatives_73
        · have hlt127 := hereF_lt (by rw [hb126]; decide)
          have h47 : hereF Z T (gapF T Z a1) = 47 := by rw [← eg1]; exact hb126
          refine lv_aload_n Bx.1 Bx.2.1 d_Rd_readAlternatives_37 rfl (lv_at hl 3 rfl) ?_
          refine lv_dup Bx.1 Bx.2.1 d_Rd_readAlternatives_38 rfl ?_
          refine f_get Bx hP (by omega) h9_101 rfl inRd 2 (by decide) kw_146 rfl rfl d_Rd_readAlternatives_39 ?_
          refine lv_iconst (v := 1) Bx.1 Bx.2.1 d_Rd_readAlternatives_42 (by decide) ?_
          refine lv_iadd Bx.1 Bx.2.1 d_Rd_readAlternatives_43 ?_
          rw [show nI g1 + 1 = nI (g1 + 1) from nI_add (g1) (1)]
          refine f_put Bx hP hD hS (by omega) h9_101 rfl inRd tyRd okRd nmRd 2 (by decide) kw_146 rfl rfl rfl rfl (Nat.le_of_ble_eq_true rfl) d_Rd_readAlternatives_44 (fun H locs hP hS => ?_)
          obtain ⟨mem128, e_mem128⟩ : ∃ z, z = va_up mem9 (222) (.inr (4, [.ref (ad 1), .ref (ad 5), .int (nI (g1 + 1)), .int (ft100)])) := ⟨_, rfl⟩
          have hP : va_P D vcl (fw n ad mem128) H := by rw [e_mem128]; exact hP
          have hD : va_D (Az sz) (fw n ad mem128) := fw_D hD
          have h_mem128 : mem128 (222) = .inr (4, [.ref (ad 1), .ref (ad 5), .int (nI (g1 + 1)), .int (ft100)]) := by rw [e_mem128, va_up_self]
          have hh129 := (va_up_ne mem9 (.inr (4, [.ref (ad 1), .ref (ad 5), .int (nI (g1 + 1)), .int (ft100)])) (show (1 : Nat) ≠ 222 by first | decide | assumption | omega)).trans h1_102
          rw [← e_mem128] at hh129
          have hh130 := (va_up_ne mem9 (.inr (4, [.ref (ad 1), .ref (ad 5), .int (nI (g1 + 1)), .int (ft100)])) (show (5 : Nat) ≠ 222 by first | decide | assumption | omega)).trans h5_104
          rw [← e_mem128] at hh130
          have hh131 := (va_up_ne mem9 (.inr (4, [.ref (ad 1), .ref (ad 5), .int (nI (g1 + 1)), .int (ft100)])) (show (220 : Nat) ≠ 222 by first | decide | assumption | omega)).trans h220_108
          rw [← e_mem128] at hh131
          have hh132 := (va_up_ne mem9 (.inr (4, [.ref (ad 1), .ref (ad 5), .int (nI (g1 + 1)), .int (ft100)])) (show ((20 + 2 * la) : Nat) ≠ 222 by first | decide | assumption | omega)).trans he_117
          rw [← e_mem128] at hh132
          have hRX133 : RX cy ad lim (g1 + 1) (R1) (E1) (to1) (n1) m0 mem128 := by rw [e_mem128]; exact hz93.at
          refine lv_aload_n Bx.1 Bx.2.1 d_Rd_readAlternatives_47 rfl (lv_at hl 3 rfl) ?_
          refine f_callVi (na := 0) (As := []) (rest := []) Bx hml E hP hD hS (by omega) h_mem128 rfl (m_Rd_readGapX l hn hT hf hRX133 (by omega) (by omega)) kw_397 kw_399 sel_Rd_readGap kw_6 kw_400 (by decide +kernel) ⟨rfl, rfl⟩ ⟨Nat.le_of_ble_eq_true rfl, Nat.le_of_ble_eq_true rfl⟩ rfl hl.1 (Nat.le_of_ble_eq_true rfl) d_Rd_readAlternatives_48 ⟨Nat.le_of_ble_eq_true rfl, Nat.le_of_ble_eq_true rfl⟩ (fun r134 mem135 H locs hq hP hS => ?_)
          have hD : va_D (Az sz) (fw n ad mem135) := fw_D hD
          obtain ⟨g136, eg137⟩ : ∃ z, z = gapF T Z (g1 + 1) := ⟨_, rfl⟩
          rw [← eg137] at hq
          obtain ⟨hRX138, hgc139⟩ := hq
          have hg140 : g1 + 1 ≤ g136 := by rw [eg137]; exact gapF_ge T Z _
          have hg141 : g136 ≤ Z := by rw [eg137]; exact gapF_le T (by omega)
          obtain ⟨ft142, h9_143⟩ := hRX138.2.1
          have h1_144 : mem135 1 = .inr (0, [.ref (ad 2), .int (nI Z)]) := (hRX138.1.2.2 1 (by omega)).trans hT.1
          have h2_145 : mem135 2 = .inl (cy 0, 240, .inl f) := (hRX138.1.2.2 2 (by omega)).trans hT.2.2
          have h5_146 := hRX138.1.1.2.1
          have hbd152 := hRX138.1.1.1
          obtain ⟨S147, g148, hS_149, h220_150, h221_151⟩ := hRX138.1.1.2.2.2.2.2.2
          obtain ⟨k153, lo154, hi155, as156, pa157, ne158, he_159, ho_160⟩ := (hRX138.1.1.2.2.2.2.2.1 la (by omega)).1
          refine lv_pop Bx.1 Bx.2.1 d_Rd_readAlternatives_51 rfl ?_
          refine lv_aload_n Bx.1 Bx.2.1 d_Rd_readAlternatives_52 rfl (lv_at hl 1 rfl) ?_
          refine lv_aload_n Bx.1 Bx.2.1 d_Rd_readAlternatives_53 rfl (lv_at hl 3 rfl) ?_
          refine lv_iload_n Bx.1 Bx.2.1 d_Rd_readAlternatives_54 rfl (lv_at hl 4 rfl) ?_
          refine f_xVr (na := 1) (As := [.int (6)]) (rest := [.ref (ad (20 + 2 * la))]) Bx hml E hP hD hS (by omega) h9_143 rfl (m_Rd_readSequence_6X l hlt hn hT hf hRX138 (by omega) (u := u1) (A := A1) (by omega)) kw_435 kw_437 sel_Rd_readSequence kw_6 kw_438 (by decide +kernel) ⟨rfl, rfl⟩ ⟨Nat.le_of_ble_eq_true rfl, Nat.le_of_ble_eq_true rfl⟩ rfl hl.1 (Nat.le_of_ble_eq_true rfl) d_Rd_readAlternatives_55 ⟨Nat.le_of_ble_eq_true rfl, Nat.le_of_ble_eq_true rfl⟩ (fun X ce q9 memx H locs hx9 hP hS g1 g2 g3 => f_out hlocks hno hP hS g1 g2 g3 ⟨Nat.le_of_ble_eq_true rfl, Nat.le_of_ble_eq_true rfl⟩ ⟨hx9.1, Or.inr (Or.inr ⟨hbg, hE9, Fai.go ho hg (go_sl h47) (by rw [← eg1, ← eg137]; exact hx9.2)⟩)⟩) (fun r161 mem162 H locs hq hP hS => ?_)
          have hD : va_D (Az sz) (fw n ad mem162) := fw_D hD
          obtain ⟨kx163, a164, R165, E166, A167, nn168, to169, hr9170, hb171, hb172, hb173, hb174, hb175, htk176, hRX177, hsc178, hnb179⟩ := hq
          subst hr9170
          obtain ⟨g180, eg181⟩ : ∃ z, z = gapF T Z a164 := ⟨_, rfl⟩
          have hg182 : a164 ≤ g180 := by rw [eg181]; exact gapF_ge T Z _
          have hg183 : g180 ≤ Z := by rw [eg181]; exact gapF_le T (by omega)
          rw [← eg181] at hRX177
          obtain ⟨ft184, h9_185⟩ := hRX177.2.1
          have h1_186 : mem162 1 = .inr (0, [.ref (ad 2), .int (nI Z)]) := (hRX177.1.2.2 1 (by omega)).trans hT.1
          have h2_187 : mem162 2 = .inl (cy 0, 240, .inl f) := (hRX177.1.2.2 2 (by omega)).trans hT.2.2
          have h5_188 := hRX177.1.1.2.1
          have hbd194 := hRX177.1.1.1
          obtain ⟨S189, g190, hS_191, h220_192, h221_193⟩ := hRX177.1.1.2.2.2.2.2.2
          obtain ⟨k195, lo196, hi197, as198, pa199, ne200, he_201, ho_202⟩ := (hRX177.1.1.2.2.2.2.2.1 la (by omega)).1
          obtain ⟨k203, lo204, hi205, as206, pa207, ne208, he_209, ho_210⟩ := (hRX177.1.1.2.2.2.2.2.1 kx163 (by omega)).1
          have hbd211 := hRX177.1.1.1
          have hsuc3 := Suc.go ho hg hk9 hs9 (by omega) (go_sl h47) (by rw [← eg1, ← eg137]; exact hsc178)
          have htk3 := hz96.trans htk176 (by omega)
          refine f_putN Bx hP hD hS (by omega) he_201 rfl inEl tyEl okEl nmEl 5 (by decide) kw_91 rfl rfl rfl rfl (Nat.le_of_ble_eq_true rfl) d_Rd_readAlternatives_58 (fun H locs hP hS => ?_)
          obtain ⟨mem212, e_mem212⟩ : ∃ z, z = va_up mem162 ((20 + 2 * la)) (.inr (2, [.int (k195), .int (lo196), .int (hi197), as198, pa199, .ref (ad (20 + 2 * kx163)), .ref (ad (21 + 2 * la))])) := ⟨_, rfl⟩
          have hP : va_P D vcl (fw n ad mem212) H := by rw [e_mem212]; exact hP
          have hD : va_D (Az sz) (fw n ad mem212) := fw_D hD
          have h_mem212 : mem212 ((20 + 2 * la)) = .inr (2, [.int (k195), .int (lo196), .int (hi197), as198, pa199, .ref (ad (20 + 2 * kx163)), .ref (ad (21 + 2 * la))]) := by rw [e_mem212, va_up_self]
          have hh213 := (va_up_ne mem162 (.inr (2, [.int (k195), .int (lo196), .int (hi197), as198, pa199, .ref (ad (20 + 2 * kx163)), .ref (ad (21 + 2 * la))])) (show (222 : Nat) ≠ (20 + 2 * la) by first | decide | assumption | omega)).trans h9_185
          rw [← e_mem212] at hh213
          have hh214 := (va_up_ne mem162 (.inr (2, [.int (k195), .int (lo196), .int (hi197), as198, pa199, .ref (ad (20 + 2 * kx163)), .ref (ad (21 + 2 * la))])) (show (1 : Nat) ≠ (20 + 2 * la) by first | decide | assumption | omega)).trans h1_186
          rw [← e_mem212] at hh214
          have hh215 := (va_up_ne mem162 (.inr (2, [.int (k195), .int (lo196), .int (hi197), as198, pa199, .ref (ad (20 + 2 * kx163)), .ref (ad (21 + 2 * la))])) (show (5 : Nat) ≠ (20 + 2 * la) by first | decide | assumption | omega)).trans h5_188
          rw [← e_mem212] at hh215
          have hh216 := (va_up_ne mem162 (.inr (2, [.int (k195), .int (lo196), .int (hi197), as198, pa199, .ref (ad (20 + 2 * kx163)), .ref (ad (21 + 2 * la))])) (show (220 : Nat) ≠ (20 + 2 * la) by first | decide | assumption | omega)).trans h220_192
          rw [← e_mem212] at hh216
          have hh217 := (va_up_ne mem162 (.inr (2, [.int (k195), .int (lo196), .int (hi197), as198, pa199, .ref (ad (20 + 2 * kx163)), .ref (ad (21 + 2 * la))])) (show ((20 + 2 * kx163) : Nat) ≠ (20 + 2 * la) by first | decide | assumption | omega)).trans he_209
          rw [← e_mem212] at hh217
          have hRX218 : RX cy ad lim (g180) (R165) (E166) (to169) (nn168) m0 mem212 := by rw [e_mem212]; exact hRX177.el (by omega) (hRX177.1.mk (by omega) (hRX177.1.1.upEl (by omega) (fun q9 => ⟨(ho_202 q9).1, (ho_202 q9).2.1, Or.inr ⟨kx163, by omega, by omega, rfl⟩⟩)))
          refine lv_aload_n Bx.1 Bx.2.1 d_Rd_readAlternatives_61 rfl (lv_at hl 1 rfl) ?_
          refine f_getN Bx hP (by omega) h_mem212 rfl inEl 5 (by decide) kw_91 rfl rfl d_Rd_readAlternatives_62 ?_
          refine lv_astore_n (lv' := [(3, .ref (ad (20 + 2 * kx163))), (4, .int (nI k9)), (2, .ref (ad (20 + 2 * Ec))), (0, .ref (ad 222)), (1, .int (6))]) Bx.1 Bx.2.1 d_Rd_readAlternatives_65 rfl hl (by decide) rfl (fun ls hl => ?_)
          refine lv_iinc (lv' := [(4, .int ((nI k9 + (1)))), (3, .ref (ad (20 + 2 * kx163))), (2, .ref (ad (20 + 2 * Ec))), (0, .ref (ad 222)), (1, .int (6))]) Bx.1 Bx.2.1 d_Rd_readAlternatives_66 hl (k := 1) rfl rfl (by decide) rfl (fun ls hl => ?_)
          rw [show (nI k9 + (1) : Int32) = nI (k9 + 1) from nI_1 (k9)] at hl
          refine lv_goto Bx.1 Bx.2.1 d_Rd_readAlternatives_69 rfl ?_
          exact ih98 mem212 (a164) (R165) (E166) (A167) (nn168) (to169) (kx163) (k9 + 1) _ _ _ (by have := hmeas99; omega) (by rw [← eg181]; exact hRX218) (⟨by omega, by omega, by omega, by omega, by omega, by omega, by omega, by omega⟩) (hsuc3) (htk3) (hnb179) hP hD hS (lv_sub hl [0, 1, 2, 3, 4] rfl)
  exact loop91 _ mem84 (a36) (R37) (E38) (A39) (nn40) (to41) (kx35) (0) _ _ _ (Nat.lt_succ_self _) (by rw [← eg53]; exact hRX90) (⟨by omega, by omega, by omega, by omega, by omega, by omega, by omega, by omega⟩) (hsc50) (htk48) (hnb51) hP hD hS (lv_sub hl [0, 1, 2, 3, 4] rfl)
set_option maxHeartbeats 4000000 in
set_option maxRecDepth 100000 in
theorem m_Rd_readBracket_5X (l : Launch) {D : va_G} {cy : Nat → ClassId} {sz n : Nat} {ad : Nat → Nat} {mem : Nat → va_E} {Z a R Ec lim : Nat} {f T : Nat → Int32} {to : Nat → Int32} {nm : Nat → Int64} {m0 : Nat → va_E} {u : Nat} {A : Ro} {what oe en : Int32} (hlt : l.stackTraces = false) (hn : 224 ≤ n) (hT : TX cy ad Z f m0) (hf : ∀ k, k < Z → f k = T k) (hRX : RX cy ad lim a R Ec to nm m0 mem) (haB : a ≤ 300) (haZ : a < Z) (hwe : (what = 1 ∧ en = 41) ∨ (what = 2 ∧ en = 93)) : NXr l D cy sz n ad y_Rd_readBracket c_Rd_readBracket 4 (some (.object "AbnfChart$Element")) ({ frames := 20, cells := 1, slots := 6, locals := 470 } : Room) mem [.ref (ad 222), .int (5), .int (en)] (fun r mem' => ∃ (k' a' R' E' : Nat) (A' : Ro) (nm' : Nat → Int64) (to' : Nat → Int32), r = ad (20 + 2 * k') ∧ Ec ≤ k' ∧ k' < E' ∧ R ≤ R' ∧ a < a' ∧ a' ≤ Z ∧ TOK R R' to to' ∧ RX cy ad lim a' R' E' to' nm' m0 mem' ∧ Suc T Z (entS T Z (a + 1) u R Ec 6 A nm what oe) 5 R (A 235) (A 227) a' R' E' A' nm') (fun X mem' => ((X = cIA ∨ X = cIS) ∧ ∃ rc' ec' : Nat, RS cy ad lim rc' ec' m0 mem') ∧ (Fai T Z (entS T Z (a + 1) u R Ec 6 A nm what oe))) := by
  refine vx_ofW (cc := c_Rd_readBracket) (maxL := 4) (ret := (some (.object "AbnfChart$Element"))) (by decide) rfl ?_
  intro p e s m args below meth c s₁ B hml hno hv
  obtain ⟨rfl, E, hP, hD⟩ := hv
  have hx := B.exec
  have hb := B.bytes
  have hr := B.returns
  have hlocks := B.notSynchronized
  have Bx : MB p s m [.ref (ad 222), .int (5), .int (en)].toArray c c_Rd_readBracket "AbnfChart$Reader" D cy := ⟨hx, hb, tb_all (atoms_spec B.pre) E.2.1, findClass_of_methodNamed B.named, E.1⟩
  have hS : va_S (Az sz) s.heap s.heap [] := va_S.rf
  have hl := lv_entry ([.ref (ad 222), .int (5), .int (en)]) (n := 4) (Nat.le_of_ble_eq_true rfl)
  rw [lg_entry_eq]
  generalize (lg_sl ([.ref (ad 222), .int (5), .int (en)]) ++ List.replicate (4 - (lg_sl ([.ref (ad 222), .int (5), .int (en)])).length) Slot.unset).toArray = ls at hl ⊢
  have hl : lv_has ls 4 [(0, .ref (ad 222)), (1, .int (5)), (2, .int (en))] := hl
  have hZ9 := hT.2.1
  have hbd9 := hRX.1.1.1
  obtain ⟨ft1, h9_2⟩ := hRX.2.1
  have h1_3 : mem 1 = .inr (0, [.ref (ad 2), .int (nI Z)]) := (hRX.1.2.2 1 (by omega)).trans hT.1
  have h2_4 : mem 2 = .inl (cy 0, 240, .inl f) := (hRX.1.2.2 2 (by omega)).trans hT.2.2
  have h5_5 := hRX.1.1.2.1
  have hbd11 := hRX.1.1.1
  obtain ⟨S6, g7, hS_8, h220_9, h221_10⟩ := hRX.1.1.2.2.2.2.2.2
  refine lv_aload_n Bx.1 Bx.2.1 d_Rd_readBracket_0 rfl (lv_at hl 0 rfl) ?_
  refine lv_iload_n Bx.1 Bx.2.1 d_Rd_readBracket_1 rfl (lv_at hl 1 rfl) ?_
  refine lv_bipush (v := 6) Bx.1 Bx.2.1 d_Rd_readBracket_2 (by decide) ?_
  refine lv_icmp_ge Bx.1 Bx.2.1 d_Rd_readBracket_4 rfl (fun hb12 => ?_) (fun hb12 => ?_)
  · exact absurd hb12 (by decide)
  · refine lv_iconst (v := 1) Bx.1 Bx.2.1 d_Rd_readBracket_7 (by decide) ?_
    refine lv_goto Bx.1 Bx.2.1 d_Rd_readBracket_8 rfl ?_
    refine lv_aload_n Bx.1 Bx.2.1 d_Rd_readBracket_12 rfl (lv_at hl 0 rfl) ?_
    refine f_get Bx hP (by omega) h9_2 rfl inRd 2 (by decide) kw_146 rfl rfl d_Rd_readBracket_13 ?_
    refine f_xVv (na := 2) (As := [.int (1), .int (nI a)]) (rest := []) Bx hml E hP hD hS (by omega) h9_2 rfl (m_Rd_needRoomX l hlt hn hT hf hRX (by omega)) kw_383 kw_385 sel_Rd_needRoom kw_6 kw_386 (by decide +kernel) ⟨rfl, rfl⟩ ⟨Nat.le_of_ble_eq_true rfl, Nat.le_of_ble_eq_true rfl⟩ rfl hl.1 (Nat.le_of_ble_eq_true rfl) d_Rd_readBracket_16 ⟨Nat.le_of_ble_eq_true rfl, Nat.le_of_ble_eq_true rfl⟩ (fun X ce q9 memx H locs hx9 hP hS g1 g2 g3 => f_out hlocks hno hP hS g1 g2 g3 ⟨Nat.le_of_ble_eq_true rfl, Nat.le_of_ble_eq_true rfl⟩ ⟨hx9.1, absurd hx9.2 (by decide)⟩) (fun mem14 H locs hq hP hS => ?_)
    have hD : va_D (Az sz) (fw n ad mem14) := fw_D hD
    obtain ⟨hqe, hg15⟩ := hq
    rw [hqe] at hP hD
    refine lv_aload_n Bx.1 Bx.2.1 d_Rd_readBracket_19 rfl (lv_at hl 0 rfl) ?_
    refine lv_dup Bx.1 Bx.2.1 d_Rd_readBracket_20 rfl ?_
    refine f_get Bx hP (by omega) h9_2 rfl inRd 2 (by decide) kw_146 rfl rfl d_Rd_readBracket_21 ?_
    refine lv_iconst (v := 1) Bx.1 Bx.2.1 d_Rd_readBracket_24 (by decide) ?_
    refine lv_iadd Bx.1 Bx.2.1 d_Rd_readBracket_25 ?_
    rw [show nI a + 1 = nI (a + 1) from nI_add (a) (1)]
    refine f_put Bx hP hD hS (by omega) h9_2 rfl inRd tyRd okRd nmRd 2 (by decide) kw_146 rfl rfl rfl rfl (Nat.le_of_ble_eq_true rfl) d_Rd_readBracket_26 (fun H locs hP hS => ?_)
    obtain ⟨mem16, e_mem16⟩ : ∃ z, z = va_up mem (222) (.inr (4, [.ref (ad 1), .ref (ad 5), .int (nI (a + 1)), .int (ft1)])) := ⟨_, rfl⟩
    have hP : va_P D vcl (fw n ad mem16) H := by rw [e_mem16]; exact hP
    have hD : va_D (Az sz) (fw n ad mem16) := fw_D hD
    have h_mem16 : mem16 (222) = .inr (4, [.ref (ad 1), .ref (ad 5), .int (nI (a + 1)), .int (ft1)]) := by rw [e_mem16, va_up_self]
    have hh17 := (va_up_ne mem (.inr (4, [.ref (ad 1), .ref (ad 5), .int (nI (a + 1)), .int (ft1)])) (show (1 : Nat) ≠ 222 by first | decide | assumption | omega)).trans h1_3
    rw [← e_mem16] at hh17
    have hh18 := (va_up_ne mem (.inr (4, [.ref (ad 1), .ref (ad 5), .int (nI (a + 1)), .int (ft1)])) (show (5 : Nat) ≠ 222 by first | decide | assumption | omega)).trans h5_5
    rw [← e_mem16] at hh18
    have hh19 := (va_up_ne mem (.inr (4, [.ref (ad 1), .ref (ad 5), .int (nI (a + 1)), .int (ft1)])) (show (220 : Nat) ≠ 222 by first | decide | assumption | omega)).trans h220_9
    rw [← e_mem16] at hh19
    have hRX20 : RX cy ad lim (a + 1) (R) (Ec) (to) (nm) m0 mem16 := by rw [e_mem16]; exact hRX.at
    refine lv_aload_n Bx.1 Bx.2.1 d_Rd_readBracket_29 rfl (lv_at hl 0 rfl) ?_
    refine f_callVi (na := 0) (As := []) (rest := []) Bx hml E hP hD hS (by omega) h_mem16 rfl (m_Rd_readGapX l hn hT hf hRX20 (by omega) (by omega)) kw_397 kw_399 sel_Rd_readGap kw_6 kw_400 (by decide +kernel) ⟨rfl, rfl⟩ ⟨Nat.le_of_ble_eq_true rfl, Nat.le_of_ble_eq_true rfl⟩ rfl hl.1 (Nat.le_of_ble_eq_true rfl) d_Rd_readBracket_30 ⟨Nat.le_of_ble_eq_true rfl, Nat.le_of_ble_eq_true rfl⟩ (fun r21 mem22 H locs hq hP hS => ?_)
    have hD : va_D (Az sz) (fw n ad mem22) := fw_D hD
    obtain ⟨g23, eg24⟩ : ∃ z, z = gapF T Z (a + 1) := ⟨_, rfl⟩
    rw [← eg24] at hq
    obtain ⟨hRX25, hgc26⟩ := hq
    have hg27 : a + 1 ≤ g23 := by rw [eg24]; exact gapF_ge T Z _
    have hg28 : g23 ≤ Z := by rw [eg24]; exact gapF_le T (by omega)
    obtain ⟨ft29, h9_30⟩ := hRX25.2.1
    have h1_31 : mem22 1 = .inr (0, [.ref (ad 2), .int (nI Z)]) := (hRX25.1.2.2 1 (by omega)).trans hT.1
    have h2_32 : mem22 2 = .inl (cy 0, 240, .inl f) := (hRX25.1.2.2 2 (by omega)).trans hT.2.2
    have h5_33 := hRX25.1.1.2.1
    have hbd39 := hRX25.1.1.1
    obtain ⟨S34, g35, hS_36, h220_37, h221_38⟩ := hRX25.1.1.2.2.2.2.2.2
    refine lv_pop Bx.1 Bx.2.1 d_Rd_readBracket_33 rfl ?_
    refine lv_aload_n Bx.1 Bx.2.1 d_Rd_readBracket_34 rfl (lv_at hl 0 rfl) ?_
    refine lv_iload_n Bx.1 Bx.2.1 d_Rd_readBracket_35 rfl (lv_at hl 1 rfl) ?_
    refine lv_iconst (v := 1) Bx.1 Bx.2.1 d_Rd_readBracket_36 (by decide) ?_
    refine lv_iadd Bx.1 Bx.2.1 d_Rd_readBracket_37 ?_
    rw [show (5 + 1 : Int32) = 6 from rfl]
    refine f_xVr (na := 1) (As := [.int (6)]) (rest := []) Bx hml E hP hD hS (by omega) h9_30 rfl (m_Rd_readAlternatives_6X l hlt hn hT hf hRX25 (by omega) (u := u) (A := entA A 6 Ec what oe) (by omega)) kw_405 kw_407 sel_Rd_readAlternatives kw_6 kw_408 (by decide +kernel) ⟨rfl, rfl⟩ ⟨Nat.le_of_ble_eq_true rfl, Nat.le_of_ble_eq_true rfl⟩ rfl hl.1 (Nat.le_of_ble_eq_true rfl) d_Rd_readBracket_38 ⟨Nat.le_of_ble_eq_true rfl, Nat.le_of_ble_eq_true rfl⟩ (fun X ce q9 memx H locs hx9 hP hS g1 g2 g3 => f_out hlocks hno hP hS g1 g2 g3 ⟨Nat.le_of_ble_eq_true rfl, Nat.le_of_ble_eq_true rfl⟩ ⟨hx9.1, hx9.2.elim (fun z => Or.inl (entS_no (Or.inl (by rw [← eg24]; exact z)))) (fun z => z.elim (fun z => Or.inl (entS_no (Or.inr z))) (fun z => Fai.br0 (by rw [ent_ok (by rw [← eg24]; exact z.1) z.2.1, ← eg24]) z.2.2))⟩) (fun r40 mem41 H locs hq hP hS => ?_)
    have hD : va_D (Az sz) (fw n ad mem41) := fw_D hD
    obtain ⟨kx42, a43, R44, E45, A46, nn47, to48, hr949, hb50, hb51, hb52, hb53, hb54, htk55, hRX56, hsc57, hbg58, hE59, h4760, hnb61⟩ := hq
    subst hr949
    obtain ⟨g62, eg63⟩ : ∃ z, z = gapF T Z a43 := ⟨_, rfl⟩
    have hg64 : a43 ≤ g62 := by rw [eg63]; exact gapF_ge T Z _
    have hg65 : g62 ≤ Z := by rw [eg63]; exact gapF_le T (by omega)
    rw [← eg63] at hRX56
    obtain ⟨ft66, h9_67⟩ := hRX56.2.1
    have h1_68 : mem41 1 = .inr (0, [.ref (ad 2), .int (nI Z)]) := (hRX56.1.2.2 1 (by omega)).trans hT.1
    have h2_69 : mem41 2 = .inl (cy 0, 240, .inl f) := (hRX56.1.2.2 2 (by omega)).trans hT.2.2
    have h5_70 := hRX56.1.1.2.1
    have hbd76 := hRX56.1.1.1
    obtain ⟨S71, g72, hS_73, h220_74, h221_75⟩ := hRX56.1.1.2.2.2.2.2.2
    obtain ⟨k77, lo78, hi79, as80, pa81, ne82, he_83, ho_84⟩ := (hRX56.1.1.2.2.2.2.2.1 kx42 (by omega)).1
    have hbd85 := hRX56.1.1.1
    have hent : entS T Z (a + 1) u R Ec 6 A nm what oe = some (g23, u, R, Ec + 1, 6, entA A 6 Ec what oe, nm, true) := by rw [ent_ok (by rw [← eg24]; exact hbg58) hE59, ← eg24]
    have hA5 : A46 235 6 = what := by
      obtain ⟨c1, u1, ho, hg, hk, hs⟩ := hsc57
      rw [hk 6 (by omega), entA_5, upd_self]
    refine lv_astore_n (lv' := [(3, .ref (ad (20 + 2 * kx42))), (0, .ref (ad 222)), (1, .int (5)), (2, .int (en))]) Bx.1 Bx.2.1 d_Rd_readBracket_41 rfl hl (by decide) rfl (fun ls hl => ?_)
    refine lv_aload_n Bx.1 Bx.2.1 d_Rd_readBracket_42 rfl (lv_at hl 1 rfl) ?_
    refine lv_aload_n Bx.1 Bx.2.1 d_Rd_readBracket_43 rfl (lv_at hl 1 rfl) ?_
    refine f_callVi (na := 0) (As := []) (rest := [.ref (ad 222)]) Bx hml E hP hD hS (by omega) h9_67 rfl (m_Rd_peekX l hn hT hf hRX56 (by omega)) kw_353 kw_355 sel_Rd_peek kw_6 kw_356 (by decide +kernel) ⟨rfl, rfl⟩ ⟨Nat.le_of_ble_eq_true rfl, Nat.le_of_ble_eq_true rfl⟩ rfl hl.1 (Nat.le_of_ble_eq_true rfl) d_Rd_readBracket_44 ⟨Nat.le_of_ble_eq_true rfl, Nat.le_of_ble_eq_true rfl⟩ (fun r87 mem88 H locs hq hP hS => ?_)
    have hD : va_D (Az sz) (fw n ad mem88) := fw_D hD
    obtain ⟨hqe, hpk86⟩ := hq
    rw [hqe] at hP hD
    subst hpk86
    refine lv_iload_n Bx.1 Bx.2.1 d_Rd_readBracket_47 rfl (lv_at hl 3 rfl) ?_
    refine lv_icmp_ne Bx.1 Bx.2.1 d_Rd_readBracket_48 rfl (fun hb90 => ?_) (fun hb90 => ?_)
    · refine lv_iconst (v := 0) Bx.1 Bx.2.1 d_Rd_readBracket_55 (by decide) ?_
      refine lv_aload_n Bx.1 Bx.2.1 d_Rd_readBracket_56 rfl (lv_at hl 1 rfl) ?_
      refine f_get Bx hP (by omega) h9_67 rfl inRd 2 (by decide) kw_146 rfl rfl d_Rd_readBracket_57 ?_
      refine f_xVv (na := 2) (As := [.int (0), .int (nI g62)]) (rest := []) Bx hml E hP hD hS (by omega) h9_67 rfl (m_Rd_needReadableX l hlt hn hT hf hRX56 (by omega)) kw_360 kw_362 sel_Rd_needReadable kw_6 kw_363 (by decide +kernel) ⟨rfl, rfl⟩ ⟨Nat.le_of_ble_eq_true rfl, Nat.le_of_ble_eq_true rfl⟩ rfl hl.1 (Nat.le_of_ble_eq_true rfl) d_Rd_readBracket_60 ⟨Nat.le_of_ble_eq_true rfl, Nat.le_of_ble_eq_true rfl⟩ (fun X ce q9 memx H locs hx9 hP hS g1 g2 g3 => f_out hlocks hno hP hS g1 g2 g3 ⟨Nat.le_of_ble_eq_true rfl, Nat.le_of_ble_eq_true rfl⟩ ⟨hx9.1, Fai.br1 hent hsc57 (br_no hwe hA5 (by rw [← eg63]; exact hb90) h4760 hnb61)⟩) (fun mem92 H locs hq hP hS => ?_)
      have hD : va_D (Az sz) (fw n ad mem92) := fw_D hD
      obtain ⟨hqe, hg93⟩ := hq
      rw [hqe] at hP hD
      exact absurd rfl hg93
    · refine lv_iconst (v := 1) Bx.1 Bx.2.1 d_Rd_readBracket_51 (by decide) ?_
      refine lv_goto Bx.1 Bx.2.1 d_Rd_readBracket_52 rfl ?_
      refine lv_aload_n Bx.1 Bx.2.1 d_Rd_readBracket_56 rfl (lv_at hl 1 rfl) ?_
      refine f_get Bx hP (by omega) h9_67 rfl inRd 2 (by decide) kw_146 rfl rfl d_Rd_readBracket_57 ?_
      refine f_xVv (na := 2) (As := [.int (1), .int (nI g62)]) (rest := []) Bx hml E hP hD hS (by omega) h9_67 rfl (m_Rd_needReadableX l hlt hn hT hf hRX56 (by omega)) kw_360 kw_362 sel_Rd_needReadable kw_6 kw_363 (by decide +kernel) ⟨rfl, rfl⟩ ⟨Nat.le_of_ble_eq_true rfl, Nat.le_of_ble_eq_true rfl⟩ rfl hl.1 (Nat.le_of_ble_eq_true rfl) d_Rd_readBracket_60 ⟨Nat.le_of_ble_eq_true rfl, Nat.le_of_ble_eq_true rfl⟩ (fun X ce q9 memx H locs hx9 hP hS g1 g2 g3 => f_out hlocks hno hP hS g1 g2 g3 ⟨Nat.le_of_ble_eq_true rfl, Nat.le_of_ble_eq_true rfl⟩ ⟨hx9.1, absurd hx9.2 (by decide)⟩) (fun mem95 H locs hq hP hS => ?_)
      have hD : va_D (Az sz) (fw n ad mem95) := fw_D hD
      obtain ⟨hqe, hg96⟩ := hq
      rw [hqe] at hP hD
      refine lv_aload_n Bx.1 Bx.2.1 d_Rd_readBracket_63 rfl (lv_at hl 1 rfl) ?_
      refine lv_dup Bx.1 Bx.2.1 d_Rd_readBracket_64 rfl ?_
      refine f_get Bx hP (by omega) h9_67 rfl inRd 2 (by decide) kw_146 rfl rfl d_Rd_readBracket_65 ?_
      refine lv_iconst (v := 1) Bx.1 Bx.2.1 d_Rd_readBracket_68 (by decide) ?_
      refine lv_iadd Bx.1 Bx.2.1 d_Rd_readBracket_69 ?_
      rw [show nI g62 + 1 = nI (g62 + 1) from nI_add (g62) (1)]
      refine f_put Bx hP hD hS (by omega) h9_67 rfl inRd tyRd okRd nmRd 2 (by decide) kw_146 rfl rfl rfl rfl (Nat.le_of_ble_eq_true rfl) d_Rd_readBracket_70 (fun H locs hP hS => ?_)
      obtain ⟨mem97, e_mem97⟩ : ∃ z, z = va_up mem41 (222) (.inr (4, [.ref (ad 1), .ref (ad 5), .int (nI (g62 + 1)), .int (ft66)])) := ⟨_, rfl⟩
      have hP : va_P D vcl (fw n ad mem97) H := by rw [e_mem97]; exact hP
      have hD : va_D (Az sz) (fw n ad mem97) := fw_D hD
      have h_mem97 : mem97 (222) = .inr (4, [.ref (ad 1), .ref (ad 5), .int (nI (g62 + 1)), .int (ft66)]) := by rw [e_mem97, va_up_self]
      have hh98 := (va_up_ne mem41 (.inr (4, [.ref (ad 1), .ref (ad 5), .int (nI (g62 + 1)), .int (ft66)])) (show (1 : Nat) ≠ 222 by first | decide | assumption | omega)).trans h1_68
      rw [← e_mem97] at hh98
      have hh99 := (va_up_ne mem41 (.inr (4, [.ref (ad 1), .ref (ad 5), .int (nI (g62 + 1)), .int (ft66)])) (show (5 : Nat) ≠ 222 by first | decide | assumption | omega)).trans h5_70
      rw [← e_mem97] at hh99
      have hh100 := (va_up_ne mem41 (.inr (4, [.ref (ad 1), .ref (ad 5), .int (nI (g62 + 1)), .int (ft66)])) (show (220 : Nat) ≠ 222 by first | decide | assumption | omega)).trans h220_74
      rw [← e_mem97] at hh100
      have hh101 := (va_up_ne mem41 (.inr (4, [.ref (ad 1), .ref (ad 5), .int (nI (g62 + 1)), .int (ft66)])) (show ((20 + 2 * kx42) : Nat) ≠ 222 by first | decide | assumption | omega)).trans he_83
      rw [← e_mem97] at hh101
      have hRX102 : RX cy ad lim (g62 + 1) (R44) (E45) (to48) (nn47) m0 mem97 := by rw [e_mem97]; exact hRX56.at
      refine lv_aload_n Bx.1 Bx.2.1 d_Rd_readBracket_73 rfl (lv_at hl 0 rfl) ?_
      obtain ⟨A29, hsuc9⟩ := Suc.br hent hsc57 (br_pop hwe hA5 (by rw [← eg63]; exact hb90)) (K := A 235) (fun i hi => by rw [entA_5]; exact upd_ne (by omega)) entA_7
      exact x_aret hx hb hlocks hr (⟨kx42, gapF T Z a43 + 1, R44, E45, A29, nn47, to48, rfl, by omega, by omega, by omega, by rw [← eg63]; omega, by rw [← eg63]; have := br_lt hwe hb90; omega, htk55, by rw [← eg63]; exact hRX102, hsuc9⟩) hP hS d_Rd_readBracket_74
set_option maxHeartbeats 4000000 in
set_option maxRecDepth 100000 in
theorem m_Rd_readOption_5X (l : Launch) {D : va_G} {cy : Nat → ClassId} {sz n : Nat} {ad : Nat → Nat} {mem : Nat → va_E} {Z a R Ec lim : Nat} {f T : Nat → Int32} {to : Nat → Int32} {nm : Nat → Int64} {m0 : Nat → va_E} {u : Nat} {A : Ro} (hlt : l.stackTraces = false) (hn : 224 ≤ n) (hT : TX cy ad Z f m0) (hf : ∀ k, k < Z → f k = T k) (hRX : RX cy ad lim a R Ec to nm m0 mem) (haB : a ≤ 300) (haZ : a < Z) : NXr l D cy sz n ad y_Rd_readOption c_Rd_readOption 3 (some (.object "AbnfChart$Element")) ({ frames := 21, cells := 1, slots := 6, locals := 493 } : Room) mem [.ref (ad 222), .int (5)] (fun r mem' => Ec < 100 ∧ ∃ (k' a' R' E' : Nat) (A' : Ro) (nm' : Nat → Int64) (to' : Nat → Int32), r = ad (20 + 2 * k') ∧ Ec ≤ k' ∧ k' < E' ∧ R ≤ R' ∧ a < a' ∧ a' ≤ Z ∧ TOK R R' to to' ∧ RX cy ad lim a' R' E' to' nm' m0 mem' ∧ Suc T Z (entS T Z (a + 1) u R (Ec + 1) 6 (elA A Ec 3) nm 2 (nI Ec)) 5 R (A 235) (A 227) a' R' E' A' nm') (fun X mem' => ((X = cIA ∨ X = cIS) ∧ ∃ rc' ec' : Nat, RS cy ad lim rc' ec' m0 mem') ∧ (Ec = 100 ∨ Fai T Z (entS T Z (a + 1) u R (Ec + 1) 6 (elA A Ec 3) nm 2 (nI Ec)))) := by
  refine vx_ofW (cc := c_Rd_readOption) (maxL := 3) (ret := (some (.object "AbnfChart$Element"))) (by decide) rfl ?_
  intro p e s m args below meth c s₁ B hml hno hv
  obtain ⟨rfl, E, hP, hD⟩ := hv
  have hx := B.exec
  have hb := B.bytes
  have hr := B.returns
  have hlocks := B.notSynchronized
  have Bx : MB p s m [.ref (ad 222), .int (5)].toArray c c_Rd_readOption "AbnfChart$Reader" D cy := ⟨hx, hb, tb_all (atoms_spec B.pre) E.2.1, findClass_of_methodNamed B.named, E.1⟩
  have hS : va_S (Az sz) s.heap s.heap [] := va_S.rf
  have hl := lv_entry ([.ref (ad 222), .int (5)]) (n := 3) (Nat.le_of_ble_eq_true rfl)
  rw [lg_entry_eq]
  generalize (lg_sl ([.ref (ad 222), .int (5)]) ++ List.replicate (3 - (lg_sl ([.ref (ad 222), .int (5)])).length) Slot.unset).toArray = ls at hl ⊢
  have hl : lv_has ls 3 [(0, .ref (ad 222)), (1, .int (5))] := hl
  have hZ9 := hT.2.1
  have hbd9 := hRX.1.1.1
  obtain ⟨ft1, h9_2⟩ := hRX.2.1
  have h1_3 : mem 1 = .inr (0, [.ref (ad 2), .int (nI Z)]) := (hRX.1.2.2 1 (by omega)).trans hT.1
  have h2_4 : mem 2 = .inl (cy 0, 240, .inl f) := (hRX.1.2.2 2 (by omega)).trans hT.2.2
  have h5_5 := hRX.1.1.2.1
  have hbd11 := hRX.1.1.1
  obtain ⟨S6, g7, hS_8, h220_9, h221_10⟩ := hRX.1.1.2.2.2.2.2.2
  refine lv_aload_n Bx.1 Bx.2.1 d_Rd_readOption_0 rfl (lv_at hl 0 rfl) ?_
  refine lv_iconst (v := 3) Bx.1 Bx.2.1 d_Rd_readOption_1 (by decide) ?_
  refine lv_aload_n Bx.1 Bx.2.1 d_Rd_readOption_2 rfl (lv_at hl 0 rfl) ?_
  refine f_get Bx hP (by omega) h9_2 rfl inRd 2 (by decide) kw_146 rfl rfl d_Rd_readOption_3 ?_
  refine f_xVr (na := 2) (As := [.int (3), .int (nI a)]) (rest := []) Bx hml E hP hD hS (by omega) h9_2 rfl (m_Rd_addElementX l hlt hn hT hf hRX (by omega)) kw_419 kw_421 sel_Rd_addElement kw_6 kw_422 (by decide +kernel) ⟨rfl, rfl⟩ ⟨Nat.le_of_ble_eq_true rfl, Nat.le_of_ble_eq_true rfl⟩ rfl hl.1 (Nat.le_of_ble_eq_true rfl) d_Rd_readOption_6 ⟨Nat.le_of_ble_eq_true rfl, Nat.le_of_ble_eq_true rfl⟩ (fun X ce q9 memx H locs hx9 hP hS g1 g2 g3 => f_out hlocks hno hP hS g1 g2 g3 ⟨Nat.le_of_ble_eq_true rfl, Nat.le_of_ble_eq_true rfl⟩ ⟨hx9.1, Or.inl hx9.2⟩) (fun r12 mem13 H locs hq hP hS => ?_)
  have hD : va_D (Az sz) (fw n ad mem13) := fw_D hD
  obtain ⟨hr916, hec15, hRX14⟩ := hq
  subst hr916
  obtain ⟨ft17, h9_18⟩ := hRX14.2.1
  have h1_19 : mem13 1 = .inr (0, [.ref (ad 2), .int (nI Z)]) := (hRX14.1.2.2 1 (by omega)).trans hT.1
  have h2_20 : mem13 2 = .inl (cy 0, 240, .inl f) := (hRX14.1.2.2 2 (by omega)).trans hT.2.2
  have h5_21 := hRX14.1.1.2.1
  have hbd27 := hRX14.1.1.1
  obtain ⟨S22, g23, hS_24, h220_25, h221_26⟩ := hRX14.1.1.2.2.2.2.2.2
  obtain ⟨k28, lo29, hi30, as31, pa32, ne33, he_34, ho_35⟩ := (hRX14.1.1.2.2.2.2.2.1 Ec (by omega)).1
  refine lv_astore_n (lv' := [(2, .ref (ad (20 + 2 * Ec))), (0, .ref (ad 222)), (1, .int (5))]) Bx.1 Bx.2.1 d_Rd_readOption_9 rfl hl (by decide) rfl (fun ls hl => ?_)
  refine lv_aload_n Bx.1 Bx.2.1 d_Rd_readOption_10 rfl (lv_at hl 0 rfl) ?_
  refine lv_aload_n Bx.1 Bx.2.1 d_Rd_readOption_11 rfl (lv_at hl 1 rfl) ?_
  refine lv_iload_n Bx.1 Bx.2.1 d_Rd_readOption_12 rfl (lv_at hl 2 rfl) ?_
  refine lv_bipush (v := 93) Bx.1 Bx.2.1 d_Rd_readOption_13 (by decide) ?_
  refine f_xVr (na := 2) (As := [.int (5), .int (93)]) (rest := [.ref (ad (20 + 2 * Ec))]) Bx hml E hP hD hS (by omega) h9_18 rfl (m_Rd_readBracket_5X l hlt hn hT hf hRX14 (by omega) (u := u) (A := elA A Ec 3) (by omega) (Or.inr ⟨rfl, rfl⟩)) kw_447 kw_449 sel_Rd_readBracket kw_6 kw_450 (by decide +kernel) ⟨rfl, rfl⟩ ⟨Nat.le_of_ble_eq_true rfl, Nat.le_of_ble_eq_true rfl⟩ rfl hl.1 (Nat.le_of_ble_eq_true rfl) d_Rd_readOption_15 ⟨Nat.le_of_ble_eq_true rfl, Nat.le_of_ble_eq_true rfl⟩ (fun X ce q9 memx H locs hx9 hP hS g1 g2 g3 => f_out hlocks hno hP hS g1 g2 g3 ⟨Nat.le_of_ble_eq_true rfl, Nat.le_of_ble_eq_true rfl⟩ ⟨hx9.1, Or.inr hx9.2⟩) (fun r36 mem37 H locs hq hP hS => ?_)
  have hD : va_D (Az sz) (fw n ad mem37) := fw_D hD
  obtain ⟨kx38, a39, R40, E41, A42, nn43, to44, hr945, hb46, hb47, hb48, hb49, hb50, htk51, hRX52, hsc53⟩ := hq
  subst hr945
  obtain ⟨ft54, h9_55⟩ := hRX52.2.1
  have h1_56 : mem37 1 = .inr (0, [.ref (ad 2), .int (nI Z)]) := (hRX52.1.2.2 1 (by omega)).trans hT.1
  have h2_57 : mem37 2 = .inl (cy 0, 240, .inl f) := (hRX52.1.2.2 2 (by omega)).trans hT.2.2
  have h5_58 := hRX52.1.1.2.1
  have hbd64 := hRX52.1.1.1
  obtain ⟨S59, g60, hS_61, h220_62, h221_63⟩ := hRX52.1.1.2.2.2.2.2.2
  obtain ⟨k65, lo66, hi67, as68, pa69, ne70, he_71, ho_72⟩ := (hRX52.1.1.2.2.2.2.2.1 Ec (by omega)).1
  obtain ⟨k73, lo74, hi75, as76, pa77, ne78, he_79, ho_80⟩ := (hRX52.1.1.2.2.2.2.2.1 kx38 (by omega)).1
  have hbd81 := hRX52.1.1.1
  refine f_putN Bx hP hD hS (by omega) he_71 rfl inEl tyEl okEl nmEl 4 (by decide) kw_87 rfl rfl rfl rfl (Nat.le_of_ble_eq_true rfl) d_Rd_readOption_18 (fun H locs hP hS => ?_)
  obtain ⟨mem82, e_mem82⟩ : ∃ z, z = va_up mem37 ((20 + 2 * Ec)) (.inr (2, [.int (k65), .int (lo66), .int (hi67), as68, .ref (ad (20 + 2 * kx38)), ne70, .ref (ad (21 + 2 * Ec))])) := ⟨_, rfl⟩
  have hP : va_P D vcl (fw n ad mem82) H := by rw [e_mem82]; exact hP
  have hD : va_D (Az sz) (fw n ad mem82) := fw_D hD
  have h_mem82 : mem82 ((20 + 2 * Ec)) = .inr (2, [.int (k65), .int (lo66), .int (hi67), as68, .ref (ad (20 + 2 * kx38)), ne70, .ref (ad (21 + 2 * Ec))]) := by rw [e_mem82, va_up_self]
  have hh83 := (va_up_ne mem37 (.inr (2, [.int (k65), .int (lo66), .int (hi67), as68, .ref (ad (20 + 2 * kx38)), ne70, .ref (ad (21 + 2 * Ec))])) (show (222 : Nat) ≠ (20 + 2 * Ec) by first | decide | assumption | omega)).trans h9_55
  rw [← e_mem82] at hh83
  have hh84 := (va_up_ne mem37 (.inr (2, [.int (k65), .int (lo66), .int (hi67), as68, .ref (ad (20 + 2 * kx38)), ne70, .ref (ad (21 + 2 * Ec))])) (show (1 : Nat) ≠ (20 + 2 * Ec) by first | decide | assumption | omega)).trans h1_56
  rw [← e_mem82] at hh84
  have hh85 := (va_up_ne mem37 (.inr (2, [.int (k65), .int (lo66), .int (hi67), as68, .ref (ad (20 + 2 * kx38)), ne70, .ref (ad (21 + 2 * Ec))])) (show (5 : Nat) ≠ (20 + 2 * Ec) by first | decide | assumption | omega)).trans h5_58
  rw [← e_mem82] at hh85
  have hh86 := (va_up_ne mem37 (.inr (2, [.int (k65), .int (lo66), .int (hi67), as68, .ref (ad (20 + 2 * kx38)), ne70, .ref (ad (21 + 2 * Ec))])) (show (220 : Nat) ≠ (20 + 2 * Ec) by first | decide | assumption | omega)).trans h220_62
  rw [← e_mem82] at hh86
  have hh87 := (va_up_ne mem37 (.inr (2, [.int (k65), .int (lo66), .int (hi67), as68, .ref (ad (20 + 2 * kx38)), ne70, .ref (ad (21 + 2 * Ec))])) (show ((20 + 2 * kx38) : Nat) ≠ (20 + 2 * Ec) by first | decide | assumption | omega)).trans he_79
  rw [← e_mem82] at hh87
  have hRX88 : RX cy ad lim (a39) (R40) (E41) (to44) (nn43) m0 mem82 := by rw [e_mem82]; exact hRX52.el (by omega) (hRX52.1.mk (by omega) (hRX52.1.1.upEl (by omega) (fun q9 => ⟨(ho_72 q9).1, Or.inr ⟨kx38, by omega, by omega, rfl⟩, (ho_72 q9).2.2⟩)))
  refine lv_aload_n Bx.1 Bx.2.1 d_Rd_readOption_21 rfl (lv_at hl 0 rfl) ?_
  exact x_aret hx hb hlocks hr (⟨hec15, ⟨Ec, a39, R40, E41, _, nn43, to44, rfl, by omega, by omega, by omega, by omega, by omega, htk51, hRX88, hsc53.eq rfl (elA_ne (by decide)) (elA_ne (by decide))⟩⟩) hP hS d_Rd_readOption_22
set_option maxHeartbeats 4000000 in
set_option maxRecDepth 100000 in
theorem m_Rd_readElement_5X (l : Launch) {D : va_G} {cy : Nat → ClassId} {sz n : Nat} {ad : Nat → Nat} {mem : Nat → va_E} {Z a R Ec lim : Nat} {f T : Nat → Int32} {to : Nat → Int32} {nm : Nat → Int64} {m0 : Nat → va_E} {u : Nat} {A : Ro} (hlt : l.stackTraces = false) (hn : 224 ≤ n) (hT : TX cy ad Z f m0) (hf : ∀ k, k < Z → f k = T k) (hRX : RX cy ad lim a R Ec to nm m0 mem) (haB : a ≤ 300) (haZ : a ≤ Z) : NXr l D cy sz n ad y_Rd_readElement c_Rd_readElement 2 (some (.object "AbnfChart$Element")) ({ frames := 22, cells := 1, slots := 6, locals := 516 } : Room) mem [.ref (ad 222), .int (5)] (fun r mem' => ∃ (k' a' R' E' : Nat) (A' : Ro) (nm' : Nat → Int64) (to' : Nat → Int32), r = ad (20 + 2 * k') ∧ Ec ≤ k' ∧ k' < E' ∧ R ≤ R' ∧ a < a' ∧ a' ≤ Z ∧ TOK R R' to to' ∧ RX cy ad lim a' R' E' to' nm' m0 mem' ∧ Suc T Z (singS T Z a u R Ec 5 A nm) 5 R (A 235) (A 227) a' R' E' A' nm' ∧ OKc (hereF Z T a)) (fun X mem' => ((X = cIA ∨ X = cIS) ∧ ∃ rc' ec' : Nat, RS cy ad lim rc' ec' m0 mem') ∧ (Fai T Z (singS T Z a u R Ec 5 A nm) ∨ ¬ OKc (hereF Z T a))) := by
  refine vx_ofW (cc := c_Rd_readElement) (maxL := 2) (ret := (some (.object "AbnfChart$Element"))) (by decide) rfl ?_
  intro p e s m args below meth c s₁ B hml hno hv
  obtain ⟨rfl, E, hP, hD⟩ := hv
  have hx := B.exec
  have hb := B.bytes
  have hr := B.returns
  have hlocks := B.notSynchronized
  have Bx : MB p s m [.ref (ad 222), .int (5)].toArray c c_Rd_readElement "AbnfChart$Reader" D cy := ⟨hx, hb, tb_all (atoms_spec B.pre) E.2.1, findClass_of_methodNamed B.named, E.1⟩
  have hS : va_S (Az sz) s.heap s.heap [] := va_S.rf
  have hl := lv_entry ([.ref (ad 222), .int (5)]) (n := 2) (Nat.le_of_ble_eq_true rfl)
  rw [lg_entry_eq]
  generalize (lg_sl ([.ref (ad 222), .int (5)]) ++ List.replicate (2 - (lg_sl ([.ref (ad 222), .int (5)])).length) Slot.unset).toArray = ls at hl ⊢
  have hl : lv_has ls 2 [(0, .ref (ad 222)), (1, .int (5))] := hl
  have hZ9 := hT.2.1
  have hbd9 := hRX.1.1.1
  obtain ⟨ft1, h9_2⟩ := hRX.2.1
  have h1_3 : mem 1 = .inr (0, [.ref (ad 2), .int (nI Z)]) := (hRX.1.2.2 1 (by omega)).trans hT.1
  have h2_4 : mem 2 = .inl (cy 0, 240, .inl f) := (hRX.1.2.2 2 (by omega)).trans hT.2.2
  have h5_5 := hRX.1.1.2.1
  have hbd11 := hRX.1.1.1
  obtain ⟨S6, g7, hS_8, h220_9, h221_10⟩ := hRX.1.1.2.2.2.2.2.2
  refine lv_aload_n Bx.1 Bx.2.1 d_Rd_readElement_0 rfl (lv_at hl 0 rfl) ?_
  refine f_callVi (na := 0) (As := []) (rest := []) Bx hml E hP hD hS (by omega) h9_2 rfl (m_Rd_peekX l hn hT hf hRX (by omega)) kw_353 kw_355 sel_Rd_peek kw_6 kw_356 (by decide +kernel) ⟨rfl, rfl⟩ ⟨Nat.le_of_ble_eq_true rfl, Nat.le_of_ble_eq_true rfl⟩ rfl hl.1 (Nat.le_of_ble_eq_true rfl) d_Rd_readElement_1 ⟨Nat.le_of_ble_eq_true rfl, Nat.le_of_ble_eq_true rfl⟩ (fun r13 mem14 H locs hq hP hS => ?_)
  have hD : va_D (Az sz) (fw n ad mem14) := fw_D hD
  obtain ⟨hqe, hpk12⟩ := hq
  rw [hqe] at hP hD
  subst hpk12
  refine lv_topi (fun v16 e_v16 => ?_)
  by_cases c34 : v16 = 34
  · rw [c34]
    refine lv_lookup (off := 58) (tgt := 62) Bx.1 Bx.2.1 d_Rd_readElement_4 (by decide) (by decide) rfl ?_
    rw [e_v16] at c34
    have hlt34 := hereF_lt (show hereF Z T (a) ≠ -1 by rw [c34]; decide)
    refine lv_aload_n Bx.1 Bx.2.1 d_Rd_readElement_62 rfl (lv_at hl 0 rfl) ?_
    refine lv_aload_n Bx.1 Bx.2.1 d_Rd_readElement_63 rfl (lv_at hl 0 rfl) ?_
    refine f_get Bx hP (by omega) h9_2 rfl inRd 2 (by decide) kw_146 rfl rfl d_Rd_readElement_64 ?_
    refine lv_iconst (v := 5) Bx.1 Bx.2.1 d_Rd_readElement_67 (by decide) ?_
    refine f_xVr (na := 2) (As := [.int (nI a), .int (5)]) (rest := []) Bx hml E hP hD hS (by omega) h9_2 rfl (m_Rd_readStringX l hlt hn hT hf hRX (by omega) (by omega)) kw_455 kw_457 sel_Rd_readString kw_6 kw_458 (by decide +kernel) ⟨rfl, rfl⟩ ⟨Nat.le_of_ble_eq_true rfl, Nat.le_of_ble_eq_true rfl⟩ rfl hl.1 (Nat.le_of_ble_eq_true rfl) d_Rd_readElement_68 ⟨Nat.le_of_ble_eq_true rfl, Nat.le_of_ble_eq_true rfl⟩ (fun X ce q9 memx H locs hx9 hP hS g1 g2 g3 => f_out hlocks hno hP hS g1 g2 g3 ⟨Nat.le_of_ble_eq_true rfl, Nat.le_of_ble_eq_true rfl⟩ ⟨hx9.1, Or.inl (fai_str c34 hx9.2 hbd9.2.1)⟩) (fun r17 mem18 H locs hq hP hS => ?_)
    have hD : va_D (Az sz) (fw n ad mem18) := fw_D hD
    obtain ⟨hE9, hq9, hr2, hle9, hRX2⟩ := hq
    subst hr2
    obtain ⟨A2, hsc2⟩ := suc_str (u := u) (R := R) (f := 5) (A := A) (nm := nm) c34 hE9 hq9
    exact x_aret hx hb hlocks hr (⟨Ec, _, R, Ec + 1, A2, nm, to, rfl, by omega, by omega, by omega, by omega, hle9, TOK.of rfl, hRX2, hsc2, (l34 c34).2.2.2⟩) hP hS d_Rd_readElement_71
  by_cases c37 : v16 = 37
  · rw [c37]
    refine lv_lookup (off := 68) (tgt := 72) Bx.1 Bx.2.1 d_Rd_readElement_4 (by decide) (by decide) rfl ?_
    rw [e_v16] at c37
    have hlt37 := hereF_lt (show hereF Z T (a) ≠ -1 by rw [c37]; decide)
    refine lv_aload_n Bx.1 Bx.2.1 d_Rd_readElement_72 rfl (lv_at hl 0 rfl) ?_
    refine f_get Bx hP (by omega) h9_2 rfl inRd 0 (by decide) kw_144 rfl rfl d_Rd_readElement_73 ?_
    refine lv_aload_n Bx.1 Bx.2.1 d_Rd_readElement_76 rfl (lv_at hl 0 rfl) ?_
    refine f_get Bx hP (by omega) h9_2 rfl inRd 2 (by decide) kw_146 rfl rfl d_Rd_readElement_77 ?_
    refine lv_iconst (v := 1) Bx.1 Bx.2.1 d_Rd_readElement_80 (by decide) ?_
    refine lv_iadd Bx.1 Bx.2.1 d_Rd_readElement_81 ?_
    rw [show nI a + 1 = nI (a + 1) from nI_add (a) (1)]
    refine f_callVi (na := 1) (As := [.int (nI (a + 1))]) (rest := []) Bx hml E hP hD hS (by omega) h1_3 rfl (m_Ch_codeAt l (by omega) h1_3 (by omega) h2_4 (by rw [nI_toInt (by omega)]; omega)) kw_341 kw_342 kw_343 kw_2 kw_344 (by decide +kernel) ⟨rfl, rfl⟩ ⟨Nat.le_of_ble_eq_true rfl, Nat.le_of_ble_eq_true rfl⟩ rfl hl.1 (Nat.le_of_ble_eq_true rfl) d_Rd_readElement_82 ⟨Nat.le_of_ble_eq_true rfl, Nat.le_of_ble_eq_true rfl⟩ (fun r19 mem20 H locs hq hP hS => ?_)
    have hD : va_D (Az sz) (fw n ad mem20) := fw_D hD
    obtain ⟨hco21, hqe⟩ := hq
    rw [hqe] at hP hD
    rw [code_here hf hT.2.1 (k := a + 1) (by omega)] at hco21
    subst hco21
    refine f_callSNi (na := 1) (As := [.int (hereF Z T (a + 1))]) (rest := []) Bx hml E.2.1 (m_Ab_smallOfX l (hereF Z T (a + 1))) kw_372 kw_373 kw_1 kw_374 (by decide +kernel) ⟨rfl, rfl⟩ ⟨Nat.le_of_ble_eq_true rfl, Nat.le_of_ble_eq_true rfl⟩ rfl hl.1 (Nat.le_of_ble_eq_true rfl) d_Rd_readElement_85 ⟨Nat.le_of_ble_eq_true rfl, Nat.le_of_ble_eq_true rfl⟩ (fun r23 hs22 => ?_)
    subst hs22
    refine lv_bipush (v := 115) Bx.1 Bx.2.1 d_Rd_readElement_88 (by decide) ?_
    refine lv_icmp_ne Bx.1 Bx.2.1 d_Rd_readElement_90 rfl (fun hb24 => ?_) (fun hb24 => ?_)
    · refine lv_aload_n Bx.1 Bx.2.1 d_Rd_readElement_100 rfl (lv_at hl 0 rfl) ?_
      refine f_xVr (na := 0) (As := []) (rest := []) Bx hml E hP hD hS (by omega) h9_2 rfl (m_Rd_readValueX l hlt hn hT hf hRX (by omega) (by omega)) kw_467 kw_469 sel_Rd_readValue kw_6 kw_470 (by decide +kernel) ⟨rfl, rfl⟩ ⟨Nat.le_of_ble_eq_true rfl, Nat.le_of_ble_eq_true rfl⟩ rfl hl.1 (Nat.le_of_ble_eq_true rfl) d_Rd_readElement_101 ⟨Nat.le_of_ble_eq_true rfl, Nat.le_of_ble_eq_true rfl⟩ (fun X ce q9 memx H locs hx9 hP hS g1 g2 g3 => f_out hlocks hno hP hS g1 g2 g3 ⟨Nat.le_of_ble_eq_true rfl, Nat.le_of_ble_eq_true rfl⟩ ⟨hx9.1, Or.inl (fai_val c37 hb24 hx9.2 hbd9.2.1)⟩) (fun r25 mem26 H locs hq hP hS => ?_)
      have hD : va_D (Az sz) (fw n ad mem26) := fw_D hD
      obtain ⟨hE9, ba, a2, hba, hp9, hr2, x1, x2, hRX2⟩ := hq
      subst hr2
      obtain ⟨A2, hsc2⟩ := suc_val (u := u) (R := R) (f := 5) (A := A) (nm := nm) c37 hba hE9 hp9
      exact x_aret hx hb hlocks hr (⟨Ec, a2, R, Ec + 1, A2, nm, to, rfl, by omega, by omega, by omega, x1, x2, TOK.of rfl, hRX2, hsc2, (l37 c37).2.2.2.2⟩) hP hS d_Rd_readElement_104
    · refine lv_aload_n Bx.1 Bx.2.1 d_Rd_readElement_93 rfl (lv_at hl 0 rfl) ?_
      refine f_xVr (na := 0) (As := []) (rest := []) Bx hml E hP hD hS (by omega) h9_2 rfl (m_Rd_readExactStringX l hlt hn hT hf hRX (by omega) (by omega)) kw_463 kw_465 sel_Rd_readExactString kw_6 kw_466 (by decide +kernel) ⟨rfl, rfl⟩ ⟨Nat.le_of_ble_eq_true rfl, Nat.le_of_ble_eq_true rfl⟩ rfl hl.1 (Nat.le_of_ble_eq_true rfl) d_Rd_readElement_94 ⟨Nat.le_of_ble_eq_true rfl, Nat.le_of_ble_eq_true rfl⟩ (fun X ce q9 memx H locs hx9 hP hS g1 g2 g3 => f_out hlocks hno hP hS g1 g2 g3 ⟨Nat.le_of_ble_eq_true rfl, Nat.le_of_ble_eq_true rfl⟩ ⟨hx9.1, Or.inl (fai_xst c37 hb24 hx9.2 hbd9.2.1)⟩) (fun r27 mem28 H locs hq hP hS => ?_)
      have hD : va_D (Az sz) (fw n ad mem28) := fw_D hD
      obtain ⟨hq8, hE9, hq9, hr2, hle9, hRX2⟩ := hq
      subst hr2
      obtain ⟨A2, hsc2⟩ := suc_xst (u := u) (R := R) (f := 5) (A := A) (nm := nm) c37 hb24 hq8 hE9 hq9
      refine lv_goto Bx.1 Bx.2.1 d_Rd_readElement_97 rfl ?_
      exact x_aret hx hb hlocks hr (⟨Ec, _, R, Ec + 1, A2, nm, to, rfl, by omega, by omega, by omega, by omega, hle9, TOK.of rfl, hRX2, hsc2, (l37 c37).2.2.2.2⟩) hP hS d_Rd_readElement_104
  by_cases c40 : v16 = 40
  · rw [c40]
    refine lv_lookup (off := 44) (tgt := 48) Bx.1 Bx.2.1 d_Rd_readElement_4 (by decide) (by decide) rfl ?_
    rw [e_v16] at c40
    have hlt40 := hereF_lt (show hereF Z T (a) ≠ -1 by rw [c40]; decide)
    refine lv_aload_n Bx.1 Bx.2.1 d_Rd_readElement_48 rfl (lv_at hl 0 rfl) ?_
    refine lv_iload_n Bx.1 Bx.2.1 d_Rd_readElement_49 rfl (lv_at hl 1 rfl) ?_
    refine lv_bipush (v := 41) Bx.1 Bx.2.1 d_Rd_readElement_50 (by decide) ?_
    refine f_xVr (na := 2) (As := [.int (5), .int (41)]) (rest := []) Bx hml E hP hD hS (by omega) h9_2 rfl (m_Rd_readBracket_5X l hlt hn hT hf hRX (by omega) (u := u) (A := A) (by omega) (Or.inl ⟨rfl, rfl⟩) (what := 1) (oe := -1)) kw_447 kw_449 sel_Rd_readBracket kw_6 kw_450 (by decide +kernel) ⟨rfl, rfl⟩ ⟨Nat.le_of_ble_eq_true rfl, Nat.le_of_ble_eq_true rfl⟩ rfl hl.1 (Nat.le_of_ble_eq_true rfl) d_Rd_readElement_52 ⟨Nat.le_of_ble_eq_true rfl, Nat.le_of_ble_eq_true rfl⟩ (fun X ce q9 memx H locs hx9 hP hS g1 g2 g3 => f_out hlocks hno hP hS g1 g2 g3 ⟨Nat.le_of_ble_eq_true rfl, Nat.le_of_ble_eq_true rfl⟩ ⟨hx9.1, Or.inl (hx9.2.eq (sing_br (l40 c40).1 c40 (by omega)))⟩) (fun r29 mem30 H locs hq hP hS => ?_)
    have hD : va_D (Az sz) (fw n ad mem30) := fw_D hD
    obtain ⟨kx31, a32, R33, E34, A35, nn36, to37, hr938, hb39, hb40, hb41, hb42, hb43, htk44, hRX45, hsc46⟩ := hq
    subst hr938
    obtain ⟨ft47, h9_48⟩ := hRX45.2.1
    have h1_49 : mem30 1 = .inr (0, [.ref (ad 2), .int (nI Z)]) := (hRX45.1.2.2 1 (by omega)).trans hT.1
    have h2_50 : mem30 2 = .inl (cy 0, 240, .inl f) := (hRX45.1.2.2 2 (by omega)).trans hT.2.2
    have h5_51 := hRX45.1.1.2.1
    have hbd57 := hRX45.1.1.1
    obtain ⟨S52, g53, hS_54, h220_55, h221_56⟩ := hRX45.1.1.2.2.2.2.2.2
    obtain ⟨k58, lo59, hi60, as61, pa62, ne63, he_64, ho_65⟩ := (hRX45.1.1.2.2.2.2.2.1 kx31 (by omega)).1
    have hbd66 := hRX45.1.1.1
    exact x_aret hx hb hlocks hr (⟨kx31, a32, R33, E34, _, nn36, to37, rfl, by omega, by omega, by omega, by omega, by omega, htk44, hRX45, hsc46.eq (sing_br (l40 c40).1 c40 (by omega)) rfl rfl, (l40 c40).2⟩) hP hS d_Rd_readElement_55
  by_cases c91 : v16 = 91
  · rw [c91]
    refine lv_lookup (off := 52) (tgt := 56) Bx.1 Bx.2.1 d_Rd_readElement_4 (by decide) (by decide) rfl ?_
    rw [e_v16] at c91
    have hlt91 := hereF_lt (show hereF Z T (a) ≠ -1 by rw [c91]; decide)
    refine lv_aload_n Bx.1 Bx.2.1 d_Rd_readElement_56 rfl (lv_at hl 0 rfl) ?_
    refine lv_iload_n Bx.1 Bx.2.1 d_Rd_readElement_57 rfl (lv_at hl 1 rfl) ?_
    refine f_xVr (na := 1) (As := [.int (5)]) (rest := []) Bx hml E hP hD hS (by omega) h9_2 rfl (m_Rd_readOption_5X l hlt hn hT hf hRX (by omega) (u := u) (A := A) (by omega)) kw_451 kw_453 sel_Rd_readOption kw_6 kw_454 (by decide +kernel) ⟨rfl, rfl⟩ ⟨Nat.le_of_ble_eq_true rfl, Nat.le_of_ble_eq_true rfl⟩ rfl hl.1 (Nat.le_of_ble_eq_true rfl) d_Rd_readElement_58 ⟨Nat.le_of_ble_eq_true rfl, Nat.le_of_ble_eq_true rfl⟩ (fun X ce q9 memx H locs hx9 hP hS g1 g2 g3 => f_out hlocks hno hP hS g1 g2 g3 ⟨Nat.le_of_ble_eq_true rfl, Nat.le_of_ble_eq_true rfl⟩ ⟨hx9.1, Or.inl (by
        by_cases q9 : Ec = 100
        · exact Or.inl (sing_o0 (l91 c91).1 c91 (Or.inr q9))
        · exact (hx9.2.resolve_left q9).eq (sing_op (l91 c91).1 c91 (by omega) (by omega)))⟩) (fun r67 mem68 H locs hq hP hS => ?_)
    have hD : va_D (Az sz) (fw n ad mem68) := fw_D hD
    obtain ⟨hE9, k2, a2, R2, E2, A2, n2, t2, hr2, x1, x2, x3, x4, x5, htk2, hRX2, hsc2⟩ := hq
    subst hr2
    exact x_aret hx hb hlocks hr (⟨k2, a2, R2, E2, A2, n2, t2, rfl, x1, x2, x3, x4, x5, htk2, hRX2, hsc2.eq (sing_op (l91 c91).1 c91 (by omega) hE9) rfl rfl, (l91 c91).2⟩) hP hS d_Rd_readElement_61
  refine lv_lookup (off := 101) (tgt := 105) Bx.1 Bx.2.1 d_Rd_readElement_4 (by decide) (by show Op.lookupswitch.offset [(34, 58), (37, 68), (40, 44), (91, 52)] 101 (v16).toInt = 101; rw [lv_osw c34 (by decide), lv_osw c37 (by decide), lv_osw c40 (by decide), lv_osw c91 (by decide)]; rfl) rfl ?_
  rw [e_v16] at c40 c91 c34 c37
  refine lv_aload_n Bx.1 Bx.2.1 d_Rd_readElement_105 rfl (lv_at hl 0 rfl) ?_
  refine f_xVr (na := 0) (As := []) (rest := []) Bx hml E hP hD hS (by omega) h9_2 rfl (m_Rd_readAskedNameX l hlt hn hT hf hRX (by omega) (A := A) (by omega)) kw_478 kw_480 sel_Rd_readAskedName kw_6 kw_481 (by decide +kernel) ⟨rfl, rfl⟩ ⟨Nat.le_of_ble_eq_true rfl, Nat.le_of_ble_eq_true rfl⟩ rfl hl.1 (Nat.le_of_ble_eq_true rfl) d_Rd_readElement_106 ⟨Nat.le_of_ble_eq_true rfl, Nat.le_of_ble_eq_true rfl⟩ (fun X ce q9 memx H locs hx9 hP hS g1 g2 g3 => f_out hlocks hno hP hS g1 g2 g3 ⟨Nat.le_of_ble_eq_true rfl, Nat.le_of_ble_eq_true rfl⟩ ⟨hx9.1, fai_nam c40 c91 c34 c37 hx9.2⟩) (fun r69 mem70 H locs hq hP hS => ?_)
  have hD : va_D (Az sz) (fw n ad mem70) := fw_D hD
  obtain ⟨i9, a2, R2, A3, n2, hsn, hle, hE9, hr2, x1, x2, x3, hA3, htk, t2, htk2, hRX2⟩ := hq
  subst hr2
  obtain ⟨A2, hsc2⟩ := suc_nam (u := u) (f := 5) hle hsn hE9 hA3 htk
  exact x_aret hx hb hlocks hr (⟨Ec, a2, R2, Ec + 1, A2, n2, t2, rfl, by omega, by omega, x1, x2, x3, htk2, hRX2, hsc2, lt_ok hle⟩) hP hS d_Rd_readElement_109
set_option maxHeartbeats 4000000 in
set_option maxRecDepth 100000 in
theorem m_Rd_readRepetition_5X (l : Launch) {D : va_G} {cy : Nat → ClassId} {sz n : Nat} {ad : Nat → Nat} {mem : Nat → va_E} {Z a R Ec lim : Nat} {f T : Nat → Int32} {to : Nat → Int32} {nm : Nat → Int64} {m0 : Nat → va_E} {u : Nat} {A : Ro} (hlt : l.stackTraces = false) (hn : 224 ≤ n) (hT : TX cy ad Z f m0) (hf : ∀ k, k < Z → f k = T k) (hRX : RX cy ad lim a R Ec to nm m0 mem) (haB : a ≤ 300) (haZ : a ≤ Z) (hbg : bgF (hereF Z T a) = true) : NXr l D cy sz n ad y_Rd_readRepetition c_Rd_readRepetition 3 (some (.object "AbnfChart$Element")) ({ frames := 23, cells := 1, slots := 6, locals := 538 } : Room) mem [.ref (ad 222), .int (5)] (fun r mem' => ∃ (k' a' R' E' : Nat) (A' : Ro) (nm' : Nat → Int64) (to' : Nat → Int32), r = ad (20 + 2 * k') ∧ Ec ≤ k' ∧ k' < E' ∧ R ≤ R' ∧ a < a' ∧ a' ≤ Z ∧ TOK R R' to to' ∧ RX cy ad lim a' R' E' to' nm' m0 mem' ∧ Suc T Z (repS T Z a u R Ec 5 A nm) 5 R (A 235) (A 227) a' R' E' A' nm') (fun X mem' => ((X = cIA ∨ X = cIS) ∧ ∃ rc' ec' : Nat, RS cy ad lim rc' ec' m0 mem') ∧ (Fai T Z (repS T Z a u R Ec 5 A nm))) := by
  refine vx_ofW (cc := c_Rd_readRepetition) (maxL := 3) (ret := (some (.object "AbnfChart$Element"))) (by decide) rfl ?_
  intro p e s m args below meth c s₁ B hml hno hv
  obtain ⟨rfl, E, hP, hD⟩ := hv
  have hx := B.exec
  have hb := B.bytes
  have hr := B.returns
  have hlocks := B.notSynchronized
  have Bx : MB p s m [.ref (ad 222), .int (5)].toArray c c_Rd_readRepetition "AbnfChart$Reader" D cy := ⟨hx, hb, tb_all (atoms_spec B.pre) E.2.1, findClass_of_methodNamed B.named, E.1⟩
  have hS : va_S (Az sz) s.heap s.heap [] := va_S.rf
  have hl := lv_entry ([.ref (ad 222), .int (5)]) (n := 3) (Nat.le_of_ble_eq_true rfl)
  rw [lg_entry_eq]
  generalize (lg_sl ([.ref (ad 222), .int (5)]) ++ List.replicate (3 - (lg_sl ([.ref (ad 222), .int (5)])).length) Slot.unset).toArray = ls at hl ⊢
  have hl : lv_has ls 3 [(0, .ref (ad 222)), (1, .int (5))] := hl
  have hZ9 := hT.2.1
  have hbd9 := hRX.1.1.1
  obtain ⟨ft1, h9_2⟩ := hRX.2.1
  have h1_3 : mem 1 = .inr (0, [.ref (ad 2), .int (nI Z)]) := (hRX.1.2.2 1 (by omega)).trans hT.1
  have h2_4 : mem 2 = .inl (cy 0, 240, .inl f) := (hRX.1.2.2 2 (by omega)).trans hT.2.2
  have h5_5 := hRX.1.1.2.1
  have hbd11 := hRX.1.1.1
  obtain ⟨S6, g7, hS_8, h220_9, h221_10⟩ := hRX.1.1.2.2.2.2.2.2
  refine lv_aload_n Bx.1 Bx.2.1 d_Rd_readRepetition_0 rfl (lv_at hl 0 rfl) ?_
  refine f_callVi (na := 0) (As := []) (rest := []) Bx hml E hP hD hS (by omega) h9_2 rfl (m_Rd_peekX l hn hT hf hRX (by omega)) kw_353 kw_355 sel_Rd_peek kw_6 kw_356 (by decide +kernel) ⟨rfl, rfl⟩ ⟨Nat.le_of_ble_eq_true rfl, Nat.le_of_ble_eq_true rfl⟩ rfl hl.1 (Nat.le_of_ble_eq_true rfl) d_Rd_readRepetition_1 ⟨Nat.le_of_ble_eq_true rfl, Nat.le_of_ble_eq_true rfl⟩ (fun r13 mem14 H locs hq hP hS => ?_)
  have hD : va_D (Az sz) (fw n ad mem14) := fw_D hD
  obtain ⟨hqe, hpk12⟩ := hq
  rw [hqe] at hP hD
  subst hpk12
  refine f_callSi (na := 1) (As := [.int (hereF Z T (a))]) (rest := []) Bx hml E.2.1 (m_Rd_beginsRepeatX l (hereF Z T (a))) kw_416 kw_417 kw_6 kw_418 (by decide +kernel) ⟨rfl, rfl⟩ ⟨Nat.le_of_ble_eq_true rfl, Nat.le_of_ble_eq_true rfl⟩ rfl hl.1 (Nat.le_of_ble_eq_true rfl) d_Rd_readRepetition_4 ⟨Nat.le_of_ble_eq_true rfl, Nat.le_of_ble_eq_true rfl⟩ (fun r17 hs16 => ?_)
  subst hs16
  refine lv_if_ne Bx.1 Bx.2.1 d_Rd_readRepetition_7 rfl (fun hb18 => ?_) (fun hb18 => ?_)
  · refine lv_aload_n Bx.1 Bx.2.1 d_Rd_readRepetition_16 rfl (lv_at hl 0 rfl) ?_
    refine lv_iconst (v := 2) Bx.1 Bx.2.1 d_Rd_readRepetition_17 (by decide) ?_
    refine lv_aload_n Bx.1 Bx.2.1 d_Rd_readRepetition_18 rfl (lv_at hl 0 rfl) ?_
    refine f_get Bx hP (by omega) h9_2 rfl inRd 2 (by decide) kw_146 rfl rfl d_Rd_readRepetition_19 ?_
    refine f_xVr (na := 2) (As := [.int (2), .int (nI a)]) (rest := []) Bx hml E hP hD hS (by omega) h9_2 rfl (m_Rd_addElementX l hlt hn hT hf hRX (by omega)) kw_419 kw_421 sel_Rd_addElement kw_6 kw_422 (by decide +kernel) ⟨rfl, rfl⟩ ⟨Nat.le_of_ble_eq_true rfl, Nat.le_of_ble_eq_true rfl⟩ rfl hl.1 (Nat.le_of_ble_eq_true rfl) d_Rd_readRepetition_22 ⟨Nat.le_of_ble_eq_true rfl, Nat.le_of_ble_eq_true rfl⟩ (fun X ce q9 memx H locs hx9 hP hS g1 g2 g3 => f_out hlocks hno hP hS g1 g2 g3 ⟨Nat.le_of_ble_eq_true rfl, Nat.le_of_ble_eq_true rfl⟩ ⟨hx9.1, Or.inl (rep_E (bpF_1 hb18) hx9.2)⟩) (fun r19 mem20 H locs hq hP hS => ?_)
    have hD : va_D (Az sz) (fw n ad mem20) := fw_D hD
    obtain ⟨hr923, hec22, hRX21⟩ := hq
    subst hr923
    obtain ⟨ft24, h9_25⟩ := hRX21.2.1
    have h1_26 : mem20 1 = .inr (0, [.ref (ad 2), .int (nI Z)]) := (hRX21.1.2.2 1 (by omega)).trans hT.1
    have h2_27 : mem20 2 = .inl (cy 0, 240, .inl f) := (hRX21.1.2.2 2 (by omega)).trans hT.2.2
    have h5_28 := hRX21.1.1.2.1
    have hbd34 := hRX21.1.1.1
    obtain ⟨S29, g30, hS_31, h220_32, h221_33⟩ := hRX21.1.1.2.2.2.2.2.2
    obtain ⟨k35, lo36, hi37, as38, pa39, ne40, he_41, ho_42⟩ := (hRX21.1.1.2.2.2.2.2.1 Ec (by omega)).1
    refine lv_astore_n (lv' := [(2, .ref (ad (20 + 2 * Ec))), (0, .ref (ad 222)), (1, .int (5))]) Bx.1 Bx.2.1 d_Rd_readRepetition_25 rfl hl (by decide) rfl (fun ls hl => ?_)
    refine lv_aload_n Bx.1 Bx.2.1 d_Rd_readRepetition_26 rfl (lv_at hl 1 rfl) ?_
    refine lv_aload_n Bx.1 Bx.2.1 d_Rd_readRepetition_27 rfl (lv_at hl 0 rfl) ?_
    have hdg := bpF_1 hb18
    have hE9 := hec22
    refine f_xVv (na := 1) (As := [.ref (ad (20 + 2 * Ec))]) (rest := []) Bx hml E hP hD hS (by omega) h9_25 rfl (m_Rd_readRepeatX l hlt hn hT hf hRX21 (by omega) (by omega) (by omega) hdg) kw_482 kw_484 sel_Rd_readRepeat kw_6 kw_485 (by decide +kernel) ⟨rfl, rfl⟩ ⟨Nat.le_of_ble_eq_true rfl, Nat.le_of_ble_eq_true rfl⟩ rfl hl.1 (Nat.le_of_ble_eq_true rfl) d_Rd_readRepetition_28 ⟨Nat.le_of_ble_eq_true rfl, Nat.le_of_ble_eq_true rfl⟩ (fun X ce q9 memx H locs hx9 hP hS g1 g2 g3 => f_out hlocks hno hP hS g1 g2 g3 ⟨Nat.le_of_ble_eq_true rfl, Nat.le_of_ble_eq_true rfl⟩ ⟨hx9.1, hx9.2.elim (fun v1 z => z.elim (fun b1 z => z.elim (fun v2 z => z.elim (fun b2 z => Or.inl (rep_bad hdg hE9 z.1 z.2.1 (Or.inl z.2.2))))))⟩) (fun mem44 H locs hq hP hS => ?_)
    have hD : va_D (Az sz) (fw n ad mem44) := fw_D hD
    obtain ⟨v1, b1, v2, b2, hr1, hr2, hnv, hb8, hb9, hRXr⟩ := hq
    obtain ⟨ft45, h9_46⟩ := hRXr.2.1
    have h1_47 : mem44 1 = .inr (0, [.ref (ad 2), .int (nI Z)]) := (hRXr.1.2.2 1 (by omega)).trans hT.1
    have h2_48 : mem44 2 = .inl (cy 0, 240, .inl f) := (hRXr.1.2.2 2 (by omega)).trans hT.2.2
    have h5_49 := hRXr.1.1.2.1
    have hbd55 := hRXr.1.1.1
    obtain ⟨S50, g51, hS_52, h220_53, h221_54⟩ := hRXr.1.1.2.2.2.2.2.2
    obtain ⟨k56, lo57, hi58, as59, pa60, ne61, he_62, ho_63⟩ := (hRXr.1.1.2.2.2.2.2.1 Ec (by omega)).1
    refine lv_aload_n Bx.1 Bx.2.1 d_Rd_readRepetition_31 rfl (lv_at hl 0 rfl) ?_
    refine lv_aload_n Bx.1 Bx.2.1 d_Rd_readRepetition_32 rfl (lv_at hl 1 rfl) ?_
    refine lv_iload_n Bx.1 Bx.2.1 d_Rd_readRepetition_33 rfl (lv_at hl 2 rfl) ?_
    refine f_xVr (na := 1) (As := [.int (5)]) (rest := [.ref (ad (20 + 2 * Ec))]) Bx hml E hP hD hS (by omega) h9_46 rfl (m_Rd_readElement_5X l hlt hn hT hf hRXr (by omega) (u := u) (A := repB A 5 Ec v1 v2) (by omega)) kw_443 kw_445 sel_Rd_readElement kw_6 kw_446 (by decide +kernel) ⟨rfl, rfl⟩ ⟨Nat.le_of_ble_eq_true rfl, Nat.le_of_ble_eq_true rfl⟩ rfl hl.1 (Nat.le_of_ble_eq_true rfl) d_Rd_readRepetition_34 ⟨Nat.le_of_ble_eq_true rfl, Nat.le_of_ble_eq_true rfl⟩ (fun X ce q9 memx H locs hx9 hP hS g1 g2 g3 => f_out hlocks hno hP hS g1 g2 g3 ⟨Nat.le_of_ble_eq_true rfl, Nat.le_of_ble_eq_true rfl⟩ ⟨hx9.1, rep_fai hdg hE9 hr1 hr2 hnv hx9.2⟩) (fun r64 mem65 H locs hq hP hS => ?_)
    have hD : va_D (Az sz) (fw n ad mem65) := fw_D hD
    obtain ⟨kx66, a67, R68, E69, A70, nn71, to72, hr973, hb74, hb75, hb76, hb77, hb78, htk79, hRX80, hsc81, hok82⟩ := hq
    subst hr973
    obtain ⟨ft83, h9_84⟩ := hRX80.2.1
    have h1_85 : mem65 1 = .inr (0, [.ref (ad 2), .int (nI Z)]) := (hRX80.1.2.2 1 (by omega)).trans hT.1
    have h2_86 : mem65 2 = .inl (cy 0, 240, .inl f) := (hRX80.1.2.2 2 (by omega)).trans hT.2.2
    have h5_87 := hRX80.1.1.2.1
    have hbd93 := hRX80.1.1.1
    obtain ⟨S88, g89, hS_90, h220_91, h221_92⟩ := hRX80.1.1.2.2.2.2.2.2
    obtain ⟨k94, lo95, hi96, as97, pa98, ne99, he_100, ho_101⟩ := (hRX80.1.1.2.2.2.2.2.1 Ec (by omega)).1
    obtain ⟨k102, lo103, hi104, as105, pa106, ne107, he_108, ho_109⟩ := (hRX80.1.1.2.2.2.2.2.1 kx66 (by omega)).1
    have hbd110 := hRX80.1.1.1
    refine f_putN Bx hP hD hS (by omega) he_100 rfl inEl tyEl okEl nmEl 4 (by decide) kw_87 rfl rfl rfl rfl (Nat.le_of_ble_eq_true rfl) d_Rd_readRepetition_37 (fun H locs hP hS => ?_)
    obtain ⟨mem111, e_mem111⟩ : ∃ z, z = va_up mem65 ((20 + 2 * Ec)) (.inr (2, [.int (k94), .int (lo95), .int (hi96), as97, .ref (ad (20 + 2 * kx66)), ne99, .ref (ad (21 + 2 * Ec))])) := ⟨_, rfl⟩
    have hP : va_P D vcl (fw n ad mem111) H := by rw [e_mem111]; exact hP
    have hD : va_D (Az sz) (fw n ad mem111) := fw_D hD
    have h_mem111 : mem111 ((20 + 2 * Ec)) = .inr (2, [.int (k94), .int (lo95), .int (hi96), as97, .ref (ad (20 + 2 * kx66)), ne99, .ref (ad (21 + 2 * Ec))]) := by rw [e_mem111, va_up_self]
    have hh112 := (va_up_ne mem65 (.inr (2, [.int (k94), .int (lo95), .int (hi96), as97, .ref (ad (20 + 2 * kx66)), ne99, .ref (ad (21 + 2 * Ec))])) (show (222 : Nat) ≠ (20 + 2 * Ec) by first | decide | assumption | omega)).trans h9_84
    rw [← e_mem111] at hh112
    have hh113 := (va_up_ne mem65 (.inr (2, [.int (k94), .int (lo95), .int (hi96), as97, .ref (ad (20 + 2 * kx66)), ne99, .ref (ad (21 + 2 * Ec))])) (show (1 : Nat) ≠ (20 + 2 * Ec) by first | decide | assumption | omega)).trans h1_85
    rw [← e_mem111] at hh113
    have hh114 := (va_up_ne mem65 (.inr (2, [.int (k94), .int (lo95), .int (hi96), as97, .ref (ad (20 + 2 * kx66)), ne99, .ref (ad (21 + 2 * Ec))])) (show (5 : Nat) ≠ (20 + 2 * Ec) by first | decide | assumption | omega)).trans h5_87
    rw [← e_mem111] at hh114
    have hh115 := (va_up_ne mem65 (.inr (2, [.int (k94), .int (lo95), .int (hi96), as97, .ref (ad (20 + 2 * kx66)), ne99, .ref (ad (21 + 2 * Ec))])) (show (220 : Nat) ≠ (20 + 2 * Ec) by first | decide | assumption | omega)).trans h220_91
    rw [← e_mem111] at hh115
    have hh116 := (va_up_ne mem65 (.inr (2, [.int (k94), .int (lo95), .int (hi96), as97, .ref (ad (20 + 2 * kx66)), ne99, .ref (ad (21 + 2 * Ec))])) (show ((20 + 2 * kx66) : Nat) ≠ (20 + 2 * Ec) by first | decide | assumption | omega)).trans he_108
    rw [← e_mem111] at hh116
    have hRX117 : RX cy ad lim (a67) (R68) (E69) (to72) (nn71) m0 mem111 := by rw [e_mem111]; exact hRX80.el (by omega) (hRX80.1.mk (by omega) (hRX80.1.1.upEl (by omega) (fun q9 => ⟨(ho_101 q9).1, Or.inr ⟨kx66, by omega, by omega, rfl⟩, (ho_101 q9).2.2⟩)))
    refine lv_aload_n Bx.1 Bx.2.1 d_Rd_readRepetition_40 rfl (lv_at hl 0 rfl) ?_
    exact x_aret hx hb hlocks hr (⟨Ec, a67, R68, E69, _, nn71, to72, rfl, by omega, by omega, by omega, by omega, by omega, htk79, hRX117, hsc81.eq (rep_suc hdg hE9 hr1 hr2 hnv hok82) (repB_ne (by decide) (by decide)) (repB_ne (by decide) (by decide))⟩) hP hS d_Rd_readRepetition_41
  · refine lv_aload_n Bx.1 Bx.2.1 d_Rd_readRepetition_10 rfl (lv_at hl 0 rfl) ?_
    refine lv_iload_n Bx.1 Bx.2.1 d_Rd_readRepetition_11 rfl (lv_at hl 1 rfl) ?_
    obtain ⟨hd0, h42⟩ := bpF_0 hb18
    refine f_xVr (na := 1) (As := [.int (5)]) (rest := []) Bx hml E hP hD hS (by omega) h9_2 rfl (m_Rd_readElement_5X l hlt hn hT hf hRX (by omega) (u := u) (A := A) (by omega)) kw_443 kw_445 sel_Rd_readElement kw_6 kw_446 (by decide +kernel) ⟨rfl, rfl⟩ ⟨Nat.le_of_ble_eq_true rfl, Nat.le_of_ble_eq_true rfl⟩ rfl hl.1 (Nat.le_of_ble_eq_true rfl) d_Rd_readRepetition_12 ⟨Nat.le_of_ble_eq_true rfl, Nat.le_of_ble_eq_true rfl⟩ (fun X ce q9 memx H locs hx9 hP hS g1 g2 g3 => f_out hlocks hno hP hS g1 g2 g3 ⟨Nat.le_of_ble_eq_true rfl, Nat.le_of_ble_eq_true rfl⟩ ⟨hx9.1, (hx9.2.resolve_right (fun z => z ⟨hbg, hd0, h42⟩)).eq (rep_no hd0 h42)⟩) (fun r118 mem119 H locs hq hP hS => ?_)
    have hD : va_D (Az sz) (fw n ad mem119) := fw_D hD
    obtain ⟨kx120, a121, R122, E123, A124, nn125, to126, hr9127, hb128, hb129, hb130, hb131, hb132, htk133, hRX134, hsc135, hok136⟩ := hq
    subst hr9127
    obtain ⟨ft137, h9_138⟩ := hRX134.2.1
    have h1_139 : mem119 1 = .inr (0, [.ref (ad 2), .int (nI Z)]) := (hRX134.1.2.2 1 (by omega)).trans hT.1
    have h2_140 : mem119 2 = .inl (cy 0, 240, .inl f) := (hRX134.1.2.2 2 (by omega)).trans hT.2.2
    have h5_141 := hRX134.1.1.2.1
    have hbd147 := hRX134.1.1.1
    obtain ⟨S142, g143, hS_144, h220_145, h221_146⟩ := hRX134.1.1.2.2.2.2.2.2
    obtain ⟨k148, lo149, hi150, as151, pa152, ne153, he_154, ho_155⟩ := (hRX134.1.1.2.2.2.2.2.1 kx120 (by omega)).1
    have hbd156 := hRX134.1.1.1
    exact x_aret hx hb hlocks hr (⟨kx120, a121, R122, E123, _, nn125, to126, rfl, by omega, by omega, by omega, by omega, by omega, htk133, hRX134, hsc135.eq (rep_no hd0 h42) rfl rfl⟩) hP hS d_Rd_readRepetition_15
set_option maxHeartbeats 4000000 in
set_option maxRecDepth 100000 in
theorem m_Rd_readSequence_5X (l : Launch) {D : va_G} {cy : Nat → ClassId} {sz n : Nat} {ad : Nat → Nat} {mem : Nat → va_E} {Z a R Ec lim : Nat} {f T : Nat → Int32} {to : Nat → Int32} {nm : Nat → Int64} {m0 : Nat → va_E} {u : Nat} {A : Ro} (hlt : l.stackTraces = false) (hn : 224 ≤ n) (hT : TX cy ad Z f m0) (hf : ∀ k, k < Z → f k = T k) (hRX : RX cy ad lim a R Ec to nm m0 mem) (haB : a ≤ 300) (haZ : a ≤ Z) : NXr l D cy sz n ad y_Rd_readSequence c_Rd_readSequence 5 (some (.object "AbnfChart$Element")) ({ frames := 24, cells := 1, slots := 6, locals := 562 } : Room) mem [.ref (ad 222), .int (5)] (fun r mem' => ∃ (k' a' R' E' : Nat) (A' : Ro) (nm' : Nat → Int64) (to' : Nat → Int32), r = ad (20 + 2 * k') ∧ Ec ≤ k' ∧ k' < E' ∧ R ≤ R' ∧ a < a' ∧ a' ≤ Z ∧ TOK R R' to to' ∧ RX cy ad lim (gapF T Z a') R' E' to' nm' m0 mem' ∧ Suc T Z (seqS T Z a u R Ec 5 A nm) 5 R (A 235) (A 227) a' R' E' A' nm' ∧ ¬ (bgF (hereF Z T (gapF T Z a')) = true ∧ a' < gapF T Z a')) (fun X mem' => ((X = cIA ∨ X = cIS) ∧ ∃ rc' ec' : Nat, RS cy ad lim rc' ec' m0 mem') ∧ (Fai T Z (seqS T Z a u R Ec 5 A nm))) := by
  refine vx_ofW (cc := c_Rd_readSequence) (maxL := 5) (ret := (some (.object "AbnfChart$Element"))) (by decide) rfl ?_
  intro p e s m args below meth c s₁ B hml hno hv
  obtain ⟨rfl, E, hP, hD⟩ := hv
  have hx := B.exec
  have hb := B.bytes
  have hr := B.returns
  have hlocks := B.notSynchronized
  have Bx : MB p s m [.ref (ad 222), .int (5)].toArray c c_Rd_readSequence "AbnfChart$Reader" D cy := ⟨hx, hb, tb_all (atoms_spec B.pre) E.2.1, findClass_of_methodNamed B.named, E.1⟩
  have hS : va_S (Az sz) s.heap s.heap [] := va_S.rf
  have hl := lv_entry ([.ref (ad 222), .int (5)]) (n := 5) (Nat.le_of_ble_eq_true rfl)
  rw [lg_entry_eq]
  generalize (lg_sl ([.ref (ad 222), .int (5)]) ++ List.replicate (5 - (lg_sl ([.ref (ad 222), .int (5)])).length) Slot.unset).toArray = ls at hl ⊢
  have hl : lv_has ls 5 [(0, .ref (ad 222)), (1, .int (5))] := hl
  have hZ9 := hT.2.1
  have hbd9 := hRX.1.1.1
  obtain ⟨ft1, h9_2⟩ := hRX.2.1
  have h1_3 : mem 1 = .inr (0, [.ref (ad 2), .int (nI Z)]) := (hRX.1.2.2 1 (by omega)).trans hT.1
  have h2_4 : mem 2 = .inl (cy 0, 240, .inl f) := (hRX.1.2.2 2 (by omega)).trans hT.2.2
  have h5_5 := hRX.1.1.2.1
  have hbd11 := hRX.1.1.1
  obtain ⟨S6, g7, hS_8, h220_9, h221_10⟩ := hRX.1.1.2.2.2.2.2.2
  refine lv_aload_n Bx.1 Bx.2.1 d_Rd_readSequence_0 rfl (lv_at hl 0 rfl) ?_
  refine lv_iconst (v := 1) Bx.1 Bx.2.1 d_Rd_readSequence_1 (by decide) ?_
  refine f_xVr (na := 1) (As := [.int (1)]) (rest := []) Bx hml E hP hD hS (by omega) h9_2 rfl (m_Rd_beginRowX l hlt hn hT hf hRX (by omega)) kw_409 kw_411 sel_Rd_beginRow kw_6 kw_412 (by decide +kernel) ⟨rfl, rfl⟩ ⟨Nat.le_of_ble_eq_true rfl, Nat.le_of_ble_eq_true rfl⟩ rfl hl.1 (Nat.le_of_ble_eq_true rfl) d_Rd_readSequence_2 ⟨Nat.le_of_ble_eq_true rfl, Nat.le_of_ble_eq_true rfl⟩ (fun X ce q9 memx H locs hx9 hP hS g1 g2 g3 => f_out hlocks hno hP hS g1 g2 g3 ⟨Nat.le_of_ble_eq_true rfl, Nat.le_of_ble_eq_true rfl⟩ ⟨hx9.1, Or.inl (seq_no hx9.2)⟩) (fun r12 mem13 H locs hq hP hS => ?_)
  have hD : va_D (Az sz) (fw n ad mem13) := fw_D hD
  obtain ⟨hbg, hE9, hr9, hRXb⟩ := hq
  subst hr9
  obtain ⟨ft14, h9_15⟩ := hRXb.2.1
  have h1_16 : mem13 1 = .inr (0, [.ref (ad 2), .int (nI Z)]) := (hRXb.1.2.2 1 (by omega)).trans hT.1
  have h2_17 : mem13 2 = .inl (cy 0, 240, .inl f) := (hRXb.1.2.2 2 (by omega)).trans hT.2.2
  have h5_18 := hRXb.1.1.2.1
  have hbd24 := hRXb.1.1.1
  obtain ⟨S19, g20, hS_21, h220_22, h221_23⟩ := hRXb.1.1.2.2.2.2.2.2
  obtain ⟨k25, lo26, hi27, as28, pa29, ne30, he_31, ho_32⟩ := (hRXb.1.1.2.2.2.2.2.1 Ec (by omega)).1
  refine lv_astore_n (lv' := [(2, .ref (ad (20 + 2 * Ec))), (0, .ref (ad 222)), (1, .int (5))]) Bx.1 Bx.2.1 d_Rd_readSequence_5 rfl hl (by decide) rfl (fun ls hl => ?_)
  refine lv_aload_n Bx.1 Bx.2.1 d_Rd_readSequence_6 rfl (lv_at hl 1 rfl) ?_
  refine lv_iload_n Bx.1 Bx.2.1 d_Rd_readSequence_7 rfl (lv_at hl 2 rfl) ?_
  refine f_xVr (na := 1) (As := [.int (5)]) (rest := []) Bx hml E hP hD hS (by omega) h9_15 rfl (m_Rd_readRepetition_5X l hlt hn hT hf hRXb (by omega) (u := u) (A := seqA A 5 Ec) (by omega) hbg) kw_439 kw_441 sel_Rd_readRepetition kw_6 kw_442 (by decide +kernel) ⟨rfl, rfl⟩ ⟨Nat.le_of_ble_eq_true rfl, Nat.le_of_ble_eq_true rfl⟩ rfl hl.1 (Nat.le_of_ble_eq_true rfl) d_Rd_readSequence_8 ⟨Nat.le_of_ble_eq_true rfl, Nat.le_of_ble_eq_true rfl⟩ (fun X ce q9 memx H locs hx9 hP hS g1 g2 g3 => f_out hlocks hno hP hS g1 g2 g3 ⟨Nat.le_of_ble_eq_true rfl, Nat.le_of_ble_eq_true rfl⟩ ⟨hx9.1, hx9.2.eq (seq_ok hbg hE9)⟩) (fun r33 mem34 H locs hq hP hS => ?_)
  have hD : va_D (Az sz) (fw n ad mem34) := fw_D hD
  obtain ⟨kx35, a36, R37, E38, A39, nn40, to41, hr942, hb43, hb44, hb45, hb46, hb47, htk48, hRX49, hsc50⟩ := hq
  subst hr942
  obtain ⟨ft51, h9_52⟩ := hRX49.2.1
  have h1_53 : mem34 1 = .inr (0, [.ref (ad 2), .int (nI Z)]) := (hRX49.1.2.2 1 (by omega)).trans hT.1
  have h2_54 : mem34 2 = .inl (cy 0, 240, .inl f) := (hRX49.1.2.2 2 (by omega)).trans hT.2.2
  have h5_55 := hRX49.1.1.2.1
  have hbd61 := hRX49.1.1.1
  obtain ⟨S56, g57, hS_58, h220_59, h221_60⟩ := hRX49.1.1.2.2.2.2.2.2
  obtain ⟨k62, lo63, hi64, as65, pa66, ne67, he_68, ho_69⟩ := (hRX49.1.1.2.2.2.2.2.1 Ec (by omega)).1
  obtain ⟨k70, lo71, hi72, as73, pa74, ne75, he_76, ho_77⟩ := (hRX49.1.1.2.2.2.2.2.1 kx35 (by omega)).1
  have hbd78 := hRX49.1.1.1
  refine lv_astore_n (lv' := [(3, .ref (ad (20 + 2 * kx35))), (2, .ref (ad (20 + 2 * Ec))), (0, .ref (ad 222)), (1, .int (5))]) Bx.1 Bx.2.1 d_Rd_readSequence_11 rfl hl (by decide) rfl (fun ls hl => ?_)
  refine lv_aload_n Bx.1 Bx.2.1 d_Rd_readSequence_12 rfl (lv_at hl 1 rfl) ?_
  refine lv_aload_n Bx.1 Bx.2.1 d_Rd_readSequence_13 rfl (lv_at hl 0 rfl) ?_
  refine f_putN Bx hP hD hS (by omega) he_68 rfl inEl tyEl okEl nmEl 4 (by decide) kw_87 rfl rfl rfl rfl (Nat.le_of_ble_eq_true rfl) d_Rd_readSequence_14 (fun H locs hP hS => ?_)
  obtain ⟨mem79, e_mem79⟩ : ∃ z, z = va_up mem34 ((20 + 2 * Ec)) (.inr (2, [.int (k62), .int (lo63), .int (hi64), as65, .ref (ad (20 + 2 * kx35)), ne67, .ref (ad (21 + 2 * Ec))])) := ⟨_, rfl⟩
  have hP : va_P D vcl (fw n ad mem79) H := by rw [e_mem79]; exact hP
  have hD : va_D (Az sz) (fw n ad mem79) := fw_D hD
  have h_mem79 : mem79 ((20 + 2 * Ec)) = .inr (2, [.int (k62), .int (lo63), .int (hi64), as65, .ref (ad (20 + 2 * kx35)), ne67, .ref (ad (21 + 2 * Ec))]) := by rw [e_mem79, va_up_self]
  have hh80 := (va_up_ne mem34 (.inr (2, [.int (k62), .int (lo63), .int (hi64), as65, .ref (ad (20 + 2 * kx35)), ne67, .ref (ad (21 + 2 * Ec))])) (show (222 : Nat) ≠ (20 + 2 * Ec) by first | decide | assumption | omega)).trans h9_52
  rw [← e_mem79] at hh80
  have hh81 := (va_up_ne mem34 (.inr (2, [.int (k62), .int (lo63), .int (hi64), as65, .ref (ad (20 + 2 * kx35)), ne67, .ref (ad (21 + 2 * Ec))])) (show (1 : Nat) ≠ (20 + 2 * Ec) by first | decide | assumption | omega)).trans h1_53
  rw [← e_mem79] at hh81
  have hh82 := (va_up_ne mem34 (.inr (2, [.int (k62), .int (lo63), .int (hi64), as65, .ref (ad (20 + 2 * kx35)), ne67, .ref (ad (21 + 2 * Ec))])) (show (5 : Nat) ≠ (20 + 2 * Ec) by first | decide | assumption | omega)).trans h5_55
  rw [← e_mem79] at hh82
  have hh83 := (va_up_ne mem34 (.inr (2, [.int (k62), .int (lo63), .int (hi64), as65, .ref (ad (20 + 2 * kx35)), ne67, .ref (ad (21 + 2 * Ec))])) (show (220 : Nat) ≠ (20 + 2 * Ec) by first | decide | assumption | omega)).trans h220_59
  rw [← e_mem79] at hh83
  have hh84 := (va_up_ne mem34 (.inr (2, [.int (k62), .int (lo63), .int (hi64), as65, .ref (ad (20 + 2 * kx35)), ne67, .ref (ad (21 + 2 * Ec))])) (show ((20 + 2 * kx35) : Nat) ≠ (20 + 2 * Ec) by first | decide | assumption | omega)).trans he_76
  rw [← e_mem79] at hh84
  have hRX85 : RX cy ad lim (a36) (R37) (E38) (to41) (nn40) m0 mem79 := by rw [e_mem79]; exact hRX49.el (by omega) (hRX49.1.mk (by omega) (hRX49.1.1.upEl (by omega) (fun q9 => ⟨(ho_69 q9).1, Or.inr ⟨kx35, by omega, by omega, rfl⟩, (ho_69 q9).2.2⟩)))
  refine lv_iconst (v := 0) Bx.1 Bx.2.1 d_Rd_readSequence_17 (by decide) ?_
  refine lv_istore (lv' := [(4, .int (0)), (3, .ref (ad (20 + 2 * kx35))), (2, .ref (ad (20 + 2 * Ec))), (0, .ref (ad 222)), (1, .int (5))]) Bx.1 Bx.2.1 d_Rd_readSequence_18 hl (by decide) rfl (fun ls hl => ?_)
  have hsuc0 := hsc50.eq (seq_ok hbg hE9) (seqA_ne (by decide) (by decide)) (seqA_ne (by decide) (by decide))
  have loop86 : ∀ (d87 : Nat) (mem9 : Nat → va_E) (a1 : Nat) (R1 : Nat) (E1 : Nat) (A1 : Ro) (n1 : Nat → Int64) (to1 : Nat → Int32) (la : Nat) (k9 : Nat) (ls : Array Slot) (H : Heap) (locs : List Loc), (240 - k9 < d87) → (RX cy ad lim a1 R1 E1 to1 n1 m0 mem9) → (a < a1 ∧ a1 ≤ Z ∧ R ≤ R1 ∧ Ec < la ∧ la < E1 ∧ k9 < a1 ∧ k9 ≤ 240 ∧ Ec < E1) → (Suc T Z (seqS T Z a u R Ec 5 A nm) 5 R (A 235) (A 227) a1 R1 E1 A1 n1) → (TOK R R1 to to1) → (va_P D vcl (fw n ad mem9) H) → (va_D (Az sz) (fw n ad mem9)) → (va_S (Az sz) s.heap H locs) → (lv_has ls 5 [(4, .int (nI k9)), (3, .ref (ad (20 + 2 * la))), (2, .ref (ad (20 + 2 * Ec))), (0, .ref (ad 222)), (1, .int (5))]) → W p l e (headSpec (Cond.code y_Rd_readSequence c_Rd_readSequence 5 (some (.object "AbnfChart$Element")) :: tg) ({ frames := 24, cells := 1, slots := 6, locals := 562 } : Room)).room s m [.ref (ad 222), .int (5)].toArray below meth c H locs 0 0 (vx_MQ below (QX (QR (fun r mem' => ∃ (k' a' R' E' : Nat) (A' : Ro) (nm' : Nat → Int64) (to' : Nat → Int32), r = ad (20 + 2 * k') ∧ Ec ≤ k' ∧ k' < E' ∧ R ≤ R' ∧ a < a' ∧ a' ≤ Z ∧ TOK R R' to to' ∧ RX cy ad lim (gapF T Z a') R' E' to' nm' m0 mem' ∧ Suc T Z (seqS T Z a u R Ec 5 A nm) 5 R (A 235) (A 227) a' R' E' A' nm' ∧ ¬ (bgF (hereF Z T (gapF T Z a')) = true ∧ a' < gapF T Z a')) (PP D n ad) (Az sz))) (XQ D sz n ad (fun X mem' => ((X = cIA ∨ X = cIS) ∧ ∃ rc' ec' : Nat, RS cy ad lim rc' ec' m0 mem') ∧ (Fai T Z (seqS T Z a u R Ec 5 A nm)))) [.ref (ad 222), .int (5)].toArray s 1 6 (Az sz)) (F0 m 20 ls []) := by
    intro d87
    induction d87 with
    | zero => intro mem9 a1 R1 E1 A1 n1 to1 la k9 ls H locs hmeas93; exact absurd hmeas93 (Nat.not_lt_zero _)
    | succ d87 ih92 =>
      intro mem9 a1 R1 E1 A1 n1 to1 la k9 ls H locs hmeas93 hz88 hz89 hz90 hz91 hP hD hS hl
      have hbd8 := hz89
      obtain ⟨ft94, h9_95⟩ := hz88.2.1
      have h1_96 : mem9 1 = .inr (0, [.ref (ad 2), .int (nI Z)]) := (hz88.1.2.2 1 (by omega)).trans hT.1
      have h2_97 : mem9 2 = .inl (cy 0, 240, .inl f) := (hz88.1.2.2 2 (by omega)).trans hT.2.2
      have h5_98 := hz88.1.1.2.1
      have hbd104 := hz88.1.1.1
      obtain ⟨S99, g100, hS_101, h220_102, h221_103⟩ := hz88.1.1.2.2.2.2.2.2
      obtain ⟨k105, lo106, hi107, as108, pa109, ne110, he_111, ho_112⟩ := (hz88.1.1.2.2.2.2.2.1 la (by omega)).1
      obtain ⟨c1, u1, ho, hg, hk9, hs9⟩ := id hz90
      refine lv_iload Bx.1 Bx.2.1 d_Rd_readSequence_20 (lv_at hl 0 rfl) ?_
      refine lv_sipush (v := 240) Bx.1 Bx.2.1 d_Rd_readSequence_22 (by decide) ?_
      refine lv_icmp_ge Bx.1 Bx.2.1 d_Rd_readSequence_25 rfl (fun hb113 => ?_) (fun hb113 => ?_)
      · have hN114 : 240 ≤ k9 := (nI_leI (by omega) (by omega)).mp (show nI (240) ≤ nI (k9) from hb113)
        exact absurd hbd8 (by omega)
      · have hN115 : ¬ 240 ≤ k9 := fun q9 => hb113 (show nI (240) ≤ nI (k9) from (nI_leI (by omega) (by omega)).mpr q9)
        refine lv_aload_n Bx.1 Bx.2.1 d_Rd_readSequence_28 rfl (lv_at hl 3 rfl) ?_
        refine f_callVi (na := 0) (As := []) (rest := []) Bx hml E hP hD hS (by omega) h9_95 rfl (m_Rd_readGapX l hn hT hf hz88 (by omega) (by omega)) kw_397 kw_399 sel_Rd_readGap kw_6 kw_400 (by decide +kernel) ⟨rfl, rfl⟩ ⟨Nat.le_of_ble_eq_true rfl, Nat.le_of_ble_eq_true rfl⟩ rfl hl.1 (Nat.le_of_ble_eq_true rfl) d_Rd_readSequence_29 ⟨Nat.le_of_ble_eq_true rfl, Nat.le_of_ble_eq_true rfl⟩ (fun r116 mem117 H locs hq hP hS => ?_)
        have hD : va_D (Az sz) (fw n ad mem117) := fw_D hD
        obtain ⟨g118, eg119⟩ : ∃ z, z = gapF T Z (a1) := ⟨_, rfl⟩
        rw [← eg119] at hq
        obtain ⟨hRX120, hgc121⟩ := hq
        have hg122 : a1 ≤ g118 := by rw [eg119]; exact gapF_ge T Z _
        have hg123 : g118 ≤ Z := by rw [eg119]; exact gapF_le T (by omega)
        obtain ⟨ft124, h9_125⟩ := hRX120.2.1
        have h1_126 : mem117 1 = .inr (0, [.ref (ad 2), .int (nI Z)]) := (hRX120.1.2.2 1 (by omega)).trans hT.1
        have h2_127 : mem117 2 = .inl (cy 0, 240, .inl f) := (hRX120.1.2.2 2 (by omega)).trans hT.2.2
        have h5_128 := hRX120.1.1.2.1
        have hbd134 := hRX120.1.1.1
        obtain ⟨S129, g130, hS_131, h220_132, h221_133⟩ := hRX120.1.1.2.2.2.2.2.2
        obtain ⟨k135, lo136, hi137, as138, pa139, ne140, he_141, ho_142⟩ := (hRX120.1.1.2.2.2.2.2.1 la (by omega)).1
        rcases hgc121 with ⟨hr143, hga144⟩ | ⟨hr143, hga144⟩
        · subst hr143
          refine lv_if_eq Bx.1 Bx.2.1 d_Rd_readSequence_32 rfl (fun hb145 => ?_) (fun hb145 => ?_)
          · exact absurd hb145 (by decide)
          · refine lv_aload_n Bx.1 Bx.2.1 d_Rd_readSequence_35 rfl (lv_at hl 3 rfl) ?_
            refine f_callVi (na := 0) (As := []) (rest := []) Bx hml E hP hD hS (by omega) h9_125 rfl (m_Rd_peekX l hn hT hf hRX120 (by omega)) kw_353 kw_355 sel_Rd_peek kw_6 kw_356 (by decide +kernel) ⟨rfl, rfl⟩ ⟨Nat.le_of_ble_eq_true rfl, Nat.le_of_ble_eq_true rfl⟩ rfl hl.1 (Nat.le_of_ble_eq_true rfl) d_Rd_readSequence_36 ⟨Nat.le_of_ble_eq_true rfl, Nat.le_of_ble_eq_true rfl⟩ (fun r147 mem148 H locs hq hP hS => ?_)
            have hD : va_D (Az sz) (fw n ad mem148) := fw_D hD
            obtain ⟨hqe, hpk146⟩ := hq
            rw [hqe] at hP hD
            subst hpk146
            refine f_callSi (na := 1) (As := [.int (hereF Z T (g118))]) (rest := []) Bx hml E.2.1 (m_Rd_beginsRepetitionX l (hereF Z T (g118))) kw_413 kw_414 kw_6 kw_415 (by decide +kernel) ⟨rfl, rfl⟩ ⟨Nat.le_of_ble_eq_true rfl, Nat.le_of_ble_eq_true rfl⟩ rfl hl.1 (Nat.le_of_ble_eq_true rfl) d_Rd_readSequence_39 ⟨Nat.le_of_ble_eq_true rfl, Nat.le_of_ble_eq_true rfl⟩ (fun r151 hs150 => ?_)
            subst hs150
            refine lv_if_eq Bx.1 Bx.2.1 d_Rd_readSequence_42 rfl (fun hb152 => ?_) (fun hb152 => ?_)
            · refine lv_aload_n Bx.1 Bx.2.1 d_Rd_readSequence_65 rfl (lv_at hl 2 rfl) ?_
              exact x_aret hx hb hlocks hr (⟨Ec, a1, R1, E1, A1, n1, to1, rfl, by omega, by omega, by omega, by omega, by omega, hz91, by rw [← eg119]; exact hRX120, hz90, fun z => by have q9 := z.1; rw [← eg119, bg_0 hb152] at q9; exact absurd q9 (by decide)⟩) hP hS d_Rd_readSequence_66
            · have hbg2 : bgF (hereF Z T (gapF T Z a1)) = true := by rw [← eg119]; exact bg_1 hb152
              have hgt2 : a1 < gapF T Z a1 := by rw [← eg119]; omega
              refine lv_aload_n Bx.1 Bx.2.1 d_Rd_readSequence_45 rfl (lv_at hl 1 rfl) ?_
              refine lv_aload_n Bx.1 Bx.2.1 d_Rd_readSequence_46 rfl (lv_at hl 3 rfl) ?_
              refine lv_iload_n Bx.1 Bx.2.1 d_Rd_readSequence_47 rfl (lv_at hl 4 rfl) ?_
              refine f_xVr (na := 1) (As := [.int (5)]) (rest := [.ref (ad (20 + 2 * la))]) Bx hml E hP hD hS (by omega) h9_125 rfl (m_Rd_readRepetition_5X l hlt hn hT hf hRX120 (by omega) (u := u1) (A := A1) (by omega) (by rw [eg119]; exact hbg2)) kw_439 kw_441 sel_Rd_readRepetition kw_6 kw_442 (by decide +kernel) ⟨rfl, rfl⟩ ⟨Nat.le_of_ble_eq_true rfl, Nat.le_of_ble_eq_true rfl⟩ rfl hl.1 (Nat.le_of_ble_eq_true rfl) d_Rd_readSequence_48 ⟨Nat.le_of_ble_eq_true rfl, Nat.le_of_ble_eq_true rfl⟩ (fun X ce q9 memx H locs hx9 hP hS g1 g2 g3 => f_out hlocks hno hP hS g1 g2 g3 ⟨Nat.le_of_ble_eq_true rfl, Nat.le_of_ble_eq_true rfl⟩ ⟨hx9.1, Fai.go ho hg (go_rept hbg2 hgt2) (by rw [← eg119]; exact hx9.2)⟩) (fun r153 mem154 H locs hq hP hS => ?_)
              have hD : va_D (Az sz) (fw n ad mem154) := fw_D hD
              obtain ⟨kx155, a156, R157, E158, A159, nn160, to161, hr9162, hb163, hb164, hb165, hb166, hb167, htk168, hRX169, hsc170⟩ := hq
              subst hr9162
              obtain ⟨ft171, h9_172⟩ := hRX169.2.1
              have h1_173 : mem154 1 = .inr (0, [.ref (ad 2), .int (nI Z)]) := (hRX169.1.2.2 1 (by omega)).trans hT.1
              have h2_174 : mem154 2 = .inl (cy 0, 240, .inl f) := (hRX169.1.2.2 2 (by omega)).trans hT.2.2
              have h5_175 := hRX169.1.1.2.1
              have hbd181 := hRX169.1.1.1
              obtain ⟨S176, g177, hS_178, h220_179, h221_180⟩ := hRX169.1.1.2.2.2.2.2.2
              obtain ⟨k182, lo183, hi184, as185, pa186, ne187, he_188, ho_189⟩ := (hRX169.1.1.2.2.2.2.2.1 la (by omega)).1
              obtain ⟨k190, lo191, hi192, as193, pa194, ne195, he_196, ho_197⟩ := (hRX169.1.1.2.2.2.2.2.1 kx155 (by omega)).1
              have hbd198 := hRX169.1.1.1
              have hsuc3 := Suc.go ho hg hk9 hs9 (by omega) (go_rept hbg2 hgt2) (by rw [← eg119]; exact hsc170)
              have htk3 := hz91.trans htk168 (by omega)
              refine f_putN Bx hP hD hS (by omega) he_188 rfl inEl tyEl okEl nmEl 5 (by decide) kw_91 rfl rfl rfl rfl (Nat.le_of_ble_eq_true rfl) d_Rd_readSequence_51 (fun H locs hP hS => ?_)
              obtain ⟨mem199, e_mem199⟩ : ∃ z, z = va_up mem154 ((20 + 2 * la)) (.inr (2, [.int (k182), .int (lo183), .int (hi184), as185, pa186, .ref (ad (20 + 2 * kx155)), .ref (ad (21 + 2 * la))])) := ⟨_, rfl⟩
              have hP : va_P D vcl (fw n ad mem199) H := by rw [e_mem199]; exact hP
              have hD : va_D (Az sz) (fw n ad mem199) := fw_D hD
              have h_mem199 : mem199 ((20 + 2 * la)) = .inr (2, [.int (k182), .int (lo183), .int (hi184), as185, pa186, .ref (ad (20 + 2 * kx155)), .ref (ad (21 + 2 * la))]) := by rw [e_mem199, va_up_self]
              have hh200 := (va_up_ne mem154 (.inr (2, [.int (k182), .int (lo183), .int (hi184), as185, pa186, .ref (ad (20 + 2 * kx155)), .ref (ad (21 + 2 * la))])) (show (222 : Nat) ≠ (20 + 2 * la) by first | decide | assumption | omega)).trans h9_172
              rw [← e_mem199] at hh200
              have hh201 := (va_up_ne mem154 (.inr (2, [.int (k182), .int (lo183), .int (hi184), as185, pa186, .ref (ad (20 + 2 * kx155)), .ref (ad (21 + 2 * la))])) (show (1 : Nat) ≠ (20 + 2 * la) by first | decide | assumption | omega)).trans h1_173
              rw [← e_mem199] at hh201
              have hh202 := (va_up_ne mem154 (.inr (2, [.int (k182), .int (lo183), .int (hi184), as185, pa186, .ref (ad (20 + 2 * kx155)), .ref (ad (21 + 2 * la))])) (show (5 : Nat) ≠ (20 + 2 * la) by first | decide | assumption | omega)).trans h5_175
              rw [← e_mem199] at hh202
              have hh203 := (va_up_ne mem154 (.inr (2, [.int (k182), .int (lo183), .int (hi184), as185, pa186, .ref (ad (20 + 2 * kx155)), .ref (ad (21 + 2 * la))])) (show (220 : Nat) ≠ (20 + 2 * la) by first | decide | assumption | omega)).trans h220_179
              rw [← e_mem199] at hh203
              have hh204 := (va_up_ne mem154 (.inr (2, [.int (k182), .int (lo183), .int (hi184), as185, pa186, .ref (ad (20 + 2 * kx155)), .ref (ad (21 + 2 * la))])) (show ((20 + 2 * kx155) : Nat) ≠ (20 + 2 * la) by first | decide | assumption | omega)).trans he_196
              rw [← e_mem199] at hh204
              have hRX205 : RX cy ad lim (a156) (R157) (E158) (to161) (nn160) m0 mem199 := by rw [e_mem199]; exact hRX169.el (by omega) (hRX169.1.mk (by omega) (hRX169.1.1.upEl (by omega) (fun q9 => ⟨(ho_189 q9).1, (ho_189 q9).2.1, Or.inr ⟨kx155, by omega, by omega, rfl⟩⟩)))
              refine lv_aload_n Bx.1 Bx.2.1 d_Rd_readSequence_54 rfl (lv_at hl 1 rfl) ?_
              refine f_getN Bx hP (by omega) h_mem199 rfl inEl 5 (by decide) kw_91 rfl rfl d_Rd_readSequence_55 ?_
              refine lv_astore_n (lv' := [(3, .ref (ad (20 + 2 * kx155))), (4, .int (nI k9)), (2, .ref (ad (20 + 2 * Ec))), (0, .ref (ad 222)), (1, .int (5))]) Bx.1 Bx.2.1 d_Rd_readSequence_58 rfl hl (by decide) rfl (fun ls hl => ?_)
              refine lv_iinc (lv' := [(4, .int ((nI k9 + (1)))), (3, .ref (ad (20 + 2 * kx155))), (2, .ref (ad (20 + 2 * Ec))), (0, .ref (ad 222)), (1, .int (5))]) Bx.1 Bx.2.1 d_Rd_readSequence_59 hl (k := 1) rfl rfl (by decide) rfl (fun ls hl => ?_)
              rw [show (nI k9 + (1) : Int32) = nI (k9 + 1) from nI_1 (k9)] at hl
              refine lv_goto Bx.1 Bx.2.1 d_Rd_readSequence_62 rfl ?_
              exact ih92 mem199 (a156) (R157) (E158) (A159) (nn160) (to161) (kx155) (k9 + 1) _ _ _ (by have := hmeas93; omega) (hRX205) (⟨by omega, by omega, by omega, by omega, by omega, by omega, by omega, by omega⟩) (hsuc3) (htk3) hP hD hS (lv_sub hl [0, 1, 2, 3, 4] rfl)
        · subst hr143
          refine lv_if_eq Bx.1 Bx.2.1 d_Rd_readSequence_32 rfl (fun hb206 => ?_) (fun hb206 => ?_)
          · refine lv_aload_n Bx.1 Bx.2.1 d_Rd_readSequence_65 rfl (lv_at hl 2 rfl) ?_
            exact x_aret hx hb hlocks hr (⟨Ec, a1, R1, E1, A1, n1, to1, rfl, by omega, by omega, by omega, by omega, by omega, hz91, by rw [← eg119]; exact hRX120, hz90, fun z => by have := z.2; rw [← eg119] at this; omega⟩) hP hS d_Rd_readSequence_66
          · exact absurd hb206 (by decide)
  exact loop86 _ mem79 (a36) (R37) (E38) (A39) (nn40) (to41) (kx35) (0) _ _ _ (Nat.lt_succ_self _) (hRX85) (⟨by omega, by omega, by omega, by omega, by omega, by omega, by omega, by omega⟩) (hsuc0) (htk48) hP hD hS (lv_sub hl [0, 1, 2, 3, 4] rfl)
set_option maxHeartbeats 4000000 in
set_option maxRecDepth 100000 in
theorem m_Rd_readAlternatives_5X (l : Launch) {D : va_G} {cy : Nat → ClassId} {sz n : Nat} {ad : Nat → Nat} {mem : Nat → va_E} {Z a R Ec lim : Nat} {f T : Nat → Int32} {to : Nat → Int32} {nm : Nat → Int64} {m0 : Nat → va_E} {u : Nat} {A : Ro} (hlt : l.stackTraces = false) (hn : 224 ≤ n) (hT : TX cy ad Z f m0) (hf : ∀ k, k < Z → f k = T k) (hRX : RX cy ad lim a R Ec to nm m0 mem) (haB : a ≤ 300) (haZ : a ≤ Z) : NXr l D cy sz n ad y_Rd_readAlternatives c_Rd_readAlternatives 5 (some (.object "AbnfChart$Element")) ({ frames := 25, cells := 1, slots := 6, locals := 588 } : Room) mem [.ref (ad 222), .int (5)] (fun r mem' => ∃ (k' a' R' E' : Nat) (A' : Ro) (nm' : Nat → Int64) (to' : Nat → Int32), r = ad (20 + 2 * k') ∧ Ec ≤ k' ∧ k' < E' ∧ R ≤ R' ∧ a < a' ∧ a' ≤ Z ∧ TOK R R' to to' ∧ RX cy ad lim (gapF T Z a') R' E' to' nm' m0 mem' ∧ Suc T Z (seqS T Z a u R (Ec + 1) 5 A nm) 5 R (A 235) (A 227) a' R' E' A' nm' ∧ bgF (hereF Z T a) = true ∧ Ec < 100 ∧ ¬ hereF Z T (gapF T Z a') = 47 ∧ ¬ (bgF (hereF Z T (gapF T Z a')) = true ∧ a' < gapF T Z a')) (fun X mem' => ((X = cIA ∨ X = cIS) ∧ ∃ rc' ec' : Nat, RS cy ad lim rc' ec' m0 mem') ∧ (bgF (hereF Z T a) = false ∨ Ec = 100 ∨ (bgF (hereF Z T a) = true ∧ Ec < 100 ∧ Fai T Z (seqS T Z a u R (Ec + 1) 5 A nm)))) := by
  refine vx_ofW (cc := c_Rd_readAlternatives) (maxL := 5) (ret := (some (.object "AbnfChart$Element"))) (by decide) rfl ?_
  intro p e s m args below meth c s₁ B hml hno hv
  obtain ⟨rfl, E, hP, hD⟩ := hv
  have hx := B.exec
  have hb := B.bytes
  have hr := B.returns
  have hlocks := B.notSynchronized
  have Bx : MB p s m [.ref (ad 222), .int (5)].toArray c c_Rd_readAlternatives "AbnfChart$Reader" D cy := ⟨hx, hb, tb_all (atoms_spec B.pre) E.2.1, findClass_of_methodNamed B.named, E.1⟩
  have hS : va_S (Az sz) s.heap s.heap [] := va_S.rf
  have hl := lv_entry ([.ref (ad 222), .int (5)]) (n := 5) (Nat.le_of_ble_eq_true rfl)
  rw [lg_entry_eq]
  generalize (lg_sl ([.ref (ad 222), .int (5)]) ++ List.replicate (5 - (lg_sl ([.ref (ad 222), .int (5)])).length) Slot.unset).toArray = ls at hl ⊢
  have hl : lv_has ls 5 [(0, .ref (ad 222)), (1, .int (5))] := hl
  have hZ9 := hT.2.1
  have hbd9 := hRX.1.1.1
  obtain ⟨ft1, h9_2⟩ := hRX.2.1
  have h1_3 : mem 1 = .inr (0, [.ref (ad 2), .int (nI Z)]) := (hRX.1.2.2 1 (by omega)).trans hT.1
  have h2_4 : mem 2 = .inl (cy 0, 240, .inl f) := (hRX.1.2.2 2 (by omega)).trans hT.2.2
  have h5_5 := hRX.1.1.2.1
  have hbd11 := hRX.1.1.1
  obtain ⟨S6, g7, hS_8, h220_9, h221_10⟩ := hRX.1.1.2.2.2.2.2.2
  refine lv_aload_n Bx.1 Bx.2.1 d_Rd_readAlternatives_0 rfl (lv_at hl 0 rfl) ?_
  refine lv_iconst (v := 0) Bx.1 Bx.2.1 d_Rd_readAlternatives_1 (by decide) ?_
  refine f_xVr (na := 1) (As := [.int (0)]) (rest := []) Bx hml E hP hD hS (by omega) h9_2 rfl (m_Rd_beginRowX l hlt hn hT hf hRX (by omega)) kw_409 kw_411 sel_Rd_beginRow kw_6 kw_412 (by decide +kernel) ⟨rfl, rfl⟩ ⟨Nat.le_of_ble_eq_true rfl, Nat.le_of_ble_eq_true rfl⟩ rfl hl.1 (Nat.le_of_ble_eq_true rfl) d_Rd_readAlternatives_2 ⟨Nat.le_of_ble_eq_true rfl, Nat.le_of_ble_eq_true rfl⟩ (fun X ce q9 memx H locs hx9 hP hS g1 g2 g3 => f_out hlocks hno hP hS g1 g2 g3 ⟨Nat.le_of_ble_eq_true rfl, Nat.le_of_ble_eq_true rfl⟩ ⟨hx9.1, hx9.2.elim Or.inl (fun z => Or.inr (Or.inl z))⟩) (fun r12 mem13 H locs hq hP hS => ?_)
  have hD : va_D (Az sz) (fw n ad mem13) := fw_D hD
  obtain ⟨hbg, hE9, hr9, hRXb⟩ := hq
  subst hr9
  obtain ⟨ft14, h9_15⟩ := hRXb.2.1
  have h1_16 : mem13 1 = .inr (0, [.ref (ad 2), .int (nI Z)]) := (hRXb.1.2.2 1 (by omega)).trans hT.1
  have h2_17 : mem13 2 = .inl (cy 0, 240, .inl f) := (hRXb.1.2.2 2 (by omega)).trans hT.2.2
  have h5_18 := hRXb.1.1.2.1
  have hbd24 := hRXb.1.1.1
  obtain ⟨S19, g20, hS_21, h220_22, h221_23⟩ := hRXb.1.1.2.2.2.2.2.2
  obtain ⟨k25, lo26, hi27, as28, pa29, ne30, he_31, ho_32⟩ := (hRXb.1.1.2.2.2.2.2.1 Ec (by omega)).1
  refine lv_astore_n (lv' := [(2, .ref (ad (20 + 2 * Ec))), (0, .ref (ad 222)), (1, .int (5))]) Bx.1 Bx.2.1 d_Rd_readAlternatives_5 rfl hl (by decide) rfl (fun ls hl => ?_)
  refine lv_aload_n Bx.1 Bx.2.1 d_Rd_readAlternatives_6 rfl (lv_at hl 1 rfl) ?_
  refine lv_iload_n Bx.1 Bx.2.1 d_Rd_readAlternatives_7 rfl (lv_at hl 2 rfl) ?_
  refine f_xVr (na := 1) (As := [.int (5)]) (rest := []) Bx hml E hP hD hS (by omega) h9_15 rfl (m_Rd_readSequence_5X l hlt hn hT hf hRXb (by omega) (u := u) (A := A) (by omega)) kw_435 kw_437 sel_Rd_readSequence kw_6 kw_438 (by decide +kernel) ⟨rfl, rfl⟩ ⟨Nat.le_of_ble_eq_true rfl, Nat.le_of_ble_eq_true rfl⟩ rfl hl.1 (Nat.le_of_ble_eq_true rfl) d_Rd_readAlternatives_8 ⟨Nat.le_of_ble_eq_true rfl, Nat.le_of_ble_eq_true rfl⟩ (fun X ce q9 memx H locs hx9 hP hS g1 g2 g3 => f_out hlocks hno hP hS g1 g2 g3 ⟨Nat.le_of_ble_eq_true rfl, Nat.le_of_ble_eq_true rfl⟩ ⟨hx9.1, Or.inr (Or.inr ⟨hbg, hE9, hx9.2⟩)⟩) (fun r33 mem34 H locs hq hP hS => ?_)
  have hD : va_D (Az sz) (fw n ad mem34) := fw_D hD
  obtain ⟨kx35, a36, R37, E38, A39, nn40, to41, hr942, hb43, hb44, hb45, hb46, hb47, htk48, hRX49, hsc50, hnb51⟩ := hq
  subst hr942
  obtain ⟨g52, eg53⟩ : ∃ z, z = gapF T Z a36 := ⟨_, rfl⟩
  have hg54 : a36 ≤ g52 := by rw [eg53]; exact gapF_ge T Z _
  have hg55 : g52 ≤ Z := by rw [eg53]; exact gapF_le T (by omega)
  rw [← eg53] at hRX49
  obtain ⟨ft56, h9_57⟩ := hRX49.2.1
  have h1_58 : mem34 1 = .inr (0, [.ref (ad 2), .int (nI Z)]) := (hRX49.1.2.2 1 (by omega)).trans hT.1
  have h2_59 : mem34 2 = .inl (cy 0, 240, .inl f) := (hRX49.1.2.2 2 (by omega)).trans hT.2.2
  have h5_60 := hRX49.1.1.2.1
  have hbd66 := hRX49.1.1.1
  obtain ⟨S61, g62, hS_63, h220_64, h221_65⟩ := hRX49.1.1.2.2.2.2.2.2
  obtain ⟨k67, lo68, hi69, as70, pa71, ne72, he_73, ho_74⟩ := (hRX49.1.1.2.2.2.2.2.1 Ec (by omega)).1
  obtain ⟨k75, lo76, hi77, as78, pa79, ne80, he_81, ho_82⟩ := (hRX49.1.1.2.2.2.2.2.1 kx35 (by omega)).1
  have hbd83 := hRX49.1.1.1
  refine lv_astore_n (lv' := [(3, .ref (ad (20 + 2 * kx35))), (2, .ref (ad (20 + 2 * Ec))), (0, .ref (ad 222)), (1, .int (5))]) Bx.1 Bx.2.1 d_Rd_readAlternatives_11 rfl hl (by decide) rfl (fun ls hl => ?_)
  refine lv_aload_n Bx.1 Bx.2.1 d_Rd_readAlternatives_12 rfl (lv_at hl 1 rfl) ?_
  refine lv_aload_n Bx.1 Bx.2.1 d_Rd_readAlternatives_13 rfl (lv_at hl 0 rfl) ?_
  refine f_putN Bx hP hD hS (by omega) he_73 rfl inEl tyEl okEl nmEl 4 (by decide) kw_87 rfl rfl rfl rfl (Nat.le_of_ble_eq_true rfl) d_Rd_readAlternatives_14 (fun H locs hP hS => ?_)
  obtain ⟨mem84, e_mem84⟩ : ∃ z, z = va_up mem34 ((20 + 2 * Ec)) (.inr (2, [.int (k67), .int (lo68), .int (hi69), as70, .ref (ad (20 + 2 * kx35)), ne72, .ref (ad (21 + 2 * Ec))])) := ⟨_, rfl⟩
  have hP : va_P D vcl (fw n ad mem84) H := by rw [e_mem84]; exact hP
  have hD : va_D (Az sz) (fw n ad mem84) := fw_D hD
  have h_mem84 : mem84 ((20 + 2 * Ec)) = .inr (2, [.int (k67), .int (lo68), .int (hi69), as70, .ref (ad (20 + 2 * kx35)), ne72, .ref (ad (21 + 2 * Ec))]) := by rw [e_mem84, va_up_self]
  have hh85 := (va_up_ne mem34 (.inr (2, [.int (k67), .int (lo68), .int (hi69), as70, .ref (ad (20 + 2 * kx35)), ne72, .ref (ad (21 + 2 * Ec))])) (show (222 : Nat) ≠ (20 + 2 * Ec) by first | decide | assumption | omega)).trans h9_57
  rw [← e_mem84] at hh85
  have hh86 := (va_up_ne mem34 (.inr (2, [.int (k67), .int (lo68), .int (hi69), as70, .ref (ad (20 + 2 * kx35)), ne72, .ref (ad (21 + 2 * Ec))])) (show (1 : Nat) ≠ (20 + 2 * Ec) by first | decide | assumption | omega)).trans h1_58
  rw [← e_mem84] at hh86
  have hh87 := (va_up_ne mem34 (.inr (2, [.int (k67), .int (lo68), .int (hi69), as70, .ref (ad (20 + 2 * kx35)), ne72, .ref (ad (21 + 2 * Ec))])) (show (5 : Nat) ≠ (20 + 2 * Ec) by first | decide | assumption | omega)).trans h5_60
  rw [← e_mem84] at hh87
  have hh88 := (va_up_ne mem34 (.inr (2, [.int (k67), .int (lo68), .int (hi69), as70, .ref (ad (20 + 2 * kx35)), ne72, .ref (ad (21 + 2 * Ec))])) (show (220 : Nat) ≠ (20 + 2 * Ec) by first | decide | assumption | omega)).trans h220_64
  rw [← e_mem84] at hh88
  have hh89 := (va_up_ne mem34 (.inr (2, [.int (k67), .int (lo68), .int (hi69), as70, .ref (ad (20 + 2 * kx35)), ne72, .ref (ad (21 + 2 * Ec))])) (show ((20 + 2 * kx35) : Nat) ≠ (20 + 2 * Ec) by first | decide | assumption | omega)).trans he_81
  rw [← e_mem84] at hh89
  have hRX90 : RX cy ad lim (g52) (R37) (E38) (to41) (nn40) m0 mem84 := by rw [e_mem84]; exact hRX49.el (by omega) (hRX49.1.mk (by omega) (hRX49.1.1.upEl (by omega) (fun q9 => ⟨(ho_74 q9).1, Or.inr ⟨kx35, by omega, by omega, rfl⟩, (ho_74 q9).2.2⟩)))
  refine lv_iconst (v := 0) Bx.1 Bx.2.1 d_Rd_readAlternatives_17 (by decide) ?_
  refine lv_istore (lv' := [(4, .int (0)), (3, .ref (ad (20 + 2 * kx35))), (2, .ref (ad (20 + 2 * Ec))), (0, .ref (ad 222)), (1, .int (5))]) Bx.1 Bx.2.1 d_Rd_readAlternatives_18 hl (by decide) rfl (fun ls hl => ?_)
  have loop91 : ∀ (d92 : Nat) (mem9 : Nat → va_E) (a1 : Nat) (R1 : Nat) (E1 : Nat) (A1 : Ro) (n1 : Nat → Int64) (to1 : Nat → Int32) (la : Nat) (k9 : Nat) (ls : Array Slot) (H : Heap) (locs : List Loc), (240 - k9 < d92) → (RX cy ad lim (gapF T Z a1) R1 E1 to1 n1 m0 mem9) → (a < a1 ∧ a1 ≤ Z ∧ R ≤ R1 ∧ Ec < la ∧ la < E1 ∧ k9 < a1 ∧ k9 ≤ 240 ∧ Ec < E1) → (Suc T Z (seqS T Z a u R (Ec + 1) 5 A nm) 5 R (A 235) (A 227) a1 R1 E1 A1 n1) → (TOK R R1 to to1) → (¬ (bgF (hereF Z T (gapF T Z a1)) = true ∧ a1 < gapF T Z a1)) → (va_P D vcl (fw n ad mem9) H) → (va_D (Az sz) (fw n ad mem9)) → (va_S (Az sz) s.heap H locs) → (lv_has ls 5 [(4, .int (nI k9)), (3, .ref (ad (20 + 2 * la))), (2, .ref (ad (20 + 2 * Ec))), (0, .ref (ad 222)), (1, .int (5))]) → W p l e (headSpec (Cond.code y_Rd_readAlternatives c_Rd_readAlternatives 5 (some (.object "AbnfChart$Element")) :: tg) ({ frames := 25, cells := 1, slots := 6, locals := 588 } : Room)).room s m [.ref (ad 222), .int (5)].toArray below meth c H locs 0 0 (vx_MQ below (QX (QR (fun r mem' => ∃ (k' a' R' E' : Nat) (A' : Ro) (nm' : Nat → Int64) (to' : Nat → Int32), r = ad (20 + 2 * k') ∧ Ec ≤ k' ∧ k' < E' ∧ R ≤ R' ∧ a < a' ∧ a' ≤ Z ∧ TOK R R' to to' ∧ RX cy ad lim (gapF T Z a') R' E' to' nm' m0 mem' ∧ Suc T Z (seqS T Z a u R (Ec + 1) 5 A nm) 5 R (A 235) (A 227) a' R' E' A' nm' ∧ bgF (hereF Z T a) = true ∧ Ec < 100 ∧ ¬ hereF Z T (gapF T Z a') = 47 ∧ ¬ (bgF (hereF Z T (gapF T Z a')) = true ∧ a' < gapF T Z a')) (PP D n ad) (Az sz))) (XQ D sz n ad (fun X mem' => ((X = cIA ∨ X = cIS) ∧ ∃ rc' ec' : Nat, RS cy ad lim rc' ec' m0 mem') ∧ (bgF (hereF Z T a) = false ∨ Ec = 100 ∨ (bgF (hereF Z T a) = true ∧ Ec < 100 ∧ Fai T Z (seqS T Z a u R (Ec + 1) 5 A nm))))) [.ref (ad 222), .int (5)].toArray s 1 6 (Az sz)) (F0 m 20 ls []) := by
    intro d92
    induction d92 with
    | zero => intro mem9 a1 R1 E1 A1 n1 to1 la k9 ls H locs hmeas99; exact absurd hmeas99 (Nat.not_lt_zero _)
    | succ d92 ih98 =>
      intro mem9 a1 R1 E1 A1 n1 to1 la k9 ls H locs hmeas99 hz93 hz94 hz95 hz96 hz97 hP hD hS hl
      obtain ⟨g1, eg1⟩ : ∃ z, z = gapF T Z a1 := ⟨_, rfl⟩
      rw [← eg1] at hz93
      have hge1 : a1 ≤ g1 := by rw [eg1]; exact gapF_ge T Z _
      have hbd8 := hz94
      have hle1 : g1 ≤ Z := by rw [eg1]; exact gapF_le T (by omega)
      obtain ⟨ft100, h9_101⟩ := hz93.2.1
      have h1_102 : mem9 1 = .inr (0, [.ref (ad 2), .int (nI Z)]) := (hz93.1.2.2 1 (by omega)).trans hT.1
      have h2_103 : mem9 2 = .inl (cy 0, 240, .inl f) := (hz93.1.2.2 2 (by omega)).trans hT.2.2
      have h5_104 := hz93.1.1.2.1
      have hbd110 := hz93.1.1.1
      obtain ⟨S105, g106, hS_107, h220_108, h221_109⟩ := hz93.1.1.2.2.2.2.2.2
      obtain ⟨k111, lo112, hi113, as114, pa115, ne116, he_117, ho_118⟩ := (hz93.1.1.2.2.2.2.2.1 la (by omega)).1
      obtain ⟨c1, u1, ho, hg, hk9, hs9⟩ := id hz95
      refine lv_iload Bx.1 Bx.2.1 d_Rd_readAlternatives_20 (lv_at hl 0 rfl) ?_
      refine lv_sipush (v := 240) Bx.1 Bx.2.1 d_Rd_readAlternatives_22 (by decide) ?_
      refine lv_icmp_ge Bx.1 Bx.2.1 d_Rd_readAlternatives_25 rfl (fun hb119 => ?_) (fun hb119 => ?_)
      · have hN120 : 240 ≤ k9 := (nI_leI (by omega) (by omega)).mp (show nI (240) ≤ nI (k9) from hb119)
        exact absurd hbd8 (by omega)
      · have hN121 : ¬ 240 ≤ k9 := fun q9 => hb119 (show nI (240) ≤ nI (k9) from (nI_leI (by omega) (by omega)).mpr q9)
        refine lv_aload_n Bx.1 Bx.2.1 d_Rd_readAlternatives_28 rfl (lv_at hl 3 rfl) ?_
        refine f_callVi (na := 0) (As := []) (rest := []) Bx hml E hP hD hS (by omega) h9_101 rfl (m_Rd_peekX l hn hT hf hz93 (by omega)) kw_353 kw_355 sel_Rd_peek kw_6 kw_356 (by decide +kernel) ⟨rfl, rfl⟩ ⟨Nat.le_of_ble_eq_true rfl, Nat.le_of_ble_eq_true rfl⟩ rfl hl.1 (Nat.le_of_ble_eq_true rfl) d_Rd_readAlternatives_29 ⟨Nat.le_of_ble_eq_true rfl, Nat.le_of_ble_eq_true rfl⟩ (fun r123 mem124 H locs hq hP hS => ?_)
        have hD : va_D (Az sz) (fw n ad mem124) := fw_D hD
        obtain ⟨hqe, hpk122⟩ := hq
        rw [hqe] at hP hD
        subst hpk122
        refine lv_bipush (v := 47) Bx.1 Bx.2.1 d_Rd_readAlternatives_32 (by decide) ?_
        refine lv_icmp_ne Bx.1 Bx.2.1 d_Rd_readAlternatives_34 rfl (fun hb126 => ?_) (fun hb126 => ?_)
        · refine lv_aload_n Bx.1 Bx.2.1 d_Rd_readAlternatives_72 rfl (lv_at hl 2 rfl) ?_
          exact x_aret hx hb hlocks hr (⟨Ec, a1, R1, E1, A1, n1, to1, rfl, by omega, by omega, by omega, by omega, by omega, hz96, by rw [← eg1]; exact hz93, hz95, hbg, hE9, by rw [← eg1]; exact hb126, hz97⟩) hP hS d_Rd_readAlternatives_73
        · have hlt127 := hereF_lt (by rw [hb126]; decide)
          have h47 : hereF Z T (gapF T Z a1) = 47 := by rw [← eg1]; exact hb126
          refine lv_aload_n Bx.1 Bx.2.1 d_Rd_readAlternatives_37 rfl (lv_at hl 3 rfl) ?_
          refine lv_dup Bx.1 Bx.2.1 d_Rd_readAlternatives_38 rfl ?_
          refine f_get Bx hP (by omega) h9_101 rfl inRd 2 (by decide) kw_146 rfl rfl d_Rd_readAlternatives_39 ?_
          refine lv_iconst (v := 1) Bx.1 Bx.2.1 d_Rd_readAlternatives_42 (by decide) ?_
          refine lv_iadd Bx.1 Bx.2.1 d_Rd_readAlternatives_43 ?_
          rw [show nI g1 + 1 = nI (g1 + 1) from nI_add (g1) (1)]
          refine f_put Bx hP hD hS (by omega) h9_101 rfl inRd tyRd okRd nmRd 2 (by decide) kw_146 rfl rfl rfl rfl (Nat.le_of_ble_eq_true rfl) d_Rd_readAlternatives_44 (fun H locs hP hS => ?_)
          obtain ⟨mem128, e_mem128⟩ : ∃ z, z = va_up mem9 (222) (.inr (4, [.ref (ad 1), .ref (ad 5), .int (nI (g1 + 1)), .int (ft100)])) := ⟨_, rfl⟩
          have hP : va_P D vcl (fw n ad mem128) H := by rw [e_mem128]; exact hP
          have hD : va_D (Az sz) (fw n ad mem128) := fw_D hD
          have h_mem128 : mem128 (222) = .inr (4, [.ref (ad 1), .ref (ad 5), .int (nI (g1 + 1)), .int (ft100)]) := by rw [e_mem128, va_up_self]
          have hh129 := (va_up_ne mem9 (.inr (4, [.ref (ad 1), .ref (ad 5), .int (nI (g1 + 1)), .int (ft100)])) (show (1 : Nat) ≠ 222 by first | decide | assumption | omega)).trans h1_102
          rw [← e_mem128] at hh129
          have hh130 := (va_up_ne mem9 (.inr (4, [.ref (ad 1), .ref (ad 5), .int (nI (g1 + 1)), .int (ft100)])) (show (5 : Nat) ≠ 222 by first | decide | assumption | omega)).trans h5_104
          rw [← e_mem128] at hh130
          have hh131 := (va_up_ne mem9 (.inr (4, [.ref (ad 1), .ref (ad 5), .int (nI (g1 + 1)), .int (ft100)])) (show (220 : Nat) ≠ 222 by first | decide | assumption | omega)).trans h220_108
          rw [← e_mem128] at hh131
          have hh132 := (va_up_ne mem9 (.inr (4, [.ref (ad 1), .ref (ad 5), .int (nI (g1 + 1)), .int (ft100)])) (show ((20 + 2 * la) : Nat) ≠ 222 by first | decide | assumption | omega)).trans he_117
          rw [← e_mem128] at hh132
          have hRX133 : RX cy ad lim (g1 + 1) (R1) (E1) (to1) (n1) m0 mem128 := by rw [e_mem128]; exact hz93.at
          refine lv_aload_n Bx.1 Bx.2.1 d_Rd_readAlternatives_47 rfl (lv_at hl 3 rfl) ?_
          refine f_callVi (na := 0) (As := []) (rest := []) Bx hml E hP hD hS (by omega) h_mem128 rfl (m_Rd_readGapX l hn hT hf hRX133 (by omega) (by omega)) kw_397 kw_399 sel_Rd_readGap kw_6 kw_400 (by decide +kernel) ⟨rfl, rfl⟩ ⟨Nat.le_of_ble_eq_true rfl, Nat.le_of_ble_eq_true rfl⟩ rfl hl.1 (Nat.le_of_ble_eq_true rfl) d_Rd_readAlternatives_48 ⟨Nat.le_of_ble_eq_true rfl, Nat.le_of_ble_eq_true rfl⟩ (fun r134 mem135 H locs hq hP hS => ?_)
          have hD : va_D (Az sz) (fw n ad mem135) := fw_D hD
          obtain ⟨g136, eg137⟩ : ∃ z, z = gapF T Z (g1 + 1) := ⟨_, rfl⟩
          rw [← eg137] at hq
          obtain ⟨hRX138, hgc139⟩ := hq
          have hg140 : g1 + 1 ≤ g136 := by rw [eg137]; exact gapF_ge T Z _
          have hg141 : g136 ≤ Z := by rw [eg137]; exact gapF_le T (by omega)
          obtain ⟨ft142, h9_143⟩ := hRX138.2.1
          have h1_144 : mem135 1 = .inr (0, [.ref (ad 2), .int (nI Z)]) := (hRX138.1.2.2 1 (by omega)).trans hT.1
          have h2_145 : mem135 2 = .inl (cy 0, 240, .inl f) := (hRX138.1.2.2 2 (by omega)).trans hT.2.2
          have h5_146 := hRX138.1.1.2.1
          have hbd152 := hRX138.1.1.1
          obtain ⟨S147, g148, hS_149, h220_150, h221_151⟩ := hRX138.1.1.2.2.2.2.2.2
          obtain ⟨k153, lo154, hi155, as156, pa157, ne158, he_159, ho_160⟩ := (hRX138.1.1.2.2.2.2.2.1 la (by omega)).1
          refine lv_pop Bx.1 Bx.2.1 d_Rd_readAlternatives_51 rfl ?_
          refine lv_aload_n Bx.1 Bx.2.1 d_Rd_readAlternatives_52 rfl (lv_at hl 1 rfl) ?_
          refine lv_aload_n Bx.1 Bx.2.1 d_Rd_readAlternatives_53 rfl (lv_at hl 3 rfl) ?_
          refine lv_iload_n Bx.1 Bx.2.1 d_Rd_readAlternatives_54 rfl (lv_at hl 4 rfl) ?_
          refine f_xVr (na := 1) (As := [.int (5)]) (rest := [.ref (ad (20 + 2 * la))]) Bx hml E hP hD hS (by omega) h9_143 rfl (m_Rd_readSequence_5X l hlt hn hT hf hRX138 (by omega) (u := u1) (A := A1) (by omega)) kw_435 kw_437 sel_Rd_readSequence kw_6 kw_438 (by decide +kernel) ⟨rfl, rfl⟩ ⟨Nat.le_of_ble_eq_true rfl, Nat.le_of_ble_eq_true rfl⟩ rfl hl.1 (Nat.le_of_ble_eq_true rfl) d_Rd_readAlternatives_55 ⟨Nat.le_of_ble_eq_true rfl, Nat.le_of_ble_eq_true rfl⟩ (fun X ce q9 memx H locs hx9 hP hS g1 g2 g3 => f_out hlocks hno hP hS g1 g2 g3 ⟨Nat.le_of_ble_eq_true rfl, Nat.le_of_ble_eq_true rfl⟩ ⟨hx9.1, Or.inr (Or.inr ⟨hbg, hE9, Fai.go ho hg (go_sl h47) (by rw [← eg1, ← eg137]; exact hx9.2)⟩)⟩) (fun r161 mem162 H locs hq hP hS => ?_)
          have hD : va_D (Az sz) (fw n ad mem162) := fw_D hD
          obtain ⟨kx163, a164, R165, E166, A167, nn168, to169, hr9170, hb171, hb172, hb173, hb174, hb175, htk176, hRX177, hsc178, hnb179⟩ := hq
          subst hr9170
          obtain ⟨g180, eg181⟩ : ∃ z, z = gapF T Z a164 := ⟨_, rfl⟩
          have hg182 : a164 ≤ g180 := by rw [eg181]; exact gapF_ge T Z _
          have hg183 : g180 ≤ Z := by rw [eg181]; exact gapF_le T (by omega)
          rw [← eg181] at hRX177
          obtain ⟨ft184, h9_185⟩ := hRX177.2.1
          have h1_186 : mem162 1 = .inr (0, [.ref (ad 2), .int (nI Z)]) := (hRX177.1.2.2 1 (by omega)).trans hT.1
          have h2_187 : mem162 2 = .inl (cy 0, 240, .inl f) := (hRX177.1.2.2 2 (by omega)).trans hT.2.2
          have h5_188 := hRX177.1.1.2.1
          have hbd194 := hRX177.1.1.1
          obtain ⟨S189, g190, hS_191, h220_192, h221_193⟩ := hRX177.1.1.2.2.2.2.2.2
          obtain ⟨k195, lo196, hi197, as198, pa199, ne200, he_201, ho_202⟩ := (hRX177.1.1.2.2.2.2.2.1 la (by omega)).1
          obtain ⟨k203, lo204, hi205, as206, pa207, ne208, he_209, ho_210⟩ := (hRX177.1.1.2.2.2.2.2.1 kx163 (by omega)).1
          have hbd211 := hRX177.1.1.1
          have hsuc3 := Suc.go ho hg hk9 hs9 (by omega) (go_sl h47) (by rw [← eg1, ← eg137]; exact hsc178)
          have htk3 := hz96.trans htk176 (by omega)
          refine f_putN Bx hP hD hS (by omega) he_201 rfl inEl tyEl okEl nmEl 5 (by decide) kw_91 rfl rfl rfl rfl (Nat.le_of_ble_eq_true rfl) d_Rd_readAlternatives_58 (fun H locs hP hS => ?_)
          obtain ⟨mem212, e_mem212⟩ : ∃ z, z = va_up mem162 ((20 + 2 * la)) (.inr (2, [.int (k195), .int (lo196), .int (hi197), as198, pa199, .ref (ad (20 + 2 * kx163)), .ref (ad (21 + 2 * la))])) := ⟨_, rfl⟩
          have hP : va_P D vcl (fw n ad mem212) H := by rw [e_mem212]; exact hP
          have hD : va_D (Az sz) (fw n ad mem212) := fw_D hD
          have h_mem212 : mem212 ((20 + 2 * la)) = .inr (2, [.int (k195), .int (lo196), .int (hi197), as198, pa199, .ref (ad (20 + 2 * kx163)), .ref (ad (21 + 2 * la))]) := by rw [e_mem212, va_up_self]
          have hh213 := (va_up_ne mem162 (.inr (2, [.int (k195), .int (lo196), .int (hi197), as198, pa199, .ref (ad (20 + 2 * kx163)), .ref (ad (21 + 2 * la))])) (show (222 : Nat) ≠ (20 + 2 * la) by first | decide | assumption | omega)).trans h9_185
          rw [← e_mem212] at hh213
          have hh214 := (va_up_ne mem162 (.inr (2, [.int (k195), .int (lo196), .int (hi197), as198, pa199, .ref (ad (20 + 2 * kx163)), .ref (ad (21 + 2 * la))])) (show (1 : Nat) ≠ (20 + 2 * la) by first | decide | assumption | omega)).trans h1_186
          rw [← e_mem212] at hh214
          have hh215 := (va_up_ne mem162 (.inr (2, [.int (k195), .int (lo196), .int (hi197), as198, pa199, .ref (ad (20 + 2 * kx163)), .ref (ad (21 + 2 * la))])) (show (5 : Nat) ≠ (20 + 2 * la) by first | decide | assumption | omega)).trans h5_188
          rw [← e_mem212] at hh215
          have hh216 := (va_up_ne mem162 (.inr (2, [.int (k195), .int (lo196), .int (hi197), as198, pa199, .ref (ad (20 + 2 * kx163)), .ref (ad (21 + 2 * la))])) (show (220 : Nat) ≠ (20 + 2 * la) by first | decide | assumption | omega)).trans h220_192
          rw [← e_mem212] at hh216
          have hh217 := (va_up_ne mem162 (.inr (2, [.int (k195), .int (lo196), .int (hi197), as198, pa199, .ref (ad (20 + 2 * kx163)), .ref (ad (21 + 2 * la))])) (show ((20 + 2 * kx163) : Nat) ≠ (20 + 2 * la) by first | decide | assumption | omega)).trans he_209
          rw [← e_mem212] at hh217
          have hRX218 : RX cy ad lim (g180) (R165) (E166) (to169) (nn168) m0 mem212 := by rw [e_mem212]; exact hRX177.el (by omega) (hRX177.1.mk (by omega) (hRX177.1.1.upEl (by omega) (fun q9 => ⟨(ho_202 q9).1, (ho_202 q9).2.1, Or.inr ⟨kx163, by omega, by omega, rfl⟩⟩)))
          refine lv_aload_n Bx.1 Bx.2.1 d_Rd_readAlternatives_61 rfl (lv_at hl 1 rfl) ?_
          refine f_getN Bx hP (by omega) h_mem212 rfl inEl 5 (by decide) kw_91 rfl rfl d_Rd_readAlternatives_62 ?_
          refine lv_astore_n (lv' := [(3, .ref (ad (20 + 2 * kx163))), (4, .int (nI k9)), (2, .ref (ad (20 + 2 * Ec))), (0, .ref (ad 222)), (1, .int (5))]) Bx.1 Bx.2.1 d_Rd_readAlternatives_65 rfl hl (by decide) rfl (fun ls hl => ?_)
          refine lv_iinc (lv' := [(4, .int ((nI k9 + (1)))), (3, .ref (ad (20 + 2 * kx163))), (2, .ref (ad (20 + 2 * Ec))), (0, .ref (ad 222)), (1, .int (5))]) Bx.1 Bx.2.1 d_Rd_readAlternatives_66 hl (k := 1) rfl rfl (by decide) rfl (fun ls hl => ?_)
          rw [show (nI k9 + (1) : Int32) = nI (k9 + 1) from nI_1 (k9)] at hl
          refine lv_goto Bx.1 Bx.2.1 d_Rd_readAlternatives_69 rfl ?_
          exact ih98 mem212 (a164) (R165) (E166) (A167) (nn168) (to169) (kx163) (k9 + 1) _ _ _ (by have := hmeas99; omega) (by rw [← eg181]; exact hRX218) (⟨by omega, by omega, by omega, by omega, by omega, by omega, by omega, by omega⟩) (hsuc3) (htk3) (hnb179) hP hD hS (lv_sub hl [0, 1, 2, 3, 4] rfl)
  exact loop91 _ mem84 (a36) (R37) (E38) (A39) (nn40) (to41) (kx35) (0) _ _ _ (Nat.lt_succ_self _) (by rw [← eg53]; exact hRX90) (⟨by omega, by omega, by omega, by omega, by omega, by omega, by omega, by omega⟩) (hsc50) (htk48) (hnb51) hP hD hS (lv_sub hl [0, 1, 2, 3, 4] rfl)
set_option maxHeartbeats 4000000 in
set_option maxRecDepth 100000 in
theorem m_Rd_readBracket_4X (l : Launch) {D : va_G} {cy : Nat → ClassId} {sz n : Nat} {ad : Nat → Nat} {mem : Nat → va_E} {Z a R Ec lim : Nat} {f T : Nat → Int32} {to : Nat → Int32} {nm : Nat → Int64} {m0 : Nat → va_E} {u : Nat} {A : Ro} {what oe en : Int32} (hlt : l.stackTraces = false) (hn : 224 ≤ n) (hT : TX cy ad Z f m0) (hf : ∀ k, k < Z → f k = T k) (hRX : RX cy ad lim a R Ec to nm m0 mem) (haB : a ≤ 300) (haZ : a < Z) (hwe : (what = 1 ∧ en = 41) ∨ (what = 2 ∧ en = 93)) : NXr l D cy sz n ad y_Rd_readBracket c_Rd_readBracket 4 (some (.object "AbnfChart$Element")) ({ frames := 26, cells := 1, slots := 6, locals := 620 } : Room) mem [.ref (ad 222), .int (4), .int (en)] (fun r mem' => ∃ (k' a' R' E' : Nat) (A' : Ro) (nm' : Nat → Int64) (to' : Nat → Int32), r = ad (20 + 2 * k') ∧ Ec ≤ k' ∧ k' < E' ∧ R ≤ R' ∧ a < a' ∧ a' ≤ Z ∧ TOK R R' to to' ∧ RX cy ad lim a' R' E' to' nm' m0 mem' ∧ Suc T Z (entS T Z (a + 1) u R Ec 5 A nm what oe) 4 R (A 235) (A 227) a' R' E' A' nm') (fun X mem' => ((X = cIA ∨ X = cIS) ∧ ∃ rc' ec' : Nat, RS cy ad lim rc' ec' m0 mem') ∧ (Fai T Z (entS T Z (a + 1) u R Ec 5 A nm what oe))) := by
  refine vx_ofW (cc := c_Rd_readBracket) (maxL := 4) (ret := (some (.object "AbnfChart$Element"))) (by decide) rfl ?_
  intro p e s m args below meth c s₁ B hml hno hv
  obtain ⟨rfl, E, hP, hD⟩ := hv
  have hx := B.exec
  have hb := B.bytes
  have hr := B.returns
  have hlocks := B.notSynchronized
  have Bx : MB p s m [.ref (ad 222), .int (4), .int (en)].toArray c c_Rd_readBracket "AbnfChart$Reader" D cy := ⟨hx, hb, tb_all (atoms_spec B.pre) E.2.1, findClass_of_methodNamed B.named, E.1⟩
  have hS : va_S (Az sz) s.heap s.heap [] := va_S.rf
  have hl := lv_entry ([.ref (ad 222), .int (4), .int (en)]) (n := 4) (Nat.le_of_ble_eq_true rfl)
  rw [lg_entry_eq]
  generalize (lg_sl ([.ref (ad 222), .int (4), .int (en)]) ++ List.replicate (4 - (lg_sl ([.ref (ad 222), .int (4), .int (en)])).length) Slot.unset).toArray = ls at hl ⊢
  have hl : lv_has ls 4 [(0, .ref (ad 222)), (1, .int (4)), (2, .int (en))] := hl
  have hZ9 := hT.2.1
  have hbd9 := hRX.1.1.1
  obtain ⟨ft1, h9_2⟩ := hRX.2.1
  have h1_3 : mem 1 = .inr (0, [.ref (ad 2), .int (nI Z)]) := (hRX.1.2.2 1 (by omega)).trans hT.1
  have h2_4 : mem 2 = .inl (cy 0, 240, .inl f) := (hRX.1.2.2 2 (by omega)).trans hT.2.2
  have h5_5 := hRX.1.1.2.1
  have hbd11 := hRX.1.1.1
  obtain ⟨S6, g7, hS_8, h220_9, h221_10⟩ := hRX.1.1.2.2.2.2.2.2
  refine lv_aload_n Bx.1 Bx.2.1 d_Rd_readBracket_0 rfl (lv_at hl 0 rfl) ?_
  refine lv_iload_n Bx.1 Bx.2.1 d_Rd_readBracket_1 rfl (lv_at hl 1 rfl) ?_
  refine lv_bipush (v := 6) Bx.1 Bx.2.1 d_Rd_readBracket_2 (by decide) ?_
  refine lv_icmp_ge Bx.1 Bx.2.1 d_Rd_readBracket_4 rfl (fun hb12 => ?_) (fun hb12 => ?_)
  · exact absurd hb12 (by decide)
  · refine lv_iconst (v := 1) Bx.1 Bx.2.1 d_Rd_readBracket_7 (by decide) ?_
    refine lv_goto Bx.1 Bx.2.1 d_Rd_readBracket_8 rfl ?_
    refine lv_aload_n Bx.1 Bx.2.1 d_Rd_readBracket_12 rfl (lv_at hl 0 rfl) ?_
    refine f_get Bx hP (by omega) h9_2 rfl inRd 2 (by decide) kw_146 rfl rfl d_Rd_readBracket_13 ?_
    refine f_xVv (na := 2) (As := [.int (1), .int (nI a)]) (rest := []) Bx hml E hP hD hS (by omega) h9_2 rfl (m_Rd_needRoomX l hlt hn hT hf hRX (by omega)) kw_383 kw_385 sel_Rd_needRoom kw_6 kw_386 (by decide +kernel) ⟨rfl, rfl⟩ ⟨Nat.le_of_ble_eq_true rfl, Nat.le_of_ble_eq_true rfl⟩ rfl hl.1 (Nat.le_of_ble_eq_true rfl) d_Rd_readBracket_16 ⟨Nat.le_of_ble_eq_true rfl, Nat.le_of_ble_eq_true rfl⟩ (fun X ce q9 memx H locs hx9 hP hS g1 g2 g3 => f_out hlocks hno hP hS g1 g2 g3 ⟨Nat.le_of_ble_eq_true rfl, Nat.le_of_ble_eq_true rfl⟩ ⟨hx9.1, absurd hx9.2 (by decide)⟩) (fun mem14 H locs hq hP hS => ?_)
    have hD : va_D (Az sz) (fw n ad mem14) := fw_D hD
    obtain ⟨hqe, hg15⟩ := hq
    rw [hqe] at hP hD
    refine lv_aload_n Bx.1 Bx.2.1 d_Rd_readBracket_19 rfl (lv_at hl 0 rfl) ?_
    refine lv_dup Bx.1 Bx.2.1 d_Rd_readBracket_20 rfl ?_
    refine f_get Bx hP (by omega) h9_2 rfl inRd 2 (by decide) kw_146 rfl rfl d_Rd_readBracket_21 ?_
    refine lv_iconst (v := 1) Bx.1 Bx.2.1 d_Rd_readBracket_24 (by decide) ?_
    refine lv_iadd Bx.1 Bx.2.1 d_Rd_readBracket_25 ?_
    rw [show nI a + 1 = nI (a + 1) from nI_add (a) (1)]
    refine f_put Bx hP hD hS (by omega) h9_2 rfl inRd tyRd okRd nmRd 2 (by decide) kw_146 rfl rfl rfl rfl (Nat.le_of_ble_eq_true rfl) d_Rd_readBracket_26 (fun H locs hP hS => ?_)
    obtain ⟨mem16, e_mem16⟩ : ∃ z, z = va_up mem (222) (.inr (4, [.ref (ad 1), .ref (ad 5), .int (nI (a + 1)), .int (ft1)])) := ⟨_, rfl⟩
    have hP : va_P D vcl (fw n ad mem16) H := by rw [e_mem16]; exact hP
    have hD : va_D (Az sz) (fw n ad mem16) := fw_D hD
    have h_mem16 : mem16 (222) = .inr (4, [.ref (ad 1), .ref (ad 5), .int (nI (a + 1)), .int (ft1)]) := by rw [e_mem16, va_up_self]
    have hh17 := (va_up_ne mem (.inr (4, [.ref (ad 1), .ref (ad 5), .int (nI (a + 1)), .int (ft1)])) (show (1 : Nat) ≠ 222 by first | decide | assumption | omega)).trans h1_3
    rw [← e_mem16] at hh17
    have hh18 := (va_up_ne mem (.inr (4, [.ref (ad 1), .ref (ad 5), .int (nI (a + 1)), .int (ft1)])) (show (5 : Nat) ≠ 222 by first | decide | assumption | omega)).trans h5_5
    rw [← e_mem16] at hh18
    have hh19 := (va_up_ne mem (.inr (4, [.ref (ad 1), .ref (ad 5), .int (nI (a + 1)), .int (ft1)])) (show (220 : Nat) ≠ 222 by first | decide | assumption | omega)).trans h220_9
    rw [← e_mem16] at hh19
    have hRX20 : RX cy ad lim (a + 1) (R) (Ec) (to) (nm) m0 mem16 := by rw [e_mem16]; exact hRX.at
    refine lv_aload_n Bx.1 Bx.2.1 d_Rd_readBracket_29 rfl (lv_at hl 0 rfl) ?_
    refine f_callVi (na := 0) (As := []) (rest := []) Bx hml E hP hD hS (by omega) h_mem16 rfl (m_Rd_readGapX l hn hT hf hRX20 (by omega) (by omega)) kw_397 kw_399 sel_Rd_readGap kw_6 kw_400 (by decide +kernel) ⟨rfl, rfl⟩ ⟨Nat.le_of_ble_eq_true rfl, Nat.le_of_ble_eq_true rfl⟩ rfl hl.1 (Nat.le_of_ble_eq_true rfl) d_Rd_readBracket_30 ⟨Nat.le_of_ble_eq_true rfl, Nat.le_of_ble_eq_true rfl⟩ (fun r21 mem22 H locs hq hP hS => ?_)
    have hD : va_D (Az sz) (fw n ad mem22) := fw_D hD
    obtain ⟨g23, eg24⟩ : ∃ z, z = gapF T Z (a + 1) := ⟨_, rfl⟩
    rw [← eg24] at hq
    obtain ⟨hRX25, hgc26⟩ := hq
    have hg27 : a + 1 ≤ g23 := by rw [eg24]; exact gapF_ge T Z _
    have hg28 : g23 ≤ Z := by rw [eg24]; exact gapF_le T (by omega)
    obtain ⟨ft29, h9_30⟩ := hRX25.2.1
    have h1_31 : mem22 1 = .inr (0, [.ref (ad 2), .int (nI Z)]) := (hRX25.1.2.2 1 (by omega)).trans hT.1
    have h2_32 : mem22 2 = .inl (cy 0, 240, .inl f) := (hRX25.1.2.2 2 (by omega)).trans hT.2.2
    have h5_33 := hRX25.1.1.2.1
    have hbd39 := hRX25.1.1.1
    obtain ⟨S34, g35, hS_36, h220_37, h221_38⟩ := hRX25.1.1.2.2.2.2.2.2
    refine lv_pop Bx.1 Bx.2.1 d_Rd_readBracket_33 rfl ?_
    refine lv_aload_n Bx.1 Bx.2.1 d_Rd_readBracket_34 rfl (lv_at hl 0 rfl) ?_
    refine lv_iload_n Bx.1 Bx.2.1 d_Rd_readBracket_35 rfl (lv_at hl 1 rfl) ?_
    refine lv_iconst (v := 1) Bx.1 Bx.2.1 d_Rd_readBracket_36 (by decide) ?_
    refine lv_iadd Bx.1 Bx.2.1 d_Rd_readBracket_37 ?_
    rw [show (4 + 1 : Int32) = 5 from rfl]
    refine f_xVr (na := 1) (As := [.int (5)]) (rest := []) Bx hml E hP hD hS (by omega) h9_30 rfl (m_Rd_readAlternatives_5X l hlt hn hT hf hRX25 (by omega) (u := u) (A := entA A 5 Ec what oe) (by omega)) kw_405 kw_407 sel_Rd_readAlternatives kw_6 kw_408 (by decide +kernel) ⟨rfl, rfl⟩ ⟨Nat.le_of_ble_eq_true rfl, Nat.le_of_ble_eq_true rfl⟩ rfl hl.1 (Nat.le_of_ble_eq_true rfl) d_Rd_readBracket_38 ⟨Nat.le_of_ble_eq_true rfl, Nat.le_of_ble_eq_true rfl⟩ (fun X ce q9 memx H locs hx9 hP hS g1 g2 g3 => f_out hlocks hno hP hS g1 g2 g3 ⟨Nat.le_of_ble_eq_true rfl, Nat.le_of_ble_eq_true rfl⟩ ⟨hx9.1, hx9.2.elim (fun z => Or.inl (entS_no (Or.inl (by rw [← eg24]; exact z)))) (fun z => z.elim (fun z => Or.inl (entS_no (Or.inr z))) (fun z => Fai.br0 (by rw [ent_ok (by rw [← eg24]; exact z.1) z.2.1, ← eg24]) z.2.2))⟩) (fun r40 mem41 H locs hq hP hS => ?_)
    have hD : va_D (Az sz) (fw n ad mem41) := fw_D hD
    obtain ⟨kx42, a43, R44, E45, A46, nn47, to48, hr949, hb50, hb51, hb52, hb53, hb54, htk55, hRX56, hsc57, hbg58, hE59, h4760, hnb61⟩ := hq
    subst hr949
    obtain ⟨g62, eg63⟩ : ∃ z, z = gapF T Z a43 := ⟨_, rfl⟩
    have hg64 : a43 ≤ g62 := by rw [eg63]; exact gapF_ge T Z _
    have hg65 : g62 ≤ Z := by rw [eg63]; exact gapF_le T (by omega)
    rw [← eg63] at hRX56
    obtain ⟨ft66, h9_67⟩ := hRX56.2.1
    have h1_68 : mem41 1 = .inr (0, [.ref (ad 2), .int (nI Z)]) := (hRX56.1.2.2 1 (by omega)).trans hT.1
    have h2_69 : mem41 2 = .inl (cy 0, 240, .inl f) := (hRX56.1.2.2 2 (by omega)).trans hT.2.2
    have h5_70 := hRX56.1.1.2.1
    have hbd76 := hRX56.1.1.1
    obtain ⟨S71, g72, hS_73, h220_74, h221_75⟩ := hRX56.1.1.2.2.2.2.2.2
    obtain ⟨k77, lo78, hi79, as80, pa81, ne82, he_83, ho_84⟩ := (hRX56.1.1.2.2.2.2.2.1 kx42 (by omega)).1
    have hbd85 := hRX56.1.1.1
    have hent : entS T Z (a + 1) u R Ec 5 A nm what oe = some (g23, u, R, Ec + 1, 5, entA A 5 Ec what oe, nm, true) := by rw [ent_ok (by rw [← eg24]; exact hbg58) hE59, ← eg24]
    have hA5 : A46 235 5 = what := by
      obtain ⟨c1, u1, ho, hg, hk, hs⟩ := hsc57
      rw [hk 5 (by omega), entA_5, upd_self]
    refine lv_astore_n (lv' := [(3, .ref (ad (20 + 2 * kx42))), (0, .ref (ad 222)), (1, .int (4)), (2, .int (en))]) Bx.1 Bx.2.1 d_Rd_readBracket_41 rfl hl (by decide) rfl (fun ls hl => ?_)
    refine lv_aload_n Bx.1 Bx.2.1 d_Rd_readBracket_42 rfl (lv_at hl 1 rfl) ?_
    refine lv_aload_n Bx.1 Bx.2.1 d_Rd_readBracket_43 rfl (lv_at hl 1 rfl) ?_
    refine f_callVi (na := 0) (As := []) (rest := [.ref (ad 222)]) Bx hml E hP hD hS (by omega) h9_67 rfl (m_Rd_peekX l hn hT hf hRX56 (by omega)) kw_353 kw_355 sel_Rd_peek kw_6 kw_356 (by decide +kernel) ⟨rfl, rfl⟩ ⟨Nat.le_of_ble_eq_true rfl, Nat.le_of_ble_eq_true rfl⟩ rfl hl.1 (Nat.le_of_ble_eq_true rfl) d_Rd_readBracket_44 ⟨Nat.le_of_ble_eq_true rfl, Nat.le_of_ble_eq_true rfl⟩ (fun r87 mem88 H locs hq hP hS => ?_)
    have hD : va_D (Az sz) (fw n ad mem88) := fw_D hD
    obtain ⟨hqe, hpk86⟩ := hq
    rw [hqe] at hP hD
    subst hpk86
    refine lv_iload_n Bx.1 Bx.2.1 d_Rd_readBracket_47 rfl (lv_at hl 3 rfl) ?_
    refine lv_icmp_ne Bx.1 Bx.2.1 d_Rd_readBracket_48 rfl (fun hb90 => ?_) (fun hb90 => ?_)
    · refine lv_iconst (v := 0) Bx.1 Bx.2.1 d_Rd_readBracket_55 (by decide) ?_
      refine lv_aload_n Bx.1 Bx.2.1 d_Rd_readBracket_56 rfl (lv_at hl 1 rfl) ?_
      refine f_get Bx hP (by omega) h9_67 rfl inRd 2 (by decide) kw_146 rfl rfl d_Rd_readBracket_57 ?_
      refine f_xVv (na := 2) (As := [.int (0), .int (nI g62)]) (rest := []) Bx hml E hP hD hS (by omega) h9_67 rfl (m_Rd_needReadableX l hlt hn hT hf hRX56 (by omega)) kw_360 kw_362 sel_Rd_needReadable kw_6 kw_363 (by decide +kernel) ⟨rfl, rfl⟩ ⟨Nat.le_of_ble_eq_true rfl, Nat.le_of_ble_eq_true rfl⟩ rfl hl.1 (Nat.le_of_ble_eq_true rfl) d_Rd_readBracket_60 ⟨Nat.le_of_ble_eq_true rfl, Nat.le_of_ble_eq_true rfl⟩ (fun X ce q9 memx H locs hx9 hP hS g1 g2 g3 => f_out hlocks hno hP hS g1 g2 g3 ⟨Nat.le_of_ble_eq_true rfl, Nat.le_of_ble_eq_true rfl⟩ ⟨hx9.1, Fai.br1 hent hsc57 (br_no hwe hA5 (by rw [← eg63]; exact hb90) h4760 hnb61)⟩) (fun mem92 H locs hq hP hS => ?_)
      have hD : va_D (Az sz) (fw n ad mem92) := fw_D hD
      obtain ⟨hqe, hg93⟩ := hq
      rw [hqe] at hP hD
      exact absurd rfl hg93
    · refine lv_iconst (v := 1) Bx.1 Bx.2.1 d_Rd_readBracket_51 (by decide) ?_
      refine lv_goto Bx.1 Bx.2.1 d_Rd_readBracket_52 rfl ?_
      refine lv_aload_n Bx.1 Bx.2.1 d_Rd_readBracket_56 rfl (lv_at hl 1 rfl) ?_
      refine f_get Bx hP (by omega) h9_67 rfl inRd 2 (by decide) kw_146 rfl rfl d_Rd_readBracket_57 ?_
      refine f_xVv (na := 2) (As := [.int (1), .int (nI g62)]) (rest := []) Bx hml E hP hD hS (by omega) h9_67 rfl (m_Rd_needReadableX l hlt hn hT hf hRX56 (by omega)) kw_360 kw_362 sel_Rd_needReadable kw_6 kw_363 (by decide +kernel) ⟨rfl, rfl⟩ ⟨Nat.le_of_ble_eq_true rfl, Nat.le_of_ble_eq_true rfl⟩ rfl hl.1 (Nat.le_of_ble_eq_true rfl) d_Rd_readBracket_60 ⟨Nat.le_of_ble_eq_true rfl, Nat.le_of_ble_eq_true rfl⟩ (fun X ce q9 memx H locs hx9 hP hS g1 g2 g3 => f_out hlocks hno hP hS g1 g2 g3 ⟨Nat.le_of_ble_eq_true rfl, Nat.le_of_ble_eq_true rfl⟩ ⟨hx9.1, absurd hx9.2 (by decide)⟩) (fun mem95 H locs hq hP hS => ?_)
      have hD : va_D (Az sz) (fw n ad mem95) := fw_D hD
      obtain ⟨hqe, hg96⟩ := hq
      rw [hqe] at hP hD
      refine lv_aload_n Bx.1 Bx.2.1 d_Rd_readBracket_63 rfl (lv_at hl 1 rfl) ?_
      refine lv_dup Bx.1 Bx.2.1 d_Rd_readBracket_64 rfl ?_
      refine f_get Bx hP (by omega) h9_67 rfl inRd 2 (by decide) kw_146 rfl rfl d_Rd_readBracket_65 ?_
      refine lv_iconst (v := 1) Bx.1 Bx.2.1 d_Rd_readBracket_68 (by decide) ?_
      refine lv_iadd Bx.1 Bx.2.1 d_Rd_readBracket_69 ?_
      rw [show nI g62 + 1 = nI (g62 + 1) from nI_add (g62) (1)]
      refine f_put Bx hP hD hS (by omega) h9_67 rfl inRd tyRd okRd nmRd 2 (by decide) kw_146 rfl rfl rfl rfl (Nat.le_of_ble_eq_true rfl) d_Rd_readBracket_70 (fun H locs hP hS => ?_)
      obtain ⟨mem97, e_mem97⟩ : ∃ z, z = va_up mem41 (222) (.inr (4, [.ref (ad 1), .ref (ad 5), .int (nI (g62 + 1)), .int (ft66)])) := ⟨_, rfl⟩
      have hP : va_P D vcl (fw n ad mem97) H := by rw [e_mem97]; exact hP
      have hD : va_D (Az sz) (fw n ad mem97) := fw_D hD
      have h_mem97 : mem97 (222) = .inr (4, [.ref (ad 1), .ref (ad 5), .int (nI (g62 + 1)), .int (ft66)]) := by rw [e_mem97, va_up_self]
      have hh98 := (va_up_ne mem41 (.inr (4, [.ref (ad 1), .ref (ad 5), .int (nI (g62 + 1)), .int (ft66)])) (show (1 : Nat) ≠ 222 by first | decide | assumption | omega)).trans h1_68
      rw [← e_mem97] at hh98
      have hh99 := (va_up_ne mem41 (.inr (4, [.ref (ad 1), .ref (ad 5), .int (nI (g62 + 1)), .int (ft66)])) (show (5 : Nat) ≠ 222 by first | decide | assumption | omega)).trans h5_70
      rw [← e_mem97] at hh99
      have hh100 := (va_up_ne mem41 (.inr (4, [.ref (ad 1), .ref (ad 5), .int (nI (g62 + 1)), .int (ft66)])) (show (220 : Nat) ≠ 222 by first | decide | assumption | omega)).trans h220_74
      rw [← e_mem97] at hh100
      have hh101 := (va_up_ne mem41 (.inr (4, [.ref (ad 1), .ref (ad 5), .int (nI (g62 + 1)), .int (ft66)])) (show ((20 + 2 * kx42) : Nat) ≠ 222 by first | decide | assumption | omega)).trans he_83
      rw [← e_mem97] at hh101
      have hRX102 : RX cy ad lim (g62 + 1) (R44) (E45) (to48) (nn47) m0 mem97 := by rw [e_mem97]; exact hRX56.at
      refine lv_aload_n Bx.1 Bx.2.1 d_Rd_readBracket_73 rfl (lv_at hl 0 rfl) ?_
      obtain ⟨A29, hsuc9⟩ := Suc.br hent hsc57 (br_pop hwe hA5 (by rw [← eg63]; exact hb90)) (K := A 235) (fun i hi => by rw [entA_5]; exact upd_ne (by omega)) entA_7
      exact x_aret hx hb hlocks hr (⟨kx42, gapF T Z a43 + 1, R44, E45, A29, nn47, to48, rfl, by omega, by omega, by omega, by rw [← eg63]; omega, by rw [← eg63]; have := br_lt hwe hb90; omega, htk55, by rw [← eg63]; exact hRX102, hsuc9⟩) hP hS d_Rd_readBracket_74
set_option maxHeartbeats 4000000 in
set_option maxRecDepth 100000 in
theorem m_Rd_readOption_4X (l : Launch) {D : va_G} {cy : Nat → ClassId} {sz n : Nat} {ad : Nat → Nat} {mem : Nat → va_E} {Z a R Ec lim : Nat} {f T : Nat → Int32} {to : Nat → Int32} {nm : Nat → Int64} {m0 : Nat → va_E} {u : Nat} {A : Ro} (hlt : l.stackTraces = false) (hn : 224 ≤ n) (hT : TX cy ad Z f m0) (hf : ∀ k, k < Z → f k = T k) (hRX : RX cy ad lim a R Ec to nm m0 mem) (haB : a ≤ 300) (haZ : a < Z) : NXr l D cy sz n ad y_Rd_readOption c_Rd_readOption 3 (some (.object "AbnfChart$Element")) ({ frames := 27, cells := 1, slots := 6, locals := 643 } : Room) mem [.ref (ad 222), .int (4)] (fun r mem' => Ec < 100 ∧ ∃ (k' a' R' E' : Nat) (A' : Ro) (nm' : Nat → Int64) (to' : Nat → Int32), r = ad (20 + 2 * k') ∧ Ec ≤ k' ∧ k' < E' ∧ R ≤ R' ∧ a < a' ∧ a' ≤ Z ∧ TOK R R' to to' ∧ RX cy ad lim a' R' E' to' nm' m0 mem' ∧ Suc T Z (entS T Z (a + 1) u R (Ec + 1) 5 (elA A Ec 3) nm 2 (nI Ec)) 4 R (A 235) (A 227) a' R' E' A' nm') (fun X mem' => ((X = cIA ∨ X = cIS) ∧ ∃ rc' ec' : Nat, RS cy ad lim rc' ec' m0 mem') ∧ (Ec = 100 ∨ Fai T Z (entS T Z (a + 1) u R (Ec + 1) 5 (elA A Ec 3) nm 2 (nI Ec)))) := by
  refine vx_ofW (cc := c_Rd_readOption) (maxL := 3) (ret := (some (.object "AbnfChart$Element"))) (by decide) rfl ?_
  intro p e s m args below meth c s₁ B hml hno hv
  obtain ⟨rfl, E, hP, hD⟩ := hv
  have hx := B.exec
  have hb := B.bytes
  have hr := B.returns
  have hlocks := B.notSynchronized
  have Bx : MB p s m [.ref (ad 222), .int (4)].toArray c c_Rd_readOption "AbnfChart$Reader" D cy := ⟨hx, hb, tb_all (atoms_spec B.pre) E.2.1, findClass_of_methodNamed B.named, E.1⟩
  have hS : va_S (Az sz) s.heap s.heap [] := va_S.rf
  have hl := lv_entry ([.ref (ad 222), .int (4)]) (n := 3) (Nat.le_of_ble_eq_true rfl)
  rw [lg_entry_eq]
  generalize (lg_sl ([.ref (ad 222), .int (4)]) ++ List.replicate (3 - (lg_sl ([.ref (ad 222), .int (4)])).length) Slot.unset).toArray = ls at hl ⊢
  have hl : lv_has ls 3 [(0, .ref (ad 222)), (1, .int (4))] := hl
  have hZ9 := hT.2.1
  have hbd9 := hRX.1.1.1
  obtain ⟨ft1, h9_2⟩ := hRX.2.1
  have h1_3 : mem 1 = .inr (0, [.ref (ad 2), .int (nI Z)]) := (hRX.1.2.2 1 (by omega)).trans hT.1
  have h2_4 : mem 2 = .inl (cy 0, 240, .inl f) := (hRX.1.2.2 2 (by omega)).trans hT.2.2
  have h5_5 := hRX.1.1.2.1
  have hbd11 := hRX.1.1.1
  obtain ⟨S6, g7, hS_8, h220_9, h221_10⟩ := hRX.1.1.2.2.2.2.2.2
  refine lv_aload_n Bx.1 Bx.2.1 d_Rd_readOption_0 rfl (lv_at hl 0 rfl) ?_
  refine lv_iconst (v := 3) Bx.1 Bx.2.1 d_Rd_readOption_1 (by decide) ?_
  refine lv_aload_n Bx.1 Bx.2.1 d_Rd_readOption_2 rfl (lv_at hl 0 rfl) ?_
  refine f_get Bx hP (by omega) h9_2 rfl inRd 2 (by decide) kw_146 rfl rfl d_Rd_readOption_3 ?_
  refine f_xVr (na := 2) (As := [.int (3), .int (nI a)]) (rest := []) Bx hml E hP hD hS (by omega) h9_2 rfl (m_Rd_addElementX l hlt hn hT hf hRX (by omega)) kw_419 kw_421 sel_Rd_addElement kw_6 kw_422 (by decide +kernel) ⟨rfl, rfl⟩ ⟨Nat.le_of_ble_eq_true rfl, Nat.le_of_ble_eq_true rfl⟩ rfl hl.1 (Nat.le_of_ble_eq_true rfl) d_Rd_readOption_6 ⟨Nat.le_of_ble_eq_true rfl, Nat.le_of_ble_eq_true rfl⟩ (fun X ce q9 memx H locs hx9 hP hS g1 g2 g3 => f_out hlocks hno hP hS g1 g2 g3 ⟨Nat.le_of_ble_eq_true rfl, Nat.le_of_ble_eq_true rfl⟩ ⟨hx9.1, Or.inl hx9.2⟩) (fun r12 mem13 H locs hq hP hS => ?_)
  have hD : va_D (Az sz) (fw n ad mem13) := fw_D hD
  obtain ⟨hr916, hec15, hRX14⟩ := hq
  subst hr916
  obtain ⟨ft17, h9_18⟩ := hRX14.2.1
  have h1_19 : mem13 1 = .inr (0, [.ref (ad 2), .int (nI Z)]) := (hRX14.1.2.2 1 (by omega)).trans hT.1
  have h2_20 : mem13 2 = .inl (cy 0, 240, .inl f) := (hRX14.1.2.2 2 (by omega)).trans hT.2.2
  have h5_21 := hRX14.1.1.2.1
  have hbd27 := hRX14.1.1.1
  obtain ⟨S22, g23, hS_24, h220_25, h221_26⟩ := hRX14.1.1.2.2.2.2.2.2
  obtain ⟨k28, lo29, hi30, as31, pa32, ne33, he_34, ho_35⟩ := (hRX14.1.1.2.2.2.2.2.1 Ec (by omega)).1
  refine lv_astore_n (lv' := [(2, .ref (ad (20 + 2 * Ec))), (0, .ref (ad 222)), (1, .int (4))]) Bx.1 Bx.2.1 d_Rd_readOption_9 rfl hl (by decide) rfl (fun ls hl => ?_)
  refine lv_aload_n Bx.1 Bx.2.1 d_Rd_readOption_10 rfl (lv_at hl 0 rfl) ?_
  refine lv_aload_n Bx.1 Bx.2.1 d_Rd_readOption_11 rfl (lv_at hl 1 rfl) ?_
  refine lv_iload_n Bx.1 Bx.2.1 d_Rd_readOption_12 rfl (lv_at hl 2 rfl) ?_
  refine lv_bipush (v := 93) Bx.1 Bx.2.1 d_Rd_readOption_13 (by decide) ?_
  refine f_xVr (na := 2) (As := [.int (4), .int (93)]) (rest := [.ref (ad (20 + 2 * Ec))]) Bx hml E hP hD hS (by omega) h9_18 rfl (m_Rd_readBracket_4X l hlt hn hT hf hRX14 (by omega) (u := u) (A := elA A Ec 3) (by omega) (Or.inr ⟨rfl, rfl⟩)) kw_447 kw_449 sel_Rd_readBracket kw_6 kw_450 (by decide +kernel) ⟨rfl, rfl⟩ ⟨Nat.le_of_ble_eq_true rfl, Nat.le_of_ble_eq_true rfl⟩ rfl hl.1 (Nat.le_of_ble_eq_true rfl) d_Rd_readOption_15 ⟨Nat.le_of_ble_eq_true rfl, Nat.le_of_ble_eq_true rfl⟩ (fun X ce q9 memx H locs hx9 hP hS g1 g2 g3 => f_out hlocks hno hP hS g1 g2 g3 ⟨Nat.le_of_ble_eq_true rfl, Nat.le_of_ble_eq_true rfl⟩ ⟨hx9.1, Or.inr hx9.2⟩) (fun r36 mem37 H locs hq hP hS => ?_)
  have hD : va_D (Az sz) (fw n ad mem37) := fw_D hD
  obtain ⟨kx38, a39, R40, E41, A42, nn43, to44, hr945, hb46, hb47, hb48, hb49, hb50, htk51, hRX52, hsc53⟩ := hq
  subst hr945
  obtain ⟨ft54, h9_55⟩ := hRX52.2.1
  have h1_56 : mem37 1 = .inr (0, [.ref (ad 2), .int (nI Z)]) := (hRX52.1.2.2 1 (by omega)).trans hT.1
  have h2_57 : mem37 2 = .inl (cy 0, 240, .inl f) := (hRX52.1.2.2 2 (by omega)).trans hT.2.2
  have h5_58 := hRX52.1.1.2.1
  have hbd64 := hRX52.1.1.1
  obtain ⟨S59, g60, hS_61, h220_62, h221_63⟩ := hRX52.1.1.2.2.2.2.2.2
  obtain ⟨k65, lo66, hi67, as68, pa69, ne70, he_71, ho_72⟩ := (hRX52.1.1.2.2.2.2.2.1 Ec (by omega)).1
  obtain ⟨k73, lo74, hi75, as76, pa77, ne78, he_79, ho_80⟩ := (hRX52.1.1.2.2.2.2.2.1 kx38 (by omega)).1
  have hbd81 := hRX52.1.1.1
  refine f_putN Bx hP hD hS (by omega) he_71 rfl inEl tyEl okEl nmEl 4 (by decide) kw_87 rfl rfl rfl rfl (Nat.le_of_ble_eq_true rfl) d_Rd_readOption_18 (fun H locs hP hS => ?_)
  obtain ⟨mem82, e_mem82⟩ : ∃ z, z = va_up mem37 ((20 + 2 * Ec)) (.inr (2, [.int (k65), .int (lo66), .int (hi67), as68, .ref (ad (20 + 2 * kx38)), ne70, .ref (ad (21 + 2 * Ec))])) := ⟨_, rfl⟩
  have hP : va_P D vcl (fw n ad mem82) H := by rw [e_mem82]; exact hP
  have hD : va_D (Az sz) (fw n ad mem82) := fw_D hD
  have h_mem82 : mem82 ((20 + 2 * Ec)) = .inr (2, [.int (k65), .int (lo66), .int (hi67), as68, .ref (ad (20 + 2 * kx38)), ne70, .ref (ad (21 + 2 * Ec))]) := by rw [e_mem82, va_up_self]
  have hh83 := (va_up_ne mem37 (.inr (2, [.int (k65), .int (lo66), .int (hi67), as68, .ref (ad (20 + 2 * kx38)), ne70, .ref (ad (21 + 2 * Ec))])) (show (222 : Nat) ≠ (20 + 2 * Ec) by first | decide | assumption | omega)).trans h9_55
  rw [← e_mem82] at hh83
  have hh84 := (va_up_ne mem37 (.inr (2, [.int (k65), .int (lo66), .int (hi67), as68, .ref (ad (20 + 2 * kx38)), ne70, .ref (ad (21 + 2 * Ec))])) (show (1 : Nat) ≠ (20 + 2 * Ec) by first | decide | assumption | omega)).trans h1_56
  rw [← e_mem82] at hh84
  have hh85 := (va_up_ne mem37 (.inr (2, [.int (k65), .int (lo66), .int (hi67), as68, .ref (ad (20 + 2 * kx38)), ne70, .ref (ad (21 + 2 * Ec))])) (show (5 : Nat) ≠ (20 + 2 * Ec) by first | decide | assumption | omega)).trans h5_58
  rw [← e_mem82] at hh85
  have hh86 := (va_up_ne mem37 (.inr (2, [.int (k65), .int (lo66), .int (hi67), as68, .ref (ad (20 + 2 * kx38)), ne70, .ref (ad (21 + 2 * Ec))])) (show (220 : Nat) ≠ (20 + 2 * Ec) by first | decide | assumption | omega)).trans h220_62
  rw [← e_mem82] at hh86
  have hh87 := (va_up_ne mem37 (.inr (2, [.int (k65), .int (lo66), .int (hi67), as68, .ref (ad (20 + 2 * kx38)), ne70, .ref (ad (21 + 2 * Ec))])) (show ((20 + 2 * kx38) : Nat) ≠ (20 + 2 * Ec) by first | decide | assumption | omega)).trans he_79
  rw [← e_mem82] at hh87
  have hRX88 : RX cy ad lim (a39) (R40) (E41) (to44) (nn43) m0 mem82 := by rw [e_mem82]; exact hRX52.el (by omega) (hRX52.1.mk (by omega) (hRX52.1.1.upEl (by omega) (fun q9 => ⟨(ho_72 q9).1, Or.inr ⟨kx38, by omega, by omega, rfl⟩, (ho_72 q9).2.2⟩)))
  refine lv_aload_n Bx.1 Bx.2.1 d_Rd_readOption_21 rfl (lv_at hl 0 rfl) ?_
  exact x_aret hx hb hlocks hr (⟨hec15, ⟨Ec, a39, R40, E41, _, nn43, to44, rfl, by omega, by omega, by omega, by omega, by omega, htk51, hRX88, hsc53.eq rfl (elA_ne (by decide)) (elA_ne (by decide))⟩⟩) hP hS d_Rd_readOption_22
set_option maxHeartbeats 4000000 in
set_option maxRecDepth 100000 in
theorem m_Rd_readElement_4X (l : Launch) {D : va_G} {cy : Nat → ClassId} {sz n : Nat} {ad : Nat → Nat} {mem : Nat → va_E} {Z a R Ec lim : Nat} {f T : Nat → Int32} {to : Nat → Int32} {nm : Nat → Int64} {m0 : Nat → va_E} {u : Nat} {A : Ro} (hlt : l.stackTraces = false) (hn : 224 ≤ n) (hT : TX cy ad Z f m0) (hf : ∀ k, k < Z → f k = T k) (hRX : RX cy ad lim a R Ec to nm m0 mem) (haB : a ≤ 300) (haZ : a ≤ Z) : NXr l D cy sz n ad y_Rd_readElement c_Rd_readElement 2 (some (.object "AbnfChart$Element")) ({ frames := 28, cells := 1, slots := 6, locals := 666 } : Room) mem [.ref (ad 222), .int (4)] (fun r mem' => ∃ (k' a' R' E' : Nat) (A' : Ro) (nm' : Nat → Int64) (to' : Nat → Int32), r = ad (20 + 2 * k') ∧ Ec ≤ k' ∧ k' < E' ∧ R ≤ R' ∧ a < a' ∧ a' ≤ Z ∧ TOK R R' to to' ∧ RX cy ad lim a' R' E' to' nm' m0 mem' ∧ Suc T Z (singS T Z a u R Ec 4 A nm) 4 R (A 235) (A 227) a' R' E' A' nm' ∧ OKc (hereF Z T a)) (fun X mem' => ((X = cIA ∨ X = cIS) ∧ ∃ rc' ec' : Nat, RS cy ad lim rc' ec' m0 mem') ∧ (Fai T Z (singS T Z a u R Ec 4 A nm) ∨ ¬ OKc (hereF Z T a))) := by
  refine vx_ofW (cc := c_Rd_readElement) (maxL := 2) (ret := (some (.object "AbnfChart$Element"))) (by decide) rfl ?_
  intro p e s m args below meth c s₁ B hml hno hv
  obtain ⟨rfl, E, hP, hD⟩ := hv
  have hx := B.exec
  have hb := B.bytes
  have hr := B.returns
  have hlocks := B.notSynchronized
  have Bx : MB p s m [.ref (ad 222), .int (4)].toArray c c_Rd_readElement "AbnfChart$Reader" D cy := ⟨hx, hb, tb_all (atoms_spec B.pre) E.2.1, findClass_of_methodNamed B.named, E.1⟩
  have hS : va_S (Az sz) s.heap s.heap [] := va_S.rf
  have hl := lv_entry ([.ref (ad 222), .int (4)]) (n := 2) (Nat.le_of_ble_eq_true rfl)
  rw [lg_entry_eq]
  generalize (lg_sl ([.ref (ad 222), .int (4)]) ++ List.replicate (2 - (lg_sl ([.ref (ad 222), .int (4)])).length) Slot.unset).toArray = ls at hl ⊢
  have hl : lv_has ls 2 [(0, .ref (ad 222)), (1, .int (4))] := hl
  have hZ9 := hT.2.1
  have hbd9 := hRX.1.1.1
  obtain ⟨ft1, h9_2⟩ := hRX.2.1
  have h1_3 : mem 1 = .inr (0, [.ref (ad 2), .int (nI Z)]) := (hRX.1.2.2 1 (by omega)).trans hT.1
  have h2_4 : mem 2 = .inl (cy 0, 240, .inl f) := (hRX.1.2.2 2 (by omega)).trans hT.2.2
  have h5_5 := hRX.1.1.2.1
  have hbd11 := hRX.1.1.1
  obtain ⟨S6, g7, hS_8, h220_9, h221_10⟩ := hRX.1.1.2.2.2.2.2.2
  refine lv_aload_n Bx.1 Bx.2.1 d_Rd_readElement_0 rfl (lv_at hl 0 rfl) ?_
  refine f_callVi (na := 0) (As := []) (rest := []) Bx hml E hP hD hS (by omega) h9_2 rfl (m_Rd_peekX l hn hT hf hRX (by omega)) kw_353 kw_355 sel_Rd_peek kw_6 kw_356 (by decide +kernel) ⟨rfl, rfl⟩ ⟨Nat.le_of_ble_eq_true rfl, Nat.le_of_ble_eq_true rfl⟩ rfl hl.1 (Nat.le_of_ble_eq_true rfl) d_Rd_readElement_1 ⟨Nat.le_of_ble_eq_true rfl, Nat.le_of_ble_eq_true rfl⟩ (fun r13 mem14 H locs hq hP hS => ?_)
  have hD : va_D (Az sz) (fw n ad mem14) := fw_D hD
  obtain ⟨hqe, hpk12⟩ := hq
  rw [hqe] at hP hD
  subst hpk12
  refine lv_topi (fun v16 e_v16 => ?_)
  by_cases c34 : v16 = 34
  · rw [c34]
    refine lv_lookup (off := 58) (tgt := 62) Bx.1 Bx.2.1 d_Rd_readElement_4 (by decide) (by decide) rfl ?_
    rw [e_v16] at c34
    have hlt34 := hereF_lt (show hereF Z T (a) ≠ -1 by rw [c34]; decide)
    refine lv_aload_n Bx.1 Bx.2.1 d_Rd_readElement_62 rfl (lv_at hl 0 rfl) ?_
    refine lv_aload_n Bx.1 Bx.2.1 d_Rd_readElement_63 rfl (lv_at hl 0 rfl) ?_
    refine f_get Bx hP (by omega) h9_2 rfl inRd 2 (by decide) kw_146 rfl rfl d_Rd_readElement_64 ?_
    refine lv_iconst (v := 5) Bx.1 Bx.2.1 d_Rd_readElement_67 (by decide) ?_
    refine f_xVr (na := 2) (As := [.int (nI a), .int (5)]) (rest := []) Bx hml E hP hD hS (by omega) h9_2 rfl (m_Rd_readStringX l hlt hn hT hf hRX (by omega) (by omega)) kw_455 kw_457 sel_Rd_readString kw_6 kw_458 (by decide +kernel) ⟨rfl, rfl⟩ ⟨Nat.le_of_ble_eq_true rfl, Nat.le_of_ble_eq_true rfl⟩ rfl hl.1 (Nat.le_of_ble_eq_true rfl) d_Rd_readElement_68 ⟨Nat.le_of_ble_eq_true rfl, Nat.le_of_ble_eq_true rfl⟩ (fun X ce q9 memx H locs hx9 hP hS g1 g2 g3 => f_out hlocks hno hP hS g1 g2 g3 ⟨Nat.le_of_ble_eq_true rfl, Nat.le_of_ble_eq_true rfl⟩ ⟨hx9.1, Or.inl (fai_str c34 hx9.2 hbd9.2.1)⟩) (fun r17 mem18 H locs hq hP hS => ?_)
    have hD : va_D (Az sz) (fw n ad mem18) := fw_D hD
    obtain ⟨hE9, hq9, hr2, hle9, hRX2⟩ := hq
    subst hr2
    obtain ⟨A2, hsc2⟩ := suc_str (u := u) (R := R) (f := 4) (A := A) (nm := nm) c34 hE9 hq9
    exact x_aret hx hb hlocks hr (⟨Ec, _, R, Ec + 1, A2, nm, to, rfl, by omega, by omega, by omega, by omega, hle9, TOK.of rfl, hRX2, hsc2, (l34 c34).2.2.2⟩) hP hS d_Rd_readElement_71
  by_cases c37 : v16 = 37
  · rw [c37]
    refine lv_lookup (off := 68) (tgt := 72) Bx.1 Bx.2.1 d_Rd_readElement_4 (by decide) (by decide) rfl ?_
    rw [e_v16] at c37
    have hlt37 := hereF_lt (show hereF Z T (a) ≠ -1 by rw [c37]; decide)
    refine lv_aload_n Bx.1 Bx.2.1 d_Rd_readElement_72 rfl (lv_at hl 0 rfl) ?_
    refine f_get Bx hP (by omega) h9_2 rfl inRd 0 (by decide) kw_144 rfl rfl d_Rd_readElement_73 ?_
    refine lv_aload_n Bx.1 Bx.2.1 d_Rd_readElement_76 rfl (lv_at hl 0 rfl) ?_
    refine f_get Bx hP (by omega) h9_2 rfl inRd 2 (by decide) kw_146 rfl rfl d_Rd_readElement_77 ?_
    refine lv_iconst (v := 1) Bx.1 Bx.2.1 d_Rd_readElement_80 (by decide) ?_
    refine lv_iadd Bx.1 Bx.2.1 d_Rd_readElement_81 ?_
    rw [show nI a + 1 = nI (a + 1) from nI_add (a) (1)]
    refine f_callVi (na := 1) (As := [.int (nI (a + 1))]) (rest := []) Bx hml E hP hD hS (by omega) h1_3 rfl (m_Ch_codeAt l (by omega) h1_3 (by omega) h2_4 (by rw [nI_toInt (by omega)]; omega)) kw_341 kw_342 kw_343 kw_2 kw_344 (by decide +kernel) ⟨rfl, rfl⟩ ⟨Nat.le_of_ble_eq_true rfl, Nat.le_of_ble_eq_true rfl⟩ rfl hl.1 (Nat.le_of_ble_eq_true rfl) d_Rd_readElement_82 ⟨Nat.le_of_ble_eq_true rfl, Nat.le_of_ble_eq_true rfl⟩ (fun r19 mem20 H locs hq hP hS => ?_)
    have hD : va_D (Az sz) (fw n ad mem20) := fw_D hD
    obtain ⟨hco21, hqe⟩ := hq
    rw [hqe] at hP hD
    rw [code_here hf hT.2.1 (k := a + 1) (by omega)] at hco21
    subst hco21
    refine f_callSNi (na := 1) (As := [.int (hereF Z T (a + 1))]) (rest := []) Bx hml E.2.1 (m_Ab_smallOfX l (hereF Z T (a + 1))) kw_372 kw_373 kw_1 kw_374 (by decide +kernel) ⟨rfl, rfl⟩ ⟨Nat.le_of_ble_eq_true rfl, Nat.le_of_ble_eq_true rfl⟩ rfl hl.1 (Nat.le_of_ble_eq_true rfl) d_Rd_readElement_85 ⟨Nat.le_of_ble_eq_true rfl, Nat.le_of_ble_eq_true rfl⟩ (fun r23 hs22 => ?_)
    subst hs22
    refine lv_bipush (v := 115) Bx.1 Bx.2.1 d_Rd_readElement_88 (by decide) ?_
    refine lv_icmp_ne Bx.1 Bx.2.1 d_Rd_readElement_90 rfl (fun hb24 => ?_) (fun hb24 => ?_)
    · refine lv_aload_n Bx.1 Bx.2.1 d_Rd_readElement_100 rfl (lv_at hl 0 rfl) ?_
      refine f_xVr (na := 0) (As := []) (rest := []) Bx hml E hP hD hS (by omega) h9_2 rfl (m_Rd_readValueX l hlt hn hT hf hRX (by omega) (by omega)) kw_467 kw_469 sel_Rd_readValue kw_6 kw_470 (by decide +kernel) ⟨rfl, rfl⟩ ⟨Nat.le_of_ble_eq_true rfl, Nat.le_of_ble_eq_true rfl⟩ rfl hl.1 (Nat.le_of_ble_eq_true rfl) d_Rd_readElement_101 ⟨Nat.le_of_ble_eq_true rfl, Nat.le_of_ble_eq_true rfl⟩ (fun X ce q9 memx H locs hx9 hP hS g1 g2 g3 => f_out hlocks hno hP hS g1 g2 g3 ⟨Nat.le_of_ble_eq_true rfl, Nat.le_of_ble_eq_true rfl⟩ ⟨hx9.1, Or.inl (fai_val c37 hb24 hx9.2 hbd9.2.1)⟩) (fun r25 mem26 H locs hq hP hS => ?_)
      have hD : va_D (Az sz) (fw n ad mem26) := fw_D hD
      obtain ⟨hE9, ba, a2, hba, hp9, hr2, x1, x2, hRX2⟩ := hq
      subst hr2
      obtain ⟨A2, hsc2⟩ := suc_val (u := u) (R := R) (f := 4) (A := A) (nm := nm) c37 hba hE9 hp9
      exact x_aret hx hb hlocks hr (⟨Ec, a2, R, Ec + 1, A2, nm, to, rfl, by omega, by omega, by omega, x1, x2, TOK.of rfl, hRX2, hsc2, (l37 c37).2.2.2.2⟩) hP hS d_Rd_readElement_104
    · refine lv_aload_n Bx.1 Bx.2.1 d_Rd_readElement_93 rfl (lv_at hl 0 rfl) ?_
      refine f_xVr (na := 0) (As := []) (rest := []) Bx hml E hP hD hS (by omega) h9_2 rfl (m_Rd_readExactStringX l hlt hn hT hf hRX (by omega) (by omega)) kw_463 kw_465 sel_Rd_readExactString kw_6 kw_466 (by decide +kernel) ⟨rfl, rfl⟩ ⟨Nat.le_of_ble_eq_true rfl, Nat.le_of_ble_eq_true rfl⟩ rfl hl.1 (Nat.le_of_ble_eq_true rfl) d_Rd_readElement_94 ⟨Nat.le_of_ble_eq_true rfl, Nat.le_of_ble_eq_true rfl⟩ (fun X ce q9 memx H locs hx9 hP hS g1 g2 g3 => f_out hlocks hno hP hS g1 g2 g3 ⟨Nat.le_of_ble_eq_true rfl, Nat.le_of_ble_eq_true rfl⟩ ⟨hx9.1, Or.inl (fai_xst c37 hb24 hx9.2 hbd9.2.1)⟩) (fun r27 mem28 H locs hq hP hS => ?_)
      have hD : va_D (Az sz) (fw n ad mem28) := fw_D hD
      obtain ⟨hq8, hE9, hq9, hr2, hle9, hRX2⟩ := hq
      subst hr2
      obtain ⟨A2, hsc2⟩ := suc_xst (u := u) (R := R) (f := 4) (A := A) (nm := nm) c37 hb24 hq8 hE9 hq9
      refine lv_goto Bx.1 Bx.2.1 d_Rd_readElement_97 rfl ?_
      exact x_aret hx hb hlocks hr (⟨Ec, _, R, Ec + 1, A2, nm, to, rfl, by omega, by omega, by omega, by omega, hle9, TOK.of rfl, hRX2, hsc2, (l37 c37).2.2.2.2⟩) hP hS d_Rd_readElement_104
  by_cases c40 : v16 = 40
  · rw [c40]
    refine lv_lookup (off := 44) (tgt := 48) Bx.1 Bx.2.1 d_Rd_readElement_4 (by decide) (by decide) rfl ?_
    rw [e_v16] at c40
    have hlt40 := hereF_lt (show hereF Z T (a) ≠ -1 by rw [c40]; decide)
    refine lv_aload_n Bx.1 Bx.2.1 d_Rd_readElement_48 rfl (lv_at hl 0 rfl) ?_
    refine lv_iload_n Bx.1 Bx.2.1 d_Rd_readElement_49 rfl (lv_at hl 1 rfl) ?_
    refine lv_bipush (v := 41) Bx.1 Bx.2.1 d_Rd_readElement_50 (by decide) ?_
    refine f_xVr (na := 2) (As := [.int (4), .int (41)]) (rest := []) Bx hml E hP hD hS (by omega) h9_2 rfl (m_Rd_readBracket_4X l hlt hn hT hf hRX (by omega) (u := u) (A := A) (by omega) (Or.inl ⟨rfl, rfl⟩) (what := 1) (oe := -1)) kw_447 kw_449 sel_Rd_readBracket kw_6 kw_450 (by decide +kernel) ⟨rfl, rfl⟩ ⟨Nat.le_of_ble_eq_true rfl, Nat.le_of_ble_eq_true rfl⟩ rfl hl.1 (Nat.le_of_ble_eq_true rfl) d_Rd_readElement_52 ⟨Nat.le_of_ble_eq_true rfl, Nat.le_of_ble_eq_true rfl⟩ (fun X ce q9 memx H locs hx9 hP hS g1 g2 g3 => f_out hlocks hno hP hS g1 g2 g3 ⟨Nat.le_of_ble_eq_true rfl, Nat.le_of_ble_eq_true rfl⟩ ⟨hx9.1, Or.inl (hx9.2.eq (sing_br (l40 c40).1 c40 (by omega)))⟩) (fun r29 mem30 H locs hq hP hS => ?_)
    have hD : va_D (Az sz) (fw n ad mem30) := fw_D hD
    obtain ⟨kx31, a32, R33, E34, A35, nn36, to37, hr938, hb39, hb40, hb41, hb42, hb43, htk44, hRX45, hsc46⟩ := hq
    subst hr938
    obtain ⟨ft47, h9_48⟩ := hRX45.2.1
    have h1_49 : mem30 1 = .inr (0, [.ref (ad 2), .int (nI Z)]) := (hRX45.1.2.2 1 (by omega)).trans hT.1
    have h2_50 : mem30 2 = .inl (cy 0, 240, .inl f) := (hRX45.1.2.2 2 (by omega)).trans hT.2.2
    have h5_51 := hRX45.1.1.2.1
    have hbd57 := hRX45.1.1.1
    obtain ⟨S52, g53, hS_54, h220_55, h221_56⟩ := hRX45.1.1.2.2.2.2.2.2
    obtain ⟨k58, lo59, hi60, as61, pa62, ne63, he_64, ho_65⟩ := (hRX45.1.1.2.2.2.2.2.1 kx31 (by omega)).1
    have hbd66 := hRX45.1.1.1
    exact x_aret hx hb hlocks hr (⟨kx31, a32, R33, E34, _, nn36, to37, rfl, by omega, by omega, by omega, by omega, by omega, htk44, hRX45, hsc46.eq (sing_br (l40 c40).1 c40 (by omega)) rfl rfl, (l40 c40).2⟩) hP hS d_Rd_readElement_55
  by_cases c91 : v16 = 91
  · rw [c91]
    refine lv_lookup (off := 52) (tgt := 56) Bx.1 Bx.2.1 d_Rd_readElement_4 (by decide) (by decide) rfl ?_
    rw [e_v16] at c91
    have hlt91 := hereF_lt (show hereF Z T (a) ≠ -1 by rw [c91]; decide)
    refine lv_aload_n Bx.1 Bx.2.1 d_Rd_readElement_56 rfl (lv_at hl 0 rfl) ?_
    refine lv_iload_n Bx.1 Bx.2.1 d_Rd_readElement_57 rfl (lv_at hl 1 rfl) ?_
    refine f_xVr (na := 1) (As := [.int (4)]) (rest := []) Bx hml E hP hD hS (by omega) h9_2 rfl (m_Rd_readOption_4X l hlt hn hT hf hRX (by omega) (u := u) (A := A) (by omega)) kw_451 kw_453 sel_Rd_readOption kw_6 kw_454 (by decide +kernel) ⟨rfl, rfl⟩ ⟨Nat.le_of_ble_eq_true rfl, Nat.le_of_ble_eq_true rfl⟩ rfl hl.1 (Nat.le_of_ble_eq_true rfl) d_Rd_readElement_58 ⟨Nat.le_of_ble_eq_true rfl, Nat.le_of_ble_eq_true rfl⟩ (fun X ce q9 memx H locs hx9 hP hS g1 g2 g3 => f_out hlocks hno hP hS g1 g2 g3 ⟨Nat.le_of_ble_eq_true rfl, Nat.le_of_ble_eq_true rfl⟩ ⟨hx9.1, Or.inl (by
        by_cases q9 : Ec = 100
        · exact Or.inl (sing_o0 (l91 c91).1 c91 (Or.inr q9))
        · exact (hx9.2.resolve_left q9).eq (sing_op (l91 c91).1 c91 (by omega) (by omega)))⟩) (fun r67 mem68 H locs hq hP hS => ?_)
    have hD : va_D (Az sz) (fw n ad mem68) := fw_D hD
    obtain ⟨hE9, k2, a2, R2, E2, A2, n2, t2, hr2, x1, x2, x3, x4, x5, htk2, hRX2, hsc2⟩ := hq
    subst hr2
    exact x_aret hx hb hlocks hr (⟨k2, a2, R2, E2, A2, n2, t2, rfl, x1, x2, x3, x4, x5, htk2, hRX2, hsc2.eq (sing_op (l91 c91).1 c91 (by omega) hE9) rfl rfl, (l91 c91).2⟩) hP hS d_Rd_readElement_61
  refine lv_lookup (off := 101) (tgt := 105) Bx.1 Bx.2.1 d_Rd_readElement_4 (by decide) (by show Op.lookupswitch.offset [(34, 58), (37, 68), (40, 44), (91, 52)] 101 (v16).toInt = 101; rw [lv_osw c34 (by decide), lv_osw c37 (by decide), lv_osw c40 (by decide), lv_osw c91 (by decide)]; rfl) rfl ?_
  rw [e_v16] at c40 c91 c34 c37
  refine lv_aload_n Bx.1 Bx.2.1 d_Rd_readElement_105 rfl (lv_at hl 0 rfl) ?_
  refine f_xVr (na := 0) (As := []) (rest := []) Bx hml E hP hD hS (by omega) h9_2 rfl (m_Rd_readAskedNameX l hlt hn hT hf hRX (by omega) (A := A) (by omega)) kw_478 kw_480 sel_Rd_readAskedName kw_6 kw_481 (by decide +kernel) ⟨rfl, rfl⟩ ⟨Nat.le_of_ble_eq_true rfl, Nat.le_of_ble_eq_true rfl⟩ rfl hl.1 (Nat.le_of_ble_eq_true rfl) d_Rd_readElement_106 ⟨Nat.le_of_ble_eq_true rfl, Nat.le_of_ble_eq_true rfl⟩ (fun X ce q9 memx H locs hx9 hP hS g1 g2 g3 => f_out hlocks hno hP hS g1 g2 g3 ⟨Nat.le_of_ble_eq_true rfl, Nat.le_of_ble_eq_true rfl⟩ ⟨hx9.1, fai_nam c40 c91 c34 c37 hx9.2⟩) (fun r69 mem70 H locs hq hP hS => ?_)
  have hD : va_D (Az sz) (fw n ad mem70) := fw_D hD
  obtain ⟨i9, a2, R2, A3, n2, hsn, hle, hE9, hr2, x1, x2, x3, hA3, htk, t2, htk2, hRX2⟩ := hq
  subst hr2
  obtain ⟨A2, hsc2⟩ := suc_nam (u := u) (f := 4) hle hsn hE9 hA3 htk
  exact x_aret hx hb hlocks hr (⟨Ec, a2, R2, Ec + 1, A2, n2, t2, rfl, by omega, by omega, x1, x2, x3, htk2, hRX2, hsc2, lt_ok hle⟩) hP hS d_Rd_readElement_109
set_option maxHeartbeats 4000000 in
set_option maxRecDepth 100000 in
theorem m_Rd_readRepetition_4X (l : Launch) {D : va_G} {cy : Nat → ClassId} {sz n : Nat} {ad : Nat → Nat} {mem : Nat → va_E} {Z a R Ec lim : Nat} {f T : Nat → Int32} {to : Nat → Int32} {nm : Nat → Int64} {m0 : Nat → va_E} {u : Nat} {A : Ro} (hlt : l.stackTraces = false) (hn : 224 ≤ n) (hT : TX cy ad Z f m0) (hf : ∀ k, k < Z → f k = T k) (hRX : RX cy ad lim a R Ec to nm m0 mem) (haB : a ≤ 300) (haZ : a ≤ Z) (hbg : bgF (hereF Z T a) = true) : NXr l D cy sz n ad y_Rd_readRepetition c_Rd_readRepetition 3 (some (.object "AbnfChart$Element")) ({ frames := 29, cells := 1, slots := 6, locals := 688 } : Room) mem [.ref (ad 222), .int (4)] (fun r mem' => ∃ (k' a' R' E' : Nat) (A' : Ro) (nm' : Nat → Int64) (to' : Nat → Int32), r = ad (20 + 2 * k') ∧ Ec ≤ k' ∧ k' < E' ∧ R ≤ R' ∧ a < a' ∧ a' ≤ Z ∧ TOK R R' to to' ∧ RX cy ad lim a' R' E' to' nm' m0 mem' ∧ Suc T Z (repS T Z a u R Ec 4 A nm) 4 R (A 235) (A 227) a' R' E' A' nm') (fun X mem' => ((X = cIA ∨ X = cIS) ∧ ∃ rc' ec' : Nat, RS cy ad lim rc' ec' m0 mem') ∧ (Fai T Z (repS T Z a u R Ec 4 A nm))) := by
  refine vx_ofW (cc := c_Rd_readRepetition) (maxL := 3) (ret := (some (.object "AbnfChart$Element"))) (by decide) rfl ?_
  intro p e s m args below meth c s₁ B hml hno hv
  obtain ⟨rfl, E, hP, hD⟩ := hv
  have hx := B.exec
  have hb := B.bytes
  have hr := B.returns
  have hlocks := B.notSynchronized
  have Bx : MB p s m [.ref (ad 222), .int (4)].toArray c c_Rd_readRepetition "AbnfChart$Reader" D cy := ⟨hx, hb, tb_all (atoms_spec B.pre) E.2.1, findClass_of_methodNamed B.named, E.1⟩
  have hS : va_S (Az sz) s.heap s.heap [] := va_S.rf
  have hl := lv_entry ([.ref (ad 222), .int (4)]) (n := 3) (Nat.le_of_ble_eq_true rfl)
  rw [lg_entry_eq]
  generalize (lg_sl ([.ref (ad 222), .int (4)]) ++ List.replicate (3 - (lg_sl ([.ref (ad 222), .int (4)])).length) Slot.unset).toArray = ls at hl ⊢
  have hl : lv_has ls 3 [(0, .ref (ad 222)), (1, .int (4))] := hl
  have hZ9 := hT.2.1
  have hbd9 := hRX.1.1.1
  obtain ⟨ft1, h9_2⟩ := hRX.2.1
  have h1_3 : mem 1 = .inr (0, [.ref (ad 2), .int (nI Z)]) := (hRX.1.2.2 1 (by omega)).trans hT.1
  have h2_4 : mem 2 = .inl (cy 0, 240, .inl f) := (hRX.1.2.2 2 (by omega)).trans hT.2.2
  have h5_5 := hRX.1.1.2.1
  have hbd11 := hRX.1.1.1
  obtain ⟨S6, g7, hS_8, h220_9, h221_10⟩ := hRX.1.1.2.2.2.2.2.2
  refine lv_aload_n Bx.1 Bx.2.1 d_Rd_readRepetition_0 rfl (lv_at hl 0 rfl) ?_
  refine f_callVi (na := 0) (As := []) (rest := []) Bx hml E hP hD hS (by omega) h9_2 rfl (m_Rd_peekX l hn hT hf hRX (by omega)) kw_353 kw_355 sel_Rd_peek kw_6 kw_356 (by decide +kernel) ⟨rfl, rfl⟩ ⟨Nat.le_of_ble_eq_true rfl, Nat.le_of_ble_eq_true rfl⟩ rfl hl.1 (Nat.le_of_ble_eq_true rfl) d_Rd_readRepetition_1 ⟨Nat.le_of_ble_eq_true rfl, Nat.le_of_ble_eq_true rfl⟩ (fun r13 mem14 H locs hq hP hS => ?_)
  have hD : va_D (Az sz) (fw n ad mem14) := fw_D hD
  obtain ⟨hqe, hpk12⟩ := hq
  rw [hqe] at hP hD
  subst hpk12
  refine f_callSi (na := 1) (As := [.int (hereF Z T (a))]) (rest := []) Bx hml E.2.1 (m_Rd_beginsRepeatX l (hereF Z T (a))) kw_416 kw_417 kw_6 kw_418 (by decide +kernel) ⟨rfl, rfl⟩ ⟨Nat.le_of_ble_eq_true rfl, Nat.le_of_ble_eq_true rfl⟩ rfl hl.1 (Nat.le_of_ble_eq_true rfl) d_Rd_readRepetition_4 ⟨Nat.le_of_ble_eq_true rfl, Nat.le_of_ble_eq_true rfl⟩ (fun r17 hs16 => ?_)
  subst hs16
  refine lv_if_ne Bx.1 Bx.2.1 d_Rd_readRepetition_7 rfl (fun hb18 => ?_) (fun hb18 => ?_)
  · refine lv_aload_n Bx.1 Bx.2.1 d_Rd_readRepetition_16 rfl (lv_at hl 0 rfl) ?_
    refine lv_iconst (v := 2) Bx.1 Bx.2.1 d_Rd_readRepetition_17 (by decide) ?_
    refine lv_aload_n Bx.1 Bx.2.1 d_Rd_readRepetition_18 rfl (lv_at hl 0 rfl) ?_
    refine f_get Bx hP (by omega) h9_2 rfl inRd 2 (by decide) kw_146 rfl rfl d_Rd_readRepetition_19 ?_
    refine f_xVr (na := 2) (As := [.int (2), .int (nI a)]) (rest := []) Bx hml E hP hD hS (by omega) h9_2 rfl (m_Rd_addElementX l hlt hn hT hf hRX (by omega)) kw_419 kw_421 sel_Rd_addElement kw_6 kw_422 (by decide +kernel) ⟨rfl, rfl⟩ ⟨Nat.le_of_ble_eq_true rfl, Nat.le_of_ble_eq_true rfl⟩ rfl hl.1 (Nat.le_of_ble_eq_true rfl) d_Rd_readRepetition_22 ⟨Nat.le_of_ble_eq_true rfl, Nat.le_of_ble_eq_true rfl⟩ (fun X ce q9 memx H locs hx9 hP hS g1 g2 g3 => f_out hlocks hno hP hS g1 g2 g3 ⟨Nat.le_of_ble_eq_true rfl, Nat.le_of_ble_eq_true rfl⟩ ⟨hx9.1, Or.inl (rep_E (bpF_1 hb18) hx9.2)⟩) (fun r19 mem20 H locs hq hP hS => ?_)
    have hD : va_D (Az sz) (fw n ad mem20) := fw_D hD
    obtain ⟨hr923, hec22, hRX21⟩ := hq
    subst hr923
    obtain ⟨ft24, h9_25⟩ := hRX21.2.1
    have h1_26 : mem20 1 = .inr (0, [.ref (ad 2), .int (nI Z)]) := (hRX21.1.2.2 1 (by omega)).trans hT.1
    have h2_27 : mem20 2 = .inl (cy 0, 240, .inl f) := (hRX21.1.2.2 2 (by omega)).trans hT.2.2
    have h5_28 := hRX21.1.1.2.1
    have hbd34 := hRX21.1.1.1
    obtain ⟨S29, g30, hS_31, h220_32, h221_33⟩ := hRX21.1.1.2.2.2.2.2.2
    obtain ⟨k35, lo36, hi37, as38, pa39, ne40, he_41, ho_42⟩ := (hRX21.1.1.2.2.2.2.2.1 Ec (by omega)).1
    refine lv_astore_n (lv' := [(2, .ref (ad (20 + 2 * Ec))), (0, .ref (ad 222)), (1, .int (4))]) Bx.1 Bx.2.1 d_Rd_readRepetition_25 rfl hl (by decide) rfl (fun ls hl => ?_)
    refine lv_aload_n Bx.1 Bx.2.1 d_Rd_readRepetition_26 rfl (lv_at hl 1 rfl) ?_
    refine lv_aload_n Bx.1 Bx.2.1 d_Rd_readRepetition_27 rfl (lv_at hl 0 rfl) ?_
    have hdg := bpF_1 hb18
    have hE9 := hec22
    refine f_xVv (na := 1) (As := [.ref (ad (20 + 2 * Ec))]) (rest := []) Bx hml E hP hD hS (by omega) h9_25 rfl (m_Rd_readRepeatX l hlt hn hT hf hRX21 (by omega) (by omega) (by omega) hdg) kw_482 kw_484 sel_Rd_readRepeat kw_6 kw_485 (by decide +kernel) ⟨rfl, rfl⟩ ⟨Nat.le_of_ble_eq_true rfl, Nat.le_of_ble_eq_true rfl⟩ rfl hl.1 (Nat.le_of_ble_eq_true rfl) d_Rd_readRepetition_28 ⟨Nat.le_of_ble_eq_true rfl, Nat.le_of_ble_eq_true rfl⟩ (fun X ce q9 memx H locs hx9 hP hS g1 g2 g3 => f_out hlocks hno hP hS g1 g2 g3 ⟨Nat.le_of_ble_eq_true rfl, Nat.le_of_ble_eq_true rfl⟩ ⟨hx9.1, hx9.2.elim (fun v1 z => z.elim (fun b1 z => z.elim (fun v2 z => z.elim (fun b2 z => Or.inl (rep_bad hdg hE9 z.1 z.2.1 (Or.inl z.2.2))))))⟩) (fun mem44 H locs hq hP hS => ?_)
    have hD : va_D (Az sz) (fw n ad mem44) := fw_D hD
    obtain ⟨v1, b1, v2, b2, hr1, hr2, hnv, hb8, hb9, hRXr⟩ := hq
    obtain ⟨ft45, h9_46⟩ := hRXr.2.1
    have h1_47 : mem44 1 = .inr (0, [.ref (ad 2), .int (nI Z)]) := (hRXr.1.2.2 1 (by omega)).trans hT.1
    have h2_48 : mem44 2 = .inl (cy 0, 240, .inl f) := (hRXr.1.2.2 2 (by omega)).trans hT.2.2
    have h5_49 := hRXr.1.1.2.1
    have hbd55 := hRXr.1.1.1
    obtain ⟨S50, g51, hS_52, h220_53, h221_54⟩ := hRXr.1.1.2.2.2.2.2.2
    obtain ⟨k56, lo57, hi58, as59, pa60, ne61, he_62, ho_63⟩ := (hRXr.1.1.2.2.2.2.2.1 Ec (by omega)).1
    refine lv_aload_n Bx.1 Bx.2.1 d_Rd_readRepetition_31 rfl (lv_at hl 0 rfl) ?_
    refine lv_aload_n Bx.1 Bx.2.1 d_Rd_readRepetition_32 rfl (lv_at hl 1 rfl) ?_
    refine lv_iload_n Bx.1 Bx.2.1 d_Rd_readRepetition_33 rfl (lv_at hl 2 rfl) ?_
    refine f_xVr (na := 1) (As := [.int (4)]) (rest := [.ref (ad (20 + 2 * Ec))]) Bx hml E hP hD hS (by omega) h9_46 rfl (m_Rd_readElement_4X l hlt hn hT hf hRXr (by omega) (u := u) (A := repB A 4 Ec v1 v2) (by omega)) kw_443 kw_445 sel_Rd_readElement kw_6 kw_446 (by decide +kernel) ⟨rfl, rfl⟩ ⟨Nat.le_of_ble_eq_true rfl, Nat.le_of_ble_eq_true rfl⟩ rfl hl.1 (Nat.le_of_ble_eq_true rfl) d_Rd_readRepetition_34 ⟨Nat.le_of_ble_eq_true rfl, Nat.le_of_ble_eq_true rfl⟩ (fun X ce q9 memx H locs hx9 hP hS g1 g2 g3 => f_out hlocks hno hP hS g1 g2 g3 ⟨Nat.le_of_ble_eq_true rfl, Nat.le_of_ble_eq_true rfl⟩ ⟨hx9.1, rep_fai hdg hE9 hr1 hr2 hnv hx9.2⟩) (fun r64 mem65 H locs hq hP hS => ?_)
    have hD : va_D (Az sz) (fw n ad mem65) := fw_D hD
    obtain ⟨kx66, a67, R68, E69, A70, nn71, to72, hr973, hb74, hb75, hb76, hb77, hb78, htk79, hRX80, hsc81, hok82⟩ := hq
    subst hr973
    obtain ⟨ft83, h9_84⟩ := hRX80.2.1
    have h1_85 : mem65 1 = .inr (0, [.ref (ad 2), .int (nI Z)]) := (hRX80.1.2.2 1 (by omega)).trans hT.1
    have h2_86 : mem65 2 = .inl (cy 0, 240, .inl f) := (hRX80.1.2.2 2 (by omega)).trans hT.2.2
    have h5_87 := hRX80.1.1.2.1
    have hbd93 := hRX80.1.1.1
    obtain ⟨S88, g89, hS_90, h220_91, h221_92⟩ := hRX80.1.1.2.2.2.2.2.2
    obtain ⟨k94, lo95, hi96, as97, pa98, ne99, he_100, ho_101⟩ := (hRX80.1.1.2.2.2.2.2.1 Ec (by omega)).1
    obtain ⟨k102, lo103, hi104, as105, pa106, ne107, he_108, ho_109⟩ := (hRX80.1.1.2.2.2.2.2.1 kx66 (by omega)).1
    have hbd110 := hRX80.1.1.1
    refine f_putN Bx hP hD hS (by omega) he_100 rfl inEl tyEl okEl nmEl 4 (by decide) kw_87 rfl rfl rfl rfl (Nat.le_of_ble_eq_true rfl) d_Rd_readRepetition_37 (fun H locs hP hS => ?_)
    obtain ⟨mem111, e_mem111⟩ : ∃ z, z = va_up mem65 ((20 + 2 * Ec)) (.inr (2, [.int (k94), .int (lo95), .int (hi96), as97, .ref (ad (20 + 2 * kx66)), ne99, .ref (ad (21 + 2 * Ec))])) := ⟨_, rfl⟩
    have hP : va_P D vcl (fw n ad mem111) H := by rw [e_mem111]; exact hP
    have hD : va_D (Az sz) (fw n ad mem111) := fw_D hD
    have h_mem111 : mem111 ((20 + 2 * Ec)) = .inr (2, [.int (k94), .int (lo95), .int (hi96), as97, .ref (ad (20 + 2 * kx66)), ne99, .ref (ad (21 + 2 * Ec))]) := by rw [e_mem111, va_up_self]
    have hh112 := (va_up_ne mem65 (.inr (2, [.int (k94), .int (lo95), .int (hi96), as97, .ref (ad (20 + 2 * kx66)), ne99, .ref (ad (21 + 2 * Ec))])) (show (222 : Nat) ≠ (20 + 2 * Ec) by first | decide | assumption | omega)).trans h9_84
    rw [← e_mem111] at hh112
    have hh113 := (va_up_ne mem65 (.inr (2, [.int (k94), .int (lo95), .int (hi96), as97, .ref (ad (20 + 2 * kx66)), ne99, .ref (ad (21 + 2 * Ec))])) (show (1 : Nat) ≠ (20 + 2 * Ec) by first | decide | assumption | omega)).trans h1_85
    rw [← e_mem111] at hh113
    have hh114 := (va_up_ne mem65 (.inr (2, [.int (k94), .int (lo95), .int (hi96), as97, .ref (ad (20 + 2 * kx66)), ne99, .ref (ad (21 + 2 * Ec))])) (show (5 : Nat) ≠ (20 + 2 * Ec) by first | decide | assumption | omega)).trans h5_87
    rw [← e_mem111] at hh114
    have hh115 := (va_up_ne mem65 (.inr (2, [.int (k94), .int (lo95), .int (hi96), as97, .ref (ad (20 + 2 * kx66)), ne99, .ref (ad (21 + 2 * Ec))])) (show (220 : Nat) ≠ (20 + 2 * Ec) by first | decide | assumption | omega)).trans h220_91
    rw [← e_mem111] at hh115
    have hh116 := (va_up_ne mem65 (.inr (2, [.int (k94), .int (lo95), .int (hi96), as97, .ref (ad (20 + 2 * kx66)), ne99, .ref (ad (21 + 2 * Ec))])) (show ((20 + 2 * kx66) : Nat) ≠ (20 + 2 * Ec) by first | decide | assumption | omega)).trans he_108
    rw [← e_mem111] at hh116
    have hRX117 : RX cy ad lim (a67) (R68) (E69) (to72) (nn71) m0 mem111 := by rw [e_mem111]; exact hRX80.el (by omega) (hRX80.1.mk (by omega) (hRX80.1.1.upEl (by omega) (fun q9 => ⟨(ho_101 q9).1, Or.inr ⟨kx66, by omega, by omega, rfl⟩, (ho_101 q9).2.2⟩)))
    refine lv_aload_n Bx.1 Bx.2.1 d_Rd_readRepetition_40 rfl (lv_at hl 0 rfl) ?_
    exact x_aret hx hb hlocks hr (⟨Ec, a67, R68, E69, _, nn71, to72, rfl, by omega, by omega, by omega, by omega, by omega, htk79, hRX117, hsc81.eq (rep_suc hdg hE9 hr1 hr2 hnv hok82) (repB_ne (by decide) (by decide)) (repB_ne (by decide) (by decide))⟩) hP hS d_Rd_readRepetition_41
  · refine lv_aload_n Bx.1 Bx.2.1 d_Rd_readRepetition_10 rfl (lv_at hl 0 rfl) ?_
    refine lv_iload_n Bx.1 Bx.2.1 d_Rd_readRepetition_11 rfl (lv_at hl 1 rfl) ?_
    obtain ⟨hd0, h42⟩ := bpF_0 hb18
    refine f_xVr (na := 1) (As := [.int (4)]) (rest := []) Bx hml E hP hD hS (by omega) h9_2 rfl (m_Rd_readElement_4X l hlt hn hT hf hRX (by omega) (u := u) (A := A) (by omega)) kw_443 kw_445 sel_Rd_readElement kw_6 kw_446 (by decide +kernel) ⟨rfl, rfl⟩ ⟨Nat.le_of_ble_eq_true rfl, Nat.le_of_ble_eq_true rfl⟩ rfl hl.1 (Nat.le_of_ble_eq_true rfl) d_Rd_readRepetition_12 ⟨Nat.le_of_ble_eq_true rfl, Nat.le_of_ble_eq_true rfl⟩ (fun X ce q9 memx H locs hx9 hP hS g1 g2 g3 => f_out hlocks hno hP hS g1 g2 g3 ⟨Nat.le_of_ble_eq_true rfl, Nat.le_of_ble_eq_true rfl⟩ ⟨hx9.1, (hx9.2.resolve_right (fun z => z ⟨hbg, hd0, h42⟩)).eq (rep_no hd0 h42)⟩) (fun r118 mem119 H locs hq hP hS => ?_)
    have hD : va_D (Az sz) (fw n ad mem119) := fw_D hD
    obtain ⟨kx120, a121, R122, E123, A124, nn125, to126, hr9127, hb128, hb129, hb130, hb131, hb132, htk133, hRX134, hsc135, hok136⟩ := hq
    subst hr9127
    obtain ⟨ft137, h9_138⟩ := hRX134.2.1
    have h1_139 : mem119 1 = .inr (0, [.ref (ad 2), .int (nI Z)]) := (hRX134.1.2.2 1 (by omega)).trans hT.1
    have h2_140 : mem119 2 = .inl (cy 0, 240, .inl f) := (hRX134.1.2.2 2 (by omega)).trans hT.2.2
    have h5_141 := hRX134.1.1.2.1
    have hbd147 := hRX134.1.1.1
    obtain ⟨S142, g143, hS_144, h220_145, h221_146⟩ := hRX134.1.1.2.2.2.2.2.2
    obtain ⟨k148, lo149, hi150, as151, pa152, ne153, he_154, ho_155⟩ := (hRX134.1.1.2.2.2.2.2.1 kx120 (by omega)).1
    have hbd156 := hRX134.1.1.1
    exact x_aret hx hb hlocks hr (⟨kx120, a121, R122, E123, _, nn125, to126, rfl, by omega, by omega, by omega, by omega, by omega, htk133, hRX134, hsc135.eq (rep_no hd0 h42) rfl rfl⟩) hP hS d_Rd_readRepetition_15
set_option maxHeartbeats 4000000 in
set_option maxRecDepth 100000 in
theorem m_Rd_readSequence_4X (l : Launch) {D : va_G} {cy : Nat → ClassId} {sz n : Nat} {ad : Nat → Nat} {mem : Nat → va_E} {Z a R Ec lim : Nat} {f T : Nat → Int32} {to : Nat → Int32} {nm : Nat → Int64} {m0 : Nat → va_E} {u : Nat} {A : Ro} (hlt : l.stackTraces = false) (hn : 224 ≤ n) (hT : TX cy ad Z f m0) (hf : ∀ k, k < Z → f k = T k) (hRX : RX cy ad lim a R Ec to nm m0 mem) (haB : a ≤ 300) (haZ : a ≤ Z) : NXr l D cy sz n ad y_Rd_readSequence c_Rd_readSequence 5 (some (.object "AbnfChart$Element")) ({ frames := 30, cells := 1, slots := 6, locals := 712 } : Room) mem [.ref (ad 222), .int (4)] (fun r mem' => ∃ (k' a' R' E' : Nat) (A' : Ro) (nm' : Nat → Int64) (to' : Nat → Int32), r = ad (20 + 2 * k') ∧ Ec ≤ k' ∧ k' < E' ∧ R ≤ R' ∧ a < a' ∧ a' ≤ Z ∧ TOK R R' to to' ∧ RX cy ad lim (gapF T Z a') R' E' to' nm' m0 mem' ∧ Suc T Z (seqS T Z a u R Ec 4 A nm) 4 R (A 235) (A 227) a' R' E' A' nm' ∧ ¬ (bgF (hereF Z T (gapF T Z a')) = true ∧ a' < gapF T Z a')) (fun X mem' => ((X = cIA ∨ X = cIS) ∧ ∃ rc' ec' : Nat, RS cy ad lim rc' ec' m0 mem') ∧ (Fai T Z (seqS T Z a u R Ec 4 A nm))) := by
  refine vx_ofW (cc := c_Rd_readSequence) (maxL := 5) (ret := (some (.object "AbnfChart$Element"))) (by decide) rfl ?_
  intro p e s m args below meth c s₁ B hml hno hv
  obtain ⟨rfl, E, hP, hD⟩ := hv
  have hx := B.exec
  have hb := B.bytes
  have hr := B.returns
  have hlocks := B.notSynchronized
  have Bx : MB p s m [.ref (ad 222), .int (4)].toArray c c_Rd_readSequence "AbnfChart$Reader" D cy := ⟨hx, hb, tb_all (atoms_spec B.pre) E.2.1, findClass_of_methodNamed B.named, E.1⟩
  have hS : va_S (Az sz) s.heap s.heap [] := va_S.rf
  have hl := lv_entry ([.ref (ad 222), .int (4)]) (n := 5) (Nat.le_of_ble_eq_true rfl)
  rw [lg_entry_eq]
  generalize (lg_sl ([.ref (ad 222), .int (4)]) ++ List.replicate (5 - (lg_sl ([.ref (ad 222), .int (4)])).length) Slot.unset).toArray = ls at hl ⊢
  have hl : lv_has ls 5 [(0, .ref (ad 222)), (1, .int (4))] := hl
  have hZ9 := hT.2.1
  have hbd9 := hRX.1.1.1
  obtain ⟨ft1, h9_2⟩ := hRX.2.1
  have h1_3 : mem 1 = .inr (0, [.ref (ad 2), .int (nI Z)]) := (hRX.1.2.2 1 (by omega)).trans hT.1
  have h2_4 : mem 2 = .inl (cy 0, 240, .inl f) := (hRX.1.2.2 2 (by omega)).trans hT.2.2
  have h5_5 := hRX.1.1.2.1
  have hbd11 := hRX.1.1.1
  obtain ⟨S6, g7, hS_8, h220_9, h221_10⟩ := hRX.1.1.2.2.2.2.2.2
  refine lv_aload_n Bx.1 Bx.2.1 d_Rd_readSequence_0 rfl (lv_at hl 0 rfl) ?_
  refine lv_iconst (v := 1) Bx.1 Bx.2.1 d_Rd_readSequence_1 (by decide) ?_
  refine f_xVr (na := 1) (As := [.int (1)]) (rest := []) Bx hml E hP hD hS (by omega) h9_2 rfl (m_Rd_beginRowX l hlt hn hT hf hRX (by omega)) kw_409 kw_411 sel_Rd_beginRow kw_6 kw_412 (by decide +kernel) ⟨rfl, rfl⟩ ⟨Nat.le_of_ble_eq_true rfl, Nat.le_of_ble_eq_true rfl⟩ rfl hl.1 (Nat.le_of_ble_eq_true rfl) d_Rd_readSequence_2 ⟨Nat.le_of_ble_eq_true rfl, Nat.le_of_ble_eq_true rfl⟩ (fun X ce q9 memx H locs hx9 hP hS g1 g2 g3 => f_out hlocks hno hP hS g1 g2 g3 ⟨Nat.le_of_ble_eq_true rfl, Nat.le_of_ble_eq_true rfl⟩ ⟨hx9.1, Or.inl (seq_no hx9.2)⟩) (fun r12 mem13 H locs hq hP hS => ?_)
  have hD : va_D (Az sz) (fw n ad mem13) := fw_D hD
  obtain ⟨hbg, hE9, hr9, hRXb⟩ := hq
  subst hr9
  obtain ⟨ft14, h9_15⟩ := hRXb.2.1
  have h1_16 : mem13 1 = .inr (0, [.ref (ad 2), .int (nI Z)]) := (hRXb.1.2.2 1 (by omega)).trans hT.1
  have h2_17 : mem13 2 = .inl (cy 0, 240, .inl f) := (hRXb.1.2.2 2 (by omega)).trans hT.2.2
  have h5_18 := hRXb.1.1.2.1
  have hbd24 := hRXb.1.1.1
  obtain ⟨S19, g20, hS_21, h220_22, h221_23⟩ := hRXb.1.1.2.2.2.2.2.2
  obtain ⟨k25, lo26, hi27, as28, pa29, ne30, he_31, ho_32⟩ := (hRXb.1.1.2.2.2.2.2.1 Ec (by omega)).1
  refine lv_astore_n (lv' := [(2, .ref (ad (20 + 2 * Ec))), (0, .ref (ad 222)), (1, .int (4))]) Bx.1 Bx.2.1 d_Rd_readSequence_5 rfl hl (by decide) rfl (fun ls hl => ?_)
  refine lv_aload_n Bx.1 Bx.2.1 d_Rd_readSequence_6 rfl (lv_at hl 1 rfl) ?_
  refine lv_iload_n Bx.1 Bx.2.1 d_Rd_readSequence_7 rfl (lv_at hl 2 rfl) ?_
  refine f_xVr (na := 1) (As := [.int (4)]) (rest := []) Bx hml E hP hD hS (by omega) h9_15 rfl (m_Rd_readRepetition_4X l hlt hn hT hf hRXb (by omega) (u := u) (A := seqA A 4 Ec) (by omega) hbg) kw_439 kw_441 sel_Rd_readRepetition kw_6 kw_442 (by decide +kernel) ⟨rfl, rfl⟩ ⟨Nat.le_of_ble_eq_true rfl, Nat.le_of_ble_eq_true rfl⟩ rfl hl.1 (Nat.le_of_ble_eq_true rfl) d_Rd_readSequence_8 ⟨Nat.le_of_ble_eq_true rfl, Nat.le_of_ble_eq_true rfl⟩ (fun X ce q9 memx H locs hx9 hP hS g1 g2 g3 => f_out hlocks hno hP hS g1 g2 g3 ⟨Nat.le_of_ble_eq_true rfl, Nat.le_of_ble_eq_true rfl⟩ ⟨hx9.1, hx9.2.eq (seq_ok hbg hE9)⟩) (fun r33 mem34 H locs hq hP hS => ?_)
  have hD : va_D (Az sz) (fw n ad mem34) := fw_D hD
  obtain ⟨kx35, a36, R37, E38, A39, nn40, to41, hr942, hb43, hb44, hb45, hb46, hb47, htk48, hRX49, hsc50⟩ := hq
  subst hr942
  obtain ⟨ft51, h9_52⟩ := hRX49.2.1
  have h1_53 : mem34 1 = .inr (0, [.ref (ad 2), .int (nI Z)]) := (hRX49.1.2.2 1 (by omega)).trans hT.1
  have h2_54 : mem34 2 = .inl (cy 0, 240, .inl f) := (hRX49.1.2.2 2 (by omega)).trans hT.2.2
  have h5_55 := hRX49.1.1.2.1
  have hbd61 := hRX49.1.1.1
  obtain ⟨S56, g57, hS_58, h220_59, h221_60⟩ := hRX49.1.1.2.2.2.2.2.2
  obtain ⟨k62, lo63, hi64, as65, pa66, ne67, he_68, ho_69⟩ := (hRX49.1.1.2.2.2.2.2.1 Ec (by omega)).1
  obtain ⟨k70, lo71, hi72, as73, pa74, ne75, he_76, ho_77⟩ := (hRX49.1.1.2.2.2.2.2.1 kx35 (by omega)).1
  have hbd78 := hRX49.1.1.1
  refine lv_astore_n (lv' := [(3, .ref (ad (20 + 2 * kx35))), (2, .ref (ad (20 + 2 * Ec))), (0, .ref (ad 222)), (1, .int (4))]) Bx.1 Bx.2.1 d_Rd_readSequence_11 rfl hl (by decide) rfl (fun ls hl => ?_)
  refine lv_aload_n Bx.1 Bx.2.1 d_Rd_readSequence_12 rfl (lv_at hl 1 rfl) ?_
  refine lv_aload_n Bx.1 Bx.2.1 d_Rd_readSequence_13 rfl (lv_at hl 0 rfl) ?_
  refine f_putN Bx hP hD hS (by omega) he_68 rfl inEl tyEl okEl nmEl 4 (by decide) kw_87 rfl rfl rfl rfl (Nat.le_of_ble_eq_true rfl) d_Rd_readSequence_14 (fun H locs hP hS => ?_)
  obtain ⟨mem79, e_mem79⟩ : ∃ z, z = va_up mem34 ((20 + 2 * Ec)) (.inr (2, [.int (k62), .int (lo63), .int (hi64), as65, .ref (ad (20 + 2 * kx35)), ne67, .ref (ad (21 + 2 * Ec))])) := ⟨_, rfl⟩
  have hP : va_P D vcl (fw n ad mem79) H := by rw [e_mem79]; exact hP
  have hD : va_D (Az sz) (fw n ad mem79) := fw_D hD
  have h_mem79 : mem79 ((20 + 2 * Ec)) = .inr (2, [.int (k62), .int (lo63), .int (hi64), as65, .ref (ad (20 + 2 * kx35)), ne67, .ref (ad (21 + 2 * Ec))]) := by rw [e_mem79, va_up_self]
  have hh80 := (va_up_ne mem34 (.inr (2, [.int (k62), .int (lo63), .int (hi64), as65, .ref (ad (20 + 2 * kx35)), ne67, .ref (ad (21 + 2 * Ec))])) (show (222 : Nat) ≠ (20 + 2 * Ec) by first | decide | assumption | omega)).trans h9_52
  rw [← e_mem79] at hh80
  have hh81 := (va_up_ne mem34 (.inr (2, [.int (k62), .int (lo63), .int (hi64), as65, .ref (ad (20 + 2 * kx35)), ne67, .ref (ad (21 + 2 * Ec))])) (show (1 : Nat) ≠ (20 + 2 * Ec) by first | decide | assumption | omega)).trans h1_53
  rw [← e_mem79] at hh81
  have hh82 := (va_up_ne mem34 (.inr (2, [.int (k62), .int (lo63), .int (hi64), as65, .ref (ad (20 + 2 * kx35)), ne67, .ref (ad (21 + 2 * Ec))])) (show (5 : Nat) ≠ (20 + 2 * Ec) by first | decide | assumption | omega)).trans h5_55
  rw [← e_mem79] at hh82
  have hh83 := (va_up_ne mem34 (.inr (2, [.int (k62), .int (lo63), .int (hi64), as65, .ref (ad (20 + 2 * kx35)), ne67, .ref (ad (21 + 2 * Ec))])) (show (220 : Nat) ≠ (20 + 2 * Ec) by first | decide | assumption | omega)).trans h220_59
  rw [← e_mem79] at hh83
  have hh84 := (va_up_ne mem34 (.inr (2, [.int (k62), .int (lo63), .int (hi64), as65, .ref (ad (20 + 2 * kx35)), ne67, .ref (ad (21 + 2 * Ec))])) (show ((20 + 2 * kx35) : Nat) ≠ (20 + 2 * Ec) by first | decide | assumption | omega)).trans he_76
  rw [← e_mem79] at hh84
  have hRX85 : RX cy ad lim (a36) (R37) (E38) (to41) (nn40) m0 mem79 := by rw [e_mem79]; exact hRX49.el (by omega) (hRX49.1.mk (by omega) (hRX49.1.1.upEl (by omega) (fun q9 => ⟨(ho_69 q9).1, Or.inr ⟨kx35, by omega, by omega, rfl⟩, (ho_69 q9).2.2⟩)))
  refine lv_iconst (v := 0) Bx.1 Bx.2.1 d_Rd_readSequence_17 (by decide) ?_
  refine lv_istore (lv' := [(4, .int (0)), (3, .ref (ad (20 + 2 * kx35))), (2, .ref (ad (20 + 2 * Ec))), (0, .ref (ad 222)), (1, .int (4))]) Bx.1 Bx.2.1 d_Rd_readSequence_18 hl (by decide) rfl (fun ls hl => ?_)
  have hsuc0 := hsc50.eq (seq_ok hbg hE9) (seqA_ne (by decide) (by decide)) (seqA_ne (by decide) (by decide))
  have loop86 : ∀ (d87 : Nat) (mem9 : Nat → va_E) (a1 : Nat) (R1 : Nat) (E1 : Nat) (A1 : Ro) (n1 : Nat → Int64) (to1 : Nat → Int32) (la : Nat) (k9 : Nat) (ls : Array Slot) (H : Heap) (locs : List Loc), (240 - k9 < d87) → (RX cy ad lim a1 R1 E1 to1 n1 m0 mem9) → (a < a1 ∧ a1 ≤ Z ∧ R ≤ R1 ∧ Ec < la ∧ la < E1 ∧ k9 < a1 ∧ k9 ≤ 240 ∧ Ec < E1) → (Suc T Z (seqS T Z a u R Ec 4 A nm) 4 R (A 235) (A 227) a1 R1 E1 A1 n1) → (TOK R R1 to to1) → (va_P D vcl (fw n ad mem9) H) → (va_D (Az sz) (fw n ad mem9)) → (va_S (Az sz) s.heap H locs) → (lv_has ls 5 [(4, .int (nI k9)), (3, .ref (ad (20 + 2 * la))), (2, .ref (ad (20 + 2 * Ec))), (0, .ref (ad 222)), (1, .int (4))]) → W p l e (headSpec (Cond.code y_Rd_readSequence c_Rd_readSequence 5 (some (.object "AbnfChart$Element")) :: tg) ({ frames := 30, cells := 1, slots := 6, locals := 712 } : Room)).room s m [.ref (ad 222), .int (4)].toArray below meth c H locs 0 0 (vx_MQ below (QX (QR (fun r mem' => ∃ (k' a' R' E' : Nat) (A' : Ro) (nm' : Nat → Int64) (to' : Nat → Int32), r = ad (20 + 2 * k') ∧ Ec ≤ k' ∧ k' < E' ∧ R ≤ R' ∧ a < a' ∧ a' ≤ Z ∧ TOK R R' to to' ∧ RX cy ad lim (gapF T Z a') R' E' to' nm' m0 mem' ∧ Suc T Z (seqS T Z a u R Ec 4 A nm) 4 R (A 235) (A 227) a' R' E' A' nm' ∧ ¬ (bgF (hereF Z T (gapF T Z a')) = true ∧ a' < gapF T Z a')) (PP D n ad) (Az sz))) (XQ D sz n ad (fun X mem' => ((X = cIA ∨ X = cIS) ∧ ∃ rc' ec' : Nat, RS cy ad lim rc' ec' m0 mem') ∧ (Fai T Z (seqS T Z a u R Ec 4 A nm)))) [.ref (ad 222), .int (4)].toArray s 1 6 (Az sz)) (F0 m 20 ls []) := by
    intro d87
    induction d87 with
    | zero => intro mem9 a1 R1 E1 A1 n1 to1 la k9 ls H locs hmeas93; exact absurd hmeas93 (Nat.not_lt_zero _)
    | succ d87 ih92 =>
      intro mem9 a1 R1 E1 A1 n1 to1 la k9 ls H locs hmeas93 hz88 hz89 hz90 hz91 hP hD hS hl
      have hbd8 := hz89
      obtain ⟨ft94, h9_95⟩ := hz88.2.1
      have h1_96 : mem9 1 = .inr (0, [.ref (ad 2), .int (nI Z)]) := (hz88.1.2.2 1 (by omega)).trans hT.1
      have h2_97 : mem9 2 = .inl (cy 0, 240, .inl f) := (hz88.1.2.2 2 (by omega)).trans hT.2.2
      have h5_98 := hz88.1.1.2.1
      have hbd104 := hz88.1.1.1
      obtain ⟨S99, g100, hS_101, h220_102, h221_103⟩ := hz88.1.1.2.2.2.2.2.2
      obtain ⟨k105, lo106, hi107, as108, pa109, ne110, he_111, ho_112⟩ := (hz88.1.1.2.2.2.2.2.1 la (by omega)).1
      obtain ⟨c1, u1, ho, hg, hk9, hs9⟩ := id hz90
      refine lv_iload Bx.1 Bx.2.1 d_Rd_readSequence_20 (lv_at hl 0 rfl) ?_
      refine lv_sipush (v := 240) Bx.1 Bx.2.1 d_Rd_readSequence_22 (by decide) ?_
      refine lv_icmp_ge Bx.1 Bx.2.1 d_Rd_readSequence_25 rfl (fun hb113 => ?_) (fun hb113 => ?_)
      · have hN114 : 240 ≤ k9 := (nI_leI (by omega) (by omega)).mp (show nI (240) ≤ nI (k9) from hb113)
        exact absurd hbd8 (by omega)
      · have hN115 : ¬ 240 ≤ k9 := fun q9 => hb113 (show nI (240) ≤ nI (k9) from (nI_leI (by omega) (by omega)).mpr q9)
        refine lv_aload_n Bx.1 Bx.2.1 d_Rd_readSequence_28 rfl (lv_at hl 3 rfl) ?_
        refine f_callVi (na := 0) (As := []) (rest := []) Bx hml E hP hD hS (by omega) h9_95 rfl (m_Rd_readGapX l hn hT hf hz88 (by omega) (by omega)) kw_397 kw_399 sel_Rd_readGap kw_6 kw_400 (by decide +kernel) ⟨rfl, rfl⟩ ⟨Nat.le_of_ble_eq_true rfl, Nat.le_of_ble_eq_true rfl⟩ rfl hl.1 (Nat.le_of_ble_eq_true rfl) d_Rd_readSequence_29 ⟨Nat.le_of_ble_eq_true rfl, Nat.le_of_ble_eq_true rfl⟩ (fun r116 mem117 H locs hq hP hS => ?_)
        have hD : va_D (Az sz) (fw n ad mem117) := fw_D hD
        obtain ⟨g118, eg119⟩ : ∃ z, z = gapF T Z (a1) := ⟨_, rfl⟩
        rw [← eg119] at hq
        obtain ⟨hRX120, hgc121⟩ := hq
        have hg122 : a1 ≤ g118 := by rw [eg119]; exact gapF_ge T Z _
        have hg123 : g118 ≤ Z := by rw [eg119]; exact gapF_le T (by omega)
        obtain ⟨ft124, h9_125⟩ := hRX120.2.1
        have h1_126 : mem117 1 = .inr (0, [.ref (ad 2), .int (nI Z)]) := (hRX120.1.2.2 1 (by omega)).trans hT.1
        have h2_127 : mem117 2 = .inl (cy 0, 240, .inl f) := (hRX120.1.2.2 2 (by omega)).trans hT.2.2
        have h5_128 := hRX120.1.1.2.1
        have hbd134 := hRX120.1.1.1
        obtain ⟨S129, g130, hS_131, h220_132, h221_133⟩ := hRX120.1.1.2.2.2.2.2.2
        obtain ⟨k135, lo136, hi137, as138, pa139, ne140, he_141, ho_142⟩ := (hRX120.1.1.2.2.2.2.2.1 la (by omega)).1
        rcases hgc121 with ⟨hr143, hga144⟩ | ⟨hr143, hga144⟩
        · subst hr143
          refine lv_if_eq Bx.1 Bx.2.1 d_Rd_readSequence_32 rfl (fun hb145 => ?_) (fun hb145 => ?_)
          · exact absurd hb145 (by decide)
          · refine lv_aload_n Bx.1 Bx.2.1 d_Rd_readSequence_35 rfl (lv_at hl 3 rfl) ?_
            refine f_callVi (na := 0) (As := []) (rest := []) Bx hml E hP hD hS (by omega) h9_125 rfl (m_Rd_peekX l hn hT hf hRX120 (by omega)) kw_353 kw_355 sel_Rd_peek kw_6 kw_356 (by decide +kernel) ⟨rfl, rfl⟩ ⟨Nat.le_of_ble_eq_true rfl, Nat.le_of_ble_eq_true rfl⟩ rfl hl.1 (Nat.le_of_ble_eq_true rfl) d_Rd_readSequence_36 ⟨Nat.le_of_ble_eq_true rfl, Nat.le_of_ble_eq_true rfl⟩ (fun r147 mem148 H locs hq hP hS => ?_)
            have hD : va_D (Az sz) (fw n ad mem148) := fw_D hD
            obtain ⟨hqe, hpk146⟩ := hq
            rw [hqe] at hP hD
            subst hpk146
            refine f_callSi (na := 1) (As := [.int (hereF Z T (g118))]) (rest := []) Bx hml E.2.1 (m_Rd_beginsRepetitionX l (hereF Z T (g118))) kw_413 kw_414 kw_6 kw_415 (by decide +kernel) ⟨rfl, rfl⟩ ⟨Nat.le_of_ble_eq_true rfl, Nat.le_of_ble_eq_true rfl⟩ rfl hl.1 (Nat.le_of_ble_eq_true rfl) d_Rd_readSequence_39 ⟨Nat.le_of_ble_eq_true rfl, Nat.le_of_ble_eq_true rfl⟩ (fun r151 hs150 => ?_)
            subst hs150
            refine lv_if_eq Bx.1 Bx.2.1 d_Rd_readSequence_42 rfl (fun hb152 => ?_) (fun hb152 => ?_)
            · refine lv_aload_n Bx.1 Bx.2.1 d_Rd_readSequence_65 rfl (lv_at hl 2 rfl) ?_
              exact x_aret hx hb hlocks hr (⟨Ec, a1, R1, E1, A1, n1, to1, rfl, by omega, by omega, by omega, by omega, by omega, hz91, by rw [← eg119]; exact hRX120, hz90, fun z => by have q9 := z.1; rw [← eg119, bg_0 hb152] at q9; exact absurd q9 (by decide)⟩) hP hS d_Rd_readSequence_66
            · have hbg2 : bgF (hereF Z T (gapF T Z a1)) = true := by rw [← eg119]; exact bg_1 hb152
              have hgt2 : a1 < gapF T Z a1 := by rw [← eg119]; omega
              refine lv_aload_n Bx.1 Bx.2.1 d_Rd_readSequence_45 rfl (lv_at hl 1 rfl) ?_
              refine lv_aload_n Bx.1 Bx.2.1 d_Rd_readSequence_46 rfl (lv_at hl 3 rfl) ?_
              refine lv_iload_n Bx.1 Bx.2.1 d_Rd_readSequence_47 rfl (lv_at hl 4 rfl) ?_
              refine f_xVr (na := 1) (As := [.int (4)]) (rest := [.ref (ad (20 + 2 * la))]) Bx hml E hP hD hS (by omega) h9_125 rfl (m_Rd_readRepetition_4X l hlt hn hT hf hRX120 (by omega) (u := u1) (A := A1) (by omega) (by rw [eg119]; exact hbg2)) kw_439 kw_441 sel_Rd_readRepetition kw_6 kw_442 (by decide +kernel) ⟨rfl, rfl⟩ ⟨Nat.le_of_ble_eq_true rfl, Nat.le_of_ble_eq_true rfl⟩ rfl hl.1 (Nat.le_of_ble_eq_true rfl) d_Rd_readSequence_48 ⟨Nat.le_of_ble_eq_true rfl, Nat.le_of_ble_eq_true rfl⟩ (fun X ce q9 memx H locs hx9 hP hS g1 g2 g3 => f_out hlocks hno hP hS g1 g2 g3 ⟨Nat.le_of_ble_eq_true rfl, Nat.le_of_ble_eq_true rfl⟩ ⟨hx9.1, Fai.go ho hg (go_rept hbg2 hgt2) (by rw [← eg119]; exact hx9.2)⟩) (fun r153 mem154 H locs hq hP hS => ?_)
              have hD : va_D (Az sz) (fw n ad mem154) := fw_D hD
              obtain ⟨kx155, a156, R157, E158, A159, nn160, to161, hr9162, hb163, hb164, hb165, hb166, hb167, htk168, hRX169, hsc170⟩ := hq
              subst hr9162
              obtain ⟨ft171, h9_172⟩ := hRX169.2.1
              have h1_173 : mem154 1 = .inr (0, [.ref (ad 2), .int (nI Z)]) := (hRX169.1.2.2 1 (by omega)).trans hT.1
              have h2_174 : mem154 2 = .inl (cy 0, 240, .inl f) := (hRX169.1.2.2 2 (by omega)).trans hT.2.2
              have h5_175 := hRX169.1.1.2.1
              have hbd181 := hRX169.1.1.1
              obtain ⟨S176, g177, hS_178, h220_179, h221_180⟩ := hRX169.1.1.2.2.2.2.2.2
              obtain ⟨k182, lo183, hi184, as185, pa186, ne187, he_188, ho_189⟩ := (hRX169.1.1.2.2.2.2.2.1 la (by omega)).1
              obtain ⟨k190, lo191, hi192, as193, pa194, ne195, he_196, ho_197⟩ := (hRX169.1.1.2.2.2.2.2.1 kx155 (by omega)).1
              have hbd198 := hRX169.1.1.1
              have hsuc3 := Suc.go ho hg hk9 hs9 (by omega) (go_rept hbg2 hgt2) (by rw [← eg119]; exact hsc170)
              have htk3 := hz91.trans htk168 (by omega)
              refine f_putN Bx hP hD hS (by omega) he_188 rfl inEl tyEl okEl nmEl 5 (by decide) kw_91 rfl rfl rfl rfl (Nat.le_of_ble_eq_true rfl) d_Rd_readSequence_51 (fun H locs hP hS => ?_)
              obtain ⟨mem199, e_mem199⟩ : ∃ z, z = va_up mem154 ((20 + 2 * la)) (.inr (2, [.int (k182), .int (lo183), .int (hi184), as185, pa186, .ref (ad (20 + 2 * kx155)), .ref (ad (21 + 2 * la))])) := ⟨_, rfl⟩
              have hP : va_P D vcl (fw n ad mem199) H := by rw [e_mem199]; exact hP
              have hD : va_D (Az sz) (fw n ad mem199) := fw_D hD
              have h_mem199 : mem199 ((20 + 2 * la)) = .inr (2, [.int (k182), .int (lo183), .int (hi184), as185, pa186, .ref (ad (20 + 2 * kx155)), .ref (ad (21 + 2 * la))]) := by rw [e_mem199, va_up_self]
              have hh200 := (va_up_ne mem154 (.inr (2, [.int (k182), .int (lo183), .int (hi184), as185, pa186, .ref (ad (20 + 2 * kx155)), .ref (ad (21 + 2 * la))])) (show (222 : Nat) ≠ (20 + 2 * la) by first | decide | assumption | omega)).trans h9_172
              rw [← e_mem199] at hh200
              have hh201 := (va_up_ne mem154 (.inr (2, [.int (k182), .int (lo183), .int (hi184), as185, pa186, .ref (ad (20 + 2 * kx155)), .ref (ad (21 + 2 * la))])) (show (1 : Nat) ≠ (20 + 2 * la) by first | decide | assumption | omega)).trans h1_173
              rw [← e_mem199] at hh201
              have hh202 := (va_up_ne mem154 (.inr (2, [.int (k182), .int (lo183), .int (hi184), as185, pa186, .ref (ad (20 + 2 * kx155)), .ref (ad (21 + 2 * la))])) (show (5 : Nat) ≠ (20 + 2 * la) by first | decide | assumption | omega)).trans h5_175
              rw [← e_mem199] at hh202
              have hh203 := (va_up_ne mem154 (.inr (2, [.int (k182), .int (lo183), .int (hi184), as185, pa186, .ref (ad (20 + 2 * kx155)), .ref (ad (21 + 2 * la))])) (show (220 : Nat) ≠ (20 + 2 * la) by first | decide | assumption | omega)).trans h220_179
              rw [← e_mem199] at hh203
              have hh204 := (va_up_ne mem154 (.inr (2, [.int (k182), .int (lo183), .int (hi184), as185, pa186, .ref (ad (20 + 2 * kx155)), .ref (ad (21 + 2 * la))])) (show ((20 + 2 * kx155) : Nat) ≠ (20 + 2 * la) by first | decide | assumption | omega)).trans he_196
              rw [← e_mem199] at hh204
              have hRX205 : RX cy ad lim (a156) (R157) (E158) (to161) (nn160) m0 mem199 := by rw [e_mem199]; exact hRX169.el (by omega) (hRX169.1.mk (by omega) (hRX169.1.1.upEl (by omega) (fun q9 => ⟨(ho_189 q9).1, (ho_189 q9).2.1, Or.inr ⟨kx155, by omega, by omega, rfl⟩⟩)))
              refine lv_aload_n Bx.1 Bx.2.1 d_Rd_readSequence_54 rfl (lv_at hl 1 rfl) ?_
              refine f_getN Bx hP (by omega) h_mem199 rfl inEl 5 (by decide) kw_91 rfl rfl d_Rd_readSequence_55 ?_
              refine lv_astore_n (lv' := [(3, .ref (ad (20 + 2 * kx155))), (4, .int (nI k9)), (2, .ref (ad (20 + 2 * Ec))), (0, .ref (ad 222)), (1, .int (4))]) Bx.1 Bx.2.1 d_Rd_readSequence_58 rfl hl (by decide) rfl (fun ls hl => ?_)
              refine lv_iinc (lv' := [(4, .int ((nI k9 + (1)))), (3, .ref (ad (20 + 2 * kx155))), (2, .ref (ad (20 + 2 * Ec))), (0, .ref (ad 222)), (1, .int (4))]) Bx.1 Bx.2.1 d_Rd_readSequence_59 hl (k := 1) rfl rfl (by decide) rfl (fun ls hl => ?_)
              rw [show (nI k9 + (1) : Int32) = nI (k9 + 1) from nI_1 (k9)] at hl
              refine lv_goto Bx.1 Bx.2.1 d_Rd_readSequence_62 rfl ?_
              exact ih92 mem199 (a156) (R157) (E158) (A159) (nn160) (to161) (kx155) (k9 + 1) _ _ _ (by have := hmeas93; omega) (hRX205) (⟨by omega, by omega, by omega, by omega, by omega, by omega, by omega, by omega⟩) (hsuc3) (htk3) hP hD hS (lv_sub hl [0, 1, 2, 3, 4] rfl)
        · subst hr143
          refine lv_if_eq Bx.1 Bx.2.1 d_Rd_readSequence_32 rfl (fun hb206 => ?_) (fun hb206 => ?_)
          · refine lv_aload_n Bx.1 Bx.2.1 d_Rd_readSequence_65 rfl (lv_at hl 2 rfl) ?_
            exact x_aret hx hb hlocks hr (⟨Ec, a1, R1, E1, A1, n1, to1, rfl, by omega, by omega, by omega, by omega, by omega, hz91, by rw [← eg119]; exact hRX120, hz90, fun z => by have := z.2; rw [← eg119] at this; omega⟩) hP hS d_Rd_readSequence_66
          · exact absurd hb206 (by decide)
  exact loop86 _ mem79 (a36) (R37) (E38) (A39) (nn40) (to41) (kx35) (0) _ _ _ (Nat.lt_succ_self _) (hRX85) (⟨by omega, by omega, by omega, by omega, by omega, by omega, by omega, by omega⟩) (hsuc0) (htk48) hP hD hS (lv_sub hl [0, 1, 2, 3, 4] rfl)
set_option maxHeartbeats 4000000 in
set_option maxRecDepth 100000 in
theorem m_Rd_readAlternatives_4X (l : Launch) {D : va_G} {cy : Nat → ClassId} {sz n : Nat} {ad : Nat → Nat} {mem : Nat → va_E} {Z a R Ec lim : Nat} {f T : Nat → Int32} {to : Nat → Int32} {nm : Nat → Int64} {m0 : Nat → va_E} {u : Nat} {A : Ro} (hlt : l.stackTraces = false) (hn : 224 ≤ n) (hT : TX cy ad Z f m0) (hf : ∀ k, k < Z → f k = T k) (hRX : RX cy ad lim a R Ec to nm m0 mem) (haB : a ≤ 300) (haZ : a ≤ Z) : NXr l D cy sz n ad y_Rd_readAlternatives c_Rd_readAlternatives 5 (some (.object "AbnfChart$Element")) ({ frames := 31, cells := 1, slots := 6, locals := 738 } : Room) mem [.ref (ad 222), .int (4)] (fun r mem' => ∃ (k' a' R' E' : Nat) (A' : Ro) (nm' : Nat → Int64) (to' : Nat → Int32), r = ad (20 + 2 * k') ∧ Ec ≤ k' ∧ k' < E' ∧ R ≤ R' ∧ a < a' ∧ a' ≤ Z ∧ TOK R R' to to' ∧ RX cy ad lim (gapF T Z a') R' E' to' nm' m0 mem' ∧ Suc T Z (seqS T Z a u R (Ec + 1) 4 A nm) 4 R (A 235) (A 227) a' R' E' A' nm' ∧ bgF (hereF Z T a) = true ∧ Ec < 100 ∧ ¬ hereF Z T (gapF T Z a') = 47 ∧ ¬ (bgF (hereF Z T (gapF T Z a')) = true ∧ a' < gapF T Z a')) (fun X mem' => ((X = cIA ∨ X = cIS) ∧ ∃ rc' ec' : Nat, RS cy ad lim rc' ec' m0 mem') ∧ (bgF (hereF Z T a) = false ∨ Ec = 100 ∨ (bgF (hereF Z T a) = true ∧ Ec < 100 ∧ Fai T Z (seqS T Z a u R (Ec + 1) 4 A nm)))) := by
  refine vx_ofW (cc := c_Rd_readAlternatives) (maxL := 5) (ret := (some (.object "AbnfChart$Element"))) (by decide) rfl ?_
  intro p e s m args below meth c s₁ B hml hno hv
  obtain ⟨rfl, E, hP, hD⟩ := hv
  have hx := B.exec
  have hb := B.bytes
  have hr := B.returns
  have hlocks := B.notSynchronized
  have Bx : MB p s m [.ref (ad 222), .int (4)].toArray c c_Rd_readAlternatives "AbnfChart$Reader" D cy := ⟨hx, hb, tb_all (atoms_spec B.pre) E.2.1, findClass_of_methodNamed B.named, E.1⟩
  have hS : va_S (Az sz) s.heap s.heap [] := va_S.rf
  have hl := lv_entry ([.ref (ad 222), .int (4)]) (n := 5) (Nat.le_of_ble_eq_true rfl)
  rw [lg_entry_eq]
  generalize (lg_sl ([.ref (ad 222), .int (4)]) ++ List.replicate (5 - (lg_sl ([.ref (ad 222), .int (4)])).length) Slot.unset).toArray = ls at hl ⊢
  have hl : lv_has ls 5 [(0, .ref (ad 222)), (1, .int (4))] := hl
  have hZ9 := hT.2.1
  have hbd9 := hRX.1.1.1
  obtain ⟨ft1, h9_2⟩ := hRX.2.1
  have h1_3 : mem 1 = .inr (0, [.ref (ad 2), .int (nI Z)]) := (hRX.1.2.2 1 (by omega)).trans hT.1
  have h2_4 : mem 2 = .inl (cy 0, 240, .inl f) := (hRX.1.2.2 2 (by omega)).trans hT.2.2
  have h5_5 := hRX.1.1.2.1
  have hbd11 := hRX.1.1.1
  obtain ⟨S6, g7, hS_8, h220_9, h221_10⟩ := hRX.1.1.2.2.2.2.2.2
  refine lv_aload_n Bx.1 Bx.2.1 d_Rd_readAlternatives_0 rfl (lv_at hl 0 rfl) ?_
  refine lv_iconst (v := 0) Bx.1 Bx.2.1 d_Rd_readAlternatives_1 (by decide) ?_
  refine f_xVr (na := 1) (As := [.int (0)]) (rest := []) Bx hml E hP hD hS (by omega) h9_2 rfl (m_Rd_beginRowX l hlt hn hT hf hRX (by omega)) kw_409 kw_411 sel_Rd_beginRow kw_6 kw_412 (by decide +kernel) ⟨rfl, rfl⟩ ⟨Nat.le_of_ble_eq_true rfl, Nat.le_of_ble_eq_true rfl⟩ rfl hl.1 (Nat.le_of_ble_eq_true rfl) d_Rd_readAlternatives_2 ⟨Nat.le_of_ble_eq_true rfl, Nat.le_of_ble_eq_true rfl⟩ (fun X ce q9 memx H locs hx9 hP hS g1 g2 g3 => f_out hlocks hno hP hS g1 g2 g3 ⟨Nat.le_of_ble_eq_true rfl, Nat.le_of_ble_eq_true rfl⟩ ⟨hx9.1, hx9.2.elim Or.inl (fun z => Or.inr (Or.inl z))⟩) (fun r12 mem13 H locs hq hP hS => ?_)
  have hD : va_D (Az sz) (fw n ad mem13) := fw_D hD
  obtain ⟨hbg, hE9, hr9, hRXb⟩ := hq
  subst hr9
  obtain ⟨ft14, h9_15⟩ := hRXb.2.1
  have h1_16 : mem13 1 = .inr (0, [.ref (ad 2), .int (nI Z)]) := (hRXb.1.2.2 1 (by omega)).trans hT.1
  have h2_17 : mem13 2 = .inl (cy 0, 240, .inl f) := (hRXb.1.2.2 2 (by omega)).trans hT.2.2
  have h5_18 := hRXb.1.1.2.1
  have hbd24 := hRXb.1.1.1
  obtain ⟨S19, g20, hS_21, h220_22, h221_23⟩ := hRXb.1.1.2.2.2.2.2.2
  obtain ⟨k25, lo26, hi27, as28, pa29, ne30, he_31, ho_32⟩ := (hRXb.1.1.2.2.2.2.2.1 Ec (by omega)).1
  refine lv_astore_n (lv' := [(2, .ref (ad (20 + 2 * Ec))), (0, .ref (ad 222)), (1, .int (4))]) Bx.1 Bx.2.1 d_Rd_readAlternatives_5 rfl hl (by decide) rfl (fun ls hl => ?_)
  refine lv_aload_n Bx.1 Bx.2.1 d_Rd_readAlternatives_6 rfl (lv_at hl 1 rfl) ?_
  refine lv_iload_n Bx.1 Bx.2.1 d_Rd_readAlternatives_7 rfl (lv_at hl 2 rfl) ?_
  refine f_xVr (na := 1) (As := [.int (4)]) (rest := []) Bx hml E hP hD hS (by omega) h9_15 rfl (m_Rd_readSequence_4X l hlt hn hT hf hRXb (by omega) (u := u) (A := A) (by omega)) kw_435 kw_437 sel_Rd_readSequence kw_6 kw_438 (by decide +kernel) ⟨rfl, rfl⟩ ⟨Nat.le_of_ble_eq_true rfl, Nat.le_of_ble_eq_true rfl⟩ rfl hl.1 (Nat.le_of_ble_eq_true rfl) d_Rd_readAlternatives_8 ⟨Nat.le_of_ble_eq_true rfl, Nat.le_of_ble_eq_true rfl⟩ (fun X ce q9 memx H locs hx9 hP hS g1 g2 g3 => f_out hlocks hno hP hS g1 g2 g3 ⟨Nat.le_of_ble_eq_true rfl, Nat.le_of_ble_eq_true rfl⟩ ⟨hx9.1, Or.inr (Or.inr ⟨hbg, hE9, hx9.2⟩)⟩) (fun r33 mem34 H locs hq hP hS => ?_)
  have hD : va_D (Az sz) (fw n ad mem34) := fw_D hD
  obtain ⟨kx35, a36, R37, E38, A39, nn40, to41, hr942, hb43, hb44, hb45, hb46, hb47, htk48, hRX49, hsc50, hnb51⟩ := hq
  subst hr942
  obtain ⟨g52, eg53⟩ : ∃ z, z = gapF T Z a36 := ⟨_, rfl⟩
  have hg54 : a36 ≤ g52 := by rw [eg53]; exact gapF_ge T Z _
  have hg55 : g52 ≤ Z := by rw [eg53]; exact gapF_le T (by omega)
  rw [← eg53] at hRX49
  obtain ⟨ft56, h9_57⟩ := hRX49.2.1
  have h1_58 : mem34 1 = .inr (0, [.ref (ad 2), .int (nI Z)]) := (hRX49.1.2.2 1 (by omega)).trans hT.1
  have h2_59 : mem34 2 = .inl (cy 0, 240, .inl f) := (hRX49.1.2.2 2 (by omega)).trans hT.2.2
  have h5_60 := hRX49.1.1.2.1
  have hbd66 := hRX49.1.1.1
  obtain ⟨S61, g62, hS_63, h220_64, h221_65⟩ := hRX49.1.1.2.2.2.2.2.2
  obtain ⟨k67, lo68, hi69, as70, pa71, ne72, he_73, ho_74⟩ := (hRX49.1.1.2.2.2.2.2.1 Ec (by omega)).1
  obtain ⟨k75, lo76, hi77, as78, pa79, ne80, he_81, ho_82⟩ := (hRX49.1.1.2.2.2.2.2.1 kx35 (by omega)).1
  have hbd83 := hRX49.1.1.1
  refine lv_astore_n (lv' := [(3, .ref (ad (20 + 2 * kx35))), (2, .ref (ad (20 + 2 * Ec))), (0, .ref (ad 222)), (1, .int (4))]) Bx.1 Bx.2.1 d_Rd_readAlternatives_11 rfl hl (by decide) rfl (fun ls hl => ?_)
  refine lv_aload_n Bx.1 Bx.2.1 d_Rd_readAlternatives_12 rfl (lv_at hl 1 rfl) ?_
  refine lv_aload_n Bx.1 Bx.2.1 d_Rd_readAlternatives_13 rfl (lv_at hl 0 rfl) ?_
  refine f_putN Bx hP hD hS (by omega) he_73 rfl inEl tyEl okEl nmEl 4 (by decide) kw_87 rfl rfl rfl rfl (Nat.le_of_ble_eq_true rfl) d_Rd_readAlternatives_14 (fun H locs hP hS => ?_)
  obtain ⟨mem84, e_mem84⟩ : ∃ z, z = va_up mem34 ((20 + 2 * Ec)) (.inr (2, [.int (k67), .int (lo68), .int (hi69), as70, .ref (ad (20 + 2 * kx35)), ne72, .ref (ad (21 + 2 * Ec))])) := ⟨_, rfl⟩
  have hP : va_P D vcl (fw n ad mem84) H := by rw [e_mem84]; exact hP
  have hD : va_D (Az sz) (fw n ad mem84) := fw_D hD
  have h_mem84 : mem84 ((20 + 2 * Ec)) = .inr (2, [.int (k67), .int (lo68), .int (hi69), as70, .ref (ad (20 + 2 * kx35)), ne72, .ref (ad (21 + 2 * Ec))]) := by rw [e_mem84, va_up_self]
  have hh85 := (va_up_ne mem34 (.inr (2, [.int (k67), .int (lo68), .int (hi69), as70, .ref (ad (20 + 2 * kx35)), ne72, .ref (ad (21 + 2 * Ec))])) (show (222 : Nat) ≠ (20 + 2 * Ec) by first | decide | assumption | omega)).trans h9_57
  rw [← e_mem84] at hh85
  have hh86 := (va_up_ne mem34 (.inr (2, [.int (k67), .int (lo68), .int (hi69), as70, .ref (ad (20 + 2 * kx35)), ne72, .ref (ad (21 + 2 * Ec))])) (show (1 : Nat) ≠ (20 + 2 * Ec) by first | decide | assumption | omega)).trans h1_58
  rw [← e_mem84] at hh86
  have hh87 := (va_up_ne mem34 (.inr (2, [.int (k67), .int (lo68), .int (hi69), as70, .ref (ad (20 + 2 * kx35)), ne72, .ref (ad (21 + 2 * Ec))])) (show (5 : Nat) ≠ (20 + 2 * Ec) by first | decide | assumption | omega)).trans h5_60
  rw [← e_mem84] at hh87
  have hh88 := (va_up_ne mem34 (.inr (2, [.int (k67), .int (lo68), .int (hi69), as70, .ref (ad (20 + 2 * kx35)), ne72, .ref (ad (21 + 2 * Ec))])) (show (220 : Nat) ≠ (20 + 2 * Ec) by first | decide | assumption | omega)).trans h220_64
  rw [← e_mem84] at hh88
  have hh89 := (va_up_ne mem34 (.inr (2, [.int (k67), .int (lo68), .int (hi69), as70, .ref (ad (20 + 2 * kx35)), ne72, .ref (ad (21 + 2 * Ec))])) (show ((20 + 2 * kx35) : Nat) ≠ (20 + 2 * Ec) by first | decide | assumption | omega)).trans he_81
  rw [← e_mem84] at hh89
  have hRX90 : RX cy ad lim (g52) (R37) (E38) (to41) (nn40) m0 mem84 := by rw [e_mem84]; exact hRX49.el (by omega) (hRX49.1.mk (by omega) (hRX49.1.1.upEl (by omega) (fun q9 => ⟨(ho_74 q9).1, Or.inr ⟨kx35, by omega, by omega, rfl⟩, (ho_74 q9).2.2⟩)))
  refine lv_iconst (v := 0) Bx.1 Bx.2.1 d_Rd_readAlternatives_17 (by decide) ?_
  refine lv_istore (lv' := [(4, .int (0)), (3, .ref (ad (20 + 2 * kx35))), (2, .ref (ad (20 + 2 * Ec))), (0, .ref (ad 222)), (1, .int (4))]) Bx.1 Bx.2.1 d_Rd_readAlternatives_18 hl (by decide) rfl (fun ls hl => ?_)
  have loop91 : ∀ (d92 : Nat) (mem9 : Nat → va_E) (a1 : Nat) (R1 : Nat) (E1 : Nat) (A1 : Ro) (n1 : Nat → Int64) (to1 : Nat → Int32) (la : Nat) (k9 : Nat) (ls : Array Slot) (H : Heap) (locs : List Loc), (240 - k9 < d92) → (RX cy ad lim (gapF T Z a1) R1 E1 to1 n1 m0 mem9) → (a < a1 ∧ a1 ≤ Z ∧ R ≤ R1 ∧ Ec < la ∧ la < E1 ∧ k9 < a1 ∧ k9 ≤ 240 ∧ Ec < E1) → (Suc T Z (seqS T Z a u R (Ec + 1) 4 A nm) 4 R (A 235) (A 227) a1 R1 E1 A1 n1) → (TOK R R1 to to1) → (¬ (bgF (hereF Z T (gapF T Z a1)) = true ∧ a1 < gapF T Z a1)) → (va_P D vcl (fw n ad mem9) H) → (va_D (Az sz) (fw n ad mem9)) → (va_S (Az sz) s.heap H locs) → (lv_has ls 5 [(4, .int (nI k9)), (3, .ref (ad (20 + 2 * la))), (2, .ref (ad (20 + 2 * Ec))), (0, .ref (ad 222)), (1, .int (4))]) → W p l e (headSpec (Cond.code y_Rd_readAlternatives c_Rd_readAlternatives 5 (some (.object "AbnfChart$Element")) :: tg) ({ frames := 31, cells := 1, slots := 6, locals := 738 } : Room)).room s m [.ref (ad 222), .int (4)].toArray below meth c H locs 0 0 (vx_MQ below (QX (QR (fun r mem' => ∃ (k' a' R' E' : Nat) (A' : Ro) (nm' : Nat → Int64) (to' : Nat → Int32), r = ad (20 + 2 * k') ∧ Ec ≤ k' ∧ k' < E' ∧ R ≤ R' ∧ a < a' ∧ a' ≤ Z ∧ TOK R R' to to' ∧ RX cy ad lim (gapF T Z a') R' E' to' nm' m0 mem' ∧ Suc T Z (seqS T Z a u R (Ec + 1) 4 A nm) 4 R (A 235) (A 227) a' R' E' A' nm' ∧ bgF (hereF Z T a) = true ∧ Ec < 100 ∧ ¬ hereF Z T (gapF T Z a') = 47 ∧ ¬ (bgF (hereF Z T (gapF T Z a')) = true ∧ a' < gapF T Z a')) (PP D n ad) (Az sz))) (XQ D sz n ad (fun X mem' => ((X = cIA ∨ X = cIS) ∧ ∃ rc' ec' : Nat, RS cy ad lim rc' ec' m0 mem') ∧ (bgF (hereF Z T a) = false ∨ Ec = 100 ∨ (bgF (hereF Z T a) = true ∧ Ec < 100 ∧ Fai T Z (seqS T Z a u R (Ec + 1) 4 A nm))))) [.ref (ad 222), .int (4)].toArray s 1 6 (Az sz)) (F0 m 20 ls []) := by
    intro d92
    induction d92 with
    | zero => intro mem9 a1 R1 E1 A1 n1 to1 la k9 ls H locs hmeas99; exact absurd hmeas99 (Nat.not_lt_zero _)
    | succ d92 ih98 =>
      intro mem9 a1 R1 E1 A1 n1 to1 la k9 ls H locs hmeas99 hz93 hz94 hz95 hz96 hz97 hP hD hS hl
      obtain ⟨g1, eg1⟩ : ∃ z, z = gapF T Z a1 := ⟨_, rfl⟩
      rw [← eg1] at hz93
      have hge1 : a1 ≤ g1 := by rw [eg1]; exact gapF_ge T Z _
      have hbd8 := hz94
      have hle1 : g1 ≤ Z := by rw [eg1]; exact gapF_le T (by omega)
      obtain ⟨ft100, h9_101⟩ := hz93.2.1
      have h1_102 : mem9 1 = .inr (0, [.ref (ad 2), .int (nI Z)]) := (hz93.1.2.2 1 (by omega)).trans hT.1
      have h2_103 : mem9 2 = .inl (cy 0, 240, .inl f) := (hz93.1.2.2 2 (by omega)).trans hT.2.2
      have h5_104 := hz93.1.1.2.1
      have hbd110 := hz93.1.1.1
      obtain ⟨S105, g106, hS_107, h220_108, h221_109⟩ := hz93.1.1.2.2.2.2.2.2
      obtain ⟨k111, lo112, hi113, as114, pa115, ne116, he_117, ho_118⟩ := (hz93.1.1.2.2.2.2.2.1 la (by omega)).1
      obtain ⟨c1, u1, ho, hg, hk9, hs9⟩ := id hz95
      refine lv_iload Bx.1 Bx.2.1 d_Rd_readAlternatives_20 (lv_at hl 0 rfl) ?_
      refine lv_sipush (v := 240) Bx.1 Bx.2.1 d_Rd_readAlternatives_22 (by decide) ?_
      refine lv_icmp_ge Bx.1 Bx.2.1 d_Rd_readAlternatives_25 rfl (fun hb119 => ?_) (fun hb119 => ?_)
      · have hN120 : 240 ≤ k9 := (nI_leI (by omega) (by omega)).mp (show nI (240) ≤ nI (k9) from hb119)
        exact absurd hbd8 (by omega)
      · have hN121 : ¬ 240 ≤ k9 := fun q9 => hb119 (show nI (240) ≤ nI (k9) from (nI_leI (by omega) (by omega)).mpr q9)
        refine lv_aload_n Bx.1 Bx.2.1 d_Rd_readAlternatives_28 rfl (lv_at hl 3 rfl) ?_
        refine f_callVi (na := 0) (As := []) (rest := []) Bx hml E hP hD hS (by omega) h9_101 rfl (m_Rd_peekX l hn hT hf hz93 (by omega)) kw_353 kw_355 sel_Rd_peek kw_6 kw_356 (by decide +kernel) ⟨rfl, rfl⟩ ⟨Nat.le_of_ble_eq_true rfl, Nat.le_of_ble_eq_true rfl⟩ rfl hl.1 (Nat.le_of_ble_eq_true rfl) d_Rd_readAlternatives_29 ⟨Nat.le_of_ble_eq_true rfl, Nat.le_of_ble_eq_true rfl⟩ (fun r123 mem124 H locs hq hP hS => ?_)
        have hD : va_D (Az sz) (fw n ad mem124) := fw_D hD
        obtain ⟨hqe, hpk122⟩ := hq
        rw [hqe] at hP hD
        subst hpk122
        refine lv_bipush (v := 47) Bx.1 Bx.2.1 d_Rd_readAlternatives_32 (by decide) ?_
        refine lv_icmp_ne Bx.1 Bx.2.1 d_Rd_readAlternatives_34 rfl (fun hb126 => ?_) (fun hb126 => ?_)
        · refine lv_aload_n Bx.1 Bx.2.1 d_Rd_readAlternatives_72 rfl (lv_at hl 2 rfl) ?_
          exact x_aret hx hb hlocks hr (⟨Ec, a1, R1, E1, A1, n1, to1, rfl, by omega, by omega, by omega, by omega, by omega, hz96, by rw [← eg1]; exact hz93, hz95, hbg, hE9, by rw [← eg1]; exact hb126, hz97⟩) hP hS d_Rd_readAlternatives_73
        · have hlt127 := hereF_lt (by rw [hb126]; decide)
          have h47 : hereF Z T (gapF T Z a1) = 47 := by rw [← eg1]; exact hb126
          refine lv_aload_n Bx.1 Bx.2.1 d_Rd_readAlternatives_37 rfl (lv_at hl 3 rfl) ?_
          refine lv_dup Bx.1 Bx.2.1 d_Rd_readAlternatives_38 rfl ?_
          refine f_get Bx hP (by omega) h9_101 rfl inRd 2 (by decide) kw_146 rfl rfl d_Rd_readAlternatives_39 ?_
          refine lv_iconst (v := 1) Bx.1 Bx.2.1 d_Rd_readAlternatives_42 (by decide) ?_
          refine lv_iadd Bx.1 Bx.2.1 d_Rd_readAlternatives_43 ?_
          rw [show nI g1 + 1 = nI (g1 + 1) from nI_add (g1) (1)]
          refine f_put Bx hP hD hS (by omega) h9_101 rfl inRd tyRd okRd nmRd 2 (by decide) kw_146 rfl rfl rfl rfl (Nat.le_of_ble_eq_true rfl) d_Rd_readAlternatives_44 (fun H locs hP hS => ?_)
          obtain ⟨mem128, e_mem128⟩ : ∃ z, z = va_up mem9 (222) (.inr (4, [.ref (ad 1), .ref (ad 5), .int (nI (g1 + 1)), .int (ft100)])) := ⟨_, rfl⟩
          have hP : va_P D vcl (fw n ad mem128) H := by rw [e_mem128]; exact hP
          have hD : va_D (Az sz) (fw n ad mem128) := fw_D hD
          have h_mem128 : mem128 (222) = .inr (4, [.ref (ad 1), .ref (ad 5), .int (nI (g1 + 1)), .int (ft100)]) := by rw [e_mem128, va_up_self]
          have hh129 := (va_up_ne mem9 (.inr (4, [.ref (ad 1), .ref (ad 5), .int (nI (g1 + 1)), .int (ft100)])) (show (1 : Nat) ≠ 222 by first | decide | assumption | omega)).trans h1_102
          rw [← e_mem128] at hh129
          have hh130 := (va_up_ne mem9 (.inr (4, [.ref (ad 1), .ref (ad 5), .int (nI (g1 + 1)), .int (ft100)])) (show (5 : Nat) ≠ 222 by first | decide | assumption | omega)).trans h5_104
          rw [← e_mem128] at hh130
          have hh131 := (va_up_ne mem9 (.inr (4, [.ref (ad 1), .ref (ad 5), .int (nI (g1 + 1)), .int (ft100)])) (show (220 : Nat) ≠ 222 by first | decide | assumption | omega)).trans h220_108
          rw [← e_mem128] at hh131
          have hh132 := (va_up_ne mem9 (.inr (4, [.ref (ad 1), .ref (ad 5), .int (nI (g1 + 1)), .int (ft100)])) (show ((20 + 2 * la) : Nat) ≠ 222 by first | decide | assumption | omega)).trans he_117
          rw [← e_mem128] at hh132
          have hRX133 : RX cy ad lim (g1 + 1) (R1) (E1) (to1) (n1) m0 mem128 := by rw [e_mem128]; exact hz93.at
          refine lv_aload_n Bx.1 Bx.2.1 d_Rd_readAlternatives_47 rfl (lv_at hl 3 rfl) ?_
          refine f_callVi (na := 0) (As := []) (rest := []) Bx hml E hP hD hS (by omega) h_mem128 rfl (m_Rd_readGapX l hn hT hf hRX133 (by omega) (by omega)) kw_397 kw_399 sel_Rd_readGap kw_6 kw_400 (by decide +kernel) ⟨rfl, rfl⟩ ⟨Nat.le_of_ble_eq_true rfl, Nat.le_of_ble_eq_true rfl⟩ rfl hl.1 (Nat.le_of_ble_eq_true rfl) d_Rd_readAlternatives_48 ⟨Nat.le_of_ble_eq_true rfl, Nat.le_of_ble_eq_true rfl⟩ (fun r134 mem135 H locs hq hP hS => ?_)
          have hD : va_D (Az sz) (fw n ad mem135) := fw_D hD
          obtain ⟨g136, eg137⟩ : ∃ z, z = gapF T Z (g1 + 1) := ⟨_, rfl⟩
          rw [← eg137] at hq
          obtain ⟨hRX138, hgc139⟩ := hq
          have hg140 : g1 + 1 ≤ g136 := by rw [eg137]; exact gapF_ge T Z _
          have hg141 : g136 ≤ Z := by rw [eg137]; exact gapF_le T (by omega)
          obtain ⟨ft142, h9_143⟩ := hRX138.2.1
          have h1_144 : mem135 1 = .inr (0, [.ref (ad 2), .int (nI Z)]) := (hRX138.1.2.2 1 (by omega)).trans hT.1
          have h2_145 : mem135 2 = .inl (cy 0, 240, .inl f) := (hRX138.1.2.2 2 (by omega)).trans hT.2.2
          have h5_146 := hRX138.1.1.2.1
          have hbd152 := hRX138.1.1.1
          obtain ⟨S147, g148, hS_149, h220_150, h221_151⟩ := hRX138.1.1.2.2.2.2.2.2
          obtain ⟨k153, lo154, hi155, as156, pa157, ne158, he_159, ho_160⟩ := (hRX138.1.1.2.2.2.2.2.1 la (by omega)).1
          refine lv_pop Bx.1 Bx.2.1 d_Rd_readAlternatives_51 rfl ?_
          refine lv_aload_n Bx.1 Bx.2.1 d_Rd_readAlternatives_52 rfl (lv_at hl 1 rfl) ?_
          refine lv_aload_n Bx.1 Bx.2.1 d_Rd_readAlternatives_53 rfl (lv_at hl 3 rfl) ?_
          refine lv_iload_n Bx.1 Bx.2.1 d_Rd_readAlternatives_54 rfl (lv_at hl 4 rfl) ?_
          refine f_xVr (na := 1) (As := [.int (4)]) (rest := [.ref (ad (20 + 2 * la))]) Bx hml E hP hD hS (by omega) h9_143 rfl (m_Rd_readSequence_4X l hlt hn hT hf hRX138 (by omega) (u := u1) (A := A1) (by omega)) kw_435 kw_437 sel_Rd_readSequence kw_6 kw_438 (by decide +kernel) ⟨rfl, rfl⟩ ⟨Nat.le_of_ble_eq_true rfl, Nat.le_of_ble_eq_true rfl⟩ rfl hl.1 (Nat.le_of_ble_eq_true rfl) d_Rd_readAlternatives_55 ⟨Nat.le_of_ble_eq_true rfl, Nat.le_of_ble_eq_true rfl⟩ (fun X ce q9 memx H locs hx9 hP hS g1 g2 g3 => f_out hlocks hno hP hS g1 g2 g3 ⟨Nat.le_of_ble_eq_true rfl, Nat.le_of_ble_eq_true rfl⟩ ⟨hx9.1, Or.inr (Or.inr ⟨hbg, hE9, Fai.go ho hg (go_sl h47) (by rw [← eg1, ← eg137]; exact hx9.2)⟩)⟩) (fun r161 mem162 H locs hq hP hS => ?_)
          have hD : va_D (Az sz) (fw n ad mem162) := fw_D hD
          obtain ⟨kx163, a164, R165, E166, A167, nn168, to169, hr9170, hb171, hb172, hb173, hb174, hb175, htk176, hRX177, hsc178, hnb179⟩ := hq
          subst hr9170
          obtain ⟨g180, eg181⟩ : ∃ z, z = gapF T Z a164 := ⟨_, rfl⟩
          have hg182 : a164 ≤ g180 := by rw [eg181]; exact gapF_ge T Z _
          have hg183 : g180 ≤ Z := by rw [eg181]; exact gapF_le T (by omega)
          rw [← eg181] at hRX177
          obtain ⟨ft184, h9_185⟩ := hRX177.2.1
          have h1_186 : mem162 1 = .inr (0, [.ref (ad 2), .int (nI Z)]) := (hRX177.1.2.2 1 (by omega)).trans hT.1
          have h2_187 : mem162 2 = .inl (cy 0, 240, .inl f) := (hRX177.1.2.2 2 (by omega)).trans hT.2.2
          have h5_188 := hRX177.1.1.2.1
          have hbd194 := hRX177.1.1.1
          obtain ⟨S189, g190, hS_191, h220_192, h221_193⟩ := hRX177.1.1.2.2.2.2.2.2
          obtain ⟨k195, lo196, hi197, as198, pa199, ne200, he_201, ho_202⟩ := (hRX177.1.1.2.2.2.2.2.1 la (by omega)).1
          obtain ⟨k203, lo204, hi205, as206, pa207, ne208, he_209, ho_210⟩ := (hRX177.1.1.2.2.2.2.2.1 kx163 (by omega)).1
          have hbd211 := hRX177.1.1.1
          have hsuc3 := Suc.go ho hg hk9 hs9 (by omega) (go_sl h47) (by rw [← eg1, ← eg137]; exact hsc178)
          have htk3 := hz96.trans htk176 (by omega)
          refine f_putN Bx hP hD hS (by omega) he_201 rfl inEl tyEl okEl nmEl 5 (by decide) kw_91 rfl rfl rfl rfl (Nat.le_of_ble_eq_true rfl) d_Rd_readAlternatives_58 (fun H locs hP hS => ?_)
          obtain ⟨mem212, e_mem212⟩ : ∃ z, z = va_up mem162 ((20 + 2 * la)) (.inr (2, [.int (k195), .int (lo196), .int (hi197), as198, pa199, .ref (ad (20 + 2 * kx163)), .ref (ad (21 + 2 * la))])) := ⟨_, rfl⟩
          have hP : va_P D vcl (fw n ad mem212) H := by rw [e_mem212]; exact hP
          have hD : va_D (Az sz) (fw n ad mem212) := fw_D hD
          have h_mem212 : mem212 ((20 + 2 * la)) = .inr (2, [.int (k195), .int (lo196), .int (hi197), as198, pa199, .ref (ad (20 + 2 * kx163)), .ref (ad (21 + 2 * la))]) := by rw [e_mem212, va_up_self]
          have hh213 := (va_up_ne mem162 (.inr (2, [.int (k195), .int (lo196), .int (hi197), as198, pa199, .ref (ad (20 + 2 * kx163)), .ref (ad (21 + 2 * la))])) (show (222 : Nat) ≠ (20 + 2 * la) by first | decide | assumption | omega)).trans h9_185
          rw [← e_mem212] at hh213
          have hh214 := (va_up_ne mem162 (.inr (2, [.int (k195), .int (lo196), .int (hi197), as198, pa199, .ref (ad (20 + 2 * kx163)), .ref (ad (21 + 2 * la))])) (show (1 : Nat) ≠ (20 + 2 * la) by first | decide | assumption | omega)).trans h1_186
          rw [← e_mem212] at hh214
          have hh215 := (va_up_ne mem162 (.inr (2, [.int (k195), .int (lo196), .int (hi197), as198, pa199, .ref (ad (20 + 2 * kx163)), .ref (ad (21 + 2 * la))])) (show (5 : Nat) ≠ (20 + 2 * la) by first | decide | assumption | omega)).trans h5_188
          rw [← e_mem212] at hh215
          have hh216 := (va_up_ne mem162 (.inr (2, [.int (k195), .int (lo196), .int (hi197), as198, pa199, .ref (ad (20 + 2 * kx163)), .ref (ad (21 + 2 * la))])) (show (220 : Nat) ≠ (20 + 2 * la) by first | decide | assumption | omega)).trans h220_192
          rw [← e_mem212] at hh216
          have hh217 := (va_up_ne mem162 (.inr (2, [.int (k195), .int (lo196), .int (hi197), as198, pa199, .ref (ad (20 + 2 * kx163)), .ref (ad (21 + 2 * la))])) (show ((20 + 2 * kx163) : Nat) ≠ (20 + 2 * la) by first | decide | assumption | omega)).trans he_209
          rw [← e_mem212] at hh217
          have hRX218 : RX cy ad lim (g180) (R165) (E166) (to169) (nn168) m0 mem212 := by rw [e_mem212]; exact hRX177.el (by omega) (hRX177.1.mk (by omega) (hRX177.1.1.upEl (by omega) (fun q9 => ⟨(ho_202 q9).1, (ho_202 q9).2.1, Or.inr ⟨kx163, by omega, by omega, rfl⟩⟩)))
          refine lv_aload_n Bx.1 Bx.2.1 d_Rd_readAlternatives_61 rfl (lv_at hl 1 rfl) ?_
          refine f_getN Bx hP (by omega) h_mem212 rfl inEl 5 (by decide) kw_91 rfl rfl d_Rd_readAlternatives_62 ?_
          refine lv_astore_n (lv' := [(3, .ref (ad (20 + 2 * kx163))), (4, .int (nI k9)), (2, .ref (ad (20 + 2 * Ec))), (0, .ref (ad 222)), (1, .int (4))]) Bx.1 Bx.2.1 d_Rd_readAlternatives_65 rfl hl (by decide) rfl (fun ls hl => ?_)
          refine lv_iinc (lv' := [(4, .int ((nI k9 + (1)))), (3, .ref (ad (20 + 2 * kx163))), (2, .ref (ad (20 + 2 * Ec))), (0, .ref (ad 222)), (1, .int (4))]) Bx.1 Bx.2.1 d_Rd_readAlternatives_66 hl (k := 1) rfl rfl (by decide) rfl (fun ls hl => ?_)
          rw [show (nI k9 + (1) : Int32) = nI (k9 + 1) from nI_1 (k9)] at hl
          refine lv_goto Bx.1 Bx.2.1 d_Rd_readAlternatives_69 rfl ?_
          exact ih98 mem212 (a164) (R165) (E166) (A167) (nn168) (to169) (kx163) (k9 + 1) _ _ _ (by have := hmeas99; omega) (by rw [← eg181]; exact hRX218) (⟨by omega, by omega, by omega, by omega, by omega, by omega, by omega, by omega⟩) (hsuc3) (htk3) (hnb179) hP hD hS (lv_sub hl [0, 1, 2, 3, 4] rfl)
  exact loop91 _ mem84 (a36) (R37) (E38) (A39) (nn40) (to41) (kx35) (0) _ _ _ (Nat.lt_succ_self _) (by rw [← eg53]; exact hRX90) (⟨by omega, by omega, by omega, by omega, by omega, by omega, by omega, by omega⟩) (hsc50) (htk48) (hnb51) hP hD hS (lv_sub hl [0, 1, 2, 3, 4] rfl)
set_option maxHeartbeats 4000000 in
set_option maxRecDepth 100000 in
theorem m_Rd_readBracket_3X (l : Launch) {D : va_G} {cy : Nat → ClassId} {sz n : Nat} {ad : Nat → Nat} {mem : Nat → va_E} {Z a R Ec lim : Nat} {f T : Nat → Int32} {to : Nat → Int32} {nm : Nat → Int64} {m0 : Nat → va_E} {u : Nat} {A : Ro} {what oe en : Int32} (hlt : l.stackTraces = false) (hn : 224 ≤ n) (hT : TX cy ad Z f m0) (hf : ∀ k, k < Z → f k = T k) (hRX : RX cy ad lim a R Ec to nm m0 mem) (haB : a ≤ 300) (haZ : a < Z) (hwe : (what = 1 ∧ en = 41) ∨ (what = 2 ∧ en = 93)) : NXr l D cy sz n ad y_Rd_readBracket c_Rd_readBracket 4 (some (.object "AbnfChart$Element")) ({ frames := 32, cells := 1, slots := 6, locals := 770 } : Room) mem [.ref (ad 222), .int (3), .int (en)] (fun r mem' => ∃ (k' a' R' E' : Nat) (A' : Ro) (nm' : Nat → Int64) (to' : Nat → Int32), r = ad (20 + 2 * k') ∧ Ec ≤ k' ∧ k' < E' ∧ R ≤ R' ∧ a < a' ∧ a' ≤ Z ∧ TOK R R' to to' ∧ RX cy ad lim a' R' E' to' nm' m0 mem' ∧ Suc T Z (entS T Z (a + 1) u R Ec 4 A nm what oe) 3 R (A 235) (A 227) a' R' E' A' nm') (fun X mem' => ((X = cIA ∨ X = cIS) ∧ ∃ rc' ec' : Nat, RS cy ad lim rc' ec' m0 mem') ∧ (Fai T Z (entS T Z (a + 1) u R Ec 4 A nm what oe))) := by
  refine vx_ofW (cc := c_Rd_readBracket) (maxL := 4) (ret := (some (.object "AbnfChart$Element"))) (by decide) rfl ?_
  intro p e s m args below meth c s₁ B hml hno hv
  obtain ⟨rfl, E, hP, hD⟩ := hv
  have hx := B.exec
  have hb := B.bytes
  have hr := B.returns
  have hlocks := B.notSynchronized
  have Bx : MB p s m [.ref (ad 222), .int (3), .int (en)].toArray c c_Rd_readBracket "AbnfChart$Reader" D cy := ⟨hx, hb, tb_all (atoms_spec B.pre) E.2.1, findClass_of_methodNamed B.named, E.1⟩
  have hS : va_S (Az sz) s.heap s.heap [] := va_S.rf
  have hl := lv_entry ([.ref (ad 222), .int (3), .int (en)]) (n := 4) (Nat.le_of_ble_eq_true rfl)
  rw [lg_entry_eq]
  generalize (lg_sl ([.ref (ad 222), .int (3), .int (en)]) ++ List.replicate (4 - (lg_sl ([.ref (ad 222), .int (3), .int (en)])).length) Slot.unset).toArray = ls at hl ⊢
  have hl : lv_has ls 4 [(0, .ref (ad 222)), (1, .int (3)), (2, .int (en))] := hl
  have hZ9 := hT.2.1
  have hbd9 := hRX.1.1.1
  obtain ⟨ft1, h9_2⟩ := hRX.2.1
  have h1_3 : mem 1 = .inr (0, [.ref (ad 2), .int (nI Z)]) := (hRX.1.2.2 1 (by omega)).trans hT.1
  have h2_4 : mem 2 = .inl (cy 0, 240, .inl f) := (hRX.1.2.2 2 (by omega)).trans hT.2.2
  have h5_5 := hRX.1.1.2.1
  have hbd11 := hRX.1.1.1
  obtain ⟨S6, g7, hS_8, h220_9, h221_10⟩ := hRX.1.1.2.2.2.2.2.2
  refine lv_aload_n Bx.1 Bx.2.1 d_Rd_readBracket_0 rfl (lv_at hl 0 rfl) ?_
  refine lv_iload_n Bx.1 Bx.2.1 d_Rd_readBracket_1 rfl (lv_at hl 1 rfl) ?_
  refine lv_bipush (v := 6) Bx.1 Bx.2.1 d_Rd_readBracket_2 (by decide) ?_
  refine lv_icmp_ge Bx.1 Bx.2.1 d_Rd_readBracket_4 rfl (fun hb12 => ?_) (fun hb12 => ?_)
  · exact absurd hb12 (by decide)
  · refine lv_iconst (v := 1) Bx.1 Bx.2.1 d_Rd_readBracket_7 (by decide) ?_
    refine lv_goto Bx.1 Bx.2.1 d_Rd_readBracket_8 rfl ?_
    refine lv_aload_n Bx.1 Bx.2.1 d_Rd_readBracket_12 rfl (lv_at hl 0 rfl) ?_
    refine f_get Bx hP (by omega) h9_2 rfl inRd 2 (by decide) kw_146 rfl rfl d_Rd_readBracket_13 ?_
    refine f_xVv (na := 2) (As := [.int (1), .int (nI a)]) (rest := []) Bx hml E hP hD hS (by omega) h9_2 rfl (m_Rd_needRoomX l hlt hn hT hf hRX (by omega)) kw_383 kw_385 sel_Rd_needRoom kw_6 kw_386 (by decide +kernel) ⟨rfl, rfl⟩ ⟨Nat.le_of_ble_eq_true rfl, Nat.le_of_ble_eq_true rfl⟩ rfl hl.1 (Nat.le_of_ble_eq_true rfl) d_Rd_readBracket_16 ⟨Nat.le_of_ble_eq_true rfl, Nat.le_of_ble_eq_true rfl⟩ (fun X ce q9 memx H locs hx9 hP hS g1 g2 g3 => f_out hlocks hno hP hS g1 g2 g3 ⟨Nat.le_of_ble_eq_true rfl, Nat.le_of_ble_eq_true rfl⟩ ⟨hx9.1, absurd hx9.2 (by decide)⟩) (fun mem14 H locs hq hP hS => ?_)
    have hD : va_D (Az sz) (fw n ad mem14) := fw_D hD
    obtain ⟨hqe, hg15⟩ := hq
    rw [hqe] at hP hD
    refine lv_aload_n Bx.1 Bx.2.1 d_Rd_readBracket_19 rfl (lv_at hl 0 rfl) ?_
    refine lv_dup Bx.1 Bx.2.1 d_Rd_readBracket_20 rfl ?_
    refine f_get Bx hP (by omega) h9_2 rfl inRd 2 (by decide) kw_146 rfl rfl d_Rd_readBracket_21 ?_
    refine lv_iconst (v := 1) Bx.1 Bx.2.1 d_Rd_readBracket_24 (by decide) ?_
    refine lv_iadd Bx.1 Bx.2.1 d_Rd_readBracket_25 ?_
    rw [show nI a + 1 = nI (a + 1) from nI_add (a) (1)]
    refine f_put Bx hP hD hS (by omega) h9_2 rfl inRd tyRd okRd nmRd 2 (by decide) kw_146 rfl rfl rfl rfl (Nat.le_of_ble_eq_true rfl) d_Rd_readBracket_26 (fun H locs hP hS => ?_)
    obtain ⟨mem16, e_mem16⟩ : ∃ z, z = va_up mem (222) (.inr (4, [.ref (ad 1), .ref (ad 5), .int (nI (a + 1)), .int (ft1)])) := ⟨_, rfl⟩
    have hP : va_P D vcl (fw n ad mem16) H := by rw [e_mem16]; exact hP
    have hD : va_D (Az sz) (fw n ad mem16) := fw_D hD
    have h_mem16 : mem16 (222) = .inr (4, [.ref (ad 1), .ref (ad 5), .int (nI (a + 1)), .int (ft1)]) := by rw [e_mem16, va_up_self]
    have hh17 := (va_up_ne mem (.inr (4, [.ref (ad 1), .ref (ad 5), .int (nI (a + 1)), .int (ft1)])) (show (1 : Nat) ≠ 222 by first | decide | assumption | omega)).trans h1_3
    rw [← e_mem16] at hh17
    have hh18 := (va_up_ne mem (.inr (4, [.ref (ad 1), .ref (ad 5), .int (nI (a + 1)), .int (ft1)])) (show (5 : Nat) ≠ 222 by first | decide | assumption | omega)).trans h5_5
    rw [← e_mem16] at hh18
    have hh19 := (va_up_ne mem (.inr (4, [.ref (ad 1), .ref (ad 5), .int (nI (a + 1)), .int (ft1)])) (show (220 : Nat) ≠ 222 by first | decide | assumption | omega)).trans h220_9
    rw [← e_mem16] at hh19
    have hRX20 : RX cy ad lim (a + 1) (R) (Ec) (to) (nm) m0 mem16 := by rw [e_mem16]; exact hRX.at
    refine lv_aload_n Bx.1 Bx.2.1 d_Rd_readBracket_29 rfl (lv_at hl 0 rfl) ?_
    refine f_callVi (na := 0) (As := []) (rest := []) Bx hml E hP hD hS (by omega) h_mem16 rfl (m_Rd_readGapX l hn hT hf hRX20 (by omega) (by omega)) kw_397 kw_399 sel_Rd_readGap kw_6 kw_400 (by decide +kernel) ⟨rfl, rfl⟩ ⟨Nat.le_of_ble_eq_true rfl, Nat.le_of_ble_eq_true rfl⟩ rfl hl.1 (Nat.le_of_ble_eq_true rfl) d_Rd_readBracket_30 ⟨Nat.le_of_ble_eq_true rfl, Nat.le_of_ble_eq_true rfl⟩ (fun r21 mem22 H locs hq hP hS => ?_)
    have hD : va_D (Az sz) (fw n ad mem22) := fw_D hD
    obtain ⟨g23, eg24⟩ : ∃ z, z = gapF T Z (a + 1) := ⟨_, rfl⟩
    rw [← eg24] at hq
    obtain ⟨hRX25, hgc26⟩ := hq
    have hg27 : a + 1 ≤ g23 := by rw [eg24]; exact gapF_ge T Z _
    have hg28 : g23 ≤ Z := by rw [eg24]; exact gapF_le T (by omega)
    obtain ⟨ft29, h9_30⟩ := hRX25.2.1
    have h1_31 : mem22 1 = .inr (0, [.ref (ad 2), .int (nI Z)]) := (hRX25.1.2.2 1 (by omega)).trans hT.1
    have h2_32 : mem22 2 = .inl (cy 0, 240, .inl f) := (hRX25.1.2.2 2 (by omega)).trans hT.2.2
    have h5_33 := hRX25.1.1.2.1
    have hbd39 := hRX25.1.1.1
    obtain ⟨S34, g35, hS_36, h220_37, h221_38⟩ := hRX25.1.1.2.2.2.2.2.2
    refine lv_pop Bx.1 Bx.2.1 d_Rd_readBracket_33 rfl ?_
    refine lv_aload_n Bx.1 Bx.2.1 d_Rd_readBracket_34 rfl (lv_at hl 0 rfl) ?_
    refine lv_iload_n Bx.1 Bx.2.1 d_Rd_readBracket_35 rfl (lv_at hl 1 rfl) ?_
    refine lv_iconst (v := 1) Bx.1 Bx.2.1 d_Rd_readBracket_36 (by decide) ?_
    refine lv_iadd Bx.1 Bx.2.1 d_Rd_readBracket_37 ?_
    rw [show (3 + 1 : Int32) = 4 from rfl]
    refine f_xVr (na := 1) (As := [.int (4)]) (rest := []) Bx hml E hP hD hS (by omega) h9_30 rfl (m_Rd_readAlternatives_4X l hlt hn hT hf hRX25 (by omega) (u := u) (A := entA A 4 Ec what oe) (by omega)) kw_405 kw_407 sel_Rd_readAlternatives kw_6 kw_408 (by decide +kernel) ⟨rfl, rfl⟩ ⟨Nat.le_of_ble_eq_true rfl, Nat.le_of_ble_eq_true rfl⟩ rfl hl.1 (Nat.le_of_ble_eq_true rfl) d_Rd_readBracket_38 ⟨Nat.le_of_ble_eq_true rfl, Nat.le_of_ble_eq_true rfl⟩ (fun X ce q9 memx H locs hx9 hP hS g1 g2 g3 => f_out hlocks hno hP hS g1 g2 g3 ⟨Nat.le_of_ble_eq_true rfl, Nat.le_of_ble_eq_true rfl⟩ ⟨hx9.1, hx9.2.elim (fun z => Or.inl (entS_no (Or.inl (by rw [← eg24]; exact z)))) (fun z => z.elim (fun z => Or.inl (entS_no (Or.inr z))) (fun z => Fai.br0 (by rw [ent_ok (by rw [← eg24]; exact z.1) z.2.1, ← eg24]) z.2.2))⟩) (fun r40 mem41 H locs hq hP hS => ?_)
    have hD : va_D (Az sz) (fw n ad mem41) := fw_D hD
    obtain ⟨kx42, a43, R44, E45, A46, nn47, to48, hr949, hb50, hb51, hb52, hb53, hb54, htk55, hRX56, hsc57, hbg58, hE59, h4760, hnb61⟩ := hq
    subst hr949
    obtain ⟨g62, eg63⟩ : ∃ z, z = gapF T Z a43 := ⟨_, rfl⟩
    have hg64 : a43 ≤ g62 := by rw [eg63]; exact gapF_ge T Z _
    have hg65 : g62 ≤ Z := by rw [eg63]; exact gapF_le T (by omega)
    rw [← eg63] at hRX56
    obtain ⟨ft66, h9_67⟩ := hRX56.2.1
    have h1_68 : mem41 1 = .inr (0, [.ref (ad 2), .int (nI Z)]) := (hRX56.1.2.2 1 (by omega)).trans hT.1
    have h2_69 : mem41 2 = .inl (cy 0, 240, .inl f) := (hRX56.1.2.2 2 (by omega)).trans hT.2.2
    have h5_70 := hRX56.1.1.2.1
    have hbd76 := hRX56.1.1.1
    obtain ⟨S71, g72, hS_73, h220_74, h221_75⟩ := hRX56.1.1.2.2.2.2.2.2
    obtain ⟨k77, lo78, hi79, as80, pa81, ne82, he_83, ho_84⟩ := (hRX56.1.1.2.2.2.2.2.1 kx42 (by omega)).1
    have hbd85 := hRX56.1.1.1
    have hent : entS T Z (a + 1) u R Ec 4 A nm what oe = some (g23, u, R, Ec + 1, 4, entA A 4 Ec what oe, nm, true) := by rw [ent_ok (by rw [← eg24]; exact hbg58) hE59, ← eg24]
    have hA5 : A46 235 4 = what := by
      obtain ⟨c1, u1, ho, hg, hk, hs⟩ := hsc57
      rw [hk 4 (by omega), entA_5, upd_self]
    refine lv_astore_n (lv' := [(3, .ref (ad (20 + 2 * kx42))), (0, .ref (ad 222)), (1, .int (3)), (2, .int (en))]) Bx.1 Bx.2.1 d_Rd_readBracket_41 rfl hl (by decide) rfl (fun ls hl => ?_)
    refine lv_aload_n Bx.1 Bx.2.1 d_Rd_readBracket_42 rfl (lv_at hl 1 rfl) ?_
    refine lv_aload_n Bx.1 Bx.2.1 d_Rd_readBracket_43 rfl (lv_at hl 1 rfl) ?_
    refine f_callVi (na := 0) (As := []) (rest := [.ref (ad 222)]) Bx hml E hP hD hS (by omega) h9_67 rfl (m_Rd_peekX l hn hT hf hRX56 (by omega)) kw_353 kw_355 sel_Rd_peek kw_6 kw_356 (by decide +kernel) ⟨rfl, rfl⟩ ⟨Nat.le_of_ble_eq_true rfl, Nat.le_of_ble_eq_true rfl⟩ rfl hl.1 (Nat.le_of_ble_eq_true rfl) d_Rd_readBracket_44 ⟨Nat.le_of_ble_eq_true rfl, Nat.le_of_ble_eq_true rfl⟩ (fun r87 mem88 H locs hq hP hS => ?_)
    have hD : va_D (Az sz) (fw n ad mem88) := fw_D hD
    obtain ⟨hqe, hpk86⟩ := hq
    rw [hqe] at hP hD
    subst hpk86
    refine lv_iload_n Bx.1 Bx.2.1 d_Rd_readBracket_47 rfl (lv_at hl 3 rfl) ?_
    refine lv_icmp_ne Bx.1 Bx.2.1 d_Rd_readBracket_48 rfl (fun hb90 => ?_) (fun hb90 => ?_)
    · refine lv_iconst (v := 0) Bx.1 Bx.2.1 d_Rd_readBracket_55 (by decide) ?_
      refine lv_aload_n Bx.1 Bx.2.1 d_Rd_readBracket_56 rfl (lv_at hl 1 rfl) ?_
      refine f_get Bx hP (by omega) h9_67 rfl inRd 2 (by decide) kw_146 rfl rfl d_Rd_readBracket_57 ?_
      refine f_xVv (na := 2) (As := [.int (0), .int (nI g62)]) (rest := []) Bx hml E hP hD hS (by omega) h9_67 rfl (m_Rd_needReadableX l hlt hn hT hf hRX56 (by omega)) kw_360 kw_362 sel_Rd_needReadable kw_6 kw_363 (by decide +kernel) ⟨rfl, rfl⟩ ⟨Nat.le_of_ble_eq_true rfl, Nat.le_of_ble_eq_true rfl⟩ rfl hl.1 (Nat.le_of_ble_eq_true rfl) d_Rd_readBracket_60 ⟨Nat.le_of_ble_eq_true rfl, Nat.le_of_ble_eq_true rfl⟩ (fun X ce q9 memx H locs hx9 hP hS g1 g2 g3 => f_out hlocks hno hP hS g1 g2 g3 ⟨Nat.le_of_ble_eq_true rfl, Nat.le_of_ble_eq_true rfl⟩ ⟨hx9.1, Fai.br1 hent hsc57 (br_no hwe hA5 (by rw [← eg63]; exact hb90) h4760 hnb61)⟩) (fun mem92 H locs hq hP hS => ?_)
      have hD : va_D (Az sz) (fw n ad mem92) := fw_D hD
      obtain ⟨hqe, hg93⟩ := hq
      rw [hqe] at hP hD
      exact absurd rfl hg93
    · refine lv_iconst (v := 1) Bx.1 Bx.2.1 d_Rd_readBracket_51 (by decide) ?_
      refine lv_goto Bx.1 Bx.2.1 d_Rd_readBracket_52 rfl ?_
      refine lv_aload_n Bx.1 Bx.2.1 d_Rd_readBracket_56 rfl (lv_at hl 1 rfl) ?_
      refine f_get Bx hP (by omega) h9_67 rfl inRd 2 (by decide) kw_146 rfl rfl d_Rd_readBracket_57 ?_
      refine f_xVv (na := 2) (As := [.int (1), .int (nI g62)]) (rest := []) Bx hml E hP hD hS (by omega) h9_67 rfl (m_Rd_needReadableX l hlt hn hT hf hRX56 (by omega)) kw_360 kw_362 sel_Rd_needReadable kw_6 kw_363 (by decide +kernel) ⟨rfl, rfl⟩ ⟨Nat.le_of_ble_eq_true rfl, Nat.le_of_ble_eq_true rfl⟩ rfl hl.1 (Nat.le_of_ble_eq_true rfl) d_Rd_readBracket_60 ⟨Nat.le_of_ble_eq_true rfl, Nat.le_of_ble_eq_true rfl⟩ (fun X ce q9 memx H locs hx9 hP hS g1 g2 g3 => f_out hlocks hno hP hS g1 g2 g3 ⟨Nat.le_of_ble_eq_true rfl, Nat.le_of_ble_eq_true rfl⟩ ⟨hx9.1, absurd hx9.2 (by decide)⟩) (fun mem95 H locs hq hP hS => ?_)
      have hD : va_D (Az sz) (fw n ad mem95) := fw_D hD
      obtain ⟨hqe, hg96⟩ := hq
      rw [hqe] at hP hD
      refine lv_aload_n Bx.1 Bx.2.1 d_Rd_readBracket_63 rfl (lv_at hl 1 rfl) ?_
      refine lv_dup Bx.1 Bx.2.1 d_Rd_readBracket_64 rfl ?_
      refine f_get Bx hP (by omega) h9_67 rfl inRd 2 (by decide) kw_146 rfl rfl d_Rd_readBracket_65 ?_
      refine lv_iconst (v := 1) Bx.1 Bx.2.1 d_Rd_readBracket_68 (by decide) ?_
      refine lv_iadd Bx.1 Bx.2.1 d_Rd_readBracket_69 ?_
      rw [show nI g62 + 1 = nI (g62 + 1) from nI_add (g62) (1)]
      refine f_put Bx hP hD hS (by omega) h9_67 rfl inRd tyRd okRd nmRd 2 (by decide) kw_146 rfl rfl rfl rfl (Nat.le_of_ble_eq_true rfl) d_Rd_readBracket_70 (fun H locs hP hS => ?_)
      obtain ⟨mem97, e_mem97⟩ : ∃ z, z = va_up mem41 (222) (.inr (4, [.ref (ad 1), .ref (ad 5), .int (nI (g62 + 1)), .int (ft66)])) := ⟨_, rfl⟩
      have hP : va_P D vcl (fw n ad mem97) H := by rw [e_mem97]; exact hP
      have hD : va_D (Az sz) (fw n ad mem97) := fw_D hD
      have h_mem97 : mem97 (222) = .inr (4, [.ref (ad 1), .ref (ad 5), .int (nI (g62 + 1)), .int (ft66)]) := by rw [e_mem97, va_up_self]
      have hh98 := (va_up_ne mem41 (.inr (4, [.ref (ad 1), .ref (ad 5), .int (nI (g62 + 1)), .int (ft66)])) (show (1 : Nat) ≠ 222 by first | decide | assumption | omega)).trans h1_68
      rw [← e_mem97] at hh98
      have hh99 := (va_up_ne mem41 (.inr (4, [.ref (ad 1), .ref (ad 5), .int (nI (g62 + 1)), .int (ft66)])) (show (5 : Nat) ≠ 222 by first | decide | assumption | omega)).trans h5_70
      rw [← e_mem97] at hh99
      have hh100 := (va_up_ne mem41 (.inr (4, [.ref (ad 1), .ref (ad 5), .int (nI (g62 + 1)), .int (ft66)])) (show (220 : Nat) ≠ 222 by first | decide | assumption | omega)).trans h220_74
      rw [← e_mem97] at hh100
      have hh101 := (va_up_ne mem41 (.inr (4, [.ref (ad 1), .ref (ad 5), .int (nI (g62 + 1)), .int (ft66)])) (show ((20 + 2 * kx42) : Nat) ≠ 222 by first | decide | assumption | omega)).trans he_83
      rw [← e_mem97] at hh101
      have hRX102 : RX cy ad lim (g62 + 1) (R44) (E45) (to48) (nn47) m0 mem97 := by rw [e_mem97]; exact hRX56.at
      refine lv_aload_n Bx.1 Bx.2.1 d_Rd_readBracket_73 rfl (lv_at hl 0 rfl) ?_
      obtain ⟨A29, hsuc9⟩ := Suc.br hent hsc57 (br_pop hwe hA5 (by rw [← eg63]; exact hb90)) (K := A 235) (fun i hi => by rw [entA_5]; exact upd_ne (by omega)) entA_7
      exact x_aret hx hb hlocks hr (⟨kx42, gapF T Z a43 + 1, R44, E45, A29, nn47, to48, rfl, by omega, by omega, by omega, by rw [← eg63]; omega, by rw [← eg63]; have := br_lt hwe hb90; omega, htk55, by rw [← eg63]; exact hRX102, hsuc9⟩) hP hS d_Rd_readBracket_74
set_option maxHeartbeats 4000000 in
set_option maxRecDepth 100000 in
theorem m_Rd_readOption_3X (l : Launch) {D : va_G} {cy : Nat → ClassId} {sz n : Nat} {ad : Nat → Nat} {mem : Nat → va_E} {Z a R Ec lim : Nat} {f T : Nat → Int32} {to : Nat → Int32} {nm : Nat → Int64} {m0 : Nat → va_E} {u : Nat} {A : Ro} (hlt : l.stackTraces = false) (hn : 224 ≤ n) (hT : TX cy ad Z f m0) (hf : ∀ k, k < Z → f k = T k) (hRX : RX cy ad lim a R Ec to nm m0 mem) (haB : a ≤ 300) (haZ : a < Z) : NXr l D cy sz n ad y_Rd_readOption c_Rd_readOption 3 (some (.object "AbnfChart$Element")) ({ frames := 33, cells := 1, slots := 6, locals := 793 } : Room) mem [.ref (ad 222), .int (3)] (fun r mem' => Ec < 100 ∧ ∃ (k' a' R' E' : Nat) (A' : Ro) (nm' : Nat → Int64) (to' : Nat → Int32), r = ad (20 + 2 * k') ∧ Ec ≤ k' ∧ k' < E' ∧ R ≤ R' ∧ a < a' ∧ a' ≤ Z ∧ TOK R R' to to' ∧ RX cy ad lim a' R' E' to' nm' m0 mem' ∧ Suc T Z (entS T Z (a + 1) u R (Ec + 1) 4 (elA A Ec 3) nm 2 (nI Ec)) 3 R (A 235) (A 227) a' R' E' A' nm') (fun X mem' => ((X = cIA ∨ X = cIS) ∧ ∃ rc' ec' : Nat, RS cy ad lim rc' ec' m0 mem') ∧ (Ec = 100 ∨ Fai T Z (entS T Z (a + 1) u R (Ec + 1) 4 (elA A Ec 3) nm 2 (nI Ec)))) := by
  refine vx_ofW (cc := c_Rd_readOption) (maxL := 3) (ret := (some (.object "AbnfChart$Element"))) (by decide) rfl ?_
  intro p e s m args below meth c s₁ B hml hno hv
  obtain ⟨rfl, E, hP, hD⟩ := hv
  have hx := B.exec
  have hb := B.bytes
  have hr := B.returns
  have hlocks := B.notSynchronized
  have Bx : MB p s m [.ref (ad 222), .int (3)].toArray c c_Rd_readOption "AbnfChart$Reader" D cy := ⟨hx, hb, tb_all (atoms_spec B.pre) E.2.1, findClass_of_methodNamed B.named, E.1⟩
  have hS : va_S (Az sz) s.heap s.heap [] := va_S.rf
  have hl := lv_entry ([.ref (ad 222), .int (3)]) (n := 3) (Nat.le_of_ble_eq_true rfl)
  rw [lg_entry_eq]
  generalize (lg_sl ([.ref (ad 222), .int (3)]) ++ List.replicate (3 - (lg_sl ([.ref (ad 222), .int (3)])).length) Slot.unset).toArray = ls at hl ⊢
  have hl : lv_has ls 3 [(0, .ref (ad 222)), (1, .int (3))] := hl
  have hZ9 := hT.2.1
  have hbd9 := hRX.1.1.1
  obtain ⟨ft1, h9_2⟩ := hRX.2.1
  have h1_3 : mem 1 = .inr (0, [.ref (ad 2), .int (nI Z)]) := (hRX.1.2.2 1 (by omega)).trans hT.1
  have h2_4 : mem 2 = .inl (cy 0, 240, .inl f) := (hRX.1.2.2 2 (by omega)).trans hT.2.2
  have h5_5 := hRX.1.1.2.1
  have hbd11 := hRX.1.1.1
  obtain ⟨S6, g7, hS_8, h220_9, h221_10⟩ := hRX.1.1.2.2.2.2.2.2
  refine lv_aload_n Bx.1 Bx.2.1 d_Rd_readOption_0 rfl (lv_at hl 0 rfl) ?_
  refine lv_iconst (v := 3) Bx.1 Bx.2.1 d_Rd_readOption_1 (by decide) ?_
  refine lv_aload_n Bx.1 Bx.2.1 d_Rd_readOption_2 rfl (lv_at hl 0 rfl) ?_
  refine f_get Bx hP (by omega) h9_2 rfl inRd 2 (by decide) kw_146 rfl rfl d_Rd_readOption_3 ?_
  refine f_xVr (na := 2) (As := [.int (3), .int (nI a)]) (rest := []) Bx hml E hP hD hS (by omega) h9_2 rfl (m_Rd_addElementX l hlt hn hT hf hRX (by omega)) kw_419 kw_421 sel_Rd_addElement kw_6 kw_422 (by decide +kernel) ⟨rfl, rfl⟩ ⟨Nat.le_of_ble_eq_true rfl, Nat.le_of_ble_eq_true rfl⟩ rfl hl.1 (Nat.le_of_ble_eq_true rfl) d_Rd_readOption_6 ⟨Nat.le_of_ble_eq_true rfl, Nat.le_of_ble_eq_true rfl⟩ (fun X ce q9 memx H locs hx9 hP hS g1 g2 g3 => f_out hlocks hno hP hS g1 g2 g3 ⟨Nat.le_of_ble_eq_true rfl, Nat.le_of_ble_eq_true rfl⟩ ⟨hx9.1, Or.inl hx9.2⟩) (fun r12 mem13 H locs hq hP hS => ?_)
  have hD : va_D (Az sz) (fw n ad mem13) := fw_D hD
  obtain ⟨hr916, hec15, hRX14⟩ := hq
  subst hr916
  obtain ⟨ft17, h9_18⟩ := hRX14.2.1
  have h1_19 : mem13 1 = .inr (0, [.ref (ad 2), .int (nI Z)]) := (hRX14.1.2.2 1 (by omega)).trans hT.1
  have h2_20 : mem13 2 = .inl (cy 0, 240, .inl f) := (hRX14.1.2.2 2 (by omega)).trans hT.2.2
  have h5_21 := hRX14.1.1.2.1
  have hbd27 := hRX14.1.1.1
  obtain ⟨S22, g23, hS_24, h220_25, h221_26⟩ := hRX14.1.1.2.2.2.2.2.2
  obtain ⟨k28, lo29, hi30, as31, pa32, ne33, he_34, ho_35⟩ := (hRX14.1.1.2.2.2.2.2.1 Ec (by omega)).1
  refine lv_astore_n (lv' := [(2, .ref (ad (20 + 2 * Ec))), (0, .ref (ad 222)), (1, .int (3))]) Bx.1 Bx.2.1 d_Rd_readOption_9 rfl hl (by decide) rfl (fun ls hl => ?_)
  refine lv_aload_n Bx.1 Bx.2.1 d_Rd_readOption_10 rfl (lv_at hl 0 rfl) ?_
  refine lv_aload_n Bx.1 Bx.2.1 d_Rd_readOption_11 rfl (lv_at hl 1 rfl) ?_
  refine lv_iload_n Bx.1 Bx.2.1 d_Rd_readOption_12 rfl (lv_at hl 2 rfl) ?_
  refine lv_bipush (v := 93) Bx.1 Bx.2.1 d_Rd_readOption_13 (by decide) ?_
  refine f_xVr (na := 2) (As := [.int (3), .int (93)]) (rest := [.ref (ad (20 + 2 * Ec))]) Bx hml E hP hD hS (by omega) h9_18 rfl (m_Rd_readBracket_3X l hlt hn hT hf hRX14 (by omega) (u := u) (A := elA A Ec 3) (by omega) (Or.inr ⟨rfl, rfl⟩)) kw_447 kw_449 sel_Rd_readBracket kw_6 kw_450 (by decide +kernel) ⟨rfl, rfl⟩ ⟨Nat.le_of_ble_eq_true rfl, Nat.le_of_ble_eq_true rfl⟩ rfl hl.1 (Nat.le_of_ble_eq_true rfl) d_Rd_readOption_15 ⟨Nat.le_of_ble_eq_true rfl, Nat.le_of_ble_eq_true rfl⟩ (fun X ce q9 memx H locs hx9 hP hS g1 g2 g3 => f_out hlocks hno hP hS g1 g2 g3 ⟨Nat.le_of_ble_eq_true rfl, Nat.le_of_ble_eq_true rfl⟩ ⟨hx9.1, Or.inr hx9.2⟩) (fun r36 mem37 H locs hq hP hS => ?_)
  have hD : va_D (Az sz) (fw n ad mem37) := fw_D hD
  obtain ⟨kx38, a39, R40, E41, A42, nn43, to44, hr945, hb46, hb47, hb48, hb49, hb50, htk51, hRX52, hsc53⟩ := hq
  subst hr945
  obtain ⟨ft54, h9_55⟩ := hRX52.2.1
  have h1_56 : mem37 1 = .inr (0, [.ref (ad 2), .int (nI Z)]) := (hRX52.1.2.2 1 (by omega)).trans hT.1
  have h2_57 : mem37 2 = .inl (cy 0, 240, .inl f) := (hRX52.1.2.2 2 (by omega)).trans hT.2.2
  have h5_58 := hRX52.1.1.2.1
  have hbd64 := hRX52.1.1.1
  obtain ⟨S59, g60, hS_61, h220_62, h221_63⟩ := hRX52.1.1.2.2.2.2.2.2
  obtain ⟨k65, lo66, hi67, as68, pa69, ne70, he_71, ho_72⟩ := (hRX52.1.1.2.2.2.2.2.1 Ec (by omega)).1
  obtain ⟨k73, lo74, hi75, as76, pa77, ne78, he_79, ho_80⟩ := (hRX52.1.1.2.2.2.2.2.1 kx38 (by omega)).1
  have hbd81 := hRX52.1.1.1
  refine f_putN Bx hP hD hS (by omega) he_71 rfl inEl tyEl okEl nmEl 4 (by decide) kw_87 rfl rfl rfl rfl (Nat.le_of_ble_eq_true rfl) d_Rd_readOption_18 (fun H locs hP hS => ?_)
  obtain ⟨mem82, e_mem82⟩ : ∃ z, z = va_up mem37 ((20 + 2 * Ec)) (.inr (2, [.int (k65), .int (lo66), .int (hi67), as68, .ref (ad (20 + 2 * kx38)), ne70, .ref (ad (21 + 2 * Ec))])) := ⟨_, rfl⟩
  have hP : va_P D vcl (fw n ad mem82) H := by rw [e_mem82]; exact hP
  have hD : va_D (Az sz) (fw n ad mem82) := fw_D hD
  have h_mem82 : mem82 ((20 + 2 * Ec)) = .inr (2, [.int (k65), .int (lo66), .int (hi67), as68, .ref (ad (20 + 2 * kx38)), ne70, .ref (ad (21 + 2 * Ec))]) := by rw [e_mem82, va_up_self]
  have hh83 := (va_up_ne mem37 (.inr (2, [.int (k65), .int (lo66), .int (hi67), as68, .ref (ad (20 + 2 * kx38)), ne70, .ref (ad (21 + 2 * Ec))])) (show (222 : Nat) ≠ (20 + 2 * Ec) by first | decide | assumption | omega)).trans h9_55
  rw [← e_mem82] at hh83
  have hh84 := (va_up_ne mem37 (.inr (2, [.int (k65), .int (lo66), .int (hi67), as68, .ref (ad (20 + 2 * kx38)), ne70, .ref (ad (21 + 2 * Ec))])) (show (1 : Nat) ≠ (20 + 2 * Ec) by first | decide | assumption | omega)).trans h1_56
  rw [← e_mem82] at hh84
  have hh85 := (va_up_ne mem37 (.inr (2, [.int (k65), .int (lo66), .int (hi67), as68, .ref (ad (20 + 2 * kx38)), ne70, .ref (ad (21 + 2 * Ec))])) (show (5 : Nat) ≠ (20 + 2 * Ec) by first | decide | assumption | omega)).trans h5_58
  rw [← e_mem82] at hh85
  have hh86 := (va_up_ne mem37 (.inr (2, [.int (k65), .int (lo66), .int (hi67), as68, .ref (ad (20 + 2 * kx38)), ne70, .ref (ad (21 + 2 * Ec))])) (show (220 : Nat) ≠ (20 + 2 * Ec) by first | decide | assumption | omega)).trans h220_62
  rw [← e_mem82] at hh86
  have hh87 := (va_up_ne mem37 (.inr (2, [.int (k65), .int (lo66), .int (hi67), as68, .ref (ad (20 + 2 * kx38)), ne70, .ref (ad (21 + 2 * Ec))])) (show ((20 + 2 * kx38) : Nat) ≠ (20 + 2 * Ec) by first | decide | assumption | omega)).trans he_79
  rw [← e_mem82] at hh87
  have hRX88 : RX cy ad lim (a39) (R40) (E41) (to44) (nn43) m0 mem82 := by rw [e_mem82]; exact hRX52.el (by omega) (hRX52.1.mk (by omega) (hRX52.1.1.upEl (by omega) (fun q9 => ⟨(ho_72 q9).1, Or.inr ⟨kx38, by omega, by omega, rfl⟩, (ho_72 q9).2.2⟩)))
  refine lv_aload_n Bx.1 Bx.2.1 d_Rd_readOption_21 rfl (lv_at hl 0 rfl) ?_
  exact x_aret hx hb hlocks hr (⟨hec15, ⟨Ec, a39, R40, E41, _, nn43, to44, rfl, by omega, by omega, by omega, by omega, by omega, htk51, hRX88, hsc53.eq rfl (elA_ne (by decide)) (elA_ne (by decide))⟩⟩) hP hS d_Rd_readOption_22
set_option maxHeartbeats 4000000 in
set_option maxRecDepth 100000 in
theorem m_Rd_readElement_3X (l : Launch) {D : va_G} {cy : Nat → ClassId} {sz n : Nat} {ad : Nat → Nat} {mem : Nat → va_E} {Z a R Ec lim : Nat} {f T : Nat → Int32} {to : Nat → Int32} {nm : Nat → Int64} {m0 : Nat → va_E} {u : Nat} {A : Ro} (hlt : l.stackTraces = false) (hn : 224 ≤ n) (hT : TX cy ad Z f m0) (hf : ∀ k, k < Z → f k = T k) (hRX : RX cy ad lim a R Ec to nm m0 mem) (haB : a ≤ 300) (haZ : a ≤ Z) : NXr l D cy sz n ad y_Rd_readElement c_Rd_readElement 2 (some (.object "AbnfChart$Element")) ({ frames := 34, cells := 1, slots := 6, locals := 816 } : Room) mem [.ref (ad 222), .int (3)] (fun r mem' => ∃ (k' a' R' E' : Nat) (A' : Ro) (nm' : Nat → Int64) (to' : Nat → Int32), r = ad (20 + 2 * k') ∧ Ec ≤ k' ∧ k' < E' ∧ R ≤ R' ∧ a < a' ∧ a' ≤ Z ∧ TOK R R' to to' ∧ RX cy ad lim a' R' E' to' nm' m0 mem' ∧ Suc T Z (singS T Z a u R Ec 3 A nm) 3 R (A 235) (A 227) a' R' E' A' nm' ∧ OKc (hereF Z T a)) (fun X mem' => ((X = cIA ∨ X = cIS) ∧ ∃ rc' ec' : Nat, RS cy ad lim rc' ec' m0 mem') ∧ (Fai T Z (singS T Z a u R Ec 3 A nm) ∨ ¬ OKc (hereF Z T a))) := by
  refine vx_ofW (cc := c_Rd_readElement) (maxL := 2) (ret := (some (.object "AbnfChart$Element"))) (by decide) rfl ?_
  intro p e s m args below meth c s₁ B hml hno hv
  obtain ⟨rfl, E, hP, hD⟩ := hv
  have hx := B.exec
  have hb := B.bytes
  have hr := B.returns
  have hlocks := B.notSynchronized
  have Bx : MB p s m [.ref (ad 222), .int (3)].toArray c c_Rd_readElement "AbnfChart$Reader" D cy := ⟨hx, hb, tb_all (atoms_spec B.pre) E.2.1, findClass_of_methodNamed B.named, E.1⟩
  have hS : va_S (Az sz) s.heap s.heap [] := va_S.rf
  have hl := lv_entry ([.ref (ad 222), .int (3)]) (n := 2) (Nat.le_of_ble_eq_true rfl)
  rw [lg_entry_eq]
  generalize (lg_sl ([.ref (ad 222), .int (3)]) ++ List.replicate (2 - (lg_sl ([.ref (ad 222), .int (3)])).length) Slot.unset).toArray = ls at hl ⊢
  have hl : lv_has ls 2 [(0, .ref (ad 222)), (1, .int (3))] := hl
  have hZ9 := hT.2.1
  have hbd9 := hRX.1.1.1
  obtain ⟨ft1, h9_2⟩ := hRX.2.1
  have h1_3 : mem 1 = .inr (0, [.ref (ad 2), .int (nI Z)]) := (hRX.1.2.2 1 (by omega)).trans hT.1
  have h2_4 : mem 2 = .inl (cy 0, 240, .inl f) := (hRX.1.2.2 2 (by omega)).trans hT.2.2
  have h5_5 := hRX.1.1.2.1
  have hbd11 := hRX.1.1.1
  obtain ⟨S6, g7, hS_8, h220_9, h221_10⟩ := hRX.1.1.2.2.2.2.2.2
  refine lv_aload_n Bx.1 Bx.2.1 d_Rd_readElement_0 rfl (lv_at hl 0 rfl) ?_
  refine f_callVi (na := 0) (As := []) (rest := []) Bx hml E hP hD hS (by omega) h9_2 rfl (m_Rd_peekX l hn hT hf hRX (by omega)) kw_353 kw_355 sel_Rd_peek kw_6 kw_356 (by decide +kernel) ⟨rfl, rfl⟩ ⟨Nat.le_of_ble_eq_true rfl, Nat.le_of_ble_eq_true rfl⟩ rfl hl.1 (Nat.le_of_ble_eq_true rfl) d_Rd_readElement_1 ⟨Nat.le_of_ble_eq_true rfl, Nat.le_of_ble_eq_true rfl⟩ (fun r13 mem14 H locs hq hP hS => ?_)
  have hD : va_D (Az sz) (fw n ad mem14) := fw_D hD
  obtain ⟨hqe, hpk12⟩ := hq
  rw [hqe] at hP hD
  subst hpk12
  refine lv_topi (fun v16 e_v16 => ?_)
  by_cases c34 : v16 = 34
  · rw [c34]
    refine lv_lookup (off := 58) (tgt := 62) Bx.1 Bx.2.1 d_Rd_readElement_4 (by decide) (by decide) rfl ?_
    rw [e_v16] at c34
    have hlt34 := hereF_lt (show hereF Z T (a) ≠ -1 by rw [c34]; decide)
    refine lv_aload_n Bx.1 Bx.2.1 d_Rd_readElement_62 rfl (lv_at hl 0 rfl) ?_
    refine lv_aload_n Bx.1 Bx.2.1 d_Rd_readElement_63 rfl (lv_at hl 0 rfl) ?_
    refine f_get Bx hP (by omega) h9_2 rfl inRd 2 (by decide) kw_146 rfl rfl d_Rd_readElement_64 ?_
    refine lv_iconst (v := 5) Bx.1 Bx.2.1 d_Rd_readElement_67 (by decide) ?_
    refine f_xVr (na := 2) (As := [.int (nI a), .int (5)]) (rest := []) Bx hml E hP hD hS (by omega) h9_2 rfl (m_Rd_readStringX l hlt hn hT hf hRX (by omega) (by omega)) kw_455 kw_457 sel_Rd_readString kw_6 kw_458 (by decide +kernel) ⟨rfl, rfl⟩ ⟨Nat.le_of_ble_eq_true rfl, Nat.le_of_ble_eq_true rfl⟩ rfl hl.1 (Nat.le_of_ble_eq_true rfl) d_Rd_readElement_68 ⟨Nat.le_of_ble_eq_true rfl, Nat.le_of_ble_eq_true rfl⟩ (fun X ce q9 memx H locs hx9 hP hS g1 g2 g3 => f_out hlocks hno hP hS g1 g2 g3 ⟨Nat.le_of_ble_eq_true rfl, Nat.le_of_ble_eq_true rfl⟩ ⟨hx9.1, Or.inl (fai_str c34 hx9.2 hbd9.2.1)⟩) (fun r17 mem18 H locs hq hP hS => ?_)
    have hD : va_D (Az sz) (fw n ad mem18) := fw_D hD
    obtain ⟨hE9, hq9, hr2, hle9, hRX2⟩ := hq
    subst hr2
    obtain ⟨A2, hsc2⟩ := suc_str (u := u) (R := R) (f := 3) (A := A) (nm := nm) c34 hE9 hq9
    exact x_aret hx hb hlocks hr (⟨Ec, _, R, Ec + 1, A2, nm, to, rfl, by omega, by omega, by omega, by omega, hle9, TOK.of rfl, hRX2, hsc2, (l34 c34).2.2.2⟩) hP hS d_Rd_readElement_71
  by_cases c37 : v16 = 37
  · rw [c37]
    refine lv_lookup (off := 68) (tgt := 72) Bx.1 Bx.2.1 d_Rd_readElement_4 (by decide) (by decide) rfl ?_
    rw [e_v16] at c37
    have hlt37 := hereF_lt (show hereF Z T (a) ≠ -1 by rw [c37]; decide)
    refine lv_aload_n Bx.1 Bx.2.1 d_Rd_readElement_72 rfl (lv_at hl 0 rfl) ?_
    refine f_get Bx hP (by omega) h9_2 rfl inRd 0 (by decide) kw_144 rfl rfl d_Rd_readElement_73 ?_
    refine lv_aload_n Bx.1 Bx.2.1 d_Rd_readElement_76 rfl (lv_at hl 0 rfl) ?_
    refine f_get Bx hP (by omega) h9_2 rfl inRd 2 (by decide) kw_146 rfl rfl d_Rd_readElement_77 ?_
    refine lv_iconst (v := 1) Bx.1 Bx.2.1 d_Rd_readElement_80 (by decide) ?_
    refine lv_iadd Bx.1 Bx.2.1 d_Rd_readElement_81 ?_
    rw [show nI a + 1 = nI (a + 1) from nI_add (a) (1)]
    refine f_callVi (na := 1) (As := [.int (nI (a + 1))]) (rest := []) Bx hml E hP hD hS (by omega) h1_3 rfl (m_Ch_codeAt l (by omega) h1_3 (by omega) h2_4 (by rw [nI_toInt (by omega)]; omega)) kw_341 kw_342 kw_343 kw_2 kw_344 (by decide +kernel) ⟨rfl, rfl⟩ ⟨Nat.le_of_ble_eq_true rfl, Nat.le_of_ble_eq_true rfl⟩ rfl hl.1 (Nat.le_of_ble_eq_true rfl) d_Rd_readElement_82 ⟨Nat.le_of_ble_eq_true rfl, Nat.le_of_ble_eq_true rfl⟩ (fun r19 mem20 H locs hq hP hS => ?_)
    have hD : va_D (Az sz) (fw n ad mem20) := fw_D hD
    obtain ⟨hco21, hqe⟩ := hq
    rw [hqe] at hP hD
    rw [code_here hf hT.2.1 (k := a + 1) (by omega)] at hco21
    subst hco21
    refine f_callSNi (na := 1) (As := [.int (hereF Z T (a + 1))]) (rest := []) Bx hml E.2.1 (m_Ab_smallOfX l (hereF Z T (a + 1))) kw_372 kw_373 kw_1 kw_374 (by decide +kernel) ⟨rfl, rfl⟩ ⟨Nat.le_of_ble_eq_true rfl, Nat.le_of_ble_eq_true rfl⟩ rfl hl.1 (Nat.le_of_ble_eq_true rfl) d_Rd_readElement_85 ⟨Nat.le_of_ble_eq_true rfl, Nat.le_of_ble_eq_true rfl⟩ (fun r23 hs22 => ?_)
    subst hs22
    refine lv_bipush (v := 115) Bx.1 Bx.2.1 d_Rd_readElement_88 (by decide) ?_
    refine lv_icmp_ne Bx.1 Bx.2.1 d_Rd_readElement_90 rfl (fun hb24 => ?_) (fun hb24 => ?_)
    · refine lv_aload_n Bx.1 Bx.2.1 d_Rd_readElement_100 rfl (lv_at hl 0 rfl) ?_
      refine f_xVr (na := 0) (As := []) (rest := []) Bx hml E hP hD hS (by omega) h9_2 rfl (m_Rd_readValueX l hlt hn hT hf hRX (by omega) (by omega)) kw_467 kw_469 sel_Rd_readValue kw_6 kw_470 (by decide +kernel) ⟨rfl, rfl⟩ ⟨Nat.le_of_ble_eq_true rfl, Nat.le_of_ble_eq_true rfl⟩ rfl hl.1 (Nat.le_of_ble_eq_true rfl) d_Rd_readElement_101 ⟨Nat.le_of_ble_eq_true rfl, Nat.le_of_ble_eq_true rfl⟩ (fun X ce q9 memx H locs hx9 hP hS g1 g2 g3 => f_out hlocks hno hP hS g1 g2 g3 ⟨Nat.le_of_ble_eq_true rfl, Nat.le_of_ble_eq_true rfl⟩ ⟨hx9.1, Or.inl (fai_val c37 hb24 hx9.2 hbd9.2.1)⟩) (fun r25 mem26 H locs hq hP hS => ?_)
      have hD : va_D (Az sz) (fw n ad mem26) := fw_D hD
      obtain ⟨hE9, ba, a2, hba, hp9, hr2, x1, x2, hRX2⟩ := hq
      subst hr2
      obtain ⟨A2, hsc2⟩ := suc_val (u := u) (R := R) (f := 3) (A := A) (nm := nm) c37 hba hE9 hp9
      exact x_aret hx hb hlocks hr (⟨Ec, a2, R, Ec + 1, A2, nm, to, rfl, by omega, by omega, by omega, x1, x2, TOK.of rfl, hRX2, hsc2, (l37 c37).2.2.2.2⟩) hP hS d_Rd_readElement_104
    · refine lv_aload_n Bx.1 Bx.2.1 d_Rd_readElement_93 rfl (lv_at hl 0 rfl) ?_
      refine f_xVr (na := 0) (As := []) (rest := []) Bx hml E hP hD hS (by omega) h9_2 rfl (m_Rd_readExactStringX l hlt hn hT hf hRX (by omega) (by omega)) kw_463 kw_465 sel_Rd_readExactString kw_6 kw_466 (by decide +kernel) ⟨rfl, rfl⟩ ⟨Nat.le_of_ble_eq_true rfl, Nat.le_of_ble_eq_true rfl⟩ rfl hl.1 (Nat.le_of_ble_eq_true rfl) d_Rd_readElement_94 ⟨Nat.le_of_ble_eq_true rfl, Nat.le_of_ble_eq_true rfl⟩ (fun X ce q9 memx H locs hx9 hP hS g1 g2 g3 => f_out hlocks hno hP hS g1 g2 g3 ⟨Nat.le_of_ble_eq_true rfl, Nat.le_of_ble_eq_true rfl⟩ ⟨hx9.1, Or.inl (fai_xst c37 hb24 hx9.2 hbd9.2.1)⟩) (fun r27 mem28 H locs hq hP hS => ?_)
      have hD : va_D (Az sz) (fw n ad mem28) := fw_D hD
      obtain ⟨hq8, hE9, hq9, hr2, hle9, hRX2⟩ := hq
      subst hr2
      obtain ⟨A2, hsc2⟩ := suc_xst (u := u) (R := R) (f := 3) (A := A) (nm := nm) c37 hb24 hq8 hE9 hq9
      refine lv_goto Bx.1 Bx.2.1 d_Rd_readElement_97 rfl ?_
      exact x_aret hx hb hlocks hr (⟨Ec, _, R, Ec + 1, A2, nm, to, rfl, by omega, by omega, by omega, by omega, hle9, TOK.of rfl, hRX2, hsc2, (l37 c37).2.2.2.2⟩) hP hS d_Rd_readElement_104
  by_cases c40 : v16 = 40
  · rw [c40]
    refine lv_lookup (off := 44) (tgt := 48) Bx.1 Bx.2.1 d_Rd_readElement_4 (by decide) (by decide) rfl ?_
    rw [e_v16] at c40
    have hlt40 := hereF_lt (show hereF Z T (a) ≠ -1 by rw [c40]; decide)
    refine lv_aload_n Bx.1 Bx.2.1 d_Rd_readElement_48 rfl (lv_at hl 0 rfl) ?_
    refine lv_iload_n Bx.1 Bx.2.1 d_Rd_readElement_49 rfl (lv_at hl 1 rfl) ?_
    refine lv_bipush (v := 41) Bx.1 Bx.2.1 d_Rd_readElement_50 (by decide) ?_
    refine f_xVr (na := 2) (As := [.int (3), .int (41)]) (rest := []) Bx hml E hP hD hS (by omega) h9_2 rfl (m_Rd_readBracket_3X l hlt hn hT hf hRX (by omega) (u := u) (A := A) (by omega) (Or.inl ⟨rfl, rfl⟩) (what := 1) (oe := -1)) kw_447 kw_449 sel_Rd_readBracket kw_6 kw_450 (by decide +kernel) ⟨rfl, rfl⟩ ⟨Nat.le_of_ble_eq_true rfl, Nat.le_of_ble_eq_true rfl⟩ rfl hl.1 (Nat.le_of_ble_eq_true rfl) d_Rd_readElement_52 ⟨Nat.le_of_ble_eq_true rfl, Nat.le_of_ble_eq_true rfl⟩ (fun X ce q9 memx H locs hx9 hP hS g1 g2 g3 => f_out hlocks hno hP hS g1 g2 g3 ⟨Nat.le_of_ble_eq_true rfl, Nat.le_of_ble_eq_true rfl⟩ ⟨hx9.1, Or.inl (hx9.2.eq (sing_br (l40 c40).1 c40 (by omega)))⟩) (fun r29 mem30 H locs hq hP hS => ?_)
    have hD : va_D (Az sz) (fw n ad mem30) := fw_D hD
    obtain ⟨kx31, a32, R33, E34, A35, nn36, to37, hr938, hb39, hb40, hb41, hb42, hb43, htk44, hRX45, hsc46⟩ := hq
    subst hr938
    obtain ⟨ft47, h9_48⟩ := hRX45.2.1
    have h1_49 : mem30 1 = .inr (0, [.ref (ad 2), .int (nI Z)]) := (hRX45.1.2.2 1 (by omega)).trans hT.1
    have h2_50 : mem30 2 = .inl (cy 0, 240, .inl f) := (hRX45.1.2.2 2 (by omega)).trans hT.2.2
    have h5_51 := hRX45.1.1.2.1
    have hbd57 := hRX45.1.1.1
    obtain ⟨S52, g53, hS_54, h220_55, h221_56⟩ := hRX45.1.1.2.2.2.2.2.2
    obtain ⟨k58, lo59, hi60, as61, pa62, ne63, he_64, ho_65⟩ := (hRX45.1.1.2.2.2.2.2.1 kx31 (by omega)).1
    have hbd66 := hRX45.1.1.1
    exact x_aret hx hb hlocks hr (⟨kx31, a32, R33, E34, _, nn36, to37, rfl, by omega, by omega, by omega, by omega, by omega, htk44, hRX45, hsc46.eq (sing_br (l40 c40).1 c40 (by omega)) rfl rfl, (l40 c40).2⟩) hP hS d_Rd_readElement_55
  by_cases c91 : v16 = 91
  · rw [c91]
    refine lv_lookup (off := 52) (tgt := 56) Bx.1 Bx.2.1 d_Rd_readElement_4 (by decide) (by decide) rfl ?_
    rw [e_v16] at c91
    have hlt91 := hereF_lt (show hereF Z T (a) ≠ -1 by rw [c91]; decide)
    refine lv_aload_n Bx.1 Bx.2.1 d_Rd_readElement_56 rfl (lv_at hl 0 rfl) ?_
    refine lv_iload_n Bx.1 Bx.2.1 d_Rd_readElement_57 rfl (lv_at hl 1 rfl) ?_
    refine f_xVr (na := 1) (As := [.int (3)]) (rest := []) Bx hml E hP hD hS (by omega) h9_2 rfl (m_Rd_readOption_3X l hlt hn hT hf hRX (by omega) (u := u) (A := A) (by omega)) kw_451 kw_453 sel_Rd_readOption kw_6 kw_454 (by decide +kernel) ⟨rfl, rfl⟩ ⟨Nat.le_of_ble_eq_true rfl, Nat.le_of_ble_eq_true rfl⟩ rfl hl.1 (Nat.le_of_ble_eq_true rfl) d_Rd_readElement_58 ⟨Nat.le_of_ble_eq_true rfl, Nat.le_of_ble_eq_true rfl⟩ (fun X ce q9 memx H locs hx9 hP hS g1 g2 g3 => f_out hlocks hno hP hS g1 g2 g3 ⟨Nat.le_of_ble_eq_true rfl, Nat.le_of_ble_eq_true rfl⟩ ⟨hx9.1, Or.inl (by
        by_cases q9 : Ec = 100
        · exact Or.inl (sing_o0 (l91 c91).1 c91 (Or.inr q9))
        · exact (hx9.2.resolve_left q9).eq (sing_op (l91 c91).1 c91 (by omega) (by omega)))⟩) (fun r67 mem68 H locs hq hP hS => ?_)
    have hD : va_D (Az sz) (fw n ad mem68) := fw_D hD
    obtain ⟨hE9, k2, a2, R2, E2, A2, n2, t2, hr2, x1, x2, x3, x4, x5, htk2, hRX2, hsc2⟩ := hq
    subst hr2
    exact x_aret hx hb hlocks hr (⟨k2, a2, R2, E2, A2, n2, t2, rfl, x1, x2, x3, x4, x5, htk2, hRX2, hsc2.eq (sing_op (l91 c91).1 c91 (by omega) hE9) rfl rfl, (l91 c91).2⟩) hP hS d_Rd_readElement_61
  refine lv_lookup (off := 101) (tgt := 105) Bx.1 Bx.2.1 d_Rd_readElement_4 (by decide) (by show Op.lookupswitch.offset [(34, 58), (37, 68), (40, 44), (91, 52)] 101 (v16).toInt = 101; rw [lv_osw c34 (by decide), lv_osw c37 (by decide), lv_osw c40 (by decide), lv_osw c91 (by decide)]; rfl) rfl ?_
  rw [e_v16] at c40 c91 c34 c37
  refine lv_aload_n Bx.1 Bx.2.1 d_Rd_readElement_105 rfl (lv_at hl 0 rfl) ?_
  refine f_xVr (na := 0) (As := []) (rest := []) Bx hml E hP hD hS (by omega) h9_2 rfl (m_Rd_readAskedNameX l hlt hn hT hf hRX (by omega) (A := A) (by omega)) kw_478 kw_480 sel_Rd_readAskedName kw_6 kw_481 (by decide +kernel) ⟨rfl, rfl⟩ ⟨Nat.le_of_ble_eq_true rfl, Nat.le_of_ble_eq_true rfl⟩ rfl hl.1 (Nat.le_of_ble_eq_true rfl) d_Rd_readElement_106 ⟨Nat.le_of_ble_eq_true rfl, Nat.le_of_ble_eq_true rfl⟩ (fun X ce q9 memx H locs hx9 hP hS g1 g2 g3 => f_out hlocks hno hP hS g1 g2 g3 ⟨Nat.le_of_ble_eq_true rfl, Nat.le_of_ble_eq_true rfl⟩ ⟨hx9.1, fai_nam c40 c91 c34 c37 hx9.2⟩) (fun r69 mem70 H locs hq hP hS => ?_)
  have hD : va_D (Az sz) (fw n ad mem70) := fw_D hD
  obtain ⟨i9, a2, R2, A3, n2, hsn, hle, hE9, hr2, x1, x2, x3, hA3, htk, t2, htk2, hRX2⟩ := hq
  subst hr2
  obtain ⟨A2, hsc2⟩ := suc_nam (u := u) (f := 3) hle hsn hE9 hA3 htk
  exact x_aret hx hb hlocks hr (⟨Ec, a2, R2, Ec + 1, A2, n2, t2, rfl, by omega, by omega, x1, x2, x3, htk2, hRX2, hsc2, lt_ok hle⟩) hP hS d_Rd_readElement_109
set_option maxHeartbeats 4000000 in
set_option maxRecDepth 100000 in
theorem m_Rd_readRepetition_3X (l : Launch) {D : va_G} {cy : Nat → ClassId} {sz n : Nat} {ad : Nat → Nat} {mem : Nat → va_E} {Z a R Ec lim : Nat} {f T : Nat → Int32} {to : Nat → Int32} {nm : Nat → Int64} {m0 : Nat → va_E} {u : Nat} {A : Ro} (hlt : l.stackTraces = false) (hn : 224 ≤ n) (hT : TX cy ad Z f m0) (hf : ∀ k, k < Z → f k = T k) (hRX : RX cy ad lim a R Ec to nm m0 mem) (haB : a ≤ 300) (haZ : a ≤ Z) (hbg : bgF (hereF Z T a) = true) : NXr l D cy sz n ad y_Rd_readRepetition c_Rd_readRepetition 3 (some (.object "AbnfChart$Element")) ({ frames := 35, cells := 1, slots := 6, locals := 838 } : Room) mem [.ref (ad 222), .int (3)] (fun r mem' => ∃ (k' a' R' E' : Nat) (A' : Ro) (nm' : Nat → Int64) (to' : Nat → Int32), r = ad (20 + 2 * k') ∧ Ec ≤ k' ∧ k' < E' ∧ R ≤ R' ∧ a < a' ∧ a' ≤ Z ∧ TOK R R' to to' ∧ RX cy ad lim a' R' E' to' nm' m0 mem' ∧ Suc T Z (repS T Z a u R Ec 3 A nm) 3 R (A 235) (A 227) a' R' E' A' nm') (fun X mem' => ((X = cIA ∨ X = cIS) ∧ ∃ rc' ec' : Nat, RS cy ad lim rc' ec' m0 mem') ∧ (Fai T Z (repS T Z a u R Ec 3 A nm))) := by
  refine vx_ofW (cc := c_Rd_readRepetition) (maxL := 3) (ret := (some (.object "AbnfChart$Element"))) (by decide) rfl ?_
  intro p e s m args below meth c s₁ B hml hno hv
  obtain ⟨rfl, E, hP, hD⟩ := hv
  have hx := B.exec
  have hb := B.bytes
  have hr := B.returns
  have hlocks := B.notSynchronized
  have Bx : MB p s m [.ref (ad 222), .int (3)].toArray c c_Rd_readRepetition "AbnfChart$Reader" D cy := ⟨hx, hb, tb_all (atoms_spec B.pre) E.2.1, findClass_of_methodNamed B.named, E.1⟩
  have hS : va_S (Az sz) s.heap s.heap [] := va_S.rf
  have hl := lv_entry ([.ref (ad 222), .int (3)]) (n := 3) (Nat.le_of_ble_eq_true rfl)
  rw [lg_entry_eq]
  generalize (lg_sl ([.ref (ad 222), .int (3)]) ++ List.replicate (3 - (lg_sl ([.ref (ad 222), .int (3)])).length) Slot.unset).toArray = ls at hl ⊢
  have hl : lv_has ls 3 [(0, .ref (ad 222)), (1, .int (3))] := hl
  have hZ9 := hT.2.1
  have hbd9 := hRX.1.1.1
  obtain ⟨ft1, h9_2⟩ := hRX.2.1
  have h1_3 : mem 1 = .inr (0, [.ref (ad 2), .int (nI Z)]) := (hRX.1.2.2 1 (by omega)).trans hT.1
  have h2_4 : mem 2 = .inl (cy 0, 240, .inl f) := (hRX.1.2.2 2 (by omega)).trans hT.2.2
  have h5_5 := hRX.1.1.2.1
  have hbd11 := hRX.1.1.1
  obtain ⟨S6, g7, hS_8, h220_9, h221_10⟩ := hRX.1.1.2.2.2.2.2.2
  refine lv_aload_n Bx.1 Bx.2.1 d_Rd_readRepetition_0 rfl (lv_at hl 0 rfl) ?_
  refine f_callVi (na := 0) (As := []) (rest := []) Bx hml E hP hD hS (by omega) h9_2 rfl (m_Rd_peekX l hn hT hf hRX (by omega)) kw_353 kw_355 sel_Rd_peek kw_6 kw_356 (by decide +kernel) ⟨rfl, rfl⟩ ⟨Nat.le_of_ble_eq_true rfl, Nat.le_of_ble_eq_true rfl⟩ rfl hl.1 (Nat.le_of_ble_eq_true rfl) d_Rd_readRepetition_1 ⟨Nat.le_of_ble_eq_true rfl, Nat.le_of_ble_eq_true rfl⟩ (fun r13 mem14 H locs hq hP hS => ?_)
  have hD : va_D (Az sz) (fw n ad mem14) := fw_D hD
  obtain ⟨hqe, hpk12⟩ := hq
  rw [hqe] at hP hD
  subst hpk12
  refine f_callSi (na := 1) (As := [.int (hereF Z T (a))]) (rest := []) Bx hml E.2.1 (m_Rd_beginsRepeatX l (hereF Z T (a))) kw_416 kw_417 kw_6 kw_418 (by decide +kernel) ⟨rfl, rfl⟩ ⟨Nat.le_of_ble_eq_true rfl, Nat.le_of_ble_eq_true rfl⟩ rfl hl.1 (Nat.le_of_ble_eq_true rfl) d_Rd_readRepetition_4 ⟨Nat.le_of_ble_eq_true rfl, Nat.le_of_ble_eq_true rfl⟩ (fun r17 hs16 => ?_)
  subst hs16
  refine lv_if_ne Bx.1 Bx.2.1 d_Rd_readRepetition_7 rfl (fun hb18 => ?_) (fun hb18 => ?_)
  · refine lv_aload_n Bx.1 Bx.2.1 d_Rd_readRepetition_16 rfl (lv_at hl 0 rfl) ?_
    refine lv_iconst (v := 2) Bx.1 Bx.2.1 d_Rd_readRepetition_17 (by decide) ?_
    refine lv_aload_n Bx.1 Bx.2.1 d_Rd_readRepetition_18 rfl (lv_at hl 0 rfl) ?_
    refine f_get Bx hP (by omega) h9_2 rfl inRd 2 (by decide) kw_146 rfl rfl d_Rd_readRepetition_19 ?_
    refine f_xVr (na := 2) (As := [.int (2), .int (nI a)]) (rest := []) Bx hml E hP hD hS (by omega) h9_2 rfl (m_Rd_addElementX l hlt hn hT hf hRX (by omega)) kw_419 kw_421 sel_Rd_addElement kw_6 kw_422 (by decide +kernel) ⟨rfl, rfl⟩ ⟨Nat.le_of_ble_eq_true rfl, Nat.le_of_ble_eq_true rfl⟩ rfl hl.1 (Nat.le_of_ble_eq_true rfl) d_Rd_readRepetition_22 ⟨Nat.le_of_ble_eq_true rfl, Nat.le_of_ble_eq_true rfl⟩ (fun X ce q9 memx H locs hx9 hP hS g1 g2 g3 => f_out hlocks hno hP hS g1 g2 g3 ⟨Nat.le_of_ble_eq_true rfl, Nat.le_of_ble_eq_true rfl⟩ ⟨hx9.1, Or.inl (rep_E (bpF_1 hb18) hx9.2)⟩) (fun r19 mem20 H locs hq hP hS => ?_)
    have hD : va_D (Az sz) (fw n ad mem20) := fw_D hD
    obtain ⟨hr923, hec22, hRX21⟩ := hq
    subst hr923
    obtain ⟨ft24, h9_25⟩ := hRX21.2.1
    have h1_26 : mem20 1 = .inr (0, [.ref (ad 2), .int (nI Z)]) := (hRX21.1.2.2 1 (by omega)).trans hT.1
    have h2_27 : mem20 2 = .inl (cy 0, 240, .inl f) := (hRX21.1.2.2 2 (by omega)).trans hT.2.2
    have h5_28 := hRX21.1.1.2.1
    have hbd34 := hRX21.1.1.1
    obtain ⟨S29, g30, hS_31, h220_32, h221_33⟩ := hRX21.1.1.2.2.2.2.2.2
    obtain ⟨k35, lo36, hi37, as38, pa39, ne40, he_41, ho_42⟩ := (hRX21.1.1.2.2.2.2.2.1 Ec (by omega)).1
    refine lv_astore_n (lv' := [(2, .ref (ad (20 + 2 * Ec))), (0, .ref (ad 222)), (1, .int (3))]) Bx.1 Bx.2.1 d_Rd_readRepetition_25 rfl hl (by decide) rfl (fun ls hl => ?_)
    refine lv_aload_n Bx.1 Bx.2.1 d_Rd_readRepetition_26 rfl (lv_at hl 1 rfl) ?_
    refine lv_aload_n Bx.1 Bx.2.1 d_Rd_readRepetition_27 rfl (lv_at hl 0 rfl) ?_
    have hdg := bpF_1 hb18
    have hE9 := hec22
    refine f_xVv (na := 1) (As := [.ref (ad (20 + 2 * Ec))]) (rest := []) Bx hml E hP hD hS (by omega) h9_25 rfl (m_Rd_readRepeatX l hlt hn hT hf hRX21 (by omega) (by omega) (by omega) hdg) kw_482 kw_484 sel_Rd_readRepeat kw_6 kw_485 (by decide +kernel) ⟨rfl, rfl⟩ ⟨Nat.le_of_ble_eq_true rfl, Nat.le_of_ble_eq_true rfl⟩ rfl hl.1 (Nat.le_of_ble_eq_true rfl) d_Rd_readRepetition_28 ⟨Nat.le_of_ble_eq_true rfl, Nat.le_of_ble_eq_true rfl⟩ (fun X ce q9 memx H locs hx9 hP hS g1 g2 g3 => f_out hlocks hno hP hS g1 g2 g3 ⟨Nat.le_of_ble_eq_true rfl, Nat.le_of_ble_eq_true rfl⟩ ⟨hx9.1, hx9.2.elim (fun v1 z => z.elim (fun b1 z => z.elim (fun v2 z => z.elim (fun b2 z => Or.inl (rep_bad hdg hE9 z.1 z.2.1 (Or.inl z.2.2))))))⟩) (fun mem44 H locs hq hP hS => ?_)
    have hD : va_D (Az sz) (fw n ad mem44) := fw_D hD
    obtain ⟨v1, b1, v2, b2, hr1, hr2, hnv, hb8, hb9, hRXr⟩ := hq
    obtain ⟨ft45, h9_46⟩ := hRXr.2.1
    have h1_47 : mem44 1 = .inr (0, [.ref (ad 2), .int (nI Z)]) := (hRXr.1.2.2 1 (by omega)).trans hT.1
    have h2_48 : mem44 2 = .inl (cy 0, 240, .inl f) := (hRXr.1.2.2 2 (by omega)).trans hT.2.2
    have h5_49 := hRXr.1.1.2.1
    have hbd55 := hRXr.1.1.1
    obtain ⟨S50, g51, hS_52, h220_53, h221_54⟩ := hRXr.1.1.2.2.2.2.2.2
    obtain ⟨k56, lo57, hi58, as59, pa60, ne61, he_62, ho_63⟩ := (hRXr.1.1.2.2.2.2.2.1 Ec (by omega)).1
    refine lv_aload_n Bx.1 Bx.2.1 d_Rd_readRepetition_31 rfl (lv_at hl 0 rfl) ?_
    refine lv_aload_n Bx.1 Bx.2.1 d_Rd_readRepetition_32 rfl (lv_at hl 1 rfl) ?_
    refine lv_iload_n Bx.1 Bx.2.1 d_Rd_readRepetition_33 rfl (lv_at hl 2 rfl) ?_
    refine f_xVr (na := 1) (As := [.int (3)]) (rest := [.ref (ad (20 + 2 * Ec))]) Bx hml E hP hD hS (by omega) h9_46 rfl (m_Rd_readElement_3X l hlt hn hT hf hRXr (by omega) (u := u) (A := repB A 3 Ec v1 v2) (by omega)) kw_443 kw_445 sel_Rd_readElement kw_6 kw_446 (by decide +kernel) ⟨rfl, rfl⟩ ⟨Nat.le_of_ble_eq_true rfl, Nat.le_of_ble_eq_true rfl⟩ rfl hl.1 (Nat.le_of_ble_eq_true rfl) d_Rd_readRepetition_34 ⟨Nat.le_of_ble_eq_true rfl, Nat.le_of_ble_eq_true rfl⟩ (fun X ce q9 memx H locs hx9 hP hS g1 g2 g3 => f_out hlocks hno hP hS g1 g2 g3 ⟨Nat.le_of_ble_eq_true rfl, Nat.le_of_ble_eq_true rfl⟩ ⟨hx9.1, rep_fai hdg hE9 hr1 hr2 hnv hx9.2⟩) (fun r64 mem65 H locs hq hP hS => ?_)
    have hD : va_D (Az sz) (fw n ad mem65) := fw_D hD
    obtain ⟨kx66, a67, R68, E69, A70, nn71, to72, hr973, hb74, hb75, hb76, hb77, hb78, htk79, hRX80, hsc81, hok82⟩ := hq
    subst hr973
    obtain ⟨ft83, h9_84⟩ := hRX80.2.1
    have h1_85 : mem65 1 = .inr (0, [.ref (ad 2), .int (nI Z)]) := (hRX80.1.2.2 1 (by omega)).trans hT.1
    have h2_86 : mem65 2 = .inl (cy 0, 240, .inl f) := (hRX80.1.2.2 2 (by omega)).trans hT.2.2
    have h5_87 := hRX80.1.1.2.1
    have hbd93 := hRX80.1.1.1
    obtain ⟨S88, g89, hS_90, h220_91, h221_92⟩ := hRX80.1.1.2.2.2.2.2.2
    obtain ⟨k94, lo95, hi96, as97, pa98, ne99, he_100, ho_101⟩ := (hRX80.1.1.2.2.2.2.2.1 Ec (by omega)).1
    obtain ⟨k102, lo103, hi104, as105, pa106, ne107, he_108, ho_109⟩ := (hRX80.1.1.2.2.2.2.2.1 kx66 (by omega)).1
    have hbd110 := hRX80.1.1.1
    refine f_putN Bx hP hD hS (by omega) he_100 rfl inEl tyEl okEl nmEl 4 (by decide) kw_87 rfl rfl rfl rfl (Nat.le_of_ble_eq_true rfl) d_Rd_readRepetition_37 (fun H locs hP hS => ?_)
    obtain ⟨mem111, e_mem111⟩ : ∃ z, z = va_up mem65 ((20 + 2 * Ec)) (.inr (2, [.int (k94), .int (lo95), .int (hi96), as97, .ref (ad (20 + 2 * kx66)), ne99, .ref (ad (21 + 2 * Ec))])) := ⟨_, rfl⟩
    have hP : va_P D vcl (fw n ad mem111) H := by rw [e_mem111]; exact hP
    have hD : va_D (Az sz) (fw n ad mem111) := fw_D hD
    have h_mem111 : mem111 ((20 + 2 * Ec)) = .inr (2, [.int (k94), .int (lo95), .int (hi96), as97, .ref (ad (20 + 2 * kx66)), ne99, .ref (ad (21 + 2 * Ec))]) := by rw [e_mem111, va_up_self]
    have hh112 := (va_up_ne mem65 (.inr (2, [.int (k94), .int (lo95), .int (hi96), as97, .ref (ad (20 + 2 * kx66)), ne99, .ref (ad (21 + 2 * Ec))])) (show (222 : Nat) ≠ (20 + 2 * Ec) by first | decide | assumption | omega)).trans h9_84
    rw [← e_mem111] at hh112
    have hh113 := (va_up_ne mem65 (.inr (2, [.int (k94), .int (lo95), .int (hi96), as97, .ref (ad (20 + 2 * kx66)), ne99, .ref (ad (21 + 2 * Ec))])) (show (1 : Nat) ≠ (20 + 2 * Ec) by first | decide | assumption | omega)).trans h1_85
    rw [← e_mem111] at hh113
    have hh114 := (va_up_ne mem65 (.inr (2, [.int (k94), .int (lo95), .int (hi96), as97, .ref (ad (20 + 2 * kx66)), ne99, .ref (ad (21 + 2 * Ec))])) (show (5 : Nat) ≠ (20 + 2 * Ec) by first | decide | assumption | omega)).trans h5_87
    rw [← e_mem111] at hh114
    have hh115 := (va_up_ne mem65 (.inr (2, [.int (k94), .int (lo95), .int (hi96), as97, .ref (ad (20 + 2 * kx66)), ne99, .ref (ad (21 + 2 * Ec))])) (show (220 : Nat) ≠ (20 + 2 * Ec) by first | decide | assumption | omega)).trans h220_91
    rw [← e_mem111] at hh115
    have hh116 := (va_up_ne mem65 (.inr (2, [.int (k94), .int (lo95), .int (hi96), as97, .ref (ad (20 + 2 * kx66)), ne99, .ref (ad (21 + 2 * Ec))])) (show ((20 + 2 * kx66) : Nat) ≠ (20 + 2 * Ec) by first | decide | assumption | omega)).trans he_108
    rw [← e_mem111] at hh116
    have hRX117 : RX cy ad lim (a67) (R68) (E69) (to72) (nn71) m0 mem111 := by rw [e_mem111]; exact hRX80.el (by omega) (hRX80.1.mk (by omega) (hRX80.1.1.upEl (by omega) (fun q9 => ⟨(ho_101 q9).1, Or.inr ⟨kx66, by omega, by omega, rfl⟩, (ho_101 q9).2.2⟩)))
    refine lv_aload_n Bx.1 Bx.2.1 d_Rd_readRepetition_40 rfl (lv_at hl 0 rfl) ?_
    exact x_aret hx hb hlocks hr (⟨Ec, a67, R68, E69, _, nn71, to72, rfl, by omega, by omega, by omega, by omega, by omega, htk79, hRX117, hsc81.eq (rep_suc hdg hE9 hr1 hr2 hnv hok82) (repB_ne (by decide) (by decide)) (repB_ne (by decide) (by decide))⟩) hP hS d_Rd_readRepetition_41
  · refine lv_aload_n Bx.1 Bx.2.1 d_Rd_readRepetition_10 rfl (lv_at hl 0 rfl) ?_
    refine lv_iload_n Bx.1 Bx.2.1 d_Rd_readRepetition_11 rfl (lv_at hl 1 rfl) ?_
    obtain ⟨hd0, h42⟩ := bpF_0 hb18
    refine f_xVr (na := 1) (As := [.int (3)]) (rest := []) Bx hml E hP hD hS (by omega) h9_2 rfl (m_Rd_readElement_3X l hlt hn hT hf hRX (by omega) (u := u) (A := A) (by omega)) kw_443 kw_445 sel_Rd_readElement kw_6 kw_446 (by decide +kernel) ⟨rfl, rfl⟩ ⟨Nat.le_of_ble_eq_true rfl, Nat.le_of_ble_eq_true rfl⟩ rfl hl.1 (Nat.le_of_ble_eq_true rfl) d_Rd_readRepetition_12 ⟨Nat.le_of_ble_eq_true rfl, Nat.le_of_ble_eq_true rfl⟩ (fun X ce q9 memx H locs hx9 hP hS g1 g2 g3 => f_out hlocks hno hP hS g1 g2 g3 ⟨Nat.le_of_ble_eq_true rfl, Nat.le_of_ble_eq_true rfl⟩ ⟨hx9.1, (hx9.2.resolve_right (fun z => z ⟨hbg, hd0, h42⟩)).eq (rep_no hd0 h42)⟩) (fun r118 mem119 H locs hq hP hS => ?_)
    have hD : va_D (Az sz) (fw n ad mem119) := fw_D hD
    obtain ⟨kx120, a121, R122, E123, A124, nn125, to126, hr9127, hb128, hb129, hb130, hb131, hb132, htk133, hRX134, hsc135, hok136⟩ := hq
    subst hr9127
    obtain ⟨ft137, h9_138⟩ := hRX134.2.1
    have h1_139 : mem119 1 = .inr (0, [.ref (ad 2), .int (nI Z)]) := (hRX134.1.2.2 1 (by omega)).trans hT.1
    have h2_140 : mem119 2 = .inl (cy 0, 240, .inl f) := (hRX134.1.2.2 2 (by omega)).trans hT.2.2
    have h5_141 := hRX134.1.1.2.1
    have hbd147 := hRX134.1.1.1
    obtain ⟨S142, g143, hS_144, h220_145, h221_146⟩ := hRX134.1.1.2.2.2.2.2.2
    obtain ⟨k148, lo149, hi150, as151, pa152, ne153, he_154, ho_155⟩ := (hRX134.1.1.2.2.2.2.2.1 kx120 (by omega)).1
    have hbd156 := hRX134.1.1.1
    exact x_aret hx hb hlocks hr (⟨kx120, a121, R122, E123, _, nn125, to126, rfl, by omega, by omega, by omega, by omega, by omega, htk133, hRX134, hsc135.eq (rep_no hd0 h42) rfl rfl⟩) hP hS d_Rd_readRepetition_15
set_option maxHeartbeats 4000000 in
set_option maxRecDepth 100000 in
theorem m_Rd_readSequence_3X (l : Launch) {D : va_G} {cy : Nat → ClassId} {sz n : Nat} {ad : Nat → Nat} {mem : Nat → va_E} {Z a R Ec lim : Nat} {f T : Nat → Int32} {to : Nat → Int32} {nm : Nat → Int64} {m0 : Nat → va_E} {u : Nat} {A : Ro} (hlt : l.stackTraces = false) (hn : 224 ≤ n) (hT : TX cy ad Z f m0) (hf : ∀ k, k < Z → f k = T k) (hRX : RX cy ad lim a R Ec to nm m0 mem) (haB : a ≤ 300) (haZ : a ≤ Z) : NXr l D cy sz n ad y_Rd_readSequence c_Rd_readSequence 5 (some (.object "AbnfChart$Element")) ({ frames := 36, cells := 1, slots := 6, locals := 862 } : Room) mem [.ref (ad 222), .int (3)] (fun r mem' => ∃ (k' a' R' E' : Nat) (A' : Ro) (nm' : Nat → Int64) (to' : Nat → Int32), r = ad (20 + 2 * k') ∧ Ec ≤ k' ∧ k' < E' ∧ R ≤ R' ∧ a < a' ∧ a' ≤ Z ∧ TOK R R' to to' ∧ RX cy ad lim (gapF T Z a') R' E' to' nm' m0 mem' ∧ Suc T Z (seqS T Z a u R Ec 3 A nm) 3 R (A 235) (A 227) a' R' E' A' nm' ∧ ¬ (bgF (hereF Z T (gapF T Z a')) = true ∧ a' < gapF T Z a')) (fun X mem' => ((X = cIA ∨ X = cIS) ∧ ∃ rc' ec' : Nat, RS cy ad lim rc' ec' m0 mem') ∧ (Fai T Z (seqS T Z a u R Ec 3 A nm))) := by
  refine vx_ofW (cc := c_Rd_readSequence) (maxL := 5) (ret := (some (.object "AbnfChart$Element"))) (by decide) rfl ?_
  intro p e s m args below meth c s₁ B hml hno hv
  obtain ⟨rfl, E, hP, hD⟩ := hv
  have hx := B.exec
  have hb := B.bytes
  have hr := B.returns
  have hlocks := B.notSynchronized
  have Bx : MB p s m [.ref (ad 222), .int (3)].toArray c c_Rd_readSequence "AbnfChart$Reader" D cy := ⟨hx, hb, tb_all (atoms_spec B.pre) E.2.1, findClass_of_methodNamed B.named, E.1⟩
  have hS : va_S (Az sz) s.heap s.heap [] := va_S.rf
  have hl := lv_entry ([.ref (ad 222), .int (3)]) (n := 5) (Nat.le_of_ble_eq_true rfl)
  rw [lg_entry_eq]
  generalize (lg_sl ([.ref (ad 222), .int (3)]) ++ List.replicate (5 - (lg_sl ([.ref (ad 222), .int (3)])).length) Slot.unset).toArray = ls at hl ⊢
  have hl : lv_has ls 5 [(0, .ref (ad 222)), (1, .int (3))] := hl
  have hZ9 := hT.2.1
  have hbd9 := hRX.1.1.1
  obtain ⟨ft1, h9_2⟩ := hRX.2.1
  have h1_3 : mem 1 = .inr (0, [.ref (ad 2), .int (nI Z)]) := (hRX.1.2.2 1 (by omega)).trans hT.1
  have h2_4 : mem 2 = .inl (cy 0, 240, .inl f) := (hRX.1.2.2 2 (by omega)).trans hT.2.2
  have h5_5 := hRX.1.1.2.1
  have hbd11 := hRX.1.1.1
  obtain ⟨S6, g7, hS_8, h220_9, h221_10⟩ := hRX.1.1.2.2.2.2.2.2
  refine lv_aload_n Bx.1 Bx.2.1 d_Rd_readSequence_0 rfl (lv_at hl 0 rfl) ?_
  refine lv_iconst (v := 1) Bx.1 Bx.2.1 d_Rd_readSequence_1 (by decide) ?_
  refine f_xVr (na := 1) (As := [.int (1)]) (rest := []) Bx hml E hP hD hS (by omega) h9_2 rfl (m_Rd_beginRowX l hlt hn hT hf hRX (by omega)) kw_409 kw_411 sel_Rd_beginRow kw_6 kw_412 (by decide +kernel) ⟨rfl, rfl⟩ ⟨Nat.le_of_ble_eq_true rfl, Nat.le_of_ble_eq_true rfl⟩ rfl hl.1 (Nat.le_of_ble_eq_true rfl) d_Rd_readSequence_2 ⟨Nat.le_of_ble_eq_true rfl, Nat.le_of_ble_eq_true rfl⟩ (fun X ce q9 memx H locs hx9 hP hS g1 g2 g3 => f_out hlocks hno hP hS g1 g2 g3 ⟨Nat.le_of_ble_eq_true rfl, Nat.le_of_ble_eq_true rfl⟩ ⟨hx9.1, Or.inl (seq_no hx9.2)⟩) (fun r12 mem13 H locs hq hP hS => ?_)
  have hD : va_D (Az sz) (fw n ad mem13) := fw_D hD
  obtain ⟨hbg, hE9, hr9, hRXb⟩ := hq
  subst hr9
  obtain ⟨ft14, h9_15⟩ := hRXb.2.1
  have h1_16 : mem13 1 = .inr (0, [.ref (ad 2), .int (nI Z)]) := (hRXb.1.2.2 1 (by omega)).trans hT.1
  have h2_17 : mem13 2 = .inl (cy 0, 240, .inl f) := (hRXb.1.2.2 2 (by omega)).trans hT.2.2
  have h5_18 := hRXb.1.1.2.1
  have hbd24 := hRXb.1.1.1
  obtain ⟨S19, g20, hS_21, h220_22, h221_23⟩ := hRXb.1.1.2.2.2.2.2.2
  obtain ⟨k25, lo26, hi27, as28, pa29, ne30, he_31, ho_32⟩ := (hRXb.1.1.2.2.2.2.2.1 Ec (by omega)).1
  refine lv_astore_n (lv' := [(2, .ref (ad (20 + 2 * Ec))), (0, .ref (ad 222)), (1, .int (3))]) Bx.1 Bx.2.1 d_Rd_readSequence_5 rfl hl (by decide) rfl (fun ls hl => ?_)
  refine lv_aload_n Bx.1 Bx.2.1 d_Rd_readSequence_6 rfl (lv_at hl 1 rfl) ?_
  refine lv_iload_n Bx.1 Bx.2.1 d_Rd_readSequence_7 rfl (lv_at hl 2 rfl) ?_
  refine f_xVr (na := 1) (As := [.int (3)]) (rest := []) Bx hml E hP hD hS (by omega) h9_15 rfl (m_Rd_readRepetition_3X l hlt hn hT hf hRXb (by omega) (u := u) (A := seqA A 3 Ec) (by omega) hbg) kw_439 kw_441 sel_Rd_readRepetition kw_6 kw_442 (by decide +kernel) ⟨rfl, rfl⟩ ⟨Nat.le_of_ble_eq_true rfl, Nat.le_of_ble_eq_true rfl⟩ rfl hl.1 (Nat.le_of_ble_eq_true rfl) d_Rd_readSequence_8 ⟨Nat.le_of_ble_eq_true rfl, Nat.le_of_ble_eq_true rfl⟩ (fun X ce q9 memx H locs hx9 hP hS g1 g2 g3 => f_out hlocks hno hP hS g1 g2 g3 ⟨Nat.le_of_ble_eq_true rfl, Nat.le_of_ble_eq_true rfl⟩ ⟨hx9.1, hx9.2.eq (seq_ok hbg hE9)⟩) (fun r33 mem34 H locs hq hP hS => ?_)
  have hD : va_D (Az sz) (fw n ad mem34) := fw_D hD
  obtain ⟨kx35, a36, R37, E38, A39, nn40, to41, hr942, hb43, hb44, hb45, hb46, hb47, htk48, hRX49, hsc50⟩ := hq
  subst hr942
  obtain ⟨ft51, h9_52⟩ := hRX49.2.1
  have h1_53 : mem34 1 = .inr (0, [.ref (ad 2), .int (nI Z)]) := (hRX49.1.2.2 1 (by omega)).trans hT.1
  have h2_54 : mem34 2 = .inl (cy 0, 240, .inl f) := (hRX49.1.2.2 2 (by omega)).trans hT.2.2
  have h5_55 := hRX49.1.1.2.1
  have hbd61 := hRX49.1.1.1
  obtain ⟨S56, g57, hS_58, h220_59, h221_60⟩ := hRX49.1.1.2.2.2.2.2.2
  obtain ⟨k62, lo63, hi64, as65, pa66, ne67, he_68, ho_69⟩ := (hRX49.1.1.2.2.2.2.2.1 Ec (by omega)).1
  obtain ⟨k70, lo71, hi72, as73, pa74, ne75, he_76, ho_77⟩ := (hRX49.1.1.2.2.2.2.2.1 kx35 (by omega)).1
  have hbd78 := hRX49.1.1.1
  refine lv_astore_n (lv' := [(3, .ref (ad (20 + 2 * kx35))), (2, .ref (ad (20 + 2 * Ec))), (0, .ref (ad 222)), (1, .int (3))]) Bx.1 Bx.2.1 d_Rd_readSequence_11 rfl hl (by decide) rfl (fun ls hl => ?_)
  refine lv_aload_n Bx.1 Bx.2.1 d_Rd_readSequence_12 rfl (lv_at hl 1 rfl) ?_
  refine lv_aload_n Bx.1 Bx.2.1 d_Rd_readSequence_13 rfl (lv_at hl 0 rfl) ?_
  refine f_putN Bx hP hD hS (by omega) he_68 rfl inEl tyEl okEl nmEl 4 (by decide) kw_87 rfl rfl rfl rfl (Nat.le_of_ble_eq_true rfl) d_Rd_readSequence_14 (fun H locs hP hS => ?_)
  obtain ⟨mem79, e_mem79⟩ : ∃ z, z = va_up mem34 ((20 + 2 * Ec)) (.inr (2, [.int (k62), .int (lo63), .int (hi64), as65, .ref (ad (20 + 2 * kx35)), ne67, .ref (ad (21 + 2 * Ec))])) := ⟨_, rfl⟩
  have hP : va_P D vcl (fw n ad mem79) H := by rw [e_mem79]; exact hP
  have hD : va_D (Az sz) (fw n ad mem79) := fw_D hD
  have h_mem79 : mem79 ((20 + 2 * Ec)) = .inr (2, [.int (k62), .int (lo63), .int (hi64), as65, .ref (ad (20 + 2 * kx35)), ne67, .ref (ad (21 + 2 * Ec))]) := by rw [e_mem79, va_up_self]
  have hh80 := (va_up_ne mem34 (.inr (2, [.int (k62), .int (lo63), .int (hi64), as65, .ref (ad (20 + 2 * kx35)), ne67, .ref (ad (21 + 2 * Ec))])) (show (222 : Nat) ≠ (20 + 2 * Ec) by first | decide | assumption | omega)).trans h9_52
  rw [← e_mem79] at hh80
  have hh81 := (va_up_ne mem34 (.inr (2, [.int (k62), .int (lo63), .int (hi64), as65, .ref (ad (20 + 2 * kx35)), ne67, .ref (ad (21 + 2 * Ec))])) (show (1 : Nat) ≠ (20 + 2 * Ec) by first | decide | assumption | omega)).trans h1_53
  rw [← e_mem79] at hh81
  have hh82 := (va_up_ne mem34 (.inr (2, [.int (k62), .int (lo63), .int (hi64), as65, .ref (ad (20 + 2 * kx35)), ne67, .ref (ad (21 + 2 * Ec))])) (show (5 : Nat) ≠ (20 + 2 * Ec) by first | decide | assumption | omega)).trans h5_55
  rw [← e_mem79] at hh82
  have hh83 := (va_up_ne mem34 (.inr (2, [.int (k62), .int (lo63), .int (hi64), as65, .ref (ad (20 + 2 * kx35)), ne67, .ref (ad (21 + 2 * Ec))])) (show (220 : Nat) ≠ (20 + 2 * Ec) by first | decide | assumption | omega)).trans h220_59
  rw [← e_mem79] at hh83
  have hh84 := (va_up_ne mem34 (.inr (2, [.int (k62), .int (lo63), .int (hi64), as65, .ref (ad (20 + 2 * kx35)), ne67, .ref (ad (21 + 2 * Ec))])) (show ((20 + 2 * kx35) : Nat) ≠ (20 + 2 * Ec) by first | decide | assumption | omega)).trans he_76
  rw [← e_mem79] at hh84
  have hRX85 : RX cy ad lim (a36) (R37) (E38) (to41) (nn40) m0 mem79 := by rw [e_mem79]; exact hRX49.el (by omega) (hRX49.1.mk (by omega) (hRX49.1.1.upEl (by omega) (fun q9 => ⟨(ho_69 q9).1, Or.inr ⟨kx35, by omega, by omega, rfl⟩, (ho_69 q9).2.2⟩)))
  refine lv_iconst (v := 0) Bx.1 Bx.2.1 d_Rd_readSequence_17 (by decide) ?_
  refine lv_istore (lv' := [(4, .int (0)), (3, .ref (ad (20 + 2 * kx35))), (2, .ref (ad (20 + 2 * Ec))), (0, .ref (ad 222)), (1, .int (3))]) Bx.1 Bx.2.1 d_Rd_readSequence_18 hl (by decide) rfl (fun ls hl => ?_)
  have hsuc0 := hsc50.eq (seq_ok hbg hE9) (seqA_ne (by decide) (by decide)) (seqA_ne (by decide) (by decide))
  have loop86 : ∀ (d87 : Nat) (mem9 : Nat → va_E) (a1 : Nat) (R1 : Nat) (E1 : Nat) (A1 : Ro) (n1 : Nat → Int64) (to1 : Nat → Int32) (la : Nat) (k9 : Nat) (ls : Array Slot) (H : Heap) (locs : List Loc), (240 - k9 < d87) → (RX cy ad lim a1 R1 E1 to1 n1 m0 mem9) → (a < a1 ∧ a1 ≤ Z ∧ R ≤ R1 ∧ Ec < la ∧ la < E1 ∧ k9 < a1 ∧ k9 ≤ 240 ∧ Ec < E1) → (Suc T Z (seqS T Z a u R Ec 3 A nm) 3 R (A 235) (A 227) a1 R1 E1 A1 n1) → (TOK R R1 to to1) → (va_P D vcl (fw n ad mem9) H) → (va_D (Az sz) (fw n ad mem9)) → (va_S (Az sz) s.heap H locs) → (lv_has ls 5 [(4, .int (nI k9)), (3, .ref (ad (20 + 2 * la))), (2, .ref (ad (20 + 2 * Ec))), (0, .ref (ad 222)), (1, .int (3))]) → W p l e (headSpec (Cond.code y_Rd_readSequence c_Rd_readSequence 5 (some (.object "AbnfChart$Element")) :: tg) ({ frames := 36, cells := 1, slots := 6, locals := 862 } : Room)).room s m [.ref (ad 222), .int (3)].toArray below meth c H locs 0 0 (vx_MQ below (QX (QR (fun r mem' => ∃ (k' a' R' E' : Nat) (A' : Ro) (nm' : Nat → Int64) (to' : Nat → Int32), r = ad (20 + 2 * k') ∧ Ec ≤ k' ∧ k' < E' ∧ R ≤ R' ∧ a < a' ∧ a' ≤ Z ∧ TOK R R' to to' ∧ RX cy ad lim (gapF T Z a') R' E' to' nm' m0 mem' ∧ Suc T Z (seqS T Z a u R Ec 3 A nm) 3 R (A 235) (A 227) a' R' E' A' nm' ∧ ¬ (bgF (hereF Z T (gapF T Z a')) = true ∧ a' < gapF T Z a')) (PP D n ad) (Az sz))) (XQ D sz n ad (fun X mem' => ((X = cIA ∨ X = cIS) ∧ ∃ rc' ec' : Nat, RS cy ad lim rc' ec' m0 mem') ∧ (Fai T Z (seqS T Z a u R Ec 3 A nm)))) [.ref (ad 222), .int (3)].toArray s 1 6 (Az sz)) (F0 m 20 ls []) := by
    intro d87
    induction d87 with
    | zero => intro mem9 a1 R1 E1 A1 n1 to1 la k9 ls H locs hmeas93; exact absurd hmeas93 (Nat.not_lt_zero _)
    | succ d87 ih92 =>
      intro mem9 a1 R1 E1 A1 n1 to1 la k9 ls H locs hmeas93 hz88 hz89 hz90 hz91 hP hD hS hl
      have hbd8 := hz89
      obtain ⟨ft94, h9_95⟩ := hz88.2.1
      have h1_96 : mem9 1 = .inr (0, [.ref (ad 2), .int (nI Z)]) := (hz88.1.2.2 1 (by omega)).trans hT.1
      have h2_97 : mem9 2 = .inl (cy 0, 240, .inl f) := (hz88.1.2.2 2 (by omega)).trans hT.2.2
      have h5_98 := hz88.1.1.2.1
      have hbd104 := hz88.1.1.1
      obtain ⟨S99, g100, hS_101, h220_102, h221_103⟩ := hz88.1.1.2.2.2.2.2.2
      obtain ⟨k105, lo106, hi107, as108, pa109, ne110, he_111, ho_112⟩ := (hz88.1.1.2.2.2.2.2.1 la (by omega)).1
      obtain ⟨c1, u1, ho, hg, hk9, hs9⟩ := id hz90
      refine lv_iload Bx.1 Bx.2.1 d_Rd_readSequence_20 (lv_at hl 0 rfl) ?_
      refine lv_sipush (v := 240) Bx.1 Bx.2.1 d_Rd_readSequence_22 (by decide) ?_
      refine lv_icmp_ge Bx.1 Bx.2.1 d_Rd_readSequence_25 rfl (fun hb113 => ?_) (fun hb113 => ?_)
      · have hN114 : 240 ≤ k9 := (nI_leI (by omega) (by omega)).mp (show nI (240) ≤ nI (k9) from hb113)
        exact absurd hbd8 (by omega)
      · have hN115 : ¬ 240 ≤ k9 := fun q9 => hb113 (show nI (240) ≤ nI (k9) from (nI_leI (by omega) (by omega)).mpr q9)
        refine lv_aload_n Bx.1 Bx.2.1 d_Rd_readSequence_28 rfl (lv_at hl 3 rfl) ?_
        refine f_callVi (na := 0) (As := []) (rest := []) Bx hml E hP hD hS (by omega) h9_95 rfl (m_Rd_readGapX l hn hT hf hz88 (by omega) (by omega)) kw_397 kw_399 sel_Rd_readGap kw_6 kw_400 (by decide +kernel) ⟨rfl, rfl⟩ ⟨Nat.le_of_ble_eq_true rfl, Nat.le_of_ble_eq_true rfl⟩ rfl hl.1 (Nat.le_of_ble_eq_true rfl) d_Rd_readSequence_29 ⟨Nat.le_of_ble_eq_true rfl, Nat.le_of_ble_eq_true rfl⟩ (fun r116 mem117 H locs hq hP hS => ?_)
        have hD : va_D (Az sz) (fw n ad mem117) := fw_D hD
        obtain ⟨g118, eg119⟩ : ∃ z, z = gapF T Z (a1) := ⟨_, rfl⟩
        rw [← eg119] at hq
        obtain ⟨hRX120, hgc121⟩ := hq
        have hg122 : a1 ≤ g118 := by rw [eg119]; exact gapF_ge T Z _
        have hg123 : g118 ≤ Z := by rw [eg119]; exact gapF_le T (by omega)
        obtain ⟨ft124, h9_125⟩ := hRX120.2.1
        have h1_126 : mem117 1 = .inr (0, [.ref (ad 2), .int (nI Z)]) := (hRX120.1.2.2 1 (by omega)).trans hT.1
        have h2_127 : mem117 2 = .inl (cy 0, 240, .inl f) := (hRX120.1.2.2 2 (by omega)).trans hT.2.2
        have h5_128 := hRX120.1.1.2.1
        have hbd134 := hRX120.1.1.1
        obtain ⟨S129, g130, hS_131, h220_132, h221_133⟩ := hRX120.1.1.2.2.2.2.2.2
        obtain ⟨k135, lo136, hi137, as138, pa139, ne140, he_141, ho_142⟩ := (hRX120.1.1.2.2.2.2.2.1 la (by omega)).1
        rcases hgc121 with ⟨hr143, hga144⟩ | ⟨hr143, hga144⟩
        · subst hr143
          refine lv_if_eq Bx.1 Bx.2.1 d_Rd_readSequence_32 rfl (fun hb145 => ?_) (fun hb145 => ?_)
          · exact absurd hb145 (by decide)
          · refine lv_aload_n Bx.1 Bx.2.1 d_Rd_readSequence_35 rfl (lv_at hl 3 rfl) ?_
            refine f_callVi (na := 0) (As := []) (rest := []) Bx hml E hP hD hS (by omega) h9_125 rfl (m_Rd_peekX l hn hT hf hRX120 (by omega)) kw_353 kw_355 sel_Rd_peek kw_6 kw_356 (by decide +kernel) ⟨rfl, rfl⟩ ⟨Nat.le_of_ble_eq_true rfl, Nat.le_of_ble_eq_true rfl⟩ rfl hl.1 (Nat.le_of_ble_eq_true rfl) d_Rd_readSequence_36 ⟨Nat.le_of_ble_eq_true rfl, Nat.le_of_ble_eq_true rfl⟩ (fun r147 mem148 H locs hq hP hS => ?_)
            have hD : va_D (Az sz) (fw n ad mem148) := fw_D hD
            obtain ⟨hqe, hpk146⟩ := hq
            rw [hqe] at hP hD
            subst hpk146
            refine f_callSi (na := 1) (As := [.int (hereF Z T (g118))]) (rest := []) Bx hml E.2.1 (m_Rd_beginsRepetitionX l (hereF Z T (g118))) kw_413 kw_414 kw_6 kw_415 (by decide +kernel) ⟨rfl, rfl⟩ ⟨Nat.le_of_ble_eq_true rfl, Nat.le_of_ble_eq_true rfl⟩ rfl hl.1 (Nat.le_of_ble_eq_true rfl) d_Rd_readSequence_39 ⟨Nat.le_of_ble_eq_true rfl, Nat.le_of_ble_eq_true rfl⟩ (fun r151 hs150 => ?_)
            subst hs150
            refine lv_if_eq Bx.1 Bx.2.1 d_Rd_readSequence_42 rfl (fun hb152 => ?_) (fun hb152 => ?_)
            · refine lv_aload_n Bx.1 Bx.2.1 d_Rd_readSequence_65 rfl (lv_at hl 2 rfl) ?_
              exact x_aret hx hb hlocks hr (⟨Ec, a1, R1, E1, A1, n1, to1, rfl, by omega, by omega, by omega, by omega, by omega, hz91, by rw [← eg119]; exact hRX120, hz90, fun z => by have q9 := z.1; rw [← eg119, bg_0 hb152] at q9; exact absurd q9 (by decide)⟩) hP hS d_Rd_readSequence_66
            · have hbg2 : bgF (hereF Z T (gapF T Z a1)) = true := by rw [← eg119]; exact bg_1 hb152
              have hgt2 : a1 < gapF T Z a1 := by rw [← eg119]; omega
              refine lv_aload_n Bx.1 Bx.2.1 d_Rd_readSequence_45 rfl (lv_at hl 1 rfl) ?_
              refine lv_aload_n Bx.1 Bx.2.1 d_Rd_readSequence_46 rfl (lv_at hl 3 rfl) ?_
              refine lv_iload_n Bx.1 Bx.2.1 d_Rd_readSequence_47 rfl (lv_at hl 4 rfl) ?_
              refine f_xVr (na := 1) (As := [.int (3)]) (rest := [.ref (ad (20 + 2 * la))]) Bx hml E hP hD hS (by omega) h9_125 rfl (m_Rd_readRepetition_3X l hlt hn hT hf hRX120 (by omega) (u := u1) (A := A1) (by omega) (by rw [eg119]; exact hbg2)) kw_439 kw_441 sel_Rd_readRepetition kw_6 kw_442 (by decide +kernel) ⟨rfl, rfl⟩ ⟨Nat.le_of_ble_eq_true rfl, Nat.le_of_ble_eq_true rfl⟩ rfl hl.1 (Nat.le_of_ble_eq_true rfl) d_Rd_readSequence_48 ⟨Nat.le_of_ble_eq_true rfl, Nat.le_of_ble_eq_true rfl⟩ (fun X ce q9 memx H locs hx9 hP hS g1 g2 g3 => f_out hlocks hno hP hS g1 g2 g3 ⟨Nat.le_of_ble_eq_true rfl, Nat.le_of_ble_eq_true rfl⟩ ⟨hx9.1, Fai.go ho hg (go_rept hbg2 hgt2) (by rw [← eg119]; exact hx9.2)⟩) (fun r153 mem154 H locs hq hP hS => ?_)
              have hD : va_D (Az sz) (fw n ad mem154) := fw_D hD
              obtain ⟨kx155, a156, R157, E158, A159, nn160, to161, hr9162, hb163, hb164, hb165, hb166, hb167, htk168, hRX169, hsc170⟩ := hq
              subst hr9162
              obtain ⟨ft171, h9_172⟩ := hRX169.2.1
              have h1_173 : mem154 1 = .inr (0, [.ref (ad 2), .int (nI Z)]) := (hRX169.1.2.2 1 (by omega)).trans hT.1
              have h2_174 : mem154 2 = .inl (cy 0, 240, .inl f) := (hRX169.1.2.2 2 (by omega)).trans hT.2.2
              have h5_175 := hRX169.1.1.2.1
              have hbd181 := hRX169.1.1.1
              obtain ⟨S176, g177, hS_178, h220_179, h221_180⟩ := hRX169.1.1.2.2.2.2.2.2
              obtain ⟨k182, lo183, hi184, as185, pa186, ne187, he_188, ho_189⟩ := (hRX169.1.1.2.2.2.2.2.1 la (by omega)).1
              obtain ⟨k190, lo191, hi192, as193, pa194, ne195, he_196, ho_197⟩ := (hRX169.1.1.2.2.2.2.2.1 kx155 (by omega)).1
              have hbd198 := hRX169.1.1.1
              have hsuc3 := Suc.go ho hg hk9 hs9 (by omega) (go_rept hbg2 hgt2) (by rw [← eg119]; exact hsc170)
              have htk3 := hz91.trans htk168 (by omega)
              refine f_putN Bx hP hD hS (by omega) he_188 rfl inEl tyEl okEl nmEl 5 (by decide) kw_91 rfl rfl rfl rfl (Nat.le_of_ble_eq_true rfl) d_Rd_readSequence_51 (fun H locs hP hS => ?_)
              obtain ⟨mem199, e_mem199⟩ : ∃ z, z = va_up mem154 ((20 + 2 * la)) (.inr (2, [.int (k182), .int (lo183), .int (hi184), as185, pa186, .ref (ad (20 + 2 * kx155)), .ref (ad (21 + 2 * la))])) := ⟨_, rfl⟩
              have hP : va_P D vcl (fw n ad mem199) H := by rw [e_mem199]; exact hP
              have hD : va_D (Az sz) (fw n ad mem199) := fw_D hD
              have h_mem199 : mem199 ((20 + 2 * la)) = .inr (2, [.int (k182), .int (lo183), .int (hi184), as185, pa186, .ref (ad (20 + 2 * kx155)), .ref (ad (21 + 2 * la))]) := by rw [e_mem199, va_up_self]
              have hh200 := (va_up_ne mem154 (.inr (2, [.int (k182), .int (lo183), .int (hi184), as185, pa186, .ref (ad (20 + 2 * kx155)), .ref (ad (21 + 2 * la))])) (show (222 : Nat) ≠ (20 + 2 * la) by first | decide | assumption | omega)).trans h9_172
              rw [← e_mem199] at hh200
              have hh201 := (va_up_ne mem154 (.inr (2, [.int (k182), .int (lo183), .int (hi184), as185, pa186, .ref (ad (20 + 2 * kx155)), .ref (ad (21 + 2 * la))])) (show (1 : Nat) ≠ (20 + 2 * la) by first | decide | assumption | omega)).trans h1_173
              rw [← e_mem199] at hh201
              have hh202 := (va_up_ne mem154 (.inr (2, [.int (k182), .int (lo183), .int (hi184), as185, pa186, .ref (ad (20 + 2 * kx155)), .ref (ad (21 + 2 * la))])) (show (5 : Nat) ≠ (20 + 2 * la) by first | decide | assumption | omega)).trans h5_175
              rw [← e_mem199] at hh202
              have hh203 := (va_up_ne mem154 (.inr (2, [.int (k182), .int (lo183), .int (hi184), as185, pa186, .ref (ad (20 + 2 * kx155)), .ref (ad (21 + 2 * la))])) (show (220 : Nat) ≠ (20 + 2 * la) by first | decide | assumption | omega)).trans h220_179
              rw [← e_mem199] at hh203
              have hh204 := (va_up_ne mem154 (.inr (2, [.int (k182), .int (lo183), .int (hi184), as185, pa186, .ref (ad (20 + 2 * kx155)), .ref (ad (21 + 2 * la))])) (show ((20 + 2 * kx155) : Nat) ≠ (20 + 2 * la) by first | decide | assumption | omega)).trans he_196
              rw [← e_mem199] at hh204
              have hRX205 : RX cy ad lim (a156) (R157) (E158) (to161) (nn160) m0 mem199 := by rw [e_mem199]; exact hRX169.el (by omega) (hRX169.1.mk (by omega) (hRX169.1.1.upEl (by omega) (fun q9 => ⟨(ho_189 q9).1, (ho_189 q9).2.1, Or.inr ⟨kx155, by omega, by omega, rfl⟩⟩)))
              refine lv_aload_n Bx.1 Bx.2.1 d_Rd_readSequence_54 rfl (lv_at hl 1 rfl) ?_
              refine f_getN Bx hP (by omega) h_mem199 rfl inEl 5 (by decide) kw_91 rfl rfl d_Rd_readSequence_55 ?_
              refine lv_astore_n (lv' := [(3, .ref (ad (20 + 2 * kx155))), (4, .int (nI k9)), (2, .ref (ad (20 + 2 * Ec))), (0, .ref (ad 222)), (1, .int (3))]) Bx.1 Bx.2.1 d_Rd_readSequence_58 rfl hl (by decide) rfl (fun ls hl => ?_)
              refine lv_iinc (lv' := [(4, .int ((nI k9 + (1)))), (3, .ref (ad (20 + 2 * kx155))), (2, .ref (ad (20 + 2 * Ec))), (0, .ref (ad 222)), (1, .int (3))]) Bx.1 Bx.2.1 d_Rd_readSequence_59 hl (k := 1) rfl rfl (by decide) rfl (fun ls hl => ?_)
              rw [show (nI k9 + (1) : Int32) = nI (k9 + 1) from nI_1 (k9)] at hl
              refine lv_goto Bx.1 Bx.2.1 d_Rd_readSequence_62 rfl ?_
              exact ih92 mem199 (a156) (R157) (E158) (A159) (nn160) (to161) (kx155) (k9 + 1) _ _ _ (by have := hmeas93; omega) (hRX205) (⟨by omega, by omega, by omega, by omega, by omega, by omega, by omega, by omega⟩) (hsuc3) (htk3) hP hD hS (lv_sub hl [0, 1, 2, 3, 4] rfl)
        · subst hr143
          refine lv_if_eq Bx.1 Bx.2.1 d_Rd_readSequence_32 rfl (fun hb206 => ?_) (fun hb206 => ?_)
          · refine lv_aload_n Bx.1 Bx.2.1 d_Rd_readSequence_65 rfl (lv_at hl 2 rfl) ?_
            exact x_aret hx hb hlocks hr (⟨Ec, a1, R1, E1, A1, n1, to1, rfl, by omega, by omega, by omega, by omega, by omega, hz91, by rw [← eg119]; exact hRX120, hz90, fun z => by have := z.2; rw [← eg119] at this; omega⟩) hP hS d_Rd_readSequence_66
          · exact absurd hb206 (by decide)
  exact loop86 _ mem79 (a36) (R37) (E38) (A39) (nn40) (to41) (kx35) (0) _ _ _ (Nat.lt_succ_self _) (hRX85) (⟨by omega, by omega, by omega, by omega, by omega, by omega, by omega, by omega⟩) (hsuc0) (htk48) hP hD hS (lv_sub hl [0, 1, 2, 3, 4] rfl)
set_option maxHeartbeats 4000000 in
set_option maxRecDepth 100000 in
theorem m_Rd_readAlternatives_3X (l : Launch) {D : va_G} {cy : Nat → ClassId} {sz n : Nat} {ad : Nat → Nat} {mem : Nat → va_E} {Z a R Ec lim : Nat} {f T : Nat → Int32} {to : Nat → Int32} {nm : Nat → Int64} {m0 : Nat → va_E} {u : Nat} {A : Ro} (hlt : l.stackTraces = false) (hn : 224 ≤ n) (hT : TX cy ad Z f m0) (hf : ∀ k, k < Z → f k = T k) (hRX : RX cy ad lim a R Ec to nm m0 mem) (haB : a ≤ 300) (haZ : a ≤ Z) : NXr l D cy sz n ad y_Rd_readAlternatives c_Rd_readAlternatives 5 (some (.object "AbnfChart$Element")) ({ frames := 37, cells := 1, slots := 6, locals := 888 } : Room) mem [.ref (ad 222), .int (3)] (fun r mem' => ∃ (k' a' R' E' : Nat) (A' : Ro) (nm' : Nat → Int64) (to' : Nat → Int32), r = ad (20 + 2 * k') ∧ Ec ≤ k' ∧ k' < E' ∧ R ≤ R' ∧ a < a' ∧ a' ≤ Z ∧ TOK R R' to to' ∧ RX cy ad lim (gapF T Z a') R' E' to' nm' m0 mem' ∧ Suc T Z (seqS T Z a u R (Ec + 1) 3 A nm) 3 R (A 235) (A 227) a' R' E' A' nm' ∧ bgF (hereF Z T a) = true ∧ Ec < 100 ∧ ¬ hereF Z T (gapF T Z a') = 47 ∧ ¬ (bgF (hereF Z T (gapF T Z a')) = true ∧ a' < gapF T Z a')) (fun X mem' => ((X = cIA ∨ X = cIS) ∧ ∃ rc' ec' : Nat, RS cy ad lim rc' ec' m0 mem') ∧ (bgF (hereF Z T a) = false ∨ Ec = 100 ∨ (bgF (hereF Z T a) = true ∧ Ec < 100 ∧ Fai T Z (seqS T Z a u R (Ec + 1) 3 A nm)))) := by
  refine vx_ofW (cc := c_Rd_readAlternatives) (maxL := 5) (ret := (some (.object "AbnfChart$Element"))) (by decide) rfl ?_
  intro p e s m args below meth c s₁ B hml hno hv
  obtain ⟨rfl, E, hP, hD⟩ := hv
  have hx := B.exec
  have hb := B.bytes
  have hr := B.returns
  have hlocks := B.notSynchronized
  have Bx : MB p s m [.ref (ad 222), .int (3)].toArray c c_Rd_readAlternatives "AbnfChart$Reader" D cy := ⟨hx, hb, tb_all (atoms_spec B.pre) E.2.1, findClass_of_methodNamed B.named, E.1⟩
  have hS : va_S (Az sz) s.heap s.heap [] := va_S.rf
  have hl := lv_entry ([.ref (ad 222), .int (3)]) (n := 5) (Nat.le_of_ble_eq_true rfl)
  rw [lg_entry_eq]
  generalize (lg_sl ([.ref (ad 222), .int (3)]) ++ List.replicate (5 - (lg_sl ([.ref (ad 222), .int (3)])).length) Slot.unset).toArray = ls at hl ⊢
  have hl : lv_has ls 5 [(0, .ref (ad 222)), (1, .int (3))] := hl
  have hZ9 := hT.2.1
  have hbd9 := hRX.1.1.1
  obtain ⟨ft1, h9_2⟩ := hRX.2.1
  have h1_3 : mem 1 = .inr (0, [.ref (ad 2), .int (nI Z)]) := (hRX.1.2.2 1 (by omega)).trans hT.1
  have h2_4 : mem 2 = .inl (cy 0, 240, .inl f) := (hRX.1.2.2 2 (by omega)).trans hT.2.2
  have h5_5 := hRX.1.1.2.1
  have hbd11 := hRX.1.1.1
  obtain ⟨S6, g7, hS_8, h220_9, h221_10⟩ := hRX.1.1.2.2.2.2.2.2
  refine lv_aload_n Bx.1 Bx.2.1 d_Rd_readAlternatives_0 rfl (lv_at hl 0 rfl) ?_
  refine lv_iconst (v := 0) Bx.1 Bx.2.1 d_Rd_readAlternatives_1 (by decide) ?_
  refine f_xVr (na := 1) (As := [.int (0)]) (rest := []) Bx hml E hP hD hS (by omega) h9_2 rfl (m_Rd_beginRowX l hlt hn hT hf hRX (by omega)) kw_409 kw_411 sel_Rd_beginRow kw_6 kw_412 (by decide +kernel) ⟨rfl, rfl⟩ ⟨Nat.le_of_ble_eq_true rfl, Nat.le_of_ble_eq_true rfl⟩ rfl hl.1 (Nat.le_of_ble_eq_true rfl) d_Rd_readAlternatives_2 ⟨Nat.le_of_ble_eq_true rfl, Nat.le_of_ble_eq_true rfl⟩ (fun X ce q9 memx H locs hx9 hP hS g1 g2 g3 => f_out hlocks hno hP hS g1 g2 g3 ⟨Nat.le_of_ble_eq_true rfl, Nat.le_of_ble_eq_true rfl⟩ ⟨hx9.1, hx9.2.elim Or.inl (fun z => Or.inr (Or.inl z))⟩) (fun r12 mem13 H locs hq hP hS => ?_)
  have hD : va_D (Az sz) (fw n ad mem13) := fw_D hD
  obtain ⟨hbg, hE9, hr9, hRXb⟩ := hq
  subst hr9
  obtain ⟨ft14, h9_15⟩ := hRXb.2.1
  have h1_16 : mem13 1 = .inr (0, [.ref (ad 2), .int (nI Z)]) := (hRXb.1.2.2 1 (by omega)).trans hT.1
  have h2_17 : mem13 2 = .inl (cy 0, 240, .inl f) := (hRXb.1.2.2 2 (by omega)).trans hT.2.2
  have h5_18 := hRXb.1.1.2.1
  have hbd24 := hRXb.1.1.1
  obtain ⟨S19, g20, hS_21, h220_22, h221_23⟩ := hRXb.1.1.2.2.2.2.2.2
  obtain ⟨k25, lo26, hi27, as28, pa29, ne30, he_31, ho_32⟩ := (hRXb.1.1.2.2.2.2.2.1 Ec (by omega)).1
  refine lv_astore_n (lv' := [(2, .ref (ad (20 + 2 * Ec))), (0, .ref (ad 222)), (1, .int (3))]) Bx.1 Bx.2.1 d_Rd_readAlternatives_5 rfl hl (by decide) rfl (fun ls hl => ?_)
  refine lv_aload_n Bx.1 Bx.2.1 d_Rd_readAlternatives_6 rfl (lv_at hl 1 rfl) ?_
  refine lv_iload_n Bx.1 Bx.2.1 d_Rd_readAlternatives_7 rfl (lv_at hl 2 rfl) ?_
  refine f_xVr (na := 1) (As := [.int (3)]) (rest := []) Bx hml E hP hD hS (by omega) h9_15 rfl (m_Rd_readSequence_3X l hlt hn hT hf hRXb (by omega) (u := u) (A := A) (by omega)) kw_435 kw_437 sel_Rd_readSequence kw_6 kw_438 (by decide +kernel) ⟨rfl, rfl⟩ ⟨Nat.le_of_ble_eq_true rfl, Nat.le_of_ble_eq_true rfl⟩ rfl hl.1 (Nat.le_of_ble_eq_true rfl) d_Rd_readAlternatives_8 ⟨Nat.le_of_ble_eq_true rfl, Nat.le_of_ble_eq_true rfl⟩ (fun X ce q9 memx H locs hx9 hP hS g1 g2 g3 => f_out hlocks hno hP hS g1 g2 g3 ⟨Nat.le_of_ble_eq_true rfl, Nat.le_of_ble_eq_true rfl⟩ ⟨hx9.1, Or.inr (Or.inr ⟨hbg, hE9, hx9.2⟩)⟩) (fun r33 mem34 H locs hq hP hS => ?_)
  have hD : va_D (Az sz) (fw n ad mem34) := fw_D hD
  obtain ⟨kx35, a36, R37, E38, A39, nn40, to41, hr942, hb43, hb44, hb45, hb46, hb47, htk48, hRX49, hsc50, hnb51⟩ := hq
  subst hr942
  obtain ⟨g52, eg53⟩ : ∃ z, z = gapF T Z a36 := ⟨_, rfl⟩
  have hg54 : a36 ≤ g52 := by rw [eg53]; exact gapF_ge T Z _
  have hg55 : g52 ≤ Z := by rw [eg53]; exact gapF_le T (by omega)
  rw [← eg53] at hRX49
  obtain ⟨ft56, h9_57⟩ := hRX49.2.1
  have h1_58 : mem34 1 = .inr (0, [.ref (ad 2), .int (nI Z)]) := (hRX49.1.2.2 1 (by omega)).trans hT.1
  have h2_59 : mem34 2 = .inl (cy 0, 240, .inl f) := (hRX49.1.2.2 2 (by omega)).trans hT.2.2
  have h5_60 := hRX49.1.1.2.1
  have hbd66 := hRX49.1.1.1
  obtain ⟨S61, g62, hS_63, h220_64, h221_65⟩ := hRX49.1.1.2.2.2.2.2.2
  obtain ⟨k67, lo68, hi69, as70, pa71, ne72, he_73, ho_74⟩ := (hRX49.1.1.2.2.2.2.2.1 Ec (by omega)).1
  obtain ⟨k75, lo76, hi77, as78, pa79, ne80, he_81, ho_82⟩ := (hRX49.1.1.2.2.2.2.2.1 kx35 (by omega)).1
  have hbd83 := hRX49.1.1.1
  refine lv_astore_n (lv' := [(3, .ref (ad (20 + 2 * kx35))), (2, .ref (ad (20 + 2 * Ec))), (0, .ref (ad 222)), (1, .int (3))]) Bx.1 Bx.2.1 d_Rd_readAlternatives_11 rfl hl (by decide) rfl (fun ls hl => ?_)
  refine lv_aload_n Bx.1 Bx.2.1 d_Rd_readAlternatives_12 rfl (lv_at hl 1 rfl) ?_
  refine lv_aload_n Bx.1 Bx.2.1 d_Rd_readAlternatives_13 rfl (lv_at hl 0 rfl) ?_
  refine f_putN Bx hP hD hS (by omega) he_73 rfl inEl tyEl okEl nmEl 4 (by decide) kw_87 rfl rfl rfl rfl (Nat.le_of_ble_eq_true rfl) d_Rd_readAlternatives_14 (fun H locs hP hS => ?_)
  obtain ⟨mem84, e_mem84⟩ : ∃ z, z = va_up mem34 ((20 + 2 * Ec)) (.inr (2, [.int (k67), .int (lo68), .int (hi69), as70, .ref (ad (20 + 2 * kx35)), ne72, .ref (ad (21 + 2 * Ec))])) := ⟨_, rfl⟩
  have hP : va_P D vcl (fw n ad mem84) H := by rw [e_mem84]; exact hP
  have hD : va_D (Az sz) (fw n ad mem84) := fw_D hD
  have h_mem84 : mem84 ((20 + 2 * Ec)) = .inr (2, [.int (k67), .int (lo68), .int (hi69), as70, .ref (ad (20 + 2 * kx35)), ne72, .ref (ad (21 + 2 * Ec))]) := by rw [e_mem84, va_up_self]
  have hh85 := (va_up_ne mem34 (.inr (2, [.int (k67), .int (lo68), .int (hi69), as70, .ref (ad (20 + 2 * kx35)), ne72, .ref (ad (21 + 2 * Ec))])) (show (222 : Nat) ≠ (20 + 2 * Ec) by first | decide | assumption | omega)).trans h9_57
  rw [← e_mem84] at hh85
  have hh86 := (va_up_ne mem34 (.inr (2, [.int (k67), .int (lo68), .int (hi69), as70, .ref (ad (20 + 2 * kx35)), ne72, .ref (ad (21 + 2 * Ec))])) (show (1 : Nat) ≠ (20 + 2 * Ec) by first | decide | assumption | omega)).trans h1_58
  rw [← e_mem84] at hh86
  have hh87 := (va_up_ne mem34 (.inr (2, [.int (k67), .int (lo68), .int (hi69), as70, .ref (ad (20 + 2 * kx35)), ne72, .ref (ad (21 + 2 * Ec))])) (show (5 : Nat) ≠ (20 + 2 * Ec) by first | decide | assumption | omega)).trans h5_60
  rw [← e_mem84] at hh87
  have hh88 := (va_up_ne mem34 (.inr (2, [.int (k67), .int (lo68), .int (hi69), as70, .ref (ad (20 + 2 * kx35)), ne72, .ref (ad (21 + 2 * Ec))])) (show (220 : Nat) ≠ (20 + 2 * Ec) by first | decide | assumption | omega)).trans h220_64
  rw [← e_mem84] at hh88
  have hh89 := (va_up_ne mem34 (.inr (2, [.int (k67), .int (lo68), .int (hi69), as70, .ref (ad (20 + 2 * kx35)), ne72, .ref (ad (21 + 2 * Ec))])) (show ((20 + 2 * kx35) : Nat) ≠ (20 + 2 * Ec) by first | decide | assumption | omega)).trans he_81
  rw [← e_mem84] at hh89
  have hRX90 : RX cy ad lim (g52) (R37) (E38) (to41) (nn40) m0 mem84 := by rw [e_mem84]; exact hRX49.el (by omega) (hRX49.1.mk (by omega) (hRX49.1.1.upEl (by omega) (fun q9 => ⟨(ho_74 q9).1, Or.inr ⟨kx35, by omega, by omega, rfl⟩, (ho_74 q9).2.2⟩)))
  refine lv_iconst (v := 0) Bx.1 Bx.2.1 d_Rd_readAlternatives_17 (by decide) ?_
  refine lv_istore (lv' := [(4, .int (0)), (3, .ref (ad (20 + 2 * kx35))), (2, .ref (ad (20 + 2 * Ec))), (0, .ref (ad 222)), (1, .int (3))]) Bx.1 Bx.2.1 d_Rd_readAlternatives_18 hl (by decide) rfl (fun ls hl => ?_)
  have loop91 : ∀ (d92 : Nat) (mem9 : Nat → va_E) (a1 : Nat) (R1 : Nat) (E1 : Nat) (A1 : Ro) (n1 : Nat → Int64) (to1 : Nat → Int32) (la : Nat) (k9 : Nat) (ls : Array Slot) (H : Heap) (locs : List Loc), (240 - k9 < d92) → (RX cy ad lim (gapF T Z a1) R1 E1 to1 n1 m0 mem9) → (a < a1 ∧ a1 ≤ Z ∧ R ≤ R1 ∧ Ec < la ∧ la < E1 ∧ k9 < a1 ∧ k9 ≤ 240 ∧ Ec < E1) → (Suc T Z (seqS T Z a u R (Ec + 1) 3 A nm) 3 R (A 235) (A 227) a1 R1 E1 A1 n1) → (TOK R R1 to to1) → (¬ (bgF (hereF Z T (gapF T Z a1)) = true ∧ a1 < gapF T Z a1)) → (va_P D vcl (fw n ad mem9) H) → (va_D (Az sz) (fw n ad mem9)) → (va_S (Az sz) s.heap H locs) → (lv_has ls 5 [(4, .int (nI k9)), (3, .ref (ad (20 + 2 * la))), (2, .ref (ad (20 + 2 * Ec))), (0, .ref (ad 222)), (1, .int (3))]) → W p l e (headSpec (Cond.code y_Rd_readAlternatives c_Rd_readAlternatives 5 (some (.object "AbnfChart$Element")) :: tg) ({ frames := 37, cells := 1, slots := 6, locals := 888 } : Room)).room s m [.ref (ad 222), .int (3)].toArray below meth c H locs 0 0 (vx_MQ below (QX (QR (fun r mem' => ∃ (k' a' R' E' : Nat) (A' : Ro) (nm' : Nat → Int64) (to' : Nat → Int32), r = ad (20 + 2 * k') ∧ Ec ≤ k' ∧ k' < E' ∧ R ≤ R' ∧ a < a' ∧ a' ≤ Z ∧ TOK R R' to to' ∧ RX cy ad lim (gapF T Z a') R' E' to' nm' m0 mem' ∧ Suc T Z (seqS T Z a u R (Ec + 1) 3 A nm) 3 R (A 235) (A 227) a' R' E' A' nm' ∧ bgF (hereF Z T a) = true ∧ Ec < 100 ∧ ¬ hereF Z T (gapF T Z a') = 47 ∧ ¬ (bgF (hereF Z T (gapF T Z a')) = true ∧ a' < gapF T Z a')) (PP D n ad) (Az sz))) (XQ D sz n ad (fun X mem' => ((X = cIA ∨ X = cIS) ∧ ∃ rc' ec' : Nat, RS cy ad lim rc' ec' m0 mem') ∧ (bgF (hereF Z T a) = false ∨ Ec = 100 ∨ (bgF (hereF Z T a) = true ∧ Ec < 100 ∧ Fai T Z (seqS T Z a u R (Ec + 1) 3 A nm))))) [.ref (ad 222), .int (3)].toArray s 1 6 (Az sz)) (F0 m 20 ls []) := by
    intro d92
    induction d92 with
    | zero => intro mem9 a1 R1 E1 A1 n1 to1 la k9 ls H locs hmeas99; exact absurd hmeas99 (Nat.not_lt_zero _)
    | succ d92 ih98 =>
      intro mem9 a1 R1 E1 A1 n1 to1 la k9 ls H locs hmeas99 hz93 hz94 hz95 hz96 hz97 hP hD hS hl
      obtain ⟨g1, eg1⟩ : ∃ z, z = gapF T Z a1 := ⟨_, rfl⟩
      rw [← eg1] at hz93
      have hge1 : a1 ≤ g1 := by rw [eg1]; exact gapF_ge T Z _
      have hbd8 := hz94
      have hle1 : g1 ≤ Z := by rw [eg1]; exact gapF_le T (by omega)
      obtain ⟨ft100, h9_101⟩ := hz93.2.1
      have h1_102 : mem9 1 = .inr (0, [.ref (ad 2), .int (nI Z)]) := (hz93.1.2.2 1 (by omega)).trans hT.1
      have h2_103 : mem9 2 = .inl (cy 0, 240, .inl f) := (hz93.1.2.2 2 (by omega)).trans hT.2.2
      have h5_104 := hz93.1.1.2.1
      have hbd110 := hz93.1.1.1
      obtain ⟨S105, g106, hS_107, h220_108, h221_109⟩ := hz93.1.1.2.2.2.2.2.2
      obtain ⟨k111, lo112, hi113, as114, pa115, ne116, he_117, ho_118⟩ := (hz93.1.1.2.2.2.2.2.1 la (by omega)).1
      obtain ⟨c1, u1, ho, hg, hk9, hs9⟩ := id hz95
      refine lv_iload Bx.1 Bx.2.1 d_Rd_readAlternatives_20 (lv_at hl 0 rfl) ?_
      refine lv_sipush (v := 240) Bx.1 Bx.2.1 d_Rd_readAlternatives_22 (by decide) ?_
      refine lv_icmp_ge Bx.1 Bx.2.1 d_Rd_readAlternatives_25 rfl (fun hb119 => ?_) (fun hb119 => ?_)
      · have hN120 : 240 ≤ k9 := (nI_leI (by omega) (by omega)).mp (show nI (240) ≤ nI (k9) from hb119)
        exact absurd hbd8 (by omega)
      · have hN121 : ¬ 240 ≤ k9 := fun q9 => hb119 (show nI (240) ≤ nI (k9) from (nI_leI (by omega) (by omega)).mpr q9)
        refine lv_aload_n Bx.1 Bx.2.1 d_Rd_readAlternatives_28 rfl (lv_at hl 3 rfl) ?_
        refine f_callVi (na := 0) (As := []) (rest := []) Bx hml E hP hD hS (by omega) h9_101 rfl (m_Rd_peekX l hn hT hf hz93 (by omega)) kw_353 kw_355 sel_Rd_peek kw_6 kw_356 (by decide +kernel) ⟨rfl, rfl⟩ ⟨Nat.le_of_ble_eq_true rfl, Nat.le_of_ble_eq_true rfl⟩ rfl hl.1 (Nat.le_of_ble_eq_true rfl) d_Rd_readAlternatives_29 ⟨Nat.le_of_ble_eq_true rfl, Nat.le_of_ble_eq_true rfl⟩ (fun r123 mem124 H locs hq hP hS => ?_)
        have hD : va_D (Az sz) (fw n ad mem124) := fw_D hD
        obtain ⟨hqe, hpk122⟩ := hq
        rw [hqe] at hP hD
        subst hpk122
        refine lv_bipush (v := 47) Bx.1 Bx.2.1 d_Rd_readAlternatives_32 (by decide) ?_
        refine lv_icmp_ne Bx.1 Bx.2.1 d_Rd_readAlternatives_34 rfl (fun hb126 => ?_) (fun hb126 => ?_)
        · refine lv_aload_n Bx.1 Bx.2.1 d_Rd_readAlternatives_72 rfl (lv_at hl 2 rfl) ?_
          exact x_aret hx hb hlocks hr (⟨Ec, a1, R1, E1, A1, n1, to1, rfl, by omega, by omega, by omega, by omega, by omega, hz96, by rw [← eg1]; exact hz93, hz95, hbg, hE9, by rw [← eg1]; exact hb126, hz97⟩) hP hS d_Rd_readAlternatives_73
        · have hlt127 := hereF_lt (by rw [hb126]; decide)
          have h47 : hereF Z T (gapF T Z a1) = 47 := by rw [← eg1]; exact hb126
          refine lv_aload_n Bx.1 Bx.2.1 d_Rd_readAlternatives_37 rfl (lv_at hl 3 rfl) ?_
          refine lv_dup Bx.1 Bx.2.1 d_Rd_readAlternatives_38 rfl ?_
          refine f_get Bx hP (by omega) h9_101 rfl inRd 2 (by decide) kw_146 rfl rfl d_Rd_readAlternatives_39 ?_
          refine lv_iconst (v := 1) Bx.1 Bx.2.1 d_Rd_readAlternatives_42 (by decide) ?_
          refine lv_iadd Bx.1 Bx.2.1 d_Rd_readAlternatives_43 ?_
          rw [show nI g1 + 1 = nI (g1 + 1) from nI_add (g1) (1)]
          refine f_put Bx hP hD hS (by omega) h9_101 rfl inRd tyRd okRd nmRd 2 (by decide) kw_146 rfl rfl rfl rfl (Nat.le_of_ble_eq_true rfl) d_Rd_readAlternatives_44 (fun H locs hP hS => ?_)
          obtain ⟨mem128, e_mem128⟩ : ∃ z, z = va_up mem9 (222) (.inr (4, [.ref (ad 1), .ref (ad 5), .int (nI (g1 + 1)), .int (ft100)])) := ⟨_, rfl⟩
          have hP : va_P D vcl (fw n ad mem128) H := by rw [e_mem128]; exact hP
          have hD : va_D (Az sz) (fw n ad mem128) := fw_D hD
          have h_mem128 : mem128 (222) = .inr (4, [.ref (ad 1), .ref (ad 5), .int (nI (g1 + 1)), .int (ft100)]) := by rw [e_mem128, va_up_self]
          have hh129 := (va_up_ne mem9 (.inr (4, [.ref (ad 1), .ref (ad 5), .int (nI (g1 + 1)), .int (ft100)])) (show (1 : Nat) ≠ 222 by first | decide | assumption | omega)).trans h1_102
          rw [← e_mem128] at hh129
          have hh130 := (va_up_ne mem9 (.inr (4, [.ref (ad 1), .ref (ad 5), .int (nI (g1 + 1)), .int (ft100)])) (show (5 : Nat) ≠ 222 by first | decide | assumption | omega)).trans h5_104
          rw [← e_mem128] at hh130
          have hh131 := (va_up_ne mem9 (.inr (4, [.ref (ad 1), .ref (ad 5), .int (nI (g1 + 1)), .int (ft100)])) (show (220 : Nat) ≠ 222 by first | decide | assumption | omega)).trans h220_108
          rw [← e_mem128] at hh131
          have hh132 := (va_up_ne mem9 (.inr (4, [.ref (ad 1), .ref (ad 5), .int (nI (g1 + 1)), .int (ft100)])) (show ((20 + 2 * la) : Nat) ≠ 222 by first | decide | assumption | omega)).trans he_117
          rw [← e_mem128] at hh132
          have hRX133 : RX cy ad lim (g1 + 1) (R1) (E1) (to1) (n1) m0 mem128 := by rw [e_mem128]; exact hz93.at
          refine lv_aload_n Bx.1 Bx.2.1 d_Rd_readAlternatives_47 rfl (lv_at hl 3 rfl) ?_
          refine f_callVi (na := 0) (As := []) (rest := []) Bx hml E hP hD hS (by omega) h_mem128 rfl (m_Rd_readGapX l hn hT hf hRX133 (by omega) (by omega)) kw_397 kw_399 sel_Rd_readGap kw_6 kw_400 (by decide +kernel) ⟨rfl, rfl⟩ ⟨Nat.le_of_ble_eq_true rfl, Nat.le_of_ble_eq_true rfl⟩ rfl hl.1 (Nat.le_of_ble_eq_true rfl) d_Rd_readAlternatives_48 ⟨Nat.le_of_ble_eq_true rfl, Nat.le_of_ble_eq_true rfl⟩ (fun r134 mem135 H locs hq hP hS => ?_)
          have hD : va_D (Az sz) (fw n ad mem135) := fw_D hD
          obtain ⟨g136, eg137⟩ : ∃ z, z = gapF T Z (g1 + 1) := ⟨_, rfl⟩
          rw [← eg137] at hq
          obtain ⟨hRX138, hgc139⟩ := hq
          have hg140 : g1 + 1 ≤ g136 := by rw [eg137]; exact gapF_ge T Z _
          have hg141 : g136 ≤ Z := by rw [eg137]; exact gapF_le T (by omega)
          obtain ⟨ft142, h9_143⟩ := hRX138.2.1
          have h1_144 : mem135 1 = .inr (0, [.ref (ad 2), .int (nI Z)]) := (hRX138.1.2.2 1 (by omega)).trans hT.1
          have h2_145 : mem135 2 = .inl (cy 0, 240, .inl f) := (hRX138.1.2.2 2 (by omega)).trans hT.2.2
          have h5_146 := hRX138.1.1.2.1
          have hbd152 := hRX138.1.1.1
          obtain ⟨S147, g148, hS_149, h220_150, h221_151⟩ := hRX138.1.1.2.2.2.2.2.2
          obtain ⟨k153, lo154, hi155, as156, pa157, ne158, he_159, ho_160⟩ := (hRX138.1.1.2.2.2.2.2.1 la (by omega)).1
          refine lv_pop Bx.1 Bx.2.1 d_Rd_readAlternatives_51 rfl ?_
          refine lv_aload_n Bx.1 Bx.2.1 d_Rd_readAlternatives_52 rfl (lv_at hl 1 rfl) ?_
          refine lv_aload_n Bx.1 Bx.2.1 d_Rd_readAlternatives_53 rfl (lv_at hl 3 rfl) ?_
          refine lv_iload_n Bx.1 Bx.2.1 d_Rd_readAlternatives_54 rfl (lv_at hl 4 rfl) ?_
          refine f_xVr (na := 1) (As := [.int (3)]) (rest := [.ref (ad (20 + 2 * la))]) Bx hml E hP hD hS (by omega) h9_143 rfl (m_Rd_readSequence_3X l hlt hn hT hf hRX138 (by omega) (u := u1) (A := A1) (by omega)) kw_435 kw_437 sel_Rd_readSequence kw_6 kw_438 (by decide +kernel) ⟨rfl, rfl⟩ ⟨Nat.le_of_ble_eq_true rfl, Nat.le_of_ble_eq_true rfl⟩ rfl hl.1 (Nat.le_of_ble_eq_true rfl) d_Rd_readAlternatives_55 ⟨Nat.le_of_ble_eq_true rfl, Nat.le_of_ble_eq_true rfl⟩ (fun X ce q9 memx H locs hx9 hP hS g1 g2 g3 => f_out hlocks hno hP hS g1 g2 g3 ⟨Nat.le_of_ble_eq_true rfl, Nat.le_of_ble_eq_true rfl⟩ ⟨hx9.1, Or.inr (Or.inr ⟨hbg, hE9, Fai.go ho hg (go_sl h47) (by rw [← eg1, ← eg137]; exact hx9.2)⟩)⟩) (fun r161 mem162 H locs hq hP hS => ?_)
          have hD : va_D (Az sz) (fw n ad mem162) := fw_D hD
          obtain ⟨kx163, a164, R165, E166, A167, nn168, to169, hr9170, hb171, hb172, hb173, hb174, hb175, htk176, hRX177, hsc178, hnb179⟩ := hq
          subst hr9170
          obtain ⟨g180, eg181⟩ : ∃ z, z = gapF T Z a164 := ⟨_, rfl⟩
          have hg182 : a164 ≤ g180 := by rw [eg181]; exact gapF_ge T Z _
          have hg183 : g180 ≤ Z := by rw [eg181]; exact gapF_le T (by omega)
          rw [← eg181] at hRX177
          obtain ⟨ft184, h9_185⟩ := hRX177.2.1
          have h1_186 : mem162 1 = .inr (0, [.ref (ad 2), .int (nI Z)]) := (hRX177.1.2.2 1 (by omega)).trans hT.1
          have h2_187 : mem162 2 = .inl (cy 0, 240, .inl f) := (hRX177.1.2.2 2 (by omega)).trans hT.2.2
          have h5_188 := hRX177.1.1.2.1
          have hbd194 := hRX177.1.1.1
          obtain ⟨S189, g190, hS_191, h220_192, h221_193⟩ := hRX177.1.1.2.2.2.2.2.2
          obtain ⟨k195, lo196, hi197, as198, pa199, ne200, he_201, ho_202⟩ := (hRX177.1.1.2.2.2.2.2.1 la (by omega)).1
          obtain ⟨k203, lo204, hi205, as206, pa207, ne208, he_209, ho_210⟩ := (hRX177.1.1.2.2.2.2.2.1 kx163 (by omega)).1
          have hbd211 := hRX177.1.1.1
          have hsuc3 := Suc.go ho hg hk9 hs9 (by omega) (go_sl h47) (by rw [← eg1, ← eg137]; exact hsc178)
          have htk3 := hz96.trans htk176 (by omega)
          refine f_putN Bx hP hD hS (by omega) he_201 rfl inEl tyEl okEl nmEl 5 (by decide) kw_91 rfl rfl rfl rfl (Nat.le_of_ble_eq_true rfl) d_Rd_readAlternatives_58 (fun H locs hP hS => ?_)
          obtain ⟨mem212, e_mem212⟩ : ∃ z, z = va_up mem162 ((20 + 2 * la)) (.inr (2, [.int (k195), .int (lo196), .int (hi197), as198, pa199, .ref (ad (20 + 2 * kx163)), .ref (ad (21 + 2 * la))])) := ⟨_, rfl⟩
          have hP : va_P D vcl (fw n ad mem212) H := by rw [e_mem212]; exact hP
          have hD : va_D (Az sz) (fw n ad mem212) := fw_D hD
          have h_mem212 : mem212 ((20 + 2 * la)) = .inr (2, [.int (k195), .int (lo196), .int (hi197), as198, pa199, .ref (ad (20 + 2 * kx163)), .ref (ad (21 + 2 * la))]) := by rw [e_mem212, va_up_self]
          have hh213 := (va_up_ne mem162 (.inr (2, [.int (k195), .int (lo196), .int (hi197), as198, pa199, .ref (ad (20 + 2 * kx163)), .ref (ad (21 + 2 * la))])) (show (222 : Nat) ≠ (20 + 2 * la) by first | decide | assumption | omega)).trans h9_185
          rw [← e_mem212] at hh213
          have hh214 := (va_up_ne mem162 (.inr (2, [.int (k195), .int (lo196), .int (hi197), as198, pa199, .ref (ad (20 + 2 * kx163)), .ref (ad (21 + 2 * la))])) (show (1 : Nat) ≠ (20 + 2 * la) by first | decide | assumption | omega)).trans h1_186
          rw [← e_mem212] at hh214
          have hh215 := (va_up_ne mem162 (.inr (2, [.int (k195), .int (lo196), .int (hi197), as198, pa199, .ref (ad (20 + 2 * kx163)), .ref (ad (21 + 2 * la))])) (show (5 : Nat) ≠ (20 + 2 * la) by first | decide | assumption | omega)).trans h5_188
          rw [← e_mem212] at hh215
          have hh216 := (va_up_ne mem162 (.inr (2, [.int (k195), .int (lo196), .int (hi197), as198, pa199, .ref (ad (20 + 2 * kx163)), .ref (ad (21 + 2 * la))])) (show (220 : Nat) ≠ (20 + 2 * la) by first | decide | assumption | omega)).trans h220_192
          rw [← e_mem212] at hh216
          have hh217 := (va_up_ne mem162 (.inr (2, [.int (k195), .int (lo196), .int (hi197), as198, pa199, .ref (ad (20 + 2 * kx163)), .ref (ad (21 + 2 * la))])) (show ((20 + 2 * kx163) : Nat) ≠ (20 + 2 * la) by first | decide | assumption | omega)).trans he_209
          rw [← e_mem212] at hh217
          have hRX218 : RX cy ad lim (g180) (R165) (E166) (to169) (nn168) m0 mem212 := by rw [e_mem212]; exact hRX177.el (by omega) (hRX177.1.mk (by omega) (hRX177.1.1.upEl (by omega) (fun q9 => ⟨(ho_202 q9).1, (ho_202 q9).2.1, Or.inr ⟨kx163, by omega, by omega, rfl⟩⟩)))
          refine lv_aload_n Bx.1 Bx.2.1 d_Rd_readAlternatives_61 rfl (lv_at hl 1 rfl) ?_
          refine f_getN Bx hP (by omega) h_mem212 rfl inEl 5 (by decide) kw_91 rfl rfl d_Rd_readAlternatives_62 ?_
          refine lv_astore_n (lv' := [(3, .ref (ad (20 + 2 * kx163))), (4, .int (nI k9)), (2, .ref (ad (20 + 2 * Ec))), (0, .ref (ad 222)), (1, .int (3))]) Bx.1 Bx.2.1 d_Rd_readAlternatives_65 rfl hl (by decide) rfl (fun ls hl => ?_)
          refine lv_iinc (lv' := [(4, .int ((nI k9 + (1)))), (3, .ref (ad (20 + 2 * kx163))), (2, .ref (ad (20 + 2 * Ec))), (0, .ref (ad 222)), (1, .int (3))]) Bx.1 Bx.2.1 d_Rd_readAlternatives_66 hl (k := 1) rfl rfl (by decide) rfl (fun ls hl => ?_)
          rw [show (nI k9 + (1) : Int32) = nI (k9 + 1) from nI_1 (k9)] at hl
          refine lv_goto Bx.1 Bx.2.1 d_Rd_readAlternatives_69 rfl ?_
          exact ih98 mem212 (a164) (R165) (E166) (A167) (nn168) (to169) (kx163) (k9 + 1) _ _ _ (by have := hmeas99; omega) (by rw [← eg181]; exact hRX218) (⟨by omega, by omega, by omega, by omega, by omega, by omega, by omega, by omega⟩) (hsuc3) (htk3) (hnb179) hP hD hS (lv_sub hl [0, 1, 2, 3, 4] rfl)
  exact loop91 _ mem84 (a36) (R37) (E38) (A39) (nn40) (to41) (kx35) (0) _ _ _ (Nat.lt_succ_self _) (by rw [← eg53]; exact hRX90) (⟨by omega, by omega, by omega, by omega, by omega, by omega, by omega, by omega⟩) (hsc50) (htk48) (hnb51) hP hD hS (lv_sub hl [0, 1, 2, 3, 4] rfl)
set_option maxHeartbeats 4000000 in
set_option maxRecDepth 100000 in
theorem m_Rd_readBracket_2X (l : Launch) {D : va_G} {cy : Nat → ClassId} {sz n : Nat} {ad : Nat → Nat} {mem : Nat → va_E} {Z a R Ec lim : Nat} {f T : Nat → Int32} {to : Nat → Int32} {nm : Nat → Int64} {m0 : Nat → va_E} {u : Nat} {A : Ro} {what oe en : Int32} (hlt : l.stackTraces = false) (hn : 224 ≤ n) (hT : TX cy ad Z f m0) (hf : ∀ k, k < Z → f k = T k) (hRX : RX cy ad lim a R Ec to nm m0 mem) (haB : a ≤ 300) (haZ : a < Z) (hwe : (what = 1 ∧ en = 41) ∨ (what = 2 ∧ en = 93)) : NXr l D cy sz n ad y_Rd_readBracket c_Rd_readBracket 4 (some (.object "AbnfChart$Element")) ({ frames := 38, cells := 1, slots := 6, locals := 920 } : Room) mem [.ref (ad 222), .int (2), .int (en)] (fun r mem' => ∃ (k' a' R' E' : Nat) (A' : Ro) (nm' : Nat → Int64) (to' : Nat → Int32), r = ad (20 + 2 * k') ∧ Ec ≤ k' ∧ k' < E' ∧ R ≤ R' ∧ a < a' ∧ a' ≤ Z ∧ TOK R R' to to' ∧ RX cy ad lim a' R' E' to' nm' m0 mem' ∧ Suc T Z (entS T Z (a + 1) u R Ec 3 A nm what oe) 2 R (A 235) (A 227) a' R' E' A' nm') (fun X mem' => ((X = cIA ∨ X = cIS) ∧ ∃ rc' ec' : Nat, RS cy ad lim rc' ec' m0 mem') ∧ (Fai T Z (entS T Z (a + 1) u R Ec 3 A nm what oe))) := by
  refine vx_ofW (cc := c_Rd_readBracket) (maxL := 4) (ret := (some (.object "AbnfChart$Element"))) (by decide) rfl ?_
  intro p e s m args below meth c s₁ B hml hno hv
  obtain ⟨rfl, E, hP, hD⟩ := hv
  have hx := B.exec
  have hb := B.bytes
  have hr := B.returns
  have hlocks := B.notSynchronized
  have Bx : MB p s m [.ref (ad 222), .int (2), .int (en)].toArray c c_Rd_readBracket "AbnfChart$Reader" D cy := ⟨hx, hb, tb_all (atoms_spec B.pre) E.2.1, findClass_of_methodNamed B.named, E.1⟩
  have hS : va_S (Az sz) s.heap s.heap [] := va_S.rf
  have hl := lv_entry ([.ref (ad 222), .int (2), .int (en)]) (n := 4) (Nat.le_of_ble_eq_true rfl)
  rw [lg_entry_eq]
  generalize (lg_sl ([.ref (ad 222), .int (2), .int (en)]) ++ List.replicate (4 - (lg_sl ([.ref (ad 222), .int (2), .int (en)])).length) Slot.unset).toArray = ls at hl ⊢
  have hl : lv_has ls 4 [(0, .ref (ad 222)), (1, .int (2)), (2, .int (en))] := hl
  have hZ9 := hT.2.1
  have hbd9 := hRX.1.1.1
  obtain ⟨ft1, h9_2⟩ := hRX.2.1
  have h1_3 : mem 1 = .inr (0, [.ref (ad 2), .int (nI Z)]) := (hRX.1.2.2 1 (by omega)).trans hT.1
  have h2_4 : mem 2 = .inl (cy 0, 240, .inl f) := (hRX.1.2.2 2 (by omega)).trans hT.2.2
  have h5_5 := hRX.1.1.2.1
  have hbd11 := hRX.1.1.1
  obtain ⟨S6, g7, hS_8, h220_9, h221_10⟩ := hRX.1.1.2.2.2.2.2.2
  refine lv_aload_n Bx.1 Bx.2.1 d_Rd_readBracket_0 rfl (lv_at hl 0 rfl) ?_
  refine lv_iload_n Bx.1 Bx.2.1 d_Rd_readBracket_1 rfl (lv_at hl 1 rfl) ?_
  refine lv_bipush (v := 6) Bx.1 Bx.2.1 d_Rd_readBracket_2 (by decide) ?_
  refine lv_icmp_ge Bx.1 Bx.2.1 d_Rd_readBracket_4 rfl (fun hb12 => ?_) (fun hb12 => ?_)
  · exact absurd hb12 (by decide)
  · refine lv_iconst (v := 1) Bx.1 Bx.2.1 d_Rd_readBracket_7 (by decide) ?_
    refine lv_goto Bx.1 Bx.2.1 d_Rd_readBracket_8 rfl ?_
    refine lv_aload_n Bx.1 Bx.2.1 d_Rd_readBracket_12 rfl (lv_at hl 0 rfl) ?_
    refine f_get Bx hP (by omega) h9_2 rfl inRd 2 (by decide) kw_146 rfl rfl d_Rd_readBracket_13 ?_
    refine f_xVv (na := 2) (As := [.int (1), .int (nI a)]) (rest := []) Bx hml E hP hD hS (by omega) h9_2 rfl (m_Rd_needRoomX l hlt hn hT hf hRX (by omega)) kw_383 kw_385 sel_Rd_needRoom kw_6 kw_386 (by decide +kernel) ⟨rfl, rfl⟩ ⟨Nat.le_of_ble_eq_true rfl, Nat.le_of_ble_eq_true rfl⟩ rfl hl.1 (Nat.le_of_ble_eq_true rfl) d_Rd_readBracket_16 ⟨Nat.le_of_ble_eq_true rfl, Nat.le_of_ble_eq_true rfl⟩ (fun X ce q9 memx H locs hx9 hP hS g1 g2 g3 => f_out hlocks hno hP hS g1 g2 g3 ⟨Nat.le_of_ble_eq_true rfl, Nat.le_of_ble_eq_true rfl⟩ ⟨hx9.1, absurd hx9.2 (by decide)⟩) (fun mem14 H locs hq hP hS => ?_)
    have hD : va_D (Az sz) (fw n ad mem14) := fw_D hD
    obtain ⟨hqe, hg15⟩ := hq
    rw [hqe] at hP hD
    refine lv_aload_n Bx.1 Bx.2.1 d_Rd_readBracket_19 rfl (lv_at hl 0 rfl) ?_
    refine lv_dup Bx.1 Bx.2.1 d_Rd_readBracket_20 rfl ?_
    refine f_get Bx hP (by omega) h9_2 rfl inRd 2 (by decide) kw_146 rfl rfl d_Rd_readBracket_21 ?_
    refine lv_iconst (v := 1) Bx.1 Bx.2.1 d_Rd_readBracket_24 (by decide) ?_
    refine lv_iadd Bx.1 Bx.2.1 d_Rd_readBracket_25 ?_
    rw [show nI a + 1 = nI (a + 1) from nI_add (a) (1)]
    refine f_put Bx hP hD hS (by omega) h9_2 rfl inRd tyRd okRd nmRd 2 (by decide) kw_146 rfl rfl rfl rfl (Nat.le_of_ble_eq_true rfl) d_Rd_readBracket_26 (fun H locs hP hS => ?_)
    obtain ⟨mem16, e_mem16⟩ : ∃ z, z = va_up mem (222) (.inr (4, [.ref (ad 1), .ref (ad 5), .int (nI (a + 1)), .int (ft1)])) := ⟨_, rfl⟩
    have hP : va_P D vcl (fw n ad mem16) H := by rw [e_mem16]; exact hP
    have hD : va_D (Az sz) (fw n ad mem16) := fw_D hD
    have h_mem16 : mem16 (222) = .inr (4, [.ref (ad 1), .ref (ad 5), .int (nI (a + 1)), .int (ft1)]) := by rw [e_mem16, va_up_self]
    have hh17 := (va_up_ne mem (.inr (4, [.ref (ad 1), .ref (ad 5), .int (nI (a + 1)), .int (ft1)])) (show (1 : Nat) ≠ 222 by first | decide | assumption | omega)).trans h1_3
    rw [← e_mem16] at hh17
    have hh18 := (va_up_ne mem (.inr (4, [.ref (ad 1), .ref (ad 5), .int (nI (a + 1)), .int (ft1)])) (show (5 : Nat) ≠ 222 by first | decide | assumption | omega)).trans h5_5
    rw [← e_mem16] at hh18
    have hh19 := (va_up_ne mem (.inr (4, [.ref (ad 1), .ref (ad 5), .int (nI (a + 1)), .int (ft1)])) (show (220 : Nat) ≠ 222 by first | decide | assumption | omega)).trans h220_9
    rw [← e_mem16] at hh19
    have hRX20 : RX cy ad lim (a + 1) (R) (Ec) (to) (nm) m0 mem16 := by rw [e_mem16]; exact hRX.at
    refine lv_aload_n Bx.1 Bx.2.1 d_Rd_readBracket_29 rfl (lv_at hl 0 rfl) ?_
    refine f_callVi (na := 0) (As := []) (rest := []) Bx hml E hP hD hS (by omega) h_mem16 rfl (m_Rd_readGapX l hn hT hf hRX20 (by omega) (by omega)) kw_397 kw_399 sel_Rd_readGap kw_6 kw_400 (by decide +kernel) ⟨rfl, rfl⟩ ⟨Nat.le_of_ble_eq_true rfl, Nat.le_of_ble_eq_true rfl⟩ rfl hl.1 (Nat.le_of_ble_eq_true rfl) d_Rd_readBracket_30 ⟨Nat.le_of_ble_eq_true rfl, Nat.le_of_ble_eq_true rfl⟩ (fun r21 mem22 H locs hq hP hS => ?_)
    have hD : va_D (Az sz) (fw n ad mem22) := fw_D hD
    obtain ⟨g23, eg24⟩ : ∃ z, z = gapF T Z (a + 1) := ⟨_, rfl⟩
    rw [← eg24] at hq
    obtain ⟨hRX25, hgc26⟩ := hq
    have hg27 : a + 1 ≤ g23 := by rw [eg24]; exact gapF_ge T Z _
    have hg28 : g23 ≤ Z := by rw [eg24]; exact gapF_le T (by omega)
    obtain ⟨ft29, h9_30⟩ := hRX25.2.1
    have h1_31 : mem22 1 = .inr (0, [.ref (ad 2), .int (nI Z)]) := (hRX25.1.2.2 1 (by omega)).trans hT.1
    have h2_32 : mem22 2 = .inl (cy 0, 240, .inl f) := (hRX25.1.2.2 2 (by omega)).trans hT.2.2
    have h5_33 := hRX25.1.1.2.1
    have hbd39 := hRX25.1.1.1
    obtain ⟨S34, g35, hS_36, h220_37, h221_38⟩ := hRX25.1.1.2.2.2.2.2.2
    refine lv_pop Bx.1 Bx.2.1 d_Rd_readBracket_33 rfl ?_
    refine lv_aload_n Bx.1 Bx.2.1 d_Rd_readBracket_34 rfl (lv_at hl 0 rfl) ?_
    refine lv_iload_n Bx.1 Bx.2.1 d_Rd_readBracket_35 rfl (lv_at hl 1 rfl) ?_
    refine lv_iconst (v := 1) Bx.1 Bx.2.1 d_Rd_readBracket_36 (by decide) ?_
    refine lv_iadd Bx.1 Bx.2.1 d_Rd_readBracket_37 ?_
    rw [show (2 + 1 : Int32) = 3 from rfl]
    refine f_xVr (na := 1) (As := [.int (3)]) (rest := []) Bx hml E hP hD hS (by omega) h9_30 rfl (m_Rd_readAlternatives_3X l hlt hn hT hf hRX25 (by omega) (u := u) (A := entA A 3 Ec what oe) (by omega)) kw_405 kw_407 sel_Rd_readAlternatives kw_6 kw_408 (by decide +kernel) ⟨rfl, rfl⟩ ⟨Nat.le_of_ble_eq_true rfl, Nat.le_of_ble_eq_true rfl⟩ rfl hl.1 (Nat.le_of_ble_eq_true rfl) d_Rd_readBracket_38 ⟨Nat.le_of_ble_eq_true rfl, Nat.le_of_ble_eq_true rfl⟩ (fun X ce q9 memx H locs hx9 hP hS g1 g2 g3 => f_out hlocks hno hP hS g1 g2 g3 ⟨Nat.le_of_ble_eq_true rfl, Nat.le_of_ble_eq_true rfl⟩ ⟨hx9.1, hx9.2.elim (fun z => Or.inl (entS_no (Or.inl (by rw [← eg24]; exact z)))) (fun z => z.elim (fun z => Or.inl (entS_no (Or.inr z))) (fun z => Fai.br0 (by rw [ent_ok (by rw [← eg24]; exact z.1) z.2.1, ← eg24]) z.2.2))⟩) (fun r40 mem41 H locs hq hP hS => ?_)
    have hD : va_D (Az sz) (fw n ad mem41) := fw_D hD
    obtain ⟨kx42, a43, R44, E45, A46, nn47, to48, hr949, hb50, hb51, hb52, hb53, hb54, htk55, hRX56, hsc57, hbg58, hE59, h4760, hnb61⟩ := hq
    subst hr949
    obtain ⟨g62, eg63⟩ : ∃ z, z = gapF T Z a43 := ⟨_, rfl⟩
    have hg64 : a43 ≤ g62 := by rw [eg63]; exact gapF_ge T Z _
    have hg65 : g62 ≤ Z := by rw [eg63]; exact gapF_le T (by omega)
    rw [← eg63] at hRX56
    obtain ⟨ft66, h9_67⟩ := hRX56.2.1
    have h1_68 : mem41 1 = .inr (0, [.ref (ad 2), .int (nI Z)]) := (hRX56.1.2.2 1 (by omega)).trans hT.1
    have h2_69 : mem41 2 = .inl (cy 0, 240, .inl f) := (hRX56.1.2.2 2 (by omega)).trans hT.2.2
    have h5_70 := hRX56.1.1.2.1
    have hbd76 := hRX56.1.1.1
    obtain ⟨S71, g72, hS_73, h220_74, h221_75⟩ := hRX56.1.1.2.2.2.2.2.2
    obtain ⟨k77, lo78, hi79, as80, pa81, ne82, he_83, ho_84⟩ := (hRX56.1.1.2.2.2.2.2.1 kx42 (by omega)).1
    have hbd85 := hRX56.1.1.1
    have hent : entS T Z (a + 1) u R Ec 3 A nm what oe = some (g23, u, R, Ec + 1, 3, entA A 3 Ec what oe, nm, true) := by rw [ent_ok (by rw [← eg24]; exact hbg58) hE59, ← eg24]
    have hA5 : A46 235 3 = what := by
      obtain ⟨c1, u1, ho, hg, hk, hs⟩ := hsc57
      rw [hk 3 (by omega), entA_5, upd_self]
    refine lv_astore_n (lv' := [(3, .ref (ad (20 + 2 * kx42))), (0, .ref (ad 222)), (1, .int (2)), (2, .int (en))]) Bx.1 Bx.2.1 d_Rd_readBracket_41 rfl hl (by decide) rfl (fun ls hl => ?_)
    refine lv_aload_n Bx.1 Bx.2.1 d_Rd_readBracket_42 rfl (lv_at hl 1 rfl) ?_
    refine lv_aload_n Bx.1 Bx.2.1 d_Rd_readBracket_43 rfl (lv_at hl 1 rfl) ?_
    refine f_callVi (na := 0) (As := []) (rest := [.ref (ad 222)]) Bx hml E hP hD hS (by omega) h9_67 rfl (m_Rd_peekX l hn hT hf hRX56 (by omega)) kw_353 kw_355 sel_Rd_peek kw_6 kw_356 (by decide +kernel) ⟨rfl, rfl⟩ ⟨Nat.le_of_ble_eq_true rfl, Nat.le_of_ble_eq_true rfl⟩ rfl hl.1 (Nat.le_of_ble_eq_true rfl) d_Rd_readBracket_44 ⟨Nat.le_of_ble_eq_true rfl, Nat.le_of_ble_eq_true rfl⟩ (fun r87 mem88 H locs hq hP hS => ?_)
    have hD : va_D (Az sz) (fw n ad mem88) := fw_D hD
    obtain ⟨hqe, hpk86⟩ := hq
    rw [hqe] at hP hD
    subst hpk86
    refine lv_iload_n Bx.1 Bx.2.1 d_Rd_readBracket_47 rfl (lv_at hl 3 rfl) ?_
    refine lv_icmp_ne Bx.1 Bx.2.1 d_Rd_readBracket_48 rfl (fun hb90 => ?_) (fun hb90 => ?_)
    · refine lv_iconst (v := 0) Bx.1 Bx.2.1 d_Rd_readBracket_55 (by decide) ?_
      refine lv_aload_n Bx.1 Bx.2.1 d_Rd_readBracket_56 rfl (lv_at hl 1 rfl) ?_
      refine f_get Bx hP (by omega) h9_67 rfl inRd 2 (by decide) kw_146 rfl rfl d_Rd_readBracket_57 ?_
      refine f_xVv (na := 2) (As := [.int (0), .int (nI g62)]) (rest := []) Bx hml E hP hD hS (by omega) h9_67 rfl (m_Rd_needReadableX l hlt hn hT hf hRX56 (by omega)) kw_360 kw_362 sel_Rd_needReadable kw_6 kw_363 (by decide +kernel) ⟨rfl, rfl⟩ ⟨Nat.le_of_ble_eq_true rfl, Nat.le_of_ble_eq_true rfl⟩ rfl hl.1 (Nat.le_of_ble_eq_true rfl) d_Rd_readBracket_60 ⟨Nat.le_of_ble_eq_true rfl, Nat.le_of_ble_eq_true rfl⟩ (fun X ce q9 memx H locs hx9 hP hS g1 g2 g3 => f_out hlocks hno hP hS g1 g2 g3 ⟨Nat.le_of_ble_eq_true rfl, Nat.le_of_ble_eq_true rfl⟩ ⟨hx9.1, Fai.br1 hent hsc57 (br_no hwe hA5 (by rw [← eg63]; exact hb90) h4760 hnb61)⟩) (fun mem92 H locs hq hP hS => ?_)
      have hD : va_D (Az sz) (fw n ad mem92) := fw_D hD
      obtain ⟨hqe, hg93⟩ := hq
      rw [hqe] at hP hD
      exact absurd rfl hg93
    · refine lv_iconst (v := 1) Bx.1 Bx.2.1 d_Rd_readBracket_51 (by decide) ?_
      refine lv_goto Bx.1 Bx.2.1 d_Rd_readBracket_52 rfl ?_
      refine lv_aload_n Bx.1 Bx.2.1 d_Rd_readBracket_56 rfl (lv_at hl 1 rfl) ?_
      refine f_get Bx hP (by omega) h9_67 rfl inRd 2 (by decide) kw_146 rfl rfl d_Rd_readBracket_57 ?_
      refine f_xVv (na := 2) (As := [.int (1), .int (nI g62)]) (rest := []) Bx hml E hP hD hS (by omega) h9_67 rfl (m_Rd_needReadableX l hlt hn hT hf hRX56 (by omega)) kw_360 kw_362 sel_Rd_needReadable kw_6 kw_363 (by decide +kernel) ⟨rfl, rfl⟩ ⟨Nat.le_of_ble_eq_true rfl, Nat.le_of_ble_eq_true rfl⟩ rfl hl.1 (Nat.le_of_ble_eq_true rfl) d_Rd_readBracket_60 ⟨Nat.le_of_ble_eq_true rfl, Nat.le_of_ble_eq_true rfl⟩ (fun X ce q9 memx H locs hx9 hP hS g1 g2 g3 => f_out hlocks hno hP hS g1 g2 g3 ⟨Nat.le_of_ble_eq_true rfl, Nat.le_of_ble_eq_true rfl⟩ ⟨hx9.1, absurd hx9.2 (by decide)⟩) (fun mem95 H locs hq hP hS => ?_)
      have hD : va_D (Az sz) (fw n ad mem95) := fw_D hD
      obtain ⟨hqe, hg96⟩ := hq
      rw [hqe] at hP hD
      refine lv_aload_n Bx.1 Bx.2.1 d_Rd_readBracket_63 rfl (lv_at hl 1 rfl) ?_
      refine lv_dup Bx.1 Bx.2.1 d_Rd_readBracket_64 rfl ?_
      refine f_get Bx hP (by omega) h9_67 rfl inRd 2 (by decide) kw_146 rfl rfl d_Rd_readBracket_65 ?_
      refine lv_iconst (v := 1) Bx.1 Bx.2.1 d_Rd_readBracket_68 (by decide) ?_
      refine lv_iadd Bx.1 Bx.2.1 d_Rd_readBracket_69 ?_
      rw [show nI g62 + 1 = nI (g62 + 1) from nI_add (g62) (1)]
      refine f_put Bx hP hD hS (by omega) h9_67 rfl inRd tyRd okRd nmRd 2 (by decide) kw_146 rfl rfl rfl rfl (Nat.le_of_ble_eq_true rfl) d_Rd_readBracket_70 (fun H locs hP hS => ?_)
      obtain ⟨mem97, e_mem97⟩ : ∃ z, z = va_up mem41 (222) (.inr (4, [.ref (ad 1), .ref (ad 5), .int (nI (g62 + 1)), .int (ft66)])) := ⟨_, rfl⟩
      have hP : va_P D vcl (fw n ad mem97) H := by rw [e_mem97]; exact hP
      have hD : va_D (Az sz) (fw n ad mem97) := fw_D hD
      have h_mem97 : mem97 (222) = .inr (4, [.ref (ad 1), .ref (ad 5), .int (nI (g62 + 1)), .int (ft66)]) := by rw [e_mem97, va_up_self]
      have hh98 := (va_up_ne mem41 (.inr (4, [.ref (ad 1), .ref (ad 5), .int (nI (g62 + 1)), .int (ft66)])) (show (1 : Nat) ≠ 222 by first | decide | assumption | omega)).trans h1_68
      rw [← e_mem97] at hh98
      have hh99 := (va_up_ne mem41 (.inr (4, [.ref (ad 1), .ref (ad 5), .int (nI (g62 + 1)), .int (ft66)])) (show (5 : Nat) ≠ 222 by first | decide | assumption | omega)).trans h5_70
      rw [← e_mem97] at hh99
      have hh100 := (va_up_ne mem41 (.inr (4, [.ref (ad 1), .ref (ad 5), .int (nI (g62 + 1)), .int (ft66)])) (show (220 : Nat) ≠ 222 by first | decide | assumption | omega)).trans h220_74
      rw [← e_mem97] at hh100
      have hh101 := (va_up_ne mem41 (.inr (4, [.ref (ad 1), .ref (ad 5), .int (nI (g62 + 1)), .int (ft66)])) (show ((20 + 2 * kx42) : Nat) ≠ 222 by first | decide | assumption | omega)).trans he_83
      rw [← e_mem97] at hh101
      have hRX102 : RX cy ad lim (g62 + 1) (R44) (E45) (to48) (nn47) m0 mem97 := by rw [e_mem97]; exact hRX56.at
      refine lv_aload_n Bx.1 Bx.2.1 d_Rd_readBracket_73 rfl (lv_at hl 0 rfl) ?_
      obtain ⟨A29, hsuc9⟩ := Suc.br hent hsc57 (br_pop hwe hA5 (by rw [← eg63]; exact hb90)) (K := A 235) (fun i hi => by rw [entA_5]; exact upd_ne (by omega)) entA_7
      exact x_aret hx hb hlocks hr (⟨kx42, gapF T Z a43 + 1, R44, E45, A29, nn47, to48, rfl, by omega, by omega, by omega, by rw [← eg63]; omega, by rw [← eg63]; have := br_lt hwe hb90; omega, htk55, by rw [← eg63]; exact hRX102, hsuc9⟩) hP hS d_Rd_readBracket_74
set_option maxHeartbeats 4000000 in
set_option maxRecDepth 100000 in
theorem m_Rd_readOption_2X (l : Launch) {D : va_G} {cy : Nat → ClassId} {sz n : Nat} {ad : Nat → Nat} {mem : Nat → va_E} {Z a R Ec lim : Nat} {f T : Nat → Int32} {to : Nat → Int32} {nm : Nat → Int64} {m0 : Nat → va_E} {u : Nat} {A : Ro} (hlt : l.stackTraces = false) (hn : 224 ≤ n) (hT : TX cy ad Z f m0) (hf : ∀ k, k < Z → f k = T k) (hRX : RX cy ad lim a R Ec to nm m0 mem) (haB : a ≤ 300) (haZ : a < Z) : NXr l D cy sz n ad y_Rd_readOption c_Rd_readOption 3 (some (.object "AbnfChart$Element")) ({ frames := 39, cells := 1, slots := 6, locals := 943 } : Room) mem [.ref (ad 222), .int (2)] (fun r mem' => Ec < 100 ∧ ∃ (k' a' R' E' : Nat) (A' : Ro) (nm' : Nat → Int64) (to' : Nat → Int32), r = ad (20 + 2 * k') ∧ Ec ≤ k' ∧ k' < E' ∧ R ≤ R' ∧ a < a' ∧ a' ≤ Z ∧ TOK R R' to to' ∧ RX cy ad lim a' R' E' to' nm' m0 mem' ∧ Suc T Z (entS T Z (a + 1) u R (Ec + 1) 3 (elA A Ec 3) nm 2 (nI Ec)) 2 R (A 235) (A 227) a' R' E' A' nm') (fun X mem' => ((X = cIA ∨ X = cIS) ∧ ∃ rc' ec' : Nat, RS cy ad lim rc' ec' m0 mem') ∧ (Ec = 100 ∨ Fai T Z (entS T Z (a + 1) u R (Ec + 1) 3 (elA A Ec 3) nm 2 (nI Ec)))) := by
  refine vx_ofW (cc := c_Rd_readOption) (maxL := 3) (ret := (some (.object "AbnfChart$Element"))) (by decide) rfl ?_
  intro p e s m args below meth c s₁ B hml hno hv
  obtain ⟨rfl, E, hP, hD⟩ := hv
  have hx := B.exec
  have hb := B.bytes
  have hr := B.returns
  have hlocks := B.notSynchronized
  have Bx : MB p s m [.ref (ad 222), .int (2)].toArray c c_Rd_readOption "AbnfChart$Reader" D cy := ⟨hx, hb, tb_all (atoms_spec B.pre) E.2.1, findClass_of_methodNamed B.named, E.1⟩
  have hS : va_S (Az sz) s.heap s.heap [] := va_S.rf
  have hl := lv_entry ([.ref (ad 222), .int (2)]) (n := 3) (Nat.le_of_ble_eq_true rfl)
  rw [lg_entry_eq]
  generalize (lg_sl ([.ref (ad 222), .int (2)]) ++ List.replicate (3 - (lg_sl ([.ref (ad 222), .int (2)])).length) Slot.unset).toArray = ls at hl ⊢
  have hl : lv_has ls 3 [(0, .ref (ad 222)), (1, .int (2))] := hl
  have hZ9 := hT.2.1
  have hbd9 := hRX.1.1.1
  obtain ⟨ft1, h9_2⟩ := hRX.2.1
  have h1_3 : mem 1 = .inr (0, [.ref (ad 2), .int (nI Z)]) := (hRX.1.2.2 1 (by omega)).trans hT.1
  have h2_4 : mem 2 = .inl (cy 0, 240, .inl f) := (hRX.1.2.2 2 (by omega)).trans hT.2.2
  have h5_5 := hRX.1.1.2.1
  have hbd11 := hRX.1.1.1
  obtain ⟨S6, g7, hS_8, h220_9, h221_10⟩ := hRX.1.1.2.2.2.2.2.2
  refine lv_aload_n Bx.1 Bx.2.1 d_Rd_readOption_0 rfl (lv_at hl 0 rfl) ?_
  refine lv_iconst (v := 3) Bx.1 Bx.2.1 d_Rd_readOption_1 (by decide) ?_
  refine lv_aload_n Bx.1 Bx.2.1 d_Rd_readOption_2 rfl (lv_at hl 0 rfl) ?_
  refine f_get Bx hP (by omega) h9_2 rfl inRd 2 (by decide) kw_146 rfl rfl d_Rd_readOption_3 ?_
  refine f_xVr (na := 2) (As := [.int (3), .int (nI a)]) (rest := []) Bx hml E hP hD hS (by omega) h9_2 rfl (m_Rd_addElementX l hlt hn hT hf hRX (by omega)) kw_419 kw_421 sel_Rd_addElement kw_6 kw_422 (by decide +kernel) ⟨rfl, rfl⟩ ⟨Nat.le_of_ble_eq_true rfl, Nat.le_of_ble_eq_true rfl⟩ rfl hl.1 (Nat.le_of_ble_eq_true rfl) d_Rd_readOption_6 ⟨Nat.le_of_ble_eq_true rfl, Nat.le_of_ble_eq_true rfl⟩ (fun X ce q9 memx H locs hx9 hP hS g1 g2 g3 => f_out hlocks hno hP hS g1 g2 g3 ⟨Nat.le_of_ble_eq_true rfl, Nat.le_of_ble_eq_true rfl⟩ ⟨hx9.1, Or.inl hx9.2⟩) (fun r12 mem13 H locs hq hP hS => ?_)
  have hD : va_D (Az sz) (fw n ad mem13) := fw_D hD
  obtain ⟨hr916, hec15, hRX14⟩ := hq
  subst hr916
  obtain ⟨ft17, h9_18⟩ := hRX14.2.1
  have h1_19 : mem13 1 = .inr (0, [.ref (ad 2), .int (nI Z)]) := (hRX14.1.2.2 1 (by omega)).trans hT.1
  have h2_20 : mem13 2 = .inl (cy 0, 240, .inl f) := (hRX14.1.2.2 2 (by omega)).trans hT.2.2
  have h5_21 := hRX14.1.1.2.1
  have hbd27 := hRX14.1.1.1
  obtain ⟨S22, g23, hS_24, h220_25, h221_26⟩ := hRX14.1.1.2.2.2.2.2.2
  obtain ⟨k28, lo29, hi30, as31, pa32, ne33, he_34, ho_35⟩ := (hRX14.1.1.2.2.2.2.2.1 Ec (by omega)).1
  refine lv_astore_n (lv' := [(2, .ref (ad (20 + 2 * Ec))), (0, .ref (ad 222)), (1, .int (2))]) Bx.1 Bx.2.1 d_Rd_readOption_9 rfl hl (by decide) rfl (fun ls hl => ?_)
  refine lv_aload_n Bx.1 Bx.2.1 d_Rd_readOption_10 rfl (lv_at hl 0 rfl) ?_
  refine lv_aload_n Bx.1 Bx.2.1 d_Rd_readOption_11 rfl (lv_at hl 1 rfl) ?_
  refine lv_iload_n Bx.1 Bx.2.1 d_Rd_readOption_12 rfl (lv_at hl 2 rfl) ?_
  refine lv_bipush (v := 93) Bx.1 Bx.2.1 d_Rd_readOption_13 (by decide) ?_
  refine f_xVr (na := 2) (As := [.int (2), .int (93)]) (rest := [.ref (ad (20 + 2 * Ec))]) Bx hml E hP hD hS (by omega) h9_18 rfl (m_Rd_readBracket_2X l hlt hn hT hf hRX14 (by omega) (u := u) (A := elA A Ec 3) (by omega) (Or.inr ⟨rfl, rfl⟩)) kw_447 kw_449 sel_Rd_readBracket kw_6 kw_450 (by decide +kernel) ⟨rfl, rfl⟩ ⟨Nat.le_of_ble_eq_true rfl, Nat.le_of_ble_eq_true rfl⟩ rfl hl.1 (Nat.le_of_ble_eq_true rfl) d_Rd_readOption_15 ⟨Nat.le_of_ble_eq_true rfl, Nat.le_of_ble_eq_true rfl⟩ (fun X ce q9 memx H locs hx9 hP hS g1 g2 g3 => f_out hlocks hno hP hS g1 g2 g3 ⟨Nat.le_of_ble_eq_true rfl, Nat.le_of_ble_eq_true rfl⟩ ⟨hx9.1, Or.inr hx9.2⟩) (fun r36 mem37 H locs hq hP hS => ?_)
  have hD : va_D (Az sz) (fw n ad mem37) := fw_D hD
  obtain ⟨kx38, a39, R40, E41, A42, nn43, to44, hr945, hb46, hb47, hb48, hb49, hb50, htk51, hRX52, hsc53⟩ := hq
  subst hr945
  obtain ⟨ft54, h9_55⟩ := hRX52.2.1
  have h1_56 : mem37 1 = .inr (0, [.ref (ad 2), .int (nI Z)]) := (hRX52.1.2.2 1 (by omega)).trans hT.1
  have h2_57 : mem37 2 = .inl (cy 0, 240, .inl f) := (hRX52.1.2.2 2 (by omega)).trans hT.2.2
  have h5_58 := hRX52.1.1.2.1
  have hbd64 := hRX52.1.1.1
  obtain ⟨S59, g60, hS_61, h220_62, h221_63⟩ := hRX52.1.1.2.2.2.2.2.2
  obtain ⟨k65, lo66, hi67, as68, pa69, ne70, he_71, ho_72⟩ := (hRX52.1.1.2.2.2.2.2.1 Ec (by omega)).1
  obtain ⟨k73, lo74, hi75, as76, pa77, ne78, he_79, ho_80⟩ := (hRX52.1.1.2.2.2.2.2.1 kx38 (by omega)).1
  have hbd81 := hRX52.1.1.1
  refine f_putN Bx hP hD hS (by omega) he_71 rfl inEl tyEl okEl nmEl 4 (by decide) kw_87 rfl rfl rfl rfl (Nat.le_of_ble_eq_true rfl) d_Rd_readOption_18 (fun H locs hP hS => ?_)
  obtain ⟨mem82, e_mem82⟩ : ∃ z, z = va_up mem37 ((20 + 2 * Ec)) (.inr (2, [.int (k65), .int (lo66), .int (hi67), as68, .ref (ad (20 + 2 * kx38)), ne70, .ref (ad (21 + 2 * Ec))])) := ⟨_, rfl⟩
  have hP : va_P D vcl (fw n ad mem82) H := by rw [e_mem82]; exact hP
  have hD : va_D (Az sz) (fw n ad mem82) := fw_D hD
  have h_mem82 : mem82 ((20 + 2 * Ec)) = .inr (2, [.int (k65), .int (lo66), .int (hi67), as68, .ref (ad (20 + 2 * kx38)), ne70, .ref (ad (21 + 2 * Ec))]) := by rw [e_mem82, va_up_self]
  have hh83 := (va_up_ne mem37 (.inr (2, [.int (k65), .int (lo66), .int (hi67), as68, .ref (ad (20 + 2 * kx38)), ne70, .ref (ad (21 + 2 * Ec))])) (show (222 : Nat) ≠ (20 + 2 * Ec) by first | decide | assumption | omega)).trans h9_55
  rw [← e_mem82] at hh83
  have hh84 := (va_up_ne mem37 (.inr (2, [.int (k65), .int (lo66), .int (hi67), as68, .ref (ad (20 + 2 * kx38)), ne70, .ref (ad (21 + 2 * Ec))])) (show (1 : Nat) ≠ (20 + 2 * Ec) by first | decide | assumption | omega)).trans h1_56
  rw [← e_mem82] at hh84
  have hh85 := (va_up_ne mem37 (.inr (2, [.int (k65), .int (lo66), .int (hi67), as68, .ref (ad (20 + 2 * kx38)), ne70, .ref (ad (21 + 2 * Ec))])) (show (5 : Nat) ≠ (20 + 2 * Ec) by first | decide | assumption | omega)).trans h5_58
  rw [← e_mem82] at hh85
  have hh86 := (va_up_ne mem37 (.inr (2, [.int (k65), .int (lo66), .int (hi67), as68, .ref (ad (20 + 2 * kx38)), ne70, .ref (ad (21 + 2 * Ec))])) (show (220 : Nat) ≠ (20 + 2 * Ec) by first | decide | assumption | omega)).trans h220_62
  rw [← e_mem82] at hh86
  have hh87 := (va_up_ne mem37 (.inr (2, [.int (k65), .int (lo66), .int (hi67), as68, .ref (ad (20 + 2 * kx38)), ne70, .ref (ad (21 + 2 * Ec))])) (show ((20 + 2 * kx38) : Nat) ≠ (20 + 2 * Ec) by first | decide | assumption | omega)).trans he_79
  rw [← e_mem82] at hh87
  have hRX88 : RX cy ad lim (a39) (R40) (E41) (to44) (nn43) m0 mem82 := by rw [e_mem82]; exact hRX52.el (by omega) (hRX52.1.mk (by omega) (hRX52.1.1.upEl (by omega) (fun q9 => ⟨(ho_72 q9).1, Or.inr ⟨kx38, by omega, by omega, rfl⟩, (ho_72 q9).2.2⟩)))
  refine lv_aload_n Bx.1 Bx.2.1 d_Rd_readOption_21 rfl (lv_at hl 0 rfl) ?_
  exact x_aret hx hb hlocks hr (⟨hec15, ⟨Ec, a39, R40, E41, _, nn43, to44, rfl, by omega, by omega, by omega, by omega, by omega, htk51, hRX88, hsc53.eq rfl (elA_ne (by decide)) (elA_ne (by decide))⟩⟩) hP hS d_Rd_readOption_22
set_option maxHeartbeats 4000000 in
set_option maxRecDepth 100000 in
theorem m_Rd_readElement_2X (l : Launch) {D : va_G} {cy : Nat → ClassId} {sz n : Nat} {ad : Nat → Nat} {mem : Nat → va_E} {Z a R Ec lim : Nat} {f T : Nat → Int32} {to : Nat → Int32} {nm : Nat → Int64} {m0 : Nat → va_E} {u : Nat} {A : Ro} (hlt : l.stackTraces = false) (hn : 224 ≤ n) (hT : TX cy ad Z f m0) (hf : ∀ k, k < Z → f k = T k) (hRX : RX cy ad lim a R Ec to nm m0 mem) (haB : a ≤ 300) (haZ : a ≤ Z) : NXr l D cy sz n ad y_Rd_readElement c_Rd_readElement 2 (some (.object "AbnfChart$Element")) ({ frames := 40, cells := 1, slots := 6, locals := 966 } : Room) mem [.ref (ad 222), .int (2)] (fun r mem' => ∃ (k' a' R' E' : Nat) (A' : Ro) (nm' : Nat → Int64) (to' : Nat → Int32), r = ad (20 + 2 * k') ∧ Ec ≤ k' ∧ k' < E' ∧ R ≤ R' ∧ a < a' ∧ a' ≤ Z ∧ TOK R R' to to' ∧ RX cy ad lim a' R' E' to' nm' m0 mem' ∧ Suc T Z (singS T Z a u R Ec 2 A nm) 2 R (A 235) (A 227) a' R' E' A' nm' ∧ OKc (hereF Z T a)) (fun X mem' => ((X = cIA ∨ X = cIS) ∧ ∃ rc' ec' : Nat, RS cy ad lim rc' ec' m0 mem') ∧ (Fai T Z (singS T Z a u R Ec 2 A nm) ∨ ¬ OKc (hereF Z T a))) := by
  refine vx_ofW (cc := c_Rd_readElement) (maxL := 2) (ret := (some (.object "AbnfChart$Element"))) (by decide) rfl ?_
  intro p e s m args below meth c s₁ B hml hno hv
  obtain ⟨rfl, E, hP, hD⟩ := hv
  have hx := B.exec
  have hb := B.bytes
  have hr := B.returns
  have hlocks := B.notSynchronized
  have Bx : MB p s m [.ref (ad 222), .int (2)].toArray c c_Rd_readElement "AbnfChart$Reader" D cy := ⟨hx, hb, tb_all (atoms_spec B.pre) E.2.1, findClass_of_methodNamed B.named, E.1⟩
  have hS : va_S (Az sz) s.heap s.heap [] := va_S.rf
  have hl := lv_entry ([.ref (ad 222), .int (2)]) (n := 2) (Nat.le_of_ble_eq_true rfl)
  rw [lg_entry_eq]
  generalize (lg_sl ([.ref (ad 222), .int (2)]) ++ List.replicate (2 - (lg_sl ([.ref (ad 222), .int (2)])).length) Slot.unset).toArray = ls at hl ⊢
  have hl : lv_has ls 2 [(0, .ref (ad 222)), (1, .int (2))] := hl
  have hZ9 := hT.2.1
  have hbd9 := hRX.1.1.1
  obtain ⟨ft1, h9_2⟩ := hRX.2.1
  have h1_3 : mem 1 = .inr (0, [.ref (ad 2), .int (nI Z)]) := (hRX.1.2.2 1 (by omega)).trans hT.1
  have h2_4 : mem 2 = .inl (cy 0, 240, .inl f) := (hRX.1.2.2 2 (by omega)).trans hT.2.2
  have h5_5 := hRX.1.1.2.1
  have hbd11 := hRX.1.1.1
  obtain ⟨S6, g7, hS_8, h220_9, h221_10⟩ := hRX.1.1.2.2.2.2.2.2
  refine lv_aload_n Bx.1 Bx.2.1 d_Rd_readElement_0 rfl (lv_at hl 0 rfl) ?_
  refine f_callVi (na := 0) (As := []) (rest := []) Bx hml E hP hD hS (by omega) h9_2 rfl (m_Rd_peekX l hn hT hf hRX (by omega)) kw_353 kw_355 sel_Rd_peek kw_6 kw_356 (by decide +kernel) ⟨rfl, rfl⟩ ⟨Nat.le_of_ble_eq_true rfl, Nat.le_of_ble_eq_true rfl⟩ rfl hl.1 (Nat.le_of_ble_eq_true rfl) d_Rd_readElement_1 ⟨Nat.le_of_ble_eq_true rfl, Nat.le_of_ble_eq_true rfl⟩ (fun r13 mem14 H locs hq hP hS => ?_)
  have hD : va_D (Az sz) (fw n ad mem14) := fw_D hD
  obtain ⟨hqe, hpk12⟩ := hq
  rw [hqe] at hP hD
  subst hpk12
  refine lv_topi (fun v16 e_v16 => ?_)
  by_cases c34 : v16 = 34
  · rw [c34]
    refine lv_lookup (off := 58) (tgt := 62) Bx.1 Bx.2.1 d_Rd_readElement_4 (by decide) (by decide) rfl ?_
    rw [e_v16] at c34
    have hlt34 := hereF_lt (show hereF Z T (a) ≠ -1 by rw [c34]; decide)
    refine lv_aload_n Bx.1 Bx.2.1 d_Rd_readElement_62 rfl (lv_at hl 0 rfl) ?_
    refine lv_aload_n Bx.1 Bx.2.1 d_Rd_readElement_63 rfl (lv_at hl 0 rfl) ?_
    refine f_get Bx hP (by omega) h9_2 rfl inRd 2 (by decide) kw_146 rfl rfl d_Rd_readElement_64 ?_
    refine lv_iconst (v := 5) Bx.1 Bx.2.1 d_Rd_readElement_67 (by decide) ?_
    refine f_xVr (na := 2) (As := [.int (nI a), .int (5)]) (rest := []) Bx hml E hP hD hS (by omega) h9_2 rfl (m_Rd_readStringX l hlt hn hT hf hRX (by omega) (by omega)) kw_455 kw_457 sel_Rd_readString kw_6 kw_458 (by decide +kernel) ⟨rfl, rfl⟩ ⟨Nat.le_of_ble_eq_true rfl, Nat.le_of_ble_eq_true rfl⟩ rfl hl.1 (Nat.le_of_ble_eq_true rfl) d_Rd_readElement_68 ⟨Nat.le_of_ble_eq_true rfl, Nat.le_of_ble_eq_true rfl⟩ (fun X ce q9 memx H locs hx9 hP hS g1 g2 g3 => f_out hlocks hno hP hS g1 g2 g3 ⟨Nat.le_of_ble_eq_true rfl, Nat.le_of_ble_eq_true rfl⟩ ⟨hx9.1, Or.inl (fai_str c34 hx9.2 hbd9.2.1)⟩) (fun r17 mem18 H locs hq hP hS => ?_)
    have hD : va_D (Az sz) (fw n ad mem18) := fw_D hD
    obtain ⟨hE9, hq9, hr2, hle9, hRX2⟩ := hq
    subst hr2
    obtain ⟨A2, hsc2⟩ := suc_str (u := u) (R := R) (f := 2) (A := A) (nm := nm) c34 hE9 hq9
    exact x_aret hx hb hlocks hr (⟨Ec, _, R, Ec + 1, A2, nm, to, rfl, by omega, by omega, by omega, by omega, hle9, TOK.of rfl, hRX2, hsc2, (l34 c34).2.2.2⟩) hP hS d_Rd_readElement_71
  by_cases c37 : v16 = 37
  · rw [c37]
    refine lv_lookup (off := 68) (tgt := 72) Bx.1 Bx.2.1 d_Rd_readElement_4 (by decide) (by decide) rfl ?_
    rw [e_v16] at c37
    have hlt37 := hereF_lt (show hereF Z T (a) ≠ -1 by rw [c37]; decide)
    refine lv_aload_n Bx.1 Bx.2.1 d_Rd_readElement_72 rfl (lv_at hl 0 rfl) ?_
    refine f_get Bx hP (by omega) h9_2 rfl inRd 0 (by decide) kw_144 rfl rfl d_Rd_readElement_73 ?_
    refine lv_aload_n Bx.1 Bx.2.1 d_Rd_readElement_76 rfl (lv_at hl 0 rfl) ?_
    refine f_get Bx hP (by omega) h9_2 rfl inRd 2 (by decide) kw_146 rfl rfl d_Rd_readElement_77 ?_
    refine lv_iconst (v := 1) Bx.1 Bx.2.1 d_Rd_readElement_80 (by decide) ?_
    refine lv_iadd Bx.1 Bx.2.1 d_Rd_readElement_81 ?_
    rw [show nI a + 1 = nI (a + 1) from nI_add (a) (1)]
    refine f_callVi (na := 1) (As := [.int (nI (a + 1))]) (rest := []) Bx hml E hP hD hS (by omega) h1_3 rfl (m_Ch_codeAt l (by omega) h1_3 (by omega) h2_4 (by rw [nI_toInt (by omega)]; omega)) kw_341 kw_342 kw_343 kw_2 kw_344 (by decide +kernel) ⟨rfl, rfl⟩ ⟨Nat.le_of_ble_eq_true rfl, Nat.le_of_ble_eq_true rfl⟩ rfl hl.1 (Nat.le_of_ble_eq_true rfl) d_Rd_readElement_82 ⟨Nat.le_of_ble_eq_true rfl, Nat.le_of_ble_eq_true rfl⟩ (fun r19 mem20 H locs hq hP hS => ?_)
    have hD : va_D (Az sz) (fw n ad mem20) := fw_D hD
    obtain ⟨hco21, hqe⟩ := hq
    rw [hqe] at hP hD
    rw [code_here hf hT.2.1 (k := a + 1) (by omega)] at hco21
    subst hco21
    refine f_callSNi (na := 1) (As := [.int (hereF Z T (a + 1))]) (rest := []) Bx hml E.2.1 (m_Ab_smallOfX l (hereF Z T (a + 1))) kw_372 kw_373 kw_1 kw_374 (by decide +kernel) ⟨rfl, rfl⟩ ⟨Nat.le_of_ble_eq_true rfl, Nat.le_of_ble_eq_true rfl⟩ rfl hl.1 (Nat.le_of_ble_eq_true rfl) d_Rd_readElement_85 ⟨Nat.le_of_ble_eq_true rfl, Nat.le_of_ble_eq_true rfl⟩ (fun r23 hs22 => ?_)
    subst hs22
    refine lv_bipush (v := 115) Bx.1 Bx.2.1 d_Rd_readElement_88 (by decide) ?_
    refine lv_icmp_ne Bx.1 Bx.2.1 d_Rd_readElement_90 rfl (fun hb24 => ?_) (fun hb24 => ?_)
    · refine lv_aload_n Bx.1 Bx.2.1 d_Rd_readElement_100 rfl (lv_at hl 0 rfl) ?_
      refine f_xVr (na := 0) (As := []) (rest := []) Bx hml E hP hD hS (by omega) h9_2 rfl (m_Rd_readValueX l hlt hn hT hf hRX (by omega) (by omega)) kw_467 kw_469 sel_Rd_readValue kw_6 kw_470 (by decide +kernel) ⟨rfl, rfl⟩ ⟨Nat.le_of_ble_eq_true rfl, Nat.le_of_ble_eq_true rfl⟩ rfl hl.1 (Nat.le_of_ble_eq_true rfl) d_Rd_readElement_101 ⟨Nat.le_of_ble_eq_true rfl, Nat.le_of_ble_eq_true rfl⟩ (fun X ce q9 memx H locs hx9 hP hS g1 g2 g3 => f_out hlocks hno hP hS g1 g2 g3 ⟨Nat.le_of_ble_eq_true rfl, Nat.le_of_ble_eq_true rfl⟩ ⟨hx9.1, Or.inl (fai_val c37 hb24 hx9.2 hbd9.2.1)⟩) (fun r25 mem26 H locs hq hP hS => ?_)
      have hD : va_D (Az sz) (fw n ad mem26) := fw_D hD
      obtain ⟨hE9, ba, a2, hba, hp9, hr2, x1, x2, hRX2⟩ := hq
      subst hr2
      obtain ⟨A2, hsc2⟩ := suc_val (u := u) (R := R) (f := 2) (A := A) (nm := nm) c37 hba hE9 hp9
      exact x_aret hx hb hlocks hr (⟨Ec, a2, R, Ec + 1, A2, nm, to, rfl, by omega, by omega, by omega, x1, x2, TOK.of rfl, hRX2, hsc2, (l37 c37).2.2.2.2⟩) hP hS d_Rd_readElement_104
    · refine lv_aload_n Bx.1 Bx.2.1 d_Rd_readElement_93 rfl (lv_at hl 0 rfl) ?_
      refine f_xVr (na := 0) (As := []) (rest := []) Bx hml E hP hD hS (by omega) h9_2 rfl (m_Rd_readExactStringX l hlt hn hT hf hRX (by omega) (by omega)) kw_463 kw_465 sel_Rd_readExactString kw_6 kw_466 (by decide +kernel) ⟨rfl, rfl⟩ ⟨Nat.le_of_ble_eq_true rfl, Nat.le_of_ble_eq_true rfl⟩ rfl hl.1 (Nat.le_of_ble_eq_true rfl) d_Rd_readElement_94 ⟨Nat.le_of_ble_eq_true rfl, Nat.le_of_ble_eq_true rfl⟩ (fun X ce q9 memx H locs hx9 hP hS g1 g2 g3 => f_out hlocks hno hP hS g1 g2 g3 ⟨Nat.le_of_ble_eq_true rfl, Nat.le_of_ble_eq_true rfl⟩ ⟨hx9.1, Or.inl (fai_xst c37 hb24 hx9.2 hbd9.2.1)⟩) (fun r27 mem28 H locs hq hP hS => ?_)
      have hD : va_D (Az sz) (fw n ad mem28) := fw_D hD
      obtain ⟨hq8, hE9, hq9, hr2, hle9, hRX2⟩ := hq
      subst hr2
      obtain ⟨A2, hsc2⟩ := suc_xst (u := u) (R := R) (f := 2) (A := A) (nm := nm) c37 hb24 hq8 hE9 hq9
      refine lv_goto Bx.1 Bx.2.1 d_Rd_readElement_97 rfl ?_
      exact x_aret hx hb hlocks hr (⟨Ec, _, R, Ec + 1, A2, nm, to, rfl, by omega, by omega, by omega, by omega, hle9, TOK.of rfl, hRX2, hsc2, (l37 c37).2.2.2.2⟩) hP hS d_Rd_readElement_104
  by_cases c40 : v16 = 40
  · rw [c40]
    refine lv_lookup (off := 44) (tgt := 48) Bx.1 Bx.2.1 d_Rd_readElement_4 (by decide) (by decide) rfl ?_
    rw [e_v16] at c40
    have hlt40 := hereF_lt (show hereF Z T (a) ≠ -1 by rw [c40]; decide)
    refine lv_aload_n Bx.1 Bx.2.1 d_Rd_readElement_48 rfl (lv_at hl 0 rfl) ?_
    refine lv_iload_n Bx.1 Bx.2.1 d_Rd_readElement_49 rfl (lv_at hl 1 rfl) ?_
    refine lv_bipush (v := 41) Bx.1 Bx.2.1 d_Rd_readElement_50 (by decide) ?_
    refine f_xVr (na := 2) (As := [.int (2), .int (41)]) (rest := []) Bx hml E hP hD hS (by omega) h9_2 rfl (m_Rd_readBracket_2X l hlt hn hT hf hRX (by omega) (u := u) (A := A) (by omega) (Or.inl ⟨rfl, rfl⟩) (what := 1) (oe := -1)) kw_447 kw_449 sel_Rd_readBracket kw_6 kw_450 (by decide +kernel) ⟨rfl, rfl⟩ ⟨Nat.le_of_ble_eq_true rfl, Nat.le_of_ble_eq_true rfl⟩ rfl hl.1 (Nat.le_of_ble_eq_true rfl) d_Rd_readElement_52 ⟨Nat.le_of_ble_eq_true rfl, Nat.le_of_ble_eq_true rfl⟩ (fun X ce q9 memx H locs hx9 hP hS g1 g2 g3 => f_out hlocks hno hP hS g1 g2 g3 ⟨Nat.le_of_ble_eq_true rfl, Nat.le_of_ble_eq_true rfl⟩ ⟨hx9.1, Or.inl (hx9.2.eq (sing_br (l40 c40).1 c40 (by omega)))⟩) (fun r29 mem30 H locs hq hP hS => ?_)
    have hD : va_D (Az sz) (fw n ad mem30) := fw_D hD
    obtain ⟨kx31, a32, R33, E34, A35, nn36, to37, hr938, hb39, hb40, hb41, hb42, hb43, htk44, hRX45, hsc46⟩ := hq
    subst hr938
    obtain ⟨ft47, h9_48⟩ := hRX45.2.1
    have h1_49 : mem30 1 = .inr (0, [.ref (ad 2), .int (nI Z)]) := (hRX45.1.2.2 1 (by omega)).trans hT.1
    have h2_50 : mem30 2 = .inl (cy 0, 240, .inl f) := (hRX45.1.2.2 2 (by omega)).trans hT.2.2
    have h5_51 := hRX45.1.1.2.1
    have hbd57 := hRX45.1.1.1
    obtain ⟨S52, g53, hS_54, h220_55, h221_56⟩ := hRX45.1.1.2.2.2.2.2.2
    obtain ⟨k58, lo59, hi60, as61, pa62, ne63, he_64, ho_65⟩ := (hRX45.1.1.2.2.2.2.2.1 kx31 (by omega)).1
    have hbd66 := hRX45.1.1.1
    exact x_aret hx hb hlocks hr (⟨kx31, a32, R33, E34, _, nn36, to37, rfl, by omega, by omega, by omega, by omega, by omega, htk44, hRX45, hsc46.eq (sing_br (l40 c40).1 c40 (by omega)) rfl rfl, (l40 c40).2⟩) hP hS d_Rd_readElement_55
  by_cases c91 : v16 = 91
  · rw [c91]
    refine lv_lookup (off := 52) (tgt := 56) Bx.1 Bx.2.1 d_Rd_readElement_4 (by decide) (by decide) rfl ?_
    rw [e_v16] at c91
    have hlt91 := hereF_lt (show hereF Z T (a) ≠ -1 by rw [c91]; decide)
    refine lv_aload_n Bx.1 Bx.2.1 d_Rd_readElement_56 rfl (lv_at hl 0 rfl) ?_
    refine lv_iload_n Bx.1 Bx.2.1 d_Rd_readElement_57 rfl (lv_at hl 1 rfl) ?_
    refine f_xVr (na := 1) (As := [.int (2)]) (rest := []) Bx hml E hP hD hS (by omega) h9_2 rfl (m_Rd_readOption_2X l hlt hn hT hf hRX (by omega) (u := u) (A := A) (by omega)) kw_451 kw_453 sel_Rd_readOption kw_6 kw_454 (by decide +kernel) ⟨rfl, rfl⟩ ⟨Nat.le_of_ble_eq_true rfl, Nat.le_of_ble_eq_true rfl⟩ rfl hl.1 (Nat.le_of_ble_eq_true rfl) d_Rd_readElement_58 ⟨Nat.le_of_ble_eq_true rfl, Nat.le_of_ble_eq_true rfl⟩ (fun X ce q9 memx H locs hx9 hP hS g1 g2 g3 => f_out hlocks hno hP hS g1 g2 g3 ⟨Nat.le_of_ble_eq_true rfl, Nat.le_of_ble_eq_true rfl⟩ ⟨hx9.1, Or.inl (by
        by_cases q9 : Ec = 100
        · exact Or.inl (sing_o0 (l91 c91).1 c91 (Or.inr q9))
        · exact (hx9.2.resolve_left q9).eq (sing_op (l91 c91).1 c91 (by omega) (by omega)))⟩) (fun r67 mem68 H locs hq hP hS => ?_)
    have hD : va_D (Az sz) (fw n ad mem68) := fw_D hD
    obtain ⟨hE9, k2, a2, R2, E2, A2, n2, t2, hr2, x1, x2, x3, x4, x5, htk2, hRX2, hsc2⟩ := hq
    subst hr2
    exact x_aret hx hb hlocks hr (⟨k2, a2, R2, E2, A2, n2, t2, rfl, x1, x2, x3, x4, x5, htk2, hRX2, hsc2.eq (sing_op (l91 c91).1 c91 (by omega) hE9) rfl rfl, (l91 c91).2⟩) hP hS d_Rd_readElement_61
  refine lv_lookup (off := 101) (tgt := 105) Bx.1 Bx.2.1 d_Rd_readElement_4 (by decide) (by show Op.lookupswitch.offset [(34, 58), (37, 68), (40, 44), (91, 52)] 101 (v16).toInt = 101; rw [lv_osw c34 (by decide), lv_osw c37 (by decide), lv_osw c40 (by decide), lv_osw c91 (by decide)]; rfl) rfl ?_
  rw [e_v16] at c40 c91 c34 c37
  refine lv_aload_n Bx.1 Bx.2.1 d_Rd_readElement_105 rfl (lv_at hl 0 rfl) ?_
  refine f_xVr (na := 0) (As := []) (rest := []) Bx hml E hP hD hS (by omega) h9_2 rfl (m_Rd_readAskedNameX l hlt hn hT hf hRX (by omega) (A := A) (by omega)) kw_478 kw_480 sel_Rd_readAskedName kw_6 kw_481 (by decide +kernel) ⟨rfl, rfl⟩ ⟨Nat.le_of_ble_eq_true rfl, Nat.le_of_ble_eq_true rfl⟩ rfl hl.1 (Nat.le_of_ble_eq_true rfl) d_Rd_readElement_106 ⟨Nat.le_of_ble_eq_true rfl, Nat.le_of_ble_eq_true rfl⟩ (fun X ce q9 memx H locs hx9 hP hS g1 g2 g3 => f_out hlocks hno hP hS g1 g2 g3 ⟨Nat.le_of_ble_eq_true rfl, Nat.le_of_ble_eq_true rfl⟩ ⟨hx9.1, fai_nam c40 c91 c34 c37 hx9.2⟩) (fun r69 mem70 H locs hq hP hS => ?_)
  have hD : va_D (Az sz) (fw n ad mem70) := fw_D hD
  obtain ⟨i9, a2, R2, A3, n2, hsn, hle, hE9, hr2, x1, x2, x3, hA3, htk, t2, htk2, hRX2⟩ := hq
  subst hr2
  obtain ⟨A2, hsc2⟩ := suc_nam (u := u) (f := 2) hle hsn hE9 hA3 htk
  exact x_aret hx hb hlocks hr (⟨Ec, a2, R2, Ec + 1, A2, n2, t2, rfl, by omega, by omega, x1, x2, x3, htk2, hRX2, hsc2, lt_ok hle⟩) hP hS d_Rd_readElement_109
set_option maxHeartbeats 4000000 in
set_option maxRecDepth 100000 in
theorem m_Rd_readRepetition_2X (l : Launch) {D : va_G} {cy : Nat → ClassId} {sz n : Nat} {ad : Nat → Nat} {mem : Nat → va_E} {Z a R Ec lim : Nat} {f T : Nat → Int32} {to : Nat → Int32} {nm : Nat → Int64} {m0 : Nat → va_E} {u : Nat} {A : Ro} (hlt : l.stackTraces = false) (hn : 224 ≤ n) (hT : TX cy ad Z f m0) (hf : ∀ k, k < Z → f k = T k) (hRX : RX cy ad lim a R Ec to nm m0 mem) (haB : a ≤ 300) (haZ : a ≤ Z) (hbg : bgF (hereF Z T a) = true) : NXr l D cy sz n ad y_Rd_readRepetition c_Rd_readRepetition 3 (some (.object "AbnfChart$Element")) ({ frames := 41, cells := 1, slots := 6, locals := 988 } : Room) mem [.ref (ad 222), .int (2)] (fun r mem' => ∃ (k' a' R' E' : Nat) (A' : Ro) (nm' : Nat → Int64) (to' : Nat → Int32), r = ad (20 + 2 * k') ∧ Ec ≤ k' ∧ k' < E' ∧ R ≤ R' ∧ a < a' ∧ a' ≤ Z ∧ TOK R R' to to' ∧ RX cy ad lim a' R' E' to' nm' m0 mem' ∧ Suc T Z (repS T Z a u R Ec 2 A nm) 2 R (A 235) (A 227) a' R' E' A' nm') (fun X mem' => ((X = cIA ∨ X = cIS) ∧ ∃ rc' ec' : Nat, RS cy ad lim rc' ec' m0 mem') ∧ (Fai T Z (repS T Z a u R Ec 2 A nm))) := by
  refine vx_ofW (cc := c_Rd_readRepetition) (maxL := 3) (ret := (some (.object "AbnfChart$Element"))) (by decide) rfl ?_
  intro p e s m args below meth c s₁ B hml hno hv
  obtain ⟨rfl, E, hP, hD⟩ := hv
  have hx := B.exec
  have hb := B.bytes
  have hr := B.returns
  have hlocks := B.notSynchronized
  have Bx : MB p s m [.ref (ad 222), .int (2)].toArray c c_Rd_readRepetition "AbnfChart$Reader" D cy := ⟨hx, hb, tb_all (atoms_spec B.pre) E.2.1, findClass_of_methodNamed B.named, E.1⟩
  have hS : va_S (Az sz) s.heap s.heap [] := va_S.rf
  have hl := lv_entry ([.ref (ad 222), .int (2)]) (n := 3) (Nat.le_of_ble_eq_true rfl)
  rw [lg_entry_eq]
  generalize (lg_sl ([.ref (ad 222), .int (2)]) ++ List.replicate (3 - (lg_sl ([.ref (ad 222), .int (2)])).length) Slot.unset).toArray = ls at hl ⊢
  have hl : lv_has ls 3 [(0, .ref (ad 222)), (1, .int (2))] := hl
  have hZ9 := hT.2.1
  have hbd9 := hRX.1.1.1
  obtain ⟨ft1, h9_2⟩ := hRX.2.1
  have h1_3 : mem 1 = .inr (0, [.ref (ad 2), .int (nI Z)]) := (hRX.1.2.2 1 (by omega)).trans hT.1
  have h2_4 : mem 2 = .inl (cy 0, 240, .inl f) := (hRX.1.2.2 2 (by omega)).trans hT.2.2
  have h5_5 := hRX.1.1.2.1
  have hbd11 := hRX.1.1.1
  obtain ⟨S6, g7, hS_8, h220_9, h221_10⟩ := hRX.1.1.2.2.2.2.2.2
  refine lv_aload_n Bx.1 Bx.2.1 d_Rd_readRepetition_0 rfl (lv_at hl 0 rfl) ?_
  refine f_callVi (na := 0) (As := []) (rest := []) Bx hml E hP hD hS (by omega) h9_2 rfl (m_Rd_peekX l hn hT hf hRX (by omega)) kw_353 kw_355 sel_Rd_peek kw_6 kw_356 (by decide +kernel) ⟨rfl, rfl⟩ ⟨Nat.le_of_ble_eq_true rfl, Nat.le_of_ble_eq_true rfl⟩ rfl hl.1 (Nat.le_of_ble_eq_true rfl) d_Rd_readRepetition_1 ⟨Nat.le_of_ble_eq_true rfl, Nat.le_of_ble_eq_true rfl⟩ (fun r13 mem14 H locs hq hP hS => ?_)
  have hD : va_D (Az sz) (fw n ad mem14) := fw_D hD
  obtain ⟨hqe, hpk12⟩ := hq
  rw [hqe] at hP hD
  subst hpk12
  refine f_callSi (na := 1) (As := [.int (hereF Z T (a))]) (rest := []) Bx hml E.2.1 (m_Rd_beginsRepeatX l (hereF Z T (a))) kw_416 kw_417 kw_6 kw_418 (by decide +kernel) ⟨rfl, rfl⟩ ⟨Nat.le_of_ble_eq_true rfl, Nat.le_of_ble_eq_true rfl⟩ rfl hl.1 (Nat.le_of_ble_eq_true rfl) d_Rd_readRepetition_4 ⟨Nat.le_of_ble_eq_true rfl, Nat.le_of_ble_eq_true rfl⟩ (fun r17 hs16 => ?_)
  subst hs16
  refine lv_if_ne Bx.1 Bx.2.1 d_Rd_readRepetition_7 rfl (fun hb18 => ?_) (fun hb18 => ?_)
  · refine lv_aload_n Bx.1 Bx.2.1 d_Rd_readRepetition_16 rfl (lv_at hl 0 rfl) ?_
    refine lv_iconst (v := 2) Bx.1 Bx.2.1 d_Rd_readRepetition_17 (by decide) ?_
    refine lv_aload_n Bx.1 Bx.2.1 d_Rd_readRepetition_18 rfl (lv_at hl 0 rfl) ?_
    refine f_get Bx hP (by omega) h9_2 rfl inRd 2 (by decide) kw_146 rfl rfl d_Rd_readRepetition_19 ?_
    refine f_xVr (na := 2) (As := [.int (2), .int (nI a)]) (rest := []) Bx hml E hP hD hS (by omega) h9_2 rfl (m_Rd_addElementX l hlt hn hT hf hRX (by omega)) kw_419 kw_421 sel_Rd_addElement kw_6 kw_422 (by decide +kernel) ⟨rfl, rfl⟩ ⟨Nat.le_of_ble_eq_true rfl, Nat.le_of_ble_eq_true rfl⟩ rfl hl.1 (Nat.le_of_ble_eq_true rfl) d_Rd_readRepetition_22 ⟨Nat.le_of_ble_eq_true rfl, Nat.le_of_ble_eq_true rfl⟩ (fun X ce q9 memx H locs hx9 hP hS g1 g2 g3 => f_out hlocks hno hP hS g1 g2 g3 ⟨Nat.le_of_ble_eq_true rfl, Nat.le_of_ble_eq_true rfl⟩ ⟨hx9.1, Or.inl (rep_E (bpF_1 hb18) hx9.2)⟩) (fun r19 mem20 H locs hq hP hS => ?_)
    have hD : va_D (Az sz) (fw n ad mem20) := fw_D hD
    obtain ⟨hr923, hec22, hRX21⟩ := hq
    subst hr923
    obtain ⟨ft24, h9_25⟩ := hRX21.2.1
    have h1_26 : mem20 1 = .inr (0, [.ref (ad 2), .int (nI Z)]) := (hRX21.1.2.2 1 (by omega)).trans hT.1
    have h2_27 : mem20 2 = .inl (cy 0, 240, .inl f) := (hRX21.1.2.2 2 (by omega)).trans hT.2.2
    have h5_28 := hRX21.1.1.2.1
    have hbd34 := hRX21.1.1.1
    obtain ⟨S29, g30, hS_31, h220_32, h221_33⟩ := hRX21.1.1.2.2.2.2.2.2
    obtain ⟨k35, lo36, hi37, as38, pa39, ne40, he_41, ho_42⟩ := (hRX21.1.1.2.2.2.2.2.1 Ec (by omega)).1
    refine lv_astore_n (lv' := [(2, .ref (ad (20 + 2 * Ec))), (0, .ref (ad 222)), (1, .int (2))]) Bx.1 Bx.2.1 d_Rd_readRepetition_25 rfl hl (by decide) rfl (fun ls hl => ?_)
    refine lv_aload_n Bx.1 Bx.2.1 d_Rd_readRepetition_26 rfl (lv_at hl 1 rfl) ?_
    refine lv_aload_n Bx.1 Bx.2.1 d_Rd_readRepetition_27 rfl (lv_at hl 0 rfl) ?_
    have hdg := bpF_1 hb18
    have hE9 := hec22
    refine f_xVv (na := 1) (As := [.ref (ad (20 + 2 * Ec))]) (rest := []) Bx hml E hP hD hS (by omega) h9_25 rfl (m_Rd_readRepeatX l hlt hn hT hf hRX21 (by omega) (by omega) (by omega) hdg) kw_482 kw_484 sel_Rd_readRepeat kw_6 kw_485 (by decide +kernel) ⟨rfl, rfl⟩ ⟨Nat.le_of_ble_eq_true rfl, Nat.le_of_ble_eq_true rfl⟩ rfl hl.1 (Nat.le_of_ble_eq_true rfl) d_Rd_readRepetition_28 ⟨Nat.le_of_ble_eq_true rfl, Nat.le_of_ble_eq_true rfl⟩ (fun X ce q9 memx H locs hx9 hP hS g1 g2 g3 => f_out hlocks hno hP hS g1 g2 g3 ⟨Nat.le_of_ble_eq_true rfl, Nat.le_of_ble_eq_true rfl⟩ ⟨hx9.1, hx9.2.elim (fun v1 z => z.elim (fun b1 z => z.elim (fun v2 z => z.elim (fun b2 z => Or.inl (rep_bad hdg hE9 z.1 z.2.1 (Or.inl z.2.2))))))⟩) (fun mem44 H locs hq hP hS => ?_)
    have hD : va_D (Az sz) (fw n ad mem44) := fw_D hD
    obtain ⟨v1, b1, v2, b2, hr1, hr2, hnv, hb8, hb9, hRXr⟩ := hq
    obtain ⟨ft45, h9_46⟩ := hRXr.2.1
    have h1_47 : mem44 1 = .inr (0, [.ref (ad 2), .int (nI Z)]) := (hRXr.1.2.2 1 (by omega)).trans hT.1
    have h2_48 : mem44 2 = .inl (cy 0, 240, .inl f) := (hRXr.1.2.2 2 (by omega)).trans hT.2.2
    have h5_49 := hRXr.1.1.2.1
    have hbd55 := hRXr.1.1.1
    obtain ⟨S50, g51, hS_52, h220_53, h221_54⟩ := hRXr.1.1.2.2.2.2.2.2
    obtain ⟨k56, lo57, hi58, as59, pa60, ne61, he_62, ho_63⟩ := (hRXr.1.1.2.2.2.2.2.1 Ec (by omega)).1
    refine lv_aload_n Bx.1 Bx.2.1 d_Rd_readRepetition_31 rfl (lv_at hl 0 rfl) ?_
    refine lv_aload_n Bx.1 Bx.2.1 d_Rd_readRepetition_32 rfl (lv_at hl 1 rfl) ?_
    refine lv_iload_n Bx.1 Bx.2.1 d_Rd_readRepetition_33 rfl (lv_at hl 2 rfl) ?_
    refine f_xVr (na := 1) (As := [.int (2)]) (rest := [.ref (ad (20 + 2 * Ec))]) Bx hml E hP hD hS (by omega) h9_46 rfl (m_Rd_readElement_2X l hlt hn hT hf hRXr (by omega) (u := u) (A := repB A 2 Ec v1 v2) (by omega)) kw_443 kw_445 sel_Rd_readElement kw_6 kw_446 (by decide +kernel) ⟨rfl, rfl⟩ ⟨Nat.le_of_ble_eq_true rfl, Nat.le_of_ble_eq_true rfl⟩ rfl hl.1 (Nat.le_of_ble_eq_true rfl) d_Rd_readRepetition_34 ⟨Nat.le_of_ble_eq_true rfl, Nat.le_of_ble_eq_true rfl⟩ (fun X ce q9 memx H locs hx9 hP hS g1 g2 g3 => f_out hlocks hno hP hS g1 g2 g3 ⟨Nat.le_of_ble_eq_true rfl, Nat.le_of_ble_eq_true rfl⟩ ⟨hx9.1, rep_fai hdg hE9 hr1 hr2 hnv hx9.2⟩) (fun r64 mem65 H locs hq hP hS => ?_)
    have hD : va_D (Az sz) (fw n ad mem65) := fw_D hD
    obtain ⟨kx66, a67, R68, E69, A70, nn71, to72, hr973, hb74, hb75, hb76, hb77, hb78, htk79, hRX80, hsc81, hok82⟩ := hq
    subst hr973
    obtain ⟨ft83, h9_84⟩ := hRX80.2.1
    have h1_85 : mem65 1 = .inr (0, [.ref (ad 2), .int (nI Z)]) := (hRX80.1.2.2 1 (by omega)).trans hT.1
    have h2_86 : mem65 2 = .inl (cy 0, 240, .inl f) := (hRX80.1.2.2 2 (by omega)).trans hT.2.2
    have h5_87 := hRX80.1.1.2.1
    have hbd93 := hRX80.1.1.1
    obtain ⟨S88, g89, hS_90, h220_91, h221_92⟩ := hRX80.1.1.2.2.2.2.2.2
    obtain ⟨k94, lo95, hi96, as97, pa98, ne99, he_100, ho_101⟩ := (hRX80.1.1.2.2.2.2.2.1 Ec (by omega)).1
    obtain ⟨k102, lo103, hi104, as105, pa106, ne107, he_108, ho_109⟩ := (hRX80.1.1.2.2.2.2.2.1 kx66 (by omega)).1
    have hbd110 := hRX80.1.1.1
    refine f_putN Bx hP hD hS (by omega) he_100 rfl inEl tyEl okEl nmEl 4 (by decide) kw_87 rfl rfl rfl rfl (Nat.le_of_ble_eq_true rfl) d_Rd_readRepetition_37 (fun H locs hP hS => ?_)
    obtain ⟨mem111, e_mem111⟩ : ∃ z, z = va_up mem65 ((20 + 2 * Ec)) (.inr (2, [.int (k94), .int (lo95), .int (hi96), as97, .ref (ad (20 + 2 * kx66)), ne99, .ref (ad (21 + 2 * Ec))])) := ⟨_, rfl⟩
    have hP : va_P D vcl (fw n ad mem111) H := by rw [e_mem111]; exact hP
    have hD : va_D (Az sz) (fw n ad mem111) := fw_D hD
    have h_mem111 : mem111 ((20 + 2 * Ec)) = .inr (2, [.int (k94), .int (lo95), .int (hi96), as97, .ref (ad (20 + 2 * kx66)), ne99, .ref (ad (21 + 2 * Ec))]) := by rw [e_mem111, va_up_self]
    have hh112 := (va_up_ne mem65 (.inr (2, [.int (k94), .int (lo95), .int (hi96), as97, .ref (ad (20 + 2 * kx66)), ne99, .ref (ad (21 + 2 * Ec))])) (show (222 : Nat) ≠ (20 + 2 * Ec) by first | decide | assumption | omega)).trans h9_84
    rw [← e_mem111] at hh112
    have hh113 := (va_up_ne mem65 (.inr (2, [.int (k94), .int (lo95), .int (hi96), as97, .ref (ad (20 + 2 * kx66)), ne99, .ref (ad (21 + 2 * Ec))])) (show (1 : Nat) ≠ (20 + 2 * Ec) by first | decide | assumption | omega)).trans h1_85
    rw [← e_mem111] at hh113
    have hh114 := (va_up_ne mem65 (.inr (2, [.int (k94), .int (lo95), .int (hi96), as97, .ref (ad (20 + 2 * kx66)), ne99, .ref (ad (21 + 2 * Ec))])) (show (5 : Nat) ≠ (20 + 2 * Ec) by first | decide | assumption | omega)).trans h5_87
    rw [← e_mem111] at hh114
    have hh115 := (va_up_ne mem65 (.inr (2, [.int (k94), .int (lo95), .int (hi96), as97, .ref (ad (20 + 2 * kx66)), ne99, .ref (ad (21 + 2 * Ec))])) (show (220 : Nat) ≠ (20 + 2 * Ec) by first | decide | assumption | omega)).trans h220_91
    rw [← e_mem111] at hh115
    have hh116 := (va_up_ne mem65 (.inr (2, [.int (k94), .int (lo95), .int (hi96), as97, .ref (ad (20 + 2 * kx66)), ne99, .ref (ad (21 + 2 * Ec))])) (show ((20 + 2 * kx66) : Nat) ≠ (20 + 2 * Ec) by first | decide | assumption | omega)).trans he_108
    rw [← e_mem111] at hh116
    have hRX117 : RX cy ad lim (a67) (R68) (E69) (to72) (nn71) m0 mem111 := by rw [e_mem111]; exact hRX80.el (by omega) (hRX80.1.mk (by omega) (hRX80.1.1.upEl (by omega) (fun q9 => ⟨(ho_101 q9).1, Or.inr ⟨kx66, by omega, by omega, rfl⟩, (ho_101 q9).2.2⟩)))
    refine lv_aload_n Bx.1 Bx.2.1 d_Rd_readRepetition_40 rfl (lv_at hl 0 rfl) ?_
    exact x_aret hx hb hlocks hr (⟨Ec, a67, R68, E69, _, nn71, to72, rfl, by omega, by omega, by omega, by omega, by omega, htk79, hRX117, hsc81.eq (rep_suc hdg hE9 hr1 hr2 hnv hok82) (repB_ne (by decide) (by decide)) (repB_ne (by decide) (by decide))⟩) hP hS d_Rd_readRepetition_41
  · refine lv_aload_n Bx.1 Bx.2.1 d_Rd_readRepetition_10 rfl (lv_at hl 0 rfl) ?_
    refine lv_iload_n Bx.1 Bx.2.1 d_Rd_readRepetition_11 rfl (lv_at hl 1 rfl) ?_
    obtain ⟨hd0, h42⟩ := bpF_0 hb18
    refine f_xVr (na := 1) (As := [.int (2)]) (rest := []) Bx hml E hP hD hS (by omega) h9_2 rfl (m_Rd_readElement_2X l hlt hn hT hf hRX (by omega) (u := u) (A := A) (by omega)) kw_443 kw_445 sel_Rd_readElement kw_6 kw_446 (by decide +kernel) ⟨rfl, rfl⟩ ⟨Nat.le_of_ble_eq_true rfl, Nat.le_of_ble_eq_true rfl⟩ rfl hl.1 (Nat.le_of_ble_eq_true rfl) d_Rd_readRepetition_12 ⟨Nat.le_of_ble_eq_true rfl, Nat.le_of_ble_eq_true rfl⟩ (fun X ce q9 memx H locs hx9 hP hS g1 g2 g3 => f_out hlocks hno hP hS g1 g2 g3 ⟨Nat.le_of_ble_eq_true rfl, Nat.le_of_ble_eq_true rfl⟩ ⟨hx9.1, (hx9.2.resolve_right (fun z => z ⟨hbg, hd0, h42⟩)).eq (rep_no hd0 h42)⟩) (fun r118 mem119 H locs hq hP hS => ?_)
    have hD : va_D (Az sz) (fw n ad mem119) := fw_D hD
    obtain ⟨kx120, a121, R122, E123, A124, nn125, to126, hr9127, hb128, hb129, hb130, hb131, hb132, htk133, hRX134, hsc135, hok136⟩ := hq
    subst hr9127
    obtain ⟨ft137, h9_138⟩ := hRX134.2.1
    have h1_139 : mem119 1 = .inr (0, [.ref (ad 2), .int (nI Z)]) := (hRX134.1.2.2 1 (by omega)).trans hT.1
    have h2_140 : mem119 2 = .inl (cy 0, 240, .inl f) := (hRX134.1.2.2 2 (by omega)).trans hT.2.2
    have h5_141 := hRX134.1.1.2.1
    have hbd147 := hRX134.1.1.1
    obtain ⟨S142, g143, hS_144, h220_145, h221_146⟩ := hRX134.1.1.2.2.2.2.2.2
    obtain ⟨k148, lo149, hi150, as151, pa152, ne153, he_154, ho_155⟩ := (hRX134.1.1.2.2.2.2.2.1 kx120 (by omega)).1
    have hbd156 := hRX134.1.1.1
    exact x_aret hx hb hlocks hr (⟨kx120, a121, R122, E123, _, nn125, to126, rfl, by omega, by omega, by omega, by omega, by omega, htk133, hRX134, hsc135.eq (rep_no hd0 h42) rfl rfl⟩) hP hS d_Rd_readRepetition_15
set_option maxHeartbeats 4000000 in
set_option maxRecDepth 100000 in
theorem m_Rd_readSequence_2X (l : Launch) {D : va_G} {cy : Nat → ClassId} {sz n : Nat} {ad : Nat → Nat} {mem : Nat → va_E} {Z a R Ec lim : Nat} {f T : Nat → Int32} {to : Nat → Int32} {nm : Nat → Int64} {m0 : Nat → va_E} {u : Nat} {A : Ro} (hlt : l.stackTraces = false) (hn : 224 ≤ n) (hT : TX cy ad Z f m0) (hf : ∀ k, k < Z → f k = T k) (hRX : RX cy ad lim a R Ec to nm m0 mem) (haB : a ≤ 300) (haZ : a ≤ Z) : NXr l D cy sz n ad y_Rd_readSequence c_Rd_readSequence 5 (some (.object "AbnfChart$Element")) ({ frames := 42, cells := 1, slots := 6, locals := 1012 } : Room) mem [.ref (ad 222), .int (2)] (fun r mem' => ∃ (k' a' R' E' : Nat) (A' : Ro) (nm' : Nat → Int64) (to' : Nat → Int32), r = ad (20 + 2 * k') ∧ Ec ≤ k' ∧ k' < E' ∧ R ≤ R' ∧ a < a' ∧ a' ≤ Z ∧ TOK R R' to to' ∧ RX cy ad lim (gapF T Z a') R' E' to' nm' m0 mem' ∧ Suc T Z (seqS T Z a u R Ec 2 A nm) 2 R (A 235) (A 227) a' R' E' A' nm' ∧ ¬ (bgF (hereF Z T (gapF T Z a')) = true ∧ a' < gapF T Z a')) (fun X mem' => ((X = cIA ∨ X = cIS) ∧ ∃ rc' ec' : Nat, RS cy ad lim rc' ec' m0 mem') ∧ (Fai T Z (seqS T Z a u R Ec 2 A nm))) := by
  refine vx_ofW (cc := c_Rd_readSequence) (maxL := 5) (ret := (some (.object "AbnfChart$Element"))) (by decide) rfl ?_
  intro p e s m args below meth c s₁ B hml hno hv
  obtain ⟨rfl, E, hP, hD⟩ := hv
  have hx := B.exec
  have hb := B.bytes
  have hr := B.returns
  have hlocks := B.notSynchronized
  have Bx : MB p s m [.ref (ad 222), .int (2)].toArray c c_Rd_readSequence "AbnfChart$Reader" D cy := ⟨hx, hb, tb_all (atoms_spec B.pre) E.2.1, findClass_of_methodNamed B.named, E.1⟩
  have hS : va_S (Az sz) s.heap s.heap [] := va_S.rf
  have hl := lv_entry ([.ref (ad 222), .int (2)]) (n := 5) (Nat.le_of_ble_eq_true rfl)
  rw [lg_entry_eq]
  generalize (lg_sl ([.ref (ad 222), .int (2)]) ++ List.replicate (5 - (lg_sl ([.ref (ad 222), .int (2)])).length) Slot.unset).toArray = ls at hl ⊢
  have hl : lv_has ls 5 [(0, .ref (ad 222)), (1, .int (2))] := hl
  have hZ9 := hT.2.1
  have hbd9 := hRX.1.1.1
  obtain ⟨ft1, h9_2⟩ := hRX.2.1
  have h1_3 : mem 1 = .inr (0, [.ref (ad 2), .int (nI Z)]) := (hRX.1.2.2 1 (by omega)).trans hT.1
  have h2_4 : mem 2 = .inl (cy 0, 240, .inl f) := (hRX.1.2.2 2 (by omega)).trans hT.2.2
  have h5_5 := hRX.1.1.2.1
  have hbd11 := hRX.1.1.1
  obtain ⟨S6, g7, hS_8, h220_9, h221_10⟩ := hRX.1.1.2.2.2.2.2.2
  refine lv_aload_n Bx.1 Bx.2.1 d_Rd_readSequence_0 rfl (lv_at hl 0 rfl) ?_
  refine lv_iconst (v := 1) Bx.1 Bx.2.1 d_Rd_readSequence_1 (by decide) ?_
  refine f_xVr (na := 1) (As := [.int (1)]) (rest := []) Bx hml E hP hD hS (by omega) h9_2 rfl (m_Rd_beginRowX l hlt hn hT hf hRX (by omega)) kw_409 kw_411 sel_Rd_beginRow kw_6 kw_412 (by decide +kernel) ⟨rfl, rfl⟩ ⟨Nat.le_of_ble_eq_true rfl, Nat.le_of_ble_eq_true rfl⟩ rfl hl.1 (Nat.le_of_ble_eq_true rfl) d_Rd_readSequence_2 ⟨Nat.le_of_ble_eq_true rfl, Nat.le_of_ble_eq_true rfl⟩ (fun X ce q9 memx H locs hx9 hP hS g1 g2 g3 => f_out hlocks hno hP hS g1 g2 g3 ⟨Nat.le_of_ble_eq_true rfl, Nat.le_of_ble_eq_true rfl⟩ ⟨hx9.1, Or.inl (seq_no hx9.2)⟩) (fun r12 mem13 H locs hq hP hS => ?_)
  have hD : va_D (Az sz) (fw n ad mem13) := fw_D hD
  obtain ⟨hbg, hE9, hr9, hRXb⟩ := hq
  subst hr9
  obtain ⟨ft14, h9_15⟩ := hRXb.2.1
  have h1_16 : mem13 1 = .inr (0, [.ref (ad 2), .int (nI Z)]) := (hRXb.1.2.2 1 (by omega)).trans hT.1
  have h2_17 : mem13 2 = .inl (cy 0, 240, .inl f) := (hRXb.1.2.2 2 (by omega)).trans hT.2.2
  have h5_18 := hRXb.1.1.2.1
  have hbd24 := hRXb.1.1.1
  obtain ⟨S19, g20, hS_21, h220_22, h221_23⟩ := hRXb.1.1.2.2.2.2.2.2
  obtain ⟨k25, lo26, hi27, as28, pa29, ne30, he_31, ho_32⟩ := (hRXb.1.1.2.2.2.2.2.1 Ec (by omega)).1
  refine lv_astore_n (lv' := [(2, .ref (ad (20 + 2 * Ec))), (0, .ref (ad 222)), (1, .int (2))]) Bx.1 Bx.2.1 d_Rd_readSequence_5 rfl hl (by decide) rfl (fun ls hl => ?_)
  refine lv_aload_n Bx.1 Bx.2.1 d_Rd_readSequence_6 rfl (lv_at hl 1 rfl) ?_
  refine lv_iload_n Bx.1 Bx.2.1 d_Rd_readSequence_7 rfl (lv_at hl 2 rfl) ?_
  refine f_xVr (na := 1) (As := [.int (2)]) (rest := []) Bx hml E hP hD hS (by omega) h9_15 rfl (m_Rd_readRepetition_2X l hlt hn hT hf hRXb (by omega) (u := u) (A := seqA A 2 Ec) (by omega) hbg) kw_439 kw_441 sel_Rd_readRepetition kw_6 kw_442 (by decide +kernel) ⟨rfl, rfl⟩ ⟨Nat.le_of_ble_eq_true rfl, Nat.le_of_ble_eq_true rfl⟩ rfl hl.1 (Nat.le_of_ble_eq_true rfl) d_Rd_readSequence_8 ⟨Nat.le_of_ble_eq_true rfl, Nat.le_of_ble_eq_true rfl⟩ (fun X ce q9 memx H locs hx9 hP hS g1 g2 g3 => f_out hlocks hno hP hS g1 g2 g3 ⟨Nat.le_of_ble_eq_true rfl, Nat.le_of_ble_eq_true rfl⟩ ⟨hx9.1, hx9.2.eq (seq_ok hbg hE9)⟩) (fun r33 mem34 H locs hq hP hS => ?_)
  have hD : va_D (Az sz) (fw n ad mem34) := fw_D hD
  obtain ⟨kx35, a36, R37, E38, A39, nn40, to41, hr942, hb43, hb44, hb45, hb46, hb47, htk48, hRX49, hsc50⟩ := hq
  subst hr942
  obtain ⟨ft51, h9_52⟩ := hRX49.2.1
  have h1_53 : mem34 1 = .inr (0, [.ref (ad 2), .int (nI Z)]) := (hRX49.1.2.2 1 (by omega)).trans hT.1
  have h2_54 : mem34 2 = .inl (cy 0, 240, .inl f) := (hRX49.1.2.2 2 (by omega)).trans hT.2.2
  have h5_55 := hRX49.1.1.2.1
  have hbd61 := hRX49.1.1.1
  obtain ⟨S56, g57, hS_58, h220_59, h221_60⟩ := hRX49.1.1.2.2.2.2.2.2
  obtain ⟨k62, lo63, hi64, as65, pa66, ne67, he_68, ho_69⟩ := (hRX49.1.1.2.2.2.2.2.1 Ec (by omega)).1
  obtain ⟨k70, lo71, hi72, as73, pa74, ne75, he_76, ho_77⟩ := (hRX49.1.1.2.2.2.2.2.1 kx35 (by omega)).1
  have hbd78 := hRX49.1.1.1
  refine lv_astore_n (lv' := [(3, .ref (ad (20 + 2 * kx35))), (2, .ref (ad (20 + 2 * Ec))), (0, .ref (ad 222)), (1, .int (2))]) Bx.1 Bx.2.1 d_Rd_readSequence_11 rfl hl (by decide) rfl (fun ls hl => ?_)
  refine lv_aload_n Bx.1 Bx.2.1 d_Rd_readSequence_12 rfl (lv_at hl 1 rfl) ?_
  refine lv_aload_n Bx.1 Bx.2.1 d_Rd_readSequence_13 rfl (lv_at hl 0 rfl) ?_
  refine f_putN Bx hP hD hS (by omega) he_68 rfl inEl tyEl okEl nmEl 4 (by decide) kw_87 rfl rfl rfl rfl (Nat.le_of_ble_eq_true rfl) d_Rd_readSequence_14 (fun H locs hP hS => ?_)
  obtain ⟨mem79, e_mem79⟩ : ∃ z, z = va_up mem34 ((20 + 2 * Ec)) (.inr (2, [.int (k62), .int (lo63), .int (hi64), as65, .ref (ad (20 + 2 * kx35)), ne67, .ref (ad (21 + 2 * Ec))])) := ⟨_, rfl⟩
  have hP : va_P D vcl (fw n ad mem79) H := by rw [e_mem79]; exact hP
  have hD : va_D (Az sz) (fw n ad mem79) := fw_D hD
  have h_mem79 : mem79 ((20 + 2 * Ec)) = .inr (2, [.int (k62), .int (lo63), .int (hi64), as65, .ref (ad (20 + 2 * kx35)), ne67, .ref (ad (21 + 2 * Ec))]) := by rw [e_mem79, va_up_self]
  have hh80 := (va_up_ne mem34 (.inr (2, [.int (k62), .int (lo63), .int (hi64), as65, .ref (ad (20 + 2 * kx35)), ne67, .ref (ad (21 + 2 * Ec))])) (show (222 : Nat) ≠ (20 + 2 * Ec) by first | decide | assumption | omega)).trans h9_52
  rw [← e_mem79] at hh80
  have hh81 := (va_up_ne mem34 (.inr (2, [.int (k62), .int (lo63), .int (hi64), as65, .ref (ad (20 + 2 * kx35)), ne67, .ref (ad (21 + 2 * Ec))])) (show (1 : Nat) ≠ (20 + 2 * Ec) by first | decide | assumption | omega)).trans h1_53
  rw [← e_mem79] at hh81
  have hh82 := (va_up_ne mem34 (.inr (2, [.int (k62), .int (lo63), .int (hi64), as65, .ref (ad (20 + 2 * kx35)), ne67, .ref (ad (21 + 2 * Ec))])) (show (5 : Nat) ≠ (20 + 2 * Ec) by first | decide | assumption | omega)).trans h5_55
  rw [← e_mem79] at hh82
  have hh83 := (va_up_ne mem34 (.inr (2, [.int (k62), .int (lo63), .int (hi64), as65, .ref (ad (20 + 2 * kx35)), ne67, .ref (ad (21 + 2 * Ec))])) (show (220 : Nat) ≠ (20 + 2 * Ec) by first | decide | assumption | omega)).trans h220_59
  rw [← e_mem79] at hh83
  have hh84 := (va_up_ne mem34 (.inr (2, [.int (k62), .int (lo63), .int (hi64), as65, .ref (ad (20 + 2 * kx35)), ne67, .ref (ad (21 + 2 * Ec))])) (show ((20 + 2 * kx35) : Nat) ≠ (20 + 2 * Ec) by first | decide | assumption | omega)).trans he_76
  rw [← e_mem79] at hh84
  have hRX85 : RX cy ad lim (a36) (R37) (E38) (to41) (nn40) m0 mem79 := by rw [e_mem79]; exact hRX49.el (by omega) (hRX49.1.mk (by omega) (hRX49.1.1.upEl (by omega) (fun q9 => ⟨(ho_69 q9).1, Or.inr ⟨kx35, by omega, by omega, rfl⟩, (ho_69 q9).2.2⟩)))
  refine lv_iconst (v := 0) Bx.1 Bx.2.1 d_Rd_readSequence_17 (by decide) ?_
  refine lv_istore (lv' := [(4, .int (0)), (3, .ref (ad (20 + 2 * kx35))), (2, .ref (ad (20 + 2 * Ec))), (0, .ref (ad 222)), (1, .int (2))]) Bx.1 Bx.2.1 d_Rd_readSequence_18 hl (by decide) rfl (fun ls hl => ?_)
  have hsuc0 := hsc50.eq (seq_ok hbg hE9) (seqA_ne (by decide) (by decide)) (seqA_ne (by decide) (by decide))
  have loop86 : ∀ (d87 : Nat) (mem9 : Nat → va_E) (a1 : Nat) (R1 : Nat) (E1 : Nat) (A1 : Ro) (n1 : Nat → Int64) (to1 : Nat → Int32) (la : Nat) (k9 : Nat) (ls : Array Slot) (H : Heap) (locs : List Loc), (240 - k9 < d87) → (RX cy ad lim a1 R1 E1 to1 n1 m0 mem9) → (a < a1 ∧ a1 ≤ Z ∧ R ≤ R1 ∧ Ec < la ∧ la < E1 ∧ k9 < a1 ∧ k9 ≤ 240 ∧ Ec < E1) → (Suc T Z (seqS T Z a u R Ec 2 A nm) 2 R (A 235) (A 227) a1 R1 E1 A1 n1) → (TOK R R1 to to1) → (va_P D vcl (fw n ad mem9) H) → (va_D (Az sz) (fw n ad mem9)) → (va_S (Az sz) s.heap H locs) → (lv_has ls 5 [(4, .int (nI k9)), (3, .ref (ad (20 + 2 * la))), (2, .ref (ad (20 + 2 * Ec))), (0, .ref (ad 222)), (1, .int (2))]) → W p l e (headSpec (Cond.code y_Rd_readSequence c_Rd_readSequence 5 (some (.object "AbnfChart$Element")) :: tg) ({ frames := 42, cells := 1, slots := 6, locals := 1012 } : Room)).room s m [.ref (ad 222), .int (2)].toArray below meth c H locs 0 0 (vx_MQ below (QX (QR (fun r mem' => ∃ (k' a' R' E' : Nat) (A' : Ro) (nm' : Nat → Int64) (to' : Nat → Int32), r = ad (20 + 2 * k') ∧ Ec ≤ k' ∧ k' < E' ∧ R ≤ R' ∧ a < a' ∧ a' ≤ Z ∧ TOK R R' to to' ∧ RX cy ad lim (gapF T Z a') R' E' to' nm' m0 mem' ∧ Suc T Z (seqS T Z a u R Ec 2 A nm) 2 R (A 235) (A 227) a' R' E' A' nm' ∧ ¬ (bgF (hereF Z T (gapF T Z a')) = true ∧ a' < gapF T Z a')) (PP D n ad) (Az sz))) (XQ D sz n ad (fun X mem' => ((X = cIA ∨ X = cIS) ∧ ∃ rc' ec' : Nat, RS cy ad lim rc' ec' m0 mem') ∧ (Fai T Z (seqS T Z a u R Ec 2 A nm)))) [.ref (ad 222), .int (2)].toArray s 1 6 (Az sz)) (F0 m 20 ls []) := by
    intro d87
    induction d87 with
    | zero => intro mem9 a1 R1 E1 A1 n1 to1 la k9 ls H locs hmeas93; exact absurd hmeas93 (Nat.not_lt_zero _)
    | succ d87 ih92 =>
      intro mem9 a1 R1 E1 A1 n1 to1 la k9 ls H locs hmeas93 hz88 hz89 hz90 hz91 hP hD hS hl
      have hbd8 := hz89
      obtain ⟨ft94, h9_95⟩ := hz88.2.1
      have h1_96 : mem9 1 = .inr (0, [.ref (ad 2), .int (nI Z)]) := (hz88.1.2.2 1 (by omega)).trans hT.1
      have h2_97 : mem9 2 = .inl (cy 0, 240, .inl f) := (hz88.1.2.2 2 (by omega)).trans hT.2.2
      have h5_98 := hz88.1.1.2.1
      have hbd104 := hz88.1.1.1
      obtain ⟨S99, g100, hS_101, h220_102, h221_103⟩ := hz88.1.1.2.2.2.2.2.2
      obtain ⟨k105, lo106, hi107, as108, pa109, ne110, he_111, ho_112⟩ := (hz88.1.1.2.2.2.2.2.1 la (by omega)).1
      obtain ⟨c1, u1, ho, hg, hk9, hs9⟩ := id hz90
      refine lv_iload Bx.1 Bx.2.1 d_Rd_readSequence_20 (lv_at hl 0 rfl) ?_
      refine lv_sipush (v := 240) Bx.1 Bx.2.1 d_Rd_readSequence_22 (by decide) ?_
      refine lv_icmp_ge Bx.1 Bx.2.1 d_Rd_readSequence_25 rfl (fun hb113 => ?_) (fun hb113 => ?_)
      · have hN114 : 240 ≤ k9 := (nI_leI (by omega) (by omega)).mp (show nI (240) ≤ nI (k9) from hb113)
        exact absurd hbd8 (by omega)
      · have hN115 : ¬ 240 ≤ k9 := fun q9 => hb113 (show nI (240) ≤ nI (k9) from (nI_leI (by omega) (by omega)).mpr q9)
        refine lv_aload_n Bx.1 Bx.2.1 d_Rd_readSequence_28 rfl (lv_at hl 3 rfl) ?_
        refine f_callVi (na := 0) (As := []) (rest := []) Bx hml E hP hD hS (by omega) h9_95 rfl (m_Rd_readGapX l hn hT hf hz88 (by omega) (by omega)) kw_397 kw_399 sel_Rd_readGap kw_6 kw_400 (by decide +kernel) ⟨rfl, rfl⟩ ⟨Nat.le_of_ble_eq_true rfl, Nat.le_of_ble_eq_true rfl⟩ rfl hl.1 (Nat.le_of_ble_eq_true rfl) d_Rd_readSequence_29 ⟨Nat.le_of_ble_eq_true rfl, Nat.le_of_ble_eq_true rfl⟩ (fun r116 mem117 H locs hq hP hS => ?_)
        have hD : va_D (Az sz) (fw n ad mem117) := fw_D hD
        obtain ⟨g118, eg119⟩ : ∃ z, z = gapF T Z (a1) := ⟨_, rfl⟩
        rw [← eg119] at hq
        obtain ⟨hRX120, hgc121⟩ := hq
        have hg122 : a1 ≤ g118 := by rw [eg119]; exact gapF_ge T Z _
        have hg123 : g118 ≤ Z := by rw [eg119]; exact gapF_le T (by omega)
        obtain ⟨ft124, h9_125⟩ := hRX120.2.1
        have h1_126 : mem117 1 = .inr (0, [.ref (ad 2), .int (nI Z)]) := (hRX120.1.2.2 1 (by omega)).trans hT.1
        have h2_127 : mem117 2 = .inl (cy 0, 240, .inl f) := (hRX120.1.2.2 2 (by omega)).trans hT.2.2
        have h5_128 := hRX120.1.1.2.1
        have hbd134 := hRX120.1.1.1
        obtain ⟨S129, g130, hS_131, h220_132, h221_133⟩ := hRX120.1.1.2.2.2.2.2.2
        obtain ⟨k135, lo136, hi137, as138, pa139, ne140, he_141, ho_142⟩ := (hRX120.1.1.2.2.2.2.2.1 la (by omega)).1
        rcases hgc121 with ⟨hr143, hga144⟩ | ⟨hr143, hga144⟩
        · subst hr143
          refine lv_if_eq Bx.1 Bx.2.1 d_Rd_readSequence_32 rfl (fun hb145 => ?_) (fun hb145 => ?_)
          · exact absurd hb145 (by decide)
          · refine lv_aload_n Bx.1 Bx.2.1 d_Rd_readSequence_35 rfl (lv_at hl 3 rfl) ?_
            refine f_callVi (na := 0) (As := []) (rest := []) Bx hml E hP hD hS (by omega) h9_125 rfl (m_Rd_peekX l hn hT hf hRX120 (by omega)) kw_353 kw_355 sel_Rd_peek kw_6 kw_356 (by decide +kernel) ⟨rfl, rfl⟩ ⟨Nat.le_of_ble_eq_true rfl, Nat.le_of_ble_eq_true rfl⟩ rfl hl.1 (Nat.le_of_ble_eq_true rfl) d_Rd_readSequence_36 ⟨Nat.le_of_ble_eq_true rfl, Nat.le_of_ble_eq_true rfl⟩ (fun r147 mem148 H locs hq hP hS => ?_)
            have hD : va_D (Az sz) (fw n ad mem148) := fw_D hD
            obtain ⟨hqe, hpk146⟩ := hq
            rw [hqe] at hP hD
            subst hpk146
            refine f_callSi (na := 1) (As := [.int (hereF Z T (g118))]) (rest := []) Bx hml E.2.1 (m_Rd_beginsRepetitionX l (hereF Z T (g118))) kw_413 kw_414 kw_6 kw_415 (by decide +kernel) ⟨rfl, rfl⟩ ⟨Nat.le_of_ble_eq_true rfl, Nat.le_of_ble_eq_true rfl⟩ rfl hl.1 (Nat.le_of_ble_eq_true rfl) d_Rd_readSequence_39 ⟨Nat.le_of_ble_eq_true rfl, Nat.le_of_ble_eq_true rfl⟩ (fun r151 hs150 => ?_)
            subst hs150
            refine lv_if_eq Bx.1 Bx.2.1 d_Rd_readSequence_42 rfl (fun hb152 => ?_) (fun hb152 => ?_)
            · refine lv_aload_n Bx.1 Bx.2.1 d_Rd_readSequence_65 rfl (lv_at hl 2 rfl) ?_
              exact x_aret hx hb hlocks hr (⟨Ec, a1, R1, E1, A1, n1, to1, rfl, by omega, by omega, by omega, by omega, by omega, hz91, by rw [← eg119]; exact hRX120, hz90, fun z => by have q9 := z.1; rw [← eg119, bg_0 hb152] at q9; exact absurd q9 (by decide)⟩) hP hS d_Rd_readSequence_66
            · have hbg2 : bgF (hereF Z T (gapF T Z a1)) = true := by rw [← eg119]; exact bg_1 hb152
              have hgt2 : a1 < gapF T Z a1 := by rw [← eg119]; omega
              refine lv_aload_n Bx.1 Bx.2.1 d_Rd_readSequence_45 rfl (lv_at hl 1 rfl) ?_
              refine lv_aload_n Bx.1 Bx.2.1 d_Rd_readSequence_46 rfl (lv_at hl 3 rfl) ?_
              refine lv_iload_n Bx.1 Bx.2.1 d_Rd_readSequence_47 rfl (lv_at hl 4 rfl) ?_
              refine f_xVr (na := 1) (As := [.int (2)]) (rest := [.ref (ad (20 + 2 * la))]) Bx hml E hP hD hS (by omega) h9_125 rfl (m_Rd_readRepetition_2X l hlt hn hT hf hRX120 (by omega) (u := u1) (A := A1) (by omega) (by rw [eg119]; exact hbg2)) kw_439 kw_441 sel_Rd_readRepetition kw_6 kw_442 (by decide +kernel) ⟨rfl, rfl⟩ ⟨Nat.le_of_ble_eq_true rfl, Nat.le_of_ble_eq_true rfl⟩ rfl hl.1 (Nat.le_of_ble_eq_true rfl) d_Rd_readSequence_48 ⟨Nat.le_of_ble_eq_true rfl, Nat.le_of_ble_eq_true rfl⟩ (fun X ce q9 memx H locs hx9 hP hS g1 g2 g3 => f_out hlocks hno hP hS g1 g2 g3 ⟨Nat.le_of_ble_eq_true rfl, Nat.le_of_ble_eq_true rfl⟩ ⟨hx9.1, Fai.go ho hg (go_rept hbg2 hgt2) (by rw [← eg119]; exact hx9.2)⟩) (fun r153 mem154 H locs hq hP hS => ?_)
              have hD : va_D (Az sz) (fw n ad mem154) := fw_D hD
              obtain ⟨kx155, a156, R157, E158, A159, nn160, to161, hr9162, hb163, hb164, hb165, hb166, hb167, htk168, hRX169, hsc170⟩ := hq
              subst hr9162
              obtain ⟨ft171, h9_172⟩ := hRX169.2.1
              have h1_173 : mem154 1 = .inr (0, [.ref (ad 2), .int (nI Z)]) := (hRX169.1.2.2 1 (by omega)).trans hT.1
              have h2_174 : mem154 2 = .inl (cy 0, 240, .inl f) := (hRX169.1.2.2 2 (by omega)).trans hT.2.2
              have h5_175 := hRX169.1.1.2.1
              have hbd181 := hRX169.1.1.1
              obtain ⟨S176, g177, hS_178, h220_179, h221_180⟩ := hRX169.1.1.2.2.2.2.2.2
              obtain ⟨k182, lo183, hi184, as185, pa186, ne187, he_188, ho_189⟩ := (hRX169.1.1.2.2.2.2.2.1 la (by omega)).1
              obtain ⟨k190, lo191, hi192, as193, pa194, ne195, he_196, ho_197⟩ := (hRX169.1.1.2.2.2.2.2.1 kx155 (by omega)).1
              have hbd198 := hRX169.1.1.1
              have hsuc3 := Suc.go ho hg hk9 hs9 (by omega) (go_rept hbg2 hgt2) (by rw [← eg119]; exact hsc170)
              have htk3 := hz91.trans htk168 (by omega)
              refine f_putN Bx hP hD hS (by omega) he_188 rfl inEl tyEl okEl nmEl 5 (by decide) kw_91 rfl rfl rfl rfl (Nat.le_of_ble_eq_true rfl) d_Rd_readSequence_51 (fun H locs hP hS => ?_)
              obtain ⟨mem199, e_mem199⟩ : ∃ z, z = va_up mem154 ((20 + 2 * la)) (.inr (2, [.int (k182), .int (lo183), .int (hi184), as185, pa186, .ref (ad (20 + 2 * kx155)), .ref (ad (21 + 2 * la))])) := ⟨_, rfl⟩
              have hP : va_P D vcl (fw n ad mem199) H := by rw [e_mem199]; exact hP
              have hD : va_D (Az sz) (fw n ad mem199) := fw_D hD
              have h_mem199 : mem199 ((20 + 2 * la)) = .inr (2, [.int (k182), .int (lo183), .int (hi184), as185, pa186, .ref (ad (20 + 2 * kx155)), .ref (ad (21 + 2 * la))]) := by rw [e_mem199, va_up_self]
              have hh200 := (va_up_ne mem154 (.inr (2, [.int (k182), .int (lo183), .int (hi184), as185, pa186, .ref (ad (20 + 2 * kx155)), .ref (ad (21 + 2 * la))])) (show (222 : Nat) ≠ (20 + 2 * la) by first | decide | assumption | omega)).trans h9_172
              rw [← e_mem199] at hh200
              have hh201 := (va_up_ne mem154 (.inr (2, [.int (k182), .int (lo183), .int (hi184), as185, pa186, .ref (ad (20 + 2 * kx155)), .ref (ad (21 + 2 * la))])) (show (1 : Nat) ≠ (20 + 2 * la) by first | decide | assumption | omega)).trans h1_173
              rw [← e_mem199] at hh201
              have hh202 := (va_up_ne mem154 (.inr (2, [.int (k182), .int (lo183), .int (hi184), as185, pa186, .ref (ad (20 + 2 * kx155)), .ref (ad (21 + 2 * la))])) (show (5 : Nat) ≠ (20 + 2 * la) by first | decide | assumption | omega)).trans h5_175
              rw [← e_mem199] at hh202
              have hh203 := (va_up_ne mem154 (.inr (2, [.int (k182), .int (lo183), .int (hi184), as185, pa186, .ref (ad (20 + 2 * kx155)), .ref (ad (21 + 2 * la))])) (show (220 : Nat) ≠ (20 + 2 * la) by first | decide | assumption | omega)).trans h220_179
              rw [← e_mem199] at hh203
              have hh204 := (va_up_ne mem154 (.inr (2, [.int (k182), .int (lo183), .int (hi184), as185, pa186, .ref (ad (20 + 2 * kx155)), .ref (ad (21 + 2 * la))])) (show ((20 + 2 * kx155) : Nat) ≠ (20 + 2 * la) by first | decide | assumption | omega)).trans he_196
              rw [← e_mem199] at hh204
              have hRX205 : RX cy ad lim (a156) (R157) (E158) (to161) (nn160) m0 mem199 := by rw [e_mem199]; exact hRX169.el (by omega) (hRX169.1.mk (by omega) (hRX169.1.1.upEl (by omega) (fun q9 => ⟨(ho_189 q9).1, (ho_189 q9).2.1, Or.inr ⟨kx155, by omega, by omega, rfl⟩⟩)))
              refine lv_aload_n Bx.1 Bx.2.1 d_Rd_readSequence_54 rfl (lv_at hl 1 rfl) ?_
              refine f_getN Bx hP (by omega) h_mem199 rfl inEl 5 (by decide) kw_91 rfl rfl d_Rd_readSequence_55 ?_
              refine lv_astore_n (lv' := [(3, .ref (ad (20 + 2 * kx155))), (4, .int (nI k9)), (2, .ref (ad (20 + 2 * Ec))), (0, .ref (ad 222)), (1, .int (2))]) Bx.1 Bx.2.1 d_Rd_readSequence_58 rfl hl (by decide) rfl (fun ls hl => ?_)
              refine lv_iinc (lv' := [(4, .int ((nI k9 + (1)))), (3, .ref (ad (20 + 2 * kx155))), (2, .ref (ad (20 + 2 * Ec))), (0, .ref (ad 222)), (1, .int (2))]) Bx.1 Bx.2.1 d_Rd_readSequence_59 hl (k := 1) rfl rfl (by decide) rfl (fun ls hl => ?_)
              rw [show (nI k9 + (1) : Int32) = nI (k9 + 1) from nI_1 (k9)] at hl
              refine lv_goto Bx.1 Bx.2.1 d_Rd_readSequence_62 rfl ?_
              exact ih92 mem199 (a156) (R157) (E158) (A159) (nn160) (to161) (kx155) (k9 + 1) _ _ _ (by have := hmeas93; omega) (hRX205) (⟨by omega, by omega, by omega, by omega, by omega, by omega, by omega, by omega⟩) (hsuc3) (htk3) hP hD hS (lv_sub hl [0, 1, 2, 3, 4] rfl)
        · subst hr143
          refine lv_if_eq Bx.1 Bx.2.1 d_Rd_readSequence_32 rfl (fun hb206 => ?_) (fun hb206 => ?_)
          · refine lv_aload_n Bx.1 Bx.2.1 d_Rd_readSequence_65 rfl (lv_at hl 2 rfl) ?_
            exact x_aret hx hb hlocks hr (⟨Ec, a1, R1, E1, A1, n1, to1, rfl, by omega, by omega, by omega, by omega, by omega, hz91, by rw [← eg119]; exact hRX120, hz90, fun z => by have := z.2; rw [← eg119] at this; omega⟩) hP hS d_Rd_readSequence_66
          · exact absurd hb206 (by decide)
  exact loop86 _ mem79 (a36) (R37) (E38) (A39) (nn40) (to41) (kx35) (0) _ _ _ (Nat.lt_succ_self _) (hRX85) (⟨by omega, by omega, by omega, by omega, by omega, by omega, by omega, by omega⟩) (hsuc0) (htk48) hP hD hS (lv_sub hl [0, 1, 2, 3, 4] rfl)
set_option maxHeartbeats 4000000 in
set_option maxRecDepth 100000 in
theorem m_Rd_readAlternatives_2X (l : Launch) {D : va_G} {cy : Nat → ClassId} {sz n : Nat} {ad : Nat → Nat} {mem : Nat → va_E} {Z a R Ec lim : Nat} {f T : Nat → Int32} {to : Nat → Int32} {nm : Nat → Int64} {m0 : Nat → va_E} {u : Nat} {A : Ro} (hlt : l.stackTraces = false) (hn : 224 ≤ n) (hT : TX cy ad Z f m0) (hf : ∀ k, k < Z → f k = T k) (hRX : RX cy ad lim a R Ec to nm m0 mem) (haB : a ≤ 300) (haZ : a ≤ Z) : NXr l D cy sz n ad y_Rd_readAlternatives c_Rd_readAlternatives 5 (some (.object "AbnfChart$Element")) ({ frames := 43, cells := 1, slots := 6, locals := 1038 } : Room) mem [.ref (ad 222), .int (2)] (fun r mem' => ∃ (k' a' R' E' : Nat) (A' : Ro) (nm' : Nat → Int64) (to' : Nat → Int32), r = ad (20 + 2 * k') ∧ Ec ≤ k' ∧ k' < E' ∧ R ≤ R' ∧ a < a' ∧ a' ≤ Z ∧ TOK R R' to to' ∧ RX cy ad lim (gapF T Z a') R' E' to' nm' m0 mem' ∧ Suc T Z (seqS T Z a u R (Ec + 1) 2 A nm) 2 R (A 235) (A 227) a' R' E' A' nm' ∧ bgF (hereF Z T a) = true ∧ Ec < 100 ∧ ¬ hereF Z T (gapF T Z a') = 47 ∧ ¬ (bgF (hereF Z T (gapF T Z a')) = true ∧ a' < gapF T Z a')) (fun X mem' => ((X = cIA ∨ X = cIS) ∧ ∃ rc' ec' : Nat, RS cy ad lim rc' ec' m0 mem') ∧ (bgF (hereF Z T a) = false ∨ Ec = 100 ∨ (bgF (hereF Z T a) = true ∧ Ec < 100 ∧ Fai T Z (seqS T Z a u R (Ec + 1) 2 A nm)))) := by
  refine vx_ofW (cc := c_Rd_readAlternatives) (maxL := 5) (ret := (some (.object "AbnfChart$Element"))) (by decide) rfl ?_
  intro p e s m args below meth c s₁ B hml hno hv
  obtain ⟨rfl, E, hP, hD⟩ := hv
  have hx := B.exec
  have hb := B.bytes
  have hr := B.returns
  have hlocks := B.notSynchronized
  have Bx : MB p s m [.ref (ad 222), .int (2)].toArray c c_Rd_readAlternatives "AbnfChart$Reader" D cy := ⟨hx, hb, tb_all (atoms_spec B.pre) E.2.1, findClass_of_methodNamed B.named, E.1⟩
  have hS : va_S (Az sz) s.heap s.heap [] := va_S.rf
  have hl := lv_entry ([.ref (ad 222), .int (2)]) (n := 5) (Nat.le_of_ble_eq_true rfl)
  rw [lg_entry_eq]
  generalize (lg_sl ([.ref (ad 222), .int (2)]) ++ List.replicate (5 - (lg_sl ([.ref (ad 222), .int (2)])).length) Slot.unset).toArray = ls at hl ⊢
  have hl : lv_has ls 5 [(0, .ref (ad 222)), (1, .int (2))] := hl
  have hZ9 := hT.2.1
  have hbd9 := hRX.1.1.1
  obtain ⟨ft1, h9_2⟩ := hRX.2.1
  have h1_3 : mem 1 = .inr (0, [.ref (ad 2), .int (nI Z)]) := (hRX.1.2.2 1 (by omega)).trans hT.1
  have h2_4 : mem 2 = .inl (cy 0, 240, .inl f) := (hRX.1.2.2 2 (by omega)).trans hT.2.2
  have h5_5 := hRX.1.1.2.1
  have hbd11 := hRX.1.1.1
  obtain ⟨S6, g7, hS_8, h220_9, h221_10⟩ := hRX.1.1.2.2.2.2.2.2
  refine lv_aload_n Bx.1 Bx.2.1 d_Rd_readAlternatives_0 rfl (lv_at hl 0 rfl) ?_
  refine lv_iconst (v := 0) Bx.1 Bx.2.1 d_Rd_readAlternatives_1 (by decide) ?_
  refine f_xVr (na := 1) (As := [.int (0)]) (rest := []) Bx hml E hP hD hS (by omega) h9_2 rfl (m_Rd_beginRowX l hlt hn hT hf hRX (by omega)) kw_409 kw_411 sel_Rd_beginRow kw_6 kw_412 (by decide +kernel) ⟨rfl, rfl⟩ ⟨Nat.le_of_ble_eq_true rfl, Nat.le_of_ble_eq_true rfl⟩ rfl hl.1 (Nat.le_of_ble_eq_true rfl) d_Rd_readAlternatives_2 ⟨Nat.le_of_ble_eq_true rfl, Nat.le_of_ble_eq_true rfl⟩ (fun X ce q9 memx H locs hx9 hP hS g1 g2 g3 => f_out hlocks hno hP hS g1 g2 g3 ⟨Nat.le_of_ble_eq_true rfl, Nat.le_of_ble_eq_true rfl⟩ ⟨hx9.1, hx9.2.elim Or.inl (fun z => Or.inr (Or.inl z))⟩) (fun r12 mem13 H locs hq hP hS => ?_)
  have hD : va_D (Az sz) (fw n ad mem13) := fw_D hD
  obtain ⟨hbg, hE9, hr9, hRXb⟩ := hq
  subst hr9
  obtain ⟨ft14, h9_15⟩ := hRXb.2.1
  have h1_16 : mem13 1 = .inr (0, [.ref (ad 2), .int (nI Z)]) := (hRXb.1.2.2 1 (by omega)).trans hT.1
  have h2_17 : mem13 2 = .inl (cy 0, 240, .inl f) := (hRXb.1.2.2 2 (by omega)).trans hT.2.2
  have h5_18 := hRXb.1.1.2.1
  have hbd24 := hRXb.1.1.1
  obtain ⟨S19, g20, hS_21, h220_22, h221_23⟩ := hRXb.1.1.2.2.2.2.2.2
  obtain ⟨k25, lo26, hi27, as28, pa29, ne30, he_31, ho_32⟩ := (hRXb.1.1.2.2.2.2.2.1 Ec (by omega)).1
  refine lv_astore_n (lv' := [(2, .ref (ad (20 + 2 * Ec))), (0, .ref (ad 222)), (1, .int (2))]) Bx.1 Bx.2.1 d_Rd_readAlternatives_5 rfl hl (by decide) rfl (fun ls hl => ?_)
  refine lv_aload_n Bx.1 Bx.2.1 d_Rd_readAlternatives_6 rfl (lv_at hl 1 rfl) ?_
  refine lv_iload_n Bx.1 Bx.2.1 d_Rd_readAlternatives_7 rfl (lv_at hl 2 rfl) ?_
  refine f_xVr (na := 1) (As := [.int (2)]) (rest := []) Bx hml E hP hD hS (by omega) h9_15 rfl (m_Rd_readSequence_2X l hlt hn hT hf hRXb (by omega) (u := u) (A := A) (by omega)) kw_435 kw_437 sel_Rd_readSequence kw_6 kw_438 (by decide +kernel) ⟨rfl, rfl⟩ ⟨Nat.le_of_ble_eq_true rfl, Nat.le_of_ble_eq_true rfl⟩ rfl hl.1 (Nat.le_of_ble_eq_true rfl) d_Rd_readAlternatives_8 ⟨Nat.le_of_ble_eq_true rfl, Nat.le_of_ble_eq_true rfl⟩ (fun X ce q9 memx H locs hx9 hP hS g1 g2 g3 => f_out hlocks hno hP hS g1 g2 g3 ⟨Nat.le_of_ble_eq_true rfl, Nat.le_of_ble_eq_true rfl⟩ ⟨hx9.1, Or.inr (Or.inr ⟨hbg, hE9, hx9.2⟩)⟩) (fun r33 mem34 H locs hq hP hS => ?_)
  have hD : va_D (Az sz) (fw n ad mem34) := fw_D hD
  obtain ⟨kx35, a36, R37, E38, A39, nn40, to41, hr942, hb43, hb44, hb45, hb46, hb47, htk48, hRX49, hsc50, hnb51⟩ := hq
  subst hr942
  obtain ⟨g52, eg53⟩ : ∃ z, z = gapF T Z a36 := ⟨_, rfl⟩
  have hg54 : a36 ≤ g52 := by rw [eg53]; exact gapF_ge T Z _
  have hg55 : g52 ≤ Z := by rw [eg53]; exact gapF_le T (by omega)
  rw [← eg53] at hRX49
  obtain ⟨ft56, h9_57⟩ := hRX49.2.1
  have h1_58 : mem34 1 = .inr (0, [.ref (ad 2), .int (nI Z)]) := (hRX49.1.2.2 1 (by omega)).trans hT.1
  have h2_59 : mem34 2 = .inl (cy 0, 240, .inl f) := (hRX49.1.2.2 2 (by omega)).trans hT.2.2
  have h5_60 := hRX49.1.1.2.1
  have hbd66 := hRX49.1.1.1
  obtain ⟨S61, g62, hS_63, h220_64, h221_65⟩ := hRX49.1.1.2.2.2.2.2.2
  obtain ⟨k67, lo68, hi69, as70, pa71, ne72, he_73, ho_74⟩ := (hRX49.1.1.2.2.2.2.2.1 Ec (by omega)).1
  obtain ⟨k75, lo76, hi77, as78, pa79, ne80, he_81, ho_82⟩ := (hRX49.1.1.2.2.2.2.2.1 kx35 (by omega)).1
  have hbd83 := hRX49.1.1.1
  refine lv_astore_n (lv' := [(3, .ref (ad (20 + 2 * kx35))), (2, .ref (ad (20 + 2 * Ec))), (0, .ref (ad 222)), (1, .int (2))]) Bx.1 Bx.2.1 d_Rd_readAlternatives_11 rfl hl (by decide) rfl (fun ls hl => ?_)
  refine lv_aload_n Bx.1 Bx.2.1 d_Rd_readAlternatives_12 rfl (lv_at hl 1 rfl) ?_
  refine lv_aload_n Bx.1 Bx.2.1 d_Rd_readAlternatives_13 rfl (lv_at hl 0 rfl) ?_
  refine f_putN Bx hP hD hS (by omega) he_73 rfl inEl tyEl okEl nmEl 4 (by decide) kw_87 rfl rfl rfl rfl (Nat.le_of_ble_eq_true rfl) d_Rd_readAlternatives_14 (fun H locs hP hS => ?_)
  obtain ⟨mem84, e_mem84⟩ : ∃ z, z = va_up mem34 ((20 + 2 * Ec)) (.inr (2, [.int (k67), .int (lo68), .int (hi69), as70, .ref (ad (20 + 2 * kx35)), ne72, .ref (ad (21 + 2 * Ec))])) := ⟨_, rfl⟩
  have hP : va_P D vcl (fw n ad mem84) H := by rw [e_mem84]; exact hP
  have hD : va_D (Az sz) (fw n ad mem84) := fw_D hD
  have h_mem84 : mem84 ((20 + 2 * Ec)) = .inr (2, [.int (k67), .int (lo68), .int (hi69), as70, .ref (ad (20 + 2 * kx35)), ne72, .ref (ad (21 + 2 * Ec))]) := by rw [e_mem84, va_up_self]
  have hh85 := (va_up_ne mem34 (.inr (2, [.int (k67), .int (lo68), .int (hi69), as70, .ref (ad (20 + 2 * kx35)), ne72, .ref (ad (21 + 2 * Ec))])) (show (222 : Nat) ≠ (20 + 2 * Ec) by first | decide | assumption | omega)).trans h9_57
  rw [← e_mem84] at hh85
  have hh86 := (va_up_ne mem34 (.inr (2, [.int (k67), .int (lo68), .int (hi69), as70, .ref (ad (20 + 2 * kx35)), ne72, .ref (ad (21 + 2 * Ec))])) (show (1 : Nat) ≠ (20 + 2 * Ec) by first | decide | assumption | omega)).trans h1_58
  rw [← e_mem84] at hh86
  have hh87 := (va_up_ne mem34 (.inr (2, [.int (k67), .int (lo68), .int (hi69), as70, .ref (ad (20 + 2 * kx35)), ne72, .ref (ad (21 + 2 * Ec))])) (show (5 : Nat) ≠ (20 + 2 * Ec) by first | decide | assumption | omega)).trans h5_60
  rw [← e_mem84] at hh87
  have hh88 := (va_up_ne mem34 (.inr (2, [.int (k67), .int (lo68), .int (hi69), as70, .ref (ad (20 + 2 * kx35)), ne72, .ref (ad (21 + 2 * Ec))])) (show (220 : Nat) ≠ (20 + 2 * Ec) by first | decide | assumption | omega)).trans h220_64
  rw [← e_mem84] at hh88
  have hh89 := (va_up_ne mem34 (.inr (2, [.int (k67), .int (lo68), .int (hi69), as70, .ref (ad (20 + 2 * kx35)), ne72, .ref (ad (21 + 2 * Ec))])) (show ((20 + 2 * kx35) : Nat) ≠ (20 + 2 * Ec) by first | decide | assumption | omega)).trans he_81
  rw [← e_mem84] at hh89
  have hRX90 : RX cy ad lim (g52) (R37) (E38) (to41) (nn40) m0 mem84 := by rw [e_mem84]; exact hRX49.el (by omega) (hRX49.1.mk (by omega) (hRX49.1.1.upEl (by omega) (fun q9 => ⟨(ho_74 q9).1, Or.inr ⟨kx35, by omega, by omega, rfl⟩, (ho_74 q9).2.2⟩)))
  refine lv_iconst (v := 0) Bx.1 Bx.2.1 d_Rd_readAlternatives_17 (by decide) ?_
  refine lv_istore (lv' := [(4, .int (0)), (3, .ref (ad (20 + 2 * kx35))), (2, .ref (ad (20 + 2 * Ec))), (0, .ref (ad 222)), (1, .int (2))]) Bx.1 Bx.2.1 d_Rd_readAlternatives_18 hl (by decide) rfl (fun ls hl => ?_)
  have loop91 : ∀ (d92 : Nat) (mem9 : Nat → va_E) (a1 : Nat) (R1 : Nat) (E1 : Nat) (A1 : Ro) (n1 : Nat → Int64) (to1 : Nat → Int32) (la : Nat) (k9 : Nat) (ls : Array Slot) (H : Heap) (locs : List Loc), (240 - k9 < d92) → (RX cy ad lim (gapF T Z a1) R1 E1 to1 n1 m0 mem9) → (a < a1 ∧ a1 ≤ Z ∧ R ≤ R1 ∧ Ec < la ∧ la < E1 ∧ k9 < a1 ∧ k9 ≤ 240 ∧ Ec < E1) → (Suc T Z (seqS T Z a u R (Ec + 1) 2 A nm) 2 R (A 235) (A 227) a1 R1 E1 A1 n1) → (TOK R R1 to to1) → (¬ (bgF (hereF Z T (gapF T Z a1)) = true ∧ a1 < gapF T Z a1)) → (va_P D vcl (fw n ad mem9) H) → (va_D (Az sz) (fw n ad mem9)) → (va_S (Az sz) s.heap H locs) → (lv_has ls 5 [(4, .int (nI k9)), (3, .ref (ad (20 + 2 * la))), (2, .ref (ad (20 + 2 * Ec))), (0, .ref (ad 222)), (1, .int (2))]) → W p l e (headSpec (Cond.code y_Rd_readAlternatives c_Rd_readAlternatives 5 (some (.object "AbnfChart$Element")) :: tg) ({ frames := 43, cells := 1, slots := 6, locals := 1038 } : Room)).room s m [.ref (ad 222), .int (2)].toArray below meth c H locs 0 0 (vx_MQ below (QX (QR (fun r mem' => ∃ (k' a' R' E' : Nat) (A' : Ro) (nm' : Nat → Int64) (to' : Nat → Int32), r = ad (20 + 2 * k') ∧ Ec ≤ k' ∧ k' < E' ∧ R ≤ R' ∧ a < a' ∧ a' ≤ Z ∧ TOK R R' to to' ∧ RX cy ad lim (gapF T Z a') R' E' to' nm' m0 mem' ∧ Suc T Z (seqS T Z a u R (Ec + 1) 2 A nm) 2 R (A 235) (A 227) a' R' E' A' nm' ∧ bgF (hereF Z T a) = true ∧ Ec < 100 ∧ ¬ hereF Z T (gapF T Z a') = 47 ∧ ¬ (bgF (hereF Z T (gapF T Z a')) = true ∧ a' < gapF T Z a')) (PP D n ad) (Az sz))) (XQ D sz n ad (fun X mem' => ((X = cIA ∨ X = cIS) ∧ ∃ rc' ec' : Nat, RS cy ad lim rc' ec' m0 mem') ∧ (bgF (hereF Z T a) = false ∨ Ec = 100 ∨ (bgF (hereF Z T a) = true ∧ Ec < 100 ∧ Fai T Z (seqS T Z a u R (Ec + 1) 2 A nm))))) [.ref (ad 222), .int (2)].toArray s 1 6 (Az sz)) (F0 m 20 ls []) := by
    intro d92
    induction d92 with
    | zero => intro mem9 a1 R1 E1 A1 n1 to1 la k9 ls H locs hmeas99; exact absurd hmeas99 (Nat.not_lt_zero _)
    | succ d92 ih98 =>
      intro mem9 a1 R1 E1 A1 n1 to1 la k9 ls H locs hmeas99 hz93 hz94 hz95 hz96 hz97 hP hD hS hl
      obtain ⟨g1, eg1⟩ : ∃ z, z = gapF T Z a1 := ⟨_, rfl⟩
      rw [← eg1] at hz93
      have hge1 : a1 ≤ g1 := by rw [eg1]; exact gapF_ge T Z _
      have hbd8 := hz94
      have hle1 : g1 ≤ Z := by rw [eg1]; exact gapF_le T (by omega)
      obtain ⟨ft100, h9_101⟩ := hz93.2.1
      have h1_102 : mem9 1 = .inr (0, [.ref (ad 2), .int (nI Z)]) := (hz93.1.2.2 1 (by omega)).trans hT.1
      have h2_103 : mem9 2 = .inl (cy 0, 240, .inl f) := (hz93.1.2.2 2 (by omega)).trans hT.2.2
      have h5_104 := hz93.1.1.2.1
      have hbd110 := hz93.1.1.1
      obtain ⟨S105, g106, hS_107, h220_108, h221_109⟩ := hz93.1.1.2.2.2.2.2.2
      obtain ⟨k111, lo112, hi113, as114, pa115, ne116, he_117, ho_118⟩ := (hz93.1.1.2.2.2.2.2.1 la (by omega)).1
      obtain ⟨c1, u1, ho, hg, hk9, hs9⟩ := id hz95
      refine lv_iload Bx.1 Bx.2.1 d_Rd_readAlternatives_20 (lv_at hl 0 rfl) ?_
      refine lv_sipush (v := 240) Bx.1 Bx.2.1 d_Rd_readAlternatives_22 (by decide) ?_
      refine lv_icmp_ge Bx.1 Bx.2.1 d_Rd_readAlternatives_25 rfl (fun hb119 => ?_) (fun hb119 => ?_)
      · have hN120 : 240 ≤ k9 := (nI_leI (by omega) (by omega)).mp (show nI (240) ≤ nI (k9) from hb119)
        exact absurd hbd8 (by omega)
      · have hN121 : ¬ 240 ≤ k9 := fun q9 => hb119 (show nI (240) ≤ nI (k9) from (nI_leI (by omega) (by omega)).mpr q9)
        refine lv_aload_n Bx.1 Bx.2.1 d_Rd_readAlternatives_28 rfl (lv_at hl 3 rfl) ?_
        refine f_callVi (na := 0) (As := []) (rest := []) Bx hml E hP hD hS (by omega) h9_101 rfl (m_Rd_peekX l hn hT hf hz93 (by omega)) kw_353 kw_355 sel_Rd_peek kw_6 kw_356 (by decide +kernel) ⟨rfl, rfl⟩ ⟨Nat.le_of_ble_eq_true rfl, Nat.le_of_ble_eq_true rfl⟩ rfl hl.1 (Nat.le_of_ble_eq_true rfl) d_Rd_readAlternatives_29 ⟨Nat.le_of_ble_eq_true rfl, Nat.le_of_ble_eq_true rfl⟩ (fun r123 mem124 H locs hq hP hS => ?_)
        have hD : va_D (Az sz) (fw n ad mem124) := fw_D hD
        obtain ⟨hqe, hpk122⟩ := hq
        rw [hqe] at hP hD
        subst hpk122
        refine lv_bipush (v := 47) Bx.1 Bx.2.1 d_Rd_readAlternatives_32 (by decide) ?_
        refine lv_icmp_ne Bx.1 Bx.2.1 d_Rd_readAlternatives_34 rfl (fun hb126 => ?_) (fun hb126 => ?_)
        · refine lv_aload_n Bx.1 Bx.2.1 d_Rd_readAlternatives_72 rfl (lv_at hl 2 rfl) ?_
          exact x_aret hx hb hlocks hr (⟨Ec, a1, R1, E1, A1, n1, to1, rfl, by omega, by omega, by omega, by omega, by omega, hz96, by rw [← eg1]; exact hz93, hz95, hbg, hE9, by rw [← eg1]; exact hb126, hz97⟩) hP hS d_Rd_readAlternatives_73
        · have hlt127 := hereF_lt (by rw [hb126]; decide)
          have h47 : hereF Z T (gapF T Z a1) = 47 := by rw [← eg1]; exact hb126
          refine lv_aload_n Bx.1 Bx.2.1 d_Rd_readAlternatives_37 rfl (lv_at hl 3 rfl) ?_
          refine lv_dup Bx.1 Bx.2.1 d_Rd_readAlternatives_38 rfl ?_
          refine f_get Bx hP (by omega) h9_101 rfl inRd 2 (by decide) kw_146 rfl rfl d_Rd_readAlternatives_39 ?_
          refine lv_iconst (v := 1) Bx.1 Bx.2.1 d_Rd_readAlternatives_42 (by decide) ?_
          refine lv_iadd Bx.1 Bx.2.1 d_Rd_readAlternatives_43 ?_
          rw [show nI g1 + 1 = nI (g1 + 1) from nI_add (g1) (1)]
          refine f_put Bx hP hD hS (by omega) h9_101 rfl inRd tyRd okRd nmRd 2 (by decide) kw_146 rfl rfl rfl rfl (Nat.le_of_ble_eq_true rfl) d_Rd_readAlternatives_44 (fun H locs hP hS => ?_)
          obtain ⟨mem128, e_mem128⟩ : ∃ z, z = va_up mem9 (222) (.inr (4, [.ref (ad 1), .ref (ad 5), .int (nI (g1 + 1)), .int (ft100)])) := ⟨_, rfl⟩
          have hP : va_P D vcl (fw n ad mem128) H := by rw [e_mem128]; exact hP
          have hD : va_D (Az sz) (fw n ad mem128) := fw_D hD
          have h_mem128 : mem128 (222) = .inr (4, [.ref (ad 1), .ref (ad 5), .int (nI (g1 + 1)), .int (ft100)]) := by rw [e_mem128, va_up_self]
          have hh129 := (va_up_ne mem9 (.inr (4, [.ref (ad 1), .ref (ad 5), .int (nI (g1 + 1)), .int (ft100)])) (show (1 : Nat) ≠ 222 by first | decide | assumption | omega)).trans h1_102
          rw [← e_mem128] at hh129
          have hh130 := (va_up_ne mem9 (.inr (4, [.ref (ad 1), .ref (ad 5), .int (nI (g1 + 1)), .int (ft100)])) (show (5 : Nat) ≠ 222 by first | decide | assumption | omega)).trans h5_104
          rw [← e_mem128] at hh130
          have hh131 := (va_up_ne mem9 (.inr (4, [.ref (ad 1), .ref (ad 5), .int (nI (g1 + 1)), .int (ft100)])) (show (220 : Nat) ≠ 222 by first | decide | assumption | omega)).trans h220_108
          rw [← e_mem128] at hh131
          have hh132 := (va_up_ne mem9 (.inr (4, [.ref (ad 1), .ref (ad 5), .int (nI (g1 + 1)), .int (ft100)])) (show ((20 + 2 * la) : Nat) ≠ 222 by first | decide | assumption | omega)).trans he_117
          rw [← e_mem128] at hh132
          have hRX133 : RX cy ad lim (g1 + 1) (R1) (E1) (to1) (n1) m0 mem128 := by rw [e_mem128]; exact hz93.at
          refine lv_aload_n Bx.1 Bx.2.1 d_Rd_readAlternatives_47 rfl (lv_at hl 3 rfl) ?_
          refine f_callVi (na := 0) (As := []) (rest := []) Bx hml E hP hD hS (by omega) h_mem128 rfl (m_Rd_readGapX l hn hT hf hRX133 (by omega) (by omega)) kw_397 kw_399 sel_Rd_readGap kw_6 kw_400 (by decide +kernel) ⟨rfl, rfl⟩ ⟨Nat.le_of_ble_eq_true rfl, Nat.le_of_ble_eq_true rfl⟩ rfl hl.1 (Nat.le_of_ble_eq_true rfl) d_Rd_readAlternatives_48 ⟨Nat.le_of_ble_eq_true rfl, Nat.le_of_ble_eq_true rfl⟩ (fun r134 mem135 H locs hq hP hS => ?_)
          have hD : va_D (Az sz) (fw n ad mem135) := fw_D hD
          obtain ⟨g136, eg137⟩ : ∃ z, z = gapF T Z (g1 + 1) := ⟨_, rfl⟩
          rw [← eg137] at hq
          obtain ⟨hRX138, hgc139⟩ := hq
          have hg140 : g1 + 1 ≤ g136 := by rw [eg137]; exact gapF_ge T Z _
          have hg141 : g136 ≤ Z := by rw [eg137]; exact gapF_le T (by omega)
          obtain ⟨ft142, h9_143⟩ := hRX138.2.1
          have h1_144 : mem135 1 = .inr (0, [.ref (ad 2), .int (nI Z)]) := (hRX138.1.2.2 1 (by omega)).trans hT.1
          have h2_145 : mem135 2 = .inl (cy 0, 240, .inl f) := (hRX138.1.2.2 2 (by omega)).trans hT.2.2
          have h5_146 := hRX138.1.1.2.1
          have hbd152 := hRX138.1.1.1
          obtain ⟨S147, g148, hS_149, h220_150, h221_151⟩ := hRX138.1.1.2.2.2.2.2.2
          obtain ⟨k153, lo154, hi155, as156, pa157, ne158, he_159, ho_160⟩ := (hRX138.1.1.2.2.2.2.2.1 la (by omega)).1
          refine lv_pop Bx.1 Bx.2.1 d_Rd_readAlternatives_51 rfl ?_
          refine lv_aload_n Bx.1 Bx.2.1 d_Rd_readAlternatives_52 rfl (lv_at hl 1 rfl) ?_
          refine lv_aload_n Bx.1 Bx.2.1 d_Rd_readAlternatives_53 rfl (lv_at hl 3 rfl) ?_
          refine lv_iload_n Bx.1 Bx.2.1 d_Rd_readAlternatives_54 rfl (lv_at hl 4 rfl) ?_
          refine f_xVr (na := 1) (As := [.int (2)]) (rest := [.ref (ad (20 + 2 * la))]) Bx hml E hP hD hS (by omega) h9_143 rfl (m_Rd_readSequence_2X l hlt hn hT hf hRX138 (by omega) (u := u1) (A := A1) (by omega)) kw_435 kw_437 sel_Rd_readSequence kw_6 kw_438 (by decide +kernel) ⟨rfl, rfl⟩ ⟨Nat.le_of_ble_eq_true rfl, Nat.le_of_ble_eq_true rfl⟩ rfl hl.1 (Nat.le_of_ble_eq_true rfl) d_Rd_readAlternatives_55 ⟨Nat.le_of_ble_eq_true rfl, Nat.le_of_ble_eq_true rfl⟩ (fun X ce q9 memx H locs hx9 hP hS g1 g2 g3 => f_out hlocks hno hP hS g1 g2 g3 ⟨Nat.le_of_ble_eq_true rfl, Nat.le_of_ble_eq_true rfl⟩ ⟨hx9.1, Or.inr (Or.inr ⟨hbg, hE9, Fai.go ho hg (go_sl h47) (by rw [← eg1, ← eg137]; exact hx9.2)⟩)⟩) (fun r161 mem162 H locs hq hP hS => ?_)
          have hD : va_D (Az sz) (fw n ad mem162) := fw_D hD
          obtain ⟨kx163, a164, R165, E166, A167, nn168, to169, hr9170, hb171, hb172, hb173, hb174, hb175, htk176, hRX177, hsc178, hnb179⟩ := hq
          subst hr9170
          obtain ⟨g180, eg181⟩ : ∃ z, z = gapF T Z a164 := ⟨_, rfl⟩
          have hg182 : a164 ≤ g180 := by rw [eg181]; exact gapF_ge T Z _
          have hg183 : g180 ≤ Z := by rw [eg181]; exact gapF_le T (by omega)
          rw [← eg181] at hRX177
          obtain ⟨ft184, h9_185⟩ := hRX177.2.1
          have h1_186 : mem162 1 = .inr (0, [.ref (ad 2), .int (nI Z)]) := (hRX177.1.2.2 1 (by omega)).trans hT.1
          have h2_187 : mem162 2 = .inl (cy 0, 240, .inl f) := (hRX177.1.2.2 2 (by omega)).trans hT.2.2
          have h5_188 := hRX177.1.1.2.1
          have hbd194 := hRX177.1.1.1
          obtain ⟨S189, g190, hS_191, h220_192, h221_193⟩ := hRX177.1.1.2.2.2.2.2.2
          obtain ⟨k195, lo196, hi197, as198, pa199, ne200, he_201, ho_202⟩ := (hRX177.1.1.2.2.2.2.2.1 la (by omega)).1
          obtain ⟨k203, lo204, hi205, as206, pa207, ne208, he_209, ho_210⟩ := (hRX177.1.1.2.2.2.2.2.1 kx163 (by omega)).1
          have hbd211 := hRX177.1.1.1
          have hsuc3 := Suc.go ho hg hk9 hs9 (by omega) (go_sl h47) (by rw [← eg1, ← eg137]; exact hsc178)
          have htk3 := hz96.trans htk176 (by omega)
          refine f_putN Bx hP hD hS (by omega) he_201 rfl inEl tyEl okEl nmEl 5 (by decide) kw_91 rfl rfl rfl rfl (Nat.le_of_ble_eq_true rfl) d_Rd_readAlternatives_58 (fun H locs hP hS => ?_)
          obtain ⟨mem212, e_mem212⟩ : ∃ z, z = va_up mem162 ((20 + 2 * la)) (.inr (2, [.int (k195), .int (lo196), .int (hi197), as198, pa199, .ref (ad (20 + 2 * kx163)), .ref (ad (21 + 2 * la))])) := ⟨_, rfl⟩
          have hP : va_P D vcl (fw n ad mem212) H := by rw [e_mem212]; exact hP
          have hD : va_D (Az sz) (fw n ad mem212) := fw_D hD
          have h_mem212 : mem212 ((20 + 2 * la)) = .inr (2, [.int (k195), .int (lo196), .int (hi197), as198, pa199, .ref (ad (20 + 2 * kx163)), .ref (ad (21 + 2 * la))]) := by rw [e_mem212, va_up_self]
          have hh213 := (va_up_ne mem162 (.inr (2, [.int (k195), .int (lo196), .int (hi197), as198, pa199, .ref (ad (20 + 2 * kx163)), .ref (ad (21 + 2 * la))])) (show (222 : Nat) ≠ (20 + 2 * la) by first | decide | assumption | omega)).trans h9_185
          rw [← e_mem212] at hh213
          have hh214 := (va_up_ne mem162 (.inr (2, [.int (k195), .int (lo196), .int (hi197), as198, pa199, .ref (ad (20 + 2 * kx163)), .ref (ad (21 + 2 * la))])) (show (1 : Nat) ≠ (20 + 2 * la) by first | decide | assumption | omega)).trans h1_186
          rw [← e_mem212] at hh214
          have hh215 := (va_up_ne mem162 (.inr (2, [.int (k195), .int (lo196), .int (hi197), as198, pa199, .ref (ad (20 + 2 * kx163)), .ref (ad (21 + 2 * la))])) (show (5 : Nat) ≠ (20 + 2 * la) by first | decide | assumption | omega)).trans h5_188
          rw [← e_mem212] at hh215
          have hh216 := (va_up_ne mem162 (.inr (2, [.int (k195), .int (lo196), .int (hi197), as198, pa199, .ref (ad (20 + 2 * kx163)), .ref (ad (21 + 2 * la))])) (show (220 : Nat) ≠ (20 + 2 * la) by first | decide | assumption | omega)).trans h220_192
          rw [← e_mem212] at hh216
          have hh217 := (va_up_ne mem162 (.inr (2, [.int (k195), .int (lo196), .int (hi197), as198, pa199, .ref (ad (20 + 2 * kx163)), .ref (ad (21 + 2 * la))])) (show ((20 + 2 * kx163) : Nat) ≠ (20 + 2 * la) by first | decide | assumption | omega)).trans he_209
          rw [← e_mem212] at hh217
          have hRX218 : RX cy ad lim (g180) (R165) (E166) (to169) (nn168) m0 mem212 := by rw [e_mem212]; exact hRX177.el (by omega) (hRX177.1.mk (by omega) (hRX177.1.1.upEl (by omega) (fun q9 => ⟨(ho_202 q9).1, (ho_202 q9).2.1, Or.inr ⟨kx163, by omega, by omega, rfl⟩⟩)))
          refine lv_aload_n Bx.1 Bx.2.1 d_Rd_readAlternatives_61 rfl (lv_at hl 1 rfl) ?_
          refine f_getN Bx hP (by omega) h_mem212 rfl inEl 5 (by decide) kw_91 rfl rfl d_Rd_readAlternatives_62 ?_
          refine lv_astore_n (lv' := [(3, .ref (ad (20 + 2 * kx163))), (4, .int (nI k9)), (2, .ref (ad (20 + 2 * Ec))), (0, .ref (ad 222)), (1, .int (2))]) Bx.1 Bx.2.1 d_Rd_readAlternatives_65 rfl hl (by decide) rfl (fun ls hl => ?_)
          refine lv_iinc (lv' := [(4, .int ((nI k9 + (1)))), (3, .ref (ad (20 + 2 * kx163))), (2, .ref (ad (20 + 2 * Ec))), (0, .ref (ad 222)), (1, .int (2))]) Bx.1 Bx.2.1 d_Rd_readAlternatives_66 hl (k := 1) rfl rfl (by decide) rfl (fun ls hl => ?_)
          rw [show (nI k9 + (1) : Int32) = nI (k9 + 1) from nI_1 (k9)] at hl
          refine lv_goto Bx.1 Bx.2.1 d_Rd_readAlternatives_69 rfl ?_
          exact ih98 mem212 (a164) (R165) (E166) (A167) (nn168) (to169) (kx163) (k9 + 1) _ _ _ (by have := hmeas99; omega) (by rw [← eg181]; exact hRX218) (⟨by omega, by omega, by omega, by omega, by omega, by omega, by omega, by omega⟩) (hsuc3) (htk3) (hnb179) hP hD hS (lv_sub hl [0, 1, 2, 3, 4] rfl)
  exact loop91 _ mem84 (a36) (R37) (E38) (A39) (nn40) (to41) (kx35) (0) _ _ _ (Nat.lt_succ_self _) (by rw [← eg53]; exact hRX90) (⟨by omega, by omega, by omega, by omega, by omega, by omega, by omega, by omega⟩) (hsc50) (htk48) (hnb51) hP hD hS (lv_sub hl [0, 1, 2, 3, 4] rfl)
set_option maxHeartbeats 4000000 in
set_option maxRecDepth 100000 in
theorem m_Rd_readBracket_1X (l : Launch) {D : va_G} {cy : Nat → ClassId} {sz n : Nat} {ad : Nat → Nat} {mem : Nat → va_E} {Z a R Ec lim : Nat} {f T : Nat → Int32} {to : Nat → Int32} {nm : Nat → Int64} {m0 : Nat → va_E} {u : Nat} {A : Ro} {what oe en : Int32} (hlt : l.stackTraces = false) (hn : 224 ≤ n) (hT : TX cy ad Z f m0) (hf : ∀ k, k < Z → f k = T k) (hRX : RX cy ad lim a R Ec to nm m0 mem) (haB : a ≤ 300) (haZ : a < Z) (hwe : (what = 1 ∧ en = 41) ∨ (what = 2 ∧ en = 93)) : NXr l D cy sz n ad y_Rd_readBracket c_Rd_readBracket 4 (some (.object "AbnfChart$Element")) ({ frames := 44, cells := 1, slots := 6, locals := 1070 } : Room) mem [.ref (ad 222), .int (1), .int (en)] (fun r mem' => ∃ (k' a' R' E' : Nat) (A' : Ro) (nm' : Nat → Int64) (to' : Nat → Int32), r = ad (20 + 2 * k') ∧ Ec ≤ k' ∧ k' < E' ∧ R ≤ R' ∧ a < a' ∧ a' ≤ Z ∧ TOK R R' to to' ∧ RX cy ad lim a' R' E' to' nm' m0 mem' ∧ Suc T Z (entS T Z (a + 1) u R Ec 2 A nm what oe) 1 R (A 235) (A 227) a' R' E' A' nm') (fun X mem' => ((X = cIA ∨ X = cIS) ∧ ∃ rc' ec' : Nat, RS cy ad lim rc' ec' m0 mem') ∧ (Fai T Z (entS T Z (a + 1) u R Ec 2 A nm what oe))) := by
  refine vx_ofW (cc := c_Rd_readBracket) (maxL := 4) (ret := (some (.object "AbnfChart$Element"))) (by decide) rfl ?_
  intro p e s m args below meth c s₁ B hml hno hv
  obtain ⟨rfl, E, hP, hD⟩ := hv
  have hx := B.exec
  have hb := B.bytes
  have hr := B.returns
  have hlocks := B.notSynchronized
  have Bx : MB p s m [.ref (ad 222), .int (1), .int (en)].toArray c c_Rd_readBracket "AbnfChart$Reader" D cy := ⟨hx, hb, tb_all (atoms_spec B.pre) E.2.1, findClass_of_methodNamed B.named, E.1⟩
  have hS : va_S (Az sz) s.heap s.heap [] := va_S.rf
  have hl := lv_entry ([.ref (ad 222), .int (1), .int (en)]) (n := 4) (Nat.le_of_ble_eq_true rfl)
  rw [lg_entry_eq]
  generalize (lg_sl ([.ref (ad 222), .int (1), .int (en)]) ++ List.replicate (4 - (lg_sl ([.ref (ad 222), .int (1), .int (en)])).length) Slot.unset).toArray = ls at hl ⊢
  have hl : lv_has ls 4 [(0, .ref (ad 222)), (1, .int (1)), (2, .int (en))] := hl
  have hZ9 := hT.2.1
  have hbd9 := hRX.1.1.1
  obtain ⟨ft1, h9_2⟩ := hRX.2.1
  have h1_3 : mem 1 = .inr (0, [.ref (ad 2), .int (nI Z)]) := (hRX.1.2.2 1 (by omega)).trans hT.1
  have h2_4 : mem 2 = .inl (cy 0, 240, .inl f) := (hRX.1.2.2 2 (by omega)).trans hT.2.2
  have h5_5 := hRX.1.1.2.1
  have hbd11 := hRX.1.1.1
  obtain ⟨S6, g7, hS_8, h220_9, h221_10⟩ := hRX.1.1.2.2.2.2.2.2
  refine lv_aload_n Bx.1 Bx.2.1 d_Rd_readBracket_0 rfl (lv_at hl 0 rfl) ?_
  refine lv_iload_n Bx.1 Bx.2.1 d_Rd_readBracket_1 rfl (lv_at hl 1 rfl) ?_
  refine lv_bipush (v := 6) Bx.1 Bx.2.1 d_Rd_readBracket_2 (by decide) ?_
  refine lv_icmp_ge Bx.1 Bx.2.1 d_Rd_readBracket_4 rfl (fun hb12 => ?_) (fun hb12 => ?_)
  · exact absurd hb12 (by decide)
  · refine lv_iconst (v := 1) Bx.1 Bx.2.1 d_Rd_readBracket_7 (by decide) ?_
    refine lv_goto Bx.1 Bx.2.1 d_Rd_readBracket_8 rfl ?_
    refine lv_aload_n Bx.1 Bx.2.1 d_Rd_readBracket_12 rfl (lv_at hl 0 rfl) ?_
    refine f_get Bx hP (by omega) h9_2 rfl inRd 2 (by decide) kw_146 rfl rfl d_Rd_readBracket_13 ?_
    refine f_xVv (na := 2) (As := [.int (1), .int (nI a)]) (rest := []) Bx hml E hP hD hS (by omega) h9_2 rfl (m_Rd_needRoomX l hlt hn hT hf hRX (by omega)) kw_383 kw_385 sel_Rd_needRoom kw_6 kw_386 (by decide +kernel) ⟨rfl, rfl⟩ ⟨Nat.le_of_ble_eq_true rfl, Nat.le_of_ble_eq_true rfl⟩ rfl hl.1 (Nat.le_of_ble_eq_true rfl) d_Rd_readBracket_16 ⟨Nat.le_of_ble_eq_true rfl, Nat.le_of_ble_eq_true rfl⟩ (fun X ce q9 memx H locs hx9 hP hS g1 g2 g3 => f_out hlocks hno hP hS g1 g2 g3 ⟨Nat.le_of_ble_eq_true rfl, Nat.le_of_ble_eq_true rfl⟩ ⟨hx9.1, absurd hx9.2 (by decide)⟩) (fun mem14 H locs hq hP hS => ?_)
    have hD : va_D (Az sz) (fw n ad mem14) := fw_D hD
    obtain ⟨hqe, hg15⟩ := hq
    rw [hqe] at hP hD
    refine lv_aload_n Bx.1 Bx.2.1 d_Rd_readBracket_19 rfl (lv_at hl 0 rfl) ?_
    refine lv_dup Bx.1 Bx.2.1 d_Rd_readBracket_20 rfl ?_
    refine f_get Bx hP (by omega) h9_2 rfl inRd 2 (by decide) kw_146 rfl rfl d_Rd_readBracket_21 ?_
    refine lv_iconst (v := 1) Bx.1 Bx.2.1 d_Rd_readBracket_24 (by decide) ?_
    refine lv_iadd Bx.1 Bx.2.1 d_Rd_readBracket_25 ?_
    rw [show nI a + 1 = nI (a + 1) from nI_add (a) (1)]
    refine f_put Bx hP hD hS (by omega) h9_2 rfl inRd tyRd okRd nmRd 2 (by decide) kw_146 rfl rfl rfl rfl (Nat.le_of_ble_eq_true rfl) d_Rd_readBracket_26 (fun H locs hP hS => ?_)
    obtain ⟨mem16, e_mem16⟩ : ∃ z, z = va_up mem (222) (.inr (4, [.ref (ad 1), .ref (ad 5), .int (nI (a + 1)), .int (ft1)])) := ⟨_, rfl⟩
    have hP : va_P D vcl (fw n ad mem16) H := by rw [e_mem16]; exact hP
    have hD : va_D (Az sz) (fw n ad mem16) := fw_D hD
    have h_mem16 : mem16 (222) = .inr (4, [.ref (ad 1), .ref (ad 5), .int (nI (a + 1)), .int (ft1)]) := by rw [e_mem16, va_up_self]
    have hh17 := (va_up_ne mem (.inr (4, [.ref (ad 1), .ref (ad 5), .int (nI (a + 1)), .int (ft1)])) (show (1 : Nat) ≠ 222 by first | decide | assumption | omega)).trans h1_3
    rw [← e_mem16] at hh17
    have hh18 := (va_up_ne mem (.inr (4, [.ref (ad 1), .ref (ad 5), .int (nI (a + 1)), .int (ft1)])) (show (5 : Nat) ≠ 222 by first | decide | assumption | omega)).trans h5_5
    rw [← e_mem16] at hh18
    have hh19 := (va_up_ne mem (.inr (4, [.ref (ad 1), .ref (ad 5), .int (nI (a + 1)), .int (ft1)])) (show (220 : Nat) ≠ 222 by first | decide | assumption | omega)).trans h220_9
    rw [← e_mem16] at hh19
    have hRX20 : RX cy ad lim (a + 1) (R) (Ec) (to) (nm) m0 mem16 := by rw [e_mem16]; exact hRX.at
    refine lv_aload_n Bx.1 Bx.2.1 d_Rd_readBracket_29 rfl (lv_at hl 0 rfl) ?_
    refine f_callVi (na := 0) (As := []) (rest := []) Bx hml E hP hD hS (by omega) h_mem16 rfl (m_Rd_readGapX l hn hT hf hRX20 (by omega) (by omega)) kw_397 kw_399 sel_Rd_readGap kw_6 kw_400 (by decide +kernel) ⟨rfl, rfl⟩ ⟨Nat.le_of_ble_eq_true rfl, Nat.le_of_ble_eq_true rfl⟩ rfl hl.1 (Nat.le_of_ble_eq_true rfl) d_Rd_readBracket_30 ⟨Nat.le_of_ble_eq_true rfl, Nat.le_of_ble_eq_true rfl⟩ (fun r21 mem22 H locs hq hP hS => ?_)
    have hD : va_D (Az sz) (fw n ad mem22) := fw_D hD
    obtain ⟨g23, eg24⟩ : ∃ z, z = gapF T Z (a + 1) := ⟨_, rfl⟩
    rw [← eg24] at hq
    obtain ⟨hRX25, hgc26⟩ := hq
    have hg27 : a + 1 ≤ g23 := by rw [eg24]; exact gapF_ge T Z _
    have hg28 : g23 ≤ Z := by rw [eg24]; exact gapF_le T (by omega)
    obtain ⟨ft29, h9_30⟩ := hRX25.2.1
    have h1_31 : mem22 1 = .inr (0, [.ref (ad 2), .int (nI Z)]) := (hRX25.1.2.2 1 (by omega)).trans hT.1
    have h2_32 : mem22 2 = .inl (cy 0, 240, .inl f) := (hRX25.1.2.2 2 (by omega)).trans hT.2.2
    have h5_33 := hRX25.1.1.2.1
    have hbd39 := hRX25.1.1.1
    obtain ⟨S34, g35, hS_36, h220_37, h221_38⟩ := hRX25.1.1.2.2.2.2.2.2
    refine lv_pop Bx.1 Bx.2.1 d_Rd_readBracket_33 rfl ?_
    refine lv_aload_n Bx.1 Bx.2.1 d_Rd_readBracket_34 rfl (lv_at hl 0 rfl) ?_
    refine lv_iload_n Bx.1 Bx.2.1 d_Rd_readBracket_35 rfl (lv_at hl 1 rfl) ?_
    refine lv_iconst (v := 1) Bx.1 Bx.2.1 d_Rd_readBracket_36 (by decide) ?_
    refine lv_iadd Bx.1 Bx.2.1 d_Rd_readBracket_37 ?_
    rw [show (1 + 1 : Int32) = 2 from rfl]
    refine f_xVr (na := 1) (As := [.int (2)]) (rest := []) Bx hml E hP hD hS (by omega) h9_30 rfl (m_Rd_readAlternatives_2X l hlt hn hT hf hRX25 (by omega) (u := u) (A := entA A 2 Ec what oe) (by omega)) kw_405 kw_407 sel_Rd_readAlternatives kw_6 kw_408 (by decide +kernel) ⟨rfl, rfl⟩ ⟨Nat.le_of_ble_eq_true rfl, Nat.le_of_ble_eq_true rfl⟩ rfl hl.1 (Nat.le_of_ble_eq_true rfl) d_Rd_readBracket_38 ⟨Nat.le_of_ble_eq_true rfl, Nat.le_of_ble_eq_true rfl⟩ (fun X ce q9 memx H locs hx9 hP hS g1 g2 g3 => f_out hlocks hno hP hS g1 g2 g3 ⟨Nat.le_of_ble_eq_true rfl, Nat.le_of_ble_eq_true rfl⟩ ⟨hx9.1, hx9.2.elim (fun z => Or.inl (entS_no (Or.inl (by rw [← eg24]; exact z)))) (fun z => z.elim (fun z => Or.inl (entS_no (Or.inr z))) (fun z => Fai.br0 (by rw [ent_ok (by rw [← eg24]; exact z.1) z.2.1, ← eg24]) z.2.2))⟩) (fun r40 mem41 H locs hq hP hS => ?_)
    have hD : va_D (Az sz) (fw n ad mem41) := fw_D hD
    obtain ⟨kx42, a43, R44, E45, A46, nn47, to48, hr949, hb50, hb51, hb52, hb53, hb54, htk55, hRX56, hsc57, hbg58, hE59, h4760, hnb61⟩ := hq
    subst hr949
    obtain ⟨g62, eg63⟩ : ∃ z, z = gapF T Z a43 := ⟨_, rfl⟩
    have hg64 : a43 ≤ g62 := by rw [eg63]; exact gapF_ge T Z _
    have hg65 : g62 ≤ Z := by rw [eg63]; exact gapF_le T (by omega)
    rw [← eg63] at hRX56
    obtain ⟨ft66, h9_67⟩ := hRX56.2.1
    have h1_68 : mem41 1 = .inr (0, [.ref (ad 2), .int (nI Z)]) := (hRX56.1.2.2 1 (by omega)).trans hT.1
    have h2_69 : mem41 2 = .inl (cy 0, 240, .inl f) := (hRX56.1.2.2 2 (by omega)).trans hT.2.2
    have h5_70 := hRX56.1.1.2.1
    have hbd76 := hRX56.1.1.1
    obtain ⟨S71, g72, hS_73, h220_74, h221_75⟩ := hRX56.1.1.2.2.2.2.2.2
    obtain ⟨k77, lo78, hi79, as80, pa81, ne82, he_83, ho_84⟩ := (hRX56.1.1.2.2.2.2.2.1 kx42 (by omega)).1
    have hbd85 := hRX56.1.1.1
    have hent : entS T Z (a + 1) u R Ec 2 A nm what oe = some (g23, u, R, Ec + 1, 2, entA A 2 Ec what oe, nm, true) := by rw [ent_ok (by rw [← eg24]; exact hbg58) hE59, ← eg24]
    have hA5 : A46 235 2 = what := by
      obtain ⟨c1, u1, ho, hg, hk, hs⟩ := hsc57
      rw [hk 2 (by omega), entA_5, upd_self]
    refine lv_astore_n (lv' := [(3, .ref (ad (20 + 2 * kx42))), (0, .ref (ad 222)), (1, .int (1)), (2, .int (en))]) Bx.1 Bx.2.1 d_Rd_readBracket_41 rfl hl (by decide) rfl (fun ls hl => ?_)
    refine lv_aload_n Bx.1 Bx.2.1 d_Rd_readBracket_42 rfl (lv_at hl 1 rfl) ?_
    refine lv_aload_n Bx.1 Bx.2.1 d_Rd_readBracket_43 rfl (lv_at hl 1 rfl) ?_
    refine f_callVi (na := 0) (As := []) (rest := [.ref (ad 222)]) Bx hml E hP hD hS (by omega) h9_67 rfl (m_Rd_peekX l hn hT hf hRX56 (by omega)) kw_353 kw_355 sel_Rd_peek kw_6 kw_356 (by decide +kernel) ⟨rfl, rfl⟩ ⟨Nat.le_of_ble_eq_true rfl, Nat.le_of_ble_eq_true rfl⟩ rfl hl.1 (Nat.le_of_ble_eq_true rfl) d_Rd_readBracket_44 ⟨Nat.le_of_ble_eq_true rfl, Nat.le_of_ble_eq_true rfl⟩ (fun r87 mem88 H locs hq hP hS => ?_)
    have hD : va_D (Az sz) (fw n ad mem88) := fw_D hD
    obtain ⟨hqe, hpk86⟩ := hq
    rw [hqe] at hP hD
    subst hpk86
    refine lv_iload_n Bx.1 Bx.2.1 d_Rd_readBracket_47 rfl (lv_at hl 3 rfl) ?_
    refine lv_icmp_ne Bx.1 Bx.2.1 d_Rd_readBracket_48 rfl (fun hb90 => ?_) (fun hb90 => ?_)
    · refine lv_iconst (v := 0) Bx.1 Bx.2.1 d_Rd_readBracket_55 (by decide) ?_
      refine lv_aload_n Bx.1 Bx.2.1 d_Rd_readBracket_56 rfl (lv_at hl 1 rfl) ?_
      refine f_get Bx hP (by omega) h9_67 rfl inRd 2 (by decide) kw_146 rfl rfl d_Rd_readBracket_57 ?_
      refine f_xVv (na := 2) (As := [.int (0), .int (nI g62)]) (rest := []) Bx hml E hP hD hS (by omega) h9_67 rfl (m_Rd_needReadableX l hlt hn hT hf hRX56 (by omega)) kw_360 kw_362 sel_Rd_needReadable kw_6 kw_363 (by decide +kernel) ⟨rfl, rfl⟩ ⟨Nat.le_of_ble_eq_true rfl, Nat.le_of_ble_eq_true rfl⟩ rfl hl.1 (Nat.le_of_ble_eq_true rfl) d_Rd_readBracket_60 ⟨Nat.le_of_ble_eq_true rfl, Nat.le_of_ble_eq_true rfl⟩ (fun X ce q9 memx H locs hx9 hP hS g1 g2 g3 => f_out hlocks hno hP hS g1 g2 g3 ⟨Nat.le_of_ble_eq_true rfl, Nat.le_of_ble_eq_true rfl⟩ ⟨hx9.1, Fai.br1 hent hsc57 (br_no hwe hA5 (by rw [← eg63]; exact hb90) h4760 hnb61)⟩) (fun mem92 H locs hq hP hS => ?_)
      have hD : va_D (Az sz) (fw n ad mem92) := fw_D hD
      obtain ⟨hqe, hg93⟩ := hq
      rw [hqe] at hP hD
      exact absurd rfl hg93
    · refine lv_iconst (v := 1) Bx.1 Bx.2.1 d_Rd_readBracket_51 (by decide) ?_
      refine lv_goto Bx.1 Bx.2.1 d_Rd_readBracket_52 rfl ?_
      refine lv_aload_n Bx.1 Bx.2.1 d_Rd_readBracket_56 rfl (lv_at hl 1 rfl) ?_
      refine f_get Bx hP (by omega) h9_67 rfl inRd 2 (by decide) kw_146 rfl rfl d_Rd_readBracket_57 ?_
      refine f_xVv (na := 2) (As := [.int (1), .int (nI g62)]) (rest := []) Bx hml E hP hD hS (by omega) h9_67 rfl (m_Rd_needReadableX l hlt hn hT hf hRX56 (by omega)) kw_360 kw_362 sel_Rd_needReadable kw_6 kw_363 (by decide +kernel) ⟨rfl, rfl⟩ ⟨Nat.le_of_ble_eq_true rfl, Nat.le_of_ble_eq_true rfl⟩ rfl hl.1 (Nat.le_of_ble_eq_true rfl) d_Rd_readBracket_60 ⟨Nat.le_of_ble_eq_true rfl, Nat.le_of_ble_eq_true rfl⟩ (fun X ce q9 memx H locs hx9 hP hS g1 g2 g3 => f_out hlocks hno hP hS g1 g2 g3 ⟨Nat.le_of_ble_eq_true rfl, Nat.le_of_ble_eq_true rfl⟩ ⟨hx9.1, absurd hx9.2 (by decide)⟩) (fun mem95 H locs hq hP hS => ?_)
      have hD : va_D (Az sz) (fw n ad mem95) := fw_D hD
      obtain ⟨hqe, hg96⟩ := hq
      rw [hqe] at hP hD
      refine lv_aload_n Bx.1 Bx.2.1 d_Rd_readBracket_63 rfl (lv_at hl 1 rfl) ?_
      refine lv_dup Bx.1 Bx.2.1 d_Rd_readBracket_64 rfl ?_
      refine f_get Bx hP (by omega) h9_67 rfl inRd 2 (by decide) kw_146 rfl rfl d_Rd_readBracket_65 ?_
      refine lv_iconst (v := 1) Bx.1 Bx.2.1 d_Rd_readBracket_68 (by decide) ?_
      refine lv_iadd Bx.1 Bx.2.1 d_Rd_readBracket_69 ?_
      rw [show nI g62 + 1 = nI (g62 + 1) from nI_add (g62) (1)]
      refine f_put Bx hP hD hS (by omega) h9_67 rfl inRd tyRd okRd nmRd 2 (by decide) kw_146 rfl rfl rfl rfl (Nat.le_of_ble_eq_true rfl) d_Rd_readBracket_70 (fun H locs hP hS => ?_)
      obtain ⟨mem97, e_mem97⟩ : ∃ z, z = va_up mem41 (222) (.inr (4, [.ref (ad 1), .ref (ad 5), .int (nI (g62 + 1)), .int (ft66)])) := ⟨_, rfl⟩
      have hP : va_P D vcl (fw n ad mem97) H := by rw [e_mem97]; exact hP
      have hD : va_D (Az sz) (fw n ad mem97) := fw_D hD
      have h_mem97 : mem97 (222) = .inr (4, [.ref (ad 1), .ref (ad 5), .int (nI (g62 + 1)), .int (ft66)]) := by rw [e_mem97, va_up_self]
      have hh98 := (va_up_ne mem41 (.inr (4, [.ref (ad 1), .ref (ad 5), .int (nI (g62 + 1)), .int (ft66)])) (show (1 : Nat) ≠ 222 by first | decide | assumption | omega)).trans h1_68
      rw [← e_mem97] at hh98
      have hh99 := (va_up_ne mem41 (.inr (4, [.ref (ad 1), .ref (ad 5), .int (nI (g62 + 1)), .int (ft66)])) (show (5 : Nat) ≠ 222 by first | decide | assumption | omega)).trans h5_70
      rw [← e_mem97] at hh99
      have hh100 := (va_up_ne mem41 (.inr (4, [.ref (ad 1), .ref (ad 5), .int (nI (g62 + 1)), .int (ft66)])) (show (220 : Nat) ≠ 222 by first | decide | assumption | omega)).trans h220_74
      rw [← e_mem97] at hh100
      have hh101 := (va_up_ne mem41 (.inr (4, [.ref (ad 1), .ref (ad 5), .int (nI (g62 + 1)), .int (ft66)])) (show ((20 + 2 * kx42) : Nat) ≠ 222 by first | decide | assumption | omega)).trans he_83
      rw [← e_mem97] at hh101
      have hRX102 : RX cy ad lim (g62 + 1) (R44) (E45) (to48) (nn47) m0 mem97 := by rw [e_mem97]; exact hRX56.at
      refine lv_aload_n Bx.1 Bx.2.1 d_Rd_readBracket_73 rfl (lv_at hl 0 rfl) ?_
      obtain ⟨A29, hsuc9⟩ := Suc.br hent hsc57 (br_pop hwe hA5 (by rw [← eg63]; exact hb90)) (K := A 235) (fun i hi => by rw [entA_5]; exact upd_ne (by omega)) entA_7
      exact x_aret hx hb hlocks hr (⟨kx42, gapF T Z a43 + 1, R44, E45, A29, nn47, to48, rfl, by omega, by omega, by omega, by rw [← eg63]; omega, by rw [← eg63]; have := br_lt hwe hb90; omega, htk55, by rw [← eg63]; exact hRX102, hsuc9⟩) hP hS d_Rd_readBracket_74
set_option maxHeartbeats 4000000 in
set_option maxRecDepth 100000 in
theorem m_Rd_readOption_1X (l : Launch) {D : va_G} {cy : Nat → ClassId} {sz n : Nat} {ad : Nat → Nat} {mem : Nat → va_E} {Z a R Ec lim : Nat} {f T : Nat → Int32} {to : Nat → Int32} {nm : Nat → Int64} {m0 : Nat → va_E} {u : Nat} {A : Ro} (hlt : l.stackTraces = false) (hn : 224 ≤ n) (hT : TX cy ad Z f m0) (hf : ∀ k, k < Z → f k = T k) (hRX : RX cy ad lim a R Ec to nm m0 mem) (haB : a ≤ 300) (haZ : a < Z) : NXr l D cy sz n ad y_Rd_readOption c_Rd_readOption 3 (some (.object "AbnfChart$Element")) ({ frames := 45, cells := 1, slots := 6, locals := 1093 } : Room) mem [.ref (ad 222), .int (1)] (fun r mem' => Ec < 100 ∧ ∃ (k' a' R' E' : Nat) (A' : Ro) (nm' : Nat → Int64) (to' : Nat → Int32), r = ad (20 + 2 * k') ∧ Ec ≤ k' ∧ k' < E' ∧ R ≤ R' ∧ a < a' ∧ a' ≤ Z ∧ TOK R R' to to' ∧ RX cy ad lim a' R' E' to' nm' m0 mem' ∧ Suc T Z (entS T Z (a + 1) u R (Ec + 1) 2 (elA A Ec 3) nm 2 (nI Ec)) 1 R (A 235) (A 227) a' R' E' A' nm') (fun X mem' => ((X = cIA ∨ X = cIS) ∧ ∃ rc' ec' : Nat, RS cy ad lim rc' ec' m0 mem') ∧ (Ec = 100 ∨ Fai T Z (entS T Z (a + 1) u R (Ec + 1) 2 (elA A Ec 3) nm 2 (nI Ec)))) := by
  refine vx_ofW (cc := c_Rd_readOption) (maxL := 3) (ret := (some (.object "AbnfChart$Element"))) (by decide) rfl ?_
  intro p e s m args below meth c s₁ B hml hno hv
  obtain ⟨rfl, E, hP, hD⟩ := hv
  have hx := B.exec
  have hb := B.bytes
  have hr := B.returns
  have hlocks := B.notSynchronized
  have Bx : MB p s m [.ref (ad 222), .int (1)].toArray c c_Rd_readOption "AbnfChart$Reader" D cy := ⟨hx, hb, tb_all (atoms_spec B.pre) E.2.1, findClass_of_methodNamed B.named, E.1⟩
  have hS : va_S (Az sz) s.heap s.heap [] := va_S.rf
  have hl := lv_entry ([.ref (ad 222), .int (1)]) (n := 3) (Nat.le_of_ble_eq_true rfl)
  rw [lg_entry_eq]
  generalize (lg_sl ([.ref (ad 222), .int (1)]) ++ List.replicate (3 - (lg_sl ([.ref (ad 222), .int (1)])).length) Slot.unset).toArray = ls at hl ⊢
  have hl : lv_has ls 3 [(0, .ref (ad 222)), (1, .int (1))] := hl
  have hZ9 := hT.2.1
  have hbd9 := hRX.1.1.1
  obtain ⟨ft1, h9_2⟩ := hRX.2.1
  have h1_3 : mem 1 = .inr (0, [.ref (ad 2), .int (nI Z)]) := (hRX.1.2.2 1 (by omega)).trans hT.1
  have h2_4 : mem 2 = .inl (cy 0, 240, .inl f) := (hRX.1.2.2 2 (by omega)).trans hT.2.2
  have h5_5 := hRX.1.1.2.1
  have hbd11 := hRX.1.1.1
  obtain ⟨S6, g7, hS_8, h220_9, h221_10⟩ := hRX.1.1.2.2.2.2.2.2
  refine lv_aload_n Bx.1 Bx.2.1 d_Rd_readOption_0 rfl (lv_at hl 0 rfl) ?_
  refine lv_iconst (v := 3) Bx.1 Bx.2.1 d_Rd_readOption_1 (by decide) ?_
  refine lv_aload_n Bx.1 Bx.2.1 d_Rd_readOption_2 rfl (lv_at hl 0 rfl) ?_
  refine f_get Bx hP (by omega) h9_2 rfl inRd 2 (by decide) kw_146 rfl rfl d_Rd_readOption_3 ?_
  refine f_xVr (na := 2) (As := [.int (3), .int (nI a)]) (rest := []) Bx hml E hP hD hS (by omega) h9_2 rfl (m_Rd_addElementX l hlt hn hT hf hRX (by omega)) kw_419 kw_421 sel_Rd_addElement kw_6 kw_422 (by decide +kernel) ⟨rfl, rfl⟩ ⟨Nat.le_of_ble_eq_true rfl, Nat.le_of_ble_eq_true rfl⟩ rfl hl.1 (Nat.le_of_ble_eq_true rfl) d_Rd_readOption_6 ⟨Nat.le_of_ble_eq_true rfl, Nat.le_of_ble_eq_true rfl⟩ (fun X ce q9 memx H locs hx9 hP hS g1 g2 g3 => f_out hlocks hno hP hS g1 g2 g3 ⟨Nat.le_of_ble_eq_true rfl, Nat.le_of_ble_eq_true rfl⟩ ⟨hx9.1, Or.inl hx9.2⟩) (fun r12 mem13 H locs hq hP hS => ?_)
  have hD : va_D (Az sz) (fw n ad mem13) := fw_D hD
  obtain ⟨hr916, hec15, hRX14⟩ := hq
  subst hr916
  obtain ⟨ft17, h9_18⟩ := hRX14.2.1
  have h1_19 : mem13 1 = .inr (0, [.ref (ad 2), .int (nI Z)]) := (hRX14.1.2.2 1 (by omega)).trans hT.1
  have h2_20 : mem13 2 = .inl (cy 0, 240, .inl f) := (hRX14.1.2.2 2 (by omega)).trans hT.2.2
  have h5_21 := hRX14.1.1.2.1
  have hbd27 := hRX14.1.1.1
  obtain ⟨S22, g23, hS_24, h220_25, h221_26⟩ := hRX14.1.1.2.2.2.2.2.2
  obtain ⟨k28, lo29, hi30, as31, pa32, ne33, he_34, ho_35⟩ := (hRX14.1.1.2.2.2.2.2.1 Ec (by omega)).1
  refine lv_astore_n (lv' := [(2, .ref (ad (20 + 2 * Ec))), (0, .ref (ad 222)), (1, .int (1))]) Bx.1 Bx.2.1 d_Rd_readOption_9 rfl hl (by decide) rfl (fun ls hl => ?_)
  refine lv_aload_n Bx.1 Bx.2.1 d_Rd_readOption_10 rfl (lv_at hl 0 rfl) ?_
  refine lv_aload_n Bx.1 Bx.2.1 d_Rd_readOption_11 rfl (lv_at hl 1 rfl) ?_
  refine lv_iload_n Bx.1 Bx.2.1 d_Rd_readOption_12 rfl (lv_at hl 2 rfl) ?_
  refine lv_bipush (v := 93) Bx.1 Bx.2.1 d_Rd_readOption_13 (by decide) ?_
  refine f_xVr (na := 2) (As := [.int (1), .int (93)]) (rest := [.ref (ad (20 + 2 * Ec))]) Bx hml E hP hD hS (by omega) h9_18 rfl (m_Rd_readBracket_1X l hlt hn hT hf hRX14 (by omega) (u := u) (A := elA A Ec 3) (by omega) (Or.inr ⟨rfl, rfl⟩)) kw_447 kw_449 sel_Rd_readBracket kw_6 kw_450 (by decide +kernel) ⟨rfl, rfl⟩ ⟨Nat.le_of_ble_eq_true rfl, Nat.le_of_ble_eq_true rfl⟩ rfl hl.1 (Nat.le_of_ble_eq_true rfl) d_Rd_readOption_15 ⟨Nat.le_of_ble_eq_true rfl, Nat.le_of_ble_eq_true rfl⟩ (fun X ce q9 memx H locs hx9 hP hS g1 g2 g3 => f_out hlocks hno hP hS g1 g2 g3 ⟨Nat.le_of_ble_eq_true rfl, Nat.le_of_ble_eq_true rfl⟩ ⟨hx9.1, Or.inr hx9.2⟩) (fun r36 mem37 H locs hq hP hS => ?_)
  have hD : va_D (Az sz) (fw n ad mem37) := fw_D hD
  obtain ⟨kx38, a39, R40, E41, A42, nn43, to44, hr945, hb46, hb47, hb48, hb49, hb50, htk51, hRX52, hsc53⟩ := hq
  subst hr945
  obtain ⟨ft54, h9_55⟩ := hRX52.2.1
  have h1_56 : mem37 1 = .inr (0, [.ref (ad 2), .int (nI Z)]) := (hRX52.1.2.2 1 (by omega)).trans hT.1
  have h2_57 : mem37 2 = .inl (cy 0, 240, .inl f) := (hRX52.1.2.2 2 (by omega)).trans hT.2.2
  have h5_58 := hRX52.1.1.2.1
  have hbd64 := hRX52.1.1.1
  obtain ⟨S59, g60, hS_61, h220_62, h221_63⟩ := hRX52.1.1.2.2.2.2.2.2
  obtain ⟨k65, lo66, hi67, as68, pa69, ne70, he_71, ho_72⟩ := (hRX52.1.1.2.2.2.2.2.1 Ec (by omega)).1
  obtain ⟨k73, lo74, hi75, as76, pa77, ne78, he_79, ho_80⟩ := (hRX52.1.1.2.2.2.2.2.1 kx38 (by omega)).1
  have hbd81 := hRX52.1.1.1
  refine f_putN Bx hP hD hS (by omega) he_71 rfl inEl tyEl okEl nmEl 4 (by decide) kw_87 rfl rfl rfl rfl (Nat.le_of_ble_eq_true rfl) d_Rd_readOption_18 (fun H locs hP hS => ?_)
  obtain ⟨mem82, e_mem82⟩ : ∃ z, z = va_up mem37 ((20 + 2 * Ec)) (.inr (2, [.int (k65), .int (lo66), .int (hi67), as68, .ref (ad (20 + 2 * kx38)), ne70, .ref (ad (21 + 2 * Ec))])) := ⟨_, rfl⟩
  have hP : va_P D vcl (fw n ad mem82) H := by rw [e_mem82]; exact hP
  have hD : va_D (Az sz) (fw n ad mem82) := fw_D hD
  have h_mem82 : mem82 ((20 + 2 * Ec)) = .inr (2, [.int (k65), .int (lo66), .int (hi67), as68, .ref (ad (20 + 2 * kx38)), ne70, .ref (ad (21 + 2 * Ec))]) := by rw [e_mem82, va_up_self]
  have hh83 := (va_up_ne mem37 (.inr (2, [.int (k65), .int (lo66), .int (hi67), as68, .ref (ad (20 + 2 * kx38)), ne70, .ref (ad (21 + 2 * Ec))])) (show (222 : Nat) ≠ (20 + 2 * Ec) by first | decide | assumption | omega)).trans h9_55
  rw [← e_mem82] at hh83
  have hh84 := (va_up_ne mem37 (.inr (2, [.int (k65), .int (lo66), .int (hi67), as68, .ref (ad (20 + 2 * kx38)), ne70, .ref (ad (21 + 2 * Ec))])) (show (1 : Nat) ≠ (20 + 2 * Ec) by first | decide | assumption | omega)).trans h1_56
  rw [← e_mem82] at hh84
  have hh85 := (va_up_ne mem37 (.inr (2, [.int (k65), .int (lo66), .int (hi67), as68, .ref (ad (20 + 2 * kx38)), ne70, .ref (ad (21 + 2 * Ec))])) (show (5 : Nat) ≠ (20 + 2 * Ec) by first | decide | assumption | omega)).trans h5_58
  rw [← e_mem82] at hh85
  have hh86 := (va_up_ne mem37 (.inr (2, [.int (k65), .int (lo66), .int (hi67), as68, .ref (ad (20 + 2 * kx38)), ne70, .ref (ad (21 + 2 * Ec))])) (show (220 : Nat) ≠ (20 + 2 * Ec) by first | decide | assumption | omega)).trans h220_62
  rw [← e_mem82] at hh86
  have hh87 := (va_up_ne mem37 (.inr (2, [.int (k65), .int (lo66), .int (hi67), as68, .ref (ad (20 + 2 * kx38)), ne70, .ref (ad (21 + 2 * Ec))])) (show ((20 + 2 * kx38) : Nat) ≠ (20 + 2 * Ec) by first | decide | assumption | omega)).trans he_79
  rw [← e_mem82] at hh87
  have hRX88 : RX cy ad lim (a39) (R40) (E41) (to44) (nn43) m0 mem82 := by rw [e_mem82]; exact hRX52.el (by omega) (hRX52.1.mk (by omega) (hRX52.1.1.upEl (by omega) (fun q9 => ⟨(ho_72 q9).1, Or.inr ⟨kx38, by omega, by omega, rfl⟩, (ho_72 q9).2.2⟩)))
  refine lv_aload_n Bx.1 Bx.2.1 d_Rd_readOption_21 rfl (lv_at hl 0 rfl) ?_
  exact x_aret hx hb hlocks hr (⟨hec15, ⟨Ec, a39, R40, E41, _, nn43, to44, rfl, by omega, by omega, by omega, by omega, by omega, htk51, hRX88, hsc53.eq rfl (elA_ne (by decide)) (elA_ne (by decide))⟩⟩) hP hS d_Rd_readOption_22
set_option maxHeartbeats 4000000 in
set_option maxRecDepth 100000 in
theorem m_Rd_readElement_1X (l : Launch) {D : va_G} {cy : Nat → ClassId} {sz n : Nat} {ad : Nat → Nat} {mem : Nat → va_E} {Z a R Ec lim : Nat} {f T : Nat → Int32} {to : Nat → Int32} {nm : Nat → Int64} {m0 : Nat → va_E} {u : Nat} {A : Ro} (hlt : l.stackTraces = false) (hn : 224 ≤ n) (hT : TX cy ad Z f m0) (hf : ∀ k, k < Z → f k = T k) (hRX : RX cy ad lim a R Ec to nm m0 mem) (haB : a ≤ 300) (haZ : a ≤ Z) : NXr l D cy sz n ad y_Rd_readElement c_Rd_readElement 2 (some (.object "AbnfChart$Element")) ({ frames := 46, cells := 1, slots := 6, locals := 1116 } : Room) mem [.ref (ad 222), .int (1)] (fun r mem' => ∃ (k' a' R' E' : Nat) (A' : Ro) (nm' : Nat → Int64) (to' : Nat → Int32), r = ad (20 + 2 * k') ∧ Ec ≤ k' ∧ k' < E' ∧ R ≤ R' ∧ a < a' ∧ a' ≤ Z ∧ TOK R R' to to' ∧ RX cy ad lim a' R' E' to' nm' m0 mem' ∧ Suc T Z (singS T Z a u R Ec 1 A nm) 1 R (A 235) (A 227) a' R' E' A' nm' ∧ OKc (hereF Z T a)) (fun X mem' => ((X = cIA ∨ X = cIS) ∧ ∃ rc' ec' : Nat, RS cy ad lim rc' ec' m0 mem') ∧ (Fai T Z (singS T Z a u R Ec 1 A nm) ∨ ¬ OKc (hereF Z T a))) := by
  refine vx_ofW (cc := c_Rd_readElement) (maxL := 2) (ret := (some (.object "AbnfChart$Element"))) (by decide) rfl ?_
  intro p e s m args below meth c s₁ B hml hno hv
  obtain ⟨rfl, E, hP, hD⟩ := hv
  have hx := B.exec
  have hb := B.bytes
  have hr := B.returns
  have hlocks := B.notSynchronized
  have Bx : MB p s m [.ref (ad 222), .int (1)].toArray c c_Rd_readElement "AbnfChart$Reader" D cy := ⟨hx, hb, tb_all (atoms_spec B.pre) E.2.1, findClass_of_methodNamed B.named, E.1⟩
  have hS : va_S (Az sz) s.heap s.heap [] := va_S.rf
  have hl := lv_entry ([.ref (ad 222), .int (1)]) (n := 2) (Nat.le_of_ble_eq_true rfl)
  rw [lg_entry_eq]
  generalize (lg_sl ([.ref (ad 222), .int (1)]) ++ List.replicate (2 - (lg_sl ([.ref (ad 222), .int (1)])).length) Slot.unset).toArray = ls at hl ⊢
  have hl : lv_has ls 2 [(0, .ref (ad 222)), (1, .int (1))] := hl
  have hZ9 := hT.2.1
  have hbd9 := hRX.1.1.1
  obtain ⟨ft1, h9_2⟩ := hRX.2.1
  have h1_3 : mem 1 = .inr (0, [.ref (ad 2), .int (nI Z)]) := (hRX.1.2.2 1 (by omega)).trans hT.1
  have h2_4 : mem 2 = .inl (cy 0, 240, .inl f) := (hRX.1.2.2 2 (by omega)).trans hT.2.2
  have h5_5 := hRX.1.1.2.1
  have hbd11 := hRX.1.1.1
  obtain ⟨S6, g7, hS_8, h220_9, h221_10⟩ := hRX.1.1.2.2.2.2.2.2
  refine lv_aload_n Bx.1 Bx.2.1 d_Rd_readElement_0 rfl (lv_at hl 0 rfl) ?_
  refine f_callVi (na := 0) (As := []) (rest := []) Bx hml E hP hD hS (by omega) h9_2 rfl (m_Rd_peekX l hn hT hf hRX (by omega)) kw_353 kw_355 sel_Rd_peek kw_6 kw_356 (by decide +kernel) ⟨rfl, rfl⟩ ⟨Nat.le_of_ble_eq_true rfl, Nat.le_of_ble_eq_true rfl⟩ rfl hl.1 (Nat.le_of_ble_eq_true rfl) d_Rd_readElement_1 ⟨Nat.le_of_ble_eq_true rfl, Nat.le_of_ble_eq_true rfl⟩ (fun r13 mem14 H locs hq hP hS => ?_)
  have hD : va_D (Az sz) (fw n ad mem14) := fw_D hD
  obtain ⟨hqe, hpk12⟩ := hq
  rw [hqe] at hP hD
  subst hpk12
  refine lv_topi (fun v16 e_v16 => ?_)
  by_cases c34 : v16 = 34
  · rw [c34]
    refine lv_lookup (off := 58) (tgt := 62) Bx.1 Bx.2.1 d_Rd_readElement_4 (by decide) (by decide) rfl ?_
    rw [e_v16] at c34
    have hlt34 := hereF_lt (show hereF Z T (a) ≠ -1 by rw [c34]; decide)
    refine lv_aload_n Bx.1 Bx.2.1 d_Rd_readElement_62 rfl (lv_at hl 0 rfl) ?_
    refine lv_aload_n Bx.1 Bx.2.1 d_Rd_readElement_63 rfl (lv_at hl 0 rfl) ?_
    refine f_get Bx hP (by omega) h9_2 rfl inRd 2 (by decide) kw_146 rfl rfl d_Rd_readElement_64 ?_
    refine lv_iconst (v := 5) Bx.1 Bx.2.1 d_Rd_readElement_67 (by decide) ?_
    refine f_xVr (na := 2) (As := [.int (nI a), .int (5)]) (rest := []) Bx hml E hP hD hS (by omega) h9_2 rfl (m_Rd_readStringX l hlt hn hT hf hRX (by omega) (by omega)) kw_455 kw_457 sel_Rd_readString kw_6 kw_458 (by decide +kernel) ⟨rfl, rfl⟩ ⟨Nat.le_of_ble_eq_true rfl, Nat.le_of_ble_eq_true rfl⟩ rfl hl.1 (Nat.le_of_ble_eq_true rfl) d_Rd_readElement_68 ⟨Nat.le_of_ble_eq_true rfl, Nat.le_of_ble_eq_true rfl⟩ (fun X ce q9 memx H locs hx9 hP hS g1 g2 g3 => f_out hlocks hno hP hS g1 g2 g3 ⟨Nat.le_of_ble_eq_true rfl, Nat.le_of_ble_eq_true rfl⟩ ⟨hx9.1, Or.inl (fai_str c34 hx9.2 hbd9.2.1)⟩) (fun r17 mem18 H locs hq hP hS => ?_)
    have hD : va_D (Az sz) (fw n ad mem18) := fw_D hD
    obtain ⟨hE9, hq9, hr2, hle9, hRX2⟩ := hq
    subst hr2
    obtain ⟨A2, hsc2⟩ := suc_str (u := u) (R := R) (f := 1) (A := A) (nm := nm) c34 hE9 hq9
    exact x_aret hx hb hlocks hr (⟨Ec, _, R, Ec + 1, A2, nm, to, rfl, by omega, by omega, by omega, by omega, hle9, TOK.of rfl, hRX2, hsc2, (l34 c34).2.2.2⟩) hP hS d_Rd_readElement_71
  by_cases c37 : v16 = 37
  · rw [c37]
    refine lv_lookup (off := 68) (tgt := 72) Bx.1 Bx.2.1 d_Rd_readElement_4 (by decide) (by decide) rfl ?_
    rw [e_v16] at c37
    have hlt37 := hereF_lt (show hereF Z T (a) ≠ -1 by rw [c37]; decide)
    refine lv_aload_n Bx.1 Bx.2.1 d_Rd_readElement_72 rfl (lv_at hl 0 rfl) ?_
    refine f_get Bx hP (by omega) h9_2 rfl inRd 0 (by decide) kw_144 rfl rfl d_Rd_readElement_73 ?_
    refine lv_aload_n Bx.1 Bx.2.1 d_Rd_readElement_76 rfl (lv_at hl 0 rfl) ?_
    refine f_get Bx hP (by omega) h9_2 rfl inRd 2 (by decide) kw_146 rfl rfl d_Rd_readElement_77 ?_
    refine lv_iconst (v := 1) Bx.1 Bx.2.1 d_Rd_readElement_80 (by decide) ?_
    refine lv_iadd Bx.1 Bx.2.1 d_Rd_readElement_81 ?_
    rw [show nI a + 1 = nI (a + 1) from nI_add (a) (1)]
    refine f_callVi (na := 1) (As := [.int (nI (a + 1))]) (rest := []) Bx hml E hP hD hS (by omega) h1_3 rfl (m_Ch_codeAt l (by omega) h1_3 (by omega) h2_4 (by rw [nI_toInt (by omega)]; omega)) kw_341 kw_342 kw_343 kw_2 kw_344 (by decide +kernel) ⟨rfl, rfl⟩ ⟨Nat.le_of_ble_eq_true rfl, Nat.le_of_ble_eq_true rfl⟩ rfl hl.1 (Nat.le_of_ble_eq_true rfl) d_Rd_readElement_82 ⟨Nat.le_of_ble_eq_true rfl, Nat.le_of_ble_eq_true rfl⟩ (fun r19 mem20 H locs hq hP hS => ?_)
    have hD : va_D (Az sz) (fw n ad mem20) := fw_D hD
    obtain ⟨hco21, hqe⟩ := hq
    rw [hqe] at hP hD
    rw [code_here hf hT.2.1 (k := a + 1) (by omega)] at hco21
    subst hco21
    refine f_callSNi (na := 1) (As := [.int (hereF Z T (a + 1))]) (rest := []) Bx hml E.2.1 (m_Ab_smallOfX l (hereF Z T (a + 1))) kw_372 kw_373 kw_1 kw_374 (by decide +kernel) ⟨rfl, rfl⟩ ⟨Nat.le_of_ble_eq_true rfl, Nat.le_of_ble_eq_true rfl⟩ rfl hl.1 (Nat.le_of_ble_eq_true rfl) d_Rd_readElement_85 ⟨Nat.le_of_ble_eq_true rfl, Nat.le_of_ble_eq_true rfl⟩ (fun r23 hs22 => ?_)
    subst hs22
    refine lv_bipush (v := 115) Bx.1 Bx.2.1 d_Rd_readElement_88 (by decide) ?_
    refine lv_icmp_ne Bx.1 Bx.2.1 d_Rd_readElement_90 rfl (fun hb24 => ?_) (fun hb24 => ?_)
    · refine lv_aload_n Bx.1 Bx.2.1 d_Rd_readElement_100 rfl (lv_at hl 0 rfl) ?_
      refine f_xVr (na := 0) (As := []) (rest := []) Bx hml E hP hD hS (by omega) h9_2 rfl (m_Rd_readValueX l hlt hn hT hf hRX (by omega) (by omega)) kw_467 kw_469 sel_Rd_readValue kw_6 kw_470 (by decide +kernel) ⟨rfl, rfl⟩ ⟨Nat.le_of_ble_eq_true rfl, Nat.le_of_ble_eq_true rfl⟩ rfl hl.1 (Nat.le_of_ble_eq_true rfl) d_Rd_readElement_101 ⟨Nat.le_of_ble_eq_true rfl, Nat.le_of_ble_eq_true rfl⟩ (fun X ce q9 memx H locs hx9 hP hS g1 g2 g3 => f_out hlocks hno hP hS g1 g2 g3 ⟨Nat.le_of_ble_eq_true rfl, Nat.le_of_ble_eq_true rfl⟩ ⟨hx9.1, Or.inl (fai_val c37 hb24 hx9.2 hbd9.2.1)⟩) (fun r25 mem26 H locs hq hP hS => ?_)
      have hD : va_D (Az sz) (fw n ad mem26) := fw_D hD
      obtain ⟨hE9, ba, a2, hba, hp9, hr2, x1, x2, hRX2⟩ := hq
      subst hr2
      obtain ⟨A2, hsc2⟩ := suc_val (u := u) (R := R) (f := 1) (A := A) (nm := nm) c37 hba hE9 hp9
      exact x_aret hx hb hlocks hr (⟨Ec, a2, R, Ec + 1, A2, nm, to, rfl, by omega, by omega, by omega, x1, x2, TOK.of rfl, hRX2, hsc2, (l37 c37).2.2.2.2⟩) hP hS d_Rd_readElement_104
    · refine lv_aload_n Bx.1 Bx.2.1 d_Rd_readElement_93 rfl (lv_at hl 0 rfl) ?_
      refine f_xVr (na := 0) (As := []) (rest := []) Bx hml E hP hD hS (by omega) h9_2 rfl (m_Rd_readExactStringX l hlt hn hT hf hRX (by omega) (by omega)) kw_463 kw_465 sel_Rd_readExactString kw_6 kw_466 (by decide +kernel) ⟨rfl, rfl⟩ ⟨Nat.le_of_ble_eq_true rfl, Nat.le_of_ble_eq_true rfl⟩ rfl hl.1 (Nat.le_of_ble_eq_true rfl) d_Rd_readElement_94 ⟨Nat.le_of_ble_eq_true rfl, Nat.le_of_ble_eq_true rfl⟩ (fun X ce q9 memx H locs hx9 hP hS g1 g2 g3 => f_out hlocks hno hP hS g1 g2 g3 ⟨Nat.le_of_ble_eq_true rfl, Nat.le_of_ble_eq_true rfl⟩ ⟨hx9.1, Or.inl (fai_xst c37 hb24 hx9.2 hbd9.2.1)⟩) (fun r27 mem28 H locs hq hP hS => ?_)
      have hD : va_D (Az sz) (fw n ad mem28) := fw_D hD
      obtain ⟨hq8, hE9, hq9, hr2, hle9, hRX2⟩ := hq
      subst hr2
      obtain ⟨A2, hsc2⟩ := suc_xst (u := u) (R := R) (f := 1) (A := A) (nm := nm) c37 hb24 hq8 hE9 hq9
      refine lv_goto Bx.1 Bx.2.1 d_Rd_readElement_97 rfl ?_
      exact x_aret hx hb hlocks hr (⟨Ec, _, R, Ec + 1, A2, nm, to, rfl, by omega, by omega, by omega, by omega, hle9, TOK.of rfl, hRX2, hsc2, (l37 c37).2.2.2.2⟩) hP hS d_Rd_readElement_104
  by_cases c40 : v16 = 40
  · rw [c40]
    refine lv_lookup (off := 44) (tgt := 48) Bx.1 Bx.2.1 d_Rd_readElement_4 (by decide) (by decide) rfl ?_
    rw [e_v16] at c40
    have hlt40 := hereF_lt (show hereF Z T (a) ≠ -1 by rw [c40]; decide)
    refine lv_aload_n Bx.1 Bx.2.1 d_Rd_readElement_48 rfl (lv_at hl 0 rfl) ?_
    refine lv_iload_n Bx.1 Bx.2.1 d_Rd_readElement_49 rfl (lv_at hl 1 rfl) ?_
    refine lv_bipush (v := 41) Bx.1 Bx.2.1 d_Rd_readElement_50 (by decide) ?_
    refine f_xVr (na := 2) (As := [.int (1), .int (41)]) (rest := []) Bx hml E hP hD hS (by omega) h9_2 rfl (m_Rd_readBracket_1X l hlt hn hT hf hRX (by omega) (u := u) (A := A) (by omega) (Or.inl ⟨rfl, rfl⟩) (what := 1) (oe := -1)) kw_447 kw_449 sel_Rd_readBracket kw_6 kw_450 (by decide +kernel) ⟨rfl, rfl⟩ ⟨Nat.le_of_ble_eq_true rfl, Nat.le_of_ble_eq_true rfl⟩ rfl hl.1 (Nat.le_of_ble_eq_true rfl) d_Rd_readElement_52 ⟨Nat.le_of_ble_eq_true rfl, Nat.le_of_ble_eq_true rfl⟩ (fun X ce q9 memx H locs hx9 hP hS g1 g2 g3 => f_out hlocks hno hP hS g1 g2 g3 ⟨Nat.le_of_ble_eq_true rfl, Nat.le_of_ble_eq_true rfl⟩ ⟨hx9.1, Or.inl (hx9.2.eq (sing_br (l40 c40).1 c40 (by omega)))⟩) (fun r29 mem30 H locs hq hP hS => ?_)
    have hD : va_D (Az sz) (fw n ad mem30) := fw_D hD
    obtain ⟨kx31, a32, R33, E34, A35, nn36, to37, hr938, hb39, hb40, hb41, hb42, hb43, htk44, hRX45, hsc46⟩ := hq
    subst hr938
    obtain ⟨ft47, h9_48⟩ := hRX45.2.1
    have h1_49 : mem30 1 = .inr (0, [.ref (ad 2), .int (nI Z)]) := (hRX45.1.2.2 1 (by omega)).trans hT.1
    have h2_50 : mem30 2 = .inl (cy 0, 240, .inl f) := (hRX45.1.2.2 2 (by omega)).trans hT.2.2
    have h5_51 := hRX45.1.1.2.1
    have hbd57 := hRX45.1.1.1
    obtain ⟨S52, g53, hS_54, h220_55, h221_56⟩ := hRX45.1.1.2.2.2.2.2.2
    obtain ⟨k58, lo59, hi60, as61, pa62, ne63, he_64, ho_65⟩ := (hRX45.1.1.2.2.2.2.2.1 kx31 (by omega)).1
    have hbd66 := hRX45.1.1.1
    exact x_aret hx hb hlocks hr (⟨kx31, a32, R33, E34, _, nn36, to37, rfl, by omega, by omega, by omega, by omega, by omega, htk44, hRX45, hsc46.eq (sing_br (l40 c40).1 c40 (by omega)) rfl rfl, (l40 c40).2⟩) hP hS d_Rd_readElement_55
  by_cases c91 : v16 = 91
  · rw [c91]
    refine lv_lookup (off := 52) (tgt := 56) Bx.1 Bx.2.1 d_Rd_readElement_4 (by decide) (by decide) rfl ?_
    rw [e_v16] at c91
    have hlt91 := hereF_lt (show hereF Z T (a) ≠ -1 by rw [c91]; decide)
    refine lv_aload_n Bx.1 Bx.2.1 d_Rd_readElement_56 rfl (lv_at hl 0 rfl) ?_
    refine lv_iload_n Bx.1 Bx.2.1 d_Rd_readElement_57 rfl (lv_at hl 1 rfl) ?_
    refine f_xVr (na := 1) (As := [.int (1)]) (rest := []) Bx hml E hP hD hS (by omega) h9_2 rfl (m_Rd_readOption_1X l hlt hn hT hf hRX (by omega) (u := u) (A := A) (by omega)) kw_451 kw_453 sel_Rd_readOption kw_6 kw_454 (by decide +kernel) ⟨rfl, rfl⟩ ⟨Nat.le_of_ble_eq_true rfl, Nat.le_of_ble_eq_true rfl⟩ rfl hl.1 (Nat.le_of_ble_eq_true rfl) d_Rd_readElement_58 ⟨Nat.le_of_ble_eq_true rfl, Nat.le_of_ble_eq_true rfl⟩ (fun X ce q9 memx H locs hx9 hP hS g1 g2 g3 => f_out hlocks hno hP hS g1 g2 g3 ⟨Nat.le_of_ble_eq_true rfl, Nat.le_of_ble_eq_true rfl⟩ ⟨hx9.1, Or.inl (by
        by_cases q9 : Ec = 100
        · exact Or.inl (sing_o0 (l91 c91).1 c91 (Or.inr q9))
        · exact (hx9.2.resolve_left q9).eq (sing_op (l91 c91).1 c91 (by omega) (by omega)))⟩) (fun r67 mem68 H locs hq hP hS => ?_)
    have hD : va_D (Az sz) (fw n ad mem68) := fw_D hD
    obtain ⟨hE9, k2, a2, R2, E2, A2, n2, t2, hr2, x1, x2, x3, x4, x5, htk2, hRX2, hsc2⟩ := hq
    subst hr2
    exact x_aret hx hb hlocks hr (⟨k2, a2, R2, E2, A2, n2, t2, rfl, x1, x2, x3, x4, x5, htk2, hRX2, hsc2.eq (sing_op (l91 c91).1 c91 (by omega) hE9) rfl rfl, (l91 c91).2⟩) hP hS d_Rd_readElement_61
  refine lv_lookup (off := 101) (tgt := 105) Bx.1 Bx.2.1 d_Rd_readElement_4 (by decide) (by show Op.lookupswitch.offset [(34, 58), (37, 68), (40, 44), (91, 52)] 101 (v16).toInt = 101; rw [lv_osw c34 (by decide), lv_osw c37 (by decide), lv_osw c40 (by decide), lv_osw c91 (by decide)]; rfl) rfl ?_
  rw [e_v16] at c40 c91 c34 c37
  refine lv_aload_n Bx.1 Bx.2.1 d_Rd_readElement_105 rfl (lv_at hl 0 rfl) ?_
  refine f_xVr (na := 0) (As := []) (rest := []) Bx hml E hP hD hS (by omega) h9_2 rfl (m_Rd_readAskedNameX l hlt hn hT hf hRX (by omega) (A := A) (by omega)) kw_478 kw_480 sel_Rd_readAskedName kw_6 kw_481 (by decide +kernel) ⟨rfl, rfl⟩ ⟨Nat.le_of_ble_eq_true rfl, Nat.le_of_ble_eq_true rfl⟩ rfl hl.1 (Nat.le_of_ble_eq_true rfl) d_Rd_readElement_106 ⟨Nat.le_of_ble_eq_true rfl, Nat.le_of_ble_eq_true rfl⟩ (fun X ce q9 memx H locs hx9 hP hS g1 g2 g3 => f_out hlocks hno hP hS g1 g2 g3 ⟨Nat.le_of_ble_eq_true rfl, Nat.le_of_ble_eq_true rfl⟩ ⟨hx9.1, fai_nam c40 c91 c34 c37 hx9.2⟩) (fun r69 mem70 H locs hq hP hS => ?_)
  have hD : va_D (Az sz) (fw n ad mem70) := fw_D hD
  obtain ⟨i9, a2, R2, A3, n2, hsn, hle, hE9, hr2, x1, x2, x3, hA3, htk, t2, htk2, hRX2⟩ := hq
  subst hr2
  obtain ⟨A2, hsc2⟩ := suc_nam (u := u) (f := 1) hle hsn hE9 hA3 htk
  exact x_aret hx hb hlocks hr (⟨Ec, a2, R2, Ec + 1, A2, n2, t2, rfl, by omega, by omega, x1, x2, x3, htk2, hRX2, hsc2, lt_ok hle⟩) hP hS d_Rd_readElement_109
set_option maxHeartbeats 4000000 in
set_option maxRecDepth 100000 in
theorem m_Rd_readRepetition_1X (l : Launch) {D : va_G} {cy : Nat → ClassId} {sz n : Nat} {ad : Nat → Nat} {mem : Nat → va_E} {Z a R Ec lim : Nat} {f T : Nat → Int32} {to : Nat → Int32} {nm : Nat → Int64} {m0 : Nat → va_E} {u : Nat} {A : Ro} (hlt : l.stackTraces = false) (hn : 224 ≤ n) (hT : TX cy ad Z f m0) (hf : ∀ k, k < Z → f k = T k) (hRX : RX cy ad lim a R Ec to nm m0 mem) (haB : a ≤ 300) (haZ : a ≤ Z) (hbg : bgF (hereF Z T a) = true) : NXr l D cy sz n ad y_Rd_readRepetition c_Rd_readRepetition 3 (some (.object "AbnfChart$Element")) ({ frames := 47, cells := 1, slots := 6, locals := 1138 } : Room) mem [.ref (ad 222), .int (1)] (fun r mem' => ∃ (k' a' R' E' : Nat) (A' : Ro) (nm' : Nat → Int64) (to' : Nat → Int32), r = ad (20 + 2 * k') ∧ Ec ≤ k' ∧ k' < E' ∧ R ≤ R' ∧ a < a' ∧ a' ≤ Z ∧ TOK R R' to to' ∧ RX cy ad lim a' R' E' to' nm' m0 mem' ∧ Suc T Z (repS T Z a u R Ec 1 A nm) 1 R (A 235) (A 227) a' R' E' A' nm') (fun X mem' => ((X = cIA ∨ X = cIS) ∧ ∃ rc' ec' : Nat, RS cy ad lim rc' ec' m0 mem') ∧ (Fai T Z (repS T Z a u R Ec 1 A nm))) := by
  refine vx_ofW (cc := c_Rd_readRepetition) (maxL := 3) (ret := (some (.object "AbnfChart$Element"))) (by decide) rfl ?_
  intro p e s m args below meth c s₁ B hml hno hv
  obtain ⟨rfl, E, hP, hD⟩ := hv
  have hx := B.exec
  have hb := B.bytes
  have hr := B.returns
  have hlocks := B.notSynchronized
  have Bx : MB p s m [.ref (ad 222), .int (1)].toArray c c_Rd_readRepetition "AbnfChart$Reader" D cy := ⟨hx, hb, tb_all (atoms_spec B.pre) E.2.1, findClass_of_methodNamed B.named, E.1⟩
  have hS : va_S (Az sz) s.heap s.heap [] := va_S.rf
  have hl := lv_entry ([.ref (ad 222), .int (1)]) (n := 3) (Nat.le_of_ble_eq_true rfl)
  rw [lg_entry_eq]
  generalize (lg_sl ([.ref (ad 222), .int (1)]) ++ List.replicate (3 - (lg_sl ([.ref (ad 222), .int (1)])).length) Slot.unset).toArray = ls at hl ⊢
  have hl : lv_has ls 3 [(0, .ref (ad 222)), (1, .int (1))] := hl
  have hZ9 := hT.2.1
  have hbd9 := hRX.1.1.1
  obtain ⟨ft1, h9_2⟩ := hRX.2.1
  have h1_3 : mem 1 = .inr (0, [.ref (ad 2), .int (nI Z)]) := (hRX.1.2.2 1 (by omega)).trans hT.1
  have h2_4 : mem 2 = .inl (cy 0, 240, .inl f) := (hRX.1.2.2 2 (by omega)).trans hT.2.2
  have h5_5 := hRX.1.1.2.1
  have hbd11 := hRX.1.1.1
  obtain ⟨S6, g7, hS_8, h220_9, h221_10⟩ := hRX.1.1.2.2.2.2.2.2
  refine lv_aload_n Bx.1 Bx.2.1 d_Rd_readRepetition_0 rfl (lv_at hl 0 rfl) ?_
  refine f_callVi (na := 0) (As := []) (rest := []) Bx hml E hP hD hS (by omega) h9_2 rfl (m_Rd_peekX l hn hT hf hRX (by omega)) kw_353 kw_355 sel_Rd_peek kw_6 kw_356 (by decide +kernel) ⟨rfl, rfl⟩ ⟨Nat.le_of_ble_eq_true rfl, Nat.le_of_ble_eq_true rfl⟩ rfl hl.1 (Nat.le_of_ble_eq_true rfl) d_Rd_readRepetition_1 ⟨Nat.le_of_ble_eq_true rfl, Nat.le_of_ble_eq_true rfl⟩ (fun r13 mem14 H locs hq hP hS => ?_)
  have hD : va_D (Az sz) (fw n ad mem14) := fw_D hD
  obtain ⟨hqe, hpk12⟩ := hq
  rw [hqe] at hP hD
  subst hpk12
  refine f_callSi (na := 1) (As := [.int (hereF Z T (a))]) (rest := []) Bx hml E.2.1 (m_Rd_beginsRepeatX l (hereF Z T (a))) kw_416 kw_417 kw_6 kw_418 (by decide +kernel) ⟨rfl, rfl⟩ ⟨Nat.le_of_ble_eq_true rfl, Nat.le_of_ble_eq_true rfl⟩ rfl hl.1 (Nat.le_of_ble_eq_true rfl) d_Rd_readRepetition_4 ⟨Nat.le_of_ble_eq_true rfl, Nat.le_of_ble_eq_true rfl⟩ (fun r17 hs16 => ?_)
  subst hs16
  refine lv_if_ne Bx.1 Bx.2.1 d_Rd_readRepetition_7 rfl (fun hb18 => ?_) (fun hb18 => ?_)
  · refine lv_aload_n Bx.1 Bx.2.1 d_Rd_readRepetition_16 rfl (lv_at hl 0 rfl) ?_
    refine lv_iconst (v := 2) Bx.1 Bx.2.1 d_Rd_readRepetition_17 (by decide) ?_
    refine lv_aload_n Bx.1 Bx.2.1 d_Rd_readRepetition_18 rfl (lv_at hl 0 rfl) ?_
    refine f_get Bx hP (by omega) h9_2 rfl inRd 2 (by decide) kw_146 rfl rfl d_Rd_readRepetition_19 ?_
    refine f_xVr (na := 2) (As := [.int (2), .int (nI a)]) (rest := []) Bx hml E hP hD hS (by omega) h9_2 rfl (m_Rd_addElementX l hlt hn hT hf hRX (by omega)) kw_419 kw_421 sel_Rd_addElement kw_6 kw_422 (by decide +kernel) ⟨rfl, rfl⟩ ⟨Nat.le_of_ble_eq_true rfl, Nat.le_of_ble_eq_true rfl⟩ rfl hl.1 (Nat.le_of_ble_eq_true rfl) d_Rd_readRepetition_22 ⟨Nat.le_of_ble_eq_true rfl, Nat.le_of_ble_eq_true rfl⟩ (fun X ce q9 memx H locs hx9 hP hS g1 g2 g3 => f_out hlocks hno hP hS g1 g2 g3 ⟨Nat.le_of_ble_eq_true rfl, Nat.le_of_ble_eq_true rfl⟩ ⟨hx9.1, Or.inl (rep_E (bpF_1 hb18) hx9.2)⟩) (fun r19 mem20 H locs hq hP hS => ?_)
    have hD : va_D (Az sz) (fw n ad mem20) := fw_D hD
    obtain ⟨hr923, hec22, hRX21⟩ := hq
    subst hr923
    obtain ⟨ft24, h9_25⟩ := hRX21.2.1
    have h1_26 : mem20 1 = .inr (0, [.ref (ad 2), .int (nI Z)]) := (hRX21.1.2.2 1 (by omega)).trans hT.1
    have h2_27 : mem20 2 = .inl (cy 0, 240, .inl f) := (hRX21.1.2.2 2 (by omega)).trans hT.2.2
    have h5_28 := hRX21.1.1.2.1
    have hbd34 := hRX21.1.1.1
    obtain ⟨S29, g30, hS_31, h220_32, h221_33⟩ := hRX21.1.1.2.2.2.2.2.2
    obtain ⟨k35, lo36, hi37, as38, pa39, ne40, he_41, ho_42⟩ := (hRX21.1.1.2.2.2.2.2.1 Ec (by omega)).1
    refine lv_astore_n (lv' := [(2, .ref (ad (20 + 2 * Ec))), (0, .ref (ad 222)), (1, .int (1))]) Bx.1 Bx.2.1 d_Rd_readRepetition_25 rfl hl (by decide) rfl (fun ls hl => ?_)
    refine lv_aload_n Bx.1 Bx.2.1 d_Rd_readRepetition_26 rfl (lv_at hl 1 rfl) ?_
    refine lv_aload_n Bx.1 Bx.2.1 d_Rd_readRepetition_27 rfl (lv_at hl 0 rfl) ?_
    have hdg := bpF_1 hb18
    have hE9 := hec22
    refine f_xVv (na := 1) (As := [.ref (ad (20 + 2 * Ec))]) (rest := []) Bx hml E hP hD hS (by omega) h9_25 rfl (m_Rd_readRepeatX l hlt hn hT hf hRX21 (by omega) (by omega) (by omega) hdg) kw_482 kw_484 sel_Rd_readRepeat kw_6 kw_485 (by decide +kernel) ⟨rfl, rfl⟩ ⟨Nat.le_of_ble_eq_true rfl, Nat.le_of_ble_eq_true rfl⟩ rfl hl.1 (Nat.le_of_ble_eq_true rfl) d_Rd_readRepetition_28 ⟨Nat.le_of_ble_eq_true rfl, Nat.le_of_ble_eq_true rfl⟩ (fun X ce q9 memx H locs hx9 hP hS g1 g2 g3 => f_out hlocks hno hP hS g1 g2 g3 ⟨Nat.le_of_ble_eq_true rfl, Nat.le_of_ble_eq_true rfl⟩ ⟨hx9.1, hx9.2.elim (fun v1 z => z.elim (fun b1 z => z.elim (fun v2 z => z.elim (fun b2 z => Or.inl (rep_bad hdg hE9 z.1 z.2.1 (Or.inl z.2.2))))))⟩) (fun mem44 H locs hq hP hS => ?_)
    have hD : va_D (Az sz) (fw n ad mem44) := fw_D hD
    obtain ⟨v1, b1, v2, b2, hr1, hr2, hnv, hb8, hb9, hRXr⟩ := hq
    obtain ⟨ft45, h9_46⟩ := hRXr.2.1
    have h1_47 : mem44 1 = .inr (0, [.ref (ad 2), .int (nI Z)]) := (hRXr.1.2.2 1 (by omega)).trans hT.1
    have h2_48 : mem44 2 = .inl (cy 0, 240, .inl f) := (hRXr.1.2.2 2 (by omega)).trans hT.2.2
    have h5_49 := hRXr.1.1.2.1
    have hbd55 := hRXr.1.1.1
    obtain ⟨S50, g51, hS_52, h220_53, h221_54⟩ := hRXr.1.1.2.2.2.2.2.2
    obtain ⟨k56, lo57, hi58, as59, pa60, ne61, he_62, ho_63⟩ := (hRXr.1.1.2.2.2.2.2.1 Ec (by omega)).1
    refine lv_aload_n Bx.1 Bx.2.1 d_Rd_readRepetition_31 rfl (lv_at hl 0 rfl) ?_
    refine lv_aload_n Bx.1 Bx.2.1 d_Rd_readRepetition_32 rfl (lv_at hl 1 rfl) ?_
    refine lv_iload_n Bx.1 Bx.2.1 d_Rd_readRepetition_33 rfl (lv_at hl 2 rfl) ?_
    refine f_xVr (na := 1) (As := [.int (1)]) (rest := [.ref (ad (20 + 2 * Ec))]) Bx hml E hP hD hS (by omega) h9_46 rfl (m_Rd_readElement_1X l hlt hn hT hf hRXr (by omega) (u := u) (A := repB A 1 Ec v1 v2) (by omega)) kw_443 kw_445 sel_Rd_readElement kw_6 kw_446 (by decide +kernel) ⟨rfl, rfl⟩ ⟨Nat.le_of_ble_eq_true rfl, Nat.le_of_ble_eq_true rfl⟩ rfl hl.1 (Nat.le_of_ble_eq_true rfl) d_Rd_readRepetition_34 ⟨Nat.le_of_ble_eq_true rfl, Nat.le_of_ble_eq_true rfl⟩ (fun X ce q9 memx H locs hx9 hP hS g1 g2 g3 => f_out hlocks hno hP hS g1 g2 g3 ⟨Nat.le_of_ble_eq_true rfl, Nat.le_of_ble_eq_true rfl⟩ ⟨hx9.1, rep_fai hdg hE9 hr1 hr2 hnv hx9.2⟩) (fun r64 mem65 H locs hq hP hS => ?_)
    have hD : va_D (Az sz) (fw n ad mem65) := fw_D hD
    obtain ⟨kx66, a67, R68, E69, A70, nn71, to72, hr973, hb74, hb75, hb76, hb77, hb78, htk79, hRX80, hsc81, hok82⟩ := hq
    subst hr973
    obtain ⟨ft83, h9_84⟩ := hRX80.2.1
    have h1_85 : mem65 1 = .inr (0, [.ref (ad 2), .int (nI Z)]) := (hRX80.1.2.2 1 (by omega)).trans hT.1
    have h2_86 : mem65 2 = .inl (cy 0, 240, .inl f) := (hRX80.1.2.2 2 (by omega)).trans hT.2.2
    have h5_87 := hRX80.1.1.2.1
    have hbd93 := hRX80.1.1.1
    obtain ⟨S88, g89, hS_90, h220_91, h221_92⟩ := hRX80.1.1.2.2.2.2.2.2
    obtain ⟨k94, lo95, hi96, as97, pa98, ne99, he_100, ho_101⟩ := (hRX80.1.1.2.2.2.2.2.1 Ec (by omega)).1
    obtain ⟨k102, lo103, hi104, as105, pa106, ne107, he_108, ho_109⟩ := (hRX80.1.1.2.2.2.2.2.1 kx66 (by omega)).1
    have hbd110 := hRX80.1.1.1
    refine f_putN Bx hP hD hS (by omega) he_100 rfl inEl tyEl okEl nmEl 4 (by decide) kw_87 rfl rfl rfl rfl (Nat.le_of_ble_eq_true rfl) d_Rd_readRepetition_37 (fun H locs hP hS => ?_)
    obtain ⟨mem111, e_mem111⟩ : ∃ z, z = va_up mem65 ((20 + 2 * Ec)) (.inr (2, [.int (k94), .int (lo95), .int (hi96), as97, .ref (ad (20 + 2 * kx66)), ne99, .ref (ad (21 + 2 * Ec))])) := ⟨_, rfl⟩
    have hP : va_P D vcl (fw n ad mem111) H := by rw [e_mem111]; exact hP
    have hD : va_D (Az sz) (fw n ad mem111) := fw_D hD
    have h_mem111 : mem111 ((20 + 2 * Ec)) = .inr (2, [.int (k94), .int (lo95), .int (hi96), as97, .ref (ad (20 + 2 * kx66)), ne99, .ref (ad (21 + 2 * Ec))]) := by rw [e_mem111, va_up_self]
    have hh112 := (va_up_ne mem65 (.inr (2, [.int (k94), .int (lo95), .int (hi96), as97, .ref (ad (20 + 2 * kx66)), ne99, .ref (ad (21 + 2 * Ec))])) (show (222 : Nat) ≠ (20 + 2 * Ec) by first | decide | assumption | omega)).trans h9_84
    rw [← e_mem111] at hh112
    have hh113 := (va_up_ne mem65 (.inr (2, [.int (k94), .int (lo95), .int (hi96), as97, .ref (ad (20 + 2 * kx66)), ne99, .ref (ad (21 + 2 * Ec))])) (show (1 : Nat) ≠ (20 + 2 * Ec) by first | decide | assumption | omega)).trans h1_85
    rw [← e_mem111] at hh113
    have hh114 := (va_up_ne mem65 (.inr (2, [.int (k94), .int (lo95), .int (hi96), as97, .ref (ad (20 + 2 * kx66)), ne99, .ref (ad (21 + 2 * Ec))])) (show (5 : Nat) ≠ (20 + 2 * Ec) by first | decide | assumption | omega)).trans h5_87
    rw [← e_mem111] at hh114
    have hh115 := (va_up_ne mem65 (.inr (2, [.int (k94), .int (lo95), .int (hi96), as97, .ref (ad (20 + 2 * kx66)), ne99, .ref (ad (21 + 2 * Ec))])) (show (220 : Nat) ≠ (20 + 2 * Ec) by first | decide | assumption | omega)).trans h220_91
    rw [← e_mem111] at hh115
    have hh116 := (va_up_ne mem65 (.inr (2, [.int (k94), .int (lo95), .int (hi96), as97, .ref (ad (20 + 2 * kx66)), ne99, .ref (ad (21 + 2 * Ec))])) (show ((20 + 2 * kx66) : Nat) ≠ (20 + 2 * Ec) by first | decide | assumption | omega)).trans he_108
    rw [← e_mem111] at hh116
    have hRX117 : RX cy ad lim (a67) (R68) (E69) (to72) (nn71) m0 mem111 := by rw [e_mem111]; exact hRX80.el (by omega) (hRX80.1.mk (by omega) (hRX80.1.1.upEl (by omega) (fun q9 => ⟨(ho_101 q9).1, Or.inr ⟨kx66, by omega, by omega, rfl⟩, (ho_101 q9).2.2⟩)))
    refine lv_aload_n Bx.1 Bx.2.1 d_Rd_readRepetition_40 rfl (lv_at hl 0 rfl) ?_
    exact x_aret hx hb hlocks hr (⟨Ec, a67, R68, E69, _, nn71, to72, rfl, by omega, by omega, by omega, by omega, by omega, htk79, hRX117, hsc81.eq (rep_suc hdg hE9 hr1 hr2 hnv hok82) (repB_ne (by decide) (by decide)) (repB_ne (by decide) (by decide))⟩) hP hS d_Rd_readRepetition_41
  · refine lv_aload_n Bx.1 Bx.2.1 d_Rd_readRepetition_10 rfl (lv_at hl 0 rfl) ?_
    refine lv_iload_n Bx.1 Bx.2.1 d_Rd_readRepetition_11 rfl (lv_at hl 1 rfl) ?_
    obtain ⟨hd0, h42⟩ := bpF_0 hb18
    refine f_xVr (na := 1) (As := [.int (1)]) (rest := []) Bx hml E hP hD hS (by omega) h9_2 rfl (m_Rd_readElement_1X l hlt hn hT hf hRX (by omega) (u := u) (A := A) (by omega)) kw_443 kw_445 sel_Rd_readElement kw_6 kw_446 (by decide +kernel) ⟨rfl, rfl⟩ ⟨Nat.le_of_ble_eq_true rfl, Nat.le_of_ble_eq_true rfl⟩ rfl hl.1 (Nat.le_of_ble_eq_true rfl) d_Rd_readRepetition_12 ⟨Nat.le_of_ble_eq_true rfl, Nat.le_of_ble_eq_true rfl⟩ (fun X ce q9 memx H locs hx9 hP hS g1 g2 g3 => f_out hlocks hno hP hS g1 g2 g3 ⟨Nat.le_of_ble_eq_true rfl, Nat.le_of_ble_eq_true rfl⟩ ⟨hx9.1, (hx9.2.resolve_right (fun z => z ⟨hbg, hd0, h42⟩)).eq (rep_no hd0 h42)⟩) (fun r118 mem119 H locs hq hP hS => ?_)
    have hD : va_D (Az sz) (fw n ad mem119) := fw_D hD
    obtain ⟨kx120, a121, R122, E123, A124, nn125, to126, hr9127, hb128, hb129, hb130, hb131, hb132, htk133, hRX134, hsc135, hok136⟩ := hq
    subst hr9127
    obtain ⟨ft137, h9_138⟩ := hRX134.2.1
    have h1_139 : mem119 1 = .inr (0, [.ref (ad 2), .int (nI Z)]) := (hRX134.1.2.2 1 (by omega)).trans hT.1
    have h2_140 : mem119 2 = .inl (cy 0, 240, .inl f) := (hRX134.1.2.2 2 (by omega)).trans hT.2.2
    have h5_141 := hRX134.1.1.2.1
    have hbd147 := hRX134.1.1.1
    obtain ⟨S142, g143, hS_144, h220_145, h221_146⟩ := hRX134.1.1.2.2.2.2.2.2
    obtain ⟨k148, lo149, hi150, as151, pa152, ne153, he_154, ho_155⟩ := (hRX134.1.1.2.2.2.2.2.1 kx120 (by omega)).1
    have hbd156 := hRX134.1.1.1
    exact x_aret hx hb hlocks hr (⟨kx120, a121, R122, E123, _, nn125, to126, rfl, by omega, by omega, by omega, by omega, by omega, htk133, hRX134, hsc135.eq (rep_no hd0 h42) rfl rfl⟩) hP hS d_Rd_readRepetition_15
set_option maxHeartbeats 4000000 in
set_option maxRecDepth 100000 in
theorem m_Rd_readSequence_1X (l : Launch) {D : va_G} {cy : Nat → ClassId} {sz n : Nat} {ad : Nat → Nat} {mem : Nat → va_E} {Z a R Ec lim : Nat} {f T : Nat → Int32} {to : Nat → Int32} {nm : Nat → Int64} {m0 : Nat → va_E} {u : Nat} {A : Ro} (hlt : l.stackTraces = false) (hn : 224 ≤ n) (hT : TX cy ad Z f m0) (hf : ∀ k, k < Z → f k = T k) (hRX : RX cy ad lim a R Ec to nm m0 mem) (haB : a ≤ 300) (haZ : a ≤ Z) : NXr l D cy sz n ad y_Rd_readSequence c_Rd_readSequence 5 (some (.object "AbnfChart$Element")) ({ frames := 48, cells := 1, slots := 6, locals := 1162 } : Room) mem [.ref (ad 222), .int (1)] (fun r mem' => ∃ (k' a' R' E' : Nat) (A' : Ro) (nm' : Nat → Int64) (to' : Nat → Int32), r = ad (20 + 2 * k') ∧ Ec ≤ k' ∧ k' < E' ∧ R ≤ R' ∧ a < a' ∧ a' ≤ Z ∧ TOK R R' to to' ∧ RX cy ad lim (gapF T Z a') R' E' to' nm' m0 mem' ∧ Suc T Z (seqS T Z a u R Ec 1 A nm) 1 R (A 235) (A 227) a' R' E' A' nm' ∧ ¬ (bgF (hereF Z T (gapF T Z a')) = true ∧ a' < gapF T Z a')) (fun X mem' => ((X = cIA ∨ X = cIS) ∧ ∃ rc' ec' : Nat, RS cy ad lim rc' ec' m0 mem') ∧ (Fai T Z (seqS T Z a u R Ec 1 A nm))) := by
  refine vx_ofW (cc := c_Rd_readSequence) (maxL := 5) (ret := (some (.object "AbnfChart$Element"))) (by decide) rfl ?_
  intro p e s m args below meth c s₁ B hml hno hv
  obtain ⟨rfl, E, hP, hD⟩ := hv
  have hx := B.exec
  have hb := B.bytes
  have hr := B.returns
  have hlocks := B.notSynchronized
  have Bx : MB p s m [.ref (ad 222), .int (1)].toArray c c_Rd_readSequence "AbnfChart$Reader" D cy := ⟨hx, hb, tb_all (atoms_spec B.pre) E.2.1, findClass_of_methodNamed B.named, E.1⟩
  have hS : va_S (Az sz) s.heap s.heap [] := va_S.rf
  have hl := lv_entry ([.ref (ad 222), .int (1)]) (n := 5) (Nat.le_of_ble_eq_true rfl)
  rw [lg_entry_eq]
  generalize (lg_sl ([.ref (ad 222), .int (1)]) ++ List.replicate (5 - (lg_sl ([.ref (ad 222), .int (1)])).length) Slot.unset).toArray = ls at hl ⊢
  have hl : lv_has ls 5 [(0, .ref (ad 222)), (1, .int (1))] := hl
  have hZ9 := hT.2.1
  have hbd9 := hRX.1.1.1
  obtain ⟨ft1, h9_2⟩ := hRX.2.1
  have h1_3 : mem 1 = .inr (0, [.ref (ad 2), .int (nI Z)]) := (hRX.1.2.2 1 (by omega)).trans hT.1
  have h2_4 : mem 2 = .inl (cy 0, 240, .inl f) := (hRX.1.2.2 2 (by omega)).trans hT.2.2
  have h5_5 := hRX.1.1.2.1
  have hbd11 := hRX.1.1.1
  obtain ⟨S6, g7, hS_8, h220_9, h221_10⟩ := hRX.1.1.2.2.2.2.2.2
  refine lv_aload_n Bx.1 Bx.2.1 d_Rd_readSequence_0 rfl (lv_at hl 0 rfl) ?_
  refine lv_iconst (v := 1) Bx.1 Bx.2.1 d_Rd_readSequence_1 (by decide) ?_
  refine f_xVr (na := 1) (As := [.int (1)]) (rest := []) Bx hml E hP hD hS (by omega) h9_2 rfl (m_Rd_beginRowX l hlt hn hT hf hRX (by omega)) kw_409 kw_411 sel_Rd_beginRow kw_6 kw_412 (by decide +kernel) ⟨rfl, rfl⟩ ⟨Nat.le_of_ble_eq_true rfl, Nat.le_of_ble_eq_true rfl⟩ rfl hl.1 (Nat.le_of_ble_eq_true rfl) d_Rd_readSequence_2 ⟨Nat.le_of_ble_eq_true rfl, Nat.le_of_ble_eq_true rfl⟩ (fun X ce q9 memx H locs hx9 hP hS g1 g2 g3 => f_out hlocks hno hP hS g1 g2 g3 ⟨Nat.le_of_ble_eq_true rfl, Nat.le_of_ble_eq_true rfl⟩ ⟨hx9.1, Or.inl (seq_no hx9.2)⟩) (fun r12 mem13 H locs hq hP hS => ?_)
  have hD : va_D (Az sz) (fw n ad mem13) := fw_D hD
  obtain ⟨hbg, hE9, hr9, hRXb⟩ := hq
  subst hr9
  obtain ⟨ft14, h9_15⟩ := hRXb.2.1
  have h1_16 : mem13 1 = .inr (0, [.ref (ad 2), .int (nI Z)]) := (hRXb.1.2.2 1 (by omega)).trans hT.1
  have h2_17 : mem13 2 = .inl (cy 0, 240, .inl f) := (hRXb.1.2.2 2 (by omega)).trans hT.2.2
  have h5_18 := hRXb.1.1.2.1
  have hbd24 := hRXb.1.1.1
  obtain ⟨S19, g20, hS_21, h220_22, h221_23⟩ := hRXb.1.1.2.2.2.2.2.2
  obtain ⟨k25, lo26, hi27, as28, pa29, ne30, he_31, ho_32⟩ := (hRXb.1.1.2.2.2.2.2.1 Ec (by omega)).1
  refine lv_astore_n (lv' := [(2, .ref (ad (20 + 2 * Ec))), (0, .ref (ad 222)), (1, .int (1))]) Bx.1 Bx.2.1 d_Rd_readSequence_5 rfl hl (by decide) rfl (fun ls hl => ?_)
  refine lv_aload_n Bx.1 Bx.2.1 d_Rd_readSequence_6 rfl (lv_at hl 1 rfl) ?_
  refine lv_iload_n Bx.1 Bx.2.1 d_Rd_readSequence_7 rfl (lv_at hl 2 rfl) ?_
  refine f_xVr (na := 1) (As := [.int (1)]) (rest := []) Bx hml E hP hD hS (by omega) h9_15 rfl (m_Rd_readRepetition_1X l hlt hn hT hf hRXb (by omega) (u := u) (A := seqA A 1 Ec) (by omega) hbg) kw_439 kw_441 sel_Rd_readRepetition kw_6 kw_442 (by decide +kernel) ⟨rfl, rfl⟩ ⟨Nat.le_of_ble_eq_true rfl, Nat.le_of_ble_eq_true rfl⟩ rfl hl.1 (Nat.le_of_ble_eq_true rfl) d_Rd_readSequence_8 ⟨Nat.le_of_ble_eq_true rfl, Nat.le_of_ble_eq_true rfl⟩ (fun X ce q9 memx H locs hx9 hP hS g1 g2 g3 => f_out hlocks hno hP hS g1 g2 g3 ⟨Nat.le_of_ble_eq_true rfl, Nat.le_of_ble_eq_true rfl⟩ ⟨hx9.1, hx9.2.eq (seq_ok hbg hE9)⟩) (fun r33 mem34 H locs hq hP hS => ?_)
  have hD : va_D (Az sz) (fw n ad mem34) := fw_D hD
  obtain ⟨kx35, a36, R37, E38, A39, nn40, to41, hr942, hb43, hb44, hb45, hb46, hb47, htk48, hRX49, hsc50⟩ := hq
  subst hr942
  obtain ⟨ft51, h9_52⟩ := hRX49.2.1
  have h1_53 : mem34 1 = .inr (0, [.ref (ad 2), .int (nI Z)]) := (hRX49.1.2.2 1 (by omega)).trans hT.1
  have h2_54 : mem34 2 = .inl (cy 0, 240, .inl f) := (hRX49.1.2.2 2 (by omega)).trans hT.2.2
  have h5_55 := hRX49.1.1.2.1
  have hbd61 := hRX49.1.1.1
  obtain ⟨S56, g57, hS_58, h220_59, h221_60⟩ := hRX49.1.1.2.2.2.2.2.2
  obtain ⟨k62, lo63, hi64, as65, pa66, ne67, he_68, ho_69⟩ := (hRX49.1.1.2.2.2.2.2.1 Ec (by omega)).1
  obtain ⟨k70, lo71, hi72, as73, pa74, ne75, he_76, ho_77⟩ := (hRX49.1.1.2.2.2.2.2.1 kx35 (by omega)).1
  have hbd78 := hRX49.1.1.1
  refine lv_astore_n (lv' := [(3, .ref (ad (20 + 2 * kx35))), (2, .ref (ad (20 + 2 * Ec))), (0, .ref (ad 222)), (1, .int (1))]) Bx.1 Bx.2.1 d_Rd_readSequence_11 rfl hl (by decide) rfl (fun ls hl => ?_)
  refine lv_aload_n Bx.1 Bx.2.1 d_Rd_readSequence_12 rfl (lv_at hl 1 rfl) ?_
  refine lv_aload_n Bx.1 Bx.2.1 d_Rd_readSequence_13 rfl (lv_at hl 0 rfl) ?_
  refine f_putN Bx hP hD hS (by omega) he_68 rfl inEl tyEl okEl nmEl 4 (by decide) kw_87 rfl rfl rfl rfl (Nat.le_of_ble_eq_true rfl) d_Rd_readSequence_14 (fun H locs hP hS => ?_)
  obtain ⟨mem79, e_mem79⟩ : ∃ z, z = va_up mem34 ((20 + 2 * Ec)) (.inr (2, [.int (k62), .int (lo63), .int (hi64), as65, .ref (ad (20 + 2 * kx35)), ne67, .ref (ad (21 + 2 * Ec))])) := ⟨_, rfl⟩
  have hP : va_P D vcl (fw n ad mem79) H := by rw [e_mem79]; exact hP
  have hD : va_D (Az sz) (fw n ad mem79) := fw_D hD
  have h_mem79 : mem79 ((20 + 2 * Ec)) = .inr (2, [.int (k62), .int (lo63), .int (hi64), as65, .ref (ad (20 + 2 * kx35)), ne67, .ref (ad (21 + 2 * Ec))]) := by rw [e_mem79, va_up_self]
  have hh80 := (va_up_ne mem34 (.inr (2, [.int (k62), .int (lo63), .int (hi64), as65, .ref (ad (20 + 2 * kx35)), ne67, .ref (ad (21 + 2 * Ec))])) (show (222 : Nat) ≠ (20 + 2 * Ec) by first | decide | assumption | omega)).trans h9_52
  rw [← e_mem79] at hh80
  have hh81 := (va_up_ne mem34 (.inr (2, [.int (k62), .int (lo63), .int (hi64), as65, .ref (ad (20 + 2 * kx35)), ne67, .ref (ad (21 + 2 * Ec))])) (show (1 : Nat) ≠ (20 + 2 * Ec) by first | decide | assumption | omega)).trans h1_53
  rw [← e_mem79] at hh81
  have hh82 := (va_up_ne mem34 (.inr (2, [.int (k62), .int (lo63), .int (hi64), as65, .ref (ad (20 + 2 * kx35)), ne67, .ref (ad (21 + 2 * Ec))])) (show (5 : Nat) ≠ (20 + 2 * Ec) by first | decide | assumption | omega)).trans h5_55
  rw [← e_mem79] at hh82
  have hh83 := (va_up_ne mem34 (.inr (2, [.int (k62), .int (lo63), .int (hi64), as65, .ref (ad (20 + 2 * kx35)), ne67, .ref (ad (21 + 2 * Ec))])) (show (220 : Nat) ≠ (20 + 2 * Ec) by first | decide | assumption | omega)).trans h220_59
  rw [← e_mem79] at hh83
  have hh84 := (va_up_ne mem34 (.inr (2, [.int (k62), .int (lo63), .int (hi64), as65, .ref (ad (20 + 2 * kx35)), ne67, .ref (ad (21 + 2 * Ec))])) (show ((20 + 2 * kx35) : Nat) ≠ (20 + 2 * Ec) by first | decide | assumption | omega)).trans he_76
  rw [← e_mem79] at hh84
  have hRX85 : RX cy ad lim (a36) (R37) (E38) (to41) (nn40) m0 mem79 := by rw [e_mem79]; exact hRX49.el (by omega) (hRX49.1.mk (by omega) (hRX49.1.1.upEl (by omega) (fun q9 => ⟨(ho_69 q9).1, Or.inr ⟨kx35, by omega, by omega, rfl⟩, (ho_69 q9).2.2⟩)))
  refine lv_iconst (v := 0) Bx.1 Bx.2.1 d_Rd_readSequence_17 (by decide) ?_
  refine lv_istore (lv' := [(4, .int (0)), (3, .ref (ad (20 + 2 * kx35))), (2, .ref (ad (20 + 2 * Ec))), (0, .ref (ad 222)), (1, .int (1))]) Bx.1 Bx.2.1 d_Rd_readSequence_18 hl (by decide) rfl (fun ls hl => ?_)
  have hsuc0 := hsc50.eq (seq_ok hbg hE9) (seqA_ne (by decide) (by decide)) (seqA_ne (by decide) (by decide))
  have loop86 : ∀ (d87 : Nat) (mem9 : Nat → va_E) (a1 : Nat) (R1 : Nat) (E1 : Nat) (A1 : Ro) (n1 : Nat → Int64) (to1 : Nat → Int32) (la : Nat) (k9 : Nat) (ls : Array Slot) (H : Heap) (locs : List Loc), (240 - k9 < d87) → (RX cy ad lim a1 R1 E1 to1 n1 m0 mem9) → (a < a1 ∧ a1 ≤ Z ∧ R ≤ R1 ∧ Ec < la ∧ la < E1 ∧ k9 < a1 ∧ k9 ≤ 240 ∧ Ec < E1) → (Suc T Z (seqS T Z a u R Ec 1 A nm) 1 R (A 235) (A 227) a1 R1 E1 A1 n1) → (TOK R R1 to to1) → (va_P D vcl (fw n ad mem9) H) → (va_D (Az sz) (fw n ad mem9)) → (va_S (Az sz) s.heap H locs) → (lv_has ls 5 [(4, .int (nI k9)), (3, .ref (ad (20 + 2 * la))), (2, .ref (ad (20 + 2 * Ec))), (0, .ref (ad 222)), (1, .int (1))]) → W p l e (headSpec (Cond.code y_Rd_readSequence c_Rd_readSequence 5 (some (.object "AbnfChart$Element")) :: tg) ({ frames := 48, cells := 1, slots := 6, locals := 1162 } : Room)).room s m [.ref (ad 222), .int (1)].toArray below meth c H locs 0 0 (vx_MQ below (QX (QR (fun r mem' => ∃ (k' a' R' E' : Nat) (A' : Ro) (nm' : Nat → Int64) (to' : Nat → Int32), r = ad (20 + 2 * k') ∧ Ec ≤ k' ∧ k' < E' ∧ R ≤ R' ∧ a < a' ∧ a' ≤ Z ∧ TOK R R' to to' ∧ RX cy ad lim (gapF T Z a') R' E' to' nm' m0 mem' ∧ Suc T Z (seqS T Z a u R Ec 1 A nm) 1 R (A 235) (A 227) a' R' E' A' nm' ∧ ¬ (bgF (hereF Z T (gapF T Z a')) = true ∧ a' < gapF T Z a')) (PP D n ad) (Az sz))) (XQ D sz n ad (fun X mem' => ((X = cIA ∨ X = cIS) ∧ ∃ rc' ec' : Nat, RS cy ad lim rc' ec' m0 mem') ∧ (Fai T Z (seqS T Z a u R Ec 1 A nm)))) [.ref (ad 222), .int (1)].toArray s 1 6 (Az sz)) (F0 m 20 ls []) := by
    intro d87
    induction d87 with
    | zero => intro mem9 a1 R1 E1 A1 n1 to1 la k9 ls H locs hmeas93; exact absurd hmeas93 (Nat.not_lt_zero _)
    | succ d87 ih92 =>
      intro mem9 a1 R1 E1 A1 n1 to1 la k9 ls H locs hmeas93 hz88 hz89 hz90 hz91 hP hD hS hl
      have hbd8 := hz89
      obtain ⟨ft94, h9_95⟩ := hz88.2.1
      have h1_96 : mem9 1 = .inr (0, [.ref (ad 2), .int (nI Z)]) := (hz88.1.2.2 1 (by omega)).trans hT.1
      have h2_97 : mem9 2 = .inl (cy 0, 240, .inl f) := (hz88.1.2.2 2 (by omega)).trans hT.2.2
      have h5_98 := hz88.1.1.2.1
      have hbd104 := hz88.1.1.1
      obtain ⟨S99, g100, hS_101, h220_102, h221_103⟩ := hz88.1.1.2.2.2.2.2.2
      obtain ⟨k105, lo106, hi107, as108, pa109, ne110, he_111, ho_112⟩ := (hz88.1.1.2.2.2.2.2.1 la (by omega)).1
      obtain ⟨c1, u1, ho, hg, hk9, hs9⟩ := id hz90
      refine lv_iload Bx.1 Bx.2.1 d_Rd_readSequence_20 (lv_at hl 0 rfl) ?_
      refine lv_sipush (v := 240) Bx.1 Bx.2.1 d_Rd_readSequence_22 (by decide) ?_
      refine lv_icmp_ge Bx.1 Bx.2.1 d_Rd_readSequence_25 rfl (fun hb113 => ?_) (fun hb113 => ?_)
      · have hN114 : 240 ≤ k9 := (nI_leI (by omega) (by omega)).mp (show nI (240) ≤ nI (k9) from hb113)
        exact absurd hbd8 (by omega)
      · have hN115 : ¬ 240 ≤ k9 := fun q9 => hb113 (show nI (240) ≤ nI (k9) from (nI_leI (by omega) (by omega)).mpr q9)
        refine lv_aload_n Bx.1 Bx.2.1 d_Rd_readSequence_28 rfl (lv_at hl 3 rfl) ?_
        refine f_callVi (na := 0) (As := []) (rest := []) Bx hml E hP hD hS (by omega) h9_95 rfl (m_Rd_readGapX l hn hT hf hz88 (by omega) (by omega)) kw_397 kw_399 sel_Rd_readGap kw_6 kw_400 (by decide +kernel) ⟨rfl, rfl⟩ ⟨Nat.le_of_ble_eq_true rfl, Nat.le_of_ble_eq_true rfl⟩ rfl hl.1 (Nat.le_of_ble_eq_true rfl) d_Rd_readSequence_29 ⟨Nat.le_of_ble_eq_true rfl, Nat.le_of_ble_eq_true rfl⟩ (fun r116 mem117 H locs hq hP hS => ?_)
        have hD : va_D (Az sz) (fw n ad mem117) := fw_D hD
        obtain ⟨g118, eg119⟩ : ∃ z, z = gapF T Z (a1) := ⟨_, rfl⟩
        rw [← eg119] at hq
        obtain ⟨hRX120, hgc121⟩ := hq
        have hg122 : a1 ≤ g118 := by rw [eg119]; exact gapF_ge T Z _
        have hg123 : g118 ≤ Z := by rw [eg119]; exact gapF_le T (by omega)
        obtain ⟨ft124, h9_125⟩ := hRX120.2.1
        have h1_126 : mem117 1 = .inr (0, [.ref (ad 2), .int (nI Z)]) := (hRX120.1.2.2 1 (by omega)).trans hT.1
        have h2_127 : mem117 2 = .inl (cy 0, 240, .inl f) := (hRX120.1.2.2 2 (by omega)).trans hT.2.2
        have h5_128 := hRX120.1.1.2.1
        have hbd134 := hRX120.1.1.1
        obtain ⟨S129, g130, hS_131, h220_132, h221_133⟩ := hRX120.1.1.2.2.2.2.2.2
        obtain ⟨k135, lo136, hi137, as138, pa139, ne140, he_141, ho_142⟩ := (hRX120.1.1.2.2.2.2.2.1 la (by omega)).1
        rcases hgc121 with ⟨hr143, hga144⟩ | ⟨hr143, hga144⟩
        · subst hr143
          refine lv_if_eq Bx.1 Bx.2.1 d_Rd_readSequence_32 rfl (fun hb145 => ?_) (fun hb145 => ?_)
          · exact absurd hb145 (by decide)
          · refine lv_aload_n Bx.1 Bx.2.1 d_Rd_readSequence_35 rfl (lv_at hl 3 rfl) ?_
            refine f_callVi (na := 0) (As := []) (rest := []) Bx hml E hP hD hS (by omega) h9_125 rfl (m_Rd_peekX l hn hT hf hRX120 (by omega)) kw_353 kw_355 sel_Rd_peek kw_6 kw_356 (by decide +kernel) ⟨rfl, rfl⟩ ⟨Nat.le_of_ble_eq_true rfl, Nat.le_of_ble_eq_true rfl⟩ rfl hl.1 (Nat.le_of_ble_eq_true rfl) d_Rd_readSequence_36 ⟨Nat.le_of_ble_eq_true rfl, Nat.le_of_ble_eq_true rfl⟩ (fun r147 mem148 H locs hq hP hS => ?_)
            have hD : va_D (Az sz) (fw n ad mem148) := fw_D hD
            obtain ⟨hqe, hpk146⟩ := hq
            rw [hqe] at hP hD
            subst hpk146
            refine f_callSi (na := 1) (As := [.int (hereF Z T (g118))]) (rest := []) Bx hml E.2.1 (m_Rd_beginsRepetitionX l (hereF Z T (g118))) kw_413 kw_414 kw_6 kw_415 (by decide +kernel) ⟨rfl, rfl⟩ ⟨Nat.le_of_ble_eq_true rfl, Nat.le_of_ble_eq_true rfl⟩ rfl hl.1 (Nat.le_of_ble_eq_true rfl) d_Rd_readSequence_39 ⟨Nat.le_of_ble_eq_true rfl, Nat.le_of_ble_eq_true rfl⟩ (fun r151 hs150 => ?_)
            subst hs150
            refine lv_if_eq Bx.1 Bx.2.1 d_Rd_readSequence_42 rfl (fun hb152 => ?_) (fun hb152 => ?_)
            · refine lv_aload_n Bx.1 Bx.2.1 d_Rd_readSequence_65 rfl (lv_at hl 2 rfl) ?_
              exact x_aret hx hb hlocks hr (⟨Ec, a1, R1, E1, A1, n1, to1, rfl, by omega, by omega, by omega, by omega, by omega, hz91, by rw [← eg119]; exact hRX120, hz90, fun z => by have q9 := z.1; rw [← eg119, bg_0 hb152] at q9; exact absurd q9 (by decide)⟩) hP hS d_Rd_readSequence_66
            · have hbg2 : bgF (hereF Z T (gapF T Z a1)) = true := by rw [← eg119]; exact bg_1 hb152
              have hgt2 : a1 < gapF T Z a1 := by rw [← eg119]; omega
              refine lv_aload_n Bx.1 Bx.2.1 d_Rd_readSequence_45 rfl (lv_at hl 1 rfl) ?_
              refine lv_aload_n Bx.1 Bx.2.1 d_Rd_readSequence_46 rfl (lv_at hl 3 rfl) ?_
              refine lv_iload_n Bx.1 Bx.2.1 d_Rd_readSequence_47 rfl (lv_at hl 4 rfl) ?_
              refine f_xVr (na := 1) (As := [.int (1)]) (rest := [.ref (ad (20 + 2 * la))]) Bx hml E hP hD hS (by omega) h9_125 rfl (m_Rd_readRepetition_1X l hlt hn hT hf hRX120 (by omega) (u := u1) (A := A1) (by omega) (by rw [eg119]; exact hbg2)) kw_439 kw_441 sel_Rd_readRepetition kw_6 kw_442 (by decide +kernel) ⟨rfl, rfl⟩ ⟨Nat.le_of_ble_eq_true rfl, Nat.le_of_ble_eq_true rfl⟩ rfl hl.1 (Nat.le_of_ble_eq_true rfl) d_Rd_readSequence_48 ⟨Nat.le_of_ble_eq_true rfl, Nat.le_of_ble_eq_true rfl⟩ (fun X ce q9 memx H locs hx9 hP hS g1 g2 g3 => f_out hlocks hno hP hS g1 g2 g3 ⟨Nat.le_of_ble_eq_true rfl, Nat.le_of_ble_eq_true rfl⟩ ⟨hx9.1, Fai.go ho hg (go_rept hbg2 hgt2) (by rw [← eg119]; exact hx9.2)⟩) (fun r153 mem154 H locs hq hP hS => ?_)
              have hD : va_D (Az sz) (fw n ad mem154) := fw_D hD
              obtain ⟨kx155, a156, R157, E158, A159, nn160, to161, hr9162, hb163, hb164, hb165, hb166, hb167, htk168, hRX169, hsc170⟩ := hq
              subst hr9162
              obtain ⟨ft171, h9_172⟩ := hRX169.2.1
              have h1_173 : mem154 1 = .inr (0, [.ref (ad 2), .int (nI Z)]) := (hRX169.1.2.2 1 (by omega)).trans hT.1
              have h2_174 : mem154 2 = .inl (cy 0, 240, .inl f) := (hRX169.1.2.2 2 (by omega)).trans hT.2.2
              have h5_175 := hRX169.1.1.2.1
              have hbd181 := hRX169.1.1.1
              obtain ⟨S176, g177, hS_178, h220_179, h221_180⟩ := hRX169.1.1.2.2.2.2.2.2
              obtain ⟨k182, lo183, hi184, as185, pa186, ne187, he_188, ho_189⟩ := (hRX169.1.1.2.2.2.2.2.1 la (by omega)).1
              obtain ⟨k190, lo191, hi192, as193, pa194, ne195, he_196, ho_197⟩ := (hRX169.1.1.2.2.2.2.2.1 kx155 (by omega)).1
              have hbd198 := hRX169.1.1.1
              have hsuc3 := Suc.go ho hg hk9 hs9 (by omega) (go_rept hbg2 hgt2) (by rw [← eg119]; exact hsc170)
              have htk3 := hz91.trans htk168 (by omega)
              refine f_putN Bx hP hD hS (by omega) he_188 rfl inEl tyEl okEl nmEl 5 (by decide) kw_91 rfl rfl rfl rfl (Nat.le_of_ble_eq_true rfl) d_Rd_readSequence_51 (fun H locs hP hS => ?_)
              obtain ⟨mem199, e_mem199⟩ : ∃ z, z = va_up mem154 ((20 + 2 * la)) (.inr (2, [.int (k182), .int (lo183), .int (hi184), as185, pa186, .ref (ad (20 + 2 * kx155)), .ref (ad (21 + 2 * la))])) := ⟨_, rfl⟩
              have hP : va_P D vcl (fw n ad mem199) H := by rw [e_mem199]; exact hP
              have hD : va_D (Az sz) (fw n ad mem199) := fw_D hD
              have h_mem199 : mem199 ((20 + 2 * la)) = .inr (2, [.int (k182), .int (lo183), .int (hi184), as185, pa186, .ref (ad (20 + 2 * kx155)), .ref (ad (21 + 2 * la))]) := by rw [e_mem199, va_up_self]
              have hh200 := (va_up_ne mem154 (.inr (2, [.int (k182), .int (lo183), .int (hi184), as185, pa186, .ref (ad (20 + 2 * kx155)), .ref (ad (21 + 2 * la))])) (show (222 : Nat) ≠ (20 + 2 * la) by first | decide | assumption | omega)).trans h9_172
              rw [← e_mem199] at hh200
              have hh201 := (va_up_ne mem154 (.inr (2, [.int (k182), .int (lo183), .int (hi184), as185, pa186, .ref (ad (20 + 2 * kx155)), .ref (ad (21 + 2 * la))])) (show (1 : Nat) ≠ (20 + 2 * la) by first | decide | assumption | omega)).trans h1_173
              rw [← e_mem199] at hh201
              have hh202 := (va_up_ne mem154 (.inr (2, [.int (k182), .int (lo183), .int (hi184), as185, pa186, .ref (ad (20 + 2 * kx155)), .ref (ad (21 + 2 * la))])) (show (5 : Nat) ≠ (20 + 2 * la) by first | decide | assumption | omega)).trans h5_175
              rw [← e_mem199] at hh202
              have hh203 := (va_up_ne mem154 (.inr (2, [.int (k182), .int (lo183), .int (hi184), as185, pa186, .ref (ad (20 + 2 * kx155)), .ref (ad (21 + 2 * la))])) (show (220 : Nat) ≠ (20 + 2 * la) by first | decide | assumption | omega)).trans h220_179
              rw [← e_mem199] at hh203
              have hh204 := (va_up_ne mem154 (.inr (2, [.int (k182), .int (lo183), .int (hi184), as185, pa186, .ref (ad (20 + 2 * kx155)), .ref (ad (21 + 2 * la))])) (show ((20 + 2 * kx155) : Nat) ≠ (20 + 2 * la) by first | decide | assumption | omega)).trans he_196
              rw [← e_mem199] at hh204
              have hRX205 : RX cy ad lim (a156) (R157) (E158) (to161) (nn160) m0 mem199 := by rw [e_mem199]; exact hRX169.el (by omega) (hRX169.1.mk (by omega) (hRX169.1.1.upEl (by omega) (fun q9 => ⟨(ho_189 q9).1, (ho_189 q9).2.1, Or.inr ⟨kx155, by omega, by omega, rfl⟩⟩)))
              refine lv_aload_n Bx.1 Bx.2.1 d_Rd_readSequence_54 rfl (lv_at hl 1 rfl) ?_
              refine f_getN Bx hP (by omega) h_mem199 rfl inEl 5 (by decide) kw_91 rfl rfl d_Rd_readSequence_55 ?_
              refine lv_astore_n (lv' := [(3, .ref (ad (20 + 2 * kx155))), (4, .int (nI k9)), (2, .ref (ad (20 + 2 * Ec))), (0, .ref (ad 222)), (1, .int (1))]) Bx.1 Bx.2.1 d_Rd_readSequence_58 rfl hl (by decide) rfl (fun ls hl => ?_)
              refine lv_iinc (lv' := [(4, .int ((nI k9 + (1)))), (3, .ref (ad (20 + 2 * kx155))), (2, .ref (ad (20 + 2 * Ec))), (0, .ref (ad 222)), (1, .int (1))]) Bx.1 Bx.2.1 d_Rd_readSequence_59 hl (k := 1) rfl rfl (by decide) rfl (fun ls hl => ?_)
              rw [show (nI k9 + (1) : Int32) = nI (k9 + 1) from nI_1 (k9)] at hl
              refine lv_goto Bx.1 Bx.2.1 d_Rd_readSequence_62 rfl ?_
              exact ih92 mem199 (a156) (R157) (E158) (A159) (nn160) (to161) (kx155) (k9 + 1) _ _ _ (by have := hmeas93; omega) (hRX205) (⟨by omega, by omega, by omega, by omega, by omega, by omega, by omega, by omega⟩) (hsuc3) (htk3) hP hD hS (lv_sub hl [0, 1, 2, 3, 4] rfl)
        · subst hr143
          refine lv_if_eq Bx.1 Bx.2.1 d_Rd_readSequence_32 rfl (fun hb206 => ?_) (fun hb206 => ?_)
          · refine lv_aload_n Bx.1 Bx.2.1 d_Rd_readSequence_65 rfl (lv_at hl 2 rfl) ?_
            exact x_aret hx hb hlocks hr (⟨Ec, a1, R1, E1, A1, n1, to1, rfl, by omega, by omega, by omega, by omega, by omega, hz91, by rw [← eg119]; exact hRX120, hz90, fun z => by have := z.2; rw [← eg119] at this; omega⟩) hP hS d_Rd_readSequence_66
          · exact absurd hb206 (by decide)
  exact loop86 _ mem79 (a36) (R37) (E38) (A39) (nn40) (to41) (kx35) (0) _ _ _ (Nat.lt_succ_self _) (hRX85) (⟨by omega, by omega, by omega, by omega, by omega, by omega, by omega, by omega⟩) (hsuc0) (htk48) hP hD hS (lv_sub hl [0, 1, 2, 3, 4] rfl)
set_option maxHeartbeats 4000000 in
set_option maxRecDepth 100000 in
theorem m_Rd_readAlternatives_1X (l : Launch) {D : va_G} {cy : Nat → ClassId} {sz n : Nat} {ad : Nat → Nat} {mem : Nat → va_E} {Z a R Ec lim : Nat} {f T : Nat → Int32} {to : Nat → Int32} {nm : Nat → Int64} {m0 : Nat → va_E} {u : Nat} {A : Ro} (hlt : l.stackTraces = false) (hn : 224 ≤ n) (hT : TX cy ad Z f m0) (hf : ∀ k, k < Z → f k = T k) (hRX : RX cy ad lim a R Ec to nm m0 mem) (haB : a ≤ 300) (haZ : a ≤ Z) : NXr l D cy sz n ad y_Rd_readAlternatives c_Rd_readAlternatives 5 (some (.object "AbnfChart$Element")) ({ frames := 49, cells := 1, slots := 6, locals := 1188 } : Room) mem [.ref (ad 222), .int (1)] (fun r mem' => ∃ (k' a' R' E' : Nat) (A' : Ro) (nm' : Nat → Int64) (to' : Nat → Int32), r = ad (20 + 2 * k') ∧ Ec ≤ k' ∧ k' < E' ∧ R ≤ R' ∧ a < a' ∧ a' ≤ Z ∧ TOK R R' to to' ∧ RX cy ad lim (gapF T Z a') R' E' to' nm' m0 mem' ∧ Suc T Z (seqS T Z a u R (Ec + 1) 1 A nm) 1 R (A 235) (A 227) a' R' E' A' nm' ∧ bgF (hereF Z T a) = true ∧ Ec < 100 ∧ ¬ hereF Z T (gapF T Z a') = 47 ∧ ¬ (bgF (hereF Z T (gapF T Z a')) = true ∧ a' < gapF T Z a')) (fun X mem' => ((X = cIA ∨ X = cIS) ∧ ∃ rc' ec' : Nat, RS cy ad lim rc' ec' m0 mem') ∧ (bgF (hereF Z T a) = false ∨ Ec = 100 ∨ (bgF (hereF Z T a) = true ∧ Ec < 100 ∧ Fai T Z (seqS T Z a u R (Ec + 1) 1 A nm)))) := by
  refine vx_ofW (cc := c_Rd_readAlternatives) (maxL := 5) (ret := (some (.object "AbnfChart$Element"))) (by decide) rfl ?_
  intro p e s m args below meth c s₁ B hml hno hv
  obtain ⟨rfl, E, hP, hD⟩ := hv
  have hx := B.exec
  have hb := B.bytes
  have hr := B.returns
  have hlocks := B.notSynchronized
  have Bx : MB p s m [.ref (ad 222), .int (1)].toArray c c_Rd_readAlternatives "AbnfChart$Reader" D cy := ⟨hx, hb, tb_all (atoms_spec B.pre) E.2.1, findClass_of_methodNamed B.named, E.1⟩
  have hS : va_S (Az sz) s.heap s.heap [] := va_S.rf
  have hl := lv_entry ([.ref (ad 222), .int (1)]) (n := 5) (Nat.le_of_ble_eq_true rfl)
  rw [lg_entry_eq]
  generalize (lg_sl ([.ref (ad 222), .int (1)]) ++ List.replicate (5 - (lg_sl ([.ref (ad 222), .int (1)])).length) Slot.unset).toArray = ls at hl ⊢
  have hl : lv_has ls 5 [(0, .ref (ad 222)), (1, .int (1))] := hl
  have hZ9 := hT.2.1
  have hbd9 := hRX.1.1.1
  obtain ⟨ft1, h9_2⟩ := hRX.2.1
  have h1_3 : mem 1 = .inr (0, [.ref (ad 2), .int (nI Z)]) := (hRX.1.2.2 1 (by omega)).trans hT.1
  have h2_4 : mem 2 = .inl (cy 0, 240, .inl f) := (hRX.1.2.2 2 (by omega)).trans hT.2.2
  have h5_5 := hRX.1.1.2.1
  have hbd11 := hRX.1.1.1
  obtain ⟨S6, g7, hS_8, h220_9, h221_10⟩ := hRX.1.1.2.2.2.2.2.2
  refine lv_aload_n Bx.1 Bx.2.1 d_Rd_readAlternatives_0 rfl (lv_at hl 0 rfl) ?_
  refine lv_iconst (v := 0) Bx.1 Bx.2.1 d_Rd_readAlternatives_1 (by decide) ?_
  refine f_xVr (na := 1) (As := [.int (0)]) (rest := []) Bx hml E hP hD hS (by omega) h9_2 rfl (m_Rd_beginRowX l hlt hn hT hf hRX (by omega)) kw_409 kw_411 sel_Rd_beginRow kw_6 kw_412 (by decide +kernel) ⟨rfl, rfl⟩ ⟨Nat.le_of_ble_eq_true rfl, Nat.le_of_ble_eq_true rfl⟩ rfl hl.1 (Nat.le_of_ble_eq_true rfl) d_Rd_readAlternatives_2 ⟨Nat.le_of_ble_eq_true rfl, Nat.le_of_ble_eq_true rfl⟩ (fun X ce q9 memx H locs hx9 hP hS g1 g2 g3 => f_out hlocks hno hP hS g1 g2 g3 ⟨Nat.le_of_ble_eq_true rfl, Nat.le_of_ble_eq_true rfl⟩ ⟨hx9.1, hx9.2.elim Or.inl (fun z => Or.inr (Or.inl z))⟩) (fun r12 mem13 H locs hq hP hS => ?_)
  have hD : va_D (Az sz) (fw n ad mem13) := fw_D hD
  obtain ⟨hbg, hE9, hr9, hRXb⟩ := hq
  subst hr9
  obtain ⟨ft14, h9_15⟩ := hRXb.2.1
  have h1_16 : mem13 1 = .inr (0, [.ref (ad 2), .int (nI Z)]) := (hRXb.1.2.2 1 (by omega)).trans hT.1
  have h2_17 : mem13 2 = .inl (cy 0, 240, .inl f) := (hRXb.1.2.2 2 (by omega)).trans hT.2.2
  have h5_18 := hRXb.1.1.2.1
  have hbd24 := hRXb.1.1.1
  obtain ⟨S19, g20, hS_21, h220_22, h221_23⟩ := hRXb.1.1.2.2.2.2.2.2
  obtain ⟨k25, lo26, hi27, as28, pa29, ne30, he_31, ho_32⟩ := (hRXb.1.1.2.2.2.2.2.1 Ec (by omega)).1
  refine lv_astore_n (lv' := [(2, .ref (ad (20 + 2 * Ec))), (0, .ref (ad 222)), (1, .int (1))]) Bx.1 Bx.2.1 d_Rd_readAlternatives_5 rfl hl (by decide) rfl (fun ls hl => ?_)
  refine lv_aload_n Bx.1 Bx.2.1 d_Rd_readAlternatives_6 rfl (lv_at hl 1 rfl) ?_
  refine lv_iload_n Bx.1 Bx.2.1 d_Rd_readAlternatives_7 rfl (lv_at hl 2 rfl) ?_
  refine f_xVr (na := 1) (As := [.int (1)]) (rest := []) Bx hml E hP hD hS (by omega) h9_15 rfl (m_Rd_readSequence_1X l hlt hn hT hf hRXb (by omega) (u := u) (A := A) (by omega)) kw_435 kw_437 sel_Rd_readSequence kw_6 kw_438 (by decide +kernel) ⟨rfl, rfl⟩ ⟨Nat.le_of_ble_eq_true rfl, Nat.le_of_ble_eq_true rfl⟩ rfl hl.1 (Nat.le_of_ble_eq_true rfl) d_Rd_readAlternatives_8 ⟨Nat.le_of_ble_eq_true rfl, Nat.le_of_ble_eq_true rfl⟩ (fun X ce q9 memx H locs hx9 hP hS g1 g2 g3 => f_out hlocks hno hP hS g1 g2 g3 ⟨Nat.le_of_ble_eq_true rfl, Nat.le_of_ble_eq_true rfl⟩ ⟨hx9.1, Or.inr (Or.inr ⟨hbg, hE9, hx9.2⟩)⟩) (fun r33 mem34 H locs hq hP hS => ?_)
  have hD : va_D (Az sz) (fw n ad mem34) := fw_D hD
  obtain ⟨kx35, a36, R37, E38, A39, nn40, to41, hr942, hb43, hb44, hb45, hb46, hb47, htk48, hRX49, hsc50, hnb51⟩ := hq
  subst hr942
  obtain ⟨g52, eg53⟩ : ∃ z, z = gapF T Z a36 := ⟨_, rfl⟩
  have hg54 : a36 ≤ g52 := by rw [eg53]; exact gapF_ge T Z _
  have hg55 : g52 ≤ Z := by rw [eg53]; exact gapF_le T (by omega)
  rw [← eg53] at hRX49
  obtain ⟨ft56, h9_57⟩ := hRX49.2.1
  have h1_58 : mem34 1 = .inr (0, [.ref (ad 2), .int (nI Z)]) := (hRX49.1.2.2 1 (by omega)).trans hT.1
  have h2_59 : mem34 2 = .inl (cy 0, 240, .inl f) := (hRX49.1.2.2 2 (by omega)).trans hT.2.2
  have h5_60 := hRX49.1.1.2.1
  have hbd66 := hRX49.1.1.1
  obtain ⟨S61, g62, hS_63, h220_64, h221_65⟩ := hRX49.1.1.2.2.2.2.2.2
  obtain ⟨k67, lo68, hi69, as70, pa71, ne72, he_73, ho_74⟩ := (hRX49.1.1.2.2.2.2.2.1 Ec (by omega)).1
  obtain ⟨k75, lo76, hi77, as78, pa79, ne80, he_81, ho_82⟩ := (hRX49.1.1.2.2.2.2.2.1 kx35 (by omega)).1
  have hbd83 := hRX49.1.1.1
  refine lv_astore_n (lv' := [(3, .ref (ad (20 + 2 * kx35))), (2, .ref (ad (20 + 2 * Ec))), (0, .ref (ad 222)), (1, .int (1))]) Bx.1 Bx.2.1 d_Rd_readAlternatives_11 rfl hl (by decide) rfl (fun ls hl => ?_)
  refine lv_aload_n Bx.1 Bx.2.1 d_Rd_readAlternatives_12 rfl (lv_at hl 1 rfl) ?_
  refine lv_aload_n Bx.1 Bx.2.1 d_Rd_readAlternatives_13 rfl (lv_at hl 0 rfl) ?_
  refine f_putN Bx hP hD hS (by omega) he_73 rfl inEl tyEl okEl nmEl 4 (by decide) kw_87 rfl rfl rfl rfl (Nat.le_of_ble_eq_true rfl) d_Rd_readAlternatives_14 (fun H locs hP hS => ?_)
  obtain ⟨mem84, e_mem84⟩ : ∃ z, z = va_up mem34 ((20 + 2 * Ec)) (.inr (2, [.int (k67), .int (lo68), .int (hi69), as70, .ref (ad (20 + 2 * kx35)), ne72, .ref (ad (21 + 2 * Ec))])) := ⟨_, rfl⟩
  have hP : va_P D vcl (fw n ad mem84) H := by rw [e_mem84]; exact hP
  have hD : va_D (Az sz) (fw n ad mem84) := fw_D hD
  have h_mem84 : mem84 ((20 + 2 * Ec)) = .inr (2, [.int (k67), .int (lo68), .int (hi69), as70, .ref (ad (20 + 2 * kx35)), ne72, .ref (ad (21 + 2 * Ec))]) := by rw [e_mem84, va_up_self]
  have hh85 := (va_up_ne mem34 (.inr (2, [.int (k67), .int (lo68), .int (hi69), as70, .ref (ad (20 + 2 * kx35)), ne72, .ref (ad (21 + 2 * Ec))])) (show (222 : Nat) ≠ (20 + 2 * Ec) by first | decide | assumption | omega)).trans h9_57
  rw [← e_mem84] at hh85
  have hh86 := (va_up_ne mem34 (.inr (2, [.int (k67), .int (lo68), .int (hi69), as70, .ref (ad (20 + 2 * kx35)), ne72, .ref (ad (21 + 2 * Ec))])) (show (1 : Nat) ≠ (20 + 2 * Ec) by first | decide | assumption | omega)).trans h1_58
  rw [← e_mem84] at hh86
  have hh87 := (va_up_ne mem34 (.inr (2, [.int (k67), .int (lo68), .int (hi69), as70, .ref (ad (20 + 2 * kx35)), ne72, .ref (ad (21 + 2 * Ec))])) (show (5 : Nat) ≠ (20 + 2 * Ec) by first | decide | assumption | omega)).trans h5_60
  rw [← e_mem84] at hh87
  have hh88 := (va_up_ne mem34 (.inr (2, [.int (k67), .int (lo68), .int (hi69), as70, .ref (ad (20 + 2 * kx35)), ne72, .ref (ad (21 + 2 * Ec))])) (show (220 : Nat) ≠ (20 + 2 * Ec) by first | decide | assumption | omega)).trans h220_64
  rw [← e_mem84] at hh88
  have hh89 := (va_up_ne mem34 (.inr (2, [.int (k67), .int (lo68), .int (hi69), as70, .ref (ad (20 + 2 * kx35)), ne72, .ref (ad (21 + 2 * Ec))])) (show ((20 + 2 * kx35) : Nat) ≠ (20 + 2 * Ec) by first | decide | assumption | omega)).trans he_81
  rw [← e_mem84] at hh89
  have hRX90 : RX cy ad lim (g52) (R37) (E38) (to41) (nn40) m0 mem84 := by rw [e_mem84]; exact hRX49.el (by omega) (hRX49.1.mk (by omega) (hRX49.1.1.upEl (by omega) (fun q9 => ⟨(ho_74 q9).1, Or.inr ⟨kx35, by omega, by omega, rfl⟩, (ho_74 q9).2.2⟩)))
  refine lv_iconst (v := 0) Bx.1 Bx.2.1 d_Rd_readAlternatives_17 (by decide) ?_
  refine lv_istore (lv' := [(4, .int (0)), (3, .ref (ad (20 + 2 * kx35))), (2, .ref (ad (20 + 2 * Ec))), (0, .ref (ad 222)), (1, .int (1))]) Bx.1 Bx.2.1 d_Rd_readAlternatives_18 hl (by decide) rfl (fun ls hl => ?_)
  have loop91 : ∀ (d92 : Nat) (mem9 : Nat → va_E) (a1 : Nat) (R1 : Nat) (E1 : Nat) (A1 : Ro) (n1 : Nat → Int64) (to1 : Nat → Int32) (la : Nat) (k9 : Nat) (ls : Array Slot) (H : Heap) (locs : List Loc), (240 - k9 < d92) → (RX cy ad lim (gapF T Z a1) R1 E1 to1 n1 m0 mem9) → (a < a1 ∧ a1 ≤ Z ∧ R ≤ R1 ∧ Ec < la ∧ la < E1 ∧ k9 < a1 ∧ k9 ≤ 240 ∧ Ec < E1) → (Suc T Z (seqS T Z a u R (Ec + 1) 1 A nm) 1 R (A 235) (A 227) a1 R1 E1 A1 n1) → (TOK R R1 to to1) → (¬ (bgF (hereF Z T (gapF T Z a1)) = true ∧ a1 < gapF T Z a1)) → (va_P D vcl (fw n ad mem9) H) → (va_D (Az sz) (fw n ad mem9)) → (va_S (Az sz) s.heap H locs) → (lv_has ls 5 [(4, .int (nI k9)), (3, .ref (ad (20 + 2 * la))), (2, .ref (ad (20 + 2 * Ec))), (0, .ref (ad 222)), (1, .int (1))]) → W p l e (headSpec (Cond.code y_Rd_readAlternatives c_Rd_readAlternatives 5 (some (.object "AbnfChart$Element")) :: tg) ({ frames := 49, cells := 1, slots := 6, locals := 1188 } : Room)).room s m [.ref (ad 222), .int (1)].toArray below meth c H locs 0 0 (vx_MQ below (QX (QR (fun r mem' => ∃ (k' a' R' E' : Nat) (A' : Ro) (nm' : Nat → Int64) (to' : Nat → Int32), r = ad (20 + 2 * k') ∧ Ec ≤ k' ∧ k' < E' ∧ R ≤ R' ∧ a < a' ∧ a' ≤ Z ∧ TOK R R' to to' ∧ RX cy ad lim (gapF T Z a') R' E' to' nm' m0 mem' ∧ Suc T Z (seqS T Z a u R (Ec + 1) 1 A nm) 1 R (A 235) (A 227) a' R' E' A' nm' ∧ bgF (hereF Z T a) = true ∧ Ec < 100 ∧ ¬ hereF Z T (gapF T Z a') = 47 ∧ ¬ (bgF (hereF Z T (gapF T Z a')) = true ∧ a' < gapF T Z a')) (PP D n ad) (Az sz))) (XQ D sz n ad (fun X mem' => ((X = cIA ∨ X = cIS) ∧ ∃ rc' ec' : Nat, RS cy ad lim rc' ec' m0 mem') ∧ (bgF (hereF Z T a) = false ∨ Ec = 100 ∨ (bgF (hereF Z T a) = true ∧ Ec < 100 ∧ Fai T Z (seqS T Z a u R (Ec + 1) 1 A nm))))) [.ref (ad 222), .int (1)].toArray s 1 6 (Az sz)) (F0 m 20 ls []) := by
    intro d92
    induction d92 with
    | zero => intro mem9 a1 R1 E1 A1 n1 to1 la k9 ls H locs hmeas99; exact absurd hmeas99 (Nat.not_lt_zero _)
    | succ d92 ih98 =>
      intro mem9 a1 R1 E1 A1 n1 to1 la k9 ls H locs hmeas99 hz93 hz94 hz95 hz96 hz97 hP hD hS hl
      obtain ⟨g1, eg1⟩ : ∃ z, z = gapF T Z a1 := ⟨_, rfl⟩
      rw [← eg1] at hz93
      have hge1 : a1 ≤ g1 := by rw [eg1]; exact gapF_ge T Z _
      have hbd8 := hz94
      have hle1 : g1 ≤ Z := by rw [eg1]; exact gapF_le T (by omega)
      obtain ⟨ft100, h9_101⟩ := hz93.2.1
      have h1_102 : mem9 1 = .inr (0, [.ref (ad 2), .int (nI Z)]) := (hz93.1.2.2 1 (by omega)).trans hT.1
      have h2_103 : mem9 2 = .inl (cy 0, 240, .inl f) := (hz93.1.2.2 2 (by omega)).trans hT.2.2
      have h5_104 := hz93.1.1.2.1
      have hbd110 := hz93.1.1.1
      obtain ⟨S105, g106, hS_107, h220_108, h221_109⟩ := hz93.1.1.2.2.2.2.2.2
      obtain ⟨k111, lo112, hi113, as114, pa115, ne116, he_117, ho_118⟩ := (hz93.1.1.2.2.2.2.2.1 la (by omega)).1
      obtain ⟨c1, u1, ho, hg, hk9, hs9⟩ := id hz95
      refine lv_iload Bx.1 Bx.2.1 d_Rd_readAlternatives_20 (lv_at hl 0 rfl) ?_
      refine lv_sipush (v := 240) Bx.1 Bx.2.1 d_Rd_readAlternatives_22 (by decide) ?_
      refine lv_icmp_ge Bx.1 Bx.2.1 d_Rd_readAlternatives_25 rfl (fun hb119 => ?_) (fun hb119 => ?_)
      · have hN120 : 240 ≤ k9 := (nI_leI (by omega) (by omega)).mp (show nI (240) ≤ nI (k9) from hb119)
        exact absurd hbd8 (by omega)
      · have hN121 : ¬ 240 ≤ k9 := fun q9 => hb119 (show nI (240) ≤ nI (k9) from (nI_leI (by omega) (by omega)).mpr q9)
        refine lv_aload_n Bx.1 Bx.2.1 d_Rd_readAlternatives_28 rfl (lv_at hl 3 rfl) ?_
        refine f_callVi (na := 0) (As := []) (rest := []) Bx hml E hP hD hS (by omega) h9_101 rfl (m_Rd_peekX l hn hT hf hz93 (by omega)) kw_353 kw_355 sel_Rd_peek kw_6 kw_356 (by decide +kernel) ⟨rfl, rfl⟩ ⟨Nat.le_of_ble_eq_true rfl, Nat.le_of_ble_eq_true rfl⟩ rfl hl.1 (Nat.le_of_ble_eq_true rfl) d_Rd_readAlternatives_29 ⟨Nat.le_of_ble_eq_true rfl, Nat.le_of_ble_eq_true rfl⟩ (fun r123 mem124 H locs hq hP hS => ?_)
        have hD : va_D (Az sz) (fw n ad mem124) := fw_D hD
        obtain ⟨hqe, hpk122⟩ := hq
        rw [hqe] at hP hD
        subst hpk122
        refine lv_bipush (v := 47) Bx.1 Bx.2.1 d_Rd_readAlternatives_32 (by decide) ?_
        refine lv_icmp_ne Bx.1 Bx.2.1 d_Rd_readAlternatives_34 rfl (fun hb126 => ?_) (fun hb126 => ?_)
        · refine lv_aload_n Bx.1 Bx.2.1 d_Rd_readAlternatives_72 rfl (lv_at hl 2 rfl) ?_
          exact x_aret hx hb hlocks hr (⟨Ec, a1, R1, E1, A1, n1, to1, rfl, by omega, by omega, by omega, by omega, by omega, hz96, by rw [← eg1]; exact hz93, hz95, hbg, hE9, by rw [← eg1]; exact hb126, hz97⟩) hP hS d_Rd_readAlternatives_73
        · have hlt127 := hereF_lt (by rw [hb126]; decide)
          have h47 : hereF Z T (gapF T Z a1) = 47 := by rw [← eg1]; exact hb126
          refine lv_aload_n Bx.1 Bx.2.1 d_Rd_readAlternatives_37 rfl (lv_at hl 3 rfl) ?_
          refine lv_dup Bx.1 Bx.2.1 d_Rd_readAlternatives_38 rfl ?_
          refine f_get Bx hP (by omega) h9_101 rfl inRd 2 (by decide) kw_146 rfl rfl d_Rd_readAlternatives_39 ?_
          refine lv_iconst (v := 1) Bx.1 Bx.2.1 d_Rd_readAlternatives_42 (by decide) ?_
          refine lv_iadd Bx.1 Bx.2.1 d_Rd_readAlternatives_43 ?_
          rw [show nI g1 + 1 = nI (g1 + 1) from nI_add (g1) (1)]
          refine f_put Bx hP hD hS (by omega) h9_101 rfl inRd tyRd okRd nmRd 2 (by decide) kw_146 rfl rfl rfl rfl (Nat.le_of_ble_eq_true rfl) d_Rd_readAlternatives_44 (fun H locs hP hS => ?_)
          obtain ⟨mem128, e_mem128⟩ : ∃ z, z = va_up mem9 (222) (.inr (4, [.ref (ad 1), .ref (ad 5), .int (nI (g1 + 1)), .int (ft100)])) := ⟨_, rfl⟩
          have hP : va_P D vcl (fw n ad mem128) H := by rw [e_mem128]; exact hP
          have hD : va_D (Az sz) (fw n ad mem128) := fw_D hD
          have h_mem128 : mem128 (222) = .inr (4, [.ref (ad 1), .ref (ad 5), .int (nI (g1 + 1)), .int (ft100)]) := by rw [e_mem128, va_up_self]
          have hh129 := (va_up_ne mem9 (.inr (4, [.ref (ad 1), .ref (ad 5), .int (nI (g1 + 1)), .int (ft100)])) (show (1 : Nat) ≠ 222 by first | decide | assumption | omega)).trans h1_102
          rw [← e_mem128] at hh129
          have hh130 := (va_up_ne mem9 (.inr (4, [.ref (ad 1), .ref (ad 5), .int (nI (g1 + 1)), .int (ft100)])) (show (5 : Nat) ≠ 222 by first | decide | assumption | omega)).trans h5_104
          rw [← e_mem128] at hh130
          have hh131 := (va_up_ne mem9 (.inr (4, [.ref (ad 1), .ref (ad 5), .int (nI (g1 + 1)), .int (ft100)])) (show (220 : Nat) ≠ 222 by first | decide | assumption | omega)).trans h220_108
          rw [← e_mem128] at hh131
          have hh132 := (va_up_ne mem9 (.inr (4, [.ref (ad 1), .ref (ad 5), .int (nI (g1 + 1)), .int (ft100)])) (show ((20 + 2 * la) : Nat) ≠ 222 by first | decide | assumption | omega)).trans he_117
          rw [← e_mem128] at hh132
          have hRX133 : RX cy ad lim (g1 + 1) (R1) (E1) (to1) (n1) m0 mem128 := by rw [e_mem128]; exact hz93.at
          refine lv_aload_n Bx.1 Bx.2.1 d_Rd_readAlternatives_47 rfl (lv_at hl 3 rfl) ?_
          refine f_callVi (na := 0) (As := []) (rest := []) Bx hml E hP hD hS (by omega) h_mem128 rfl (m_Rd_readGapX l hn hT hf hRX133 (by omega) (by omega)) kw_397 kw_399 sel_Rd_readGap kw_6 kw_400 (by decide +kernel) ⟨rfl, rfl⟩ ⟨Nat.le_of_ble_eq_true rfl, Nat.le_of_ble_eq_true rfl⟩ rfl hl.1 (Nat.le_of_ble_eq_true rfl) d_Rd_readAlternatives_48 ⟨Nat.le_of_ble_eq_true rfl, Nat.le_of_ble_eq_true rfl⟩ (fun r134 mem135 H locs hq hP hS => ?_)
          have hD : va_D (Az sz) (fw n ad mem135) := fw_D hD
          obtain ⟨g136, eg137⟩ : ∃ z, z = gapF T Z (g1 + 1) := ⟨_, rfl⟩
          rw [← eg137] at hq
          obtain ⟨hRX138, hgc139⟩ := hq
          have hg140 : g1 + 1 ≤ g136 := by rw [eg137]; exact gapF_ge T Z _
          have hg141 : g136 ≤ Z := by rw [eg137]; exact gapF_le T (by omega)
          obtain ⟨ft142, h9_143⟩ := hRX138.2.1
          have h1_144 : mem135 1 = .inr (0, [.ref (ad 2), .int (nI Z)]) := (hRX138.1.2.2 1 (by omega)).trans hT.1
          have h2_145 : mem135 2 = .inl (cy 0, 240, .inl f) := (hRX138.1.2.2 2 (by omega)).trans hT.2.2
          have h5_146 := hRX138.1.1.2.1
          have hbd152 := hRX138.1.1.1
          obtain ⟨S147, g148, hS_149, h220_150, h221_151⟩ := hRX138.1.1.2.2.2.2.2.2
          obtain ⟨k153, lo154, hi155, as156, pa157, ne158, he_159, ho_160⟩ := (hRX138.1.1.2.2.2.2.2.1 la (by omega)).1
          refine lv_pop Bx.1 Bx.2.1 d_Rd_readAlternatives_51 rfl ?_
          refine lv_aload_n Bx.1 Bx.2.1 d_Rd_readAlternatives_52 rfl (lv_at hl 1 rfl) ?_
          refine lv_aload_n Bx.1 Bx.2.1 d_Rd_readAlternatives_53 rfl (lv_at hl 3 rfl) ?_
          refine lv_iload_n Bx.1 Bx.2.1 d_Rd_readAlternatives_54 rfl (lv_at hl 4 rfl) ?_
          refine f_xVr (na := 1) (As := [.int (1)]) (rest := [.ref (ad (20 + 2 * la))]) Bx hml E hP hD hS (by omega) h9_143 rfl (m_Rd_readSequence_1X l hlt hn hT hf hRX138 (by omega) (u := u1) (A := A1) (by omega)) kw_435 kw_437 sel_Rd_readSequence kw_6 kw_438 (by decide +kernel) ⟨rfl, rfl⟩ ⟨Nat.le_of_ble_eq_true rfl, Nat.le_of_ble_eq_true rfl⟩ rfl hl.1 (Nat.le_of_ble_eq_true rfl) d_Rd_readAlternatives_55 ⟨Nat.le_of_ble_eq_true rfl, Nat.le_of_ble_eq_true rfl⟩ (fun X ce q9 memx H locs hx9 hP hS g1 g2 g3 => f_out hlocks hno hP hS g1 g2 g3 ⟨Nat.le_of_ble_eq_true rfl, Nat.le_of_ble_eq_true rfl⟩ ⟨hx9.1, Or.inr (Or.inr ⟨hbg, hE9, Fai.go ho hg (go_sl h47) (by rw [← eg1, ← eg137]; exact hx9.2)⟩)⟩) (fun r161 mem162 H locs hq hP hS => ?_)
          have hD : va_D (Az sz) (fw n ad mem162) := fw_D hD
          obtain ⟨kx163, a164, R165, E166, A167, nn168, to169, hr9170, hb171, hb172, hb173, hb174, hb175, htk176, hRX177, hsc178, hnb179⟩ := hq
          subst hr9170
          obtain ⟨g180, eg181⟩ : ∃ z, z = gapF T Z a164 := ⟨_, rfl⟩
          have hg182 : a164 ≤ g180 := by rw [eg181]; exact gapF_ge T Z _
          have hg183 : g180 ≤ Z := by rw [eg181]; exact gapF_le T (by omega)
          rw [← eg181] at hRX177
          obtain ⟨ft184, h9_185⟩ := hRX177.2.1
          have h1_186 : mem162 1 = .inr (0, [.ref (ad 2), .int (nI Z)]) := (hRX177.1.2.2 1 (by omega)).trans hT.1
          have h2_187 : mem162 2 = .inl (cy 0, 240, .inl f) := (hRX177.1.2.2 2 (by omega)).trans hT.2.2
          have h5_188 := hRX177.1.1.2.1
          have hbd194 := hRX177.1.1.1
          obtain ⟨S189, g190, hS_191, h220_192, h221_193⟩ := hRX177.1.1.2.2.2.2.2.2
          obtain ⟨k195, lo196, hi197, as198, pa199, ne200, he_201, ho_202⟩ := (hRX177.1.1.2.2.2.2.2.1 la (by omega)).1
          obtain ⟨k203, lo204, hi205, as206, pa207, ne208, he_209, ho_210⟩ := (hRX177.1.1.2.2.2.2.2.1 kx163 (by omega)).1
          have hbd211 := hRX177.1.1.1
          have hsuc3 := Suc.go ho hg hk9 hs9 (by omega) (go_sl h47) (by rw [← eg1, ← eg137]; exact hsc178)
          have htk3 := hz96.trans htk176 (by omega)
          refine f_putN Bx hP hD hS (by omega) he_201 rfl inEl tyEl okEl nmEl 5 (by decide) kw_91 rfl rfl rfl rfl (Nat.le_of_ble_eq_true rfl) d_Rd_readAlternatives_58 (fun H locs hP hS => ?_)
          obtain ⟨mem212, e_mem212⟩ : ∃ z, z = va_up mem162 ((20 + 2 * la)) (.inr (2, [.int (k195), .int (lo196), .int (hi197), as198, pa199, .ref (ad (20 + 2 * kx163)), .ref (ad (21 + 2 * la))])) := ⟨_, rfl⟩
          have hP : va_P D vcl (fw n ad mem212) H := by rw [e_mem212]; exact hP
          have hD : va_D (Az sz) (fw n ad mem212) := fw_D hD
          have h_mem212 : mem212 ((20 + 2 * la)) = .inr (2, [.int (k195), .int (lo196), .int (hi197), as198, pa199, .ref (ad (20 + 2 * kx163)), .ref (ad (21 + 2 * la))]) := by rw [e_mem212, va_up_self]
          have hh213 := (va_up_ne mem162 (.inr (2, [.int (k195), .int (lo196), .int (hi197), as198, pa199, .ref (ad (20 + 2 * kx163)), .ref (ad (21 + 2 * la))])) (show (222 : Nat) ≠ (20 + 2 * la) by first | decide | assumption | omega)).trans h9_185
          rw [← e_mem212] at hh213
          have hh214 := (va_up_ne mem162 (.inr (2, [.int (k195), .int (lo196), .int (hi197), as198, pa199, .ref (ad (20 + 2 * kx163)), .ref (ad (21 + 2 * la))])) (show (1 : Nat) ≠ (20 + 2 * la) by first | decide | assumption | omega)).trans h1_186
          rw [← e_mem212] at hh214
          have hh215 := (va_up_ne mem162 (.inr (2, [.int (k195), .int (lo196), .int (hi197), as198, pa199, .ref (ad (20 + 2 * kx163)), .ref (ad (21 + 2 * la))])) (show (5 : Nat) ≠ (20 + 2 * la) by first | decide | assumption | omega)).trans h5_188
          rw [← e_mem212] at hh215
          have hh216 := (va_up_ne mem162 (.inr (2, [.int (k195), .int (lo196), .int (hi197), as198, pa199, .ref (ad (20 + 2 * kx163)), .ref (ad (21 + 2 * la))])) (show (220 : Nat) ≠ (20 + 2 * la) by first | decide | assumption | omega)).trans h220_192
          rw [← e_mem212] at hh216
          have hh217 := (va_up_ne mem162 (.inr (2, [.int (k195), .int (lo196), .int (hi197), as198, pa199, .ref (ad (20 + 2 * kx163)), .ref (ad (21 + 2 * la))])) (show ((20 + 2 * kx163) : Nat) ≠ (20 + 2 * la) by first | decide | assumption | omega)).trans he_209
          rw [← e_mem212] at hh217
          have hRX218 : RX cy ad lim (g180) (R165) (E166) (to169) (nn168) m0 mem212 := by rw [e_mem212]; exact hRX177.el (by omega) (hRX177.1.mk (by omega) (hRX177.1.1.upEl (by omega) (fun q9 => ⟨(ho_202 q9).1, (ho_202 q9).2.1, Or.inr ⟨kx163, by omega, by omega, rfl⟩⟩)))
          refine lv_aload_n Bx.1 Bx.2.1 d_Rd_readAlternatives_61 rfl (lv_at hl 1 rfl) ?_
          refine f_getN Bx hP (by omega) h_mem212 rfl inEl 5 (by decide) kw_91 rfl rfl d_Rd_readAlternatives_62 ?_
          refine lv_astore_n (lv' := [(3, .ref (ad (20 + 2 * kx163))), (4, .int (nI k9)), (2, .ref (ad (20 + 2 * Ec))), (0, .ref (ad 222)), (1, .int (1))]) Bx.1 Bx.2.1 d_Rd_readAlternatives_65 rfl hl (by decide) rfl (fun ls hl => ?_)
          refine lv_iinc (lv' := [(4, .int ((nI k9 + (1)))), (3, .ref (ad (20 + 2 * kx163))), (2, .ref (ad (20 + 2 * Ec))), (0, .ref (ad 222)), (1, .int (1))]) Bx.1 Bx.2.1 d_Rd_readAlternatives_66 hl (k := 1) rfl rfl (by decide) rfl (fun ls hl => ?_)
          rw [show (nI k9 + (1) : Int32) = nI (k9 + 1) from nI_1 (k9)] at hl
          refine lv_goto Bx.1 Bx.2.1 d_Rd_readAlternatives_69 rfl ?_
          exact ih98 mem212 (a164) (R165) (E166) (A167) (nn168) (to169) (kx163) (k9 + 1) _ _ _ (by have := hmeas99; omega) (by rw [← eg181]; exact hRX218) (⟨by omega, by omega, by omega, by omega, by omega, by omega, by omega, by omega⟩) (hsuc3) (htk3) (hnb179) hP hD hS (lv_sub hl [0, 1, 2, 3, 4] rfl)
  exact loop91 _ mem84 (a36) (R37) (E38) (A39) (nn40) (to41) (kx35) (0) _ _ _ (Nat.lt_succ_self _) (by rw [← eg53]; exact hRX90) (⟨by omega, by omega, by omega, by omega, by omega, by omega, by omega, by omega⟩) (hsc50) (htk48) (hnb51) hP hD hS (lv_sub hl [0, 1, 2, 3, 4] rfl)
set_option maxHeartbeats 4000000 in
set_option maxRecDepth 100000 in
theorem m_Rd_readBracket_0X (l : Launch) {D : va_G} {cy : Nat → ClassId} {sz n : Nat} {ad : Nat → Nat} {mem : Nat → va_E} {Z a R Ec lim : Nat} {f T : Nat → Int32} {to : Nat → Int32} {nm : Nat → Int64} {m0 : Nat → va_E} {u : Nat} {A : Ro} {what oe en : Int32} (hlt : l.stackTraces = false) (hn : 224 ≤ n) (hT : TX cy ad Z f m0) (hf : ∀ k, k < Z → f k = T k) (hRX : RX cy ad lim a R Ec to nm m0 mem) (haB : a ≤ 300) (haZ : a < Z) (hwe : (what = 1 ∧ en = 41) ∨ (what = 2 ∧ en = 93)) : NXr l D cy sz n ad y_Rd_readBracket c_Rd_readBracket 4 (some (.object "AbnfChart$Element")) ({ frames := 50, cells := 1, slots := 6, locals := 1220 } : Room) mem [.ref (ad 222), .int (0), .int (en)] (fun r mem' => ∃ (k' a' R' E' : Nat) (A' : Ro) (nm' : Nat → Int64) (to' : Nat → Int32), r = ad (20 + 2 * k') ∧ Ec ≤ k' ∧ k' < E' ∧ R ≤ R' ∧ a < a' ∧ a' ≤ Z ∧ TOK R R' to to' ∧ RX cy ad lim a' R' E' to' nm' m0 mem' ∧ Suc T Z (entS T Z (a + 1) u R Ec 1 A nm what oe) 0 R (A 235) (A 227) a' R' E' A' nm') (fun X mem' => ((X = cIA ∨ X = cIS) ∧ ∃ rc' ec' : Nat, RS cy ad lim rc' ec' m0 mem') ∧ (Fai T Z (entS T Z (a + 1) u R Ec 1 A nm what oe))) := by
  refine vx_ofW (cc := c_Rd_readBracket) (maxL := 4) (ret := (some (.object "AbnfChart$Element"))) (by decide) rfl ?_
  intro p e s m args below meth c s₁ B hml hno hv
  obtain ⟨rfl, E, hP, hD⟩ := hv
  have hx := B.exec
  have hb := B.bytes
  have hr := B.returns
  have hlocks := B.notSynchronized
  have Bx : MB p s m [.ref (ad 222), .int (0), .int (en)].toArray c c_Rd_readBracket "AbnfChart$Reader" D cy := ⟨hx, hb, tb_all (atoms_spec B.pre) E.2.1, findClass_of_methodNamed B.named, E.1⟩
  have hS : va_S (Az sz) s.heap s.heap [] := va_S.rf
  have hl := lv_entry ([.ref (ad 222), .int (0), .int (en)]) (n := 4) (Nat.le_of_ble_eq_true rfl)
  rw [lg_entry_eq]
  generalize (lg_sl ([.ref (ad 222), .int (0), .int (en)]) ++ List.replicate (4 - (lg_sl ([.ref (ad 222), .int (0), .int (en)])).length) Slot.unset).toArray = ls at hl ⊢
  have hl : lv_has ls 4 [(0, .ref (ad 222)), (1, .int (0)), (2, .int (en))] := hl
  have hZ9 := hT.2.1
  have hbd9 := hRX.1.1.1
  obtain ⟨ft1, h9_2⟩ := hRX.2.1
  have h1_3 : mem 1 = .inr (0, [.ref (ad 2), .int (nI Z)]) := (hRX.1.2.2 1 (by omega)).trans hT.1
  have h2_4 : mem 2 = .inl (cy 0, 240, .inl f) := (hRX.1.2.2 2 (by omega)).trans hT.2.2
  have h5_5 := hRX.1.1.2.1
  have hbd11 := hRX.1.1.1
  obtain ⟨S6, g7, hS_8, h220_9, h221_10⟩ := hRX.1.1.2.2.2.2.2.2
  refine lv_aload_n Bx.1 Bx.2.1 d_Rd_readBracket_0 rfl (lv_at hl 0 rfl) ?_
  refine lv_iload_n Bx.1 Bx.2.1 d_Rd_readBracket_1 rfl (lv_at hl 1 rfl) ?_
  refine lv_bipush (v := 6) Bx.1 Bx.2.1 d_Rd_readBracket_2 (by decide) ?_
  refine lv_icmp_ge Bx.1 Bx.2.1 d_Rd_readBracket_4 rfl (fun hb12 => ?_) (fun hb12 => ?_)
  · exact absurd hb12 (by decide)
  · refine lv_iconst (v := 1) Bx.1 Bx.2.1 d_Rd_readBracket_7 (by decide) ?_
    refine lv_goto Bx.1 Bx.2.1 d_Rd_readBracket_8 rfl ?_
    refine lv_aload_n Bx.1 Bx.2.1 d_Rd_readBracket_12 rfl (lv_at hl 0 rfl) ?_
    refine f_get Bx hP (by omega) h9_2 rfl inRd 2 (by decide) kw_146 rfl rfl d_Rd_readBracket_13 ?_
    refine f_xVv (na := 2) (As := [.int (1), .int (nI a)]) (rest := []) Bx hml E hP hD hS (by omega) h9_2 rfl (m_Rd_needRoomX l hlt hn hT hf hRX (by omega)) kw_383 kw_385 sel_Rd_needRoom kw_6 kw_386 (by decide +kernel) ⟨rfl, rfl⟩ ⟨Nat.le_of_ble_eq_true rfl, Nat.le_of_ble_eq_true rfl⟩ rfl hl.1 (Nat.le_of_ble_eq_true rfl) d_Rd_readBracket_16 ⟨Nat.le_of_ble_eq_true rfl, Nat.le_of_ble_eq_true rfl⟩ (fun X ce q9 memx H locs hx9 hP hS g1 g2 g3 => f_out hlocks hno hP hS g1 g2 g3 ⟨Nat.le_of_ble_eq_true rfl, Nat.le_of_ble_eq_true rfl⟩ ⟨hx9.1, absurd hx9.2 (by decide)⟩) (fun mem14 H locs hq hP hS => ?_)
    have hD : va_D (Az sz) (fw n ad mem14) := fw_D hD
    obtain ⟨hqe, hg15⟩ := hq
    rw [hqe] at hP hD
    refine lv_aload_n Bx.1 Bx.2.1 d_Rd_readBracket_19 rfl (lv_at hl 0 rfl) ?_
    refine lv_dup Bx.1 Bx.2.1 d_Rd_readBracket_20 rfl ?_
    refine f_get Bx hP (by omega) h9_2 rfl inRd 2 (by decide) kw_146 rfl rfl d_Rd_readBracket_21 ?_
    refine lv_iconst (v := 1) Bx.1 Bx.2.1 d_Rd_readBracket_24 (by decide) ?_
    refine lv_iadd Bx.1 Bx.2.1 d_Rd_readBracket_25 ?_
    rw [show nI a + 1 = nI (a + 1) from nI_add (a) (1)]
    refine f_put Bx hP hD hS (by omega) h9_2 rfl inRd tyRd okRd nmRd 2 (by decide) kw_146 rfl rfl rfl rfl (Nat.le_of_ble_eq_true rfl) d_Rd_readBracket_26 (fun H locs hP hS => ?_)
    obtain ⟨mem16, e_mem16⟩ : ∃ z, z = va_up mem (222) (.inr (4, [.ref (ad 1), .ref (ad 5), .int (nI (a + 1)), .int (ft1)])) := ⟨_, rfl⟩
    have hP : va_P D vcl (fw n ad mem16) H := by rw [e_mem16]; exact hP
    have hD : va_D (Az sz) (fw n ad mem16) := fw_D hD
    have h_mem16 : mem16 (222) = .inr (4, [.ref (ad 1), .ref (ad 5), .int (nI (a + 1)), .int (ft1)]) := by rw [e_mem16, va_up_self]
    have hh17 := (va_up_ne mem (.inr (4, [.ref (ad 1), .ref (ad 5), .int (nI (a + 1)), .int (ft1)])) (show (1 : Nat) ≠ 222 by first | decide | assumption | omega)).trans h1_3
    rw [← e_mem16] at hh17
    have hh18 := (va_up_ne mem (.inr (4, [.ref (ad 1), .ref (ad 5), .int (nI (a + 1)), .int (ft1)])) (show (5 : Nat) ≠ 222 by first | decide | assumption | omega)).trans h5_5
    rw [← e_mem16] at hh18
    have hh19 := (va_up_ne mem (.inr (4, [.ref (ad 1), .ref (ad 5), .int (nI (a + 1)), .int (ft1)])) (show (220 : Nat) ≠ 222 by first | decide | assumption | omega)).trans h220_9
    rw [← e_mem16] at hh19
    have hRX20 : RX cy ad lim (a + 1) (R) (Ec) (to) (nm) m0 mem16 := by rw [e_mem16]; exact hRX.at
    refine lv_aload_n Bx.1 Bx.2.1 d_Rd_readBracket_29 rfl (lv_at hl 0 rfl) ?_
    refine f_callVi (na := 0) (As := []) (rest := []) Bx hml E hP hD hS (by omega) h_mem16 rfl (m_Rd_readGapX l hn hT hf hRX20 (by omega) (by omega)) kw_397 kw_399 sel_Rd_readGap kw_6 kw_400 (by decide +kernel) ⟨rfl, rfl⟩ ⟨Nat.le_of_ble_eq_true rfl, Nat.le_of_ble_eq_true rfl⟩ rfl hl.1 (Nat.le_of_ble_eq_true rfl) d_Rd_readBracket_30 ⟨Nat.le_of_ble_eq_true rfl, Nat.le_of_ble_eq_true rfl⟩ (fun r21 mem22 H locs hq hP hS => ?_)
    have hD : va_D (Az sz) (fw n ad mem22) := fw_D hD
    obtain ⟨g23, eg24⟩ : ∃ z, z = gapF T Z (a + 1) := ⟨_, rfl⟩
    rw [← eg24] at hq
    obtain ⟨hRX25, hgc26⟩ := hq
    have hg27 : a + 1 ≤ g23 := by rw [eg24]; exact gapF_ge T Z _
    have hg28 : g23 ≤ Z := by rw [eg24]; exact gapF_le T (by omega)
    obtain ⟨ft29, h9_30⟩ := hRX25.2.1
    have h1_31 : mem22 1 = .inr (0, [.ref (ad 2), .int (nI Z)]) := (hRX25.1.2.2 1 (by omega)).trans hT.1
    have h2_32 : mem22 2 = .inl (cy 0, 240, .inl f) := (hRX25.1.2.2 2 (by omega)).trans hT.2.2
    have h5_33 := hRX25.1.1.2.1
    have hbd39 := hRX25.1.1.1
    obtain ⟨S34, g35, hS_36, h220_37, h221_38⟩ := hRX25.1.1.2.2.2.2.2.2
    refine lv_pop Bx.1 Bx.2.1 d_Rd_readBracket_33 rfl ?_
    refine lv_aload_n Bx.1 Bx.2.1 d_Rd_readBracket_34 rfl (lv_at hl 0 rfl) ?_
    refine lv_iload_n Bx.1 Bx.2.1 d_Rd_readBracket_35 rfl (lv_at hl 1 rfl) ?_
    refine lv_iconst (v := 1) Bx.1 Bx.2.1 d_Rd_readBracket_36 (by decide) ?_
    refine lv_iadd Bx.1 Bx.2.1 d_Rd_readBracket_37 ?_
    rw [show (0 + 1 : Int32) = 1 from rfl]
    refine f_xVr (na := 1) (As := [.int (1)]) (rest := []) Bx hml E hP hD hS (by omega) h9_30 rfl (m_Rd_readAlternatives_1X l hlt hn hT hf hRX25 (by omega) (u := u) (A := entA A 1 Ec what oe) (by omega)) kw_405 kw_407 sel_Rd_readAlternatives kw_6 kw_408 (by decide +kernel) ⟨rfl, rfl⟩ ⟨Nat.le_of_ble_eq_true rfl, Nat.le_of_ble_eq_true rfl⟩ rfl hl.1 (Nat.le_of_ble_eq_true rfl) d_Rd_readBracket_38 ⟨Nat.le_of_ble_eq_true rfl, Nat.le_of_ble_eq_true rfl⟩ (fun X ce q9 memx H locs hx9 hP hS g1 g2 g3 => f_out hlocks hno hP hS g1 g2 g3 ⟨Nat.le_of_ble_eq_true rfl, Nat.le_of_ble_eq_true rfl⟩ ⟨hx9.1, hx9.2.elim (fun z => Or.inl (entS_no (Or.inl (by rw [← eg24]; exact z)))) (fun z => z.elim (fun z => Or.inl (entS_no (Or.inr z))) (fun z => Fai.br0 (by rw [ent_ok (by rw [← eg24]; exact z.1) z.2.1, ← eg24]) z.2.2))⟩) (fun r40 mem41 H locs hq hP hS => ?_)
    have hD : va_D (Az sz) (fw n ad mem41) := fw_D hD
    obtain ⟨kx42, a43, R44, E45, A46, nn47, to48, hr949, hb50, hb51, hb52, hb53, hb54, htk55, hRX56, hsc57, hbg58, hE59, h4760, hnb61⟩ := hq
    subst hr949
    obtain ⟨g62, eg63⟩ : ∃ z, z = gapF T Z a43 := ⟨_, rfl⟩
    have hg64 : a43 ≤ g62 := by rw [eg63]; exact gapF_ge T Z _
    have hg65 : g62 ≤ Z := by rw [eg63]; exact gapF_le T (by omega)
    rw [← eg63] at hRX56
    obtain ⟨ft66, h9_67⟩ := hRX56.2.1
    have h1_68 : mem41 1 = .inr (0, [.ref (ad 2), .int (nI Z)]) := (hRX56.1.2.2 1 (by omega)).trans hT.1
    have h2_69 : mem41 2 = .inl (cy 0, 240, .inl f) := (hRX56.1.2.2 2 (by omega)).trans hT.2.2
    have h5_70 := hRX56.1.1.2.1
    have hbd76 := hRX56.1.1.1
    obtain ⟨S71, g72, hS_73, h220_74, h221_75⟩ := hRX56.1.1.2.2.2.2.2.2
    obtain ⟨k77, lo78, hi79, as80, pa81, ne82, he_83, ho_84⟩ := (hRX56.1.1.2.2.2.2.2.1 kx42 (by omega)).1
    have hbd85 := hRX56.1.1.1
    have hent : entS T Z (a + 1) u R Ec 1 A nm what oe = some (g23, u, R, Ec + 1, 1, entA A 1 Ec what oe, nm, true) := by rw [ent_ok (by rw [← eg24]; exact hbg58) hE59, ← eg24]
    have hA5 : A46 235 1 = what := by
      obtain ⟨c1, u1, ho, hg, hk, hs⟩ := hsc57
      rw [hk 1 (by omega), entA_5, upd_self]
    refine lv_astore_n (lv' := [(3, .ref (ad (20 + 2 * kx42))), (0, .ref (ad 222)), (1, .int (0)), (2, .int (en))]) Bx.1 Bx.2.1 d_Rd_readBracket_41 rfl hl (by decide) rfl (fun ls hl => ?_)
    refine lv_aload_n Bx.1 Bx.2.1 d_Rd_readBracket_42 rfl (lv_at hl 1 rfl) ?_
    refine lv_aload_n Bx.1 Bx.2.1 d_Rd_readBracket_43 rfl (lv_at hl 1 rfl) ?_
    refine f_callVi (na := 0) (As := []) (rest := [.ref (ad 222)]) Bx hml E hP hD hS (by omega) h9_67 rfl (m_Rd_peekX l hn hT hf hRX56 (by omega)) kw_353 kw_355 sel_Rd_peek kw_6 kw_356 (by decide +kernel) ⟨rfl, rfl⟩ ⟨Nat.le_of_ble_eq_true rfl, Nat.le_of_ble_eq_true rfl⟩ rfl hl.1 (Nat.le_of_ble_eq_true rfl) d_Rd_readBracket_44 ⟨Nat.le_of_ble_eq_true rfl, Nat.le_of_ble_eq_true rfl⟩ (fun r87 mem88 H locs hq hP hS => ?_)
    have hD : va_D (Az sz) (fw n ad mem88) := fw_D hD
    obtain ⟨hqe, hpk86⟩ := hq
    rw [hqe] at hP hD
    subst hpk86
    refine lv_iload_n Bx.1 Bx.2.1 d_Rd_readBracket_47 rfl (lv_at hl 3 rfl) ?_
    refine lv_icmp_ne Bx.1 Bx.2.1 d_Rd_readBracket_48 rfl (fun hb90 => ?_) (fun hb90 => ?_)
    · refine lv_iconst (v := 0) Bx.1 Bx.2.1 d_Rd_readBracket_55 (by decide) ?_
      refine lv_aload_n Bx.1 Bx.2.1 d_Rd_readBracket_56 rfl (lv_at hl 1 rfl) ?_
      refine f_get Bx hP (by omega) h9_67 rfl inRd 2 (by decide) kw_146 rfl rfl d_Rd_readBracket_57 ?_
      refine f_xVv (na := 2) (As := [.int (0), .int (nI g62)]) (rest := []) Bx hml E hP hD hS (by omega) h9_67 rfl (m_Rd_needReadableX l hlt hn hT hf hRX56 (by omega)) kw_360 kw_362 sel_Rd_needReadable kw_6 kw_363 (by decide +kernel) ⟨rfl, rfl⟩ ⟨Nat.le_of_ble_eq_true rfl, Nat.le_of_ble_eq_true rfl⟩ rfl hl.1 (Nat.le_of_ble_eq_true rfl) d_Rd_readBracket_60 ⟨Nat.le_of_ble_eq_true rfl, Nat.le_of_ble_eq_true rfl⟩ (fun X ce q9 memx H locs hx9 hP hS g1 g2 g3 => f_out hlocks hno hP hS g1 g2 g3 ⟨Nat.le_of_ble_eq_true rfl, Nat.le_of_ble_eq_true rfl⟩ ⟨hx9.1, Fai.br1 hent hsc57 (br_no hwe hA5 (by rw [← eg63]; exact hb90) h4760 hnb61)⟩) (fun mem92 H locs hq hP hS => ?_)
      have hD : va_D (Az sz) (fw n ad mem92) := fw_D hD
      obtain ⟨hqe, hg93⟩ := hq
      rw [hqe] at hP hD
      exact absurd rfl hg93
    · refine lv_iconst (v := 1) Bx.1 Bx.2.1 d_Rd_readBracket_51 (by decide) ?_
      refine lv_goto Bx.1 Bx.2.1 d_Rd_readBracket_52 rfl ?_
      refine lv_aload_n Bx.1 Bx.2.1 d_Rd_readBracket_56 rfl (lv_at hl 1 rfl) ?_
      refine f_get Bx hP (by omega) h9_67 rfl inRd 2 (by decide) kw_146 rfl rfl d_Rd_readBracket_57 ?_
      refine f_xVv (na := 2) (As := [.int (1), .int (nI g62)]) (rest := []) Bx hml E hP hD hS (by omega) h9_67 rfl (m_Rd_needReadableX l hlt hn hT hf hRX56 (by omega)) kw_360 kw_362 sel_Rd_needReadable kw_6 kw_363 (by decide +kernel) ⟨rfl, rfl⟩ ⟨Nat.le_of_ble_eq_true rfl, Nat.le_of_ble_eq_true rfl⟩ rfl hl.1 (Nat.le_of_ble_eq_true rfl) d_Rd_readBracket_60 ⟨Nat.le_of_ble_eq_true rfl, Nat.le_of_ble_eq_true rfl⟩ (fun X ce q9 memx H locs hx9 hP hS g1 g2 g3 => f_out hlocks hno hP hS g1 g2 g3 ⟨Nat.le_of_ble_eq_true rfl, Nat.le_of_ble_eq_true rfl⟩ ⟨hx9.1, absurd hx9.2 (by decide)⟩) (fun mem95 H locs hq hP hS => ?_)
      have hD : va_D (Az sz) (fw n ad mem95) := fw_D hD
      obtain ⟨hqe, hg96⟩ := hq
      rw [hqe] at hP hD
      refine lv_aload_n Bx.1 Bx.2.1 d_Rd_readBracket_63 rfl (lv_at hl 1 rfl) ?_
      refine lv_dup Bx.1 Bx.2.1 d_Rd_readBracket_64 rfl ?_
      refine f_get Bx hP (by omega) h9_67 rfl inRd 2 (by decide) kw_146 rfl rfl d_Rd_readBracket_65 ?_
      refine lv_iconst (v := 1) Bx.1 Bx.2.1 d_Rd_readBracket_68 (by decide) ?_
      refine lv_iadd Bx.1 Bx.2.1 d_Rd_readBracket_69 ?_
      rw [show nI g62 + 1 = nI (g62 + 1) from nI_add (g62) (1)]
      refine f_put Bx hP hD hS (by omega) h9_67 rfl inRd tyRd okRd nmRd 2 (by decide) kw_146 rfl rfl rfl rfl (Nat.le_of_ble_eq_true rfl) d_Rd_readBracket_70 (fun H locs hP hS => ?_)
      obtain ⟨mem97, e_mem97⟩ : ∃ z, z = va_up mem41 (222) (.inr (4, [.ref (ad 1), .ref (ad 5), .int (nI (g62 + 1)), .int (ft66)])) := ⟨_, rfl⟩
      have hP : va_P D vcl (fw n ad mem97) H := by rw [e_mem97]; exact hP
      have hD : va_D (Az sz) (fw n ad mem97) := fw_D hD
      have h_mem97 : mem97 (222) = .inr (4, [.ref (ad 1), .ref (ad 5), .int (nI (g62 + 1)), .int (ft66)]) := by rw [e_mem97, va_up_self]
      have hh98 := (va_up_ne mem41 (.inr (4, [.ref (ad 1), .ref (ad 5), .int (nI (g62 + 1)), .int (ft66)])) (show (1 : Nat) ≠ 222 by first | decide | assumption | omega)).trans h1_68
      rw [← e_mem97] at hh98
      have hh99 := (va_up_ne mem41 (.inr (4, [.ref (ad 1), .ref (ad 5), .int (nI (g62 + 1)), .int (ft66)])) (show (5 : Nat) ≠ 222 by first | decide | assumption | omega)).trans h5_70
      rw [← e_mem97] at hh99
      have hh100 := (va_up_ne mem41 (.inr (4, [.ref (ad 1), .ref (ad 5), .int (nI (g62 + 1)), .int (ft66)])) (show (220 : Nat) ≠ 222 by first | decide | assumption | omega)).trans h220_74
      rw [← e_mem97] at hh100
      have hh101 := (va_up_ne mem41 (.inr (4, [.ref (ad 1), .ref (ad 5), .int (nI (g62 + 1)), .int (ft66)])) (show ((20 + 2 * kx42) : Nat) ≠ 222 by first | decide | assumption | omega)).trans he_83
      rw [← e_mem97] at hh101
      have hRX102 : RX cy ad lim (g62 + 1) (R44) (E45) (to48) (nn47) m0 mem97 := by rw [e_mem97]; exact hRX56.at
      refine lv_aload_n Bx.1 Bx.2.1 d_Rd_readBracket_73 rfl (lv_at hl 0 rfl) ?_
      obtain ⟨A29, hsuc9⟩ := Suc.br hent hsc57 (br_pop hwe hA5 (by rw [← eg63]; exact hb90)) (K := A 235) (fun i hi => by rw [entA_5]; exact upd_ne (by omega)) entA_7
      exact x_aret hx hb hlocks hr (⟨kx42, gapF T Z a43 + 1, R44, E45, A29, nn47, to48, rfl, by omega, by omega, by omega, by rw [← eg63]; omega, by rw [← eg63]; have := br_lt hwe hb90; omega, htk55, by rw [← eg63]; exact hRX102, hsuc9⟩) hP hS d_Rd_readBracket_74
set_option maxHeartbeats 4000000 in
set_option maxRecDepth 100000 in
theorem m_Rd_readOption_0X (l : Launch) {D : va_G} {cy : Nat → ClassId} {sz n : Nat} {ad : Nat → Nat} {mem : Nat → va_E} {Z a R Ec lim : Nat} {f T : Nat → Int32} {to : Nat → Int32} {nm : Nat → Int64} {m0 : Nat → va_E} {u : Nat} {A : Ro} (hlt : l.stackTraces = false) (hn : 224 ≤ n) (hT : TX cy ad Z f m0) (hf : ∀ k, k < Z → f k = T k) (hRX : RX cy ad lim a R Ec to nm m0 mem) (haB : a ≤ 300) (haZ : a < Z) : NXr l D cy sz n ad y_Rd_readOption c_Rd_readOption 3 (some (.object "AbnfChart$Element")) ({ frames := 51, cells := 1, slots := 6, locals := 1243 } : Room) mem [.ref (ad 222), .int (0)] (fun r mem' => Ec < 100 ∧ ∃ (k' a' R' E' : Nat) (A' : Ro) (nm' : Nat → Int64) (to' : Nat → Int32), r = ad (20 + 2 * k') ∧ Ec ≤ k' ∧ k' < E' ∧ R ≤ R' ∧ a < a' ∧ a' ≤ Z ∧ TOK R R' to to' ∧ RX cy ad lim a' R' E' to' nm' m0 mem' ∧ Suc T Z (entS T Z (a + 1) u R (Ec + 1) 1 (elA A Ec 3) nm 2 (nI Ec)) 0 R (A 235) (A 227) a' R' E' A' nm') (fun X mem' => ((X = cIA ∨ X = cIS) ∧ ∃ rc' ec' : Nat, RS cy ad lim rc' ec' m0 mem') ∧ (Ec = 100 ∨ Fai T Z (entS T Z (a + 1) u R (Ec + 1) 1 (elA A Ec 3) nm 2 (nI Ec)))) := by
  refine vx_ofW (cc := c_Rd_readOption) (maxL := 3) (ret := (some (.object "AbnfChart$Element"))) (by decide) rfl ?_
  intro p e s m args below meth c s₁ B hml hno hv
  obtain ⟨rfl, E, hP, hD⟩ := hv
  have hx := B.exec
  have hb := B.bytes
  have hr := B.returns
  have hlocks := B.notSynchronized
  have Bx : MB p s m [.ref (ad 222), .int (0)].toArray c c_Rd_readOption "AbnfChart$Reader" D cy := ⟨hx, hb, tb_all (atoms_spec B.pre) E.2.1, findClass_of_methodNamed B.named, E.1⟩
  have hS : va_S (Az sz) s.heap s.heap [] := va_S.rf
  have hl := lv_entry ([.ref (ad 222), .int (0)]) (n := 3) (Nat.le_of_ble_eq_true rfl)
  rw [lg_entry_eq]
  generalize (lg_sl ([.ref (ad 222), .int (0)]) ++ List.replicate (3 - (lg_sl ([.ref (ad 222), .int (0)])).length) Slot.unset).toArray = ls at hl ⊢
  have hl : lv_has ls 3 [(0, .ref (ad 222)), (1, .int (0))] := hl
  have hZ9 := hT.2.1
  have hbd9 := hRX.1.1.1
  obtain ⟨ft1, h9_2⟩ := hRX.2.1
  have h1_3 : mem 1 = .inr (0, [.ref (ad 2), .int (nI Z)]) := (hRX.1.2.2 1 (by omega)).trans hT.1
  have h2_4 : mem 2 = .inl (cy 0, 240, .inl f) := (hRX.1.2.2 2 (by omega)).trans hT.2.2
  have h5_5 := hRX.1.1.2.1
  have hbd11 := hRX.1.1.1
  obtain ⟨S6, g7, hS_8, h220_9, h221_10⟩ := hRX.1.1.2.2.2.2.2.2
  refine lv_aload_n Bx.1 Bx.2.1 d_Rd_readOption_0 rfl (lv_at hl 0 rfl) ?_
  refine lv_iconst (v := 3) Bx.1 Bx.2.1 d_Rd_readOption_1 (by decide) ?_
  refine lv_aload_n Bx.1 Bx.2.1 d_Rd_readOption_2 rfl (lv_at hl 0 rfl) ?_
  refine f_get Bx hP (by omega) h9_2 rfl inRd 2 (by decide) kw_146 rfl rfl d_Rd_readOption_3 ?_
  refine f_xVr (na := 2) (As := [.int (3), .int (nI a)]) (rest := []) Bx hml E hP hD hS (by omega) h9_2 rfl (m_Rd_addElementX l hlt hn hT hf hRX (by omega)) kw_419 kw_421 sel_Rd_addElement kw_6 kw_422 (by decide +kernel) ⟨rfl, rfl⟩ ⟨Nat.le_of_ble_eq_true rfl, Nat.le_of_ble_eq_true rfl⟩ rfl hl.1 (Nat.le_of_ble_eq_true rfl) d_Rd_readOption_6 ⟨Nat.le_of_ble_eq_true rfl, Nat.le_of_ble_eq_true rfl⟩ (fun X ce q9 memx H locs hx9 hP hS g1 g2 g3 => f_out hlocks hno hP hS g1 g2 g3 ⟨Nat.le_of_ble_eq_true rfl, Nat.le_of_ble_eq_true rfl⟩ ⟨hx9.1, Or.inl hx9.2⟩) (fun r12 mem13 H locs hq hP hS => ?_)
  have hD : va_D (Az sz) (fw n ad mem13) := fw_D hD
  obtain ⟨hr916, hec15, hRX14⟩ := hq
  subst hr916
  obtain ⟨ft17, h9_18⟩ := hRX14.2.1
  have h1_19 : mem13 1 = .inr (0, [.ref (ad 2), .int (nI Z)]) := (hRX14.1.2.2 1 (by omega)).trans hT.1
  have h2_20 : mem13 2 = .inl (cy 0, 240, .inl f) := (hRX14.1.2.2 2 (by omega)).trans hT.2.2
  have h5_21 := hRX14.1.1.2.1
  have hbd27 := hRX14.1.1.1
  obtain ⟨S22, g23, hS_24, h220_25, h221_26⟩ := hRX14.1.1.2.2.2.2.2.2
  obtain ⟨k28, lo29, hi30, as31, pa32, ne33, he_34, ho_35⟩ := (hRX14.1.1.2.2.2.2.2.1 Ec (by omega)).1
  refine lv_astore_n (lv' := [(2, .ref (ad (20 + 2 * Ec))), (0, .ref (ad 222)), (1, .int (0))]) Bx.1 Bx.2.1 d_Rd_readOption_9 rfl hl (by decide) rfl (fun ls hl => ?_)
  refine lv_aload_n Bx.1 Bx.2.1 d_Rd_readOption_10 rfl (lv_at hl 0 rfl) ?_
  refine lv_aload_n Bx.1 Bx.2.1 d_Rd_readOption_11 rfl (lv_at hl 1 rfl) ?_
  refine lv_iload_n Bx.1 Bx.2.1 d_Rd_readOption_12 rfl (lv_at hl 2 rfl) ?_
  refine lv_bipush (v := 93) Bx.1 Bx.2.1 d_Rd_readOption_13 (by decide) ?_
  refine f_xVr (na := 2) (As := [.int (0), .int (93)]) (rest := [.ref (ad (20 + 2 * Ec))]) Bx hml E hP hD hS (by omega) h9_18 rfl (m_Rd_readBracket_0X l hlt hn hT hf hRX14 (by omega) (u := u) (A := elA A Ec 3) (by omega) (Or.inr ⟨rfl, rfl⟩)) kw_447 kw_449 sel_Rd_readBracket kw_6 kw_450 (by decide +kernel) ⟨rfl, rfl⟩ ⟨Nat.le_of_ble_eq_true rfl, Nat.le_of_ble_eq_true rfl⟩ rfl hl.1 (Nat.le_of_ble_eq_true rfl) d_Rd_readOption_15 ⟨Nat.le_of_ble_eq_true rfl, Nat.le_of_ble_eq_true rfl⟩ (fun X ce q9 memx H locs hx9 hP hS g1 g2 g3 => f_out hlocks hno hP hS g1 g2 g3 ⟨Nat.le_of_ble_eq_true rfl, Nat.le_of_ble_eq_true rfl⟩ ⟨hx9.1, Or.inr hx9.2⟩) (fun r36 mem37 H locs hq hP hS => ?_)
  have hD : va_D (Az sz) (fw n ad mem37) := fw_D hD
  obtain ⟨kx38, a39, R40, E41, A42, nn43, to44, hr945, hb46, hb47, hb48, hb49, hb50, htk51, hRX52, hsc53⟩ := hq
  subst hr945
  obtain ⟨ft54, h9_55⟩ := hRX52.2.1
  have h1_56 : mem37 1 = .inr (0, [.ref (ad 2), .int (nI Z)]) := (hRX52.1.2.2 1 (by omega)).trans hT.1
  have h2_57 : mem37 2 = .inl (cy 0, 240, .inl f) := (hRX52.1.2.2 2 (by omega)).trans hT.2.2
  have h5_58 := hRX52.1.1.2.1
  have hbd64 := hRX52.1.1.1
  obtain ⟨S59, g60, hS_61, h220_62, h221_63⟩ := hRX52.1.1.2.2.2.2.2.2
  obtain ⟨k65, lo66, hi67, as68, pa69, ne70, he_71, ho_72⟩ := (hRX52.1.1.2.2.2.2.2.1 Ec (by omega)).1
  obtain ⟨k73, lo74, hi75, as76, pa77, ne78, he_79, ho_80⟩ := (hRX52.1.1.2.2.2.2.2.1 kx38 (by omega)).1
  have hbd81 := hRX52.1.1.1
  refine f_putN Bx hP hD hS (by omega) he_71 rfl inEl tyEl okEl nmEl 4 (by decide) kw_87 rfl rfl rfl rfl (Nat.le_of_ble_eq_true rfl) d_Rd_readOption_18 (fun H locs hP hS => ?_)
  obtain ⟨mem82, e_mem82⟩ : ∃ z, z = va_up mem37 ((20 + 2 * Ec)) (.inr (2, [.int (k65), .int (lo66), .int (hi67), as68, .ref (ad (20 + 2 * kx38)), ne70, .ref (ad (21 + 2 * Ec))])) := ⟨_, rfl⟩
  have hP : va_P D vcl (fw n ad mem82) H := by rw [e_mem82]; exact hP
  have hD : va_D (Az sz) (fw n ad mem82) := fw_D hD
  have h_mem82 : mem82 ((20 + 2 * Ec)) = .inr (2, [.int (k65), .int (lo66), .int (hi67), as68, .ref (ad (20 + 2 * kx38)), ne70, .ref (ad (21 + 2 * Ec))]) := by rw [e_mem82, va_up_self]
  have hh83 := (va_up_ne mem37 (.inr (2, [.int (k65), .int (lo66), .int (hi67), as68, .ref (ad (20 + 2 * kx38)), ne70, .ref (ad (21 + 2 * Ec))])) (show (222 : Nat) ≠ (20 + 2 * Ec) by first | decide | assumption | omega)).trans h9_55
  rw [← e_mem82] at hh83
  have hh84 := (va_up_ne mem37 (.inr (2, [.int (k65), .int (lo66), .int (hi67), as68, .ref (ad (20 + 2 * kx38)), ne70, .ref (ad (21 + 2 * Ec))])) (show (1 : Nat) ≠ (20 + 2 * Ec) by first | decide | assumption | omega)).trans h1_56
  rw [← e_mem82] at hh84
  have hh85 := (va_up_ne mem37 (.inr (2, [.int (k65), .int (lo66), .int (hi67), as68, .ref (ad (20 + 2 * kx38)), ne70, .ref (ad (21 + 2 * Ec))])) (show (5 : Nat) ≠ (20 + 2 * Ec) by first | decide | assumption | omega)).trans h5_58
  rw [← e_mem82] at hh85
  have hh86 := (va_up_ne mem37 (.inr (2, [.int (k65), .int (lo66), .int (hi67), as68, .ref (ad (20 + 2 * kx38)), ne70, .ref (ad (21 + 2 * Ec))])) (show (220 : Nat) ≠ (20 + 2 * Ec) by first | decide | assumption | omega)).trans h220_62
  rw [← e_mem82] at hh86
  have hh87 := (va_up_ne mem37 (.inr (2, [.int (k65), .int (lo66), .int (hi67), as68, .ref (ad (20 + 2 * kx38)), ne70, .ref (ad (21 + 2 * Ec))])) (show ((20 + 2 * kx38) : Nat) ≠ (20 + 2 * Ec) by first | decide | assumption | omega)).trans he_79
  rw [← e_mem82] at hh87
  have hRX88 : RX cy ad lim (a39) (R40) (E41) (to44) (nn43) m0 mem82 := by rw [e_mem82]; exact hRX52.el (by omega) (hRX52.1.mk (by omega) (hRX52.1.1.upEl (by omega) (fun q9 => ⟨(ho_72 q9).1, Or.inr ⟨kx38, by omega, by omega, rfl⟩, (ho_72 q9).2.2⟩)))
  refine lv_aload_n Bx.1 Bx.2.1 d_Rd_readOption_21 rfl (lv_at hl 0 rfl) ?_
  exact x_aret hx hb hlocks hr (⟨hec15, ⟨Ec, a39, R40, E41, _, nn43, to44, rfl, by omega, by omega, by omega, by omega, by omega, htk51, hRX88, hsc53.eq rfl (elA_ne (by decide)) (elA_ne (by decide))⟩⟩) hP hS d_Rd_readOption_22
set_option maxHeartbeats 4000000 in
set_option maxRecDepth 100000 in
theorem m_Rd_readElement_0X (l : Launch) {D : va_G} {cy : Nat → ClassId} {sz n : Nat} {ad : Nat → Nat} {mem : Nat → va_E} {Z a R Ec lim : Nat} {f T : Nat → Int32} {to : Nat → Int32} {nm : Nat → Int64} {m0 : Nat → va_E} {u : Nat} {A : Ro} (hlt : l.stackTraces = false) (hn : 224 ≤ n) (hT : TX cy ad Z f m0) (hf : ∀ k, k < Z → f k = T k) (hRX : RX cy ad lim a R Ec to nm m0 mem) (haB : a ≤ 300) (haZ : a ≤ Z) : NXr l D cy sz n ad y_Rd_readElement c_Rd_readElement 2 (some (.object "AbnfChart$Element")) ({ frames := 52, cells := 1, slots := 6, locals := 1266 } : Room) mem [.ref (ad 222), .int (0)] (fun r mem' => ∃ (k' a' R' E' : Nat) (A' : Ro) (nm' : Nat → Int64) (to' : Nat → Int32), r = ad (20 + 2 * k') ∧ Ec ≤ k' ∧ k' < E' ∧ R ≤ R' ∧ a < a' ∧ a' ≤ Z ∧ TOK R R' to to' ∧ RX cy ad lim a' R' E' to' nm' m0 mem' ∧ Suc T Z (singS T Z a u R Ec 0 A nm) 0 R (A 235) (A 227) a' R' E' A' nm' ∧ OKc (hereF Z T a)) (fun X mem' => ((X = cIA ∨ X = cIS) ∧ ∃ rc' ec' : Nat, RS cy ad lim rc' ec' m0 mem') ∧ (Fai T Z (singS T Z a u R Ec 0 A nm) ∨ ¬ OKc (hereF Z T a))) := by
  refine vx_ofW (cc := c_Rd_readElement) (maxL := 2) (ret := (some (.object "AbnfChart$Element"))) (by decide) rfl ?_
  intro p e s m args below meth c s₁ B hml hno hv
  obtain ⟨rfl, E, hP, hD⟩ := hv
  have hx := B.exec
  have hb := B.bytes
  have hr := B.returns
  have hlocks := B.notSynchronized
  have Bx : MB p s m [.ref (ad 222), .int (0)].toArray c c_Rd_readElement "AbnfChart$Reader" D cy := ⟨hx, hb, tb_all (atoms_spec B.pre) E.2.1, findClass_of_methodNamed B.named, E.1⟩
  have hS : va_S (Az sz) s.heap s.heap [] := va_S.rf
  have hl := lv_entry ([.ref (ad 222), .int (0)]) (n := 2) (Nat.le_of_ble_eq_true rfl)
  rw [lg_entry_eq]
  generalize (lg_sl ([.ref (ad 222), .int (0)]) ++ List.replicate (2 - (lg_sl ([.ref (ad 222), .int (0)])).length) Slot.unset).toArray = ls at hl ⊢
  have hl : lv_has ls 2 [(0, .ref (ad 222)), (1, .int (0))] := hl
  have hZ9 := hT.2.1
  have hbd9 := hRX.1.1.1
  obtain ⟨ft1, h9_2⟩ := hRX.2.1
  have h1_3 : mem 1 = .inr (0, [.ref (ad 2), .int (nI Z)]) := (hRX.1.2.2 1 (by omega)).trans hT.1
  have h2_4 : mem 2 = .inl (cy 0, 240, .inl f) := (hRX.1.2.2 2 (by omega)).trans hT.2.2
  have h5_5 := hRX.1.1.2.1
  have hbd11 := hRX.1.1.1
  obtain ⟨S6, g7, hS_8, h220_9, h221_10⟩ := hRX.1.1.2.2.2.2.2.2
  refine lv_aload_n Bx.1 Bx.2.1 d_Rd_readElement_0 rfl (lv_at hl 0 rfl) ?_
  refine f_callVi (na := 0) (As := []) (rest := []) Bx hml E hP hD hS (by omega) h9_2 rfl (m_Rd_peekX l hn hT hf hRX (by omega)) kw_353 kw_355 sel_Rd_peek kw_6 kw_356 (by decide +kernel) ⟨rfl, rfl⟩ ⟨Nat.le_of_ble_eq_true rfl, Nat.le_of_ble_eq_true rfl⟩ rfl hl.1 (Nat.le_of_ble_eq_true rfl) d_Rd_readElement_1 ⟨Nat.le_of_ble_eq_true rfl, Nat.le_of_ble_eq_true rfl⟩ (fun r13 mem14 H locs hq hP hS => ?_)
  have hD : va_D (Az sz) (fw n ad mem14) := fw_D hD
  obtain ⟨hqe, hpk12⟩ := hq
  rw [hqe] at hP hD
  subst hpk12
  refine lv_topi (fun v16 e_v16 => ?_)
  by_cases c34 : v16 = 34
  · rw [c34]
    refine lv_lookup (off := 58) (tgt := 62) Bx.1 Bx.2.1 d_Rd_readElement_4 (by decide) (by decide) rfl ?_
    rw [e_v16] at c34
    have hlt34 := hereF_lt (show hereF Z T (a) ≠ -1 by rw [c34]; decide)
    refine lv_aload_n Bx.1 Bx.2.1 d_Rd_readElement_62 rfl (lv_at hl 0 rfl) ?_
    refine lv_aload_n Bx.1 Bx.2.1 d_Rd_readElement_63 rfl (lv_at hl 0 rfl) ?_
    refine f_get Bx hP (by omega) h9_2 rfl inRd 2 (by decide) kw_146 rfl rfl d_Rd_readElement_64 ?_
    refine lv_iconst (v := 5) Bx.1 Bx.2.1 d_Rd_readElement_67 (by decide) ?_
    refine f_xVr (na := 2) (As := [.int (nI a), .int (5)]) (rest := []) Bx hml E hP hD hS (by omega) h9_2 rfl (m_Rd_readStringX l hlt hn hT hf hRX (by omega) (by omega)) kw_455 kw_457 sel_Rd_readString kw_6 kw_458 (by decide +kernel) ⟨rfl, rfl⟩ ⟨Nat.le_of_ble_eq_true rfl, Nat.le_of_ble_eq_true rfl⟩ rfl hl.1 (Nat.le_of_ble_eq_true rfl) d_Rd_readElement_68 ⟨Nat.le_of_ble_eq_true rfl, Nat.le_of_ble_eq_true rfl⟩ (fun X ce q9 memx H locs hx9 hP hS g1 g2 g3 => f_out hlocks hno hP hS g1 g2 g3 ⟨Nat.le_of_ble_eq_true rfl, Nat.le_of_ble_eq_true rfl⟩ ⟨hx9.1, Or.inl (fai_str c34 hx9.2 hbd9.2.1)⟩) (fun r17 mem18 H locs hq hP hS => ?_)
    have hD : va_D (Az sz) (fw n ad mem18) := fw_D hD
    obtain ⟨hE9, hq9, hr2, hle9, hRX2⟩ := hq
    subst hr2
    obtain ⟨A2, hsc2⟩ := suc_str (u := u) (R := R) (f := 0) (A := A) (nm := nm) c34 hE9 hq9
    exact x_aret hx hb hlocks hr (⟨Ec, _, R, Ec + 1, A2, nm, to, rfl, by omega, by omega, by omega, by omega, hle9, TOK.of rfl, hRX2, hsc2, (l34 c34).2.2.2⟩) hP hS d_Rd_readElement_71
  by_cases c37 : v16 = 37
  · rw [c37]
    refine lv_lookup (off := 68) (tgt := 72) Bx.1 Bx.2.1 d_Rd_readElement_4 (by decide) (by decide) rfl ?_
    rw [e_v16] at c37
    have hlt37 := hereF_lt (show hereF Z T (a) ≠ -1 by rw [c37]; decide)
    refine lv_aload_n Bx.1 Bx.2.1 d_Rd_readElement_72 rfl (lv_at hl 0 rfl) ?_
    refine f_get Bx hP (by omega) h9_2 rfl inRd 0 (by decide) kw_144 rfl rfl d_Rd_readElement_73 ?_
    refine lv_aload_n Bx.1 Bx.2.1 d_Rd_readElement_76 rfl (lv_at hl 0 rfl) ?_
    refine f_get Bx hP (by omega) h9_2 rfl inRd 2 (by decide) kw_146 rfl rfl d_Rd_readElement_77 ?_
    refine lv_iconst (v := 1) Bx.1 Bx.2.1 d_Rd_readElement_80 (by decide) ?_
    refine lv_iadd Bx.1 Bx.2.1 d_Rd_readElement_81 ?_
    rw [show nI a + 1 = nI (a + 1) from nI_add (a) (1)]
    refine f_callVi (na := 1) (As := [.int (nI (a + 1))]) (rest := []) Bx hml E hP hD hS (by omega) h1_3 rfl (m_Ch_codeAt l (by omega) h1_3 (by omega) h2_4 (by rw [nI_toInt (by omega)]; omega)) kw_341 kw_342 kw_343 kw_2 kw_344 (by decide +kernel) ⟨rfl, rfl⟩ ⟨Nat.le_of_ble_eq_true rfl, Nat.le_of_ble_eq_true rfl⟩ rfl hl.1 (Nat.le_of_ble_eq_true rfl) d_Rd_readElement_82 ⟨Nat.le_of_ble_eq_true rfl, Nat.le_of_ble_eq_true rfl⟩ (fun r19 mem20 H locs hq hP hS => ?_)
    have hD : va_D (Az sz) (fw n ad mem20) := fw_D hD
    obtain ⟨hco21, hqe⟩ := hq
    rw [hqe] at hP hD
    rw [code_here hf hT.2.1 (k := a + 1) (by omega)] at hco21
    subst hco21
    refine f_callSNi (na := 1) (As := [.int (hereF Z T (a + 1))]) (rest := []) Bx hml E.2.1 (m_Ab_smallOfX l (hereF Z T (a + 1))) kw_372 kw_373 kw_1 kw_374 (by decide +kernel) ⟨rfl, rfl⟩ ⟨Nat.le_of_ble_eq_true rfl, Nat.le_of_ble_eq_true rfl⟩ rfl hl.1 (Nat.le_of_ble_eq_true rfl) d_Rd_readElement_85 ⟨Nat.le_of_ble_eq_true rfl, Nat.le_of_ble_eq_true rfl⟩ (fun r23 hs22 => ?_)
    subst hs22
    refine lv_bipush (v := 115) Bx.1 Bx.2.1 d_Rd_readElement_88 (by decide) ?_
    refine lv_icmp_ne Bx.1 Bx.2.1 d_Rd_readElement_90 rfl (fun hb24 => ?_) (fun hb24 => ?_)
    · refine lv_aload_n Bx.1 Bx.2.1 d_Rd_readElement_100 rfl (lv_at hl 0 rfl) ?_
      refine f_xVr (na := 0) (As := []) (rest := []) Bx hml E hP hD hS (by omega) h9_2 rfl (m_Rd_readValueX l hlt hn hT hf hRX (by omega) (by omega)) kw_467 kw_469 sel_Rd_readValue kw_6 kw_470 (by decide +kernel) ⟨rfl, rfl⟩ ⟨Nat.le_of_ble_eq_true rfl, Nat.le_of_ble_eq_true rfl⟩ rfl hl.1 (Nat.le_of_ble_eq_true rfl) d_Rd_readElement_101 ⟨Nat.le_of_ble_eq_true rfl, Nat.le_of_ble_eq_true rfl⟩ (fun X ce q9 memx H locs hx9 hP hS g1 g2 g3 => f_out hlocks hno hP hS g1 g2 g3 ⟨Nat.le_of_ble_eq_true rfl, Nat.le_of_ble_eq_true rfl⟩ ⟨hx9.1, Or.inl (fai_val c37 hb24 hx9.2 hbd9.2.1)⟩) (fun r25 mem26 H locs hq hP hS => ?_)
      have hD : va_D (Az sz) (fw n ad mem26) := fw_D hD
      obtain ⟨hE9, ba, a2, hba, hp9, hr2, x1, x2, hRX2⟩ := hq
      subst hr2
      obtain ⟨A2, hsc2⟩ := suc_val (u := u) (R := R) (f := 0) (A := A) (nm := nm) c37 hba hE9 hp9
      exact x_aret hx hb hlocks hr (⟨Ec, a2, R, Ec + 1, A2, nm, to, rfl, by omega, by omega, by omega, x1, x2, TOK.of rfl, hRX2, hsc2, (l37 c37).2.2.2.2⟩) hP hS d_Rd_readElement_104
    · refine lv_aload_n Bx.1 Bx.2.1 d_Rd_readElement_93 rfl (lv_at hl 0 rfl) ?_
      refine f_xVr (na := 0) (As := []) (rest := []) Bx hml E hP hD hS (by omega) h9_2 rfl (m_Rd_readExactStringX l hlt hn hT hf hRX (by omega) (by omega)) kw_463 kw_465 sel_Rd_readExactString kw_6 kw_466 (by decide +kernel) ⟨rfl, rfl⟩ ⟨Nat.le_of_ble_eq_true rfl, Nat.le_of_ble_eq_true rfl⟩ rfl hl.1 (Nat.le_of_ble_eq_true rfl) d_Rd_readElement_94 ⟨Nat.le_of_ble_eq_true rfl, Nat.le_of_ble_eq_true rfl⟩ (fun X ce q9 memx H locs hx9 hP hS g1 g2 g3 => f_out hlocks hno hP hS g1 g2 g3 ⟨Nat.le_of_ble_eq_true rfl, Nat.le_of_ble_eq_true rfl⟩ ⟨hx9.1, Or.inl (fai_xst c37 hb24 hx9.2 hbd9.2.1)⟩) (fun r27 mem28 H locs hq hP hS => ?_)
      have hD : va_D (Az sz) (fw n ad mem28) := fw_D hD
      obtain ⟨hq8, hE9, hq9, hr2, hle9, hRX2⟩ := hq
      subst hr2
      obtain ⟨A2, hsc2⟩ := suc_xst (u := u) (R := R) (f := 0) (A := A) (nm := nm) c37 hb24 hq8 hE9 hq9
      refine lv_goto Bx.1 Bx.2.1 d_Rd_readElement_97 rfl ?_
      exact x_aret hx hb hlocks hr (⟨Ec, _, R, Ec + 1, A2, nm, to, rfl, by omega, by omega, by omega, by omega, hle9, TOK.of rfl, hRX2, hsc2, (l37 c37).2.2.2.2⟩) hP hS d_Rd_readElement_104
  by_cases c40 : v16 = 40
  · rw [c40]
    refine lv_lookup (off := 44) (tgt := 48) Bx.1 Bx.2.1 d_Rd_readElement_4 (by decide) (by decide) rfl ?_
    rw [e_v16] at c40
    have hlt40 := hereF_lt (show hereF Z T (a) ≠ -1 by rw [c40]; decide)
    refine lv_aload_n Bx.1 Bx.2.1 d_Rd_readElement_48 rfl (lv_at hl 0 rfl) ?_
    refine lv_iload_n Bx.1 Bx.2.1 d_Rd_readElement_49 rfl (lv_at hl 1 rfl) ?_
    refine lv_bipush (v := 41) Bx.1 Bx.2.1 d_Rd_readElement_50 (by decide) ?_
    refine f_xVr (na := 2) (As := [.int (0), .int (41)]) (rest := []) Bx hml E hP hD hS (by omega) h9_2 rfl (m_Rd_readBracket_0X l hlt hn hT hf hRX (by omega) (u := u) (A := A) (by omega) (Or.inl ⟨rfl, rfl⟩) (what := 1) (oe := -1)) kw_447 kw_449 sel_Rd_readBracket kw_6 kw_450 (by decide +kernel) ⟨rfl, rfl⟩ ⟨Nat.le_of_ble_eq_true rfl, Nat.le_of_ble_eq_true rfl⟩ rfl hl.1 (Nat.le_of_ble_eq_true rfl) d_Rd_readElement_52 ⟨Nat.le_of_ble_eq_true rfl, Nat.le_of_ble_eq_true rfl⟩ (fun X ce q9 memx H locs hx9 hP hS g1 g2 g3 => f_out hlocks hno hP hS g1 g2 g3 ⟨Nat.le_of_ble_eq_true rfl, Nat.le_of_ble_eq_true rfl⟩ ⟨hx9.1, Or.inl (hx9.2.eq (sing_br (l40 c40).1 c40 (by omega)))⟩) (fun r29 mem30 H locs hq hP hS => ?_)
    have hD : va_D (Az sz) (fw n ad mem30) := fw_D hD
    obtain ⟨kx31, a32, R33, E34, A35, nn36, to37, hr938, hb39, hb40, hb41, hb42, hb43, htk44, hRX45, hsc46⟩ := hq
    subst hr938
    obtain ⟨ft47, h9_48⟩ := hRX45.2.1
    have h1_49 : mem30 1 = .inr (0, [.ref (ad 2), .int (nI Z)]) := (hRX45.1.2.2 1 (by omega)).trans hT.1
    have h2_50 : mem30 2 = .inl (cy 0, 240, .inl f) := (hRX45.1.2.2 2 (by omega)).trans hT.2.2
    have h5_51 := hRX45.1.1.2.1
    have hbd57 := hRX45.1.1.1
    obtain ⟨S52, g53, hS_54, h220_55, h221_56⟩ := hRX45.1.1.2.2.2.2.2.2
    obtain ⟨k58, lo59, hi60, as61, pa62, ne63, he_64, ho_65⟩ := (hRX45.1.1.2.2.2.2.2.1 kx31 (by omega)).1
    have hbd66 := hRX45.1.1.1
    exact x_aret hx hb hlocks hr (⟨kx31, a32, R33, E34, _, nn36, to37, rfl, by omega, by omega, by omega, by omega, by omega, htk44, hRX45, hsc46.eq (sing_br (l40 c40).1 c40 (by omega)) rfl rfl, (l40 c40).2⟩) hP hS d_Rd_readElement_55
  by_cases c91 : v16 = 91
  · rw [c91]
    refine lv_lookup (off := 52) (tgt := 56) Bx.1 Bx.2.1 d_Rd_readElement_4 (by decide) (by decide) rfl ?_
    rw [e_v16] at c91
    have hlt91 := hereF_lt (show hereF Z T (a) ≠ -1 by rw [c91]; decide)
    refine lv_aload_n Bx.1 Bx.2.1 d_Rd_readElement_56 rfl (lv_at hl 0 rfl) ?_
    refine lv_iload_n Bx.1 Bx.2.1 d_Rd_readElement_57 rfl (lv_at hl 1 rfl) ?_
    refine f_xVr (na := 1) (As := [.int (0)]) (rest := []) Bx hml E hP hD hS (by omega) h9_2 rfl (m_Rd_readOption_0X l hlt hn hT hf hRX (by omega) (u := u) (A := A) (by omega)) kw_451 kw_453 sel_Rd_readOption kw_6 kw_454 (by decide +kernel) ⟨rfl, rfl⟩ ⟨Nat.le_of_ble_eq_true rfl, Nat.le_of_ble_eq_true rfl⟩ rfl hl.1 (Nat.le_of_ble_eq_true rfl) d_Rd_readElement_58 ⟨Nat.le_of_ble_eq_true rfl, Nat.le_of_ble_eq_true rfl⟩ (fun X ce q9 memx H locs hx9 hP hS g1 g2 g3 => f_out hlocks hno hP hS g1 g2 g3 ⟨Nat.le_of_ble_eq_true rfl, Nat.le_of_ble_eq_true rfl⟩ ⟨hx9.1, Or.inl (by
        by_cases q9 : Ec = 100
        · exact Or.inl (sing_o0 (l91 c91).1 c91 (Or.inr q9))
        · exact (hx9.2.resolve_left q9).eq (sing_op (l91 c91).1 c91 (by omega) (by omega)))⟩) (fun r67 mem68 H locs hq hP hS => ?_)
    have hD : va_D (Az sz) (fw n ad mem68) := fw_D hD
    obtain ⟨hE9, k2, a2, R2, E2, A2, n2, t2, hr2, x1, x2, x3, x4, x5, htk2, hRX2, hsc2⟩ := hq
    subst hr2
    exact x_aret hx hb hlocks hr (⟨k2, a2, R2, E2, A2, n2, t2, rfl, x1, x2, x3, x4, x5, htk2, hRX2, hsc2.eq (sing_op (l91 c91).1 c91 (by omega) hE9) rfl rfl, (l91 c91).2⟩) hP hS d_Rd_readElement_61
  refine lv_lookup (off := 101) (tgt := 105) Bx.1 Bx.2.1 d_Rd_readElement_4 (by decide) (by show Op.lookupswitch.offset [(34, 58), (37, 68), (40, 44), (91, 52)] 101 (v16).toInt = 101; rw [lv_osw c34 (by decide), lv_osw c37 (by decide), lv_osw c40 (by decide), lv_osw c91 (by decide)]; rfl) rfl ?_
  rw [e_v16] at c40 c91 c34 c37
  refine lv_aload_n Bx.1 Bx.2.1 d_Rd_readElement_105 rfl (lv_at hl 0 rfl) ?_
  refine f_xVr (na := 0) (As := []) (rest := []) Bx hml E hP hD hS (by omega) h9_2 rfl (m_Rd_readAskedNameX l hlt hn hT hf hRX (by omega) (A := A) (by omega)) kw_478 kw_480 sel_Rd_readAskedName kw_6 kw_481 (by decide +kernel) ⟨rfl, rfl⟩ ⟨Nat.le_of_ble_eq_true rfl, Nat.le_of_ble_eq_true rfl⟩ rfl hl.1 (Nat.le_of_ble_eq_true rfl) d_Rd_readElement_106 ⟨Nat.le_of_ble_eq_true rfl, Nat.le_of_ble_eq_true rfl⟩ (fun X ce q9 memx H locs hx9 hP hS g1 g2 g3 => f_out hlocks hno hP hS g1 g2 g3 ⟨Nat.le_of_ble_eq_true rfl, Nat.le_of_ble_eq_true rfl⟩ ⟨hx9.1, fai_nam c40 c91 c34 c37 hx9.2⟩) (fun r69 mem70 H locs hq hP hS => ?_)
  have hD : va_D (Az sz) (fw n ad mem70) := fw_D hD
  obtain ⟨i9, a2, R2, A3, n2, hsn, hle, hE9, hr2, x1, x2, x3, hA3, htk, t2, htk2, hRX2⟩ := hq
  subst hr2
  obtain ⟨A2, hsc2⟩ := suc_nam (u := u) (f := 0) hle hsn hE9 hA3 htk
  exact x_aret hx hb hlocks hr (⟨Ec, a2, R2, Ec + 1, A2, n2, t2, rfl, by omega, by omega, x1, x2, x3, htk2, hRX2, hsc2, lt_ok hle⟩) hP hS d_Rd_readElement_109
set_option maxHeartbeats 4000000 in
set_option maxRecDepth 100000 in
theorem m_Rd_readRepetition_0X (l : Launch) {D : va_G} {cy : Nat → ClassId} {sz n : Nat} {ad : Nat → Nat} {mem : Nat → va_E} {Z a R Ec lim : Nat} {f T : Nat → Int32} {to : Nat → Int32} {nm : Nat → Int64} {m0 : Nat → va_E} {u : Nat} {A : Ro} (hlt : l.stackTraces = false) (hn : 224 ≤ n) (hT : TX cy ad Z f m0) (hf : ∀ k, k < Z → f k = T k) (hRX : RX cy ad lim a R Ec to nm m0 mem) (haB : a ≤ 300) (haZ : a ≤ Z) (hbg : bgF (hereF Z T a) = true) : NXr l D cy sz n ad y_Rd_readRepetition c_Rd_readRepetition 3 (some (.object "AbnfChart$Element")) ({ frames := 53, cells := 1, slots := 6, locals := 1288 } : Room) mem [.ref (ad 222), .int (0)] (fun r mem' => ∃ (k' a' R' E' : Nat) (A' : Ro) (nm' : Nat → Int64) (to' : Nat → Int32), r = ad (20 + 2 * k') ∧ Ec ≤ k' ∧ k' < E' ∧ R ≤ R' ∧ a < a' ∧ a' ≤ Z ∧ TOK R R' to to' ∧ RX cy ad lim a' R' E' to' nm' m0 mem' ∧ Suc T Z (repS T Z a u R Ec 0 A nm) 0 R (A 235) (A 227) a' R' E' A' nm') (fun X mem' => ((X = cIA ∨ X = cIS) ∧ ∃ rc' ec' : Nat, RS cy ad lim rc' ec' m0 mem') ∧ (Fai T Z (repS T Z a u R Ec 0 A nm))) := by
  refine vx_ofW (cc := c_Rd_readRepetition) (maxL := 3) (ret := (some (.object "AbnfChart$Element"))) (by decide) rfl ?_
  intro p e s m args below meth c s₁ B hml hno hv
  obtain ⟨rfl, E, hP, hD⟩ := hv
  have hx := B.exec
  have hb := B.bytes
  have hr := B.returns
  have hlocks := B.notSynchronized
  have Bx : MB p s m [.ref (ad 222), .int (0)].toArray c c_Rd_readRepetition "AbnfChart$Reader" D cy := ⟨hx, hb, tb_all (atoms_spec B.pre) E.2.1, findClass_of_methodNamed B.named, E.1⟩
  have hS : va_S (Az sz) s.heap s.heap [] := va_S.rf
  have hl := lv_entry ([.ref (ad 222), .int (0)]) (n := 3) (Nat.le_of_ble_eq_true rfl)
  rw [lg_entry_eq]
  generalize (lg_sl ([.ref (ad 222), .int (0)]) ++ List.replicate (3 - (lg_sl ([.ref (ad 222), .int (0)])).length) Slot.unset).toArray = ls at hl ⊢
  have hl : lv_has ls 3 [(0, .ref (ad 222)), (1, .int (0))] := hl
  have hZ9 := hT.2.1
  have hbd9 := hRX.1.1.1
  obtain ⟨ft1, h9_2⟩ := hRX.2.1
  have h1_3 : mem 1 = .inr (0, [.ref (ad 2), .int (nI Z)]) := (hRX.1.2.2 1 (by omega)).trans hT.1
  have h2_4 : mem 2 = .inl (cy 0, 240, .inl f) := (hRX.1.2.2 2 (by omega)).trans hT.2.2
  have h5_5 := hRX.1.1.2.1
  have hbd11 := hRX.1.1.1
  obtain ⟨S6, g7, hS_8, h220_9, h221_10⟩ := hRX.1.1.2.2.2.2.2.2
  refine lv_aload_n Bx.1 Bx.2.1 d_Rd_readRepetition_0 rfl (lv_at hl 0 rfl) ?_
  refine f_callVi (na := 0) (As := []) (rest := []) Bx hml E hP hD hS (by omega) h9_2 rfl (m_Rd_peekX l hn hT hf hRX (by omega)) kw_353 kw_355 sel_Rd_peek kw_6 kw_356 (by decide +kernel) ⟨rfl, rfl⟩ ⟨Nat.le_of_ble_eq_true rfl, Nat.le_of_ble_eq_true rfl⟩ rfl hl.1 (Nat.le_of_ble_eq_true rfl) d_Rd_readRepetition_1 ⟨Nat.le_of_ble_eq_true rfl, Nat.le_of_ble_eq_true rfl⟩ (fun r13 mem14 H locs hq hP hS => ?_)
  have hD : va_D (Az sz) (fw n ad mem14) := fw_D hD
  obtain ⟨hqe, hpk12⟩ := hq
  rw [hqe] at hP hD
  subst hpk12
  refine f_callSi (na := 1) (As := [.int (hereF Z T (a))]) (rest := []) Bx hml E.2.1 (m_Rd_beginsRepeatX l (hereF Z T (a))) kw_416 kw_417 kw_6 kw_418 (by decide +kernel) ⟨rfl, rfl⟩ ⟨Nat.le_of_ble_eq_true rfl, Nat.le_of_ble_eq_true rfl⟩ rfl hl.1 (Nat.le_of_ble_eq_true rfl) d_Rd_readRepetition_4 ⟨Nat.le_of_ble_eq_true rfl, Nat.le_of_ble_eq_true rfl⟩ (fun r17 hs16 => ?_)
  subst hs16
  refine lv_if_ne Bx.1 Bx.2.1 d_Rd_readRepetition_7 rfl (fun hb18 => ?_) (fun hb18 => ?_)
  · refine lv_aload_n Bx.1 Bx.2.1 d_Rd_readRepetition_16 rfl (lv_at hl 0 rfl) ?_
    refine lv_iconst (v := 2) Bx.1 Bx.2.1 d_Rd_readRepetition_17 (by decide) ?_
    refine lv_aload_n Bx.1 Bx.2.1 d_Rd_readRepetition_18 rfl (lv_at hl 0 rfl) ?_
    refine f_get Bx hP (by omega) h9_2 rfl inRd 2 (by decide) kw_146 rfl rfl d_Rd_readRepetition_19 ?_
    refine f_xVr (na := 2) (As := [.int (2), .int (nI a)]) (rest := []) Bx hml E hP hD hS (by omega) h9_2 rfl (m_Rd_addElementX l hlt hn hT hf hRX (by omega)) kw_419 kw_421 sel_Rd_addElement kw_6 kw_422 (by decide +kernel) ⟨rfl, rfl⟩ ⟨Nat.le_of_ble_eq_true rfl, Nat.le_of_ble_eq_true rfl⟩ rfl hl.1 (Nat.le_of_ble_eq_true rfl) d_Rd_readRepetition_22 ⟨Nat.le_of_ble_eq_true rfl, Nat.le_of_ble_eq_true rfl⟩ (fun X ce q9 memx H locs hx9 hP hS g1 g2 g3 => f_out hlocks hno hP hS g1 g2 g3 ⟨Nat.le_of_ble_eq_true rfl, Nat.le_of_ble_eq_true rfl⟩ ⟨hx9.1, Or.inl (rep_E (bpF_1 hb18) hx9.2)⟩) (fun r19 mem20 H locs hq hP hS => ?_)
    have hD : va_D (Az sz) (fw n ad mem20) := fw_D hD
    obtain ⟨hr923, hec22, hRX21⟩ := hq
    subst hr923
    obtain ⟨ft24, h9_25⟩ := hRX21.2.1
    have h1_26 : mem20 1 = .inr (0, [.ref (ad 2), .int (nI Z)]) := (hRX21.1.2.2 1 (by omega)).trans hT.1
    have h2_27 : mem20 2 = .inl (cy 0, 240, .inl f) := (hRX21.1.2.2 2 (by omega)).trans hT.2.2
    have h5_28 := hRX21.1.1.2.1
    have hbd34 := hRX21.1.1.1
    obtain ⟨S29, g30, hS_31, h220_32, h221_33⟩ := hRX21.1.1.2.2.2.2.2.2
    obtain ⟨k35, lo36, hi37, as38, pa39, ne40, he_41, ho_42⟩ := (hRX21.1.1.2.2.2.2.2.1 Ec (by omega)).1
    refine lv_astore_n (lv' := [(2, .ref (ad (20 + 2 * Ec))), (0, .ref (ad 222)), (1, .int (0))]) Bx.1 Bx.2.1 d_Rd_readRepetition_25 rfl hl (by decide) rfl (fun ls hl => ?_)
    refine lv_aload_n Bx.1 Bx.2.1 d_Rd_readRepetition_26 rfl (lv_at hl 1 rfl) ?_
    refine lv_aload_n Bx.1 Bx.2.1 d_Rd_readRepetition_27 rfl (lv_at hl 0 rfl) ?_
    have hdg := bpF_1 hb18
    have hE9 := hec22
    refine f_xVv (na := 1) (As := [.ref (ad (20 + 2 * Ec))]) (rest := []) Bx hml E hP hD hS (by omega) h9_25 rfl (m_Rd_readRepeatX l hlt hn hT hf hRX21 (by omega) (by omega) (by omega) hdg) kw_482 kw_484 sel_Rd_readRepeat kw_6 kw_485 (by decide +kernel) ⟨rfl, rfl⟩ ⟨Nat.le_of_ble_eq_true rfl, Nat.le_of_ble_eq_true rfl⟩ rfl hl.1 (Nat.le_of_ble_eq_true rfl) d_Rd_readRepetition_28 ⟨Nat.le_of_ble_eq_true rfl, Nat.le_of_ble_eq_true rfl⟩ (fun X ce q9 memx H locs hx9 hP hS g1 g2 g3 => f_out hlocks hno hP hS g1 g2 g3 ⟨Nat.le_of_ble_eq_true rfl, Nat.le_of_ble_eq_true rfl⟩ ⟨hx9.1, hx9.2.elim (fun v1 z => z.elim (fun b1 z => z.elim (fun v2 z => z.elim (fun b2 z => Or.inl (rep_bad hdg hE9 z.1 z.2.1 (Or.inl z.2.2))))))⟩) (fun mem44 H locs hq hP hS => ?_)
    have hD : va_D (Az sz) (fw n ad mem44) := fw_D hD
    obtain ⟨v1, b1, v2, b2, hr1, hr2, hnv, hb8, hb9, hRXr⟩ := hq
    obtain ⟨ft45, h9_46⟩ := hRXr.2.1
    have h1_47 : mem44 1 = .inr (0, [.ref (ad 2), .int (nI Z)]) := (hRXr.1.2.2 1 (by omega)).trans hT.1
    have h2_48 : mem44 2 = .inl (cy 0, 240, .inl f) := (hRXr.1.2.2 2 (by omega)).trans hT.2.2
    have h5_49 := hRXr.1.1.2.1
    have hbd55 := hRXr.1.1.1
    obtain ⟨S50, g51, hS_52, h220_53, h221_54⟩ := hRXr.1.1.2.2.2.2.2.2
    obtain ⟨k56, lo57, hi58, as59, pa60, ne61, he_62, ho_63⟩ := (hRXr.1.1.2.2.2.2.2.1 Ec (by omega)).1
    refine lv_aload_n Bx.1 Bx.2.1 d_Rd_readRepetition_31 rfl (lv_at hl 0 rfl) ?_
    refine lv_aload_n Bx.1 Bx.2.1 d_Rd_readRepetition_32 rfl (lv_at hl 1 rfl) ?_
    refine lv_iload_n Bx.1 Bx.2.1 d_Rd_readRepetition_33 rfl (lv_at hl 2 rfl) ?_
    refine f_xVr (na := 1) (As := [.int (0)]) (rest := [.ref (ad (20 + 2 * Ec))]) Bx hml E hP hD hS (by omega) h9_46 rfl (m_Rd_readElement_0X l hlt hn hT hf hRXr (by omega) (u := u) (A := repB A 0 Ec v1 v2) (by omega)) kw_443 kw_445 sel_Rd_readElement kw_6 kw_446 (by decide +kernel) ⟨rfl, rfl⟩ ⟨Nat.le_of_ble_eq_true rfl, Nat.le_of_ble_eq_true rfl⟩ rfl hl.1 (Nat.le_of_ble_eq_true rfl) d_Rd_readRepetition_34 ⟨Nat.le_of_ble_eq_true rfl, Nat.le_of_ble_eq_true rfl⟩ (fun X ce q9 memx H locs hx9 hP hS g1 g2 g3 => f_out hlocks hno hP hS g1 g2 g3 ⟨Nat.le_of_ble_eq_true rfl, Nat.le_of_ble_eq_true rfl⟩ ⟨hx9.1, rep_fai hdg hE9 hr1 hr2 hnv hx9.2⟩) (fun r64 mem65 H locs hq hP hS => ?_)
    have hD : va_D (Az sz) (fw n ad mem65) := fw_D hD
    obtain ⟨kx66, a67, R68, E69, A70, nn71, to72, hr973, hb74, hb75, hb76, hb77, hb78, htk79, hRX80, hsc81, hok82⟩ := hq
    subst hr973
    obtain ⟨ft83, h9_84⟩ := hRX80.2.1
    have h1_85 : mem65 1 = .inr (0, [.ref (ad 2), .int (nI Z)]) := (hRX80.1.2.2 1 (by omega)).trans hT.1
    have h2_86 : mem65 2 = .inl (cy 0, 240, .inl f) := (hRX80.1.2.2 2 (by omega)).trans hT.2.2
    have h5_87 := hRX80.1.1.2.1
    have hbd93 := hRX80.1.1.1
    obtain ⟨S88, g89, hS_90, h220_91, h221_92⟩ := hRX80.1.1.2.2.2.2.2.2
    obtain ⟨k94, lo95, hi96, as97, pa98, ne99, he_100, ho_101⟩ := (hRX80.1.1.2.2.2.2.2.1 Ec (by omega)).1
    obtain ⟨k102, lo103, hi104, as105, pa106, ne107, he_108, ho_109⟩ := (hRX80.1.1.2.2.2.2.2.1 kx66 (by omega)).1
    have hbd110 := hRX80.1.1.1
    refine f_putN Bx hP hD hS (by omega) he_100 rfl inEl tyEl okEl nmEl 4 (by decide) kw_87 rfl rfl rfl rfl (Nat.le_of_ble_eq_true rfl) d_Rd_readRepetition_37 (fun H locs hP hS => ?_)
    obtain ⟨mem111, e_mem111⟩ : ∃ z, z = va_up mem65 ((20 + 2 * Ec)) (.inr (2, [.int (k94), .int (lo95), .int (hi96), as97, .ref (ad (20 + 2 * kx66)), ne99, .ref (ad (21 + 2 * Ec))])) := ⟨_, rfl⟩
    have hP : va_P D vcl (fw n ad mem111) H := by rw [e_mem111]; exact hP
    have hD : va_D (Az sz) (fw n ad mem111) := fw_D hD
    have h_mem111 : mem111 ((20 + 2 * Ec)) = .inr (2, [.int (k94), .int (lo95), .int (hi96), as97, .ref (ad (20 + 2 * kx66)), ne99, .ref (ad (21 + 2 * Ec))]) := by rw [e_mem111, va_up_self]
    have hh112 := (va_up_ne mem65 (.inr (2, [.int (k94), .int (lo95), .int (hi96), as97, .ref (ad (20 + 2 * kx66)), ne99, .ref (ad (21 + 2 * Ec))])) (show (222 : Nat) ≠ (20 + 2 * Ec) by first | decide | assumption | omega)).trans h9_84
    rw [← e_mem111] at hh112
    have hh113 := (va_up_ne mem65 (.inr (2, [.int (k94), .int (lo95), .int (hi96), as97, .ref (ad (20 + 2 * kx66)), ne99, .ref (ad (21 + 2 * Ec))])) (show (1 : Nat) ≠ (20 + 2 * Ec) by first | decide | assumption | omega)).trans h1_85
    rw [← e_mem111] at hh113
    have hh114 := (va_up_ne mem65 (.inr (2, [.int (k94), .int (lo95), .int (hi96), as97, .ref (ad (20 + 2 * kx66)), ne99, .ref (ad (21 + 2 * Ec))])) (show (5 : Nat) ≠ (20 + 2 * Ec) by first | decide | assumption | omega)).trans h5_87
    rw [← e_mem111] at hh114
    have hh115 := (va_up_ne mem65 (.inr (2, [.int (k94), .int (lo95), .int (hi96), as97, .ref (ad (20 + 2 * kx66)), ne99, .ref (ad (21 + 2 * Ec))])) (show (220 : Nat) ≠ (20 + 2 * Ec) by first | decide | assumption | omega)).trans h220_91
    rw [← e_mem111] at hh115
    have hh116 := (va_up_ne mem65 (.inr (2, [.int (k94), .int (lo95), .int (hi96), as97, .ref (ad (20 + 2 * kx66)), ne99, .ref (ad (21 + 2 * Ec))])) (show ((20 + 2 * kx66) : Nat) ≠ (20 + 2 * Ec) by first | decide | assumption | omega)).trans he_108
    rw [← e_mem111] at hh116
    have hRX117 : RX cy ad lim (a67) (R68) (E69) (to72) (nn71) m0 mem111 := by rw [e_mem111]; exact hRX80.el (by omega) (hRX80.1.mk (by omega) (hRX80.1.1.upEl (by omega) (fun q9 => ⟨(ho_101 q9).1, Or.inr ⟨kx66, by omega, by omega, rfl⟩, (ho_101 q9).2.2⟩)))
    refine lv_aload_n Bx.1 Bx.2.1 d_Rd_readRepetition_40 rfl (lv_at hl 0 rfl) ?_
    exact x_aret hx hb hlocks hr (⟨Ec, a67, R68, E69, _, nn71, to72, rfl, by omega, by omega, by omega, by omega, by omega, htk79, hRX117, hsc81.eq (rep_suc hdg hE9 hr1 hr2 hnv hok82) (repB_ne (by decide) (by decide)) (repB_ne (by decide) (by decide))⟩) hP hS d_Rd_readRepetition_41
  · refine lv_aload_n Bx.1 Bx.2.1 d_Rd_readRepetition_10 rfl (lv_at hl 0 rfl) ?_
    refine lv_iload_n Bx.1 Bx.2.1 d_Rd_readRepetition_11 rfl (lv_at hl 1 rfl) ?_
    obtain ⟨hd0, h42⟩ := bpF_0 hb18
    refine f_xVr (na := 1) (As := [.int (0)]) (rest := []) Bx hml E hP hD hS (by omega) h9_2 rfl (m_Rd_readElement_0X l hlt hn hT hf hRX (by omega) (u := u) (A := A) (by omega)) kw_443 kw_445 sel_Rd_readElement kw_6 kw_446 (by decide +kernel) ⟨rfl, rfl⟩ ⟨Nat.le_of_ble_eq_true rfl, Nat.le_of_ble_eq_true rfl⟩ rfl hl.1 (Nat.le_of_ble_eq_true rfl) d_Rd_readRepetition_12 ⟨Nat.le_of_ble_eq_true rfl, Nat.le_of_ble_eq_true rfl⟩ (fun X ce q9 memx H locs hx9 hP hS g1 g2 g3 => f_out hlocks hno hP hS g1 g2 g3 ⟨Nat.le_of_ble_eq_true rfl, Nat.le_of_ble_eq_true rfl⟩ ⟨hx9.1, (hx9.2.resolve_right (fun z => z ⟨hbg, hd0, h42⟩)).eq (rep_no hd0 h42)⟩) (fun r118 mem119 H locs hq hP hS => ?_)
    have hD : va_D (Az sz) (fw n ad mem119) := fw_D hD
    obtain ⟨kx120, a121, R122, E123, A124, nn125, to126, hr9127, hb128, hb129, hb130, hb131, hb132, htk133, hRX134, hsc135, hok136⟩ := hq
    subst hr9127
    obtain ⟨ft137, h9_138⟩ := hRX134.2.1
    have h1_139 : mem119 1 = .inr (0, [.ref (ad 2), .int (nI Z)]) := (hRX134.1.2.2 1 (by omega)).trans hT.1
    have h2_140 : mem119 2 = .inl (cy 0, 240, .inl f) := (hRX134.1.2.2 2 (by omega)).trans hT.2.2
    have h5_141 := hRX134.1.1.2.1
    have hbd147 := hRX134.1.1.1
    obtain ⟨S142, g143, hS_144, h220_145, h221_146⟩ := hRX134.1.1.2.2.2.2.2.2
    obtain ⟨k148, lo149, hi150, as151, pa152, ne153, he_154, ho_155⟩ := (hRX134.1.1.2.2.2.2.2.1 kx120 (by omega)).1
    have hbd156 := hRX134.1.1.1
    exact x_aret hx hb hlocks hr (⟨kx120, a121, R122, E123, _, nn125, to126, rfl, by omega, by omega, by omega, by omega, by omega, htk133, hRX134, hsc135.eq (rep_no hd0 h42) rfl rfl⟩) hP hS d_Rd_readRepetition_15
set_option maxHeartbeats 4000000 in
set_option maxRecDepth 100000 in
theorem m_Rd_readSequence_0X (l : Launch) {D : va_G} {cy : Nat → ClassId} {sz n : Nat} {ad : Nat → Nat} {mem : Nat → va_E} {Z a R Ec lim : Nat} {f T : Nat → Int32} {to : Nat → Int32} {nm : Nat → Int64} {m0 : Nat → va_E} {u : Nat} {A : Ro} (hlt : l.stackTraces = false) (hn : 224 ≤ n) (hT : TX cy ad Z f m0) (hf : ∀ k, k < Z → f k = T k) (hRX : RX cy ad lim a R Ec to nm m0 mem) (haB : a ≤ 300) (haZ : a ≤ Z) : NXr l D cy sz n ad y_Rd_readSequence c_Rd_readSequence 5 (some (.object "AbnfChart$Element")) ({ frames := 54, cells := 1, slots := 6, locals := 1312 } : Room) mem [.ref (ad 222), .int (0)] (fun r mem' => ∃ (k' a' R' E' : Nat) (A' : Ro) (nm' : Nat → Int64) (to' : Nat → Int32), r = ad (20 + 2 * k') ∧ Ec ≤ k' ∧ k' < E' ∧ R ≤ R' ∧ a < a' ∧ a' ≤ Z ∧ TOK R R' to to' ∧ RX cy ad lim (gapF T Z a') R' E' to' nm' m0 mem' ∧ Suc T Z (seqS T Z a u R Ec 0 A nm) 0 R (A 235) (A 227) a' R' E' A' nm' ∧ ¬ (bgF (hereF Z T (gapF T Z a')) = true ∧ a' < gapF T Z a')) (fun X mem' => ((X = cIA ∨ X = cIS) ∧ ∃ rc' ec' : Nat, RS cy ad lim rc' ec' m0 mem') ∧ (Fai T Z (seqS T Z a u R Ec 0 A nm))) := by
  refine vx_ofW (cc := c_Rd_readSequence) (maxL := 5) (ret := (some (.object "AbnfChart$Element"))) (by decide) rfl ?_
  intro p e s m args below meth c s₁ B hml hno hv
  obtain ⟨rfl, E, hP, hD⟩ := hv
  have hx := B.exec
  have hb := B.bytes
  have hr := B.returns
  have hlocks := B.notSynchronized
  have Bx : MB p s m [.ref (ad 222), .int (0)].toArray c c_Rd_readSequence "AbnfChart$Reader" D cy := ⟨hx, hb, tb_all (atoms_spec B.pre) E.2.1, findClass_of_methodNamed B.named, E.1⟩
  have hS : va_S (Az sz) s.heap s.heap [] := va_S.rf
  have hl := lv_entry ([.ref (ad 222), .int (0)]) (n := 5) (Nat.le_of_ble_eq_true rfl)
  rw [lg_entry_eq]
  generalize (lg_sl ([.ref (ad 222), .int (0)]) ++ List.replicate (5 - (lg_sl ([.ref (ad 222), .int (0)])).length) Slot.unset).toArray = ls at hl ⊢
  have hl : lv_has ls 5 [(0, .ref (ad 222)), (1, .int (0))] := hl
  have hZ9 := hT.2.1
  have hbd9 := hRX.1.1.1
  obtain ⟨ft1, h9_2⟩ := hRX.2.1
  have h1_3 : mem 1 = .inr (0, [.ref (ad 2), .int (nI Z)]) := (hRX.1.2.2 1 (by omega)).trans hT.1
  have h2_4 : mem 2 = .inl (cy 0, 240, .inl f) := (hRX.1.2.2 2 (by omega)).trans hT.2.2
  have h5_5 := hRX.1.1.2.1
  have hbd11 := hRX.1.1.1
  obtain ⟨S6, g7, hS_8, h220_9, h221_10⟩ := hRX.1.1.2.2.2.2.2.2
  refine lv_aload_n Bx.1 Bx.2.1 d_Rd_readSequence_0 rfl (lv_at hl 0 rfl) ?_
  refine lv_iconst (v := 1) Bx.1 Bx.2.1 d_Rd_readSequence_1 (by decide) ?_
  refine f_xVr (na := 1) (As := [.int (1)]) (rest := []) Bx hml E hP hD hS (by omega) h9_2 rfl (m_Rd_beginRowX l hlt hn hT hf hRX (by omega)) kw_409 kw_411 sel_Rd_beginRow kw_6 kw_412 (by decide +kernel) ⟨rfl, rfl⟩ ⟨Nat.le_of_ble_eq_true rfl, Nat.le_of_ble_eq_true rfl⟩ rfl hl.1 (Nat.le_of_ble_eq_true rfl) d_Rd_readSequence_2 ⟨Nat.le_of_ble_eq_true rfl, Nat.le_of_ble_eq_true rfl⟩ (fun X ce q9 memx H locs hx9 hP hS g1 g2 g3 => f_out hlocks hno hP hS g1 g2 g3 ⟨Nat.le_of_ble_eq_true rfl, Nat.le_of_ble_eq_true rfl⟩ ⟨hx9.1, Or.inl (seq_no hx9.2)⟩) (fun r12 mem13 H locs hq hP hS => ?_)
  have hD : va_D (Az sz) (fw n ad mem13) := fw_D hD
  obtain ⟨hbg, hE9, hr9, hRXb⟩ := hq
  subst hr9
  obtain ⟨ft14, h9_15⟩ := hRXb.2.1
  have h1_16 : mem13 1 = .inr (0, [.ref (ad 2), .int (nI Z)]) := (hRXb.1.2.2 1 (by omega)).trans hT.1
  have h2_17 : mem13 2 = .inl (cy 0, 240, .inl f) := (hRXb.1.2.2 2 (by omega)).trans hT.2.2
  have h5_18 := hRXb.1.1.2.1
  have hbd24 := hRXb.1.1.1
  obtain ⟨S19, g20, hS_21, h220_22, h221_23⟩ := hRXb.1.1.2.2.2.2.2.2
  obtain ⟨k25, lo26, hi27, as28, pa29, ne30, he_31, ho_32⟩ := (hRXb.1.1.2.2.2.2.2.1 Ec (by omega)).1
  refine lv_astore_n (lv' := [(2, .ref (ad (20 + 2 * Ec))), (0, .ref (ad 222)), (1, .int (0))]) Bx.1 Bx.2.1 d_Rd_readSequence_5 rfl hl (by decide) rfl (fun ls hl => ?_)
  refine lv_aload_n Bx.1 Bx.2.1 d_Rd_readSequence_6 rfl (lv_at hl 1 rfl) ?_
  refine lv_iload_n Bx.1 Bx.2.1 d_Rd_readSequence_7 rfl (lv_at hl 2 rfl) ?_
  refine f_xVr (na := 1) (As := [.int (0)]) (rest := []) Bx hml E hP hD hS (by omega) h9_15 rfl (m_Rd_readRepetition_0X l hlt hn hT hf hRXb (by omega) (u := u) (A := seqA A 0 Ec) (by omega) hbg) kw_439 kw_441 sel_Rd_readRepetition kw_6 kw_442 (by decide +kernel) ⟨rfl, rfl⟩ ⟨Nat.le_of_ble_eq_true rfl, Nat.le_of_ble_eq_true rfl⟩ rfl hl.1 (Nat.le_of_ble_eq_true rfl) d_Rd_readSequence_8 ⟨Nat.le_of_ble_eq_true rfl, Nat.le_of_ble_eq_true rfl⟩ (fun X ce q9 memx H locs hx9 hP hS g1 g2 g3 => f_out hlocks hno hP hS g1 g2 g3 ⟨Nat.le_of_ble_eq_true rfl, Nat.le_of_ble_eq_true rfl⟩ ⟨hx9.1, hx9.2.eq (seq_ok hbg hE9)⟩) (fun r33 mem34 H locs hq hP hS => ?_)
  have hD : va_D (Az sz) (fw n ad mem34) := fw_D hD
  obtain ⟨kx35, a36, R37, E38, A39, nn40, to41, hr942, hb43, hb44, hb45, hb46, hb47, htk48, hRX49, hsc50⟩ := hq
  subst hr942
  obtain ⟨ft51, h9_52⟩ := hRX49.2.1
  have h1_53 : mem34 1 = .inr (0, [.ref (ad 2), .int (nI Z)]) := (hRX49.1.2.2 1 (by omega)).trans hT.1
  have h2_54 : mem34 2 = .inl (cy 0, 240, .inl f) := (hRX49.1.2.2 2 (by omega)).trans hT.2.2
  have h5_55 := hRX49.1.1.2.1
  have hbd61 := hRX49.1.1.1
  obtain ⟨S56, g57, hS_58, h220_59, h221_60⟩ := hRX49.1.1.2.2.2.2.2.2
  obtain ⟨k62, lo63, hi64, as65, pa66, ne67, he_68, ho_69⟩ := (hRX49.1.1.2.2.2.2.2.1 Ec (by omega)).1
  obtain ⟨k70, lo71, hi72, as73, pa74, ne75, he_76, ho_77⟩ := (hRX49.1.1.2.2.2.2.2.1 kx35 (by omega)).1
  have hbd78 := hRX49.1.1.1
  refine lv_astore_n (lv' := [(3, .ref (ad (20 + 2 * kx35))), (2, .ref (ad (20 + 2 * Ec))), (0, .ref (ad 222)), (1, .int (0))]) Bx.1 Bx.2.1 d_Rd_readSequence_11 rfl hl (by decide) rfl (fun ls hl => ?_)
  refine lv_aload_n Bx.1 Bx.2.1 d_Rd_readSequence_12 rfl (lv_at hl 1 rfl) ?_
  refine lv_aload_n Bx.1 Bx.2.1 d_Rd_readSequence_13 rfl (lv_at hl 0 rfl) ?_
  refine f_putN Bx hP hD hS (by omega) he_68 rfl inEl tyEl okEl nmEl 4 (by decide) kw_87 rfl rfl rfl rfl (Nat.le_of_ble_eq_true rfl) d_Rd_readSequence_14 (fun H locs hP hS => ?_)
  obtain ⟨mem79, e_mem79⟩ : ∃ z, z = va_up mem34 ((20 + 2 * Ec)) (.inr (2, [.int (k62), .int (lo63), .int (hi64), as65, .ref (ad (20 + 2 * kx35)), ne67, .ref (ad (21 + 2 * Ec))])) := ⟨_, rfl⟩
  have hP : va_P D vcl (fw n ad mem79) H := by rw [e_mem79]; exact hP
  have hD : va_D (Az sz) (fw n ad mem79) := fw_D hD
  have h_mem79 : mem79 ((20 + 2 * Ec)) = .inr (2, [.int (k62), .int (lo63), .int (hi64), as65, .ref (ad (20 + 2 * kx35)), ne67, .ref (ad (21 + 2 * Ec))]) := by rw [e_mem79, va_up_self]
  have hh80 := (va_up_ne mem34 (.inr (2, [.int (k62), .int (lo63), .int (hi64), as65, .ref (ad (20 + 2 * kx35)), ne67, .ref (ad (21 + 2 * Ec))])) (show (222 : Nat) ≠ (20 + 2 * Ec) by first | decide | assumption | omega)).trans h9_52
  rw [← e_mem79] at hh80
  have hh81 := (va_up_ne mem34 (.inr (2, [.int (k62), .int (lo63), .int (hi64), as65, .ref (ad (20 + 2 * kx35)), ne67, .ref (ad (21 + 2 * Ec))])) (show (1 : Nat) ≠ (20 + 2 * Ec) by first | decide | assumption | omega)).trans h1_53
  rw [← e_mem79] at hh81
  have hh82 := (va_up_ne mem34 (.inr (2, [.int (k62), .int (lo63), .int (hi64), as65, .ref (ad (20 + 2 * kx35)), ne67, .ref (ad (21 + 2 * Ec))])) (show (5 : Nat) ≠ (20 + 2 * Ec) by first | decide | assumption | omega)).trans h5_55
  rw [← e_mem79] at hh82
  have hh83 := (va_up_ne mem34 (.inr (2, [.int (k62), .int (lo63), .int (hi64), as65, .ref (ad (20 + 2 * kx35)), ne67, .ref (ad (21 + 2 * Ec))])) (show (220 : Nat) ≠ (20 + 2 * Ec) by first | decide | assumption | omega)).trans h220_59
  rw [← e_mem79] at hh83
  have hh84 := (va_up_ne mem34 (.inr (2, [.int (k62), .int (lo63), .int (hi64), as65, .ref (ad (20 + 2 * kx35)), ne67, .ref (ad (21 + 2 * Ec))])) (show ((20 + 2 * kx35) : Nat) ≠ (20 + 2 * Ec) by first | decide | assumption | omega)).trans he_76
  rw [← e_mem79] at hh84
  have hRX85 : RX cy ad lim (a36) (R37) (E38) (to41) (nn40) m0 mem79 := by rw [e_mem79]; exact hRX49.el (by omega) (hRX49.1.mk (by omega) (hRX49.1.1.upEl (by omega) (fun q9 => ⟨(ho_69 q9).1, Or.inr ⟨kx35, by omega, by omega, rfl⟩, (ho_69 q9).2.2⟩)))
  refine lv_iconst (v := 0) Bx.1 Bx.2.1 d_Rd_readSequence_17 (by decide) ?_
  refine lv_istore (lv' := [(4, .int (0)), (3, .ref (ad (20 + 2 * kx35))), (2, .ref (ad (20 + 2 * Ec))), (0, .ref (ad 222)), (1, .int (0))]) Bx.1 Bx.2.1 d_Rd_readSequence_18 hl (by decide) rfl (fun ls hl => ?_)
  have hsuc0 := hsc50.eq (seq_ok hbg hE9) (seqA_ne (by decide) (by decide)) (seqA_ne (by decide) (by decide))
  have loop86 : ∀ (d87 : Nat) (mem9 : Nat → va_E) (a1 : Nat) (R1 : Nat) (E1 : Nat) (A1 : Ro) (n1 : Nat → Int64) (to1 : Nat → Int32) (la : Nat) (k9 : Nat) (ls : Array Slot) (H : Heap) (locs : List Loc), (240 - k9 < d87) → (RX cy ad lim a1 R1 E1 to1 n1 m0 mem9) → (a < a1 ∧ a1 ≤ Z ∧ R ≤ R1 ∧ Ec < la ∧ la < E1 ∧ k9 < a1 ∧ k9 ≤ 240 ∧ Ec < E1) → (Suc T Z (seqS T Z a u R Ec 0 A nm) 0 R (A 235) (A 227) a1 R1 E1 A1 n1) → (TOK R R1 to to1) → (va_P D vcl (fw n ad mem9) H) → (va_D (Az sz) (fw n ad mem9)) → (va_S (Az sz) s.heap H locs) → (lv_has ls 5 [(4, .int (nI k9)), (3, .ref (ad (20 + 2 * la))), (2, .ref (ad (20 + 2 * Ec))), (0, .ref (ad 222)), (1, .int (0))]) → W p l e (headSpec (Cond.code y_Rd_readSequence c_Rd_readSequence 5 (some (.object "AbnfChart$Element")) :: tg) ({ frames := 54, cells := 1, slots := 6, locals := 1312 } : Room)).room s m [.ref (ad 222), .int (0)].toArray below meth c H locs 0 0 (vx_MQ below (QX (QR (fun r mem' => ∃ (k' a' R' E' : Nat) (A' : Ro) (nm' : Nat → Int64) (to' : Nat → Int32), r = ad (20 + 2 * k') ∧ Ec ≤ k' ∧ k' < E' ∧ R ≤ R' ∧ a < a' ∧ a' ≤ Z ∧ TOK R R' to to' ∧ RX cy ad lim (gapF T Z a') R' E' to' nm' m0 mem' ∧ Suc T Z (seqS T Z a u R Ec 0 A nm) 0 R (A 235) (A 227) a' R' E' A' nm' ∧ ¬ (bgF (hereF Z T (gapF T Z a')) = true ∧ a' < gapF T Z a')) (PP D n ad) (Az sz))) (XQ D sz n ad (fun X mem' => ((X = cIA ∨ X = cIS) ∧ ∃ rc' ec' : Nat, RS cy ad lim rc' ec' m0 mem') ∧ (Fai T Z (seqS T Z a u R Ec 0 A nm)))) [.ref (ad 222), .int (0)].toArray s 1 6 (Az sz)) (F0 m 20 ls []) := by
    intro d87
    induction d87 with
    | zero => intro mem9 a1 R1 E1 A1 n1 to1 la k9 ls H locs hmeas93; exact absurd hmeas93 (Nat.not_lt_zero _)
    | succ d87 ih92 =>
      intro mem9 a1 R1 E1 A1 n1 to1 la k9 ls H locs hmeas93 hz88 hz89 hz90 hz91 hP hD hS hl
      have hbd8 := hz89
      obtain ⟨ft94, h9_95⟩ := hz88.2.1
      have h1_96 : mem9 1 = .inr (0, [.ref (ad 2), .int (nI Z)]) := (hz88.1.2.2 1 (by omega)).trans hT.1
      have h2_97 : mem9 2 = .inl (cy 0, 240, .inl f) := (hz88.1.2.2 2 (by omega)).trans hT.2.2
      have h5_98 := hz88.1.1.2.1
      have hbd104 := hz88.1.1.1
      obtain ⟨S99, g100, hS_101, h220_102, h221_103⟩ := hz88.1.1.2.2.2.2.2.2
      obtain ⟨k105, lo106, hi107, as108, pa109, ne110, he_111, ho_112⟩ := (hz88.1.1.2.2.2.2.2.1 la (by omega)).1
      obtain ⟨c1, u1, ho, hg, hk9, hs9⟩ := id hz90
      refine lv_iload Bx.1 Bx.2.1 d_Rd_readSequence_20 (lv_at hl 0 rfl) ?_
      refine lv_sipush (v := 240) Bx.1 Bx.2.1 d_Rd_readSequence_22 (by decide) ?_
      refine lv_icmp_ge Bx.1 Bx.2.1 d_Rd_readSequence_25 rfl (fun hb113 => ?_) (fun hb113 => ?_)
      · have hN114 : 240 ≤ k9 := (nI_leI (by omega) (by omega)).mp (show nI (240) ≤ nI (k9) from hb113)
        exact absurd hbd8 (by omega)
      · have hN115 : ¬ 240 ≤ k9 := fun q9 => hb113 (show nI (240) ≤ nI (k9) from (nI_leI (by omega) (by omega)).mpr q9)
        refine lv_aload_n Bx.1 Bx.2.1 d_Rd_readSequence_28 rfl (lv_at hl 3 rfl) ?_
        refine f_callVi (na := 0) (As := []) (rest := []) Bx hml E hP hD hS (by omega) h9_95 rfl (m_Rd_readGapX l hn hT hf hz88 (by omega) (by omega)) kw_397 kw_399 sel_Rd_readGap kw_6 kw_400 (by decide +kernel) ⟨rfl, rfl⟩ ⟨Nat.le_of_ble_eq_true rfl, Nat.le_of_ble_eq_true rfl⟩ rfl hl.1 (Nat.le_of_ble_eq_true rfl) d_Rd_readSequence_29 ⟨Nat.le_of_ble_eq_true rfl, Nat.le_of_ble_eq_true rfl⟩ (fun r116 mem117 H locs hq hP hS => ?_)
        have hD : va_D (Az sz) (fw n ad mem117) := fw_D hD
        obtain ⟨g118, eg119⟩ : ∃ z, z = gapF T Z (a1) := ⟨_, rfl⟩
        rw [← eg119] at hq
        obtain ⟨hRX120, hgc121⟩ := hq
        have hg122 : a1 ≤ g118 := by rw [eg119]; exact gapF_ge T Z _
        have hg123 : g118 ≤ Z := by rw [eg119]; exact gapF_le T (by omega)
        obtain ⟨ft124, h9_125⟩ := hRX120.2.1
        have h1_126 : mem117 1 = .inr (0, [.ref (ad 2), .int (nI Z)]) := (hRX120.1.2.2 1 (by omega)).trans hT.1
        have h2_127 : mem117 2 = .inl (cy 0, 240, .inl f) := (hRX120.1.2.2 2 (by omega)).trans hT.2.2
        have h5_128 := hRX120.1.1.2.1
        have hbd134 := hRX120.1.1.1
        obtain ⟨S129, g130, hS_131, h220_132, h221_133⟩ := hRX120.1.1.2.2.2.2.2.2
        obtain ⟨k135, lo136, hi137, as138, pa139, ne140, he_141, ho_142⟩ := (hRX120.1.1.2.2.2.2.2.1 la (by omega)).1
        rcases hgc121 with ⟨hr143, hga144⟩ | ⟨hr143, hga144⟩
        · subst hr143
          refine lv_if_eq Bx.1 Bx.2.1 d_Rd_readSequence_32 rfl (fun hb145 => ?_) (fun hb145 => ?_)
          · exact absurd hb145 (by decide)
          · refine lv_aload_n Bx.1 Bx.2.1 d_Rd_readSequence_35 rfl (lv_at hl 3 rfl) ?_
            refine f_callVi (na := 0) (As := []) (rest := []) Bx hml E hP hD hS (by omega) h9_125 rfl (m_Rd_peekX l hn hT hf hRX120 (by omega)) kw_353 kw_355 sel_Rd_peek kw_6 kw_356 (by decide +kernel) ⟨rfl, rfl⟩ ⟨Nat.le_of_ble_eq_true rfl, Nat.le_of_ble_eq_true rfl⟩ rfl hl.1 (Nat.le_of_ble_eq_true rfl) d_Rd_readSequence_36 ⟨Nat.le_of_ble_eq_true rfl, Nat.le_of_ble_eq_true rfl⟩ (fun r147 mem148 H locs hq hP hS => ?_)
            have hD : va_D (Az sz) (fw n ad mem148) := fw_D hD
            obtain ⟨hqe, hpk146⟩ := hq
            rw [hqe] at hP hD
            subst hpk146
            refine f_callSi (na := 1) (As := [.int (hereF Z T (g118))]) (rest := []) Bx hml E.2.1 (m_Rd_beginsRepetitionX l (hereF Z T (g118))) kw_413 kw_414 kw_6 kw_415 (by decide +kernel) ⟨rfl, rfl⟩ ⟨Nat.le_of_ble_eq_true rfl, Nat.le_of_ble_eq_true rfl⟩ rfl hl.1 (Nat.le_of_ble_eq_true rfl) d_Rd_readSequence_39 ⟨Nat.le_of_ble_eq_true rfl, Nat.le_of_ble_eq_true rfl⟩ (fun r151 hs150 => ?_)
            subst hs150
            refine lv_if_eq Bx.1 Bx.2.1 d_Rd_readSequence_42 rfl (fun hb152 => ?_) (fun hb152 => ?_)
            · refine lv_aload_n Bx.1 Bx.2.1 d_Rd_readSequence_65 rfl (lv_at hl 2 rfl) ?_
              exact x_aret hx hb hlocks hr (⟨Ec, a1, R1, E1, A1, n1, to1, rfl, by omega, by omega, by omega, by omega, by omega, hz91, by rw [← eg119]; exact hRX120, hz90, fun z => by have q9 := z.1; rw [← eg119, bg_0 hb152] at q9; exact absurd q9 (by decide)⟩) hP hS d_Rd_readSequence_66
            · have hbg2 : bgF (hereF Z T (gapF T Z a1)) = true := by rw [← eg119]; exact bg_1 hb152
              have hgt2 : a1 < gapF T Z a1 := by rw [← eg119]; omega
              refine lv_aload_n Bx.1 Bx.2.1 d_Rd_readSequence_45 rfl (lv_at hl 1 rfl) ?_
              refine lv_aload_n Bx.1 Bx.2.1 d_Rd_readSequence_46 rfl (lv_at hl 3 rfl) ?_
              refine lv_iload_n Bx.1 Bx.2.1 d_Rd_readSequence_47 rfl (lv_at hl 4 rfl) ?_
              refine f_xVr (na := 1) (As := [.int (0)]) (rest := [.ref (ad (20 + 2 * la))]) Bx hml E hP hD hS (by omega) h9_125 rfl (m_Rd_readRepetition_0X l hlt hn hT hf hRX120 (by omega) (u := u1) (A := A1) (by omega) (by rw [eg119]; exact hbg2)) kw_439 kw_441 sel_Rd_readRepetition kw_6 kw_442 (by decide +kernel) ⟨rfl, rfl⟩ ⟨Nat.le_of_ble_eq_true rfl, Nat.le_of_ble_eq_true rfl⟩ rfl hl.1 (Nat.le_of_ble_eq_true rfl) d_Rd_readSequence_48 ⟨Nat.le_of_ble_eq_true rfl, Nat.le_of_ble_eq_true rfl⟩ (fun X ce q9 memx H locs hx9 hP hS g1 g2 g3 => f_out hlocks hno hP hS g1 g2 g3 ⟨Nat.le_of_ble_eq_true rfl, Nat.le_of_ble_eq_true rfl⟩ ⟨hx9.1, Fai.go ho hg (go_rept hbg2 hgt2) (by rw [← eg119]; exact hx9.2)⟩) (fun r153 mem154 H locs hq hP hS => ?_)
              have hD : va_D (Az sz) (fw n ad mem154) := fw_D hD
              obtain ⟨kx155, a156, R157, E158, A159, nn160, to161, hr9162, hb163, hb164, hb165, hb166, hb167, htk168, hRX169, hsc170⟩ := hq
              subst hr9162
              obtain ⟨ft171, h9_172⟩ := hRX169.2.1
              have h1_173 : mem154 1 = .inr (0, [.ref (ad 2), .int (nI Z)]) := (hRX169.1.2.2 1 (by omega)).trans hT.1
              have h2_174 : mem154 2 = .inl (cy 0, 240, .inl f) := (hRX169.1.2.2 2 (by omega)).trans hT.2.2
              have h5_175 := hRX169.1.1.2.1
              have hbd181 := hRX169.1.1.1
              obtain ⟨S176, g177, hS_178, h220_179, h221_180⟩ := hRX169.1.1.2.2.2.2.2.2
              obtain ⟨k182, lo183, hi184, as185, pa186, ne187, he_188, ho_189⟩ := (hRX169.1.1.2.2.2.2.2.1 la (by omega)).1
              obtain ⟨k190, lo191, hi192, as193, pa194, ne195, he_196, ho_197⟩ := (hRX169.1.1.2.2.2.2.2.1 kx155 (by omega)).1
              have hbd198 := hRX169.1.1.1
              have hsuc3 := Suc.go ho hg hk9 hs9 (by omega) (go_rept hbg2 hgt2) (by rw [← eg119]; exact hsc170)
              have htk3 := hz91.trans htk168 (by omega)
              refine f_putN Bx hP hD hS (by omega) he_188 rfl inEl tyEl okEl nmEl 5 (by decide) kw_91 rfl rfl rfl rfl (Nat.le_of_ble_eq_true rfl) d_Rd_readSequence_51 (fun H locs hP hS => ?_)
              obtain ⟨mem199, e_mem199⟩ : ∃ z, z = va_up mem154 ((20 + 2 * la)) (.inr (2, [.int (k182), .int (lo183), .int (hi184), as185, pa186, .ref (ad (20 + 2 * kx155)), .ref (ad (21 + 2 * la))])) := ⟨_, rfl⟩
              have hP : va_P D vcl (fw n ad mem199) H := by rw [e_mem199]; exact hP
              have hD : va_D (Az sz) (fw n ad mem199) := fw_D hD
              have h_mem199 : mem199 ((20 + 2 * la)) = .inr (2, [.int (k182), .int (lo183), .int (hi184), as185, pa186, .ref (ad (20 + 2 * kx155)), .ref (ad (21 + 2 * la))]) := by rw [e_mem199, va_up_self]
              have hh200 := (va_up_ne mem154 (.inr (2, [.int (k182), .int (lo183), .int (hi184), as185, pa186, .ref (ad (20 + 2 * kx155)), .ref (ad (21 + 2 * la))])) (show (222 : Nat) ≠ (20 + 2 * la) by first | decide | assumption | omega)).trans h9_172
              rw [← e_mem199] at hh200
              have hh201 := (va_up_ne mem154 (.inr (2, [.int (k182), .int (lo183), .int (hi184), as185, pa186, .ref (ad (20 + 2 * kx155)), .ref (ad (21 + 2 * la))])) (show (1 : Nat) ≠ (20 + 2 * la) by first | decide | assumption | omega)).trans h1_173
              rw [← e_mem199] at hh201
              have hh202 := (va_up_ne mem154 (.inr (2, [.int (k182), .int (lo183), .int (hi184), as185, pa186, .ref (ad (20 + 2 * kx155)), .ref (ad (21 + 2 * la))])) (show (5 : Nat) ≠ (20 + 2 * la) by first | decide | assumption | omega)).trans h5_175
              rw [← e_mem199] at hh202
              have hh203 := (va_up_ne mem154 (.inr (2, [.int (k182), .int (lo183), .int (hi184), as185, pa186, .ref (ad (20 + 2 * kx155)), .ref (ad (21 + 2 * la))])) (show (220 : Nat) ≠ (20 + 2 * la) by first | decide | assumption | omega)).trans h220_179
              rw [← e_mem199] at hh203
              have hh204 := (va_up_ne mem154 (.inr (2, [.int (k182), .int (lo183), .int (hi184), as185, pa186, .ref (ad (20 + 2 * kx155)), .ref (ad (21 + 2 * la))])) (show ((20 + 2 * kx155) : Nat) ≠ (20 + 2 * la) by first | decide | assumption | omega)).trans he_196
              rw [← e_mem199] at hh204
              have hRX205 : RX cy ad lim (a156) (R157) (E158) (to161) (nn160) m0 mem199 := by rw [e_mem199]; exact hRX169.el (by omega) (hRX169.1.mk (by omega) (hRX169.1.1.upEl (by omega) (fun q9 => ⟨(ho_189 q9).1, (ho_189 q9).2.1, Or.inr ⟨kx155, by omega, by omega, rfl⟩⟩)))
              refine lv_aload_n Bx.1 Bx.2.1 d_Rd_readSequence_54 rfl (lv_at hl 1 rfl) ?_
              refine f_getN Bx hP (by omega) h_mem199 rfl inEl 5 (by decide) kw_91 rfl rfl d_Rd_readSequence_55 ?_
              refine lv_astore_n (lv' := [(3, .ref (ad (20 + 2 * kx155))), (4, .int (nI k9)), (2, .ref (ad (20 + 2 * Ec))), (0, .ref (ad 222)), (1, .int (0))]) Bx.1 Bx.2.1 d_Rd_readSequence_58 rfl hl (by decide) rfl (fun ls hl => ?_)
              refine lv_iinc (lv' := [(4, .int ((nI k9 + (1)))), (3, .ref (ad (20 + 2 * kx155))), (2, .ref (ad (20 + 2 * Ec))), (0, .ref (ad 222)), (1, .int (0))]) Bx.1 Bx.2.1 d_Rd_readSequence_59 hl (k := 1) rfl rfl (by decide) rfl (fun ls hl => ?_)
              rw [show (nI k9 + (1) : Int32) = nI (k9 + 1) from nI_1 (k9)] at hl
              refine lv_goto Bx.1 Bx.2.1 d_Rd_readSequence_62 rfl ?_
              exact ih92 mem199 (a156) (R157) (E158) (A159) (nn160) (to161) (kx155) (k9 + 1) _ _ _ (by have := hmeas93; omega) (hRX205) (⟨by omega, by omega, by omega, by omega, by omega, by omega, by omega, by omega⟩) (hsuc3) (htk3) hP hD hS (lv_sub hl [0, 1, 2, 3, 4] rfl)
        · subst hr143
          refine lv_if_eq Bx.1 Bx.2.1 d_Rd_readSequence_32 rfl (fun hb206 => ?_) (fun hb206 => ?_)
          · refine lv_aload_n Bx.1 Bx.2.1 d_Rd_readSequence_65 rfl (lv_at hl 2 rfl) ?_
            exact x_aret hx hb hlocks hr (⟨Ec, a1, R1, E1, A1, n1, to1, rfl, by omega, by omega, by omega, by omega, by omega, hz91, by rw [← eg119]; exact hRX120, hz90, fun z => by have := z.2; rw [← eg119] at this; omega⟩) hP hS d_Rd_readSequence_66
          · exact absurd hb206 (by decide)
  exact loop86 _ mem79 (a36) (R37) (E38) (A39) (nn40) (to41) (kx35) (0) _ _ _ (Nat.lt_succ_self _) (hRX85) (⟨by omega, by omega, by omega, by omega, by omega, by omega, by omega, by omega⟩) (hsuc0) (htk48) hP hD hS (lv_sub hl [0, 1, 2, 3, 4] rfl)
set_option maxHeartbeats 4000000 in
set_option maxRecDepth 100000 in
theorem m_Rd_readAlternatives_0X (l : Launch) {D : va_G} {cy : Nat → ClassId} {sz n : Nat} {ad : Nat → Nat} {mem : Nat → va_E} {Z a R Ec lim : Nat} {f T : Nat → Int32} {to : Nat → Int32} {nm : Nat → Int64} {m0 : Nat → va_E} {u : Nat} {A : Ro} (hlt : l.stackTraces = false) (hn : 224 ≤ n) (hT : TX cy ad Z f m0) (hf : ∀ k, k < Z → f k = T k) (hRX : RX cy ad lim a R Ec to nm m0 mem) (haB : a ≤ 300) (haZ : a ≤ Z) : NXr l D cy sz n ad y_Rd_readAlternatives c_Rd_readAlternatives 5 (some (.object "AbnfChart$Element")) ({ frames := 55, cells := 1, slots := 6, locals := 1338 } : Room) mem [.ref (ad 222), .int (0)] (fun r mem' => ∃ (k' a' R' E' : Nat) (A' : Ro) (nm' : Nat → Int64) (to' : Nat → Int32), r = ad (20 + 2 * k') ∧ Ec ≤ k' ∧ k' < E' ∧ R ≤ R' ∧ a < a' ∧ a' ≤ Z ∧ TOK R R' to to' ∧ RX cy ad lim (gapF T Z a') R' E' to' nm' m0 mem' ∧ Suc T Z (seqS T Z a u R (Ec + 1) 0 A nm) 0 R (A 235) (A 227) a' R' E' A' nm' ∧ bgF (hereF Z T a) = true ∧ Ec < 100 ∧ ¬ hereF Z T (gapF T Z a') = 47 ∧ ¬ (bgF (hereF Z T (gapF T Z a')) = true ∧ a' < gapF T Z a')) (fun X mem' => ((X = cIA ∨ X = cIS) ∧ ∃ rc' ec' : Nat, RS cy ad lim rc' ec' m0 mem') ∧ (bgF (hereF Z T a) = false ∨ Ec = 100 ∨ (bgF (hereF Z T a) = true ∧ Ec < 100 ∧ Fai T Z (seqS T Z a u R (Ec + 1) 0 A nm)))) := by
  refine vx_ofW (cc := c_Rd_readAlternatives) (maxL := 5) (ret := (some (.object "AbnfChart$Element"))) (by decide) rfl ?_
  intro p e s m args below meth c s₁ B hml hno hv
  obtain ⟨rfl, E, hP, hD⟩ := hv
  have hx := B.exec
  have hb := B.bytes
  have hr := B.returns
  have hlocks := B.notSynchronized
  have Bx : MB p s m [.ref (ad 222), .int (0)].toArray c c_Rd_readAlternatives "AbnfChart$Reader" D cy := ⟨hx, hb, tb_all (atoms_spec B.pre) E.2.1, findClass_of_methodNamed B.named, E.1⟩
  have hS : va_S (Az sz) s.heap s.heap [] := va_S.rf
  have hl := lv_entry ([.ref (ad 222), .int (0)]) (n := 5) (Nat.le_of_ble_eq_true rfl)
  rw [lg_entry_eq]
  generalize (lg_sl ([.ref (ad 222), .int (0)]) ++ List.replicate (5 - (lg_sl ([.ref (ad 222), .int (0)])).length) Slot.unset).toArray = ls at hl ⊢
  have hl : lv_has ls 5 [(0, .ref (ad 222)), (1, .int (0))] := hl
  have hZ9 := hT.2.1
  have hbd9 := hRX.1.1.1
  obtain ⟨ft1, h9_2⟩ := hRX.2.1
  have h1_3 : mem 1 = .inr (0, [.ref (ad 2), .int (nI Z)]) := (hRX.1.2.2 1 (by omega)).trans hT.1
  have h2_4 : mem 2 = .inl (cy 0, 240, .inl f) := (hRX.1.2.2 2 (by omega)).trans hT.2.2
  have h5_5 := hRX.1.1.2.1
  have hbd11 := hRX.1.1.1
  obtain ⟨S6, g7, hS_8, h220_9, h221_10⟩ := hRX.1.1.2.2.2.2.2.2
  refine lv_aload_n Bx.1 Bx.2.1 d_Rd_readAlternatives_0 rfl (lv_at hl 0 rfl) ?_
  refine lv_iconst (v := 0) Bx.1 Bx.2.1 d_Rd_readAlternatives_1 (by decide) ?_
  refine f_xVr (na := 1) (As := [.int (0)]) (rest := []) Bx hml E hP hD hS (by omega) h9_2 rfl (m_Rd_beginRowX l hlt hn hT hf hRX (by omega)) kw_409 kw_411 sel_Rd_beginRow kw_6 kw_412 (by decide +kernel) ⟨rfl, rfl⟩ ⟨Nat.le_of_ble_eq_true rfl, Nat.le_of_ble_eq_true rfl⟩ rfl hl.1 (Nat.le_of_ble_eq_true rfl) d_Rd_readAlternatives_2 ⟨Nat.le_of_ble_eq_true rfl, Nat.le_of_ble_eq_true rfl⟩ (fun X ce q9 memx H locs hx9 hP hS g1 g2 g3 => f_out hlocks hno hP hS g1 g2 g3 ⟨Nat.le_of_ble_eq_true rfl, Nat.le_of_ble_eq_true rfl⟩ ⟨hx9.1, hx9.2.elim Or.inl (fun z => Or.inr (Or.inl z))⟩) (fun r12 mem13 H locs hq hP hS => ?_)
  have hD : va_D (Az sz) (fw n ad mem13) := fw_D hD
  obtain ⟨hbg, hE9, hr9, hRXb⟩ := hq
  subst hr9
  obtain ⟨ft14, h9_15⟩ := hRXb.2.1
  have h1_16 : mem13 1 = .inr (0, [.ref (ad 2), .int (nI Z)]) := (hRXb.1.2.2 1 (by omega)).trans hT.1
  have h2_17 : mem13 2 = .inl (cy 0, 240, .inl f) := (hRXb.1.2.2 2 (by omega)).trans hT.2.2
  have h5_18 := hRXb.1.1.2.1
  have hbd24 := hRXb.1.1.1
  obtain ⟨S19, g20, hS_21, h220_22, h221_23⟩ := hRXb.1.1.2.2.2.2.2.2
  obtain ⟨k25, lo26, hi27, as28, pa29, ne30, he_31, ho_32⟩ := (hRXb.1.1.2.2.2.2.2.1 Ec (by omega)).1
  refine lv_astore_n (lv' := [(2, .ref (ad (20 + 2 * Ec))), (0, .ref (ad 222)), (1, .int (0))]) Bx.1 Bx.2.1 d_Rd_readAlternatives_5 rfl hl (by decide) rfl (fun ls hl => ?_)
  refine lv_aload_n Bx.1 Bx.2.1 d_Rd_readAlternatives_6 rfl (lv_at hl 1 rfl) ?_
  refine lv_iload_n Bx.1 Bx.2.1 d_Rd_readAlternatives_7 rfl (lv_at hl 2 rfl) ?_
  refine f_xVr (na := 1) (As := [.int (0)]) (rest := []) Bx hml E hP hD hS (by omega) h9_15 rfl (m_Rd_readSequence_0X l hlt hn hT hf hRXb (by omega) (u := u) (A := A) (by omega)) kw_435 kw_437 sel_Rd_readSequence kw_6 kw_438 (by decide +kernel) ⟨rfl, rfl⟩ ⟨Nat.le_of_ble_eq_true rfl, Nat.le_of_ble_eq_true rfl⟩ rfl hl.1 (Nat.le_of_ble_eq_true rfl) d_Rd_readAlternatives_8 ⟨Nat.le_of_ble_eq_true rfl, Nat.le_of_ble_eq_true rfl⟩ (fun X ce q9 memx H locs hx9 hP hS g1 g2 g3 => f_out hlocks hno hP hS g1 g2 g3 ⟨Nat.le_of_ble_eq_true rfl, Nat.le_of_ble_eq_true rfl⟩ ⟨hx9.1, Or.inr (Or.inr ⟨hbg, hE9, hx9.2⟩)⟩) (fun r33 mem34 H locs hq hP hS => ?_)
  have hD : va_D (Az sz) (fw n ad mem34) := fw_D hD
  obtain ⟨kx35, a36, R37, E38, A39, nn40, to41, hr942, hb43, hb44, hb45, hb46, hb47, htk48, hRX49, hsc50, hnb51⟩ := hq
  subst hr942
  obtain ⟨g52, eg53⟩ : ∃ z, z = gapF T Z a36 := ⟨_, rfl⟩
  have hg54 : a36 ≤ g52 := by rw [eg53]; exact gapF_ge T Z _
  have hg55 : g52 ≤ Z := by rw [eg53]; exact gapF_le T (by omega)
  rw [← eg53] at hRX49
  obtain ⟨ft56, h9_57⟩ := hRX49.2.1
  have h1_58 : mem34 1 = .inr (0, [.ref (ad 2), .int (nI Z)]) := (hRX49.1.2.2 1 (by omega)).trans hT.1
  have h2_59 : mem34 2 = .inl (cy 0, 240, .inl f) := (hRX49.1.2.2 2 (by omega)).trans hT.2.2
  have h5_60 := hRX49.1.1.2.1
  have hbd66 := hRX49.1.1.1
  obtain ⟨S61, g62, hS_63, h220_64, h221_65⟩ := hRX49.1.1.2.2.2.2.2.2
  obtain ⟨k67, lo68, hi69, as70, pa71, ne72, he_73, ho_74⟩ := (hRX49.1.1.2.2.2.2.2.1 Ec (by omega)).1
  obtain ⟨k75, lo76, hi77, as78, pa79, ne80, he_81, ho_82⟩ := (hRX49.1.1.2.2.2.2.2.1 kx35 (by omega)).1
  have hbd83 := hRX49.1.1.1
  refine lv_astore_n (lv' := [(3, .ref (ad (20 + 2 * kx35))), (2, .ref (ad (20 + 2 * Ec))), (0, .ref (ad 222)), (1, .int (0))]) Bx.1 Bx.2.1 d_Rd_readAlternatives_11 rfl hl (by decide) rfl (fun ls hl => ?_)
  refine lv_aload_n Bx.1 Bx.2.1 d_Rd_readAlternatives_12 rfl (lv_at hl 1 rfl) ?_
  refine lv_aload_n Bx.1 Bx.2.1 d_Rd_readAlternatives_13 rfl (lv_at hl 0 rfl) ?_
  refine f_putN Bx hP hD hS (by omega) he_73 rfl inEl tyEl okEl nmEl 4 (by decide) kw_87 rfl rfl rfl rfl (Nat.le_of_ble_eq_true rfl) d_Rd_readAlternatives_14 (fun H locs hP hS => ?_)
  obtain ⟨mem84, e_mem84⟩ : ∃ z, z = va_up mem34 ((20 + 2 * Ec)) (.inr (2, [.int (k67), .int (lo68), .int (hi69), as70, .ref (ad (20 + 2 * kx35)), ne72, .ref (ad (21 + 2 * Ec))])) := ⟨_, rfl⟩
  have hP : va_P D vcl (fw n ad mem84) H := by rw [e_mem84]; exact hP
  have hD : va_D (Az sz) (fw n ad mem84) := fw_D hD
  have h_mem84 : mem84 ((20 + 2 * Ec)) = .inr (2, [.int (k67), .int (lo68), .int (hi69), as70, .ref (ad (20 + 2 * kx35)), ne72, .ref (ad (21 + 2 * Ec))]) := by rw [e_mem84, va_up_self]
  have hh85 := (va_up_ne mem34 (.inr (2, [.int (k67), .int (lo68), .int (hi69), as70, .ref (ad (20 + 2 * kx35)), ne72, .ref (ad (21 + 2 * Ec))])) (show (222 : Nat) ≠ (20 + 2 * Ec) by first | decide | assumption | omega)).trans h9_57
  rw [← e_mem84] at hh85
  have hh86 := (va_up_ne mem34 (.inr (2, [.int (k67), .int (lo68), .int (hi69), as70, .ref (ad (20 + 2 * kx35)), ne72, .ref (ad (21 + 2 * Ec))])) (show (1 : Nat) ≠ (20 + 2 * Ec) by first | decide | assumption | omega)).trans h1_58
  rw [← e_mem84] at hh86
  have hh87 := (va_up_ne mem34 (.inr (2, [.int (k67), .int (lo68), .int (hi69), as70, .ref (ad (20 + 2 * kx35)), ne72, .ref (ad (21 + 2 * Ec))])) (show (5 : Nat) ≠ (20 + 2 * Ec) by first | decide | assumption | omega)).trans h5_60
  rw [← e_mem84] at hh87
  have hh88 := (va_up_ne mem34 (.inr (2, [.int (k67), .int (lo68), .int (hi69), as70, .ref (ad (20 + 2 * kx35)), ne72, .ref (ad (21 + 2 * Ec))])) (show (220 : Nat) ≠ (20 + 2 * Ec) by first | decide | assumption | omega)).trans h220_64
  rw [← e_mem84] at hh88
  have hh89 := (va_up_ne mem34 (.inr (2, [.int (k67), .int (lo68), .int (hi69), as70, .ref (ad (20 + 2 * kx35)), ne72, .ref (ad (21 + 2 * Ec))])) (show ((20 + 2 * kx35) : Nat) ≠ (20 + 2 * Ec) by first | decide | assumption | omega)).trans he_81
  rw [← e_mem84] at hh89
  have hRX90 : RX cy ad lim (g52) (R37) (E38) (to41) (nn40) m0 mem84 := by rw [e_mem84]; exact hRX49.el (by omega) (hRX49.1.mk (by omega) (hRX49.1.1.upEl (by omega) (fun q9 => ⟨(ho_74 q9).1, Or.inr ⟨kx35, by omega, by omega, rfl⟩, (ho_74 q9).2.2⟩)))
  refine lv_iconst (v := 0) Bx.1 Bx.2.1 d_Rd_readAlternatives_17 (by decide) ?_
  refine lv_istore (lv' := [(4, .int (0)), (3, .ref (ad (20 + 2 * kx35))), (2, .ref (ad (20 + 2 * Ec))), (0, .ref (ad 222)), (1, .int (0))]) Bx.1 Bx.2.1 d_Rd_readAlternatives_18 hl (by decide) rfl (fun ls hl => ?_)
  have loop91 : ∀ (d92 : Nat) (mem9 : Nat → va_E) (a1 : Nat) (R1 : Nat) (E1 : Nat) (A1 : Ro) (n1 : Nat → Int64) (to1 : Nat → Int32) (la : Nat) (k9 : Nat) (ls : Array Slot) (H : Heap) (locs : List Loc), (240 - k9 < d92) → (RX cy ad lim (gapF T Z a1) R1 E1 to1 n1 m0 mem9) → (a < a1 ∧ a1 ≤ Z ∧ R ≤ R1 ∧ Ec < la ∧ la < E1 ∧ k9 < a1 ∧ k9 ≤ 240 ∧ Ec < E1) → (Suc T Z (seqS T Z a u R (Ec + 1) 0 A nm) 0 R (A 235) (A 227) a1 R1 E1 A1 n1) → (TOK R R1 to to1) → (¬ (bgF (hereF Z T (gapF T Z a1)) = true ∧ a1 < gapF T Z a1)) → (va_P D vcl (fw n ad mem9) H) → (va_D (Az sz) (fw n ad mem9)) → (va_S (Az sz) s.heap H locs) → (lv_has ls 5 [(4, .int (nI k9)), (3, .ref (ad (20 + 2 * la))), (2, .ref (ad (20 + 2 * Ec))), (0, .ref (ad 222)), (1, .int (0))]) → W p l e (headSpec (Cond.code y_Rd_readAlternatives c_Rd_readAlternatives 5 (some (.object "AbnfChart$Element")) :: tg) ({ frames := 55, cells := 1, slots := 6, locals := 1338 } : Room)).room s m [.ref (ad 222), .int (0)].toArray below meth c H locs 0 0 (vx_MQ below (QX (QR (fun r mem' => ∃ (k' a' R' E' : Nat) (A' : Ro) (nm' : Nat → Int64) (to' : Nat → Int32), r = ad (20 + 2 * k') ∧ Ec ≤ k' ∧ k' < E' ∧ R ≤ R' ∧ a < a' ∧ a' ≤ Z ∧ TOK R R' to to' ∧ RX cy ad lim (gapF T Z a') R' E' to' nm' m0 mem' ∧ Suc T Z (seqS T Z a u R (Ec + 1) 0 A nm) 0 R (A 235) (A 227) a' R' E' A' nm' ∧ bgF (hereF Z T a) = true ∧ Ec < 100 ∧ ¬ hereF Z T (gapF T Z a') = 47 ∧ ¬ (bgF (hereF Z T (gapF T Z a')) = true ∧ a' < gapF T Z a')) (PP D n ad) (Az sz))) (XQ D sz n ad (fun X mem' => ((X = cIA ∨ X = cIS) ∧ ∃ rc' ec' : Nat, RS cy ad lim rc' ec' m0 mem') ∧ (bgF (hereF Z T a) = false ∨ Ec = 100 ∨ (bgF (hereF Z T a) = true ∧ Ec < 100 ∧ Fai T Z (seqS T Z a u R (Ec + 1) 0 A nm))))) [.ref (ad 222), .int (0)].toArray s 1 6 (Az sz)) (F0 m 20 ls []) := by
    intro d92
    induction d92 with
    | zero => intro mem9 a1 R1 E1 A1 n1 to1 la k9 ls H locs hmeas99; exact absurd hmeas99 (Nat.not_lt_zero _)
    | succ d92 ih98 =>
      intro mem9 a1 R1 E1 A1 n1 to1 la k9 ls H locs hmeas99 hz93 hz94 hz95 hz96 hz97 hP hD hS hl
      obtain ⟨g1, eg1⟩ : ∃ z, z = gapF T Z a1 := ⟨_, rfl⟩
      rw [← eg1] at hz93
      have hge1 : a1 ≤ g1 := by rw [eg1]; exact gapF_ge T Z _
      have hbd8 := hz94
      have hle1 : g1 ≤ Z := by rw [eg1]; exact gapF_le T (by omega)
      obtain ⟨ft100, h9_101⟩ := hz93.2.1
      have h1_102 : mem9 1 = .inr (0, [.ref (ad 2), .int (nI Z)]) := (hz93.1.2.2 1 (by omega)).trans hT.1
      have h2_103 : mem9 2 = .inl (cy 0, 240, .inl f) := (hz93.1.2.2 2 (by omega)).trans hT.2.2
      have h5_104 := hz93.1.1.2.1
      have hbd110 := hz93.1.1.1
      obtain ⟨S105, g106, hS_107, h220_108, h221_109⟩ := hz93.1.1.2.2.2.2.2.2
      obtain ⟨k111, lo112, hi113, as114, pa115, ne116, he_117, ho_118⟩ := (hz93.1.1.2.2.2.2.2.1 la (by omega)).1
      obtain ⟨c1, u1, ho, hg, hk9, hs9⟩ := id hz95
      refine lv_iload Bx.1 Bx.2.1 d_Rd_readAlternatives_20 (lv_at hl 0 rfl) ?_
      refine lv_sipush (v := 240) Bx.1 Bx.2.1 d_Rd_readAlternatives_22 (by decide) ?_
      refine lv_icmp_ge Bx.1 Bx.2.1 d_Rd_readAlternatives_25 rfl (fun hb119 => ?_) (fun hb119 => ?_)
      · have hN120 : 240 ≤ k9 := (nI_leI (by omega) (by omega)).mp (show nI (240) ≤ nI (k9) from hb119)
        exact absurd hbd8 (by omega)
      · have hN121 : ¬ 240 ≤ k9 := fun q9 => hb119 (show nI (240) ≤ nI (k9) from (nI_leI (by omega) (by omega)).mpr q9)
        refine lv_aload_n Bx.1 Bx.2.1 d_Rd_readAlternatives_28 rfl (lv_at hl 3 rfl) ?_
        refine f_callVi (na := 0) (As := []) (rest := []) Bx hml E hP hD hS (by omega) h9_101 rfl (m_Rd_peekX l hn hT hf hz93 (by omega)) kw_353 kw_355 sel_Rd_peek kw_6 kw_356 (by decide +kernel) ⟨rfl, rfl⟩ ⟨Nat.le_of_ble_eq_true rfl, Nat.le_of_ble_eq_true rfl⟩ rfl hl.1 (Nat.le_of_ble_eq_true rfl) d_Rd_readAlternatives_29 ⟨Nat.le_of_ble_eq_true rfl, Nat.le_of_ble_eq_true rfl⟩ (fun r123 mem124 H locs hq hP hS => ?_)
        have hD : va_D (Az sz) (fw n ad mem124) := fw_D hD
        obtain ⟨hqe, hpk122⟩ := hq
        rw [hqe] at hP hD
        subst hpk122
        refine lv_bipush (v := 47) Bx.1 Bx.2.1 d_Rd_readAlternatives_32 (by decide) ?_
        refine lv_icmp_ne Bx.1 Bx.2.1 d_Rd_readAlternatives_34 rfl (fun hb126 => ?_) (fun hb126 => ?_)
        · refine lv_aload_n Bx.1 Bx.2.1 d_Rd_readAlternatives_72 rfl (lv_at hl 2 rfl) ?_
          exact x_aret hx hb hlocks hr (⟨Ec, a1, R1, E1, A1, n1, to1, rfl, by omega, by omega, by omega, by omega, by omega, hz96, by rw [← eg1]; exact hz93, hz95, hbg, hE9, by rw [← eg1]; exact hb126, hz97⟩) hP hS d_Rd_readAlternatives_73
        · have hlt127 := hereF_lt (by rw [hb126]; decide)
          have h47 : hereF Z T (gapF T Z a1) = 47 := by rw [← eg1]; exact hb126
          refine lv_aload_n Bx.1 Bx.2.1 d_Rd_readAlternatives_37 rfl (lv_at hl 3 rfl) ?_
          refine lv_dup Bx.1 Bx.2.1 d_Rd_readAlternatives_38 rfl ?_
          refine f_get Bx hP (by omega) h9_101 rfl inRd 2 (by decide) kw_146 rfl rfl d_Rd_readAlternatives_39 ?_
          refine lv_iconst (v := 1) Bx.1 Bx.2.1 d_Rd_readAlternatives_42 (by decide) ?_
          refine lv_iadd Bx.1 Bx.2.1 d_Rd_readAlternatives_43 ?_
          rw [show nI g1 + 1 = nI (g1 + 1) from nI_add (g1) (1)]
          refine f_put Bx hP hD hS (by omega) h9_101 rfl inRd tyRd okRd nmRd 2 (by decide) kw_146 rfl rfl rfl rfl (Nat.le_of_ble_eq_true rfl) d_Rd_readAlternatives_44 (fun H locs hP hS => ?_)
          obtain ⟨mem128, e_mem128⟩ : ∃ z, z = va_up mem9 (222) (.inr (4, [.ref (ad 1), .ref (ad 5), .int (nI (g1 + 1)), .int (ft100)])) := ⟨_, rfl⟩
          have hP : va_P D vcl (fw n ad mem128) H := by rw [e_mem128]; exact hP
          have hD : va_D (Az sz) (fw n ad mem128) := fw_D hD
          have h_mem128 : mem128 (222) = .inr (4, [.ref (ad 1), .ref (ad 5), .int (nI (g1 + 1)), .int (ft100)]) := by rw [e_mem128, va_up_self]
          have hh129 := (va_up_ne mem9 (.inr (4, [.ref (ad 1), .ref (ad 5), .int (nI (g1 + 1)), .int (ft100)])) (show (1 : Nat) ≠ 222 by first | decide | assumption | omega)).trans h1_102
          rw [← e_mem128] at hh129
          have hh130 := (va_up_ne mem9 (.inr (4, [.ref (ad 1), .ref (ad 5), .int (nI (g1 + 1)), .int (ft100)])) (show (5 : Nat) ≠ 222 by first | decide | assumption | omega)).trans h5_104
          rw [← e_mem128] at hh130
          have hh131 := (va_up_ne mem9 (.inr (4, [.ref (ad 1), .ref (ad 5), .int (nI (g1 + 1)), .int (ft100)])) (show (220 : Nat) ≠ 222 by first | decide | assumption | omega)).trans h220_108
          rw [← e_mem128] at hh131
          have hh132 := (va_up_ne mem9 (.inr (4, [.ref (ad 1), .ref (ad 5), .int (nI (g1 + 1)), .int (ft100)])) (show ((20 + 2 * la) : Nat) ≠ 222 by first | decide | assumption | omega)).trans he_117
          rw [← e_mem128] at hh132
          have hRX133 : RX cy ad lim (g1 + 1) (R1) (E1) (to1) (n1) m0 mem128 := by rw [e_mem128]; exact hz93.at
          refine lv_aload_n Bx.1 Bx.2.1 d_Rd_readAlternatives_47 rfl (lv_at hl 3 rfl) ?_
          refine f_callVi (na := 0) (As := []) (rest := []) Bx hml E hP hD hS (by omega) h_mem128 rfl (m_Rd_readGapX l hn hT hf hRX133 (by omega) (by omega)) kw_397 kw_399 sel_Rd_readGap kw_6 kw_400 (by decide +kernel) ⟨rfl, rfl⟩ ⟨Nat.le_of_ble_eq_true rfl, Nat.le_of_ble_eq_true rfl⟩ rfl hl.1 (Nat.le_of_ble_eq_true rfl) d_Rd_readAlternatives_48 ⟨Nat.le_of_ble_eq_true rfl, Nat.le_of_ble_eq_true rfl⟩ (fun r134 mem135 H locs hq hP hS => ?_)
          have hD : va_D (Az sz) (fw n ad mem135) := fw_D hD
          obtain ⟨g136, eg137⟩ : ∃ z, z = gapF T Z (g1 + 1) := ⟨_, rfl⟩
          rw [← eg137] at hq
          obtain ⟨hRX138, hgc139⟩ := hq
          have hg140 : g1 + 1 ≤ g136 := by rw [eg137]; exact gapF_ge T Z _
          have hg141 : g136 ≤ Z := by rw [eg137]; exact gapF_le T (by omega)
          obtain ⟨ft142, h9_143⟩ := hRX138.2.1
          have h1_144 : mem135 1 = .inr (0, [.ref (ad 2), .int (nI Z)]) := (hRX138.1.2.2 1 (by omega)).trans hT.1
          have h2_145 : mem135 2 = .inl (cy 0, 240, .inl f) := (hRX138.1.2.2 2 (by omega)).trans hT.2.2
          have h5_146 := hRX138.1.1.2.1
          have hbd152 := hRX138.1.1.1
          obtain ⟨S147, g148, hS_149, h220_150, h221_151⟩ := hRX138.1.1.2.2.2.2.2.2
          obtain ⟨k153, lo154, hi155, as156, pa157, ne158, he_159, ho_160⟩ := (hRX138.1.1.2.2.2.2.2.1 la (by omega)).1
          refine lv_pop Bx.1 Bx.2.1 d_Rd_readAlternatives_51 rfl ?_
          refine lv_aload_n Bx.1 Bx.2.1 d_Rd_readAlternatives_52 rfl (lv_at hl 1 rfl) ?_
          refine lv_aload_n Bx.1 Bx.2.1 d_Rd_readAlternatives_53 rfl (lv_at hl 3 rfl) ?_
          refine lv_iload_n Bx.1 Bx.2.1 d_Rd_readAlternatives_54 rfl (lv_at hl 4 rfl) ?_
          refine f_xVr (na := 1) (As := [.int (0)]) (rest := [.ref (ad (20 + 2 * la))]) Bx hml E hP hD hS (by omega) h9_143 rfl (m_Rd_readSequence_0X l hlt hn hT hf hRX138 (by omega) (u := u1) (A := A1) (by omega)) kw_435 kw_437 sel_Rd_readSequence kw_6 kw_438 (by decide +kernel) ⟨rfl, rfl⟩ ⟨Nat.le_of_ble_eq_true rfl, Nat.le_of_ble_eq_true rfl⟩ rfl hl.1 (Nat.le_of_ble_eq_true rfl) d_Rd_readAlternatives_55 ⟨Nat.le_of_ble_eq_true rfl, Nat.le_of_ble_eq_true rfl⟩ (fun X ce q9 memx H locs hx9 hP hS g1 g2 g3 => f_out hlocks hno hP hS g1 g2 g3 ⟨Nat.le_of_ble_eq_true rfl, Nat.le_of_ble_eq_true rfl⟩ ⟨hx9.1, Or.inr (Or.inr ⟨hbg, hE9, Fai.go ho hg (go_sl h47) (by rw [← eg1, ← eg137]; exact hx9.2)⟩)⟩) (fun r161 mem162 H locs hq hP hS => ?_)
          have hD : va_D (Az sz) (fw n ad mem162) := fw_D hD
          obtain ⟨kx163, a164, R165, E166, A167, nn168, to169, hr9170, hb171, hb172, hb173, hb174, hb175, htk176, hRX177, hsc178, hnb179⟩ := hq
          subst hr9170
          obtain ⟨g180, eg181⟩ : ∃ z, z = gapF T Z a164 := ⟨_, rfl⟩
          have hg182 : a164 ≤ g180 := by rw [eg181]; exact gapF_ge T Z _
          have hg183 : g180 ≤ Z := by rw [eg181]; exact gapF_le T (by omega)
          rw [← eg181] at hRX177
          obtain ⟨ft184, h9_185⟩ := hRX177.2.1
          have h1_186 : mem162 1 = .inr (0, [.ref (ad 2), .int (nI Z)]) := (hRX177.1.2.2 1 (by omega)).trans hT.1
          have h2_187 : mem162 2 = .inl (cy 0, 240, .inl f) := (hRX177.1.2.2 2 (by omega)).trans hT.2.2
          have h5_188 := hRX177.1.1.2.1
          have hbd194 := hRX177.1.1.1
          obtain ⟨S189, g190, hS_191, h220_192, h221_193⟩ := hRX177.1.1.2.2.2.2.2.2
          obtain ⟨k195, lo196, hi197, as198, pa199, ne200, he_201, ho_202⟩ := (hRX177.1.1.2.2.2.2.2.1 la (by omega)).1
          obtain ⟨k203, lo204, hi205, as206, pa207, ne208, he_209, ho_210⟩ := (hRX177.1.1.2.2.2.2.2.1 kx163 (by omega)).1
          have hbd211 := hRX177.1.1.1
          have hsuc3 := Suc.go ho hg hk9 hs9 (by omega) (go_sl h47) (by rw [← eg1, ← eg137]; exact hsc178)
          have htk3 := hz96.trans htk176 (by omega)
          refine f_putN Bx hP hD hS (by omega) he_201 rfl inEl tyEl okEl nmEl 5 (by decide) kw_91 rfl rfl rfl rfl (Nat.le_of_ble_eq_true rfl) d_Rd_readAlternatives_58 (fun H locs hP hS => ?_)
          obtain ⟨mem212, e_mem212⟩ : ∃ z, z = va_up mem162 ((20 + 2 * la)) (.inr (2, [.int (k195), .int (lo196), .int (hi197), as198, pa199, .ref (ad (20 + 2 * kx163)), .ref (ad (21 + 2 * la))])) := ⟨_, rfl⟩
          have hP : va_P D vcl (fw n ad mem212) H := by rw [e_mem212]; exact hP
          have hD : va_D (Az sz) (fw n ad mem212) := fw_D hD
          have h_mem212 : mem212 ((20 + 2 * la)) = .inr (2, [.int (k195), .int (lo196), .int (hi197), as198, pa199, .ref (ad (20 + 2 * kx163)), .ref (ad (21 + 2 * la))]) := by rw [e_mem212, va_up_self]
          have hh213 := (va_up_ne mem162 (.inr (2, [.int (k195), .int (lo196), .int (hi197), as198, pa199, .ref (ad (20 + 2 * kx163)), .ref (ad (21 + 2 * la))])) (show (222 : Nat) ≠ (20 + 2 * la) by first | decide | assumption | omega)).trans h9_185
          rw [← e_mem212] at hh213
          have hh214 := (va_up_ne mem162 (.inr (2, [.int (k195), .int (lo196), .int (hi197), as198, pa199, .ref (ad (20 + 2 * kx163)), .ref (ad (21 + 2 * la))])) (show (1 : Nat) ≠ (20 + 2 * la) by first | decide | assumption | omega)).trans h1_186
          rw [← e_mem212] at hh214
          have hh215 := (va_up_ne mem162 (.inr (2, [.int (k195), .int (lo196), .int (hi197), as198, pa199, .ref (ad (20 + 2 * kx163)), .ref (ad (21 + 2 * la))])) (show (5 : Nat) ≠ (20 + 2 * la) by first | decide | assumption | omega)).trans h5_188
          rw [← e_mem212] at hh215
          have hh216 := (va_up_ne mem162 (.inr (2, [.int (k195), .int (lo196), .int (hi197), as198, pa199, .ref (ad (20 + 2 * kx163)), .ref (ad (21 + 2 * la))])) (show (220 : Nat) ≠ (20 + 2 * la) by first | decide | assumption | omega)).trans h220_192
          rw [← e_mem212] at hh216
          have hh217 := (va_up_ne mem162 (.inr (2, [.int (k195), .int (lo196), .int (hi197), as198, pa199, .ref (ad (20 + 2 * kx163)), .ref (ad (21 + 2 * la))])) (show ((20 + 2 * kx163) : Nat) ≠ (20 + 2 * la) by first | decide | assumption | omega)).trans he_209
          rw [← e_mem212] at hh217
          have hRX218 : RX cy ad lim (g180) (R165) (E166) (to169) (nn168) m0 mem212 := by rw [e_mem212]; exact hRX177.el (by omega) (hRX177.1.mk (by omega) (hRX177.1.1.upEl (by omega) (fun q9 => ⟨(ho_202 q9).1, (ho_202 q9).2.1, Or.inr ⟨kx163, by omega, by omega, rfl⟩⟩)))
          refine lv_aload_n Bx.1 Bx.2.1 d_Rd_readAlternatives_61 rfl (lv_at hl 1 rfl) ?_
          refine f_getN Bx hP (by omega) h_mem212 rfl inEl 5 (by decide) kw_91 rfl rfl d_Rd_readAlternatives_62 ?_
          refine lv_astore_n (lv' := [(3, .ref (ad (20 + 2 * kx163))), (4, .int (nI k9)), (2, .ref (ad (20 + 2 * Ec))), (0, .ref (ad 222)), (1, .int (0))]) Bx.1 Bx.2.1 d_Rd_readAlternatives_65 rfl hl (by decide) rfl (fun ls hl => ?_)
          refine lv_iinc (lv' := [(4, .int ((nI k9 + (1)))), (3, .ref (ad (20 + 2 * kx163))), (2, .ref (ad (20 + 2 * Ec))), (0, .ref (ad 222)), (1, .int (0))]) Bx.1 Bx.2.1 d_Rd_readAlternatives_66 hl (k := 1) rfl rfl (by decide) rfl (fun ls hl => ?_)
          rw [show (nI k9 + (1) : Int32) = nI (k9 + 1) from nI_1 (k9)] at hl
          refine lv_goto Bx.1 Bx.2.1 d_Rd_readAlternatives_69 rfl ?_
          exact ih98 mem212 (a164) (R165) (E166) (A167) (nn168) (to169) (kx163) (k9 + 1) _ _ _ (by have := hmeas99; omega) (by rw [← eg181]; exact hRX218) (⟨by omega, by omega, by omega, by omega, by omega, by omega, by omega, by omega⟩) (hsuc3) (htk3) (hnb179) hP hD hS (lv_sub hl [0, 1, 2, 3, 4] rfl)
  exact loop91 _ mem84 (a36) (R37) (E38) (A39) (nn40) (to41) (kx35) (0) _ _ _ (Nat.lt_succ_self _) (by rw [← eg53]; exact hRX90) (⟨by omega, by omega, by omega, by omega, by omega, by omega, by omega, by omega⟩) (hsc50) (htk48) (hnb51) hP hD hS (lv_sub hl [0, 1, 2, 3, 4] rfl)
