set_option maxHeartbeats 4000000 in
set_option maxRecDepth 100000 in
theorem m_Rd_readExactString (l : Launch) {D : va_G} {cy : Nat → ClassId} {sz n : Nat} {ad : Nat → Nat} {mem : Nat → va_E} {Z : Nat} {f : Nat → Int32} {lim rc ec : Nat} {m0 : Nat → va_E} (hlt : l.stackTraces = false) (hn : 224 ≤ n) (hT : TX cy ad Z f m0) (hRS : RS cy ad lim rc ec m0 mem) : NXr l D cy sz n ad y_Rd_readExactString c_Rd_readExactString 2 (some (.object "AbnfChart$Element")) ({ frames := 12, cells := 1, slots := 6, locals := 280 } : Room) mem [.ref (ad 222)] (fun r mem' => ∃ k rc' ec' : Nat, r = ad (20 + 2 * k) ∧ ec ≤ k ∧ k < ec' ∧ rc ≤ rc' ∧ RS cy ad lim rc' ec' m0 mem') (fun X mem' => (X = cIA ∨ X = cIS) ∧ ∃ rc' ec' : Nat, RS cy ad lim rc' ec' m0 mem') := by
  refine vx_ofW (cc := c_Rd_readExactString) (maxL := 2) (ret := (some (.object "AbnfChart$Element"))) (by decide) rfl ?_
  intro p e s m args below meth c s₁ B hml hno hv
  obtain ⟨rfl, E, hP, hD⟩ := hv
  have hx := B.exec
  have hb := B.bytes
  have hr := B.returns
  have hlocks := B.notSynchronized
  have Bx : MB p s m [.ref (ad 222)].toArray c c_Rd_readExactString "AbnfChart$Reader" D cy := ⟨hx, hb, tb_all (atoms_spec B.pre) E.2.1, findClass_of_methodNamed B.named, E.1⟩
  have hS : va_S (Az sz) s.heap s.heap [] := va_S.rf
  have hl := lv_entry ([.ref (ad 222)]) (n := 2) (Nat.le_of_ble_eq_true rfl)
  rw [lg_entry_eq]
  generalize (lg_sl ([.ref (ad 222)]) ++ List.replicate (2 - (lg_sl ([.ref (ad 222)])).length) Slot.unset).toArray = ls at hl ⊢
  have hl : lv_has ls 2 [(0, .ref (ad 222))] := hl
  obtain ⟨at1, ft2, h9_3⟩ := hRS.2.1
  have h1_4 : mem 1 = .inr (0, [.ref (ad 2), .int (nI Z)]) := (hRS.2.2 1 (by omega)).trans hT.1
  have h2_5 : mem 2 = .inl (cy 0, 240, .inl f) := (hRS.2.2 2 (by omega)).trans hT.2.2
  have h5_6 := hRS.1.2.1
  have hbd12 := hRS.1.1
  obtain ⟨S7, g8, hS_9, h220_10, h221_11⟩ := hRS.1.2.2.2.2.2.2
  refine lv_aload_n Bx.1 Bx.2.1 d_Rd_readExactString_0 rfl (lv_at hl 0 rfl) ?_
  refine f_get Bx hP (by omega) h9_3 rfl inRd 2 (by decide) kw_146 rfl rfl d_Rd_readExactString_1 ?_
  refine lv_istore_n (lv' := [(1, .int (at1)), (0, .ref (ad 222))]) Bx.1 Bx.2.1 d_Rd_readExactString_4 rfl hl (by decide) rfl (fun ls hl => ?_)
  refine lv_aload_n Bx.1 Bx.2.1 d_Rd_readExactString_5 rfl (lv_at hl 1 rfl) ?_
  refine lv_dup Bx.1 Bx.2.1 d_Rd_readExactString_6 rfl ?_
  refine f_get Bx hP (by omega) h9_3 rfl inRd 2 (by decide) kw_146 rfl rfl d_Rd_readExactString_7 ?_
  refine lv_iconst (v := 2) Bx.1 Bx.2.1 d_Rd_readExactString_10 (by decide) ?_
  refine lv_iadd Bx.1 Bx.2.1 d_Rd_readExactString_11 ?_
  refine f_put Bx hP hD hS (by omega) h9_3 rfl inRd tyRd okRd nmRd 2 (by decide) kw_146 rfl rfl rfl rfl (Nat.le_of_ble_eq_true rfl) d_Rd_readExactString_12 (fun H locs hP hS => ?_)
  obtain ⟨mem13, e_mem13⟩ : ∃ z, z = va_up mem (222) (.inr (4, [.ref (ad 1), .ref (ad 5), .int (at1 + 2), .int (ft2)])) := ⟨_, rfl⟩
  have hP : va_P D vcl (fw n ad mem13) H := by rw [e_mem13]; exact hP
  have hD : va_D (Az sz) (fw n ad mem13) := fw_D hD
  have h_mem13 : mem13 (222) = .inr (4, [.ref (ad 1), .ref (ad 5), .int (at1 + 2), .int (ft2)]) := by rw [e_mem13, va_up_self]
  have hh14 := (va_up_ne mem (.inr (4, [.ref (ad 1), .ref (ad 5), .int (at1 + 2), .int (ft2)])) (show (1 : Nat) ≠ 222 by first | decide | assumption | omega)).trans h1_4
  rw [← e_mem13] at hh14
  have hh15 := (va_up_ne mem (.inr (4, [.ref (ad 1), .ref (ad 5), .int (at1 + 2), .int (ft2)])) (show (5 : Nat) ≠ 222 by first | decide | assumption | omega)).trans h5_6
  rw [← e_mem13] at hh15
  have hh16 := (va_up_ne mem (.inr (4, [.ref (ad 1), .ref (ad 5), .int (at1 + 2), .int (ft2)])) (show (220 : Nat) ≠ 222 by first | decide | assumption | omega)).trans h220_10
  rw [← e_mem13] at hh16
  have hRS17 : RS cy ad lim rc ec m0 mem13 := by rw [e_mem13]; exact hRS.at222
  refine lv_aload_n Bx.1 Bx.2.1 d_Rd_readExactString_15 rfl (lv_at hl 1 rfl) ?_
  refine lv_aload_n Bx.1 Bx.2.1 d_Rd_readExactString_16 rfl (lv_at hl 1 rfl) ?_
  refine f_callVi (na := 0) (As := []) (rest := [.ref (ad 222)]) Bx hml E hP hD hS (by omega) h_mem13 rfl (m_Rd_peek l hn hT hRS17) kw_353 kw_355 sel_Rd_peek kw_6 kw_356 (by decide +kernel) ⟨rfl, rfl⟩ ⟨Nat.le_of_ble_eq_true rfl, Nat.le_of_ble_eq_true rfl⟩ rfl hl.1 (Nat.le_of_ble_eq_true rfl) d_Rd_readExactString_17 ⟨Nat.le_of_ble_eq_true rfl, Nat.le_of_ble_eq_true rfl⟩ (fun r18 mem19 H locs hq hP hS => ?_)
  have hD : va_D (Az sz) (fw n ad mem19) := fw_D hD
  rw [hq] at hP hD
  refine lv_bipush (v := 34) Bx.1 Bx.2.1 d_Rd_readExactString_20 (by decide) ?_
  have J21 : ∀ (jv20 : Int32) (H : Heap) (locs : List Loc), va_P D vcl (fw n ad mem13) H → va_D (Az sz) (fw n ad mem13) → va_S (Az sz) s.heap H locs → W p l e (headSpec (Cond.code y_Rd_readExactString c_Rd_readExactString 2 (some (.object "AbnfChart$Element")) :: tg) ({ frames := 12, cells := 1, slots := 6, locals := 280 } : Room)).room s m [.ref (ad 222)].toArray below meth c H locs 0 0 (vx_MQ below (QX (QR (fun r mem' => ∃ k rc' ec' : Nat, r = ad (20 + 2 * k) ∧ ec ≤ k ∧ k < ec' ∧ rc ≤ rc' ∧ RS cy ad lim rc' ec' m0 mem') (PP D n ad) (Az sz))) (XQ D sz n ad (fun X mem' => (X = cIA ∨ X = cIS) ∧ ∃ rc' ec' : Nat, RS cy ad lim rc' ec' m0 mem')) [.ref (ad 222)].toArray s 1 6 (Az sz)) (F0 m 30 ls [.int (jv20), .ref (ad 222)]) := by
    intro jv20 H locs hP hD hS
    refine lv_aload_n Bx.1 Bx.2.1 d_Rd_readExactString_30 rfl (lv_at hl 1 rfl) ?_
    refine f_get Bx hP (by omega) h_mem13 rfl inRd 2 (by decide) kw_146 rfl rfl d_Rd_readExactString_31 ?_
    refine f_xVv (na := 2) (As := [.int (jv20), .int (at1 + 2)]) (rest := []) Bx hml E hP hD hS (by omega) h_mem13 rfl (m_Rd_needReadable l hlt hn hT hRS17) kw_360 kw_362 sel_Rd_needReadable kw_6 kw_363 (by decide +kernel) ⟨rfl, rfl⟩ ⟨Nat.le_of_ble_eq_true rfl, Nat.le_of_ble_eq_true rfl⟩ rfl hl.1 (Nat.le_of_ble_eq_true rfl) d_Rd_readExactString_34 ⟨Nat.le_of_ble_eq_true rfl, Nat.le_of_ble_eq_true rfl⟩ (fun X ce q9 memx H locs hx9 hP hS g1 g2 g3 => f_out hlocks hno hP hS g1 g2 g3 ⟨Nat.le_of_ble_eq_true rfl, Nat.le_of_ble_eq_true rfl⟩ hx9) (fun mem23 H locs hq hP hS => ?_)
    have hD : va_D (Az sz) (fw n ad mem23) := fw_D hD
    obtain ⟨hRS24, -, hg25⟩ := hq
    obtain ⟨at26, ft27, h9_28⟩ := hRS24.2.1
    have h1_29 : mem23 1 = .inr (0, [.ref (ad 2), .int (nI Z)]) := (hRS24.2.2 1 (by omega)).trans hT.1
    have h2_30 : mem23 2 = .inl (cy 0, 240, .inl f) := (hRS24.2.2 2 (by omega)).trans hT.2.2
    have h5_31 := hRS24.1.2.1
    have hbd37 := hRS24.1.1
    obtain ⟨S32, g33, hS_34, h220_35, h221_36⟩ := hRS24.1.2.2.2.2.2.2
    refine lv_aload_n Bx.1 Bx.2.1 d_Rd_readExactString_37 rfl (lv_at hl 1 rfl) ?_
    refine lv_iload_n Bx.1 Bx.2.1 d_Rd_readExactString_38 rfl (lv_at hl 0 rfl) ?_
    refine lv_bipush (v := 6) Bx.1 Bx.2.1 d_Rd_readExactString_39 (by decide) ?_
    refine f_xVr (na := 2) (As := [.int (at1), .int (6)]) (rest := []) Bx hml E hP hD hS (by omega) h9_28 rfl (m_Rd_readString l hlt hn hT hRS24) kw_455 kw_457 sel_Rd_readString kw_6 kw_458 (by decide +kernel) ⟨rfl, rfl⟩ ⟨Nat.le_of_ble_eq_true rfl, Nat.le_of_ble_eq_true rfl⟩ rfl hl.1 (Nat.le_of_ble_eq_true rfl) d_Rd_readExactString_41 ⟨Nat.le_of_ble_eq_true rfl, Nat.le_of_ble_eq_true rfl⟩ (fun X ce q9 memx H locs hx9 hP hS g1 g2 g3 => f_out hlocks hno hP hS g1 g2 g3 ⟨Nat.le_of_ble_eq_true rfl, Nat.le_of_ble_eq_true rfl⟩ hx9) (fun r38 mem39 H locs hq hP hS => ?_)
    have hD : va_D (Az sz) (fw n ad mem39) := fw_D hD
    obtain ⟨kx40, rc41, ec42, hr944, hb45, hb46, hb47, hRS43⟩ := hq
    subst hr944
    obtain ⟨at48, ft49, h9_50⟩ := hRS43.2.1
    have h1_51 : mem39 1 = .inr (0, [.ref (ad 2), .int (nI Z)]) := (hRS43.2.2 1 (by omega)).trans hT.1
    have h2_52 : mem39 2 = .inl (cy 0, 240, .inl f) := (hRS43.2.2 2 (by omega)).trans hT.2.2
    have h5_53 := hRS43.1.2.1
    have hbd59 := hRS43.1.1
    obtain ⟨S54, g55, hS_56, h220_57, h221_58⟩ := hRS43.1.2.2.2.2.2.2
    obtain ⟨k60, lo61, hi62, as63, pa64, ne65, he_66, ho_67⟩ := (hRS43.1.2.2.2.2.2.1 kx40 (by omega)).1
    exact x_aret hx hb hlocks hr (⟨kx40, rc41, ec42, rfl, by omega, by omega, by omega, hRS43⟩) hP hS d_Rd_readExactString_44
  refine lv_icmp_ne Bx.1 Bx.2.1 d_Rd_readExactString_22 rfl (fun h8 => ?_) (fun h8 => ?_)
  · refine lv_iconst (v := 0) Bx.1 Bx.2.1 d_Rd_readExactString_29 (by decide) ?_
    exact J21 _ _ _ hP hD hS
  · refine lv_iconst (v := 1) Bx.1 Bx.2.1 d_Rd_readExactString_25 (by decide) ?_
    refine lv_goto Bx.1 Bx.2.1 d_Rd_readExactString_26 rfl ?_
    exact J21 _ _ _ hP hD hS
set_option maxHeartbeats 4000000 in
set_option maxRecDepth 100000 in
theorem m_Rd_readValue (l : Launch) {D : va_G} {cy : Nat → ClassId} {sz n : Nat} {ad : Nat → Nat} {mem : Nat → va_E} {Z : Nat} {f : Nat → Int32} {lim rc ec : Nat} {m0 : Nat → va_E} (hlt : l.stackTraces = false) (hn : 224 ≤ n) (hT : TX cy ad Z f m0) (hRS : RS cy ad lim rc ec m0 mem) : NXr l D cy sz n ad y_Rd_readValue c_Rd_readValue 7 (some (.object "AbnfChart$Element")) ({ frames := 12, cells := 1, slots := 6, locals := 280 } : Room) mem [.ref (ad 222)] (fun r mem' => ∃ k rc' ec' : Nat, r = ad (20 + 2 * k) ∧ ec ≤ k ∧ k < ec' ∧ rc ≤ rc' ∧ RS cy ad lim rc' ec' m0 mem') (fun X mem' => (X = cIA ∨ X = cIS) ∧ ∃ rc' ec' : Nat, RS cy ad lim rc' ec' m0 mem') := by
  refine vx_ofW (cc := c_Rd_readValue) (maxL := 7) (ret := (some (.object "AbnfChart$Element"))) (by decide) rfl ?_
  intro p e s m args below meth c s₁ B hml hno hv
  obtain ⟨rfl, E, hP, hD⟩ := hv
  have hx := B.exec
  have hb := B.bytes
  have hr := B.returns
  have hlocks := B.notSynchronized
  have Bx : MB p s m [.ref (ad 222)].toArray c c_Rd_readValue "AbnfChart$Reader" D cy := ⟨hx, hb, tb_all (atoms_spec B.pre) E.2.1, findClass_of_methodNamed B.named, E.1⟩
  have hS : va_S (Az sz) s.heap s.heap [] := va_S.rf
  have hl := lv_entry ([.ref (ad 222)]) (n := 7) (Nat.le_of_ble_eq_true rfl)
  rw [lg_entry_eq]
  generalize (lg_sl ([.ref (ad 222)]) ++ List.replicate (7 - (lg_sl ([.ref (ad 222)])).length) Slot.unset).toArray = ls at hl ⊢
  have hl : lv_has ls 7 [(0, .ref (ad 222))] := hl
  obtain ⟨at1, ft2, h9_3⟩ := hRS.2.1
  have h1_4 : mem 1 = .inr (0, [.ref (ad 2), .int (nI Z)]) := (hRS.2.2 1 (by omega)).trans hT.1
  have h2_5 : mem 2 = .inl (cy 0, 240, .inl f) := (hRS.2.2 2 (by omega)).trans hT.2.2
  have h5_6 := hRS.1.2.1
  have hbd12 := hRS.1.1
  obtain ⟨S7, g8, hS_9, h220_10, h221_11⟩ := hRS.1.2.2.2.2.2.2
  refine lv_aload_n Bx.1 Bx.2.1 d_Rd_readValue_0 rfl (lv_at hl 0 rfl) ?_
  refine f_get Bx hP (by omega) h9_3 rfl inRd 2 (by decide) kw_146 rfl rfl d_Rd_readValue_1 ?_
  refine lv_istore_n (lv' := [(1, .int (at1)), (0, .ref (ad 222))]) Bx.1 Bx.2.1 d_Rd_readValue_4 rfl hl (by decide) rfl (fun ls hl => ?_)
  refine lv_aload_n Bx.1 Bx.2.1 d_Rd_readValue_5 rfl (lv_at hl 1 rfl) ?_
  refine lv_dup Bx.1 Bx.2.1 d_Rd_readValue_6 rfl ?_
  refine f_get Bx hP (by omega) h9_3 rfl inRd 2 (by decide) kw_146 rfl rfl d_Rd_readValue_7 ?_
  refine lv_iconst (v := 1) Bx.1 Bx.2.1 d_Rd_readValue_10 (by decide) ?_
  refine lv_iadd Bx.1 Bx.2.1 d_Rd_readValue_11 ?_
  refine f_put Bx hP hD hS (by omega) h9_3 rfl inRd tyRd okRd nmRd 2 (by decide) kw_146 rfl rfl rfl rfl (Nat.le_of_ble_eq_true rfl) d_Rd_readValue_12 (fun H locs hP hS => ?_)
  obtain ⟨mem13, e_mem13⟩ : ∃ z, z = va_up mem (222) (.inr (4, [.ref (ad 1), .ref (ad 5), .int (at1 + 1), .int (ft2)])) := ⟨_, rfl⟩
  have hP : va_P D vcl (fw n ad mem13) H := by rw [e_mem13]; exact hP
  have hD : va_D (Az sz) (fw n ad mem13) := fw_D hD
  have h_mem13 : mem13 (222) = .inr (4, [.ref (ad 1), .ref (ad 5), .int (at1 + 1), .int (ft2)]) := by rw [e_mem13, va_up_self]
  have hh14 := (va_up_ne mem (.inr (4, [.ref (ad 1), .ref (ad 5), .int (at1 + 1), .int (ft2)])) (show (1 : Nat) ≠ 222 by first | decide | assumption | omega)).trans h1_4
  rw [← e_mem13] at hh14
  have hh15 := (va_up_ne mem (.inr (4, [.ref (ad 1), .ref (ad 5), .int (at1 + 1), .int (ft2)])) (show (5 : Nat) ≠ 222 by first | decide | assumption | omega)).trans h5_6
  rw [← e_mem13] at hh15
  have hh16 := (va_up_ne mem (.inr (4, [.ref (ad 1), .ref (ad 5), .int (at1 + 1), .int (ft2)])) (show (220 : Nat) ≠ 222 by first | decide | assumption | omega)).trans h220_10
  rw [← e_mem13] at hh16
  have hRS17 : RS cy ad lim rc ec m0 mem13 := by rw [e_mem13]; exact hRS.at222
  refine lv_aload_n Bx.1 Bx.2.1 d_Rd_readValue_15 rfl (lv_at hl 1 rfl) ?_
  refine f_callVi (na := 0) (As := []) (rest := []) Bx hml E hP hD hS (by omega) h_mem13 rfl (m_Rd_peek l hn hT hRS17) kw_353 kw_355 sel_Rd_peek kw_6 kw_356 (by decide +kernel) ⟨rfl, rfl⟩ ⟨Nat.le_of_ble_eq_true rfl, Nat.le_of_ble_eq_true rfl⟩ rfl hl.1 (Nat.le_of_ble_eq_true rfl) d_Rd_readValue_16 ⟨Nat.le_of_ble_eq_true rfl, Nat.le_of_ble_eq_true rfl⟩ (fun r18 mem19 H locs hq hP hS => ?_)
  have hD : va_D (Az sz) (fw n ad mem19) := fw_D hD
  rw [hq] at hP hD
  refine f_callSNi (na := 1) (As := [.int (r18)]) (rest := []) Bx hml E.2.1 (m_Ab_smallOf l (r18)) kw_372 kw_373 kw_1 kw_374 (by decide +kernel) ⟨rfl, rfl⟩ ⟨Nat.le_of_ble_eq_true rfl, Nat.le_of_ble_eq_true rfl⟩ rfl hl.1 (Nat.le_of_ble_eq_true rfl) d_Rd_readValue_19 ⟨Nat.le_of_ble_eq_true rfl, Nat.le_of_ble_eq_true rfl⟩ (fun r21 hs20 => ?_)
  refine lv_istore_n (lv' := [(2, .int (r21)), (1, .int (at1)), (0, .ref (ad 222))]) Bx.1 Bx.2.1 d_Rd_readValue_22 rfl hl (by decide) rfl (fun ls hl => ?_)
  refine lv_aload_n Bx.1 Bx.2.1 d_Rd_readValue_23 rfl (lv_at hl 2 rfl) ?_
  refine lv_iload_n Bx.1 Bx.2.1 d_Rd_readValue_24 rfl (lv_at hl 0 rfl) ?_
  refine lv_bipush (v := 100) Bx.1 Bx.2.1 d_Rd_readValue_25 (by decide) ?_
  have J23 : ∀ (jv22 : Int32) (H : Heap) (locs : List Loc), va_P D vcl (fw n ad mem13) H → va_D (Az sz) (fw n ad mem13) → va_S (Az sz) s.heap H locs → W p l e (headSpec (Cond.code y_Rd_readValue c_Rd_readValue 7 (some (.object "AbnfChart$Element")) :: tg) ({ frames := 12, cells := 1, slots := 6, locals := 280 } : Room)).room s m [.ref (ad 222)].toArray below meth c H locs 0 0 (vx_MQ below (QX (QR (fun r mem' => ∃ k rc' ec' : Nat, r = ad (20 + 2 * k) ∧ ec ≤ k ∧ k < ec' ∧ rc ≤ rc' ∧ RS cy ad lim rc' ec' m0 mem') (PP D n ad) (Az sz))) (XQ D sz n ad (fun X mem' => (X = cIA ∨ X = cIS) ∧ ∃ rc' ec' : Nat, RS cy ad lim rc' ec' m0 mem')) [.ref (ad 222)].toArray s 1 6 (Az sz)) (F0 m 41 ls [.int (jv22), .ref (ad 222)]) := by
    intro jv22 H locs hP hD hS
    refine lv_aload_n Bx.1 Bx.2.1 d_Rd_readValue_41 rfl (lv_at hl 2 rfl) ?_
    refine f_get Bx hP (by omega) h_mem13 rfl inRd 2 (by decide) kw_146 rfl rfl d_Rd_readValue_42 ?_
    refine f_xVv (na := 2) (As := [.int (jv22), .int (at1 + 1)]) (rest := []) Bx hml E hP hD hS (by omega) h_mem13 rfl (m_Rd_needReadable l hlt hn hT hRS17) kw_360 kw_362 sel_Rd_needReadable kw_6 kw_363 (by decide +kernel) ⟨rfl, rfl⟩ ⟨Nat.le_of_ble_eq_true rfl, Nat.le_of_ble_eq_true rfl⟩ rfl hl.1 (Nat.le_of_ble_eq_true rfl) d_Rd_readValue_45 ⟨Nat.le_of_ble_eq_true rfl, Nat.le_of_ble_eq_true rfl⟩ (fun X ce q9 memx H locs hx9 hP hS g1 g2 g3 => f_out hlocks hno hP hS g1 g2 g3 ⟨Nat.le_of_ble_eq_true rfl, Nat.le_of_ble_eq_true rfl⟩ hx9) (fun mem25 H locs hq hP hS => ?_)
    have hD : va_D (Az sz) (fw n ad mem25) := fw_D hD
    obtain ⟨hRS26, -, hg27⟩ := hq
    obtain ⟨at28, ft29, h9_30⟩ := hRS26.2.1
    have h1_31 : mem25 1 = .inr (0, [.ref (ad 2), .int (nI Z)]) := (hRS26.2.2 1 (by omega)).trans hT.1
    have h2_32 : mem25 2 = .inl (cy 0, 240, .inl f) := (hRS26.2.2 2 (by omega)).trans hT.2.2
    have h5_33 := hRS26.1.2.1
    have hbd39 := hRS26.1.1
    obtain ⟨S34, g35, hS_36, h220_37, h221_38⟩ := hRS26.1.2.2.2.2.2.2
    refine lv_aload_n Bx.1 Bx.2.1 d_Rd_readValue_48 rfl (lv_at hl 2 rfl) ?_
    refine lv_dup Bx.1 Bx.2.1 d_Rd_readValue_49 rfl ?_
    refine f_get Bx hP (by omega) h9_30 rfl inRd 2 (by decide) kw_146 rfl rfl d_Rd_readValue_50 ?_
    refine lv_iconst (v := 1) Bx.1 Bx.2.1 d_Rd_readValue_53 (by decide) ?_
    refine lv_iadd Bx.1 Bx.2.1 d_Rd_readValue_54 ?_
    refine f_put Bx hP hD hS (by omega) h9_30 rfl inRd tyRd okRd nmRd 2 (by decide) kw_146 rfl rfl rfl rfl (Nat.le_of_ble_eq_true rfl) d_Rd_readValue_55 (fun H locs hP hS => ?_)
    obtain ⟨mem40, e_mem40⟩ : ∃ z, z = va_up mem25 (222) (.inr (4, [.ref (ad 1), .ref (ad 5), .int (at28 + 1), .int (ft29)])) := ⟨_, rfl⟩
    have hP : va_P D vcl (fw n ad mem40) H := by rw [e_mem40]; exact hP
    have hD : va_D (Az sz) (fw n ad mem40) := fw_D hD
    have h_mem40 : mem40 (222) = .inr (4, [.ref (ad 1), .ref (ad 5), .int (at28 + 1), .int (ft29)]) := by rw [e_mem40, va_up_self]
    have hh41 := (va_up_ne mem25 (.inr (4, [.ref (ad 1), .ref (ad 5), .int (at28 + 1), .int (ft29)])) (show (1 : Nat) ≠ 222 by first | decide | assumption | omega)).trans h1_31
    rw [← e_mem40] at hh41
    have hh42 := (va_up_ne mem25 (.inr (4, [.ref (ad 1), .ref (ad 5), .int (at28 + 1), .int (ft29)])) (show (5 : Nat) ≠ 222 by first | decide | assumption | omega)).trans h5_33
    rw [← e_mem40] at hh42
    have hh43 := (va_up_ne mem25 (.inr (4, [.ref (ad 1), .ref (ad 5), .int (at28 + 1), .int (ft29)])) (show (220 : Nat) ≠ 222 by first | decide | assumption | omega)).trans h220_37
    rw [← e_mem40] at hh43
    have hRS44 : RS cy ad lim rc ec m0 mem40 := by rw [e_mem40]; exact hRS26.at222
    refine lv_iload_n Bx.1 Bx.2.1 d_Rd_readValue_58 rfl (lv_at hl 0 rfl) ?_
    refine lv_bipush (v := 100) Bx.1 Bx.2.1 d_Rd_readValue_59 (by decide) ?_
    have J46 : ∀ (jv45 : Int32) (H : Heap) (locs : List Loc), va_P D vcl (fw n ad mem40) H → va_D (Az sz) (fw n ad mem40) → va_S (Az sz) s.heap H locs → W p l e (headSpec (Cond.code y_Rd_readValue c_Rd_readValue 7 (some (.object "AbnfChart$Element")) :: tg) ({ frames := 12, cells := 1, slots := 6, locals := 280 } : Room)).room s m [.ref (ad 222)].toArray below meth c H locs 0 0 (vx_MQ below (QX (QR (fun r mem' => ∃ k rc' ec' : Nat, r = ad (20 + 2 * k) ∧ ec ≤ k ∧ k < ec' ∧ rc ≤ rc' ∧ RS cy ad lim rc' ec' m0 mem') (PP D n ad) (Az sz))) (XQ D sz n ad (fun X mem' => (X = cIA ∨ X = cIS) ∧ ∃ rc' ec' : Nat, RS cy ad lim rc' ec' m0 mem')) [.ref (ad 222)].toArray s 1 6 (Az sz)) (F0 m 71 ls [.int (jv45)]) := by
      intro jv45 H locs hP hD hS
      refine lv_istore_n (lv' := [(3, .int (jv45)), (2, .int (r21)), (1, .int (at1)), (0, .ref (ad 222))]) Bx.1 Bx.2.1 d_Rd_readValue_71 rfl hl (by decide) rfl (fun ls hl => ?_)
      refine lv_aload_n Bx.1 Bx.2.1 d_Rd_readValue_72 rfl (lv_at hl 3 rfl) ?_
      refine lv_bipush (v := 7) Bx.1 Bx.2.1 d_Rd_readValue_73 (by decide) ?_
      refine lv_iload_n Bx.1 Bx.2.1 d_Rd_readValue_75 rfl (lv_at hl 2 rfl) ?_
      refine f_xVr (na := 2) (As := [.int (7), .int (at1)]) (rest := []) Bx hml E hP hD hS (by omega) h_mem40 rfl (m_Rd_addElement l hlt hn hT hRS44) kw_419 kw_421 sel_Rd_addElement kw_6 kw_422 (by decide +kernel) ⟨rfl, rfl⟩ ⟨Nat.le_of_ble_eq_true rfl, Nat.le_of_ble_eq_true rfl⟩ rfl hl.1 (Nat.le_of_ble_eq_true rfl) d_Rd_readValue_76 ⟨Nat.le_of_ble_eq_true rfl, Nat.le_of_ble_eq_true rfl⟩ (fun X ce q9 memx H locs hx9 hP hS g1 g2 g3 => f_out hlocks hno hP hS g1 g2 g3 ⟨Nat.le_of_ble_eq_true rfl, Nat.le_of_ble_eq_true rfl⟩ hx9) (fun r47 mem48 H locs hq hP hS => ?_)
      have hD : va_D (Az sz) (fw n ad mem48) := fw_D hD
      obtain ⟨hr951, hec50, hRS49⟩ := hq
      subst hr951
      obtain ⟨at52, ft53, h9_54⟩ := hRS49.2.1
      have h1_55 : mem48 1 = .inr (0, [.ref (ad 2), .int (nI Z)]) := (hRS49.2.2 1 (by omega)).trans hT.1
      have h2_56 : mem48 2 = .inl (cy 0, 240, .inl f) := (hRS49.2.2 2 (by omega)).trans hT.2.2
      have h5_57 := hRS49.1.2.1
      have hbd63 := hRS49.1.1
      obtain ⟨S58, g59, hS_60, h220_61, h221_62⟩ := hRS49.1.2.2.2.2.2.2
      obtain ⟨k64, lo65, hi66, as67, pa68, ne69, he_70, ho_71⟩ := (hRS49.1.2.2.2.2.2.1 ec (by omega)).1
      refine lv_astore (lv' := [(4, .ref (ad (20 + 2 * ec))), (3, .int (jv45)), (2, .int (r21)), (1, .int (at1)), (0, .ref (ad 222))]) Bx.1 Bx.2.1 d_Rd_readValue_79 hl (by decide) rfl (fun ls hl => ?_)
      refine lv_aload_n Bx.1 Bx.2.1 d_Rd_readValue_81 rfl (lv_at hl 4 rfl) ?_
      refine lv_iload_n Bx.1 Bx.2.1 d_Rd_readValue_82 rfl (lv_at hl 3 rfl) ?_
      refine lv_iload_n Bx.1 Bx.2.1 d_Rd_readValue_83 rfl (lv_at hl 1 rfl) ?_
      refine f_xVi (na := 2) (As := [.int (at1), .int (jv45)]) (rest := []) Bx hml E hP hD hS (by omega) h9_54 rfl (m_Rd_readNumber l hlt hn hT hRS49) kw_471 kw_473 sel_Rd_readNumber kw_6 kw_474 (by decide +kernel) ⟨rfl, rfl⟩ ⟨Nat.le_of_ble_eq_true rfl, Nat.le_of_ble_eq_true rfl⟩ rfl hl.1 (Nat.le_of_ble_eq_true rfl) d_Rd_readValue_84 ⟨Nat.le_of_ble_eq_true rfl, Nat.le_of_ble_eq_true rfl⟩ (fun X ce q9 memx H locs hx9 hP hS g1 g2 g3 => f_out hlocks hno hP hS g1 g2 g3 ⟨Nat.le_of_ble_eq_true rfl, Nat.le_of_ble_eq_true rfl⟩ hx9) (fun r73 mem74 H locs hRS72 hP hS => ?_)
      have hD : va_D (Az sz) (fw n ad mem74) := fw_D hD
      obtain ⟨at75, ft76, h9_77⟩ := hRS72.2.1
      have h1_78 : mem74 1 = .inr (0, [.ref (ad 2), .int (nI Z)]) := (hRS72.2.2 1 (by omega)).trans hT.1
      have h2_79 : mem74 2 = .inl (cy 0, 240, .inl f) := (hRS72.2.2 2 (by omega)).trans hT.2.2
      have h5_80 := hRS72.1.2.1
      have hbd86 := hRS72.1.1
      obtain ⟨S81, g82, hS_83, h220_84, h221_85⟩ := hRS72.1.2.2.2.2.2.2
      obtain ⟨k87, lo88, hi89, as90, pa91, ne92, he_93, ho_94⟩ := (hRS72.1.2.2.2.2.2.1 ec (by omega)).1
      refine lv_istore (lv' := [(5, .int (r73)), (4, .ref (ad (20 + 2 * ec))), (3, .int (jv45)), (2, .int (r21)), (1, .int (at1)), (0, .ref (ad 222))]) Bx.1 Bx.2.1 d_Rd_readValue_87 hl (by decide) rfl (fun ls hl => ?_)
      refine lv_aload_n Bx.1 Bx.2.1 d_Rd_readValue_89 rfl (lv_at hl 5 rfl) ?_
      refine f_callVi (na := 0) (As := []) (rest := []) Bx hml E hP hD hS (by omega) h9_77 rfl (m_Rd_peek l hn hT hRS72) kw_353 kw_355 sel_Rd_peek kw_6 kw_356 (by decide +kernel) ⟨rfl, rfl⟩ ⟨Nat.le_of_ble_eq_true rfl, Nat.le_of_ble_eq_true rfl⟩ rfl hl.1 (Nat.le_of_ble_eq_true rfl) d_Rd_readValue_90 ⟨Nat.le_of_ble_eq_true rfl, Nat.le_of_ble_eq_true rfl⟩ (fun r95 mem96 H locs hq hP hS => ?_)
      have hD : va_D (Az sz) (fw n ad mem96) := fw_D hD
      rw [hq] at hP hD
      refine lv_bipush (v := 45) Bx.1 Bx.2.1 d_Rd_readValue_93 (by decide) ?_
      refine lv_icmp_ne Bx.1 Bx.2.1 d_Rd_readValue_95 rfl (fun h8 => ?_) (fun h8 => ?_)
      · refine lv_aload Bx.1 Bx.2.1 d_Rd_readValue_152 (lv_at hl 1 rfl) ?_
        refine lv_bipush (v := 6) Bx.1 Bx.2.1 d_Rd_readValue_154 (by decide) ?_
        refine f_putN Bx hP hD hS (by omega) he_93 rfl inEl tyEl okEl nmEl 0 (by decide) kw_76 rfl rfl rfl rfl (Nat.le_of_ble_eq_true rfl) d_Rd_readValue_156 (fun H locs hP hS => ?_)
        obtain ⟨mem97, e_mem97⟩ : ∃ z, z = va_up mem74 ((20 + 2 * ec)) (.inr (2, [.int (6), .int (lo88), .int (hi89), as90, pa91, ne92, .ref (ad (21 + 2 * ec))])) := ⟨_, rfl⟩
        have hP : va_P D vcl (fw n ad mem97) H := by rw [e_mem97]; exact hP
        have hD : va_D (Az sz) (fw n ad mem97) := fw_D hD
        have h_mem97 : mem97 ((20 + 2 * ec)) = .inr (2, [.int (6), .int (lo88), .int (hi89), as90, pa91, ne92, .ref (ad (21 + 2 * ec))]) := by rw [e_mem97, va_up_self]
        have hh98 := (va_up_ne mem74 (.inr (2, [.int (6), .int (lo88), .int (hi89), as90, pa91, ne92, .ref (ad (21 + 2 * ec))])) (show (222 : Nat) ≠ (20 + 2 * ec) by first | decide | assumption | omega)).trans h9_77
        rw [← e_mem97] at hh98
        have hh99 := (va_up_ne mem74 (.inr (2, [.int (6), .int (lo88), .int (hi89), as90, pa91, ne92, .ref (ad (21 + 2 * ec))])) (show (1 : Nat) ≠ (20 + 2 * ec) by first | decide | assumption | omega)).trans h1_78
        rw [← e_mem97] at hh99
        have hh100 := (va_up_ne mem74 (.inr (2, [.int (6), .int (lo88), .int (hi89), as90, pa91, ne92, .ref (ad (21 + 2 * ec))])) (show (5 : Nat) ≠ (20 + 2 * ec) by first | decide | assumption | omega)).trans h5_80
        rw [← e_mem97] at hh100
        have hh101 := (va_up_ne mem74 (.inr (2, [.int (6), .int (lo88), .int (hi89), as90, pa91, ne92, .ref (ad (21 + 2 * ec))])) (show (220 : Nat) ≠ (20 + 2 * ec) by first | decide | assumption | omega)).trans h220_84
        rw [← e_mem97] at hh101
        have hRS102 : RS cy ad lim rc (ec + 1) m0 mem97 := by rw [e_mem97]; exact hRS72.mk (by omega) (hRS72.1.upEl (by omega) ho_94)
        refine lv_aload Bx.1 Bx.2.1 d_Rd_readValue_159 (lv_at hl 1 rfl) ?_
        refine lv_aload_n Bx.1 Bx.2.1 d_Rd_readValue_161 rfl (lv_at hl 5 rfl) ?_
        refine f_get Bx hP (by omega) hh98 rfl inRd 1 (by decide) kw_145 rfl rfl d_Rd_readValue_162 ?_
        refine f_getN Bx hP (by omega) hh100 rfl inGr 2 (by decide) kw_120 rfl rfl d_Rd_readValue_165 ?_
        refine f_getN Bx hP (by omega) hh101 rfl inCh 1 (by decide) kw_33 rfl rfl d_Rd_readValue_168 ?_
        refine f_putN Bx hP hD hS (by omega) h_mem97 rfl inEl tyEl okEl nmEl 1 (by decide) kw_79 rfl rfl rfl rfl (Nat.le_of_ble_eq_true rfl) d_Rd_readValue_171 (fun H locs hP hS => ?_)
        obtain ⟨mem103, e_mem103⟩ : ∃ z, z = va_up mem97 ((20 + 2 * ec)) (.inr (2, [.int (6), .int (nI S81), .int (hi89), as90, pa91, ne92, .ref (ad (21 + 2 * ec))])) := ⟨_, rfl⟩
        have hP : va_P D vcl (fw n ad mem103) H := by rw [e_mem103]; exact hP
        have hD : va_D (Az sz) (fw n ad mem103) := fw_D hD
        have h_mem103 : mem103 ((20 + 2 * ec)) = .inr (2, [.int (6), .int (nI S81), .int (hi89), as90, pa91, ne92, .ref (ad (21 + 2 * ec))]) := by rw [e_mem103, va_up_self]
        have hh104 := (va_up_ne mem97 (.inr (2, [.int (6), .int (nI S81), .int (hi89), as90, pa91, ne92, .ref (ad (21 + 2 * ec))])) (show (222 : Nat) ≠ (20 + 2 * ec) by first | decide | assumption | omega)).trans hh98
        rw [← e_mem103] at hh104
        have hh105 := (va_up_ne mem97 (.inr (2, [.int (6), .int (nI S81), .int (hi89), as90, pa91, ne92, .ref (ad (21 + 2 * ec))])) (show (1 : Nat) ≠ (20 + 2 * ec) by first | decide | assumption | omega)).trans hh99
        rw [← e_mem103] at hh105
        have hh106 := (va_up_ne mem97 (.inr (2, [.int (6), .int (nI S81), .int (hi89), as90, pa91, ne92, .ref (ad (21 + 2 * ec))])) (show (5 : Nat) ≠ (20 + 2 * ec) by first | decide | assumption | omega)).trans hh100
        rw [← e_mem103] at hh106
        have hh107 := (va_up_ne mem97 (.inr (2, [.int (6), .int (nI S81), .int (hi89), as90, pa91, ne92, .ref (ad (21 + 2 * ec))])) (show (220 : Nat) ≠ (20 + 2 * ec) by first | decide | assumption | omega)).trans hh101
        rw [← e_mem103] at hh107
        have hRS108 : RS cy ad lim rc (ec + 1) m0 mem103 := by rw [e_mem103]; exact hRS102.mk (by omega) (hRS102.1.upEl (by omega) ho_94)
        refine lv_aload_n Bx.1 Bx.2.1 d_Rd_readValue_174 rfl (lv_at hl 5 rfl) ?_
        refine f_get Bx hP (by omega) hh104 rfl inRd 1 (by decide) kw_145 rfl rfl d_Rd_readValue_175 ?_
        refine f_getN Bx hP (by omega) hh106 rfl inGr 2 (by decide) kw_120 rfl rfl d_Rd_readValue_178 ?_
        refine lv_iload Bx.1 Bx.2.1 d_Rd_readValue_181 (lv_at hl 0 rfl) ?_
        refine f_callVv (na := 1) (As := [.int (r73)]) (rest := []) Bx hml E hP hD hS (by omega) hh107 rfl (m_Ch_appendW l hn hT hRS108) kw_462 kw_318 kw_319 kw_2 kw_320 (by decide +kernel) ⟨rfl, rfl⟩ ⟨Nat.le_of_ble_eq_true rfl, Nat.le_of_ble_eq_true rfl⟩ rfl hl.1 (Nat.le_of_ble_eq_true rfl) d_Rd_readValue_183 ⟨Nat.le_of_ble_eq_true rfl, Nat.le_of_ble_eq_true rfl⟩ (fun mem111 H locs hRS109 hP hS => ?_)
        have hD : va_D (Az sz) (fw n ad mem111) := fw_D hD
        obtain ⟨at112, ft113, h9_114⟩ := hRS109.2.1
        have h1_115 : mem111 1 = .inr (0, [.ref (ad 2), .int (nI Z)]) := (hRS109.2.2 1 (by omega)).trans hT.1
        have h2_116 : mem111 2 = .inl (cy 0, 240, .inl f) := (hRS109.2.2 2 (by omega)).trans hT.2.2
        have h5_117 := hRS109.1.2.1
        have hbd123 := hRS109.1.1
        obtain ⟨S118, g119, hS_120, h220_121, h221_122⟩ := hRS109.1.2.2.2.2.2.2
        obtain ⟨k124, lo125, hi126, as127, pa128, ne129, he_130, ho_131⟩ := (hRS109.1.2.2.2.2.2.1 ec (by omega)).1
        refine lv_iconst (v := 0) Bx.1 Bx.2.1 d_Rd_readValue_186 (by decide) ?_
        refine lv_istore (lv' := [(6, .int (0)), (5, .int (r73)), (4, .ref (ad (20 + 2 * ec))), (3, .int (jv45)), (2, .int (r21)), (1, .int (at1)), (0, .ref (ad 222))]) Bx.1 Bx.2.1 d_Rd_readValue_187 hl (by decide) rfl (fun ls hl => ?_)
        have loop132 : ∀ (d : Nat) (mem : Nat → va_E) (ls : Array Slot) (H : Heap) (locs : List Loc) (k9 : Int32), ((3 : Int32).toInt - (k9).toInt).toNat < d → RS cy ad lim rc (ec + 1) m0 mem → va_P D vcl (fw n ad mem) H → va_D (Az sz) (fw n ad mem) → va_S (Az sz) s.heap H locs → lv_has ls 7 [(6, .int (k9)), (5, .int (r73)), (4, .ref (ad (20 + 2 * ec))), (3, .int (jv45)), (2, .int (r21)), (1, .int (at1)), (0, .ref (ad 222))] → W p l e (headSpec (Cond.code y_Rd_readValue c_Rd_readValue 7 (some (.object "AbnfChart$Element")) :: tg) ({ frames := 12, cells := 1, slots := 6, locals := 280 } : Room)).room s m [.ref (ad 222)].toArray below meth c H locs 0 0 (vx_MQ below (QX (QR (fun r mem' => ∃ k rc' ec' : Nat, r = ad (20 + 2 * k) ∧ ec ≤ k ∧ k < ec' ∧ rc ≤ rc' ∧ RS cy ad lim rc' ec' m0 mem') (PP D n ad) (Az sz))) (XQ D sz n ad (fun X mem' => (X = cIA ∨ X = cIS) ∧ ∃ rc' ec' : Nat, RS cy ad lim rc' ec' m0 mem')) [.ref (ad 222)].toArray s 1 6 (Az sz)) (F0 m 189 ls []) := by
          intro d
          induction d with
          | zero => intro mem ls H locs k9 hmeas; exact absurd hmeas (Nat.not_lt_zero _)
          | succ d ih =>
            intro mem ls H locs k9 hmeas hRS  hP hD hS hl
            have hbd := hRS.1.1
            obtain ⟨at133, ft134, h9_135⟩ := hRS.2.1
            have h1_136 : mem 1 = .inr (0, [.ref (ad 2), .int (nI Z)]) := (hRS.2.2 1 (by omega)).trans hT.1
            have h2_137 : mem 2 = .inl (cy 0, 240, .inl f) := (hRS.2.2 2 (by omega)).trans hT.2.2
            have h5_138 := hRS.1.2.1
            have hbd144 := hRS.1.1
            obtain ⟨S139, g140, hS_141, h220_142, h221_143⟩ := hRS.1.2.2.2.2.2.2
            obtain ⟨k145, lo146, hi147, as148, pa149, ne150, he_151, ho_152⟩ := (hRS.1.2.2.2.2.2.1 ec (by omega)).1
            refine lv_iload Bx.1 Bx.2.1 d_Rd_readValue_189 (lv_at hl 0 rfl) ?_
            refine lv_iconst (v := 3) Bx.1 Bx.2.1 d_Rd_readValue_191 (by decide) ?_
            refine lv_icmp_ge Bx.1 Bx.2.1 d_Rd_readValue_192 rfl (fun hk => ?_) (fun hk => ?_)
            · refine lv_aload Bx.1 Bx.2.1 d_Rd_readValue_236 (lv_at hl 2 rfl) ?_
              refine lv_aload_n Bx.1 Bx.2.1 d_Rd_readValue_238 rfl (lv_at hl 6 rfl) ?_
              refine f_get Bx hP (by omega) h9_135 rfl inRd 1 (by decide) kw_145 rfl rfl d_Rd_readValue_239 ?_
              refine f_getN Bx hP (by omega) h5_138 rfl inGr 2 (by decide) kw_120 rfl rfl d_Rd_readValue_242 ?_
              refine f_getN Bx hP (by omega) h220_142 rfl inCh 1 (by decide) kw_33 rfl rfl d_Rd_readValue_245 ?_
              refine f_putN Bx hP hD hS (by omega) he_151 rfl inEl tyEl okEl nmEl 2 (by decide) kw_82 rfl rfl rfl rfl (Nat.le_of_ble_eq_true rfl) d_Rd_readValue_248 (fun H locs hP hS => ?_)
              obtain ⟨mem153, e_mem153⟩ : ∃ z, z = va_up mem ((20 + 2 * ec)) (.inr (2, [.int (k145), .int (lo146), .int (nI S139), as148, pa149, ne150, .ref (ad (21 + 2 * ec))])) := ⟨_, rfl⟩
              have hP : va_P D vcl (fw n ad mem153) H := by rw [e_mem153]; exact hP
              have hD : va_D (Az sz) (fw n ad mem153) := fw_D hD
              have h_mem153 : mem153 ((20 + 2 * ec)) = .inr (2, [.int (k145), .int (lo146), .int (nI S139), as148, pa149, ne150, .ref (ad (21 + 2 * ec))]) := by rw [e_mem153, va_up_self]
              have hh154 := (va_up_ne mem (.inr (2, [.int (k145), .int (lo146), .int (nI S139), as148, pa149, ne150, .ref (ad (21 + 2 * ec))])) (show (222 : Nat) ≠ (20 + 2 * ec) by first | decide | assumption | omega)).trans h9_135
              rw [← e_mem153] at hh154
              have hh155 := (va_up_ne mem (.inr (2, [.int (k145), .int (lo146), .int (nI S139), as148, pa149, ne150, .ref (ad (21 + 2 * ec))])) (show (1 : Nat) ≠ (20 + 2 * ec) by first | decide | assumption | omega)).trans h1_136
              rw [← e_mem153] at hh155
              have hh156 := (va_up_ne mem (.inr (2, [.int (k145), .int (lo146), .int (nI S139), as148, pa149, ne150, .ref (ad (21 + 2 * ec))])) (show (5 : Nat) ≠ (20 + 2 * ec) by first | decide | assumption | omega)).trans h5_138
              rw [← e_mem153] at hh156
              have hh157 := (va_up_ne mem (.inr (2, [.int (k145), .int (lo146), .int (nI S139), as148, pa149, ne150, .ref (ad (21 + 2 * ec))])) (show (220 : Nat) ≠ (20 + 2 * ec) by first | decide | assumption | omega)).trans h220_142
              rw [← e_mem153] at hh157
              have hRS158 : RS cy ad lim rc (ec + 1) m0 mem153 := by rw [e_mem153]; exact hRS.mk (by omega) (hRS.1.upEl (by omega) ho_152)
              refine lv_aload Bx.1 Bx.2.1 d_Rd_readValue_251 (lv_at hl 2 rfl) ?_
              exact x_aret hx hb hlocks hr (⟨ec, rc, (ec + 1), rfl, by omega, by omega, by omega, hRS158⟩) hP hS d_Rd_readValue_253
            · refine lv_aload_n Bx.1 Bx.2.1 d_Rd_readValue_195 rfl (lv_at hl 6 rfl) ?_
              refine f_callVi (na := 0) (As := []) (rest := []) Bx hml E hP hD hS (by omega) h9_135 rfl (m_Rd_peek l hn hT hRS) kw_353 kw_355 sel_Rd_peek kw_6 kw_356 (by decide +kernel) ⟨rfl, rfl⟩ ⟨Nat.le_of_ble_eq_true rfl, Nat.le_of_ble_eq_true rfl⟩ rfl hl.1 (Nat.le_of_ble_eq_true rfl) d_Rd_readValue_196 ⟨Nat.le_of_ble_eq_true rfl, Nat.le_of_ble_eq_true rfl⟩ (fun r159 mem160 H locs hq hP hS => ?_)
              have hD : va_D (Az sz) (fw n ad mem160) := fw_D hD
              rw [hq] at hP hD
              refine lv_bipush (v := 46) Bx.1 Bx.2.1 d_Rd_readValue_199 (by decide) ?_
              refine lv_icmp_ne Bx.1 Bx.2.1 d_Rd_readValue_201 rfl (fun h8 => ?_) (fun h8 => ?_)
              · refine lv_aload Bx.1 Bx.2.1 d_Rd_readValue_236 (lv_at hl 2 rfl) ?_
                refine lv_aload_n Bx.1 Bx.2.1 d_Rd_readValue_238 rfl (lv_at hl 6 rfl) ?_
                refine f_get Bx hP (by omega) h9_135 rfl inRd 1 (by decide) kw_145 rfl rfl d_Rd_readValue_239 ?_
                refine f_getN Bx hP (by omega) h5_138 rfl inGr 2 (by decide) kw_120 rfl rfl d_Rd_readValue_242 ?_
                refine f_getN Bx hP (by omega) h220_142 rfl inCh 1 (by decide) kw_33 rfl rfl d_Rd_readValue_245 ?_
                refine f_putN Bx hP hD hS (by omega) he_151 rfl inEl tyEl okEl nmEl 2 (by decide) kw_82 rfl rfl rfl rfl (Nat.le_of_ble_eq_true rfl) d_Rd_readValue_248 (fun H locs hP hS => ?_)
                obtain ⟨mem161, e_mem161⟩ : ∃ z, z = va_up mem ((20 + 2 * ec)) (.inr (2, [.int (k145), .int (lo146), .int (nI S139), as148, pa149, ne150, .ref (ad (21 + 2 * ec))])) := ⟨_, rfl⟩
                have hP : va_P D vcl (fw n ad mem161) H := by rw [e_mem161]; exact hP
                have hD : va_D (Az sz) (fw n ad mem161) := fw_D hD
                have h_mem161 : mem161 ((20 + 2 * ec)) = .inr (2, [.int (k145), .int (lo146), .int (nI S139), as148, pa149, ne150, .ref (ad (21 + 2 * ec))]) := by rw [e_mem161, va_up_self]
                have hh162 := (va_up_ne mem (.inr (2, [.int (k145), .int (lo146), .int (nI S139), as148, pa149, ne150, .ref (ad (21 + 2 * ec))])) (show (222 : Nat) ≠ (20 + 2 * ec) by first | decide | assumption | omega)).trans h9_135
                rw [← e_mem161] at hh162
                have hh163 := (va_up_ne mem (.inr (2, [.int (k145), .int (lo146), .int (nI S139), as148, pa149, ne150, .ref (ad (21 + 2 * ec))])) (show (1 : Nat) ≠ (20 + 2 * ec) by first | decide | assumption | omega)).trans h1_136
                rw [← e_mem161] at hh163
                have hh164 := (va_up_ne mem (.inr (2, [.int (k145), .int (lo146), .int (nI S139), as148, pa149, ne150, .ref (ad (21 + 2 * ec))])) (show (5 : Nat) ≠ (20 + 2 * ec) by first | decide | assumption | omega)).trans h5_138
                rw [← e_mem161] at hh164
                have hh165 := (va_up_ne mem (.inr (2, [.int (k145), .int (lo146), .int (nI S139), as148, pa149, ne150, .ref (ad (21 + 2 * ec))])) (show (220 : Nat) ≠ (20 + 2 * ec) by first | decide | assumption | omega)).trans h220_142
                rw [← e_mem161] at hh165
                have hRS166 : RS cy ad lim rc (ec + 1) m0 mem161 := by rw [e_mem161]; exact hRS.mk (by omega) (hRS.1.upEl (by omega) ho_152)
                refine lv_aload Bx.1 Bx.2.1 d_Rd_readValue_251 (lv_at hl 2 rfl) ?_
                exact x_aret hx hb hlocks hr (⟨ec, rc, (ec + 1), rfl, by omega, by omega, by omega, hRS166⟩) hP hS d_Rd_readValue_253
              · refine lv_aload_n Bx.1 Bx.2.1 d_Rd_readValue_204 rfl (lv_at hl 6 rfl) ?_
                refine lv_dup Bx.1 Bx.2.1 d_Rd_readValue_205 rfl ?_
                refine f_get Bx hP (by omega) h9_135 rfl inRd 2 (by decide) kw_146 rfl rfl d_Rd_readValue_206 ?_
                refine lv_iconst (v := 1) Bx.1 Bx.2.1 d_Rd_readValue_209 (by decide) ?_
                refine lv_iadd Bx.1 Bx.2.1 d_Rd_readValue_210 ?_
                refine f_put Bx hP hD hS (by omega) h9_135 rfl inRd tyRd okRd nmRd 2 (by decide) kw_146 rfl rfl rfl rfl (Nat.le_of_ble_eq_true rfl) d_Rd_readValue_211 (fun H locs hP hS => ?_)
                obtain ⟨mem167, e_mem167⟩ : ∃ z, z = va_up mem (222) (.inr (4, [.ref (ad 1), .ref (ad 5), .int (at133 + 1), .int (ft134)])) := ⟨_, rfl⟩
                have hP : va_P D vcl (fw n ad mem167) H := by rw [e_mem167]; exact hP
                have hD : va_D (Az sz) (fw n ad mem167) := fw_D hD
                have h_mem167 : mem167 (222) = .inr (4, [.ref (ad 1), .ref (ad 5), .int (at133 + 1), .int (ft134)]) := by rw [e_mem167, va_up_self]
                have hh168 := (va_up_ne mem (.inr (4, [.ref (ad 1), .ref (ad 5), .int (at133 + 1), .int (ft134)])) (show (1 : Nat) ≠ 222 by first | decide | assumption | omega)).trans h1_136
                rw [← e_mem167] at hh168
                have hh169 := (va_up_ne mem (.inr (4, [.ref (ad 1), .ref (ad 5), .int (at133 + 1), .int (ft134)])) (show (5 : Nat) ≠ 222 by first | decide | assumption | omega)).trans h5_138
                rw [← e_mem167] at hh169
                have hh170 := (va_up_ne mem (.inr (4, [.ref (ad 1), .ref (ad 5), .int (at133 + 1), .int (ft134)])) (show (220 : Nat) ≠ 222 by first | decide | assumption | omega)).trans h220_142
                rw [← e_mem167] at hh170
                have hh171 := (va_up_ne mem (.inr (4, [.ref (ad 1), .ref (ad 5), .int (at133 + 1), .int (ft134)])) (show ((20 + 2 * ec) : Nat) ≠ 222 by first | decide | assumption | omega)).trans he_151
                rw [← e_mem167] at hh171
                have hRS172 : RS cy ad lim rc (ec + 1) m0 mem167 := by rw [e_mem167]; exact hRS.at222
                refine lv_aload_n Bx.1 Bx.2.1 d_Rd_readValue_214 rfl (lv_at hl 6 rfl) ?_
                refine f_get Bx hP (by omega) h_mem167 rfl inRd 1 (by decide) kw_145 rfl rfl d_Rd_readValue_215 ?_
                refine f_getN Bx hP (by omega) hh169 rfl inGr 2 (by decide) kw_120 rfl rfl d_Rd_readValue_218 ?_
                refine lv_aload_n Bx.1 Bx.2.1 d_Rd_readValue_221 rfl (lv_at hl 6 rfl) ?_
                refine lv_iload_n Bx.1 Bx.2.1 d_Rd_readValue_222 rfl (lv_at hl 5 rfl) ?_
                refine lv_iload_n Bx.1 Bx.2.1 d_Rd_readValue_223 rfl (lv_at hl 3 rfl) ?_
                refine f_xVi (na := 2) (As := [.int (at1), .int (jv45)]) (rest := [.ref (ad 220)]) Bx hml E hP hD hS (by omega) h_mem167 rfl (m_Rd_readNumber l hlt hn hT hRS172) kw_471 kw_473 sel_Rd_readNumber kw_6 kw_474 (by decide +kernel) ⟨rfl, rfl⟩ ⟨Nat.le_of_ble_eq_true rfl, Nat.le_of_ble_eq_true rfl⟩ rfl hl.1 (Nat.le_of_ble_eq_true rfl) d_Rd_readValue_224 ⟨Nat.le_of_ble_eq_true rfl, Nat.le_of_ble_eq_true rfl⟩ (fun X ce q9 memx H locs hx9 hP hS g1 g2 g3 => f_out hlocks hno hP hS g1 g2 g3 ⟨Nat.le_of_ble_eq_true rfl, Nat.le_of_ble_eq_true rfl⟩ hx9) (fun r174 mem175 H locs hRS173 hP hS => ?_)
                have hD : va_D (Az sz) (fw n ad mem175) := fw_D hD
                obtain ⟨at176, ft177, h9_178⟩ := hRS173.2.1
                have h1_179 : mem175 1 = .inr (0, [.ref (ad 2), .int (nI Z)]) := (hRS173.2.2 1 (by omega)).trans hT.1
                have h2_180 : mem175 2 = .inl (cy 0, 240, .inl f) := (hRS173.2.2 2 (by omega)).trans hT.2.2
                have h5_181 := hRS173.1.2.1
                have hbd187 := hRS173.1.1
                obtain ⟨S182, g183, hS_184, h220_185, h221_186⟩ := hRS173.1.2.2.2.2.2.2
                obtain ⟨k188, lo189, hi190, as191, pa192, ne193, he_194, ho_195⟩ := (hRS173.1.2.2.2.2.2.1 ec (by omega)).1
                refine f_callVv (na := 1) (As := [.int (r174)]) (rest := []) Bx hml E hP hD hS (by omega) h220_185 rfl (m_Ch_appendW l hn hT hRS173) kw_462 kw_318 kw_319 kw_2 kw_320 (by decide +kernel) ⟨rfl, rfl⟩ ⟨Nat.le_of_ble_eq_true rfl, Nat.le_of_ble_eq_true rfl⟩ rfl hl.1 (Nat.le_of_ble_eq_true rfl) d_Rd_readValue_227 ⟨Nat.le_of_ble_eq_true rfl, Nat.le_of_ble_eq_true rfl⟩ (fun mem198 H locs hRS196 hP hS => ?_)
                have hD : va_D (Az sz) (fw n ad mem198) := fw_D hD
                obtain ⟨at199, ft200, h9_201⟩ := hRS196.2.1
                have h1_202 : mem198 1 = .inr (0, [.ref (ad 2), .int (nI Z)]) := (hRS196.2.2 1 (by omega)).trans hT.1
                have h2_203 : mem198 2 = .inl (cy 0, 240, .inl f) := (hRS196.2.2 2 (by omega)).trans hT.2.2
                have h5_204 := hRS196.1.2.1
                have hbd210 := hRS196.1.1
                obtain ⟨S205, g206, hS_207, h220_208, h221_209⟩ := hRS196.1.2.2.2.2.2.2
                obtain ⟨k211, lo212, hi213, as214, pa215, ne216, he_217, ho_218⟩ := (hRS196.1.2.2.2.2.2.1 ec (by omega)).1
                refine lv_iinc (lv' := [(6, .int ((k9 + (1)))), (5, .int (r73)), (4, .ref (ad (20 + 2 * ec))), (3, .int (jv45)), (2, .int (r21)), (1, .int (at1)), (0, .ref (ad 222))]) Bx.1 Bx.2.1 d_Rd_readValue_230 hl (k := 0) rfl rfl (by decide) rfl (fun ls hl => ?_)
                refine lv_goto Bx.1 Bx.2.1 d_Rd_readValue_233 rfl ?_
                exact ih _ _ _ _ _ (by have := inc_meas hk; omega) hRS196  hP hD hS (lv_sub hl [0, 1, 2, 3, 4, 5, 6] rfl)
        exact loop132 _ _ _ _ _ _ (Nat.lt_succ_self _) hRS109  hP hD hS (lv_sub hl [0, 1, 2, 3, 4, 5, 6] rfl)
      · refine lv_aload_n Bx.1 Bx.2.1 d_Rd_readValue_98 rfl (lv_at hl 5 rfl) ?_
        refine lv_dup Bx.1 Bx.2.1 d_Rd_readValue_99 rfl ?_
        refine f_get Bx hP (by omega) h9_77 rfl inRd 2 (by decide) kw_146 rfl rfl d_Rd_readValue_100 ?_
        refine lv_iconst (v := 1) Bx.1 Bx.2.1 d_Rd_readValue_103 (by decide) ?_
        refine lv_iadd Bx.1 Bx.2.1 d_Rd_readValue_104 ?_
        refine f_put Bx hP hD hS (by omega) h9_77 rfl inRd tyRd okRd nmRd 2 (by decide) kw_146 rfl rfl rfl rfl (Nat.le_of_ble_eq_true rfl) d_Rd_readValue_105 (fun H locs hP hS => ?_)
        obtain ⟨mem219, e_mem219⟩ : ∃ z, z = va_up mem74 (222) (.inr (4, [.ref (ad 1), .ref (ad 5), .int (at75 + 1), .int (ft76)])) := ⟨_, rfl⟩
        have hP : va_P D vcl (fw n ad mem219) H := by rw [e_mem219]; exact hP
        have hD : va_D (Az sz) (fw n ad mem219) := fw_D hD
        have h_mem219 : mem219 (222) = .inr (4, [.ref (ad 1), .ref (ad 5), .int (at75 + 1), .int (ft76)]) := by rw [e_mem219, va_up_self]
        have hh220 := (va_up_ne mem74 (.inr (4, [.ref (ad 1), .ref (ad 5), .int (at75 + 1), .int (ft76)])) (show (1 : Nat) ≠ 222 by first | decide | assumption | omega)).trans h1_78
        rw [← e_mem219] at hh220
        have hh221 := (va_up_ne mem74 (.inr (4, [.ref (ad 1), .ref (ad 5), .int (at75 + 1), .int (ft76)])) (show (5 : Nat) ≠ 222 by first | decide | assumption | omega)).trans h5_80
        rw [← e_mem219] at hh221
        have hh222 := (va_up_ne mem74 (.inr (4, [.ref (ad 1), .ref (ad 5), .int (at75 + 1), .int (ft76)])) (show (220 : Nat) ≠ 222 by first | decide | assumption | omega)).trans h220_84
        rw [← e_mem219] at hh222
        have hh223 := (va_up_ne mem74 (.inr (4, [.ref (ad 1), .ref (ad 5), .int (at75 + 1), .int (ft76)])) (show ((20 + 2 * ec) : Nat) ≠ 222 by first | decide | assumption | omega)).trans he_93
        rw [← e_mem219] at hh223
        have hRS224 : RS cy ad lim rc (ec + 1) m0 mem219 := by rw [e_mem219]; exact hRS72.at222
        refine lv_aload Bx.1 Bx.2.1 d_Rd_readValue_108 (lv_at hl 1 rfl) ?_
        refine lv_iload Bx.1 Bx.2.1 d_Rd_readValue_110 (lv_at hl 0 rfl) ?_
        refine f_putN Bx hP hD hS (by omega) hh223 rfl inEl tyEl okEl nmEl 1 (by decide) kw_79 rfl rfl rfl rfl (Nat.le_of_ble_eq_true rfl) d_Rd_readValue_112 (fun H locs hP hS => ?_)
        obtain ⟨mem225, e_mem225⟩ : ∃ z, z = va_up mem219 ((20 + 2 * ec)) (.inr (2, [.int (k87), .int (r73), .int (hi89), as90, pa91, ne92, .ref (ad (21 + 2 * ec))])) := ⟨_, rfl⟩
        have hP : va_P D vcl (fw n ad mem225) H := by rw [e_mem225]; exact hP
        have hD : va_D (Az sz) (fw n ad mem225) := fw_D hD
        have h_mem225 : mem225 ((20 + 2 * ec)) = .inr (2, [.int (k87), .int (r73), .int (hi89), as90, pa91, ne92, .ref (ad (21 + 2 * ec))]) := by rw [e_mem225, va_up_self]
        have hh226 := (va_up_ne mem219 (.inr (2, [.int (k87), .int (r73), .int (hi89), as90, pa91, ne92, .ref (ad (21 + 2 * ec))])) (show (222 : Nat) ≠ (20 + 2 * ec) by first | decide | assumption | omega)).trans h_mem219
        rw [← e_mem225] at hh226
        have hh227 := (va_up_ne mem219 (.inr (2, [.int (k87), .int (r73), .int (hi89), as90, pa91, ne92, .ref (ad (21 + 2 * ec))])) (show (1 : Nat) ≠ (20 + 2 * ec) by first | decide | assumption | omega)).trans hh220
        rw [← e_mem225] at hh227
        have hh228 := (va_up_ne mem219 (.inr (2, [.int (k87), .int (r73), .int (hi89), as90, pa91, ne92, .ref (ad (21 + 2 * ec))])) (show (5 : Nat) ≠ (20 + 2 * ec) by first | decide | assumption | omega)).trans hh221
        rw [← e_mem225] at hh228
        have hh229 := (va_up_ne mem219 (.inr (2, [.int (k87), .int (r73), .int (hi89), as90, pa91, ne92, .ref (ad (21 + 2 * ec))])) (show (220 : Nat) ≠ (20 + 2 * ec) by first | decide | assumption | omega)).trans hh222
        rw [← e_mem225] at hh229
        have hRS230 : RS cy ad lim rc (ec + 1) m0 mem225 := by rw [e_mem225]; exact hRS224.mk (by omega) (hRS224.1.upEl (by omega) ho_94)
        refine lv_aload Bx.1 Bx.2.1 d_Rd_readValue_115 (lv_at hl 1 rfl) ?_
        refine lv_aload_n Bx.1 Bx.2.1 d_Rd_readValue_117 rfl (lv_at hl 5 rfl) ?_
        refine lv_iload_n Bx.1 Bx.2.1 d_Rd_readValue_118 rfl (lv_at hl 4 rfl) ?_
        refine lv_iload_n Bx.1 Bx.2.1 d_Rd_readValue_119 rfl (lv_at hl 2 rfl) ?_
        refine f_xVi (na := 2) (As := [.int (at1), .int (jv45)]) (rest := [.ref (ad (20 + 2 * ec))]) Bx hml E hP hD hS (by omega) hh226 rfl (m_Rd_readNumber l hlt hn hT hRS230) kw_471 kw_473 sel_Rd_readNumber kw_6 kw_474 (by decide +kernel) ⟨rfl, rfl⟩ ⟨Nat.le_of_ble_eq_true rfl, Nat.le_of_ble_eq_true rfl⟩ rfl hl.1 (Nat.le_of_ble_eq_true rfl) d_Rd_readValue_120 ⟨Nat.le_of_ble_eq_true rfl, Nat.le_of_ble_eq_true rfl⟩ (fun X ce q9 memx H locs hx9 hP hS g1 g2 g3 => f_out hlocks hno hP hS g1 g2 g3 ⟨Nat.le_of_ble_eq_true rfl, Nat.le_of_ble_eq_true rfl⟩ hx9) (fun r232 mem233 H locs hRS231 hP hS => ?_)
        have hD : va_D (Az sz) (fw n ad mem233) := fw_D hD
        obtain ⟨at234, ft235, h9_236⟩ := hRS231.2.1
        have h1_237 : mem233 1 = .inr (0, [.ref (ad 2), .int (nI Z)]) := (hRS231.2.2 1 (by omega)).trans hT.1
        have h2_238 : mem233 2 = .inl (cy 0, 240, .inl f) := (hRS231.2.2 2 (by omega)).trans hT.2.2
        have h5_239 := hRS231.1.2.1
        have hbd245 := hRS231.1.1
        obtain ⟨S240, g241, hS_242, h220_243, h221_244⟩ := hRS231.1.2.2.2.2.2.2
        obtain ⟨k246, lo247, hi248, as249, pa250, ne251, he_252, ho_253⟩ := (hRS231.1.2.2.2.2.2.1 ec (by omega)).1
        refine f_putN Bx hP hD hS (by omega) he_252 rfl inEl tyEl okEl nmEl 2 (by decide) kw_82 rfl rfl rfl rfl (Nat.le_of_ble_eq_true rfl) d_Rd_readValue_123 (fun H locs hP hS => ?_)
        obtain ⟨mem254, e_mem254⟩ : ∃ z, z = va_up mem233 ((20 + 2 * ec)) (.inr (2, [.int (k246), .int (lo247), .int (r232), as249, pa250, ne251, .ref (ad (21 + 2 * ec))])) := ⟨_, rfl⟩
        have hP : va_P D vcl (fw n ad mem254) H := by rw [e_mem254]; exact hP
        have hD : va_D (Az sz) (fw n ad mem254) := fw_D hD
        have h_mem254 : mem254 ((20 + 2 * ec)) = .inr (2, [.int (k246), .int (lo247), .int (r232), as249, pa250, ne251, .ref (ad (21 + 2 * ec))]) := by rw [e_mem254, va_up_self]
        have hh255 := (va_up_ne mem233 (.inr (2, [.int (k246), .int (lo247), .int (r232), as249, pa250, ne251, .ref (ad (21 + 2 * ec))])) (show (222 : Nat) ≠ (20 + 2 * ec) by first | decide | assumption | omega)).trans h9_236
        rw [← e_mem254] at hh255
        have hh256 := (va_up_ne mem233 (.inr (2, [.int (k246), .int (lo247), .int (r232), as249, pa250, ne251, .ref (ad (21 + 2 * ec))])) (show (1 : Nat) ≠ (20 + 2 * ec) by first | decide | assumption | omega)).trans h1_237
        rw [← e_mem254] at hh256
        have hh257 := (va_up_ne mem233 (.inr (2, [.int (k246), .int (lo247), .int (r232), as249, pa250, ne251, .ref (ad (21 + 2 * ec))])) (show (5 : Nat) ≠ (20 + 2 * ec) by first | decide | assumption | omega)).trans h5_239
        rw [← e_mem254] at hh257
        have hh258 := (va_up_ne mem233 (.inr (2, [.int (k246), .int (lo247), .int (r232), as249, pa250, ne251, .ref (ad (21 + 2 * ec))])) (show (220 : Nat) ≠ (20 + 2 * ec) by first | decide | assumption | omega)).trans h220_243
        rw [← e_mem254] at hh258
        have hRS259 : RS cy ad lim rc (ec + 1) m0 mem254 := by rw [e_mem254]; exact hRS231.mk (by omega) (hRS231.1.upEl (by omega) ho_253)
        refine lv_aload_n Bx.1 Bx.2.1 d_Rd_readValue_126 rfl (lv_at hl 5 rfl) ?_
        refine lv_aload Bx.1 Bx.2.1 d_Rd_readValue_127 (lv_at hl 1 rfl) ?_
        refine f_getN Bx hP (by omega) h_mem254 rfl inEl 1 (by decide) kw_79 rfl rfl d_Rd_readValue_129 ?_
        refine lv_aload Bx.1 Bx.2.1 d_Rd_readValue_132 (lv_at hl 1 rfl) ?_
        refine f_getN Bx hP (by omega) h_mem254 rfl inEl 2 (by decide) kw_82 rfl rfl d_Rd_readValue_134 ?_
        have J261 : ∀ (jv260 : Int32) (H : Heap) (locs : List Loc), va_P D vcl (fw n ad mem254) H → va_D (Az sz) (fw n ad mem254) → va_S (Az sz) s.heap H locs → W p l e (headSpec (Cond.code y_Rd_readValue c_Rd_readValue 7 (some (.object "AbnfChart$Element")) :: tg) ({ frames := 12, cells := 1, slots := 6, locals := 280 } : Room)).room s m [.ref (ad 222)].toArray below meth c H locs 0 0 (vx_MQ below (QX (QR (fun r mem' => ∃ k rc' ec' : Nat, r = ad (20 + 2 * k) ∧ ec ≤ k ∧ k < ec' ∧ rc ≤ rc' ∧ RS cy ad lim rc' ec' m0 mem') (PP D n ad) (Az sz))) (XQ D sz n ad (fun X mem' => (X = cIA ∨ X = cIS) ∧ ∃ rc' ec' : Nat, RS cy ad lim rc' ec' m0 mem')) [.ref (ad 222)].toArray s 1 6 (Az sz)) (F0 m 145 ls [.int (jv260), .ref (ad 222)]) := by
          intro jv260 H locs hP hD hS
          refine lv_iload_n Bx.1 Bx.2.1 d_Rd_readValue_145 rfl (lv_at hl 4 rfl) ?_
          refine f_xVv (na := 2) (As := [.int (jv260), .int (at1)]) (rest := []) Bx hml E hP hD hS (by omega) hh255 rfl (m_Rd_needReadable l hlt hn hT hRS259) kw_360 kw_362 sel_Rd_needReadable kw_6 kw_363 (by decide +kernel) ⟨rfl, rfl⟩ ⟨Nat.le_of_ble_eq_true rfl, Nat.le_of_ble_eq_true rfl⟩ rfl hl.1 (Nat.le_of_ble_eq_true rfl) d_Rd_readValue_146 ⟨Nat.le_of_ble_eq_true rfl, Nat.le_of_ble_eq_true rfl⟩ (fun X ce q9 memx H locs hx9 hP hS g1 g2 g3 => f_out hlocks hno hP hS g1 g2 g3 ⟨Nat.le_of_ble_eq_true rfl, Nat.le_of_ble_eq_true rfl⟩ hx9) (fun mem263 H locs hq hP hS => ?_)
          have hD : va_D (Az sz) (fw n ad mem263) := fw_D hD
          obtain ⟨hRS264, -, hg265⟩ := hq
          obtain ⟨at266, ft267, h9_268⟩ := hRS264.2.1
          have h1_269 : mem263 1 = .inr (0, [.ref (ad 2), .int (nI Z)]) := (hRS264.2.2 1 (by omega)).trans hT.1
          have h2_270 : mem263 2 = .inl (cy 0, 240, .inl f) := (hRS264.2.2 2 (by omega)).trans hT.2.2
          have h5_271 := hRS264.1.2.1
          have hbd277 := hRS264.1.1
          obtain ⟨S272, g273, hS_274, h220_275, h221_276⟩ := hRS264.1.2.2.2.2.2.2
          obtain ⟨k278, lo279, hi280, as281, pa282, ne283, he_284, ho_285⟩ := (hRS264.1.2.2.2.2.2.1 ec (by omega)).1
          refine lv_aload Bx.1 Bx.2.1 d_Rd_readValue_149 (lv_at hl 1 rfl) ?_
          exact x_aret hx hb hlocks hr (⟨ec, rc, (ec + 1), rfl, by omega, by omega, by omega, hRS264⟩) hP hS d_Rd_readValue_151
        refine lv_icmp_gt Bx.1 Bx.2.1 d_Rd_readValue_137 rfl (fun h8 => ?_) (fun h8 => ?_)
        · refine lv_iconst (v := 0) Bx.1 Bx.2.1 d_Rd_readValue_144 (by decide) ?_
          exact J261 _ _ _ hP hD hS
        · refine lv_iconst (v := 1) Bx.1 Bx.2.1 d_Rd_readValue_140 (by decide) ?_
          refine lv_goto Bx.1 Bx.2.1 d_Rd_readValue_141 rfl ?_
          exact J261 _ _ _ hP hD hS
    refine lv_icmp_ne Bx.1 Bx.2.1 d_Rd_readValue_61 rfl (fun h8 => ?_) (fun h8 => ?_)
    · refine lv_bipush (v := 16) Bx.1 Bx.2.1 d_Rd_readValue_69 (by decide) ?_
      exact J46 _ _ _ hP hD hS
    · refine lv_bipush (v := 10) Bx.1 Bx.2.1 d_Rd_readValue_64 (by decide) ?_
      refine lv_goto Bx.1 Bx.2.1 d_Rd_readValue_66 rfl ?_
      exact J46 _ _ _ hP hD hS
  refine lv_icmp_eq Bx.1 Bx.2.1 d_Rd_readValue_27 rfl (fun h8 => ?_) (fun h8 => ?_)
  · refine lv_iconst (v := 1) Bx.1 Bx.2.1 d_Rd_readValue_36 (by decide) ?_
    refine lv_goto Bx.1 Bx.2.1 d_Rd_readValue_37 rfl ?_
    exact J23 _ _ _ hP hD hS
  · refine lv_iload_n Bx.1 Bx.2.1 d_Rd_readValue_30 rfl (lv_at hl 0 rfl) ?_
    refine lv_bipush (v := 120) Bx.1 Bx.2.1 d_Rd_readValue_31 (by decide) ?_
    refine lv_icmp_ne Bx.1 Bx.2.1 d_Rd_readValue_33 rfl (fun h8 => ?_) (fun h8 => ?_)
    · refine lv_iconst (v := 0) Bx.1 Bx.2.1 d_Rd_readValue_40 (by decide) ?_
      exact J23 _ _ _ hP hD hS
    · refine lv_iconst (v := 1) Bx.1 Bx.2.1 d_Rd_readValue_36 (by decide) ?_
      refine lv_goto Bx.1 Bx.2.1 d_Rd_readValue_37 rfl ?_
      exact J23 _ _ _ hP hD hS
