theorem charN {x : Int32} (h0 : ¬ x < 0) (h1 : x ≤ 127) : vp_nar .char (cN x) = x := by
  obtain ⟨j, hj, rfl⟩ := nI_of h0
  have hj2 : j ≤ 127 := (nI_leI (b := 127) hj (by omega)).mp h1
  clear h0 h1 hj
  revert hj2
  revert j
  decide
theorem stC_r {x : Int32} (h : ¬ stC x = 0) : ¬ x < 0 ∧ x ≤ 127 := by
  have h1 := (stC_1 h).1
  refine ⟨fun z => h1 (Or.inl (Int32.lt_of_lt_of_le z (by decide))), ?_⟩
  have : x ≤ 126 := Int32.not_lt.mp (fun z => h1 (Or.inr z))
  exact Int32.le_trans this (by decide)
set_option maxHeartbeats 4000000 in
set_option maxRecDepth 100000 in
theorem m_Ch_appendY (l : Launch) {D : va_G} {cy : Nat → ClassId} {sz n : Nat} {ad : Nat → Nat} {mem : Nat → va_E} {Z a R Ec lim : Nat} {f T : Nat → Int32} {to : Nat → Int32} {nm : Nat → Int64} {m0 : Nat → va_E} {x : Int32} {S : Nat} {s8 : Nat → Int32} (hn : 224 ≤ n) (hT : TX cy ad Z f m0) (hf : ∀ k, k < Z → f k = T k) (hRX : RX cy ad lim a R Ec to nm m0 mem) (haB : a ≤ 300) (h220 : mem 220 = .inr (0, [.ref (ad 221), .int (nI S)])) (h221 : mem 221 = .inl (cy 0, 240, .inl s8)) (hS : S < 240) : MV l D cy sz n ad y_Ch_append c_Ch_append 2 ({ frames := 0, cells := 0, slots := 0, locals := 0 } : Room) mem [.ref (ad 220), .int (x)] (fun mem' => RX cy ad lim a R Ec to nm m0 mem' ∧ mem' 220 = .inr (0, [.ref (ad 221), .int (nI (S + 1))]) ∧ mem' 221 = .inl (cy 0, 240, .inl (upd s8 S (vp_nar .char (cN x)))) ∧ ∀ i, i ≠ 220 ∧ i ≠ 221 → mem' i = mem i) := by
  refine Met.ofW (cc := c_Ch_append) (maxL := 2) (ret := none) (by decide) rfl ?_
  intro p e s m args below meth c s₁ B hml hv
  obtain ⟨rfl, E, hP, hD⟩ := hv
  have hx := B.exec
  have hb := B.bytes
  have hr := B.returns
  have hlocks := B.notSynchronized
  have Bx : MB p s m [.ref (ad 220), .int (x)].toArray c c_Ch_append "AbnfChart$Characters" D cy := ⟨hx, hb, tb_all (atoms_spec B.pre) E.2.1, findClass_of_methodNamed B.named, E.1⟩
  have hS : va_S (Az sz) s.heap s.heap [] := va_S.rf
  have hl := lv_entry ([.ref (ad 220), .int (x)]) (n := 2) (Nat.le_of_ble_eq_true rfl)
  rw [lg_entry_eq]
  generalize (lg_sl ([.ref (ad 220), .int (x)]) ++ List.replicate (2 - (lg_sl ([.ref (ad 220), .int (x)])).length) Slot.unset).toArray = ls at hl ⊢
  have hl : lv_has ls 2 [(0, .ref (ad 220)), (1, .int (x))] := hl
  have hZ9 := hT.2.1
  have hbd9 := hRX.1.1.1
  have hfr0 : ∀ i, i ≠ 220 ∧ i ≠ 221 → mem i = mem i := fun _ _ => rfl
  obtain ⟨ft1, h9_2⟩ := hRX.2.1
  have h1_3 : mem 1 = .inr (0, [.ref (ad 2), .int (nI Z)]) := (hRX.1.2.2 1 (by omega)).trans hT.1
  have h2_4 : mem 2 = .inl (cy 0, 240, .inl f) := (hRX.1.2.2 2 (by omega)).trans hT.2.2
  have h5_5 := hRX.1.1.2.1
  have hbd11 := hRX.1.1.1
  obtain ⟨S6, g7, hS_8, h220_9, h221_10⟩ := hRX.1.1.2.2.2.2.2.2
  refine lv_aload_n Bx.1 Bx.2.1 d_Ch_append_0 rfl (lv_at hl 0 rfl) ?_
  refine f_get Bx hP (by omega) h220 rfl inCh 1 (by decide) kw_32 rfl rfl d_Ch_append_1 ?_
  refine lv_aload_n Bx.1 Bx.2.1 d_Ch_append_4 rfl (lv_at hl 0 rfl) ?_
  refine f_get Bx hP (by omega) h220 rfl inCh 0 (by decide) kw_31 rfl rfl d_Ch_append_5 ?_
  refine f_alen (t0 := 0) Bx hP (by omega) h221 rfl (v := nI 240) rfl d_Ch_append_8 ?_
  refine lv_icmp_ge Bx.1 Bx.2.1 d_Ch_append_9 rfl (fun h => ?_) (fun h => ?_)
  · exact absurd ((nI_leI (a := 240) (by omega) (by omega)).mp h) (by omega)
  · refine lv_aload_n Bx.1 Bx.2.1 d_Ch_append_12 rfl (lv_at hl 0 rfl) ?_
    refine f_get Bx hP (by omega) h220 rfl inCh 0 (by decide) kw_31 rfl rfl d_Ch_append_13 ?_
    refine lv_aload_n Bx.1 Bx.2.1 d_Ch_append_16 rfl (lv_at hl 0 rfl) ?_
    refine f_get Bx hP (by omega) h220 rfl inCh 1 (by decide) kw_32 rfl rfl d_Ch_append_17 ?_
    refine lv_iload_n Bx.1 Bx.2.1 d_Ch_append_20 rfl (lv_at hl 1 rfl) ?_
    refine lv_i2c Bx.1 Bx.2.1 d_Ch_append_21 rfl ?_
    refine f_cast (x := ((x).toUInt32 % 65536).toInt32) (i := nI S) Bx hP hD hS (by omega) h221 (vp_in_nI (n := S) (by omega) (by decide)) d_Ch_append_22 (fun H locs hP hS => ?_)
    rw [nI_clamp (n := S) (by omega)] at hP
    rw [show (x.toUInt32 % 65536).toInt32 = cN x from rfl] at hP
    obtain ⟨mem12, e_mem12⟩ : ∃ z, z = va_up mem (221) ((.inl (cy 0, 240, .inl (upd s8 S (vp_nar .char (cN x)))))) := ⟨_, rfl⟩
    have hP : va_P D vcl (fw n ad mem12) H := by rw [e_mem12]; exact hP
    have hD : va_D (Az sz) (fw n ad mem12) := fw_D hD
    have h_mem12 : mem12 (221) = (.inl (cy 0, 240, .inl (upd s8 S (vp_nar .char (cN x))))) := by rw [e_mem12, va_up_self]
    have hh13 := (va_up_ne mem ((.inl (cy 0, 240, .inl (upd s8 S (vp_nar .char (cN x)))))) (show (222 : Nat) ≠ 221 by first | decide | assumption | omega)).trans h9_2
    rw [← e_mem12] at hh13
    have hh14 := (va_up_ne mem ((.inl (cy 0, 240, .inl (upd s8 S (vp_nar .char (cN x)))))) (show (1 : Nat) ≠ 221 by first | decide | assumption | omega)).trans h1_3
    rw [← e_mem12] at hh14
    have hh15 := (va_up_ne mem ((.inl (cy 0, 240, .inl (upd s8 S (vp_nar .char (cN x)))))) (show (5 : Nat) ≠ 221 by first | decide | assumption | omega)).trans h5_5
    rw [← e_mem12] at hh15
    have hh16 := (va_up_ne mem ((.inl (cy 0, 240, .inl (upd s8 S (vp_nar .char (cN x)))))) (show (220 : Nat) ≠ 221 by first | decide | assumption | omega)).trans h220
    rw [← e_mem12] at hh16
    have hRX17 : RX cy ad lim (a) (R) (Ec) (to) (nm) m0 mem12 := by rw [e_mem12]; exact hRX.el (by omega) (hRX.1.mk (by omega) hRX.1.1.up221)
    refine lv_aload_n Bx.1 Bx.2.1 d_Ch_append_23 rfl (lv_at hl 0 rfl) ?_
    refine lv_dup Bx.1 Bx.2.1 d_Ch_append_24 rfl ?_
    refine f_get Bx hP (by omega) hh16 rfl inCh 1 (by decide) kw_32 rfl rfl d_Ch_append_25 ?_
    refine lv_iconst (v := 1) Bx.1 Bx.2.1 d_Ch_append_28 (by decide) ?_
    refine lv_iadd Bx.1 Bx.2.1 d_Ch_append_29 ?_
    rw [show nI S + 1 = nI (S + 1) from nI_add (S) (1)]
    have hfr18 : ∀ i, i ≠ 220 ∧ i ≠ 221 → mem12 i = mem i := fun i q => (show mem12 i = mem i by rw [e_mem12]; exact va_up_ne _ _ (by omega)).trans (hfr0 i q)
    refine f_put Bx hP hD hS (by omega) hh16 rfl inCh tyCh okCh nmCh 1 (by decide) kw_32 rfl rfl rfl rfl (Nat.le_of_ble_eq_true rfl) d_Ch_append_30 (fun H locs hP hS => ?_)
    obtain ⟨mem19, e_mem19⟩ : ∃ z, z = va_up mem12 (220) (.inr (0, [.ref (ad 221), .int (nI (S + 1))])) := ⟨_, rfl⟩
    have hP : va_P D vcl (fw n ad mem19) H := by rw [e_mem19]; exact hP
    have hD : va_D (Az sz) (fw n ad mem19) := fw_D hD
    have h_mem19 : mem19 (220) = .inr (0, [.ref (ad 221), .int (nI (S + 1))]) := by rw [e_mem19, va_up_self]
    have hh20 := (va_up_ne mem12 (.inr (0, [.ref (ad 221), .int (nI (S + 1))])) (show (222 : Nat) ≠ 220 by first | decide | assumption | omega)).trans hh13
    rw [← e_mem19] at hh20
    have hh21 := (va_up_ne mem12 (.inr (0, [.ref (ad 221), .int (nI (S + 1))])) (show (1 : Nat) ≠ 220 by first | decide | assumption | omega)).trans hh14
    rw [← e_mem19] at hh21
    have hh22 := (va_up_ne mem12 (.inr (0, [.ref (ad 221), .int (nI (S + 1))])) (show (5 : Nat) ≠ 220 by first | decide | assumption | omega)).trans hh15
    rw [← e_mem19] at hh22
    have hfr23 : ∀ i, i ≠ 220 ∧ i ≠ 221 → mem19 i = mem i := fun i q => (show mem19 i = mem12 i by rw [e_mem19]; exact va_up_ne _ _ (by omega)).trans (hfr18 i q)
    exact W.vret hx hb hr (fun t ht hW => ⟨⟨mem19, rfl, ⟨by rw [e_mem19]; exact hRX17.el (by omega) (hRX17.1.mk (by omega) (hRX17.1.1.up220 (by omega))), h_mem19, by rw [e_mem19, va_up_ne _ _ (by decide)]; exact h_mem12, hfr23⟩, by show va_P _ _ _ t.heap; rw [ht]; exact hP⟩, hS.F ht⟩) hS.2.2 d_Ch_append_33
set_option maxHeartbeats 4000000 in
set_option maxRecDepth 100000 in
theorem m_Rd_readStringY (l : Launch) {D : va_G} {cy : Nat → ClassId} {sz n : Nat} {ad : Nat → Nat} {mem : Nat → va_E} {Z a R Ec lim : Nat} {f T : Nat → Int32} {to : Nat → Int32} {nm : Nat → Int64} {m0 : Nat → va_E} {st kd : Int32} {S : Nat} {s8 : Nat → Int32} (hlt : l.stackTraces = false) (hn : 224 ≤ n) (hT : TX cy ad Z f m0) (hf : ∀ k, k < Z → f k = T k) (hRX : RX cy ad lim a R Ec to nm m0 mem) (haB : a ≤ 300) (h220 : mem 220 = .inr (0, [.ref (ad 221), .int (nI S)])) (h221 : mem 221 = .inl (cy 0, 240, .inl s8)) (haZ : a < Z) (hSa : S ≤ a) : NXr l D cy sz n ad y_Rd_readString c_Rd_readString 5 (some (.object "AbnfChart$Element")) ({ frames := 10, cells := 1, slots := 6, locals := 220 } : Room) mem [.ref (ad 222), .int (st), .int (kd)] (fun r mem' => Ec < 100 ∧ hereF Z T (a + 1 + strN T Z 12 (a + 1)) = 34 ∧ r = ad (20 + 2 * Ec) ∧ a + 1 + strN T Z 12 (a + 1) + 1 ≤ Z ∧ RX cy ad lim (a + 1 + strN T Z 12 (a + 1) + 1) R (Ec + 1) to nm m0 mem' ∧ mem' (20 + 2 * Ec) = eCl ad Ec kd (nI S) (nI (S + strN T Z 12 (a + 1))) .null .null .null ∧ (∃ s9 : Nat → Int32, mem' 220 = .inr (0, [.ref (ad 221), .int (nI (S + (strN T Z 12 (a + 1))))]) ∧ mem' 221 = .inl (cy 0, 240, .inl s9) ∧ (∀ m, m < S → s9 m = s8 m) ∧ ∀ m, m < (strN T Z 12 (a + 1)) → s9 (S + m) = hereF Z T (a + 1 + m)) ∧ ∀ i, 7 ≤ i ∧ i < 220 ∧ i ≠ 20 + 2 * Ec → mem' i = mem i) (fun X mem' => ((X = cIA ∨ X = cIS) ∧ ∃ rc' ec' : Nat, RS cy ad lim rc' ec' m0 mem') ∧ (Ec = 100 ∨ ¬ hereF Z T (a + 1 + strN T Z 12 (a + 1)) = 34)) := by
  refine vx_ofW (cc := c_Rd_readString) (maxL := 5) (ret := (some (.object "AbnfChart$Element"))) (by decide) rfl ?_
  intro p e s m args below meth c s₁ B hml hno hv
  obtain ⟨rfl, E, hP, hD⟩ := hv
  have hx := B.exec
  have hb := B.bytes
  have hr := B.returns
  have hlocks := B.notSynchronized
  have Bx : MB p s m [.ref (ad 222), .int (st), .int (kd)].toArray c c_Rd_readString "AbnfChart$Reader" D cy := ⟨hx, hb, tb_all (atoms_spec B.pre) E.2.1, findClass_of_methodNamed B.named, E.1⟩
  have hS : va_S (Az sz) s.heap s.heap [] := va_S.rf
  have hl := lv_entry ([.ref (ad 222), .int (st), .int (kd)]) (n := 5) (Nat.le_of_ble_eq_true rfl)
  rw [lg_entry_eq]
  generalize (lg_sl ([.ref (ad 222), .int (st), .int (kd)]) ++ List.replicate (5 - (lg_sl ([.ref (ad 222), .int (st), .int (kd)])).length) Slot.unset).toArray = ls at hl ⊢
  have hl : lv_has ls 5 [(0, .ref (ad 222)), (1, .int (st)), (2, .int (kd))] := hl
  have hZ9 := hT.2.1
  have hbd9 := hRX.1.1.1
  have hfr0 : ∀ i, 7 ≤ i ∧ i < 220 ∧ i ≠ 20 + 2 * Ec → mem i = mem i := fun _ _ => rfl
  obtain ⟨ft1, h9_2⟩ := hRX.2.1
  have h1_3 : mem 1 = .inr (0, [.ref (ad 2), .int (nI Z)]) := (hRX.1.2.2 1 (by omega)).trans hT.1
  have h2_4 : mem 2 = .inl (cy 0, 240, .inl f) := (hRX.1.2.2 2 (by omega)).trans hT.2.2
  have h5_5 := hRX.1.1.2.1
  have hbd11 := hRX.1.1.1
  obtain ⟨S6, g7, hS_8, h220_9, h221_10⟩ := hRX.1.1.2.2.2.2.2.2
  refine lv_aload_n Bx.1 Bx.2.1 d_Rd_readString_0 rfl (lv_at hl 0 rfl) ?_
  refine lv_iload_n Bx.1 Bx.2.1 d_Rd_readString_1 rfl (lv_at hl 2 rfl) ?_
  refine lv_iload_n Bx.1 Bx.2.1 d_Rd_readString_2 rfl (lv_at hl 1 rfl) ?_
  refine f_xVr (na := 2) (As := [.int (kd), .int (st)]) (rest := []) Bx hml E hP hD hS (by omega) h9_2 rfl (m_Rd_addElementY l hlt hn hT hf hRX (by omega)) kw_419 kw_421 sel_Rd_addElement kw_6 kw_422 (by decide +kernel) ⟨rfl, rfl⟩ ⟨Nat.le_of_ble_eq_true rfl, Nat.le_of_ble_eq_true rfl⟩ rfl hl.1 (Nat.le_of_ble_eq_true rfl) d_Rd_readString_3 ⟨Nat.le_of_ble_eq_true rfl, Nat.le_of_ble_eq_true rfl⟩ (fun X ce q9 memx H locs hx9 hP hS g1 g2 g3 => f_out hlocks hno hP hS g1 g2 g3 ⟨Nat.le_of_ble_eq_true rfl, Nat.le_of_ble_eq_true rfl⟩ ⟨hx9.1, Or.inl hx9.2⟩) (fun r12 mem13 H locs hq hP hS => ?_)
  have hD : va_D (Az sz) (fw n ad mem13) := fw_D hD
  obtain ⟨hr914, hec15, hRX16, hcl17, hfa18⟩ := hq
  subst hr914
  have h220_19 := (hfa18 220 (by omega)).trans h220
  have h221_20 := (hfa18 221 (by omega)).trans h221
  have hfr21 : ∀ i, 7 ≤ i ∧ i < 220 ∧ i ≠ 20 + 2 * Ec → mem13 i = mem i := fun i q => (hfa18 i (by omega)).trans (hfr0 i q)
  obtain ⟨ft22, h9_23⟩ := hRX16.2.1
  have h1_24 : mem13 1 = .inr (0, [.ref (ad 2), .int (nI Z)]) := (hRX16.1.2.2 1 (by omega)).trans hT.1
  have h2_25 : mem13 2 = .inl (cy 0, 240, .inl f) := (hRX16.1.2.2 2 (by omega)).trans hT.2.2
  have h5_26 := hRX16.1.1.2.1
  have hbd32 := hRX16.1.1.1
  obtain ⟨S27, g28, hS_29, h220_30, h221_31⟩ := hRX16.1.1.2.2.2.2.2.2
  obtain ⟨ft33, h9_34⟩ := hRX16.2.1
  have h1_35 : mem13 1 = .inr (0, [.ref (ad 2), .int (nI Z)]) := (hRX16.1.2.2 1 (by omega)).trans hT.1
  have h2_36 : mem13 2 = .inl (cy 0, 240, .inl f) := (hRX16.1.2.2 2 (by omega)).trans hT.2.2
  have h5_37 := hRX16.1.1.2.1
  have hbd43 := hRX16.1.1.1
  obtain ⟨S38, g39, hS_40, h220_41, h221_42⟩ := hRX16.1.1.2.2.2.2.2.2
  refine lv_astore_n (lv' := [(3, .ref (ad (20 + 2 * Ec))), (0, .ref (ad 222)), (1, .int (st)), (2, .int (kd))]) Bx.1 Bx.2.1 d_Rd_readString_6 rfl hl (by decide) rfl (fun ls hl => ?_)
  refine lv_aload_n Bx.1 Bx.2.1 d_Rd_readString_7 rfl (lv_at hl 1 rfl) ?_
  refine lv_dup Bx.1 Bx.2.1 d_Rd_readString_8 rfl ?_
  refine f_get Bx hP (by omega) h9_34 rfl inRd 2 (by decide) kw_146 rfl rfl d_Rd_readString_9 ?_
  refine lv_iconst (v := 1) Bx.1 Bx.2.1 d_Rd_readString_12 (by decide) ?_
  refine lv_iadd Bx.1 Bx.2.1 d_Rd_readString_13 ?_
  rw [show nI a + 1 = nI (a + 1) from nI_add (a) (1)]
  refine f_put Bx hP hD hS (by omega) h9_34 rfl inRd tyRd okRd nmRd 2 (by decide) kw_146 rfl rfl rfl rfl (Nat.le_of_ble_eq_true rfl) d_Rd_readString_14 (fun H locs hP hS => ?_)
  obtain ⟨mem44, e_mem44⟩ : ∃ z, z = va_up mem13 (222) (.inr (4, [.ref (ad 1), .ref (ad 5), .int (nI (a + 1)), .int (ft33)])) := ⟨_, rfl⟩
  have hP : va_P D vcl (fw n ad mem44) H := by rw [e_mem44]; exact hP
  have hD : va_D (Az sz) (fw n ad mem44) := fw_D hD
  have h_mem44 : mem44 (222) = .inr (4, [.ref (ad 1), .ref (ad 5), .int (nI (a + 1)), .int (ft33)]) := by rw [e_mem44, va_up_self]
  have hh45 := (va_up_ne mem13 (.inr (4, [.ref (ad 1), .ref (ad 5), .int (nI (a + 1)), .int (ft33)])) (show (1 : Nat) ≠ 222 by first | decide | assumption | omega)).trans h1_35
  rw [← e_mem44] at hh45
  have hh46 := (va_up_ne mem13 (.inr (4, [.ref (ad 1), .ref (ad 5), .int (nI (a + 1)), .int (ft33)])) (show (5 : Nat) ≠ 222 by first | decide | assumption | omega)).trans h5_37
  rw [← e_mem44] at hh46
  have hh47 := (va_up_ne mem13 (.inr (4, [.ref (ad 1), .ref (ad 5), .int (nI (a + 1)), .int (ft33)])) (show (220 : Nat) ≠ 222 by first | decide | assumption | omega)).trans h220_19
  rw [← e_mem44] at hh47
  have hh48 := (va_up_ne mem13 (.inr (4, [.ref (ad 1), .ref (ad 5), .int (nI (a + 1)), .int (ft33)])) (show ((20 + 2 * Ec) : Nat) ≠ 222 by first | decide | assumption | omega)).trans hcl17
  rw [← e_mem44] at hh48
  have hfr49 : ∀ i, 7 ≤ i ∧ i < 220 ∧ i ≠ 20 + 2 * Ec → mem44 i = mem i := fun i q => (show mem44 i = mem13 i by rw [e_mem44]; exact va_up_ne _ _ (by omega)).trans (hfr21 i q)
  have h221_50 : mem44 221 = .inl (cy 0, 240, .inl (s8)) := by rw [e_mem44, va_up_ne _ _ (by omega)]; exact h221_20
  have hRX51 : RX cy ad lim (a + 1) (R) (Ec + 1) (to) (nm) m0 mem44 := by rw [e_mem44]; exact hRX16.at
  refine lv_aload_n Bx.1 Bx.2.1 d_Rd_readString_17 rfl (lv_at hl 0 rfl) ?_
  refine lv_aload_n Bx.1 Bx.2.1 d_Rd_readString_18 rfl (lv_at hl 1 rfl) ?_
  refine f_get Bx hP (by omega) h_mem44 rfl inRd 1 (by decide) kw_145 rfl rfl d_Rd_readString_19 ?_
  refine f_getN Bx hP (by omega) hh46 rfl inGr 2 (by decide) kw_120 rfl rfl d_Rd_readString_22 ?_
  refine f_getN Bx hP (by omega) hh47 rfl inCh 1 (by decide) kw_33 rfl rfl d_Rd_readString_25 ?_
  refine f_putN Bx hP hD hS (by omega) hh48 rfl inEl tyEl okEl nmEl 1 (by decide) kw_79 rfl rfl rfl rfl (Nat.le_of_ble_eq_true rfl) d_Rd_readString_28 (fun H locs hP hS => ?_)
  obtain ⟨mem52, e_mem52⟩ : ∃ z, z = va_up mem44 ((20 + 2 * Ec)) (.inr (2, [.int (kd), .int (nI S), .int (0), .null, .null, .null, .ref (ad (21 + 2 * Ec))])) := ⟨_, rfl⟩
  have hP : va_P D vcl (fw n ad mem52) H := by rw [e_mem52]; exact hP
  have hD : va_D (Az sz) (fw n ad mem52) := fw_D hD
  have h_mem52 : mem52 ((20 + 2 * Ec)) = .inr (2, [.int (kd), .int (nI S), .int (0), .null, .null, .null, .ref (ad (21 + 2 * Ec))]) := by rw [e_mem52, va_up_self]
  have hh53 := (va_up_ne mem44 (.inr (2, [.int (kd), .int (nI S), .int (0), .null, .null, .null, .ref (ad (21 + 2 * Ec))])) (show (222 : Nat) ≠ (20 + 2 * Ec) by first | decide | assumption | omega)).trans h_mem44
  rw [← e_mem52] at hh53
  have hh54 := (va_up_ne mem44 (.inr (2, [.int (kd), .int (nI S), .int (0), .null, .null, .null, .ref (ad (21 + 2 * Ec))])) (show (1 : Nat) ≠ (20 + 2 * Ec) by first | decide | assumption | omega)).trans hh45
  rw [← e_mem52] at hh54
  have hh55 := (va_up_ne mem44 (.inr (2, [.int (kd), .int (nI S), .int (0), .null, .null, .null, .ref (ad (21 + 2 * Ec))])) (show (5 : Nat) ≠ (20 + 2 * Ec) by first | decide | assumption | omega)).trans hh46
  rw [← e_mem52] at hh55
  have hh56 := (va_up_ne mem44 (.inr (2, [.int (kd), .int (nI S), .int (0), .null, .null, .null, .ref (ad (21 + 2 * Ec))])) (show (220 : Nat) ≠ (20 + 2 * Ec) by first | decide | assumption | omega)).trans hh47
  rw [← e_mem52] at hh56
  have hfr57 : ∀ i, 7 ≤ i ∧ i < 220 ∧ i ≠ 20 + 2 * Ec → mem52 i = mem i := fun i q => (show mem52 i = mem44 i by rw [e_mem52]; exact va_up_ne _ _ (by omega)).trans (hfr49 i q)
  have h221_58 : mem52 221 = .inl (cy 0, 240, .inl (s8)) := by rw [e_mem52, va_up_ne _ _ (by omega)]; exact h221_50
  have hRX59 : RX cy ad lim (a + 1) (R) (Ec + 1) (to) (nm) m0 mem52 := by rw [e_mem52]; exact hRX51.el (by omega) (hRX51.1.mk (by omega) (hRX51.1.1.upEl (by omega) (fun _ => ⟨Or.inl rfl, Or.inl rfl, Or.inl rfl⟩)))
  refine lv_iconst (v := 0) Bx.1 Bx.2.1 d_Rd_readString_31 (by decide) ?_
  refine lv_istore (lv' := [(4, .int (0)), (3, .ref (ad (20 + 2 * Ec))), (0, .ref (ad 222)), (1, .int (st)), (2, .int (kd))]) Bx.1 Bx.2.1 d_Rd_readString_32 hl (by decide) rfl (fun ls hl => ?_)
  have hec9 := hec15
  have loop60 : ∀ (d61 : Nat) (mem9 : Nat → va_E) (a1 : Nat) (k : Nat) (s9 : Nat → Int32) (ls : Array Slot) (H : Heap) (locs : List Loc), (12 - k < d61) → (RX cy ad lim a1 R (Ec + 1) to nm m0 mem9) → (a1 = a + 1 + k ∧ a1 ≤ Z ∧ k ≤ 12) → (strN T Z (12 - k) a1 + k = strN T Z 12 (a + 1)) → (mem9 (20 + 2 * Ec) = eCl ad Ec kd (nI S) 0 .null .null .null) → (mem9 220 = .inr (0, [.ref (ad 221), .int (nI (S + k))]) ∧ mem9 221 = .inl (cy 0, 240, .inl s9) ∧ (∀ m, m < S → s9 m = s8 m) ∧ ∀ m, m < k → s9 (S + m) = hereF Z T (a + 1 + m)) → (∀ i, 7 ≤ i ∧ i < 220 ∧ i ≠ 20 + 2 * Ec → mem9 i = mem i) → (va_P D vcl (fw n ad mem9) H) → (va_D (Az sz) (fw n ad mem9)) → (va_S (Az sz) s.heap H locs) → (lv_has ls 5 [(4, .int (nI k)), (3, .ref (ad (20 + 2 * Ec))), (0, .ref (ad 222)), (1, .int (st)), (2, .int (kd))]) → W p l e (headSpec (Cond.code y_Rd_readString c_Rd_readString 5 (some (.object "AbnfChart$Element")) :: tg) ({ frames := 10, cells := 1, slots := 6, locals := 220 } : Room)).room s m [.ref (ad 222), .int (st), .int (kd)].toArray below meth c H locs 0 0 (vx_MQ below (QX (QR (fun r mem' => Ec < 100 ∧ hereF Z T (a + 1 + strN T Z 12 (a + 1)) = 34 ∧ r = ad (20 + 2 * Ec) ∧ a + 1 + strN T Z 12 (a + 1) + 1 ≤ Z ∧ RX cy ad lim (a + 1 + strN T Z 12 (a + 1) + 1) R (Ec + 1) to nm m0 mem' ∧ mem' (20 + 2 * Ec) = eCl ad Ec kd (nI S) (nI (S + strN T Z 12 (a + 1))) .null .null .null ∧ (∃ s9 : Nat → Int32, mem' 220 = .inr (0, [.ref (ad 221), .int (nI (S + (strN T Z 12 (a + 1))))]) ∧ mem' 221 = .inl (cy 0, 240, .inl s9) ∧ (∀ m, m < S → s9 m = s8 m) ∧ ∀ m, m < (strN T Z 12 (a + 1)) → s9 (S + m) = hereF Z T (a + 1 + m)) ∧ ∀ i, 7 ≤ i ∧ i < 220 ∧ i ≠ 20 + 2 * Ec → mem' i = mem i) (PP D n ad) (Az sz))) (XQ D sz n ad (fun X mem' => ((X = cIA ∨ X = cIS) ∧ ∃ rc' ec' : Nat, RS cy ad lim rc' ec' m0 mem') ∧ (Ec = 100 ∨ ¬ hereF Z T (a + 1 + strN T Z 12 (a + 1)) = 34))) [.ref (ad 222), .int (st), .int (kd)].toArray s 1 6 (Az sz)) (F0 m 34 ls []) := by
    intro d61
    induction d61 with
    | zero => intro mem9 a1 k s9 ls H locs hmeas69; exact absurd hmeas69 (Nat.not_lt_zero _)
    | succ d61 ih68 =>
      intro mem9 a1 k s9 ls H locs hmeas69 hz62 hz63 hz64 hz65 hz66 hz67 hP hD hS hl
      have hbd8 := hz63
      obtain ⟨h2209, h2219, hs1, hs2⟩ := hz66
      obtain ⟨ft70, h9_71⟩ := hz62.2.1
      have h1_72 : mem9 1 = .inr (0, [.ref (ad 2), .int (nI Z)]) := (hz62.1.2.2 1 (by omega)).trans hT.1
      have h2_73 : mem9 2 = .inl (cy 0, 240, .inl f) := (hz62.1.2.2 2 (by omega)).trans hT.2.2
      have h5_74 := hz62.1.1.2.1
      have hbd80 := hz62.1.1.1
      obtain ⟨S75, g76, hS_77, h220_78, h221_79⟩ := hz62.1.1.2.2.2.2.2.2
      refine lv_iload Bx.1 Bx.2.1 d_Rd_readString_34 (lv_at hl 0 rfl) ?_
      refine lv_bipush (v := 12) Bx.1 Bx.2.1 d_Rd_readString_36 (by decide) ?_
      refine lv_icmp_ge Bx.1 Bx.2.1 d_Rd_readString_38 rfl (fun hb81 => ?_) (fun hb81 => ?_)
      · have hN82 : 12 ≤ k := (nI_leI (by omega) (by omega)).mp (show nI (12) ≤ nI (k) from hb81)
        have hN : strN T Z 12 (a + 1) = k := by rw [← hz64, show 12 - k = 0 by omega, show strN T Z 0 a1 = 0 from rfl]; omega
        refine lv_aload_n Bx.1 Bx.2.1 d_Rd_readString_81 rfl (lv_at hl 1 rfl) ?_
        refine lv_aload_n Bx.1 Bx.2.1 d_Rd_readString_82 rfl (lv_at hl 2 rfl) ?_
        refine f_get Bx hP (by omega) h9_71 rfl inRd 1 (by decide) kw_145 rfl rfl d_Rd_readString_83 ?_
        refine f_getN Bx hP (by omega) h5_74 rfl inGr 2 (by decide) kw_120 rfl rfl d_Rd_readString_86 ?_
        refine f_getN Bx hP (by omega) h2209 rfl inCh 1 (by decide) kw_33 rfl rfl d_Rd_readString_89 ?_
        refine f_putN Bx hP hD hS (by omega) hz65 rfl inEl tyEl okEl nmEl 2 (by decide) kw_82 rfl rfl rfl rfl (Nat.le_of_ble_eq_true rfl) d_Rd_readString_92 (fun H locs hP hS => ?_)
        obtain ⟨mem83, e_mem83⟩ : ∃ z, z = va_up mem9 ((20 + 2 * Ec)) (.inr (2, [.int (kd), .int (nI S), .int (nI (S + k)), .null, .null, .null, .ref (ad (21 + 2 * Ec))])) := ⟨_, rfl⟩
        have hP : va_P D vcl (fw n ad mem83) H := by rw [e_mem83]; exact hP
        have hD : va_D (Az sz) (fw n ad mem83) := fw_D hD
        have h_mem83 : mem83 ((20 + 2 * Ec)) = .inr (2, [.int (kd), .int (nI S), .int (nI (S + k)), .null, .null, .null, .ref (ad (21 + 2 * Ec))]) := by rw [e_mem83, va_up_self]
        have hh84 := (va_up_ne mem9 (.inr (2, [.int (kd), .int (nI S), .int (nI (S + k)), .null, .null, .null, .ref (ad (21 + 2 * Ec))])) (show (222 : Nat) ≠ (20 + 2 * Ec) by first | decide | assumption | omega)).trans h9_71
        rw [← e_mem83] at hh84
        have hh85 := (va_up_ne mem9 (.inr (2, [.int (kd), .int (nI S), .int (nI (S + k)), .null, .null, .null, .ref (ad (21 + 2 * Ec))])) (show (1 : Nat) ≠ (20 + 2 * Ec) by first | decide | assumption | omega)).trans h1_72
        rw [← e_mem83] at hh85
        have hh86 := (va_up_ne mem9 (.inr (2, [.int (kd), .int (nI S), .int (nI (S + k)), .null, .null, .null, .ref (ad (21 + 2 * Ec))])) (show (5 : Nat) ≠ (20 + 2 * Ec) by first | decide | assumption | omega)).trans h5_74
        rw [← e_mem83] at hh86
        have hh87 := (va_up_ne mem9 (.inr (2, [.int (kd), .int (nI S), .int (nI (S + k)), .null, .null, .null, .ref (ad (21 + 2 * Ec))])) (show (220 : Nat) ≠ (20 + 2 * Ec) by first | decide | assumption | omega)).trans h2209
        rw [← e_mem83] at hh87
        have hfr88 : ∀ i, 7 ≤ i ∧ i < 220 ∧ i ≠ 20 + 2 * Ec → mem83 i = mem i := fun i q => (show mem83 i = mem9 i by rw [e_mem83]; exact va_up_ne _ _ (by omega)).trans (hz67 i q)
        have h221_89 : mem83 221 = .inl (cy 0, 240, .inl (s9)) := by rw [e_mem83, va_up_ne _ _ (by omega)]; exact h2219
        have hRX90 : RX cy ad lim (a1) (R) (Ec + 1) (to) (nm) m0 mem83 := by rw [e_mem83]; exact hz62.el (by omega) (hz62.1.mk (by omega) (hz62.1.1.upEl (by omega) (fun _ => ⟨Or.inl rfl, Or.inl rfl, Or.inl rfl⟩)))
        refine lv_aload_n Bx.1 Bx.2.1 d_Rd_readString_95 rfl (lv_at hl 2 rfl) ?_
        refine lv_aload_n Bx.1 Bx.2.1 d_Rd_readString_96 rfl (lv_at hl 2 rfl) ?_
        refine f_callVi (na := 0) (As := []) (rest := [.ref (ad 222)]) Bx hml E hP hD hS (by omega) hh84 rfl (m_Rd_peekX l hn hT hf hRX90 (by omega)) kw_353 kw_355 sel_Rd_peek kw_6 kw_356 (by decide +kernel) ⟨rfl, rfl⟩ ⟨Nat.le_of_ble_eq_true rfl, Nat.le_of_ble_eq_true rfl⟩ rfl hl.1 (Nat.le_of_ble_eq_true rfl) d_Rd_readString_97 ⟨Nat.le_of_ble_eq_true rfl, Nat.le_of_ble_eq_true rfl⟩ (fun r92 mem93 H locs hq hP hS => ?_)
        have hD : va_D (Az sz) (fw n ad mem93) := fw_D hD
        obtain ⟨hqe, hpk91⟩ := hq
        rw [hqe] at hP hD
        subst hpk91
        refine lv_bipush (v := 34) Bx.1 Bx.2.1 d_Rd_readString_100 (by decide) ?_
        refine lv_icmp_ne Bx.1 Bx.2.1 d_Rd_readString_102 rfl (fun hb95 => ?_) (fun hb95 => ?_)
        · refine lv_iconst (v := 0) Bx.1 Bx.2.1 d_Rd_readString_109 (by decide) ?_
          refine lv_aload_n Bx.1 Bx.2.1 d_Rd_readString_110 rfl (lv_at hl 2 rfl) ?_
          refine f_get Bx hP (by omega) hh84 rfl inRd 2 (by decide) kw_146 rfl rfl d_Rd_readString_111 ?_
          refine f_xVv (na := 2) (As := [.int (0), .int (nI a1)]) (rest := []) Bx hml E hP hD hS (by omega) hh84 rfl (m_Rd_needReadableX l hlt hn hT hf hRX90 (by omega)) kw_360 kw_362 sel_Rd_needReadable kw_6 kw_363 (by decide +kernel) ⟨rfl, rfl⟩ ⟨Nat.le_of_ble_eq_true rfl, Nat.le_of_ble_eq_true rfl⟩ rfl hl.1 (Nat.le_of_ble_eq_true rfl) d_Rd_readString_114 ⟨Nat.le_of_ble_eq_true rfl, Nat.le_of_ble_eq_true rfl⟩ (fun X ce q9 memx H locs hx9 hP hS g1 g2 g3 => f_out hlocks hno hP hS g1 g2 g3 ⟨Nat.le_of_ble_eq_true rfl, Nat.le_of_ble_eq_true rfl⟩ ⟨hx9.1, (Or.inr (by rw [hN, show a + 1 + k = a1 by omega]; exact hb95))⟩) (fun mem97 H locs hq hP hS => ?_)
          have hD : va_D (Az sz) (fw n ad mem97) := fw_D hD
          obtain ⟨hqe, hg98⟩ := hq
          rw [hqe] at hP hD
          exact absurd rfl hg98
        · have hlt99 := hereF_lt (by rw [hb95]; decide)
          refine lv_iconst (v := 1) Bx.1 Bx.2.1 d_Rd_readString_105 (by decide) ?_
          refine lv_goto Bx.1 Bx.2.1 d_Rd_readString_106 rfl ?_
          refine lv_aload_n Bx.1 Bx.2.1 d_Rd_readString_110 rfl (lv_at hl 2 rfl) ?_
          refine f_get Bx hP (by omega) hh84 rfl inRd 2 (by decide) kw_146 rfl rfl d_Rd_readString_111 ?_
          refine f_xVv (na := 2) (As := [.int (1), .int (nI a1)]) (rest := []) Bx hml E hP hD hS (by omega) hh84 rfl (m_Rd_needReadableX l hlt hn hT hf hRX90 (by omega)) kw_360 kw_362 sel_Rd_needReadable kw_6 kw_363 (by decide +kernel) ⟨rfl, rfl⟩ ⟨Nat.le_of_ble_eq_true rfl, Nat.le_of_ble_eq_true rfl⟩ rfl hl.1 (Nat.le_of_ble_eq_true rfl) d_Rd_readString_114 ⟨Nat.le_of_ble_eq_true rfl, Nat.le_of_ble_eq_true rfl⟩ (fun X ce q9 memx H locs hx9 hP hS g1 g2 g3 => f_out hlocks hno hP hS g1 g2 g3 ⟨Nat.le_of_ble_eq_true rfl, Nat.le_of_ble_eq_true rfl⟩ ⟨hx9.1, absurd hx9.2 (by decide)⟩) (fun mem101 H locs hq hP hS => ?_)
          have hD : va_D (Az sz) (fw n ad mem101) := fw_D hD
          obtain ⟨hqe, hg102⟩ := hq
          rw [hqe] at hP hD
          refine lv_aload_n Bx.1 Bx.2.1 d_Rd_readString_117 rfl (lv_at hl 2 rfl) ?_
          refine lv_dup Bx.1 Bx.2.1 d_Rd_readString_118 rfl ?_
          refine f_get Bx hP (by omega) hh84 rfl inRd 2 (by decide) kw_146 rfl rfl d_Rd_readString_119 ?_
          refine lv_iconst (v := 1) Bx.1 Bx.2.1 d_Rd_readString_122 (by decide) ?_
          refine lv_iadd Bx.1 Bx.2.1 d_Rd_readString_123 ?_
          rw [show nI a1 + 1 = nI (a1 + 1) from nI_add (a1) (1)]
          refine f_put Bx hP hD hS (by omega) hh84 rfl inRd tyRd okRd nmRd 2 (by decide) kw_146 rfl rfl rfl rfl (Nat.le_of_ble_eq_true rfl) d_Rd_readString_124 (fun H locs hP hS => ?_)
          obtain ⟨mem103, e_mem103⟩ : ∃ z, z = va_up mem83 (222) (.inr (4, [.ref (ad 1), .ref (ad 5), .int (nI (a1 + 1)), .int (ft70)])) := ⟨_, rfl⟩
          have hP : va_P D vcl (fw n ad mem103) H := by rw [e_mem103]; exact hP
          have hD : va_D (Az sz) (fw n ad mem103) := fw_D hD
          have h_mem103 : mem103 (222) = .inr (4, [.ref (ad 1), .ref (ad 5), .int (nI (a1 + 1)), .int (ft70)]) := by rw [e_mem103, va_up_self]
          have hh104 := (va_up_ne mem83 (.inr (4, [.ref (ad 1), .ref (ad 5), .int (nI (a1 + 1)), .int (ft70)])) (show (1 : Nat) ≠ 222 by first | decide | assumption | omega)).trans hh85
          rw [← e_mem103] at hh104
          have hh105 := (va_up_ne mem83 (.inr (4, [.ref (ad 1), .ref (ad 5), .int (nI (a1 + 1)), .int (ft70)])) (show (5 : Nat) ≠ 222 by first | decide | assumption | omega)).trans hh86
          rw [← e_mem103] at hh105
          have hh106 := (va_up_ne mem83 (.inr (4, [.ref (ad 1), .ref (ad 5), .int (nI (a1 + 1)), .int (ft70)])) (show (220 : Nat) ≠ 222 by first | decide | assumption | omega)).trans hh87
          rw [← e_mem103] at hh106
          have hh107 := (va_up_ne mem83 (.inr (4, [.ref (ad 1), .ref (ad 5), .int (nI (a1 + 1)), .int (ft70)])) (show ((20 + 2 * Ec) : Nat) ≠ 222 by first | decide | assumption | omega)).trans h_mem83
          rw [← e_mem103] at hh107
          have hfr108 : ∀ i, 7 ≤ i ∧ i < 220 ∧ i ≠ 20 + 2 * Ec → mem103 i = mem i := fun i q => (show mem103 i = mem83 i by rw [e_mem103]; exact va_up_ne _ _ (by omega)).trans (hfr88 i q)
          have h221_109 : mem103 221 = .inl (cy 0, 240, .inl (s9)) := by rw [e_mem103, va_up_ne _ _ (by omega)]; exact h221_89
          have hRX110 : RX cy ad lim (a1 + 1) (R) (Ec + 1) (to) (nm) m0 mem103 := by rw [e_mem103]; exact hRX90.at
          refine lv_aload_n Bx.1 Bx.2.1 d_Rd_readString_127 rfl (lv_at hl 1 rfl) ?_
          exact x_aret hx hb hlocks hr (⟨by omega, by rw [hN, show a + 1 + k = a1 by omega]; exact hb95, rfl, by rw [hN]; omega, by rw [hN, show a + 1 + k = a1 by omega]; exact hRX110, by rw [hN]; exact hh107, ⟨s9, by rw [hN]; exact hh106, h221_109, hs1, by rw [hN]; exact hs2⟩, hfr108⟩) hP hS d_Rd_readString_128
      · have hN111 : ¬ 12 ≤ k := fun q9 => hb81 (show nI (12) ≤ nI (k) from (nI_leI (by omega) (by omega)).mpr q9)
        refine lv_aload_n Bx.1 Bx.2.1 d_Rd_readString_41 rfl (lv_at hl 2 rfl) ?_
        refine f_callVi (na := 0) (As := []) (rest := []) Bx hml E hP hD hS (by omega) h9_71 rfl (m_Rd_peekX l hn hT hf hz62 (by omega)) kw_353 kw_355 sel_Rd_peek kw_6 kw_356 (by decide +kernel) ⟨rfl, rfl⟩ ⟨Nat.le_of_ble_eq_true rfl, Nat.le_of_ble_eq_true rfl⟩ rfl hl.1 (Nat.le_of_ble_eq_true rfl) d_Rd_readString_42 ⟨Nat.le_of_ble_eq_true rfl, Nat.le_of_ble_eq_true rfl⟩ (fun r113 mem114 H locs hq hP hS => ?_)
        have hD : va_D (Az sz) (fw n ad mem114) := fw_D hD
        obtain ⟨hqe, hpk112⟩ := hq
        rw [hqe] at hP hD
        subst hpk112
        refine f_callSi (na := 1) (As := [.int (hereF Z T (a1))]) (rest := []) Bx hml E.2.1 (m_Rd_isStringCodeX l (hereF Z T (a1))) kw_459 kw_460 kw_6 kw_461 (by decide +kernel) ⟨rfl, rfl⟩ ⟨Nat.le_of_ble_eq_true rfl, Nat.le_of_ble_eq_true rfl⟩ rfl hl.1 (Nat.le_of_ble_eq_true rfl) d_Rd_readString_45 ⟨Nat.le_of_ble_eq_true rfl, Nat.le_of_ble_eq_true rfl⟩ (fun r117 hs116 => ?_)
        subst hs116
        refine lv_if_eq Bx.1 Bx.2.1 d_Rd_readString_48 rfl (fun hb118 => ?_) (fun hb118 => ?_)
        · have hN : strN T Z 12 (a + 1) = k := by rw [← hz64, strN_no (stC_0 hb118)]; omega
          refine lv_aload_n Bx.1 Bx.2.1 d_Rd_readString_81 rfl (lv_at hl 1 rfl) ?_
          refine lv_aload_n Bx.1 Bx.2.1 d_Rd_readString_82 rfl (lv_at hl 2 rfl) ?_
          refine f_get Bx hP (by omega) h9_71 rfl inRd 1 (by decide) kw_145 rfl rfl d_Rd_readString_83 ?_
          refine f_getN Bx hP (by omega) h5_74 rfl inGr 2 (by decide) kw_120 rfl rfl d_Rd_readString_86 ?_
          refine f_getN Bx hP (by omega) h2209 rfl inCh 1 (by decide) kw_33 rfl rfl d_Rd_readString_89 ?_
          refine f_putN Bx hP hD hS (by omega) hz65 rfl inEl tyEl okEl nmEl 2 (by decide) kw_82 rfl rfl rfl rfl (Nat.le_of_ble_eq_true rfl) d_Rd_readString_92 (fun H locs hP hS => ?_)
          obtain ⟨mem119, e_mem119⟩ : ∃ z, z = va_up mem9 ((20 + 2 * Ec)) (.inr (2, [.int (kd), .int (nI S), .int (nI (S + k)), .null, .null, .null, .ref (ad (21 + 2 * Ec))])) := ⟨_, rfl⟩
          have hP : va_P D vcl (fw n ad mem119) H := by rw [e_mem119]; exact hP
          have hD : va_D (Az sz) (fw n ad mem119) := fw_D hD
          have h_mem119 : mem119 ((20 + 2 * Ec)) = .inr (2, [.int (kd), .int (nI S), .int (nI (S + k)), .null, .null, .null, .ref (ad (21 + 2 * Ec))]) := by rw [e_mem119, va_up_self]
          have hh120 := (va_up_ne mem9 (.inr (2, [.int (kd), .int (nI S), .int (nI (S + k)), .null, .null, .null, .ref (ad (21 + 2 * Ec))])) (show (222 : Nat) ≠ (20 + 2 * Ec) by first | decide | assumption | omega)).trans h9_71
          rw [← e_mem119] at hh120
          have hh121 := (va_up_ne mem9 (.inr (2, [.int (kd), .int (nI S), .int (nI (S + k)), .null, .null, .null, .ref (ad (21 + 2 * Ec))])) (show (1 : Nat) ≠ (20 + 2 * Ec) by first | decide | assumption | omega)).trans h1_72
          rw [← e_mem119] at hh121
          have hh122 := (va_up_ne mem9 (.inr (2, [.int (kd), .int (nI S), .int (nI (S + k)), .null, .null, .null, .ref (ad (21 + 2 * Ec))])) (show (5 : Nat) ≠ (20 + 2 * Ec) by first | decide | assumption | omega)).trans h5_74
          rw [← e_mem119] at hh122
          have hh123 := (va_up_ne mem9 (.inr (2, [.int (kd), .int (nI S), .int (nI (S + k)), .null, .null, .null, .ref (ad (21 + 2 * Ec))])) (show (220 : Nat) ≠ (20 + 2 * Ec) by first | decide | assumption | omega)).trans h2209
          rw [← e_mem119] at hh123
          have hfr124 : ∀ i, 7 ≤ i ∧ i < 220 ∧ i ≠ 20 + 2 * Ec → mem119 i = mem i := fun i q => (show mem119 i = mem9 i by rw [e_mem119]; exact va_up_ne _ _ (by omega)).trans (hz67 i q)
          have h221_125 : mem119 221 = .inl (cy 0, 240, .inl (s9)) := by rw [e_mem119, va_up_ne _ _ (by omega)]; exact h2219
          have hRX126 : RX cy ad lim (a1) (R) (Ec + 1) (to) (nm) m0 mem119 := by rw [e_mem119]; exact hz62.el (by omega) (hz62.1.mk (by omega) (hz62.1.1.upEl (by omega) (fun _ => ⟨Or.inl rfl, Or.inl rfl, Or.inl rfl⟩)))
          refine lv_aload_n Bx.1 Bx.2.1 d_Rd_readString_95 rfl (lv_at hl 2 rfl) ?_
          refine lv_aload_n Bx.1 Bx.2.1 d_Rd_readString_96 rfl (lv_at hl 2 rfl) ?_
          refine f_callVi (na := 0) (As := []) (rest := [.ref (ad 222)]) Bx hml E hP hD hS (by omega) hh120 rfl (m_Rd_peekX l hn hT hf hRX126 (by omega)) kw_353 kw_355 sel_Rd_peek kw_6 kw_356 (by decide +kernel) ⟨rfl, rfl⟩ ⟨Nat.le_of_ble_eq_true rfl, Nat.le_of_ble_eq_true rfl⟩ rfl hl.1 (Nat.le_of_ble_eq_true rfl) d_Rd_readString_97 ⟨Nat.le_of_ble_eq_true rfl, Nat.le_of_ble_eq_true rfl⟩ (fun r128 mem129 H locs hq hP hS => ?_)
          have hD : va_D (Az sz) (fw n ad mem129) := fw_D hD
          obtain ⟨hqe, hpk127⟩ := hq
          rw [hqe] at hP hD
          subst hpk127
          refine lv_bipush (v := 34) Bx.1 Bx.2.1 d_Rd_readString_100 (by decide) ?_
          refine lv_icmp_ne Bx.1 Bx.2.1 d_Rd_readString_102 rfl (fun hb131 => ?_) (fun hb131 => ?_)
          · refine lv_iconst (v := 0) Bx.1 Bx.2.1 d_Rd_readString_109 (by decide) ?_
            refine lv_aload_n Bx.1 Bx.2.1 d_Rd_readString_110 rfl (lv_at hl 2 rfl) ?_
            refine f_get Bx hP (by omega) hh120 rfl inRd 2 (by decide) kw_146 rfl rfl d_Rd_readString_111 ?_
            refine f_xVv (na := 2) (As := [.int (0), .int (nI a1)]) (rest := []) Bx hml E hP hD hS (by omega) hh120 rfl (m_Rd_needReadableX l hlt hn hT hf hRX126 (by omega)) kw_360 kw_362 sel_Rd_needReadable kw_6 kw_363 (by decide +kernel) ⟨rfl, rfl⟩ ⟨Nat.le_of_ble_eq_true rfl, Nat.le_of_ble_eq_true rfl⟩ rfl hl.1 (Nat.le_of_ble_eq_true rfl) d_Rd_readString_114 ⟨Nat.le_of_ble_eq_true rfl, Nat.le_of_ble_eq_true rfl⟩ (fun X ce q9 memx H locs hx9 hP hS g1 g2 g3 => f_out hlocks hno hP hS g1 g2 g3 ⟨Nat.le_of_ble_eq_true rfl, Nat.le_of_ble_eq_true rfl⟩ ⟨hx9.1, (Or.inr (by rw [hN, show a + 1 + k = a1 by omega]; exact hb131))⟩) (fun mem133 H locs hq hP hS => ?_)
            have hD : va_D (Az sz) (fw n ad mem133) := fw_D hD
            obtain ⟨hqe, hg134⟩ := hq
            rw [hqe] at hP hD
            exact absurd rfl hg134
          · have hlt135 := hereF_lt (by rw [hb131]; decide)
            refine lv_iconst (v := 1) Bx.1 Bx.2.1 d_Rd_readString_105 (by decide) ?_
            refine lv_goto Bx.1 Bx.2.1 d_Rd_readString_106 rfl ?_
            refine lv_aload_n Bx.1 Bx.2.1 d_Rd_readString_110 rfl (lv_at hl 2 rfl) ?_
            refine f_get Bx hP (by omega) hh120 rfl inRd 2 (by decide) kw_146 rfl rfl d_Rd_readString_111 ?_
            refine f_xVv (na := 2) (As := [.int (1), .int (nI a1)]) (rest := []) Bx hml E hP hD hS (by omega) hh120 rfl (m_Rd_needReadableX l hlt hn hT hf hRX126 (by omega)) kw_360 kw_362 sel_Rd_needReadable kw_6 kw_363 (by decide +kernel) ⟨rfl, rfl⟩ ⟨Nat.le_of_ble_eq_true rfl, Nat.le_of_ble_eq_true rfl⟩ rfl hl.1 (Nat.le_of_ble_eq_true rfl) d_Rd_readString_114 ⟨Nat.le_of_ble_eq_true rfl, Nat.le_of_ble_eq_true rfl⟩ (fun X ce q9 memx H locs hx9 hP hS g1 g2 g3 => f_out hlocks hno hP hS g1 g2 g3 ⟨Nat.le_of_ble_eq_true rfl, Nat.le_of_ble_eq_true rfl⟩ ⟨hx9.1, absurd hx9.2 (by decide)⟩) (fun mem137 H locs hq hP hS => ?_)
            have hD : va_D (Az sz) (fw n ad mem137) := fw_D hD
            obtain ⟨hqe, hg138⟩ := hq
            rw [hqe] at hP hD
            refine lv_aload_n Bx.1 Bx.2.1 d_Rd_readString_117 rfl (lv_at hl 2 rfl) ?_
            refine lv_dup Bx.1 Bx.2.1 d_Rd_readString_118 rfl ?_
            refine f_get Bx hP (by omega) hh120 rfl inRd 2 (by decide) kw_146 rfl rfl d_Rd_readString_119 ?_
            refine lv_iconst (v := 1) Bx.1 Bx.2.1 d_Rd_readString_122 (by decide) ?_
            refine lv_iadd Bx.1 Bx.2.1 d_Rd_readString_123 ?_
            rw [show nI a1 + 1 = nI (a1 + 1) from nI_add (a1) (1)]
            refine f_put Bx hP hD hS (by omega) hh120 rfl inRd tyRd okRd nmRd 2 (by decide) kw_146 rfl rfl rfl rfl (Nat.le_of_ble_eq_true rfl) d_Rd_readString_124 (fun H locs hP hS => ?_)
            obtain ⟨mem139, e_mem139⟩ : ∃ z, z = va_up mem119 (222) (.inr (4, [.ref (ad 1), .ref (ad 5), .int (nI (a1 + 1)), .int (ft70)])) := ⟨_, rfl⟩
            have hP : va_P D vcl (fw n ad mem139) H := by rw [e_mem139]; exact hP
            have hD : va_D (Az sz) (fw n ad mem139) := fw_D hD
            have h_mem139 : mem139 (222) = .inr (4, [.ref (ad 1), .ref (ad 5), .int (nI (a1 + 1)), .int (ft70)]) := by rw [e_mem139, va_up_self]
            have hh140 := (va_up_ne mem119 (.inr (4, [.ref (ad 1), .ref (ad 5), .int (nI (a1 + 1)), .int (ft70)])) (show (1 : Nat) ≠ 222 by first | decide | assumption | omega)).trans hh121
            rw [← e_mem139] at hh140
            have hh141 := (va_up_ne mem119 (.inr (4, [.ref (ad 1), .ref (ad 5), .int (nI (a1 + 1)), .int (ft70)])) (show (5 : Nat) ≠ 222 by first | decide | assumption | omega)).trans hh122
            rw [← e_mem139] at hh141
            have hh142 := (va_up_ne mem119 (.inr (4, [.ref (ad 1), .ref (ad 5), .int (nI (a1 + 1)), .int (ft70)])) (show (220 : Nat) ≠ 222 by first | decide | assumption | omega)).trans hh123
            rw [← e_mem139] at hh142
            have hh143 := (va_up_ne mem119 (.inr (4, [.ref (ad 1), .ref (ad 5), .int (nI (a1 + 1)), .int (ft70)])) (show ((20 + 2 * Ec) : Nat) ≠ 222 by first | decide | assumption | omega)).trans h_mem119
            rw [← e_mem139] at hh143
            have hfr144 : ∀ i, 7 ≤ i ∧ i < 220 ∧ i ≠ 20 + 2 * Ec → mem139 i = mem i := fun i q => (show mem139 i = mem119 i by rw [e_mem139]; exact va_up_ne _ _ (by omega)).trans (hfr124 i q)
            have h221_145 : mem139 221 = .inl (cy 0, 240, .inl (s9)) := by rw [e_mem139, va_up_ne _ _ (by omega)]; exact h221_125
            have hRX146 : RX cy ad lim (a1 + 1) (R) (Ec + 1) (to) (nm) m0 mem139 := by rw [e_mem139]; exact hRX126.at
            refine lv_aload_n Bx.1 Bx.2.1 d_Rd_readString_127 rfl (lv_at hl 1 rfl) ?_
            exact x_aret hx hb hlocks hr (⟨by omega, by rw [hN, show a + 1 + k = a1 by omega]; exact hb131, rfl, by rw [hN]; omega, by rw [hN, show a + 1 + k = a1 by omega]; exact hRX146, by rw [hN]; exact hh143, ⟨s9, by rw [hN]; exact hh142, h221_145, hs1, by rw [hN]; exact hs2⟩, hfr144⟩) hP hS d_Rd_readString_128
        · have hlt9 : a1 < Z := hereF_lt (stC_ne hb118)
          refine lv_aload_n Bx.1 Bx.2.1 d_Rd_readString_51 rfl (lv_at hl 2 rfl) ?_
          refine f_get Bx hP (by omega) h9_71 rfl inRd 1 (by decide) kw_145 rfl rfl d_Rd_readString_52 ?_
          refine f_getN Bx hP (by omega) h5_74 rfl inGr 2 (by decide) kw_120 rfl rfl d_Rd_readString_55 ?_
          refine lv_aload_n Bx.1 Bx.2.1 d_Rd_readString_58 rfl (lv_at hl 2 rfl) ?_
          refine f_callVi (na := 0) (As := []) (rest := [.ref (ad 220)]) Bx hml E hP hD hS (by omega) h9_71 rfl (m_Rd_peekX l hn hT hf hz62 (by omega)) kw_353 kw_355 sel_Rd_peek kw_6 kw_356 (by decide +kernel) ⟨rfl, rfl⟩ ⟨Nat.le_of_ble_eq_true rfl, Nat.le_of_ble_eq_true rfl⟩ rfl hl.1 (Nat.le_of_ble_eq_true rfl) d_Rd_readString_59 ⟨Nat.le_of_ble_eq_true rfl, Nat.le_of_ble_eq_true rfl⟩ (fun r148 mem149 H locs hq hP hS => ?_)
          have hD : va_D (Az sz) (fw n ad mem149) := fw_D hD
          obtain ⟨hqe, hpk147⟩ := hq
          rw [hqe] at hP hD
          subst hpk147
          refine f_callVv (na := 1) (As := [.int (hereF Z T (a1))]) (rest := []) Bx hml E hP hD hS (by omega) h2209 rfl (m_Ch_appendY l hn hT hf hz62 (by omega) h2209 h2219 (by omega)) kw_462 kw_318 kw_319 kw_2 kw_320 (by decide +kernel) ⟨rfl, rfl⟩ ⟨Nat.le_of_ble_eq_true rfl, Nat.le_of_ble_eq_true rfl⟩ rfl hl.1 (Nat.le_of_ble_eq_true rfl) d_Rd_readString_62 ⟨Nat.le_of_ble_eq_true rfl, Nat.le_of_ble_eq_true rfl⟩ (fun mem152 H locs hq hP hS => ?_)
          have hD : va_D (Az sz) (fw n ad mem152) := fw_D hD
          obtain ⟨hRX153, h220_154, h221_155, hfa156⟩ := hq
          rw [charN (stC_r hb118).1 (stC_r hb118).2] at h221_155
          obtain ⟨st157, est157⟩ : ∃ z, z = upd (s9) (S + k) (hereF Z T (a1)) := ⟨_, rfl⟩
          rw [← est157] at h221_155
          have hel158 := (hfa156 (20 + 2 * Ec) (by omega)).trans hz65
          have hfr159 : ∀ i, 7 ≤ i ∧ i < 220 ∧ i ≠ 20 + 2 * Ec → mem152 i = mem i := fun i q => (hfa156 i (by omega)).trans (hz67 i q)
          obtain ⟨ft160, h9_161⟩ := hRX153.2.1
          have h1_162 : mem152 1 = .inr (0, [.ref (ad 2), .int (nI Z)]) := (hRX153.1.2.2 1 (by omega)).trans hT.1
          have h2_163 : mem152 2 = .inl (cy 0, 240, .inl f) := (hRX153.1.2.2 2 (by omega)).trans hT.2.2
          have h5_164 := hRX153.1.1.2.1
          have hbd170 := hRX153.1.1.1
          obtain ⟨S165, g166, hS_167, h220_168, h221_169⟩ := hRX153.1.1.2.2.2.2.2.2
          refine lv_aload_n Bx.1 Bx.2.1 d_Rd_readString_65 rfl (lv_at hl 2 rfl) ?_
          refine lv_dup Bx.1 Bx.2.1 d_Rd_readString_66 rfl ?_
          refine f_get Bx hP (by omega) h9_161 rfl inRd 2 (by decide) kw_146 rfl rfl d_Rd_readString_67 ?_
          refine lv_iconst (v := 1) Bx.1 Bx.2.1 d_Rd_readString_70 (by decide) ?_
          refine lv_iadd Bx.1 Bx.2.1 d_Rd_readString_71 ?_
          rw [show nI a1 + 1 = nI (a1 + 1) from nI_add (a1) (1)]
          refine f_put Bx hP hD hS (by omega) h9_161 rfl inRd tyRd okRd nmRd 2 (by decide) kw_146 rfl rfl rfl rfl (Nat.le_of_ble_eq_true rfl) d_Rd_readString_72 (fun H locs hP hS => ?_)
          obtain ⟨mem171, e_mem171⟩ : ∃ z, z = va_up mem152 (222) (.inr (4, [.ref (ad 1), .ref (ad 5), .int (nI (a1 + 1)), .int (ft160)])) := ⟨_, rfl⟩
          have hP : va_P D vcl (fw n ad mem171) H := by rw [e_mem171]; exact hP
          have hD : va_D (Az sz) (fw n ad mem171) := fw_D hD
          have h_mem171 : mem171 (222) = .inr (4, [.ref (ad 1), .ref (ad 5), .int (nI (a1 + 1)), .int (ft160)]) := by rw [e_mem171, va_up_self]
          have hh172 := (va_up_ne mem152 (.inr (4, [.ref (ad 1), .ref (ad 5), .int (nI (a1 + 1)), .int (ft160)])) (show (1 : Nat) ≠ 222 by first | decide | assumption | omega)).trans h1_162
          rw [← e_mem171] at hh172
          have hh173 := (va_up_ne mem152 (.inr (4, [.ref (ad 1), .ref (ad 5), .int (nI (a1 + 1)), .int (ft160)])) (show (5 : Nat) ≠ 222 by first | decide | assumption | omega)).trans h5_164
          rw [← e_mem171] at hh173
          have hh174 := (va_up_ne mem152 (.inr (4, [.ref (ad 1), .ref (ad 5), .int (nI (a1 + 1)), .int (ft160)])) (show (220 : Nat) ≠ 222 by first | decide | assumption | omega)).trans h220_154
          rw [← e_mem171] at hh174
          have hh175 := (va_up_ne mem152 (.inr (4, [.ref (ad 1), .ref (ad 5), .int (nI (a1 + 1)), .int (ft160)])) (show ((20 + 2 * Ec) : Nat) ≠ 222 by first | decide | assumption | omega)).trans hel158
          rw [← e_mem171] at hh175
          have hfr176 : ∀ i, 7 ≤ i ∧ i < 220 ∧ i ≠ 20 + 2 * Ec → mem171 i = mem i := fun i q => (show mem171 i = mem152 i by rw [e_mem171]; exact va_up_ne _ _ (by omega)).trans (hfr159 i q)
          have h221_177 : mem171 221 = .inl (cy 0, 240, .inl (st157)) := by rw [e_mem171, va_up_ne _ _ (by omega)]; exact h221_155
          have hRX178 : RX cy ad lim (a1 + 1) (R) (Ec + 1) (to) (nm) m0 mem171 := by rw [e_mem171]; exact hRX153.at
          refine lv_iinc (lv' := [(4, .int ((nI k + (1)))), (3, .ref (ad (20 + 2 * Ec))), (0, .ref (ad 222)), (1, .int (st)), (2, .int (kd))]) Bx.1 Bx.2.1 d_Rd_readString_75 hl (k := 0) rfl rfl (by decide) rfl (fun ls hl => ?_)
          rw [show (nI k + (1) : Int32) = nI (k + 1) from nI_1 (k)] at hl
          refine lv_goto Bx.1 Bx.2.1 d_Rd_readString_78 rfl ?_
          have hsk2 : strN T Z (12 - (k + 1)) (a1 + 1) + (k + 1) = strN T Z 12 (a + 1) := by
            obtain ⟨r6, hr6⟩ : ∃ r6, 12 - k = r6 + 1 := ⟨12 - k - 1, by omega⟩
            rw [← hz64, hr6, strN_on (stC_1 hb118).1 (stC_1 hb118).2, show 12 - (k + 1) = r6 by omega]; omega
          have hs3 : ∀ m, m < S → st157 m = s8 m := fun m hm => by rw [est157, upd_ne (by omega)]; exact hs1 m hm
          have hs4 : ∀ m, m < k + 1 → st157 (S + m) = hereF Z T (a + 1 + m) := fun m hm => by
            rw [est157]
            by_cases q9 : m = k
            · rw [q9, upd_self, show a + 1 + k = a1 by omega]
            · rw [upd_ne (by omega)]; exact hs2 m (by omega)
          exact ih68 mem171 (a1 + 1) (k + 1) (st157) _ _ _ (by have := hmeas69; omega) (hRX178) (⟨by omega, by omega, by omega⟩) (hsk2) (hh175) (⟨hh174, h221_177, hs3, hs4⟩) (hfr176) hP hD hS (lv_sub hl [0, 1, 2, 3, 4] rfl)
  exact loop60 _ mem52 (a + 1) (0) (s8) _ _ _ (Nat.lt_succ_self _) (hRX59) (⟨by omega, by omega, by omega⟩) (rfl) (h_mem52) (⟨hh56, h221_58, fun _ _ => rfl, fun m hm => by omega⟩) (hfr57) hP hD hS (lv_sub hl [0, 1, 2, 3, 4] rfl)
set_option maxHeartbeats 4000000 in
set_option maxRecDepth 100000 in
theorem m_Rd_readExactStringY (l : Launch) {D : va_G} {cy : Nat → ClassId} {sz n : Nat} {ad : Nat → Nat} {mem : Nat → va_E} {Z a R Ec lim : Nat} {f T : Nat → Int32} {to : Nat → Int32} {nm : Nat → Int64} {m0 : Nat → va_E} {S : Nat} {s8 : Nat → Int32} (hlt : l.stackTraces = false) (hn : 224 ≤ n) (hT : TX cy ad Z f m0) (hf : ∀ k, k < Z → f k = T k) (hRX : RX cy ad lim a R Ec to nm m0 mem) (haB : a ≤ 300) (h220 : mem 220 = .inr (0, [.ref (ad 221), .int (nI S)])) (h221 : mem 221 = .inl (cy 0, 240, .inl s8)) (haZ : a < Z) (hSa : S ≤ a) : NXr l D cy sz n ad y_Rd_readExactString c_Rd_readExactString 2 (some (.object "AbnfChart$Element")) ({ frames := 12, cells := 1, slots := 6, locals := 280 } : Room) mem [.ref (ad 222)] (fun r mem' => hereF Z T (a + 1 + 1) = 34 ∧ Ec < 100 ∧ hereF Z T (a + 1 + 1 + 1 + strN T Z 12 (a + 1 + 1 + 1)) = 34 ∧ r = ad (20 + 2 * Ec) ∧ a + 1 + 1 + 1 + strN T Z 12 (a + 1 + 1 + 1) + 1 ≤ Z ∧ RX cy ad lim (a + 1 + 1 + 1 + strN T Z 12 (a + 1 + 1 + 1) + 1) R (Ec + 1) to nm m0 mem' ∧ mem' (20 + 2 * Ec) = eCl ad Ec 6 (nI S) (nI (S + strN T Z 12 (a + 1 + 1 + 1))) .null .null .null ∧ (∃ s9 : Nat → Int32, mem' 220 = .inr (0, [.ref (ad 221), .int (nI (S + (strN T Z 12 (a + 1 + 1 + 1))))]) ∧ mem' 221 = .inl (cy 0, 240, .inl s9) ∧ (∀ m, m < S → s9 m = s8 m) ∧ ∀ m, m < (strN T Z 12 (a + 1 + 1 + 1)) → s9 (S + m) = hereF Z T (a + 1 + 1 + 1 + m)) ∧ ∀ i, 7 ≤ i ∧ i < 220 ∧ i ≠ 20 + 2 * Ec → mem' i = mem i) (fun X mem' => ((X = cIA ∨ X = cIS) ∧ ∃ rc' ec' : Nat, RS cy ad lim rc' ec' m0 mem') ∧ (¬ hereF Z T (a + 1 + 1) = 34 ∨ Ec = 100 ∨ ¬ hereF Z T (a + 1 + 1 + 1 + strN T Z 12 (a + 1 + 1 + 1)) = 34)) := by
  refine vx_ofW (cc := c_Rd_readExactString) (maxL := 2) (ret := (some (.object "AbnfChart$Element"))) (by decide) rfl ?_
  intro p e s m args below meth c s₁ B hml hno hv
  obtain ⟨rfl, E, hP, hD⟩ := hv
  have hx := B.exec
  have hb := B.bytes
  have hr := B.returns
  have hlocks := B.notSynchronized
  have Bx : MB p s m [.ref (ad 222)].toArray c c_Rd_readExactString "AbnfChart$Reader" D cy := ⟨hx, hb, tb_all (atoms_spec B.pre) E.2.1, findClass_of_methodNamed B.named, E.1⟩
  have hS : va_S (Az sz) s.heap s.heap [] := va_S.rf
  have hl := lv_entry ([.ref (ad 222)]) (n := 2) (Nat.le_of_ble_eq_true rfl)
  rw [lg_entry_eq]
  generalize (lg_sl ([.ref (ad 222)]) ++ List.replicate (2 - (lg_sl ([.ref (ad 222)])).length) Slot.unset).toArray = ls at hl ⊢
  have hl : lv_has ls 2 [(0, .ref (ad 222))] := hl
  have hZ9 := hT.2.1
  have hbd9 := hRX.1.1.1
  have hfr0 : ∀ i, 7 ≤ i ∧ i < 220 ∧ i ≠ 20 + 2 * Ec → mem i = mem i := fun _ _ => rfl
  obtain ⟨ft1, h9_2⟩ := hRX.2.1
  have h1_3 : mem 1 = .inr (0, [.ref (ad 2), .int (nI Z)]) := (hRX.1.2.2 1 (by omega)).trans hT.1
  have h2_4 : mem 2 = .inl (cy 0, 240, .inl f) := (hRX.1.2.2 2 (by omega)).trans hT.2.2
  have h5_5 := hRX.1.1.2.1
  have hbd11 := hRX.1.1.1
  obtain ⟨S6, g7, hS_8, h220_9, h221_10⟩ := hRX.1.1.2.2.2.2.2.2
  refine lv_aload_n Bx.1 Bx.2.1 d_Rd_readExactString_0 rfl (lv_at hl 0 rfl) ?_
  refine f_get Bx hP (by omega) h9_2 rfl inRd 2 (by decide) kw_146 rfl rfl d_Rd_readExactString_1 ?_
  refine lv_istore_n (lv' := [(1, .int (nI a)), (0, .ref (ad 222))]) Bx.1 Bx.2.1 d_Rd_readExactString_4 rfl hl (by decide) rfl (fun ls hl => ?_)
  refine lv_aload_n Bx.1 Bx.2.1 d_Rd_readExactString_5 rfl (lv_at hl 1 rfl) ?_
  refine lv_dup Bx.1 Bx.2.1 d_Rd_readExactString_6 rfl ?_
  refine f_get Bx hP (by omega) h9_2 rfl inRd 2 (by decide) kw_146 rfl rfl d_Rd_readExactString_7 ?_
  refine lv_iconst (v := 2) Bx.1 Bx.2.1 d_Rd_readExactString_10 (by decide) ?_
  refine lv_iadd Bx.1 Bx.2.1 d_Rd_readExactString_11 ?_
  rw [show nI a + 2 = nI (a + 2) from nI_add (a) (2)]
  refine f_put Bx hP hD hS (by omega) h9_2 rfl inRd tyRd okRd nmRd 2 (by decide) kw_146 rfl rfl rfl rfl (Nat.le_of_ble_eq_true rfl) d_Rd_readExactString_12 (fun H locs hP hS => ?_)
  obtain ⟨mem12, e_mem12⟩ : ∃ z, z = va_up mem (222) (.inr (4, [.ref (ad 1), .ref (ad 5), .int (nI (a + 2)), .int (ft1)])) := ⟨_, rfl⟩
  have hP : va_P D vcl (fw n ad mem12) H := by rw [e_mem12]; exact hP
  have hD : va_D (Az sz) (fw n ad mem12) := fw_D hD
  have h_mem12 : mem12 (222) = .inr (4, [.ref (ad 1), .ref (ad 5), .int (nI (a + 2)), .int (ft1)]) := by rw [e_mem12, va_up_self]
  have hh13 := (va_up_ne mem (.inr (4, [.ref (ad 1), .ref (ad 5), .int (nI (a + 2)), .int (ft1)])) (show (1 : Nat) ≠ 222 by first | decide | assumption | omega)).trans h1_3
  rw [← e_mem12] at hh13
  have hh14 := (va_up_ne mem (.inr (4, [.ref (ad 1), .ref (ad 5), .int (nI (a + 2)), .int (ft1)])) (show (5 : Nat) ≠ 222 by first | decide | assumption | omega)).trans h5_5
  rw [← e_mem12] at hh14
  have hh15 := (va_up_ne mem (.inr (4, [.ref (ad 1), .ref (ad 5), .int (nI (a + 2)), .int (ft1)])) (show (220 : Nat) ≠ 222 by first | decide | assumption | omega)).trans h220
  rw [← e_mem12] at hh15
  have hfr16 : ∀ i, 7 ≤ i ∧ i < 220 ∧ i ≠ 20 + 2 * Ec → mem12 i = mem i := fun i q => (show mem12 i = mem i by rw [e_mem12]; exact va_up_ne _ _ (by omega)).trans (hfr0 i q)
  have h221_17 : mem12 221 = .inl (cy 0, 240, .inl (s8)) := by rw [e_mem12, va_up_ne _ _ (by omega)]; exact h221
  have hRX18 : RX cy ad lim (a + 2) (R) (Ec) (to) (nm) m0 mem12 := by rw [e_mem12]; exact hRX.at
  refine lv_aload_n Bx.1 Bx.2.1 d_Rd_readExactString_15 rfl (lv_at hl 1 rfl) ?_
  refine lv_aload_n Bx.1 Bx.2.1 d_Rd_readExactString_16 rfl (lv_at hl 1 rfl) ?_
  refine f_callVi (na := 0) (As := []) (rest := [.ref (ad 222)]) Bx hml E hP hD hS (by omega) h_mem12 rfl (m_Rd_peekX l hn hT hf hRX18 (by omega)) kw_353 kw_355 sel_Rd_peek kw_6 kw_356 (by decide +kernel) ⟨rfl, rfl⟩ ⟨Nat.le_of_ble_eq_true rfl, Nat.le_of_ble_eq_true rfl⟩ rfl hl.1 (Nat.le_of_ble_eq_true rfl) d_Rd_readExactString_17 ⟨Nat.le_of_ble_eq_true rfl, Nat.le_of_ble_eq_true rfl⟩ (fun r20 mem21 H locs hq hP hS => ?_)
  have hD : va_D (Az sz) (fw n ad mem21) := fw_D hD
  obtain ⟨hqe, hpk19⟩ := hq
  rw [hqe] at hP hD
  subst hpk19
  refine lv_bipush (v := 34) Bx.1 Bx.2.1 d_Rd_readExactString_20 (by decide) ?_
  refine lv_icmp_ne Bx.1 Bx.2.1 d_Rd_readExactString_22 rfl (fun hb23 => ?_) (fun hb23 => ?_)
  · refine lv_iconst (v := 0) Bx.1 Bx.2.1 d_Rd_readExactString_29 (by decide) ?_
    refine lv_aload_n Bx.1 Bx.2.1 d_Rd_readExactString_30 rfl (lv_at hl 1 rfl) ?_
    refine f_get Bx hP (by omega) h_mem12 rfl inRd 2 (by decide) kw_146 rfl rfl d_Rd_readExactString_31 ?_
    refine f_xVv (na := 2) (As := [.int (0), .int (nI (a + 2))]) (rest := []) Bx hml E hP hD hS (by omega) h_mem12 rfl (m_Rd_needReadableX l hlt hn hT hf hRX18 (by omega)) kw_360 kw_362 sel_Rd_needReadable kw_6 kw_363 (by decide +kernel) ⟨rfl, rfl⟩ ⟨Nat.le_of_ble_eq_true rfl, Nat.le_of_ble_eq_true rfl⟩ rfl hl.1 (Nat.le_of_ble_eq_true rfl) d_Rd_readExactString_34 ⟨Nat.le_of_ble_eq_true rfl, Nat.le_of_ble_eq_true rfl⟩ (fun X ce q9 memx H locs hx9 hP hS g1 g2 g3 => f_out hlocks hno hP hS g1 g2 g3 ⟨Nat.le_of_ble_eq_true rfl, Nat.le_of_ble_eq_true rfl⟩ ⟨hx9.1, Or.inl hb23⟩) (fun mem25 H locs hq hP hS => ?_)
    have hD : va_D (Az sz) (fw n ad mem25) := fw_D hD
    obtain ⟨hqe, hg26⟩ := hq
    rw [hqe] at hP hD
    exact absurd rfl hg26
  · have hlt27 := hereF_lt (by rw [hb23]; decide)
    refine lv_iconst (v := 1) Bx.1 Bx.2.1 d_Rd_readExactString_25 (by decide) ?_
    refine lv_goto Bx.1 Bx.2.1 d_Rd_readExactString_26 rfl ?_
    refine lv_aload_n Bx.1 Bx.2.1 d_Rd_readExactString_30 rfl (lv_at hl 1 rfl) ?_
    refine f_get Bx hP (by omega) h_mem12 rfl inRd 2 (by decide) kw_146 rfl rfl d_Rd_readExactString_31 ?_
    refine f_xVv (na := 2) (As := [.int (1), .int (nI (a + 2))]) (rest := []) Bx hml E hP hD hS (by omega) h_mem12 rfl (m_Rd_needReadableX l hlt hn hT hf hRX18 (by omega)) kw_360 kw_362 sel_Rd_needReadable kw_6 kw_363 (by decide +kernel) ⟨rfl, rfl⟩ ⟨Nat.le_of_ble_eq_true rfl, Nat.le_of_ble_eq_true rfl⟩ rfl hl.1 (Nat.le_of_ble_eq_true rfl) d_Rd_readExactString_34 ⟨Nat.le_of_ble_eq_true rfl, Nat.le_of_ble_eq_true rfl⟩ (fun X ce q9 memx H locs hx9 hP hS g1 g2 g3 => f_out hlocks hno hP hS g1 g2 g3 ⟨Nat.le_of_ble_eq_true rfl, Nat.le_of_ble_eq_true rfl⟩ ⟨hx9.1, absurd hx9.2 (by decide)⟩) (fun mem29 H locs hq hP hS => ?_)
    have hD : va_D (Az sz) (fw n ad mem29) := fw_D hD
    obtain ⟨hqe, hg30⟩ := hq
    rw [hqe] at hP hD
    refine lv_aload_n Bx.1 Bx.2.1 d_Rd_readExactString_37 rfl (lv_at hl 1 rfl) ?_
    refine lv_iload_n Bx.1 Bx.2.1 d_Rd_readExactString_38 rfl (lv_at hl 0 rfl) ?_
    refine lv_bipush (v := 6) Bx.1 Bx.2.1 d_Rd_readExactString_39 (by decide) ?_
    have haZ2 := hereF_lt (show hereF Z T (a + 2) ≠ -1 by rw [hb23]; decide)
    refine f_xVr (na := 2) (As := [.int (nI a), .int (6)]) (rest := []) Bx hml E hP hD hS (by omega) h_mem12 rfl (m_Rd_readStringY l hlt hn hT hf hRX18 (by omega) hh15 h221_17 (by omega) (by omega)) kw_455 kw_457 sel_Rd_readString kw_6 kw_458 (by decide +kernel) ⟨rfl, rfl⟩ ⟨Nat.le_of_ble_eq_true rfl, Nat.le_of_ble_eq_true rfl⟩ rfl hl.1 (Nat.le_of_ble_eq_true rfl) d_Rd_readExactString_41 ⟨Nat.le_of_ble_eq_true rfl, Nat.le_of_ble_eq_true rfl⟩ (fun X ce q9 memx H locs hx9 hP hS g1 g2 g3 => f_out hlocks hno hP hS g1 g2 g3 ⟨Nat.le_of_ble_eq_true rfl, Nat.le_of_ble_eq_true rfl⟩ ⟨hx9.1, Or.inr hx9.2⟩) (fun r31 mem32 H locs hq hP hS => ?_)
    have hD : va_D (Az sz) (fw n ad mem32) := fw_D hD
    obtain ⟨c1, c2, c3, c4, c5, c6, c7, c8⟩ := hq
    exact x_aret hx hb hlocks hr (⟨hb23, c1, c2, c3, c4, c5, c6, c7, fun i q9 => (c8 i (by omega)).trans (hfr16 i q9)⟩) hP hS d_Rd_readExactString_44
set_option maxHeartbeats 4000000 in
set_option maxRecDepth 100000 in
theorem m_Rd_readAskedNameY (l : Launch) {D : va_G} {cy : Nat → ClassId} {sz n : Nat} {ad : Nat → Nat} {mem : Nat → va_E} {Z a R Ec lim : Nat} {f T : Nat → Int32} {to : Nat → Int32} {nm : Nat → Int64} {m0 : Nat → va_E} {A : Ro} (hlt : l.stackTraces = false) (hn : 224 ≤ n) (hT : TX cy ad Z f m0) (hf : ∀ k, k < Z → f k = T k) (hRX : RX cy ad lim a R Ec to nm m0 mem) (haB : a ≤ 300) (haZ : a ≤ Z) : NXr l D cy sz n ad y_Rd_readAskedName c_Rd_readAskedName 4 (some (.object "AbnfChart$Element")) ({ frames := 10, cells := 1, slots := 6, locals := 220 } : Room) mem [.ref (ad 222)] (fun r mem' => ∃ i a' R' A' nm', nameS T Z a R A nm = some (i, a', R', A', nm') ∧ ¬ ltF (hereF Z T a) = 0 ∧ Ec < 100 ∧ r = ad (20 + 2 * Ec) ∧ R ≤ R' ∧ a < a' ∧ a' ≤ Z ∧ (∀ j, j ≠ 227 → A' j = A j) ∧ TOK R R' (A 227) (A' 227) ∧ (∃ to', TOK R R' to to' ∧ RX cy ad lim a' R' (Ec + 1) to' nm' m0 mem') ∧ i < R' ∧ mem' (20 + 2 * Ec) = eCl ad Ec 4 0 0 (.ref (ad (7 + i))) .null .null ∧ ∀ i, 7 ≤ i ∧ i < 222 ∧ i ≠ 20 + 2 * Ec ∧ (i < 7 + R ∨ 19 ≤ i) → mem' i = mem i) (fun X mem' => ((X = cIA ∨ X = cIS) ∧ ∃ rc' ec' : Nat, RS cy ad lim rc' ec' m0 mem') ∧ (ltF (hereF Z T a) = 0 ∨ nameS T Z a R A nm = none ∨ Ec = 100)) := by
  refine vx_ofW (cc := c_Rd_readAskedName) (maxL := 4) (ret := (some (.object "AbnfChart$Element"))) (by decide) rfl ?_
  intro p e s m args below meth c s₁ B hml hno hv
  obtain ⟨rfl, E, hP, hD⟩ := hv
  have hx := B.exec
  have hb := B.bytes
  have hr := B.returns
  have hlocks := B.notSynchronized
  have Bx : MB p s m [.ref (ad 222)].toArray c c_Rd_readAskedName "AbnfChart$Reader" D cy := ⟨hx, hb, tb_all (atoms_spec B.pre) E.2.1, findClass_of_methodNamed B.named, E.1⟩
  have hS : va_S (Az sz) s.heap s.heap [] := va_S.rf
  have hl := lv_entry ([.ref (ad 222)]) (n := 4) (Nat.le_of_ble_eq_true rfl)
  rw [lg_entry_eq]
  generalize (lg_sl ([.ref (ad 222)]) ++ List.replicate (4 - (lg_sl ([.ref (ad 222)])).length) Slot.unset).toArray = ls at hl ⊢
  have hl : lv_has ls 4 [(0, .ref (ad 222))] := hl
  have hZ9 := hT.2.1
  have hbd9 := hRX.1.1.1
  have hfr0 : ∀ i, 7 ≤ i ∧ i < 222 ∧ i ≠ 20 + 2 * Ec ∧ (i < 7 + R ∨ 19 ≤ i) → mem i = mem i := fun _ _ => rfl
  obtain ⟨ft1, h9_2⟩ := hRX.2.1
  have h1_3 : mem 1 = .inr (0, [.ref (ad 2), .int (nI Z)]) := (hRX.1.2.2 1 (by omega)).trans hT.1
  have h2_4 : mem 2 = .inl (cy 0, 240, .inl f) := (hRX.1.2.2 2 (by omega)).trans hT.2.2
  have h5_5 := hRX.1.1.2.1
  have hbd11 := hRX.1.1.1
  obtain ⟨S6, g7, hS_8, h220_9, h221_10⟩ := hRX.1.1.2.2.2.2.2.2
  refine lv_aload_n Bx.1 Bx.2.1 d_Rd_readAskedName_0 rfl (lv_at hl 0 rfl) ?_
  refine f_get Bx hP (by omega) h9_2 rfl inRd 2 (by decide) kw_146 rfl rfl d_Rd_readAskedName_1 ?_
  refine lv_istore_n (lv' := [(1, .int (nI a)), (0, .ref (ad 222))]) Bx.1 Bx.2.1 d_Rd_readAskedName_4 rfl hl (by decide) rfl (fun ls hl => ?_)
  refine lv_aload_n Bx.1 Bx.2.1 d_Rd_readAskedName_5 rfl (lv_at hl 1 rfl) ?_
  refine f_xVr (na := 0) (As := []) (rest := []) Bx hml E hP hD hS (by omega) h9_2 rfl (m_Rd_readNameY l hlt hn hT hf hRX (by omega) (A := A) (by omega)) kw_349 kw_351 sel_Rd_readName kw_6 kw_352 (by decide +kernel) ⟨rfl, rfl⟩ ⟨Nat.le_of_ble_eq_true rfl, Nat.le_of_ble_eq_true rfl⟩ rfl hl.1 (Nat.le_of_ble_eq_true rfl) d_Rd_readAskedName_6 ⟨Nat.le_of_ble_eq_true rfl, Nat.le_of_ble_eq_true rfl⟩ (fun X ce q9 memx H locs hx9 hP hS g1 g2 g3 => f_out hlocks hno hP hS g1 g2 g3 ⟨Nat.le_of_ble_eq_true rfl, Nat.le_of_ble_eq_true rfl⟩ ⟨hx9.1, hx9.2.elim Or.inl (fun z => Or.inr (Or.inl z))⟩) (fun r12 mem13 H locs hq hP hS => ?_)
  have hD : va_D (Az sz) (fw n ad mem13) := fw_D hD
  obtain ⟨i, a1, R1, A1, nm1, hsn, hr9, hi, hR1, ha1, ha2, hA1, htk, ⟨to1, htk1, hRXn⟩, hle, hfn⟩ := hq
  subst hr9
  have hfr14 : ∀ i, 7 ≤ i ∧ i < 222 ∧ i ≠ 20 + 2 * Ec ∧ (i < 7 + R ∨ 19 ≤ i) → mem13 i = mem i := fun i q => (hfn i (by omega)).trans (hfr0 i q)
  obtain ⟨ft15, h9_16⟩ := hRXn.2.1
  have h1_17 : mem13 1 = .inr (0, [.ref (ad 2), .int (nI Z)]) := (hRXn.1.2.2 1 (by omega)).trans hT.1
  have h2_18 : mem13 2 = .inl (cy 0, 240, .inl f) := (hRXn.1.2.2 2 (by omega)).trans hT.2.2
  have h5_19 := hRXn.1.1.2.1
  have hbd25 := hRXn.1.1.1
  obtain ⟨S20, g21, hS_22, h220_23, h221_24⟩ := hRXn.1.1.2.2.2.2.2.2
  refine lv_astore_n (lv' := [(2, .ref (ad (7 + i))), (1, .int (nI a)), (0, .ref (ad 222))]) Bx.1 Bx.2.1 d_Rd_readAskedName_9 rfl hl (by decide) rfl (fun ls hl => ?_)
  refine lv_aload_n Bx.1 Bx.2.1 d_Rd_readAskedName_10 rfl (lv_at hl 2 rfl) ?_
  refine lv_iconst (v := 4) Bx.1 Bx.2.1 d_Rd_readAskedName_11 (by decide) ?_
  refine lv_iload_n Bx.1 Bx.2.1 d_Rd_readAskedName_12 rfl (lv_at hl 1 rfl) ?_
  refine f_xVr (na := 2) (As := [.int (4), .int (nI a)]) (rest := []) Bx hml E hP hD hS (by omega) h9_16 rfl (m_Rd_addElementY l hlt hn hT hf hRXn (by omega)) kw_419 kw_421 sel_Rd_addElement kw_6 kw_422 (by decide +kernel) ⟨rfl, rfl⟩ ⟨Nat.le_of_ble_eq_true rfl, Nat.le_of_ble_eq_true rfl⟩ rfl hl.1 (Nat.le_of_ble_eq_true rfl) d_Rd_readAskedName_13 ⟨Nat.le_of_ble_eq_true rfl, Nat.le_of_ble_eq_true rfl⟩ (fun X ce q9 memx H locs hx9 hP hS g1 g2 g3 => f_out hlocks hno hP hS g1 g2 g3 ⟨Nat.le_of_ble_eq_true rfl, Nat.le_of_ble_eq_true rfl⟩ ⟨hx9.1, Or.inr (Or.inr hx9.2)⟩) (fun r26 mem27 H locs hq hP hS => ?_)
  have hD : va_D (Az sz) (fw n ad mem27) := fw_D hD
  obtain ⟨hr928, hec29, hRX30, hcl31, hfa32⟩ := hq
  subst hr928
  have hfr33 : ∀ i, 7 ≤ i ∧ i < 222 ∧ i ≠ 20 + 2 * Ec ∧ (i < 7 + R ∨ 19 ≤ i) → mem27 i = mem i := fun i q => (hfa32 i (by omega)).trans (hfr14 i q)
  obtain ⟨ft34, h9_35⟩ := hRX30.2.1
  have h1_36 : mem27 1 = .inr (0, [.ref (ad 2), .int (nI Z)]) := (hRX30.1.2.2 1 (by omega)).trans hT.1
  have h2_37 : mem27 2 = .inl (cy 0, 240, .inl f) := (hRX30.1.2.2 2 (by omega)).trans hT.2.2
  have h5_38 := hRX30.1.1.2.1
  have hbd44 := hRX30.1.1.1
  obtain ⟨S39, g40, hS_41, h220_42, h221_43⟩ := hRX30.1.1.2.2.2.2.2.2
  obtain ⟨ft45, h9_46⟩ := hRX30.2.1
  have h1_47 : mem27 1 = .inr (0, [.ref (ad 2), .int (nI Z)]) := (hRX30.1.2.2 1 (by omega)).trans hT.1
  have h2_48 : mem27 2 = .inl (cy 0, 240, .inl f) := (hRX30.1.2.2 2 (by omega)).trans hT.2.2
  have h5_49 := hRX30.1.1.2.1
  have hbd55 := hRX30.1.1.1
  obtain ⟨S50, g51, hS_52, h220_53, h221_54⟩ := hRX30.1.1.2.2.2.2.2.2
  refine lv_astore_n (lv' := [(3, .ref (ad (20 + 2 * Ec))), (2, .ref (ad (7 + i))), (1, .int (nI a)), (0, .ref (ad 222))]) Bx.1 Bx.2.1 d_Rd_readAskedName_16 rfl hl (by decide) rfl (fun ls hl => ?_)
  refine lv_aload_n Bx.1 Bx.2.1 d_Rd_readAskedName_17 rfl (lv_at hl 0 rfl) ?_
  refine lv_aload_n Bx.1 Bx.2.1 d_Rd_readAskedName_18 rfl (lv_at hl 1 rfl) ?_
  refine f_putN Bx hP hD hS (by omega) hcl31 rfl inEl tyEl okEl nmEl 3 (by decide) kw_85 rfl rfl rfl rfl (Nat.le_of_ble_eq_true rfl) d_Rd_readAskedName_19 (fun H locs hP hS => ?_)
  obtain ⟨mem56, e_mem56⟩ : ∃ z, z = va_up mem27 ((20 + 2 * Ec)) (.inr (2, [.int (4), .int (0), .int (0), .ref (ad (7 + i)), .null, .null, .ref (ad (21 + 2 * Ec))])) := ⟨_, rfl⟩
  have hP : va_P D vcl (fw n ad mem56) H := by rw [e_mem56]; exact hP
  have hD : va_D (Az sz) (fw n ad mem56) := fw_D hD
  have h_mem56 : mem56 ((20 + 2 * Ec)) = .inr (2, [.int (4), .int (0), .int (0), .ref (ad (7 + i)), .null, .null, .ref (ad (21 + 2 * Ec))]) := by rw [e_mem56, va_up_self]
  have hh57 := (va_up_ne mem27 (.inr (2, [.int (4), .int (0), .int (0), .ref (ad (7 + i)), .null, .null, .ref (ad (21 + 2 * Ec))])) (show (222 : Nat) ≠ (20 + 2 * Ec) by first | decide | assumption | omega)).trans h9_46
  rw [← e_mem56] at hh57
  have hh58 := (va_up_ne mem27 (.inr (2, [.int (4), .int (0), .int (0), .ref (ad (7 + i)), .null, .null, .ref (ad (21 + 2 * Ec))])) (show (1 : Nat) ≠ (20 + 2 * Ec) by first | decide | assumption | omega)).trans h1_47
  rw [← e_mem56] at hh58
  have hh59 := (va_up_ne mem27 (.inr (2, [.int (4), .int (0), .int (0), .ref (ad (7 + i)), .null, .null, .ref (ad (21 + 2 * Ec))])) (show (5 : Nat) ≠ (20 + 2 * Ec) by first | decide | assumption | omega)).trans h5_49
  rw [← e_mem56] at hh59
  have hh60 := (va_up_ne mem27 (.inr (2, [.int (4), .int (0), .int (0), .ref (ad (7 + i)), .null, .null, .ref (ad (21 + 2 * Ec))])) (show (220 : Nat) ≠ (20 + 2 * Ec) by first | decide | assumption | omega)).trans h220_53
  rw [← e_mem56] at hh60
  have hfr61 : ∀ i, 7 ≤ i ∧ i < 222 ∧ i ≠ 20 + 2 * Ec ∧ (i < 7 + R ∨ 19 ≤ i) → mem56 i = mem i := fun i q => (show mem56 i = mem27 i by rw [e_mem56]; exact va_up_ne _ _ (by omega)).trans (hfr33 i q)
  have hRX62 : RX cy ad lim (a1) (R1) (Ec + 1) (to1) (nm1) m0 mem56 := by rw [e_mem56]; exact hRX30.el (by omega) (hRX30.1.mk (by omega) (hRX30.1.1.upEl (by omega) (fun _ => ⟨Or.inr ⟨i, by omega, rfl⟩, Or.inl rfl, Or.inl rfl⟩)))
  refine lv_aload_n Bx.1 Bx.2.1 d_Rd_readAskedName_22 rfl (lv_at hl 0 rfl) ?_
  exact x_aret hx hb hlocks hr (⟨i, a1, R1, A1, nm1, hsn, hle, hec29, rfl, hR1, ha1, ha2, hA1, htk, ⟨to1, htk1, hRX62⟩, hi, h_mem56, hfr61⟩) hP hS d_Rd_readAskedName_23
