set_option maxHeartbeats 4000000 in
set_option maxRecDepth 100000 in
theorem m_Gr_beginY (l : Launch) {D : va_G} {cy : Nat → ClassId} {sz n : Nat} {ad : Nat → Nat} {mem : Nat → va_E} {lim rc ec : Nat} {wh : Int32} (hn : 224 ≤ n) (hG : GI cy ad lim rc ec wh mem) : MV l D cy sz n ad y_Gr_begin c_Gr_begin 1 ({ frames := 1, cells := 0, slots := 0, locals := 30 } : Room) mem [.ref (ad 5)] (fun mem' => GI cy ad 0 0 0 0 mem' ∧ (∀ i, i < 5 ∨ 222 ≤ i → mem' i = mem i) ∧ mem' 220 = .inr (0, [.ref (ad 221), .int 0]) ∧ ∃ s8 : Nat → Int32, mem' 221 = .inl (cy 0, 240, .inl s8)) := by
  refine Met.ofW (cc := c_Gr_begin) (maxL := 1) (ret := none) (by decide) rfl ?_
  intro p e s m args below meth c s₁ B hml hv
  obtain ⟨rfl, E, hP, hD⟩ := hv
  have hx := B.exec
  have hb := B.bytes
  have hr := B.returns
  have hlocks := B.notSynchronized
  have Bx : MB p s m [.ref (ad 5)].toArray c c_Gr_begin "AbnfChart$Grammar" D cy := ⟨hx, hb, tb_all (atoms_spec B.pre) E.2.1, findClass_of_methodNamed B.named, E.1⟩
  have hS : va_S (Az sz) s.heap s.heap [] := va_S.rf
  have hl := lv_entry ([.ref (ad 5)]) (n := 1) (Nat.le_of_ble_eq_true rfl)
  rw [lg_entry_eq]
  generalize (lg_sl ([.ref (ad 5)]) ++ List.replicate (1 - (lg_sl ([.ref (ad 5)])).length) Slot.unset).toArray = ls at hl ⊢
  have hl : lv_has ls 1 [(0, .ref (ad 5))] := hl
  have h5 := hG.2.1
  obtain ⟨S, g, hSz, h220, h221⟩ := hG.2.2.2.2.2.2
  refine lv_aload_n Bx.1 Bx.2.1 d_Gr_begin_0 rfl (lv_at hl 0 rfl) ?_
  refine f_get Bx hP (by omega) h5 rfl inGr 2 (by decide) kw_118 rfl rfl d_Gr_begin_1 ?_
  refine f_callVi (na := 0) (As := []) (rest := []) Bx hml E hP hD hS (by omega) h220 rfl (m_Ch_empty l (by omega) h220) kw_336 kw_195 kw_196 kw_2 kw_197 (by decide +kernel) ⟨rfl, rfl⟩ ⟨Nat.le_of_ble_eq_true rfl, Nat.le_of_ble_eq_true rfl⟩ rfl hl.1 (Nat.le_of_ble_eq_true rfl) d_Gr_begin_4 ⟨Nat.le_of_ble_eq_true rfl, Nat.le_of_ble_eq_true rfl⟩ (fun r1 mem2 H locs hq hP hS => ?_)
  have hD : va_D (Az sz) (fw n ad mem2) := fw_D hD
  obtain ⟨-, hq⟩ := hq
  have hh3 : mem2 (5) = .inr (3, [.ref (ad 6), .ref (ad 19), .ref (ad 220), .int (nI rc), .int (nI ec), .int (wh)]) := by rw [hq]; (try unfold chM); rw [va_up_ne _ _ (by first | decide | assumption | omega)]; exact h5
  refine lv_pop Bx.1 Bx.2.1 d_Gr_begin_7 rfl ?_
  refine lv_aload_n Bx.1 Bx.2.1 d_Gr_begin_8 rfl (lv_at hl 0 rfl) ?_
  refine lv_iconst (v := 0) Bx.1 Bx.2.1 d_Gr_begin_9 (by decide) ?_
  refine f_put Bx hP hD hS (by omega) hh3 rfl inGr tyGr okGr nmGr 3 (by decide) kw_121 rfl rfl rfl rfl (Nat.le_of_ble_eq_true rfl) d_Gr_begin_10 (fun H locs hP hS => ?_)
  obtain ⟨mem4, e_mem4⟩ : ∃ z, z = va_up mem2 (5) (.inr (3, [.ref (ad 6), .ref (ad 19), .ref (ad 220), .int (0), .int (nI ec), .int (wh)])) := ⟨_, rfl⟩
  have hP : va_P D vcl (fw n ad mem4) H := by rw [e_mem4]; exact hP
  have hD : va_D (Az sz) (fw n ad mem4) := fw_D hD
  have h_mem4 : mem4 (5) = .inr (3, [.ref (ad 6), .ref (ad 19), .ref (ad 220), .int (0), .int (nI ec), .int (wh)]) := by rw [e_mem4, va_up_self]
  refine lv_aload_n Bx.1 Bx.2.1 d_Gr_begin_13 rfl (lv_at hl 0 rfl) ?_
  refine lv_iconst (v := 0) Bx.1 Bx.2.1 d_Gr_begin_14 (by decide) ?_
  refine f_put Bx hP hD hS (by omega) h_mem4 rfl inGr tyGr okGr nmGr 4 (by decide) kw_122 rfl rfl rfl rfl (Nat.le_of_ble_eq_true rfl) d_Gr_begin_15 (fun H locs hP hS => ?_)
  obtain ⟨mem5, e_mem5⟩ : ∃ z, z = va_up mem4 (5) (.inr (3, [.ref (ad 6), .ref (ad 19), .ref (ad 220), .int (0), .int (0), .int (wh)])) := ⟨_, rfl⟩
  have hP : va_P D vcl (fw n ad mem5) H := by rw [e_mem5]; exact hP
  have hD : va_D (Az sz) (fw n ad mem5) := fw_D hD
  have h_mem5 : mem5 (5) = .inr (3, [.ref (ad 6), .ref (ad 19), .ref (ad 220), .int (0), .int (0), .int (wh)]) := by rw [e_mem5, va_up_self]
  refine lv_aload_n Bx.1 Bx.2.1 d_Gr_begin_18 rfl (lv_at hl 0 rfl) ?_
  refine lv_iconst (v := 0) Bx.1 Bx.2.1 d_Gr_begin_19 (by decide) ?_
  refine f_put Bx hP hD hS (by omega) h_mem5 rfl inGr tyGr okGr nmGr 5 (by decide) kw_124 rfl rfl rfl rfl (Nat.le_of_ble_eq_true rfl) d_Gr_begin_20 (fun H locs hP hS => ?_)
  obtain ⟨mem6, e_mem6⟩ : ∃ z, z = va_up mem5 (5) (.inr (3, [.ref (ad 6), .ref (ad 19), .ref (ad 220), .int (0), .int (0), .int (0)])) := ⟨_, rfl⟩
  have hP : va_P D vcl (fw n ad mem6) H := by rw [e_mem6]; exact hP
  have hD : va_D (Az sz) (fw n ad mem6) := fw_D hD
  have h_mem6 : mem6 (5) = .inr (3, [.ref (ad 6), .ref (ad 19), .ref (ad 220), .int (0), .int (0), .int (0)]) := by rw [e_mem6, va_up_self]
  exact W.vret hx hb hr (fun t ht hW => ⟨⟨mem6, rfl, by rw [e_mem6, e_mem5, e_mem4, up_up, up_up, hq]; exact ⟨hG.begin rfl, fun i hi => by rw [va_up_ne _ _ (by omega), va_up_ne _ _ (by omega)], by rw [va_up_ne _ _ (by omega), va_up_self], g, by rw [va_up_ne _ _ (by omega), va_up_ne _ _ (by omega)]; exact h221⟩, by show va_P _ _ _ t.heap; rw [ht]; exact hP⟩, hS.F ht⟩) hS.2.2 d_Gr_begin_23
set_option maxHeartbeats 4000000 in
set_option maxRecDepth 100000 in
theorem m_Rd_readGrammarY (l : Launch) {D : va_G} {cy : Nat → ClassId} {sz n : Nat} {ad : Nat → Nat} {mem : Nat → va_E} {Z lim rc ec : Nat} {f T : Nat → Int32} {A : Ro} {nm : Nat → Int64} {wh at0 ft : Int32} (hlt : l.stackTraces = false) (hn : 224 ≤ n) (hT : TX cy ad Z f mem) (hf : ∀ k, k < Z → f k = T k) (hT0 : ∀ k, k < Z → ¬ T k < 0) (hG : GI cy ad lim rc ec wh mem) (h9 : mem 222 = .inr (4, [.ref (ad 1), .ref (ad 5), .int at0, .int ft])) : NXv l D cy sz n ad y_Rd_readGrammar c_Rd_readGrammar 2 ({ frames := 62, cells := 1, slots := 6, locals := 1560 } : Room) mem [.ref (ad 222)] (fun mem' => (∃ (a' u' R' E' lim' S' : Nat) (A' Bw' : Ro) (fi' la' : Nat → Int32) (nm' : Nat → Int64), RdR T Z (lineF T Z 0) 0 0 0 A nm (some (a', u', R', E', 0, A', nm', false)) ∧ GI cy ad lim' R' E' 1 mem' ∧ NT R' (A' 227) nm' mem' ∧ S' ≤ 240 ∧ ER ad R' E' Bw' mem' ∧ SR cy ad S' Bw' mem' ∧ RC ad R' nm' fi' la' mem' ∧ PI R' E' S' u' A' Bw' fi' la') ∧ (∃ a t : Int32, mem' 222 = .inr (4, [.ref (ad 1), .ref (ad 5), .int a, .int t])) ∧ ∀ i, i < 5 ∨ 223 ≤ i → mem' i = mem i) (fun X mem' => ((X = cIA ∨ X = cIS) ∧ ∃ lim' rc' ec' : Nat, RS cy ad lim' rc' ec' mem mem') ∧ RdR T Z (lineF T Z 0) 0 0 0 A nm none) := by
  refine vx_ofW (cc := c_Rd_readGrammar) (maxL := 2) (ret := none) (by decide) rfl ?_
  intro p e s m args below meth c s₁ B hml hno hv
  obtain ⟨rfl, E, hP, hD⟩ := hv
  have hx := B.exec
  have hb := B.bytes
  have hr := B.returns
  have hlocks := B.notSynchronized
  have Bx : MB p s m [.ref (ad 222)].toArray c c_Rd_readGrammar "AbnfChart$Reader" D cy := ⟨hx, hb, tb_all (atoms_spec B.pre) E.2.1, findClass_of_methodNamed B.named, E.1⟩
  have hS : va_S (Az sz) s.heap s.heap [] := va_S.rf
  have hl := lv_entry ([.ref (ad 222)]) (n := 2) (Nat.le_of_ble_eq_true rfl)
  rw [lg_entry_eq]
  generalize (lg_sl ([.ref (ad 222)]) ++ List.replicate (2 - (lg_sl ([.ref (ad 222)])).length) Slot.unset).toArray = ls at hl ⊢
  have hl : lv_has ls 2 [(0, .ref (ad 222))] := hl
  obtain ⟨m0, em0⟩ : ∃ z, z = mem := ⟨_, rfl⟩
  subst em0
  have hZ9 := hT.2.1
  obtain ⟨a9, rfl⟩ := nI_sur at0
  refine lv_aload_n Bx.1 Bx.2.1 d_Rd_readGrammar_0 rfl (lv_at hl 0 rfl) ?_
  refine f_get Bx hP (by omega) h9 rfl inRd 1 (by decide) kw_145 rfl rfl d_Rd_readGrammar_1 ?_
  refine f_callVv (na := 0) (As := []) (rest := []) Bx hml E hP hD hS (by omega) hG.2.1 rfl (m_Gr_beginY l hn hG) kw_332 kw_333 kw_334 kw_3 kw_335 (by decide +kernel) ⟨rfl, rfl⟩ ⟨Nat.le_of_ble_eq_true rfl, Nat.le_of_ble_eq_true rfl⟩ rfl hl.1 (Nat.le_of_ble_eq_true rfl) d_Rd_readGrammar_4 ⟨Nat.le_of_ble_eq_true rfl, Nat.le_of_ble_eq_true rfl⟩ (fun mem2 H locs hq hP hS => ?_)
  have hD : va_D (Az sz) (fw n ad mem2) := fw_D hD
  obtain ⟨hq1, hq2, hq0, s8, hq8⟩ := hq
  have hRX : RX cy ad 0 a9 0 0 (A 227) nm m0 mem2 := ⟨⟨hq1, ⟨nI a9, ft, (hq2 222 (by omega)).trans h9⟩, fun i hi => hq2 i (by omega)⟩, ⟨ft, (hq2 222 (by omega)).trans h9⟩, fun i hi => by omega⟩
  obtain ⟨ft3, h9_4⟩ := hRX.2.1
  have h1_5 : mem2 1 = .inr (0, [.ref (ad 2), .int (nI Z)]) := (hRX.1.2.2 1 (by omega)).trans hT.1
  have h2_6 : mem2 2 = .inl (cy 0, 240, .inl f) := (hRX.1.2.2 2 (by omega)).trans hT.2.2
  have h5_7 := hRX.1.1.2.1
  have hbd13 := hRX.1.1.1
  obtain ⟨S8, g9, hS_10, h220_11, h221_12⟩ := hRX.1.1.2.2.2.2.2.2
  have hfr14 : ∀ i, i ≠ 222 → mem2 i = mem2 i := fun _ _ => rfl
  refine lv_aload_n Bx.1 Bx.2.1 d_Rd_readGrammar_7 rfl (lv_at hl 0 rfl) ?_
  refine lv_iconst (v := -1) Bx.1 Bx.2.1 d_Rd_readGrammar_8 (by decide) ?_
  refine f_put Bx hP hD hS (by omega) h9_4 rfl inRd tyRd okRd nmRd 3 (by decide) kw_147 rfl rfl rfl rfl (Nat.le_of_ble_eq_true rfl) d_Rd_readGrammar_9 (fun H locs hP hS => ?_)
  obtain ⟨mem15, e_mem15⟩ : ∃ z, z = va_up mem2 (222) (.inr (4, [.ref (ad 1), .ref (ad 5), .int (nI a9), .int ((-1))])) := ⟨_, rfl⟩
  have hP : va_P D vcl (fw n ad mem15) H := by rw [e_mem15]; exact hP
  have hD : va_D (Az sz) (fw n ad mem15) := fw_D hD
  have h_mem15 : mem15 (222) = .inr (4, [.ref (ad 1), .ref (ad 5), .int (nI a9), .int ((-1))]) := by rw [e_mem15, va_up_self]
  have hh16 := (va_up_ne mem2 (.inr (4, [.ref (ad 1), .ref (ad 5), .int (nI a9), .int ((-1))])) (show (1 : Nat) ≠ 222 by first | decide | assumption | omega)).trans h1_5
  rw [← e_mem15] at hh16
  have hh17 := (va_up_ne mem2 (.inr (4, [.ref (ad 1), .ref (ad 5), .int (nI a9), .int ((-1))])) (show (5 : Nat) ≠ 222 by first | decide | assumption | omega)).trans h5_7
  rw [← e_mem15] at hh17
  have hh18 := (va_up_ne mem2 (.inr (4, [.ref (ad 1), .ref (ad 5), .int (nI a9), .int ((-1))])) (show (220 : Nat) ≠ 222 by first | decide | assumption | omega)).trans h220_11
  rw [← e_mem15] at hh18
  have hfr19 : ∀ i, i ≠ 222 → mem15 i = mem2 i := fun i q => (show mem15 i = mem2 i by rw [e_mem15]; exact va_up_ne _ _ (by omega)).trans (hfr14 i q)
  have hRX20 : RX cy ad 0 (a9) (0) (0) (A 227) (nm) m0 mem15 := by rw [e_mem15]; exact hRX.at
  refine lv_aload_n Bx.1 Bx.2.1 d_Rd_readGrammar_12 rfl (lv_at hl 0 rfl) ?_
  refine lv_aload_n Bx.1 Bx.2.1 d_Rd_readGrammar_13 rfl (lv_at hl 0 rfl) ?_
  refine lv_iconst (v := 0) Bx.1 Bx.2.1 d_Rd_readGrammar_14 (by decide) ?_
  refine f_callVi (na := 1) (As := [.int (0)]) (rest := [.ref (ad 222)]) Bx hml E hP hD hS (by omega) h_mem15 rfl (m_Rd_fullLineFromX l hn hT hf hRX20 (k0 := 0) (by omega)) kw_337 kw_339 sel_Rd_fullLineFrom kw_6 kw_340 (by decide +kernel) ⟨rfl, rfl⟩ ⟨Nat.le_of_ble_eq_true rfl, Nat.le_of_ble_eq_true rfl⟩ rfl hl.1 (Nat.le_of_ble_eq_true rfl) d_Rd_readGrammar_15 ⟨Nat.le_of_ble_eq_true rfl, Nat.le_of_ble_eq_true rfl⟩ (fun r22 mem23 H locs hq hP hS => ?_)
  have hD : va_D (Az sz) (fw n ad mem23) := fw_D hD
  obtain ⟨hqe, hfl21⟩ := hq
  rw [hqe] at hP hD
  obtain ⟨li25, ea26⟩ : ∃ z, z = lineF T Z (0) := ⟨_, rfl⟩
  rw [← ea26] at hfl21
  subst hfl21
  have hb27 : li25 ≤ Z := by rw [ea26]; exact lineF_le T Z _
  refine f_put Bx hP hD hS (by omega) h_mem15 rfl inRd tyRd okRd nmRd 2 (by decide) kw_146 rfl rfl rfl rfl (Nat.le_of_ble_eq_true rfl) d_Rd_readGrammar_18 (fun H locs hP hS => ?_)
  obtain ⟨mem28, e_mem28⟩ : ∃ z, z = va_up mem15 (222) (.inr (4, [.ref (ad 1), .ref (ad 5), .int (nI li25), .int ((-1))])) := ⟨_, rfl⟩
  have hP : va_P D vcl (fw n ad mem28) H := by rw [e_mem28]; exact hP
  have hD : va_D (Az sz) (fw n ad mem28) := fw_D hD
  have h_mem28 : mem28 (222) = .inr (4, [.ref (ad 1), .ref (ad 5), .int (nI li25), .int ((-1))]) := by rw [e_mem28, va_up_self]
  have hh29 := (va_up_ne mem15 (.inr (4, [.ref (ad 1), .ref (ad 5), .int (nI li25), .int ((-1))])) (show (1 : Nat) ≠ 222 by first | decide | assumption | omega)).trans hh16
  rw [← e_mem28] at hh29
  have hh30 := (va_up_ne mem15 (.inr (4, [.ref (ad 1), .ref (ad 5), .int (nI li25), .int ((-1))])) (show (5 : Nat) ≠ 222 by first | decide | assumption | omega)).trans hh17
  rw [← e_mem28] at hh30
  have hh31 := (va_up_ne mem15 (.inr (4, [.ref (ad 1), .ref (ad 5), .int (nI li25), .int ((-1))])) (show (220 : Nat) ≠ 222 by first | decide | assumption | omega)).trans hh18
  rw [← e_mem28] at hh31
  have hfr32 : ∀ i, i ≠ 222 → mem28 i = mem2 i := fun i q => (show mem28 i = mem15 i by rw [e_mem28]; exact va_up_ne _ _ (by omega)).trans (hfr19 i q)
  have hRX33 : RX cy ad 0 (li25) (0) (0) (A 227) (nm) m0 mem28 := by rw [e_mem28]; exact hRX20.at
  refine lv_aload_n Bx.1 Bx.2.1 d_Rd_readGrammar_21 rfl (lv_at hl 0 rfl) ?_
  refine f_xVv (na := 0) (As := []) (rest := []) Bx hml E hP hD hS (by omega) h_mem28 rfl (m_Rd_readRuleY l hlt hn hT hf hRX33 (by omega) (u := 0) (S := 0) (A := A) (Bw := fun _ => s8) (fi := fun _ => -1) (la := fun _ => -1) (by omega) hT0 (Nat.zero_le _) (fun k9 hk9 => absurd hk9 (Nat.not_lt_zero _)) ⟨(hfr32 220 (by omega)).trans hq0, (hfr32 221 (by omega)).trans hq8⟩ (fun k9 hk9 => absurd hk9 (Nat.not_lt_zero _)) PI.zero) kw_345 kw_347 sel_Rd_readRule kw_6 kw_348 (by decide +kernel) ⟨rfl, rfl⟩ ⟨Nat.le_of_ble_eq_true rfl, Nat.le_of_ble_eq_true rfl⟩ rfl hl.1 (Nat.le_of_ble_eq_true rfl) d_Rd_readGrammar_22 ⟨Nat.le_of_ble_eq_true rfl, Nat.le_of_ble_eq_true rfl⟩ (fun X ce q9 memx H locs hx9 hP hS g1 g2 g3 => f_out hlocks hno hP hS g1 g2 g3 ⟨Nat.le_of_ble_eq_true rfl, Nat.le_of_ble_eq_true rfl⟩ ⟨hx9.1, hx9.2.elim (fun z => by rw [← ea26]; exact RdR.bad0 z) (fun z => by
      by_cases q9 : ltF (hereF Z T li25) = 0
      · rw [← ea26]; exact RdR.bad0 q9
      · rw [← ea26]; exact RdR.bad q9 z)⟩) (fun mem35 H locs hq hP hS => ?_)
  have hD : va_D (Az sz) (fw n ad mem35) := fw_D hD
  obtain ⟨a2, u2, R2, E2, lim2, S2, A2, B2, f2, l2, n2, hl2, hr2, hb2, hc2, hRX2, hS2, hy2⟩ := hq
  refine lv_iconst (v := 0) Bx.1 Bx.2.1 d_Rd_readGrammar_25 (by decide) ?_
  refine lv_istore_n (lv' := [(1, .int (0)), (0, .ref (ad 222))]) Bx.1 Bx.2.1 d_Rd_readGrammar_26 rfl hl (by decide) rfl (fun ls hl => ?_)
  have hin0 : (¬ (a2 < Z ∧ lineF T Z (a2 + 1) < Z) → RdR T Z (lineF T Z 0) 0 0 0 A nm (some (a2, u2, R2, E2, 0, A2, n2, false))) ∧ ((a2 < Z ∧ lineF T Z (a2 + 1) < Z) → ∀ o, RdR T Z (lineF T Z (a2 + 1)) u2 R2 E2 A2 n2 o → RdR T Z (lineF T Z 0) 0 0 0 A nm o) := by
    rw [← ea26]
    exact ⟨fun z => RdR.last hl2 hr2 z, fun z o h => RdR.more hl2 hr2 z h⟩
  have loop36 : ∀ (d37 : Nat) (mem9 : Nat → va_E) (a1 : Nat) (u1 : Nat) (R1 : Nat) (E1 : Nat) (lim1 : Nat) (S1 : Nat) (k9 : Nat) (A1 : Ro) (B1 : Ro) (fi1 : Nat → Int32) (la1 : Nat → Int32) (n1 : Nat → Int64) (ls : Array Slot) (H : Heap) (locs : List Loc), (240 - k9 < d37) → (RX cy ad lim1 (lineF T Z (a1 + 1)) R1 E1 (A1 227) n1 m0 mem9) → (a1 ≤ Z ∧ k9 < a1 ∧ k9 ≤ 240 ∧ S1 ≤ a1) → ((¬ (a1 < Z ∧ lineF T Z (a1 + 1) < Z) → RdR T Z (lineF T Z 0) 0 0 0 A nm (some (a1, u1, R1, E1, 0, A1, n1, false))) ∧ ((a1 < Z ∧ lineF T Z (a1 + 1) < Z) → ∀ o, RdR T Z (lineF T Z (a1 + 1)) u1 R1 E1 A1 n1 o → RdR T Z (lineF T Z 0) 0 0 0 A nm o)) → (ER ad R1 E1 B1 mem9 ∧ SR cy ad S1 B1 mem9 ∧ RC ad R1 n1 fi1 la1 mem9 ∧ PI R1 E1 S1 u1 A1 B1 fi1 la1) → (va_P D vcl (fw n ad mem9) H) → (va_D (Az sz) (fw n ad mem9)) → (va_S (Az sz) s.heap H locs) → (lv_has ls 2 [(1, .int (nI k9)), (0, .ref (ad 222))]) → W p l e (headSpec (Cond.code y_Rd_readGrammar c_Rd_readGrammar 2 none :: tg) ({ frames := 62, cells := 1, slots := 6, locals := 1560 } : Room)).room s m [.ref (ad 222)].toArray below meth c H locs 0 0 (vx_MQ below (QX (va_Qv (fun mem' => (∃ (a' u' R' E' lim' S' : Nat) (A' Bw' : Ro) (fi' la' : Nat → Int32) (nm' : Nat → Int64), RdR T Z (lineF T Z 0) 0 0 0 A nm (some (a', u', R', E', 0, A', nm', false)) ∧ GI cy ad lim' R' E' 1 mem' ∧ NT R' (A' 227) nm' mem' ∧ S' ≤ 240 ∧ ER ad R' E' Bw' mem' ∧ SR cy ad S' Bw' mem' ∧ RC ad R' nm' fi' la' mem' ∧ PI R' E' S' u' A' Bw' fi' la') ∧ (∃ a t : Int32, mem' 222 = .inr (4, [.ref (ad 1), .ref (ad 5), .int a, .int t])) ∧ ∀ i, i < 5 ∨ 223 ≤ i → mem' i = m0 i) (PP D n ad) (Az sz))) (XQ D sz n ad (fun X mem' => ((X = cIA ∨ X = cIS) ∧ ∃ lim' rc' ec' : Nat, RS cy ad lim' rc' ec' m0 mem') ∧ RdR T Z (lineF T Z 0) 0 0 0 A nm none)) [.ref (ad 222)].toArray s 1 6 (Az sz)) (F0 m 27 ls []) := by
    intro d37
    induction d37 with
    | zero => intro mem9 a1 u1 R1 E1 lim1 S1 k9 A1 B1 fi1 la1 n1 ls H locs hmeas43; exact absurd hmeas43 (Nat.not_lt_zero _)
    | succ d37 ih42 =>
      intro mem9 a1 u1 R1 E1 lim1 S1 k9 A1 B1 fi1 la1 n1 ls H locs hmeas43 hz38 hz39 hz40 hz41 hP hD hS hl
      obtain ⟨p1, ep⟩ : ∃ z, z = lineF T Z (a1 + 1) := ⟨_, rfl⟩
      have hple : p1 ≤ Z := by rw [ep]; exact lineF_le T Z _
      have hpge : a1 < Z → a1 + 1 ≤ p1 := fun q => by rw [ep]; exact lineF_ge T (by omega)
      have hpz : ¬ a1 < Z → p1 = Z := fun q => by rw [ep]; exact lineF_no (by omega)
      have hb9 := hz39
      have hin9 := hz40
      obtain ⟨hy1, hy2, hy3, hy4⟩ := hz41
      rw [← ep] at hin9
      have hRX9 : RX cy ad lim1 p1 R1 E1 (A1 227) n1 m0 mem9 := by rw [ep]; exact hz38
      obtain ⟨ft44, h9_45⟩ := hRX9.2.1
      have h1_46 : mem9 1 = .inr (0, [.ref (ad 2), .int (nI Z)]) := (hRX9.1.2.2 1 (by omega)).trans hT.1
      have h2_47 : mem9 2 = .inl (cy 0, 240, .inl f) := (hRX9.1.2.2 2 (by omega)).trans hT.2.2
      have h5_48 := hRX9.1.1.2.1
      have hbd54 := hRX9.1.1.1
      obtain ⟨S49, g50, hS_51, h220_52, h221_53⟩ := hRX9.1.1.2.2.2.2.2.2
      refine lv_iload_n Bx.1 Bx.2.1 d_Rd_readGrammar_27 rfl (lv_at hl 0 rfl) ?_
      refine lv_sipush (v := 240) Bx.1 Bx.2.1 d_Rd_readGrammar_28 (by decide) ?_
      refine lv_icmp_ge Bx.1 Bx.2.1 d_Rd_readGrammar_31 rfl (fun hb55 => ?_) (fun hb55 => ?_)
      · have hN56 : 240 ≤ k9 := (nI_leI (by omega) (by omega)).mp (show nI (240) ≤ nI (k9) from hb55)
        have hrd9 := hin9.1 (by omega)
        refine lv_aload_n Bx.1 Bx.2.1 d_Rd_readGrammar_58 rfl (lv_at hl 1 rfl) ?_
        refine f_get Bx hP (by omega) h9_45 rfl inRd 1 (by decide) kw_145 rfl rfl d_Rd_readGrammar_59 ?_
        refine f_callVv (na := 0) (As := []) (rest := []) Bx hml E hP hD hS (by omega) h5_48 rfl (m_Gr_endX l hn hRX9.1.1) kw_494 kw_495 kw_496 kw_3 kw_497 (by decide +kernel) ⟨rfl, rfl⟩ ⟨Nat.le_of_ble_eq_true rfl, Nat.le_of_ble_eq_true rfl⟩ rfl hl.1 (Nat.le_of_ble_eq_true rfl) d_Rd_readGrammar_62 ⟨Nat.le_of_ble_eq_true rfl, Nat.le_of_ble_eq_true rfl⟩ (fun mem58 H locs hqe hP hS => ?_)
        have hD : va_D (Az sz) (fw n ad mem58) := fw_D hD
        exact x_vret hx hb hlocks hr (⟨⟨a1, u1, R1, E1, _, S1, A1, B1, fi1, la1, n1, hrd9, hqe.1, hRX9.nt.fr (by omega) (fun i q1 q2 => hqe.2 i (by omega)), by omega, hy1.fr (Nat.le_refl _) (fun k9 hk9 => hqe.2 _ (by omega)), ⟨(hqe.2 220 (by omega)).trans hy2.1, (hqe.2 221 (by omega)).trans hy2.2⟩, fun i9 hi9 => (hqe.2 _ (by omega)).trans (hy3 i9 hi9), hy4⟩, hRX9.1.2.1.elim (fun a q => q.elim (fun t q => ⟨a, t, (hqe.2 222 (by omega)).trans q⟩)), fun i hi => (hqe.2 i (by omega)).trans (hRX9.1.2.2 i hi)⟩) hP hS d_Rd_readGrammar_65
      · have hN59 : ¬ 240 ≤ k9 := fun q9 => hb55 (show nI (240) ≤ nI (k9) from (nI_leI (by omega) (by omega)).mpr q9)
        refine lv_aload_n Bx.1 Bx.2.1 d_Rd_readGrammar_34 rfl (lv_at hl 1 rfl) ?_
        refine f_get Bx hP (by omega) h9_45 rfl inRd 2 (by decide) kw_146 rfl rfl d_Rd_readGrammar_35 ?_
        refine lv_aload_n Bx.1 Bx.2.1 d_Rd_readGrammar_38 rfl (lv_at hl 1 rfl) ?_
        refine f_get Bx hP (by omega) h9_45 rfl inRd 0 (by decide) kw_144 rfl rfl d_Rd_readGrammar_39 ?_
        refine f_getN Bx hP (by omega) h1_46 rfl inCh 1 (by decide) kw_33 rfl rfl d_Rd_readGrammar_42 ?_
        refine lv_icmp_ge Bx.1 Bx.2.1 d_Rd_readGrammar_45 rfl (fun hb60 => ?_) (fun hb60 => ?_)
        · have hN61 : Z ≤ p1 := (nI_leI (by omega) (by omega)).mp (show nI (Z) ≤ nI (p1) from hb60)
          have hrd9 := hin9.1 (by omega)
          refine lv_aload_n Bx.1 Bx.2.1 d_Rd_readGrammar_58 rfl (lv_at hl 1 rfl) ?_
          refine f_get Bx hP (by omega) h9_45 rfl inRd 1 (by decide) kw_145 rfl rfl d_Rd_readGrammar_59 ?_
          refine f_callVv (na := 0) (As := []) (rest := []) Bx hml E hP hD hS (by omega) h5_48 rfl (m_Gr_endX l hn hRX9.1.1) kw_494 kw_495 kw_496 kw_3 kw_497 (by decide +kernel) ⟨rfl, rfl⟩ ⟨Nat.le_of_ble_eq_true rfl, Nat.le_of_ble_eq_true rfl⟩ rfl hl.1 (Nat.le_of_ble_eq_true rfl) d_Rd_readGrammar_62 ⟨Nat.le_of_ble_eq_true rfl, Nat.le_of_ble_eq_true rfl⟩ (fun mem63 H locs hqe hP hS => ?_)
          have hD : va_D (Az sz) (fw n ad mem63) := fw_D hD
          exact x_vret hx hb hlocks hr (⟨⟨a1, u1, R1, E1, _, S1, A1, B1, fi1, la1, n1, hrd9, hqe.1, hRX9.nt.fr (by omega) (fun i q1 q2 => hqe.2 i (by omega)), by omega, hy1.fr (Nat.le_refl _) (fun k9 hk9 => hqe.2 _ (by omega)), ⟨(hqe.2 220 (by omega)).trans hy2.1, (hqe.2 221 (by omega)).trans hy2.2⟩, fun i9 hi9 => (hqe.2 _ (by omega)).trans (hy3 i9 hi9), hy4⟩, hRX9.1.2.1.elim (fun a q => q.elim (fun t q => ⟨a, t, (hqe.2 222 (by omega)).trans q⟩)), fun i hi => (hqe.2 i (by omega)).trans (hRX9.1.2.2 i hi)⟩) hP hS d_Rd_readGrammar_65
        · have hN64 : ¬ Z ≤ p1 := fun q9 => hb60 (show nI (Z) ≤ nI (p1) from (nI_leI (by omega) (by omega)).mpr q9)
          have hcond : a1 < Z ∧ p1 < Z := by omega
          refine lv_aload_n Bx.1 Bx.2.1 d_Rd_readGrammar_48 rfl (lv_at hl 1 rfl) ?_
          refine f_xVv (na := 0) (As := []) (rest := []) Bx hml E hP hD hS (by omega) h9_45 rfl (m_Rd_readRuleY l hlt hn hT hf hRX9 (by omega) (u := u1) (S := S1) (A := A1) (Bw := B1) (fi := fi1) (la := la1) (by omega) hT0 (by omega) hy1 hy2 hy3 hy4) kw_345 kw_347 sel_Rd_readRule kw_6 kw_348 (by decide +kernel) ⟨rfl, rfl⟩ ⟨Nat.le_of_ble_eq_true rfl, Nat.le_of_ble_eq_true rfl⟩ rfl hl.1 (Nat.le_of_ble_eq_true rfl) d_Rd_readGrammar_49 ⟨Nat.le_of_ble_eq_true rfl, Nat.le_of_ble_eq_true rfl⟩ (fun X ce q9 memx H locs hx9 hP hS g1 g2 g3 => f_out hlocks hno hP hS g1 g2 g3 ⟨Nat.le_of_ble_eq_true rfl, Nat.le_of_ble_eq_true rfl⟩ ⟨hx9.1, hin9.2 hcond none (hx9.2.elim (fun z => RdR.bad0 z) (fun z => by
              by_cases q9 : ltF (hereF Z T p1) = 0
              · exact RdR.bad0 q9
              · exact RdR.bad q9 z))⟩) (fun mem66 H locs hq hP hS => ?_)
          have hD : va_D (Az sz) (fw n ad mem66) := fw_D hD
          obtain ⟨a3, u3, R3, E3, lim3, S3, A3, B3, f3, l3, n3, hl3, hr3, hb3, hc3, hRX3, hS3, hy9⟩ := hq
          have hin3 : (¬ (a3 < Z ∧ lineF T Z (a3 + 1) < Z) → RdR T Z (lineF T Z 0) 0 0 0 A nm (some (a3, u3, R3, E3, 0, A3, n3, false))) ∧ ((a3 < Z ∧ lineF T Z (a3 + 1) < Z) → ∀ o, RdR T Z (lineF T Z (a3 + 1)) u3 R3 E3 A3 n3 o → RdR T Z (lineF T Z 0) 0 0 0 A nm o) := ⟨fun z => hin9.2 hcond _ (RdR.last hl3 hr3 z), fun z o h => hin9.2 hcond _ (RdR.more hl3 hr3 z h)⟩
          refine lv_iinc (lv' := [(1, .int ((nI k9 + (1)))), (0, .ref (ad 222))]) Bx.1 Bx.2.1 d_Rd_readGrammar_52 hl (k := 0) rfl rfl (by decide) rfl (fun ls hl => ?_)
          rw [show (nI k9 + (1) : Int32) = nI (k9 + 1) from nI_1 (k9)] at hl
          refine lv_goto Bx.1 Bx.2.1 d_Rd_readGrammar_55 rfl ?_
          exact ih42 mem66 (a3) (u3) (R3) (E3) (lim3) (S3) (k9 + 1) (A3) (B3) (f3) (l3) (n3) _ _ _ (by have := hmeas43; omega) (hRX3) (⟨by omega, by omega, by omega, by omega⟩) (hin3) (hy9) hP hD hS (lv_sub hl [0, 1] rfl)
  exact loop36 _ mem35 (a2) (u2) (R2) (E2) (lim2) (S2) (0) (A2) (B2) (f2) (l2) (n2) _ _ _ (Nat.lt_succ_self _) (hRX2) (⟨by omega, by omega, by omega, by omega⟩) (hin0) (hy2) hP hD hS (lv_sub hl [0, 1] rfl)
set_option maxHeartbeats 4000000 in
set_option maxRecDepth 100000 in
theorem m_Ab_readY (l : Launch) {D : va_G} {cy : Nat → ClassId} {sz n : Nat} {ad : Nat → Nat} {mem : Nat → va_E} {Z lim rc ec : Nat} {f T : Nat → Int32} {A : Ro} {nm : Nat → Int64} {wh at0 ft : Int32} {fl : Int32} (hlt : l.stackTraces = false) (hn : 224 ≤ n) (hT : TX cy ad Z f mem) (hf : ∀ k, k < Z → f k = T k) (hT0 : ∀ k, k < Z → ¬ T k < 0) (hG : GI cy ad lim rc ec wh mem) (h9 : mem 222 = .inr (4, [.ref (ad 1), .ref (ad 5), .int at0, .int ft])) (h0 : mem 0 = .inr (6, [.ref (ad 1), .ref (ad 3), .ref (ad 5), .ref (ad 222), .ref (ad 223)])) (hc : mem 223 = .inr (1, [.ref (ad 3), .ref (ad 5), .int fl])) : NXi l D cy sz n ad y_Ab_read c_Ab_read 1 (some .int) ({ frames := 64, cells := 1, slots := 6, locals := 1620 } : Room) mem [.ref (ad 0)] (fun r mem' => (∃ (a' u' R' E' lim' S' : Nat) (A' Bw' : Ro) (fi' la' : Nat → Int32) (nm' : Nat → Int64), RdR T Z (lineF T Z 0) 0 0 0 A nm (some (a', u', R', E', 0, A', nm', false)) ∧ GI cy ad lim' R' E' 1 mem' ∧ NT R' (A' 227) nm' mem' ∧ S' ≤ 240 ∧ ER ad R' E' Bw' mem' ∧ SR cy ad S' Bw' mem' ∧ RC ad R' nm' fi' la' mem' ∧ PI R' E' S' u' A' Bw' fi' la') ∧ (∃ a t : Int32, mem' 222 = .inr (4, [.ref (ad 1), .ref (ad 5), .int a, .int t])) ∧ mem' 223 = .inr (1, [.ref (ad 3), .ref (ad 5), .int 0]) ∧ ∀ i, i < 5 ∨ 224 ≤ i → mem' i = mem i) (fun X mem' => (X = cIA ∨ X = cIS) ∧ RdR T Z (lineF T Z 0) 0 0 0 A nm none ∧ (∃ lim' rc' ec' : Nat, GI cy ad lim' rc' ec' 0 mem') ∧ (∃ a t : Int32, mem' 222 = .inr (4, [.ref (ad 1), .ref (ad 5), .int a, .int t])) ∧ mem' 223 = .inr (1, [.ref (ad 3), .ref (ad 5), .int 0]) ∧ ∀ i, i < 5 ∨ 224 ≤ i → mem' i = mem i) := by
  refine vx_ofW (cc := c_Ab_read) (maxL := 1) (ret := (some .int)) (by decide) rfl ?_
  intro p e s m args below meth c s₁ B hml hno hv
  obtain ⟨rfl, E, hP, hD⟩ := hv
  have hx := B.exec
  have hb := B.bytes
  have hr := B.returns
  have hlocks := B.notSynchronized
  have Bx : MB p s m [.ref (ad 0)].toArray c c_Ab_read "AbnfChart" D cy := ⟨hx, hb, tb_all (atoms_spec B.pre) E.2.1, findClass_of_methodNamed B.named, E.1⟩
  have hS : va_S (Az sz) s.heap s.heap [] := va_S.rf
  have hl := lv_entry ([.ref (ad 0)]) (n := 1) (Nat.le_of_ble_eq_true rfl)
  rw [lg_entry_eq]
  generalize (lg_sl ([.ref (ad 0)]) ++ List.replicate (1 - (lg_sl ([.ref (ad 0)])).length) Slot.unset).toArray = ls at hl ⊢
  have hl : lv_has ls 1 [(0, .ref (ad 0))] := hl
  refine lv_aload_n Bx.1 Bx.2.1 d_Ab_read_0 rfl (lv_at hl 0 rfl) ?_
  refine f_get Bx hP (by omega) h0 rfl inAb 4 (by decide) kw_178 rfl rfl d_Ab_read_1 ?_
  refine f_callVv (na := 0) (As := []) (rest := []) Bx hml E hP hD hS (by omega) hc rfl (m_Ct_forget l (by omega) hc) kw_206 kw_207 kw_208 kw_7 kw_209 (by decide +kernel) ⟨rfl, rfl⟩ ⟨Nat.le_of_ble_eq_true rfl, Nat.le_of_ble_eq_true rfl⟩ rfl hl.1 (Nat.le_of_ble_eq_true rfl) d_Ab_read_4 ⟨Nat.le_of_ble_eq_true rfl, Nat.le_of_ble_eq_true rfl⟩ (fun mem2 H locs hq hP hS => ?_)
  have hD : va_D (Az sz) (fw n ad mem2) := fw_D hD
  have hG1 : GI cy ad lim rc ec wh mem2 := by rw [hq]; exact hG.upAny (by omega)
  have hT1 : TX cy ad Z f mem2 := by rw [hq]; exact ⟨(va_up_ne _ _ (by omega)).trans hT.1, hT.2.1, (va_up_ne _ _ (by omega)).trans hT.2.2⟩
  have h91 : mem2 222 = .inr (4, [.ref (ad 1), .ref (ad 5), .int at0, .int ft]) := by rw [hq, va_up_ne _ _ (by omega)]; exact h9
  have h01 : mem2 0 = .inr (6, [.ref (ad 1), .ref (ad 3), .ref (ad 5), .ref (ad 222), .ref (ad 223)]) := by rw [hq, va_up_ne _ _ (by omega)]; exact h0
  have hc1 : mem2 223 = .inr (1, [.ref (ad 3), .ref (ad 5), .int 0]) := by rw [hq, va_up_self]
  have hfr : ∀ i, i < 5 ∨ 224 ≤ i → mem2 i = mem i := fun i hi => by rw [hq, va_up_ne _ _ (by omega)]
  refine lv_aload_n Bx.1 Bx.2.1 d_Ab_read_7 rfl (lv_at hl 0 rfl) ?_
  refine f_get Bx hP (by omega) h01 rfl inAb 3 (by decide) kw_177 rfl rfl d_Ab_read_8 ?_
  refine f_xVv (na := 0) (As := []) (rest := []) Bx hml E hP hD hS (by omega) h91 rfl (m_Rd_readGrammarY l hlt hn hT1 hf hT0 hG1 h91 (A := A) (nm := nm)) kw_328 kw_329 kw_330 kw_6 kw_331 (by decide +kernel) ⟨rfl, rfl⟩ ⟨Nat.le_of_ble_eq_true rfl, Nat.le_of_ble_eq_true rfl⟩ rfl hl.1 (Nat.le_of_ble_eq_true rfl) d_Ab_read_11 ⟨Nat.le_of_ble_eq_true rfl, Nat.le_of_ble_eq_true rfl⟩ (fun X ce q9 memx H locs hx9 hP hS g1 g2 g3 => f_out hlocks hno hP hS g1 g2 g3 ⟨Nat.le_of_ble_eq_true rfl, Nat.le_of_ble_eq_true rfl⟩ ⟨hx9.1.1, hx9.2, hx9.1.2.elim (fun a9 q9 => q9.elim (fun b9 q9 => q9.elim (fun c9 q9 => ⟨⟨a9, b9, c9, q9.1⟩, q9.2.1, (q9.2.2 223 (by omega)).trans hc1, fun i hi => (q9.2.2 i (by omega)).trans (hfr i (by omega))⟩)))⟩) (fun mem4 H locs hq2 hP hS => ?_)
  have hD : va_D (Az sz) (fw n ad mem4) := fw_D hD
  obtain ⟨⟨a2, u2, R2, E2, lim2, S2, A2, B2, f2, l2, n2, hrd2, hG2, hnt2⟩, ⟨x2, t2, h92⟩, hf2⟩ := hq2
  have h02 := (hf2 0 (by omega)).trans h01
  have h52 := hG2.2.1
  refine lv_aload_n Bx.1 Bx.2.1 d_Ab_read_14 rfl (lv_at hl 0 rfl) ?_
  refine f_get Bx hP (by omega) h02 rfl inAb 2 (by decide) kw_176 rfl rfl d_Ab_read_15 ?_
  refine f_callVi (na := 0) (As := []) (rest := []) Bx hml E hP hD hS (by omega) h52 rfl (m_Gr_ruleTotal l (by omega) h52) kw_498 kw_499 kw_500 kw_3 kw_501 (by decide +kernel) ⟨rfl, rfl⟩ ⟨Nat.le_of_ble_eq_true rfl, Nat.le_of_ble_eq_true rfl⟩ rfl hl.1 (Nat.le_of_ble_eq_true rfl) d_Ab_read_18 ⟨Nat.le_of_ble_eq_true rfl, Nat.le_of_ble_eq_true rfl⟩ (fun r5 mem6 H locs hq3 hP hS => ?_)
  have hD : va_D (Az sz) (fw n ad mem6) := fw_D hD
  rw [hq3.2] at hP hD
  exact x_iret hx hb hlocks hr (⟨⟨a2, u2, R2, E2, lim2, S2, A2, B2, f2, l2, n2, hrd2, hG2, hnt2⟩, ⟨_, _, h92⟩, (hf2 223 (by omega)).trans hc1, fun i hi => (hf2 i (by omega)).trans (hfr i hi)⟩) hP hS d_Ab_read_21
