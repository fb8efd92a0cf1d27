theorem nI_sur (x : Int32) : ∃ n, x = nI n := ⟨x.toBitVec.toNat, by
  show x = Int32.ofNat _
  apply Int32.toBitVec_inj.mp
  show x.toBitVec = BitVec.ofNat 32 x.toBitVec.toNat
  simp⟩
/-- names and told rules -/
def NT (R : Nat) (to : Nat → Int32) (nm : Nat → Int64) (mem : Nat → va_E) : Prop := ∀ i, i < R → ∃ v w : Value, mem (7 + i) = .inr (5, [.long (nm i), v, w]) ∧ (v = .null ↔ to i < 0)
theorem RX.nt {cy : Nat → ClassId} {ad : Nat → Nat} {lim a R E : Nat} {to : Nat → Int32} {nm : Nat → Int64} {m0 mem : Nat → va_E} (h : RX cy ad lim a R E to nm m0 mem) : NT R to nm mem := fun i hi => by
  obtain ⟨v, w, e, o1, o2⟩ := h.2.2 i hi
  exact ⟨v, w, e, o1⟩
theorem NT.fr {R : Nat} {to : Nat → Int32} {nm : Nat → Int64} {mem mem' : Nat → va_E} (h : NT R to nm mem) (hR : R ≤ 12) (e : ∀ i, 7 ≤ i → i < 19 → mem' i = mem i) : NT R to nm mem' := fun i hi => by
  obtain ⟨v, w, e1, o⟩ := h i hi
  exact ⟨v, w, (e _ (by omega) (by omega)).trans e1, o⟩
/-- the grammar's state, by its numbers, names, told rules -/
def GX (cy : Nat → ClassId) (ad : Nat → Nat) (R E : Nat) (to : Nat → Int32) (nm : Nat → Int64) (mem : Nat → va_E) : Prop := (∃ lim, GI cy ad lim R E 1 mem ∧ NT R to nm mem) ∨ (R = 0 ∧ E = 0 ∧ ∃ lim rc ec, GI cy ad lim rc ec 0 mem)
set_option maxHeartbeats 4000000 in
set_option maxRecDepth 100000 in
theorem m_Gr_endX (l : Launch) {D : va_G} {cy : Nat → ClassId} {sz n : Nat} {ad : Nat → Nat} {mem : Nat → va_E} {lim rc ec : Nat} {wh : Int32} (hn : 224 ≤ n) (hG : GI cy ad lim rc ec wh mem) : MV l D cy sz n ad y_Gr_end c_Gr_end 1 ({ frames := 0, cells := 0, slots := 0, locals := 0 } : Room) mem [.ref (ad 5)] (fun mem' => GI cy ad lim rc ec 1 mem' ∧ ∀ i, i ≠ 5 → mem' i = mem i) := by
  refine Met.ofW (cc := c_Gr_end) (maxL := 1) (ret := none) (by decide) rfl ?_
  intro p e s m args below meth c s₁ B hml hv
  obtain ⟨rfl, E, hP, hD⟩ := hv
  have hx := B.exec
  have hb := B.bytes
  have hr := B.returns
  have hlocks := B.notSynchronized
  have Bx : MB p s m [.ref (ad 5)].toArray c c_Gr_end "AbnfChart$Grammar" D cy := ⟨hx, hb, tb_all (atoms_spec B.pre) E.2.1, findClass_of_methodNamed B.named, E.1⟩
  have hS : va_S (Az sz) s.heap s.heap [] := va_S.rf
  have hl := lv_entry ([.ref (ad 5)]) (n := 1) (Nat.le_of_ble_eq_true rfl)
  rw [lg_entry_eq]
  generalize (lg_sl ([.ref (ad 5)]) ++ List.replicate (1 - (lg_sl ([.ref (ad 5)])).length) Slot.unset).toArray = ls at hl ⊢
  have hl : lv_has ls 1 [(0, .ref (ad 5))] := hl
  have h5 := hG.2.1
  refine lv_aload_n Bx.1 Bx.2.1 d_Gr_end_0 rfl (lv_at hl 0 rfl) ?_
  refine lv_iconst (v := 1) Bx.1 Bx.2.1 d_Gr_end_1 (by decide) ?_
  refine f_put Bx hP hD hS (by omega) h5 rfl inGr tyGr okGr nmGr 5 (by decide) kw_124 rfl rfl rfl rfl (Nat.le_of_ble_eq_true rfl) d_Gr_end_2 (fun H locs hP hS => ?_)
  obtain ⟨mem1, e_mem1⟩ : ∃ z, z = va_up mem (5) (.inr (3, [.ref (ad 6), .ref (ad 19), .ref (ad 220), .int (nI rc), .int (nI ec), .int (1)])) := ⟨_, rfl⟩
  have hP : va_P D vcl (fw n ad mem1) H := by rw [e_mem1]; exact hP
  have hD : va_D (Az sz) (fw n ad mem1) := fw_D hD
  have h_mem1 : mem1 (5) = .inr (3, [.ref (ad 6), .ref (ad 19), .ref (ad 220), .int (nI rc), .int (nI ec), .int (1)]) := by rw [e_mem1, va_up_self]
  exact W.vret hx hb hr (fun t ht hW => ⟨⟨mem1, rfl, by rw [e_mem1]; exact ⟨hG.end1, fun i hi => va_up_ne _ _ hi⟩, by show va_P _ _ _ t.heap; rw [ht]; exact hP⟩, hS.F ht⟩) hS.2.2 d_Gr_end_5
set_option maxHeartbeats 4000000 in
set_option maxRecDepth 100000 in
theorem m_Rd_readGrammarX (l : Launch) {D : va_G} {cy : Nat → ClassId} {sz n : Nat} {ad : Nat → Nat} {mem : Nat → va_E} {Z lim rc ec : Nat} {f T : Nat → Int32} {A : Ro} {nm : Nat → Int64} {wh at0 ft : Int32} (hlt : l.stackTraces = false) (hn : 224 ≤ n) (hT : TX cy ad Z f mem) (hf : ∀ k, k < Z → f k = T k) (hT0 : ∀ k, k < Z → ¬ T k < 0) (hG : GI cy ad lim rc ec wh mem) (h9 : mem 222 = .inr (4, [.ref (ad 1), .ref (ad 5), .int at0, .int ft])) : NXv l D cy sz n ad y_Rd_readGrammar c_Rd_readGrammar 2 ({ frames := 62, cells := 1, slots := 6, locals := 1560 } : Room) mem [.ref (ad 222)] (fun mem' => (∃ (a' u' R' E' lim' : Nat) (A' : Ro) (nm' : Nat → Int64), RdR T Z (lineF T Z 0) 0 0 0 A nm (some (a', u', R', E', 0, A', nm', false)) ∧ GI cy ad lim' R' E' 1 mem' ∧ NT R' (A' 227) nm' mem') ∧ (∃ a t : Int32, mem' 222 = .inr (4, [.ref (ad 1), .ref (ad 5), .int a, .int t])) ∧ ∀ i, i < 5 ∨ 223 ≤ i → mem' i = mem i) (fun X mem' => ((X = cIA ∨ X = cIS) ∧ ∃ lim' rc' ec' : Nat, RS cy ad lim' rc' ec' mem mem') ∧ RdR T Z (lineF T Z 0) 0 0 0 A nm none) := by
  refine vx_ofW (cc := c_Rd_readGrammar) (maxL := 2) (ret := none) (by decide) rfl ?_
  intro p e s m args below meth c s₁ B hml hno hv
  obtain ⟨rfl, E, hP, hD⟩ := hv
  have hx := B.exec
  have hb := B.bytes
  have hr := B.returns
  have hlocks := B.notSynchronized
  have Bx : MB p s m [.ref (ad 222)].toArray c c_Rd_readGrammar "AbnfChart$Reader" D cy := ⟨hx, hb, tb_all (atoms_spec B.pre) E.2.1, findClass_of_methodNamed B.named, E.1⟩
  have hS : va_S (Az sz) s.heap s.heap [] := va_S.rf
  have hl := lv_entry ([.ref (ad 222)]) (n := 2) (Nat.le_of_ble_eq_true rfl)
  rw [lg_entry_eq]
  generalize (lg_sl ([.ref (ad 222)]) ++ List.replicate (2 - (lg_sl ([.ref (ad 222)])).length) Slot.unset).toArray = ls at hl ⊢
  have hl : lv_has ls 2 [(0, .ref (ad 222))] := hl
  obtain ⟨m0, em0⟩ : ∃ z, z = mem := ⟨_, rfl⟩
  subst em0
  have hZ9 := hT.2.1
  obtain ⟨a9, rfl⟩ := nI_sur at0
  refine lv_aload_n Bx.1 Bx.2.1 d_Rd_readGrammar_0 rfl (lv_at hl 0 rfl) ?_
  refine f_get Bx hP (by omega) h9 rfl inRd 1 (by decide) kw_145 rfl rfl d_Rd_readGrammar_1 ?_
  refine f_callVv (na := 0) (As := []) (rest := []) Bx hml E hP hD hS (by omega) hG.2.1 rfl (m_Gr_begin l hn hG) kw_332 kw_333 kw_334 kw_3 kw_335 (by decide +kernel) ⟨rfl, rfl⟩ ⟨Nat.le_of_ble_eq_true rfl, Nat.le_of_ble_eq_true rfl⟩ rfl hl.1 (Nat.le_of_ble_eq_true rfl) d_Rd_readGrammar_4 ⟨Nat.le_of_ble_eq_true rfl, Nat.le_of_ble_eq_true rfl⟩ (fun mem2 H locs hq hP hS => ?_)
  have hD : va_D (Az sz) (fw n ad mem2) := fw_D hD
  have hRX : RX cy ad 0 a9 0 0 (A 227) nm m0 mem2 := ⟨⟨hq.1, ⟨nI a9, ft, (hq.2 222 (by omega)).trans h9⟩, fun i hi => hq.2 i (by omega)⟩, ⟨ft, (hq.2 222 (by omega)).trans h9⟩, fun i hi => by omega⟩
  obtain ⟨ft3, h9_4⟩ := hRX.2.1
  have h1_5 : mem2 1 = .inr (0, [.ref (ad 2), .int (nI Z)]) := (hRX.1.2.2 1 (by omega)).trans hT.1
  have h2_6 : mem2 2 = .inl (cy 0, 240, .inl f) := (hRX.1.2.2 2 (by omega)).trans hT.2.2
  have h5_7 := hRX.1.1.2.1
  have hbd13 := hRX.1.1.1
  obtain ⟨S8, g9, hS_10, h220_11, h221_12⟩ := hRX.1.1.2.2.2.2.2.2
  refine lv_aload_n Bx.1 Bx.2.1 d_Rd_readGrammar_7 rfl (lv_at hl 0 rfl) ?_
  refine lv_iconst (v := -1) Bx.1 Bx.2.1 d_Rd_readGrammar_8 (by decide) ?_
  refine f_put Bx hP hD hS (by omega) h9_4 rfl inRd tyRd okRd nmRd 3 (by decide) kw_147 rfl rfl rfl rfl (Nat.le_of_ble_eq_true rfl) d_Rd_readGrammar_9 (fun H locs hP hS => ?_)
  obtain ⟨mem14, e_mem14⟩ : ∃ z, z = va_up mem2 (222) (.inr (4, [.ref (ad 1), .ref (ad 5), .int (nI a9), .int ((-1))])) := ⟨_, rfl⟩
  have hP : va_P D vcl (fw n ad mem14) H := by rw [e_mem14]; exact hP
  have hD : va_D (Az sz) (fw n ad mem14) := fw_D hD
  have h_mem14 : mem14 (222) = .inr (4, [.ref (ad 1), .ref (ad 5), .int (nI a9), .int ((-1))]) := by rw [e_mem14, va_up_self]
  have hh15 := (va_up_ne mem2 (.inr (4, [.ref (ad 1), .ref (ad 5), .int (nI a9), .int ((-1))])) (show (1 : Nat) ≠ 222 by first | decide | assumption | omega)).trans h1_5
  rw [← e_mem14] at hh15
  have hh16 := (va_up_ne mem2 (.inr (4, [.ref (ad 1), .ref (ad 5), .int (nI a9), .int ((-1))])) (show (5 : Nat) ≠ 222 by first | decide | assumption | omega)).trans h5_7
  rw [← e_mem14] at hh16
  have hh17 := (va_up_ne mem2 (.inr (4, [.ref (ad 1), .ref (ad 5), .int (nI a9), .int ((-1))])) (show (220 : Nat) ≠ 222 by first | decide | assumption | omega)).trans h220_11
  rw [← e_mem14] at hh17
  have hRX18 : RX cy ad 0 (a9) (0) (0) (A 227) (nm) m0 mem14 := by rw [e_mem14]; exact hRX.at
  refine lv_aload_n Bx.1 Bx.2.1 d_Rd_readGrammar_12 rfl (lv_at hl 0 rfl) ?_
  refine lv_aload_n Bx.1 Bx.2.1 d_Rd_readGrammar_13 rfl (lv_at hl 0 rfl) ?_
  refine lv_iconst (v := 0) Bx.1 Bx.2.1 d_Rd_readGrammar_14 (by decide) ?_
  refine f_callVi (na := 1) (As := [.int (0)]) (rest := [.ref (ad 222)]) Bx hml E hP hD hS (by omega) h_mem14 rfl (m_Rd_fullLineFromX l hn hT hf hRX18 (k0 := 0) (by omega)) kw_337 kw_339 sel_Rd_fullLineFrom kw_6 kw_340 (by decide +kernel) ⟨rfl, rfl⟩ ⟨Nat.le_of_ble_eq_true rfl, Nat.le_of_ble_eq_true rfl⟩ rfl hl.1 (Nat.le_of_ble_eq_true rfl) d_Rd_readGrammar_15 ⟨Nat.le_of_ble_eq_true rfl, Nat.le_of_ble_eq_true rfl⟩ (fun r20 mem21 H locs hq hP hS => ?_)
  have hD : va_D (Az sz) (fw n ad mem21) := fw_D hD
  obtain ⟨hqe, hfl19⟩ := hq
  rw [hqe] at hP hD
  obtain ⟨li23, ea24⟩ : ∃ z, z = lineF T Z (0) := ⟨_, rfl⟩
  rw [← ea24] at hfl19
  subst hfl19
  have hb25 : li23 ≤ Z := by rw [ea24]; exact lineF_le T Z _
  refine f_put Bx hP hD hS (by omega) h_mem14 rfl inRd tyRd okRd nmRd 2 (by decide) kw_146 rfl rfl rfl rfl (Nat.le_of_ble_eq_true rfl) d_Rd_readGrammar_18 (fun H locs hP hS => ?_)
  obtain ⟨mem26, e_mem26⟩ : ∃ z, z = va_up mem14 (222) (.inr (4, [.ref (ad 1), .ref (ad 5), .int (nI li23), .int ((-1))])) := ⟨_, rfl⟩
  have hP : va_P D vcl (fw n ad mem26) H := by rw [e_mem26]; exact hP
  have hD : va_D (Az sz) (fw n ad mem26) := fw_D hD
  have h_mem26 : mem26 (222) = .inr (4, [.ref (ad 1), .ref (ad 5), .int (nI li23), .int ((-1))]) := by rw [e_mem26, va_up_self]
  have hh27 := (va_up_ne mem14 (.inr (4, [.ref (ad 1), .ref (ad 5), .int (nI li23), .int ((-1))])) (show (1 : Nat) ≠ 222 by first | decide | assumption | omega)).trans hh15
  rw [← e_mem26] at hh27
  have hh28 := (va_up_ne mem14 (.inr (4, [.ref (ad 1), .ref (ad 5), .int (nI li23), .int ((-1))])) (show (5 : Nat) ≠ 222 by first | decide | assumption | omega)).trans hh16
  rw [← e_mem26] at hh28
  have hh29 := (va_up_ne mem14 (.inr (4, [.ref (ad 1), .ref (ad 5), .int (nI li23), .int ((-1))])) (show (220 : Nat) ≠ 222 by first | decide | assumption | omega)).trans hh17
  rw [← e_mem26] at hh29
  have hRX30 : RX cy ad 0 (li23) (0) (0) (A 227) (nm) m0 mem26 := by rw [e_mem26]; exact hRX18.at
  refine lv_aload_n Bx.1 Bx.2.1 d_Rd_readGrammar_21 rfl (lv_at hl 0 rfl) ?_
  refine f_xVv (na := 0) (As := []) (rest := []) Bx hml E hP hD hS (by omega) h_mem26 rfl (m_Rd_readRuleX l hlt hn hT hf hRX30 (by omega) (u := 0) (A := A) (by omega) hT0) kw_345 kw_347 sel_Rd_readRule kw_6 kw_348 (by decide +kernel) ⟨rfl, rfl⟩ ⟨Nat.le_of_ble_eq_true rfl, Nat.le_of_ble_eq_true rfl⟩ rfl hl.1 (Nat.le_of_ble_eq_true rfl) d_Rd_readGrammar_22 ⟨Nat.le_of_ble_eq_true rfl, Nat.le_of_ble_eq_true rfl⟩ (fun X ce q9 memx H locs hx9 hP hS g1 g2 g3 => f_out hlocks hno hP hS g1 g2 g3 ⟨Nat.le_of_ble_eq_true rfl, Nat.le_of_ble_eq_true rfl⟩ ⟨hx9.1, hx9.2.elim (fun z => by rw [← ea24]; exact RdR.bad0 z) (fun z => by
      by_cases q9 : ltF (hereF Z T li23) = 0
      · rw [← ea24]; exact RdR.bad0 q9
      · rw [← ea24]; exact RdR.bad q9 z)⟩) (fun mem32 H locs hq hP hS => ?_)
  have hD : va_D (Az sz) (fw n ad mem32) := fw_D hD
  obtain ⟨a2, u2, R2, E2, lim2, A2, n2, hl2, hr2, hb2, hc2, hRX2⟩ := hq
  refine lv_iconst (v := 0) Bx.1 Bx.2.1 d_Rd_readGrammar_25 (by decide) ?_
  refine lv_istore_n (lv' := [(1, .int (0)), (0, .ref (ad 222))]) Bx.1 Bx.2.1 d_Rd_readGrammar_26 rfl hl (by decide) rfl (fun ls hl => ?_)
  have hin0 : (¬ (a2 < Z ∧ lineF T Z (a2 + 1) < Z) → RdR T Z (lineF T Z 0) 0 0 0 A nm (some (a2, u2, R2, E2, 0, A2, n2, false))) ∧ ((a2 < Z ∧ lineF T Z (a2 + 1) < Z) → ∀ o, RdR T Z (lineF T Z (a2 + 1)) u2 R2 E2 A2 n2 o → RdR T Z (lineF T Z 0) 0 0 0 A nm o) := by
    rw [← ea24]
    exact ⟨fun z => RdR.last hl2 hr2 z, fun z o h => RdR.more hl2 hr2 z h⟩
  have loop33 : ∀ (d34 : Nat) (mem9 : Nat → va_E) (a1 : Nat) (u1 : Nat) (R1 : Nat) (E1 : Nat) (lim1 : Nat) (k9 : Nat) (A1 : Ro) (n1 : Nat → Int64) (ls : Array Slot) (H : Heap) (locs : List Loc), (240 - k9 < d34) → (RX cy ad lim1 (lineF T Z (a1 + 1)) R1 E1 (A1 227) n1 m0 mem9) → (a1 ≤ Z ∧ k9 < a1 ∧ k9 ≤ 240) → ((¬ (a1 < Z ∧ lineF T Z (a1 + 1) < Z) → RdR T Z (lineF T Z 0) 0 0 0 A nm (some (a1, u1, R1, E1, 0, A1, n1, false))) ∧ ((a1 < Z ∧ lineF T Z (a1 + 1) < Z) → ∀ o, RdR T Z (lineF T Z (a1 + 1)) u1 R1 E1 A1 n1 o → RdR T Z (lineF T Z 0) 0 0 0 A nm o)) → (va_P D vcl (fw n ad mem9) H) → (va_D (Az sz) (fw n ad mem9)) → (va_S (Az sz) s.heap H locs) → (lv_has ls 2 [(1, .int (nI k9)), (0, .ref (ad 222))]) → W p l e (headSpec (Cond.code y_Rd_readGrammar c_Rd_readGrammar 2 none :: tg) ({ frames := 62, cells := 1, slots := 6, locals := 1560 } : Room)).room s m [.ref (ad 222)].toArray below meth c H locs 0 0 (vx_MQ below (QX (va_Qv (fun mem' => (∃ (a' u' R' E' lim' : Nat) (A' : Ro) (nm' : Nat → Int64), RdR T Z (lineF T Z 0) 0 0 0 A nm (some (a', u', R', E', 0, A', nm', false)) ∧ GI cy ad lim' R' E' 1 mem' ∧ NT R' (A' 227) nm' mem') ∧ (∃ a t : Int32, mem' 222 = .inr (4, [.ref (ad 1), .ref (ad 5), .int a, .int t])) ∧ ∀ i, i < 5 ∨ 223 ≤ i → mem' i = m0 i) (PP D n ad) (Az sz))) (XQ D sz n ad (fun X mem' => ((X = cIA ∨ X = cIS) ∧ ∃ lim' rc' ec' : Nat, RS cy ad lim' rc' ec' m0 mem') ∧ RdR T Z (lineF T Z 0) 0 0 0 A nm none)) [.ref (ad 222)].toArray s 1 6 (Az sz)) (F0 m 27 ls []) := by
    intro d34
    induction d34 with
    | zero => intro mem9 a1 u1 R1 E1 lim1 k9 A1 n1 ls H locs hmeas39; exact absurd hmeas39 (Nat.not_lt_zero _)
    | succ d34 ih38 =>
      intro mem9 a1 u1 R1 E1 lim1 k9 A1 n1 ls H locs hmeas39 hz35 hz36 hz37 hP hD hS hl
      obtain ⟨p1, ep⟩ : ∃ z, z = lineF T Z (a1 + 1) := ⟨_, rfl⟩
      have hple : p1 ≤ Z := by rw [ep]; exact lineF_le T Z _
      have hpge : a1 < Z → a1 + 1 ≤ p1 := fun q => by rw [ep]; exact lineF_ge T (by omega)
      have hpz : ¬ a1 < Z → p1 = Z := fun q => by rw [ep]; exact lineF_no (by omega)
      have hb9 := hz36
      have hin9 := hz37
      rw [← ep] at hin9
      have hRX9 : RX cy ad lim1 p1 R1 E1 (A1 227) n1 m0 mem9 := by rw [ep]; exact hz35
      obtain ⟨ft40, h9_41⟩ := hRX9.2.1
      have h1_42 : mem9 1 = .inr (0, [.ref (ad 2), .int (nI Z)]) := (hRX9.1.2.2 1 (by omega)).trans hT.1
      have h2_43 : mem9 2 = .inl (cy 0, 240, .inl f) := (hRX9.1.2.2 2 (by omega)).trans hT.2.2
      have h5_44 := hRX9.1.1.2.1
      have hbd50 := hRX9.1.1.1
      obtain ⟨S45, g46, hS_47, h220_48, h221_49⟩ := hRX9.1.1.2.2.2.2.2.2
      refine lv_iload_n Bx.1 Bx.2.1 d_Rd_readGrammar_27 rfl (lv_at hl 0 rfl) ?_
      refine lv_sipush (v := 240) Bx.1 Bx.2.1 d_Rd_readGrammar_28 (by decide) ?_
      refine lv_icmp_ge Bx.1 Bx.2.1 d_Rd_readGrammar_31 rfl (fun hb51 => ?_) (fun hb51 => ?_)
      · have hN52 : 240 ≤ k9 := (nI_leI (by omega) (by omega)).mp (show nI (240) ≤ nI (k9) from hb51)
        have hrd9 := hin9.1 (by omega)
        refine lv_aload_n Bx.1 Bx.2.1 d_Rd_readGrammar_58 rfl (lv_at hl 1 rfl) ?_
        refine f_get Bx hP (by omega) h9_41 rfl inRd 1 (by decide) kw_145 rfl rfl d_Rd_readGrammar_59 ?_
        refine f_callVv (na := 0) (As := []) (rest := []) Bx hml E hP hD hS (by omega) h5_44 rfl (m_Gr_endX l hn hRX9.1.1) kw_494 kw_495 kw_496 kw_3 kw_497 (by decide +kernel) ⟨rfl, rfl⟩ ⟨Nat.le_of_ble_eq_true rfl, Nat.le_of_ble_eq_true rfl⟩ rfl hl.1 (Nat.le_of_ble_eq_true rfl) d_Rd_readGrammar_62 ⟨Nat.le_of_ble_eq_true rfl, Nat.le_of_ble_eq_true rfl⟩ (fun mem54 H locs hqe hP hS => ?_)
        have hD : va_D (Az sz) (fw n ad mem54) := fw_D hD
        exact x_vret hx hb hlocks hr (⟨⟨a1, u1, R1, E1, _, A1, n1, hrd9, hqe.1, hRX9.nt.fr (by omega) (fun i q1 q2 => hqe.2 i (by omega))⟩, hRX9.1.2.1.elim (fun a q => q.elim (fun t q => ⟨a, t, (hqe.2 222 (by omega)).trans q⟩)), fun i hi => (hqe.2 i (by omega)).trans (hRX9.1.2.2 i hi)⟩) hP hS d_Rd_readGrammar_65
      · have hN55 : ¬ 240 ≤ k9 := fun q9 => hb51 (show nI (240) ≤ nI (k9) from (nI_leI (by omega) (by omega)).mpr q9)
        refine lv_aload_n Bx.1 Bx.2.1 d_Rd_readGrammar_34 rfl (lv_at hl 1 rfl) ?_
        refine f_get Bx hP (by omega) h9_41 rfl inRd 2 (by decide) kw_146 rfl rfl d_Rd_readGrammar_35 ?_
        refine lv_aload_n Bx.1 Bx.2.1 d_Rd_readGrammar_38 rfl (lv_at hl 1 rfl) ?_
        refine f_get Bx hP (by omega) h9_41 rfl inRd 0 (by decide) kw_144 rfl rfl d_Rd_readGrammar_39 ?_
        refine f_getN Bx hP (by omega) h1_42 rfl inCh 1 (by decide) kw_33 rfl rfl d_Rd_readGrammar_42 ?_
        refine lv_icmp_ge Bx.1 Bx.2.1 d_Rd_readGrammar_45 rfl (fun hb56 => ?_) (fun hb56 => ?_)
        · have hN57 : Z ≤ p1 := (nI_leI (by omega) (by omega)).mp (show nI (Z) ≤ nI (p1) from hb56)
          have hrd9 := hin9.1 (by omega)
          refine lv_aload_n Bx.1 Bx.2.1 d_Rd_readGrammar_58 rfl (lv_at hl 1 rfl) ?_
          refine f_get Bx hP (by omega) h9_41 rfl inRd 1 (by decide) kw_145 rfl rfl d_Rd_readGrammar_59 ?_
          refine f_callVv (na := 0) (As := []) (rest := []) Bx hml E hP hD hS (by omega) h5_44 rfl (m_Gr_endX l hn hRX9.1.1) kw_494 kw_495 kw_496 kw_3 kw_497 (by decide +kernel) ⟨rfl, rfl⟩ ⟨Nat.le_of_ble_eq_true rfl, Nat.le_of_ble_eq_true rfl⟩ rfl hl.1 (Nat.le_of_ble_eq_true rfl) d_Rd_readGrammar_62 ⟨Nat.le_of_ble_eq_true rfl, Nat.le_of_ble_eq_true rfl⟩ (fun mem59 H locs hqe hP hS => ?_)
          have hD : va_D (Az sz) (fw n ad mem59) := fw_D hD
          exact x_vret hx hb hlocks hr (⟨⟨a1, u1, R1, E1, _, A1, n1, hrd9, hqe.1, hRX9.nt.fr (by omega) (fun i q1 q2 => hqe.2 i (by omega))⟩, hRX9.1.2.1.elim (fun a q => q.elim (fun t q => ⟨a, t, (hqe.2 222 (by omega)).trans q⟩)), fun i hi => (hqe.2 i (by omega)).trans (hRX9.1.2.2 i hi)⟩) hP hS d_Rd_readGrammar_65
        · have hN60 : ¬ Z ≤ p1 := fun q9 => hb56 (show nI (Z) ≤ nI (p1) from (nI_leI (by omega) (by omega)).mpr q9)
          have hcond : a1 < Z ∧ p1 < Z := by omega
          refine lv_aload_n Bx.1 Bx.2.1 d_Rd_readGrammar_48 rfl (lv_at hl 1 rfl) ?_
          refine f_xVv (na := 0) (As := []) (rest := []) Bx hml E hP hD hS (by omega) h9_41 rfl (m_Rd_readRuleX l hlt hn hT hf hRX9 (by omega) (u := u1) (A := A1) (by omega) hT0) kw_345 kw_347 sel_Rd_readRule kw_6 kw_348 (by decide +kernel) ⟨rfl, rfl⟩ ⟨Nat.le_of_ble_eq_true rfl, Nat.le_of_ble_eq_true rfl⟩ rfl hl.1 (Nat.le_of_ble_eq_true rfl) d_Rd_readGrammar_49 ⟨Nat.le_of_ble_eq_true rfl, Nat.le_of_ble_eq_true rfl⟩ (fun X ce q9 memx H locs hx9 hP hS g1 g2 g3 => f_out hlocks hno hP hS g1 g2 g3 ⟨Nat.le_of_ble_eq_true rfl, Nat.le_of_ble_eq_true rfl⟩ ⟨hx9.1, hin9.2 hcond none (hx9.2.elim (fun z => RdR.bad0 z) (fun z => by
              by_cases q9 : ltF (hereF Z T p1) = 0
              · exact RdR.bad0 q9
              · exact RdR.bad q9 z))⟩) (fun mem62 H locs hq hP hS => ?_)
          have hD : va_D (Az sz) (fw n ad mem62) := fw_D hD
          obtain ⟨a3, u3, R3, E3, lim3, A3, n3, hl3, hr3, hb3, hc3, hRX3⟩ := hq
          have hin3 : (¬ (a3 < Z ∧ lineF T Z (a3 + 1) < Z) → RdR T Z (lineF T Z 0) 0 0 0 A nm (some (a3, u3, R3, E3, 0, A3, n3, false))) ∧ ((a3 < Z ∧ lineF T Z (a3 + 1) < Z) → ∀ o, RdR T Z (lineF T Z (a3 + 1)) u3 R3 E3 A3 n3 o → RdR T Z (lineF T Z 0) 0 0 0 A nm o) := ⟨fun z => hin9.2 hcond _ (RdR.last hl3 hr3 z), fun z o h => hin9.2 hcond _ (RdR.more hl3 hr3 z h)⟩
          refine lv_iinc (lv' := [(1, .int ((nI k9 + (1)))), (0, .ref (ad 222))]) Bx.1 Bx.2.1 d_Rd_readGrammar_52 hl (k := 0) rfl rfl (by decide) rfl (fun ls hl => ?_)
          rw [show (nI k9 + (1) : Int32) = nI (k9 + 1) from nI_1 (k9)] at hl
          refine lv_goto Bx.1 Bx.2.1 d_Rd_readGrammar_55 rfl ?_
          exact ih38 mem62 (a3) (u3) (R3) (E3) (lim3) (k9 + 1) (A3) (n3) _ _ _ (by have := hmeas39; omega) (hRX3) (⟨by omega, by omega, by omega⟩) (hin3) hP hD hS (lv_sub hl [0, 1] rfl)
  exact loop33 _ mem32 (a2) (u2) (R2) (E2) (lim2) (0) (A2) (n2) _ _ _ (Nat.lt_succ_self _) (hRX2) (⟨by omega, by omega, by omega⟩) (hin0) hP hD hS (lv_sub hl [0, 1] rfl)
set_option maxHeartbeats 4000000 in
set_option maxRecDepth 100000 in
theorem m_Ab_readX (l : Launch) {D : va_G} {cy : Nat → ClassId} {sz n : Nat} {ad : Nat → Nat} {mem : Nat → va_E} {Z lim rc ec : Nat} {f T : Nat → Int32} {A : Ro} {nm : Nat → Int64} {wh at0 ft : Int32} {fl : Int32} (hlt : l.stackTraces = false) (hn : 224 ≤ n) (hT : TX cy ad Z f mem) (hf : ∀ k, k < Z → f k = T k) (hT0 : ∀ k, k < Z → ¬ T k < 0) (hG : GI cy ad lim rc ec wh mem) (h9 : mem 222 = .inr (4, [.ref (ad 1), .ref (ad 5), .int at0, .int ft])) (h0 : mem 0 = .inr (6, [.ref (ad 1), .ref (ad 3), .ref (ad 5), .ref (ad 222), .ref (ad 223)])) (hc : mem 223 = .inr (1, [.ref (ad 3), .ref (ad 5), .int fl])) : NXi l D cy sz n ad y_Ab_read c_Ab_read 1 (some .int) ({ frames := 64, cells := 1, slots := 6, locals := 1620 } : Room) mem [.ref (ad 0)] (fun r mem' => (∃ (a' u' R' E' lim' : Nat) (A' : Ro) (nm' : Nat → Int64), RdR T Z (lineF T Z 0) 0 0 0 A nm (some (a', u', R', E', 0, A', nm', false)) ∧ GI cy ad lim' R' E' 1 mem' ∧ NT R' (A' 227) nm' mem') ∧ (∃ a t : Int32, mem' 222 = .inr (4, [.ref (ad 1), .ref (ad 5), .int a, .int t])) ∧ mem' 223 = .inr (1, [.ref (ad 3), .ref (ad 5), .int 0]) ∧ ∀ i, i < 5 ∨ 224 ≤ i → mem' i = mem i) (fun X mem' => (X = cIA ∨ X = cIS) ∧ RdR T Z (lineF T Z 0) 0 0 0 A nm none ∧ (∃ lim' rc' ec' : Nat, GI cy ad lim' rc' ec' 0 mem') ∧ (∃ a t : Int32, mem' 222 = .inr (4, [.ref (ad 1), .ref (ad 5), .int a, .int t])) ∧ mem' 223 = .inr (1, [.ref (ad 3), .ref (ad 5), .int 0]) ∧ ∀ i, i < 5 ∨ 224 ≤ i → mem' i = mem i) := by
  refine vx_ofW (cc := c_Ab_read) (maxL := 1) (ret := (some .int)) (by decide) rfl ?_
  intro p e s m args below meth c s₁ B hml hno hv
  obtain ⟨rfl, E, hP, hD⟩ := hv
  have hx := B.exec
  have hb := B.bytes
  have hr := B.returns
  have hlocks := B.notSynchronized
  have Bx : MB p s m [.ref (ad 0)].toArray c c_Ab_read "AbnfChart" D cy := ⟨hx, hb, tb_all (atoms_spec B.pre) E.2.1, findClass_of_methodNamed B.named, E.1⟩
  have hS : va_S (Az sz) s.heap s.heap [] := va_S.rf
  have hl := lv_entry ([.ref (ad 0)]) (n := 1) (Nat.le_of_ble_eq_true rfl)
  rw [lg_entry_eq]
  generalize (lg_sl ([.ref (ad 0)]) ++ List.replicate (1 - (lg_sl ([.ref (ad 0)])).length) Slot.unset).toArray = ls at hl ⊢
  have hl : lv_has ls 1 [(0, .ref (ad 0))] := hl
  refine lv_aload_n Bx.1 Bx.2.1 d_Ab_read_0 rfl (lv_at hl 0 rfl) ?_
  refine f_get Bx hP (by omega) h0 rfl inAb 4 (by decide) kw_178 rfl rfl d_Ab_read_1 ?_
  refine f_callVv (na := 0) (As := []) (rest := []) Bx hml E hP hD hS (by omega) hc rfl (m_Ct_forget l (by omega) hc) kw_206 kw_207 kw_208 kw_7 kw_209 (by decide +kernel) ⟨rfl, rfl⟩ ⟨Nat.le_of_ble_eq_true rfl, Nat.le_of_ble_eq_true rfl⟩ rfl hl.1 (Nat.le_of_ble_eq_true rfl) d_Ab_read_4 ⟨Nat.le_of_ble_eq_true rfl, Nat.le_of_ble_eq_true rfl⟩ (fun mem2 H locs hq hP hS => ?_)
  have hD : va_D (Az sz) (fw n ad mem2) := fw_D hD
  have hG1 : GI cy ad lim rc ec wh mem2 := by rw [hq]; exact hG.upAny (by omega)
  have hT1 : TX cy ad Z f mem2 := by rw [hq]; exact ⟨(va_up_ne _ _ (by omega)).trans hT.1, hT.2.1, (va_up_ne _ _ (by omega)).trans hT.2.2⟩
  have h91 : mem2 222 = .inr (4, [.ref (ad 1), .ref (ad 5), .int at0, .int ft]) := by rw [hq, va_up_ne _ _ (by omega)]; exact h9
  have h01 : mem2 0 = .inr (6, [.ref (ad 1), .ref (ad 3), .ref (ad 5), .ref (ad 222), .ref (ad 223)]) := by rw [hq, va_up_ne _ _ (by omega)]; exact h0
  have hc1 : mem2 223 = .inr (1, [.ref (ad 3), .ref (ad 5), .int 0]) := by rw [hq, va_up_self]
  have hfr : ∀ i, i < 5 ∨ 224 ≤ i → mem2 i = mem i := fun i hi => by rw [hq, va_up_ne _ _ (by omega)]
  refine lv_aload_n Bx.1 Bx.2.1 d_Ab_read_7 rfl (lv_at hl 0 rfl) ?_
  refine f_get Bx hP (by omega) h01 rfl inAb 3 (by decide) kw_177 rfl rfl d_Ab_read_8 ?_
  refine f_xVv (na := 0) (As := []) (rest := []) Bx hml E hP hD hS (by omega) h91 rfl (m_Rd_readGrammarX l hlt hn hT1 hf hT0 hG1 h91 (A := A) (nm := nm)) kw_328 kw_329 kw_330 kw_6 kw_331 (by decide +kernel) ⟨rfl, rfl⟩ ⟨Nat.le_of_ble_eq_true rfl, Nat.le_of_ble_eq_true rfl⟩ rfl hl.1 (Nat.le_of_ble_eq_true rfl) d_Ab_read_11 ⟨Nat.le_of_ble_eq_true rfl, Nat.le_of_ble_eq_true rfl⟩ (fun X ce q9 memx H locs hx9 hP hS g1 g2 g3 => f_out hlocks hno hP hS g1 g2 g3 ⟨Nat.le_of_ble_eq_true rfl, Nat.le_of_ble_eq_true rfl⟩ ⟨hx9.1.1, hx9.2, hx9.1.2.elim (fun a9 q9 => q9.elim (fun b9 q9 => q9.elim (fun c9 q9 => ⟨⟨a9, b9, c9, q9.1⟩, q9.2.1, (q9.2.2 223 (by omega)).trans hc1, fun i hi => (q9.2.2 i (by omega)).trans (hfr i (by omega))⟩)))⟩) (fun mem4 H locs hq2 hP hS => ?_)
  have hD : va_D (Az sz) (fw n ad mem4) := fw_D hD
  obtain ⟨⟨a2, u2, R2, E2, lim2, A2, n2, hrd2, hG2, hnt2⟩, ⟨x2, t2, h92⟩, hf2⟩ := hq2
  have h02 := (hf2 0 (by omega)).trans h01
  have h52 := hG2.2.1
  refine lv_aload_n Bx.1 Bx.2.1 d_Ab_read_14 rfl (lv_at hl 0 rfl) ?_
  refine f_get Bx hP (by omega) h02 rfl inAb 2 (by decide) kw_176 rfl rfl d_Ab_read_15 ?_
  refine f_callVi (na := 0) (As := []) (rest := []) Bx hml E hP hD hS (by omega) h52 rfl (m_Gr_ruleTotal l (by omega) h52) kw_498 kw_499 kw_500 kw_3 kw_501 (by decide +kernel) ⟨rfl, rfl⟩ ⟨Nat.le_of_ble_eq_true rfl, Nat.le_of_ble_eq_true rfl⟩ rfl hl.1 (Nat.le_of_ble_eq_true rfl) d_Ab_read_18 ⟨Nat.le_of_ble_eq_true rfl, Nat.le_of_ble_eq_true rfl⟩ (fun r5 mem6 H locs hq3 hP hS => ?_)
  have hD : va_D (Az sz) (fw n ad mem6) := fw_D hD
  rw [hq3.2] at hP hD
  exact x_iret hx hb hlocks hr (⟨⟨a2, u2, R2, E2, lim2, A2, n2, hrd2, hG2, hnt2⟩, ⟨_, _, h92⟩, (hf2 223 (by omega)).trans hc1, fun i hi => (hf2 i (by omega)).trans (hfr i hi)⟩) hP hS d_Ab_read_21
set_option maxHeartbeats 4000000 in
set_option maxRecDepth 100000 in
theorem m_Gr_findN (l : Launch) {D : va_G} {cy : Nat → ClassId} {sz n : Nat} {ad : Nat → Nat} {mem : Nat → va_E} {lim rc ec : Nat} {wh : Int32} {to : Nat → Int32} {nm : Nat → Int64} {x : Int64} (hn : 224 ≤ n) (hG : GI cy ad lim rc ec wh mem) (hN : NT rc to nm mem) : MI l D cy sz n ad y_Gr_find c_Gr_find 4 (some .int) ({ frames := 0, cells := 0, slots := 0, locals := 0 } : Room) mem [.ref (ad 5), .long (x)] (fun r mem' => mem' = mem ∧ ((fdF nm x rc = none ∧ r = -1) ∨ ∃ i, fdF nm x rc = some i ∧ i < rc ∧ r = nI i)) := by
  refine Met.ofW (cc := c_Gr_find) (maxL := 4) (ret := (some .int)) (by decide) rfl ?_
  intro p e s m args below meth c s₁ B hml hv
  obtain ⟨rfl, E, hP, hD⟩ := hv
  have hx := B.exec
  have hb := B.bytes
  have hr := B.returns
  have hlocks := B.notSynchronized
  have Bx : MB p s m [.ref (ad 5), .long (x)].toArray c c_Gr_find "AbnfChart$Grammar" D cy := ⟨hx, hb, tb_all (atoms_spec B.pre) E.2.1, findClass_of_methodNamed B.named, E.1⟩
  have hS : va_S (Az sz) s.heap s.heap [] := va_S.rf
  have hl := lv_entry ([.ref (ad 5), .long (x)]) (n := 4) (Nat.le_of_ble_eq_true rfl)
  rw [lg_entry_eq]
  generalize (lg_sl ([.ref (ad 5), .long (x)]) ++ List.replicate (4 - (lg_sl ([.ref (ad 5), .long (x)])).length) Slot.unset).toArray = ls at hl ⊢
  have hl : lv_has ls 4 [(0, .ref (ad 5)), (1, .long (x))] := hl
  have hbd := hG.1
  refine lv_iconst (v := 0) Bx.1 Bx.2.1 d_Gr_find_0 (by decide) ?_
  refine lv_istore_n (lv' := [(3, .int (0)), (0, .ref (ad 5)), (1, .long (x))]) Bx.1 Bx.2.1 d_Gr_find_1 rfl hl (by decide) rfl (fun ls hl => ?_)
  have loop1 : ∀ (d2 : Nat) (j : Nat) (ls : Array Slot) (H : Heap) (locs : List Loc), (rc - j < d2) → (j ≤ rc) → (fdF nm x j = none) → (va_P D vcl (fw n ad mem) H) → (va_D (Az sz) (fw n ad mem)) → (va_S (Az sz) s.heap H locs) → (lv_has ls 4 [(3, .int (nI j)), (0, .ref (ad 5)), (1, .long (x))]) → W p l e (headSpec (Cond.code y_Gr_find c_Gr_find 4 (some .int) :: tg) ({ frames := 0, cells := 0, slots := 0, locals := 0 } : Room)).room s m [.ref (ad 5), .long (x)].toArray below meth c H locs 0 0 (MQ below (va_Qi (fun r mem' => mem' = mem ∧ ((fdF nm x rc = none ∧ r = -1) ∨ ∃ i, fdF nm x rc = some i ∧ i < rc ∧ r = nI i)) (PP D n ad) (Az sz)) [.ref (ad 5), .long (x)].toArray s 0 0 (Az sz)) (F0 m 2 ls []) := by
    intro d2
    induction d2 with
    | zero => intro j ls H locs hmeas6; exact absurd hmeas6 (Nat.not_lt_zero _)
    | succ d2 ih5 =>
      intro j ls H locs hmeas6 hz3 hz4 hP hD hS hl
      refine lv_iload_n Bx.1 Bx.2.1 d_Gr_find_2 rfl (lv_at hl 0 rfl) ?_
      refine lv_aload_n Bx.1 Bx.2.1 d_Gr_find_3 rfl (lv_at hl 1 rfl) ?_
      refine f_get Bx hP (by omega) hG.2.1 rfl inGr 3 (by decide) kw_121 rfl rfl d_Gr_find_4 ?_
      refine lv_icmp_ge Bx.1 Bx.2.1 d_Gr_find_7 rfl (fun hk => ?_) (fun hk => ?_)
      · have hj : j = rc := by
          rcases Nat.lt_or_ge j rc with q | q
          · exact absurd ((nI_leI (by omega) (by omega)).mp hk) (by omega)
          · omega
        have hfR : fdF nm x rc = none := by rw [← hj]; exact hz4
        refine lv_iconst (v := -1) Bx.1 Bx.2.1 d_Gr_find_32 (by decide) ?_
        exact W.iret (v := (-1)) hx hb hr (fun t ht hW => ⟨⟨(-1), mem, rfl, ⟨rfl, Or.inl ⟨hfR, rfl⟩⟩, by show va_P _ _ _ t.heap; rw [ht]; exact hP⟩, hS.F ht⟩) hS.2.2 d_Gr_find_33
      · have hj : j < rc := (nI_ltI (by omega) (by omega)).mp (Int32.not_le.mp hk)
        refine lv_aload_n Bx.1 Bx.2.1 d_Gr_find_10 rfl (lv_at hl 1 rfl) ?_
        refine f_get Bx hP (by omega) hG.2.1 rfl inGr 0 (by decide) kw_113 rfl rfl d_Gr_find_11 ?_
        refine lv_iload_n Bx.1 Bx.2.1 d_Gr_find_14 rfl (lv_at hl 0 rfl) ?_
        refine f_aald (t0 := 5) Bx hP (by omega) hG.2.2.1 rfl j rfl (by omega) (by decide) (q := ad (7 + j)) (by unfold rfA; rw [if_pos (by omega), Nat.one_mul]) d_Gr_find_15 ?_
        obtain ⟨v9, w9, hru, hro⟩ := hN j (by omega)
        refine f_getN Bx hP (by omega) hru rfl inRu 0 (by decide) kw_56 rfl rfl d_Gr_find_16 ?_
        refine lv_lload_n Bx.1 Bx.2.1 d_Gr_find_19 rfl (lv_at hl 2 rfl) ?_
        refine W.lcmp Bx.1 Bx.2.1 d_Gr_find_20 ?_
        refine lv_if_ne Bx.1 Bx.2.1 d_Gr_find_21 rfl (fun h7 => ?_) (fun h7 => ?_)
        · refine lv_iinc (lv' := [(3, .int ((nI j + (1)))), (0, .ref (ad 5)), (1, .long (x))]) Bx.1 Bx.2.1 d_Gr_find_26 hl (k := 0) rfl rfl (by decide) rfl (fun ls hl => ?_)
          refine lv_goto Bx.1 Bx.2.1 d_Gr_find_29 rfl ?_
          exact ih5 (j + 1) _ _ _ (by have := hmeas6; omega) (by omega) (fdF_miss hz4 (fun z => h7 ((lg_cmp_eq _ _).mpr z))) hP hD hS (by rw [nI_succ]; exact (lv_sub hl [0, 1, 2] rfl))
        · have hhit : fdF nm x rc = some j := by
            have := fdF_hit hz4 ((lg_cmp_eq _ _).mp h7) (rc - (j + 1))
            rw [show j + 1 + (rc - (j + 1)) = rc by omega] at this
            exact this
          refine lv_iload_n Bx.1 Bx.2.1 d_Gr_find_24 rfl (lv_at hl 0 rfl) ?_
          exact W.iret (v := nI j) hx hb hr (fun t ht hW => ⟨⟨nI j, mem, rfl, ⟨rfl, Or.inr ⟨j, hhit, by omega, rfl⟩⟩, by show va_P _ _ _ t.heap; rw [ht]; exact hP⟩, hS.F ht⟩) hS.2.2 d_Gr_find_25
  exact loop1 _ (0) _ _ _ (Nat.lt_succ_self _) (by omega) (rfl) hP hD hS (lv_sub hl [0, 1, 2] rfl)
set_option maxHeartbeats 4000000 in
set_option maxRecDepth 100000 in
theorem m_Ab_checkRuleX (l : Launch) {D : va_G} {cy : Nat → ClassId} {sz n : Nat} {ad : Nat → Nat} {mem : Nat → va_E} {lim rc ec : Nat} {wh : Int32} {k : Int32} (hlt : l.stackTraces = false) (hn : 224 ≤ n) (h0 : mem 0 = abC ad) (hG : GI cy ad lim rc ec wh mem) : NXv l D cy sz n ad y_Ab_checkRule c_Ab_checkRule 2 ({ frames := 6, cells := 1, slots := 6, locals := 90 } : Room) mem [.ref (ad 0), .int (k)] (fun mem' => mem' = mem ∧ ¬ k < 0 ∧ k < (if wh = 0 then 0 else nI rc)) (fun X mem' => X = cNS ∧ mem' = mem ∧ ¬ (¬ k < 0 ∧ k < (if wh = 0 then 0 else nI rc))) := by
  refine vx_ofW (cc := c_Ab_checkRule) (maxL := 2) (ret := none) (by decide) rfl ?_
  intro p e s m args below meth c s₁ B hml hno hv
  obtain ⟨rfl, E, hP, hD⟩ := hv
  have hx := B.exec
  have hb := B.bytes
  have hr := B.returns
  have hlocks := B.notSynchronized
  have Bx : MB p s m [.ref (ad 0), .int (k)].toArray c c_Ab_checkRule "AbnfChart" D cy := ⟨hx, hb, tb_all (atoms_spec B.pre) E.2.1, findClass_of_methodNamed B.named, E.1⟩
  have hS : va_S (Az sz) s.heap s.heap [] := va_S.rf
  have hl := lv_entry ([.ref (ad 0), .int (k)]) (n := 2) (Nat.le_of_ble_eq_true rfl)
  rw [lg_entry_eq]
  generalize (lg_sl ([.ref (ad 0), .int (k)]) ++ List.replicate (2 - (lg_sl ([.ref (ad 0), .int (k)])).length) Slot.unset).toArray = ls at hl ⊢
  have hl : lv_has ls 2 [(0, .ref (ad 0)), (1, .int (k))] := hl
  have hbd := hG.1
  refine lv_iload_n Bx.1 Bx.2.1 d_Ab_checkRule_0 rfl (lv_at hl 1 rfl) ?_
  refine lv_if_lt Bx.1 Bx.2.1 d_Ab_checkRule_1 rfl (fun h8 => ?_) (fun h8 => ?_)
  · exact f_throw (rest := []) hlt Bx hml hlocks hno E hP hS (by decide +kernel) kw_515 kw_14 at_Ab_NS hl.1 d_Ab_checkRule_15 d_Ab_checkRule_18 d_Ab_checkRule_19 d_Ab_checkRule_22 ⟨Nat.le_of_ble_eq_true rfl, Nat.le_of_ble_eq_true rfl, Nat.le_of_ble_eq_true rfl, Nat.le_of_ble_eq_true rfl⟩ ⟨Nat.le_of_ble_eq_true rfl, Nat.le_of_ble_eq_true rfl⟩ ⟨rfl, rfl, fun z => z.1 h8⟩
  · refine lv_iload_n Bx.1 Bx.2.1 d_Ab_checkRule_4 rfl (lv_at hl 1 rfl) ?_
    refine lv_aload_n Bx.1 Bx.2.1 d_Ab_checkRule_5 rfl (lv_at hl 0 rfl) ?_
    refine f_get Bx hP (by omega) h0 rfl inAb 2 (by decide) kw_176 rfl rfl d_Ab_checkRule_6 ?_
    refine f_callVi (na := 0) (As := []) (rest := [.int (k)]) Bx hml E hP hD hS (by omega) hG.2.1 rfl (m_Gr_ruleTotal l (by omega) hG.2.1) kw_498 kw_499 kw_500 kw_3 kw_501 (by decide +kernel) ⟨rfl, rfl⟩ ⟨Nat.le_of_ble_eq_true rfl, Nat.le_of_ble_eq_true rfl⟩ rfl hl.1 (Nat.le_of_ble_eq_true rfl) d_Ab_checkRule_9 ⟨Nat.le_of_ble_eq_true rfl, Nat.le_of_ble_eq_true rfl⟩ (fun r1 mem2 H locs hq hP hS => ?_)
    have hD : va_D (Az sz) (fw n ad mem2) := fw_D hD
    obtain ⟨hq0, hq⟩ := hq
    rw [hq] at hP hD
    subst hq0
    refine lv_icmp_lt Bx.1 Bx.2.1 d_Ab_checkRule_12 rfl (fun h7 => ?_) (fun h7 => ?_)
    · exact x_vret hx hb hlocks hr (⟨rfl, h8, h7⟩) hP hS d_Ab_checkRule_23
    · exact f_throw (rest := []) hlt Bx hml hlocks hno E hP hS (by decide +kernel) kw_515 kw_14 at_Ab_NS hl.1 d_Ab_checkRule_15 d_Ab_checkRule_18 d_Ab_checkRule_19 d_Ab_checkRule_22 ⟨Nat.le_of_ble_eq_true rfl, Nat.le_of_ble_eq_true rfl, Nat.le_of_ble_eq_true rfl, Nat.le_of_ble_eq_true rfl⟩ ⟨Nat.le_of_ble_eq_true rfl, Nat.le_of_ble_eq_true rfl⟩ ⟨rfl, rfl, fun z => h7 z.2⟩
set_option maxHeartbeats 4000000 in
set_option maxRecDepth 100000 in
theorem m_Ab_ruleX1 (l : Launch) {D : va_G} {cy : Nat → ClassId} {sz n : Nat} {ad : Nat → Nat} {mem : Nat → va_E} {lim rc ec : Nat} {to : Nat → Int32} {nm : Nat → Int64} {x : Int64} (hlt : l.stackTraces = false) (hn : 224 ≤ n) (h0 : mem 0 = abC ad) (hG : GI cy ad lim rc ec 1 mem) (hN : NT rc to nm mem) : NXi l D cy sz n ad y_Ab_rule c_Ab_rule 4 (some .int) ({ frames := 8, cells := 1, slots := 6, locals := 160 } : Room) mem [.ref (ad 0), .long (x)] (fun r mem' => mem' = mem ∧ ∃ i, fdF nm x rc = some i ∧ r = nI i) (fun X mem' => X = cNS ∧ mem' = mem ∧ fdF nm x rc = none) := by
  refine vx_ofW (cc := c_Ab_rule) (maxL := 4) (ret := (some .int)) (by decide) rfl ?_
  intro p e s m args below meth c s₁ B hml hno hv
  obtain ⟨rfl, E, hP, hD⟩ := hv
  have hx := B.exec
  have hb := B.bytes
  have hr := B.returns
  have hlocks := B.notSynchronized
  have Bx : MB p s m [.ref (ad 0), .long (x)].toArray c c_Ab_rule "AbnfChart" D cy := ⟨hx, hb, tb_all (atoms_spec B.pre) E.2.1, findClass_of_methodNamed B.named, E.1⟩
  have hS : va_S (Az sz) s.heap s.heap [] := va_S.rf
  have hl := lv_entry ([.ref (ad 0), .long (x)]) (n := 4) (Nat.le_of_ble_eq_true rfl)
  rw [lg_entry_eq]
  generalize (lg_sl ([.ref (ad 0), .long (x)]) ++ List.replicate (4 - (lg_sl ([.ref (ad 0), .long (x)])).length) Slot.unset).toArray = ls at hl ⊢
  have hl : lv_has ls 4 [(0, .ref (ad 0)), (1, .long (x))] := hl
  have hbd := hG.1
  refine lv_aload_n Bx.1 Bx.2.1 d_Ab_rule_0 rfl (lv_at hl 0 rfl) ?_
  refine f_get Bx hP (by omega) h0 rfl inAb 2 (by decide) kw_176 rfl rfl d_Ab_rule_1 ?_
  refine lv_lload_n Bx.1 Bx.2.1 d_Ab_rule_4 rfl (lv_at hl 1 rfl) ?_
  refine f_callVi (na := 1) (As := [.long (x)]) (rest := []) Bx hml E hP hD hS (by omega) hG.2.1 rfl (m_Gr_findN l hn hG hN) kw_510 kw_376 kw_377 kw_3 kw_378 (by decide +kernel) ⟨rfl, rfl⟩ ⟨Nat.le_of_ble_eq_true rfl, Nat.le_of_ble_eq_true rfl⟩ rfl hl.1 (Nat.le_of_ble_eq_true rfl) d_Ab_rule_5 ⟨Nat.le_of_ble_eq_true rfl, Nat.le_of_ble_eq_true rfl⟩ (fun r1 mem2 H locs hq hP hS => ?_)
  have hD : va_D (Az sz) (fw n ad mem2) := fw_D hD
  obtain ⟨hqe, hfi⟩ := hq
  rw [hqe] at hP hD
  rcases hfi with ⟨hfn, hre⟩ | ⟨i, hfs, hi, hre⟩
  · subst hre
    refine lv_istore_n (lv' := [(3, .int ((-1))), (0, .ref (ad 0)), (1, .long (x))]) Bx.1 Bx.2.1 d_Ab_rule_8 rfl hl (by decide) rfl (fun ls hl => ?_)
    refine lv_aload_n Bx.1 Bx.2.1 d_Ab_rule_9 rfl (lv_at hl 1 rfl) ?_
    refine lv_iload_n Bx.1 Bx.2.1 d_Ab_rule_10 rfl (lv_at hl 0 rfl) ?_
    refine f_xVv (na := 1) (As := [.int ((-1))]) (rest := []) Bx hml E hP hD hS (by omega) h0 rfl (m_Ab_checkRuleX l hlt hn h0 hG) kw_511 kw_513 sel_Ab_checkRule kw_1 kw_514 (by decide +kernel) ⟨rfl, rfl⟩ ⟨Nat.le_of_ble_eq_true rfl, Nat.le_of_ble_eq_true rfl⟩ rfl hl.1 (Nat.le_of_ble_eq_true rfl) d_Ab_rule_11 ⟨Nat.le_of_ble_eq_true rfl, Nat.le_of_ble_eq_true rfl⟩ (fun X ce q9 memx H locs hx9 hP hS g1 g2 g3 => f_out hlocks hno hP hS g1 g2 g3 ⟨Nat.le_of_ble_eq_true rfl, Nat.le_of_ble_eq_true rfl⟩ ⟨hx9.1, hx9.2.1, hfn⟩) (fun mem4 H locs hq hP hS => ?_)
    have hD : va_D (Az sz) (fw n ad mem4) := fw_D hD
    exact absurd (by decide) hq.2.1
  · subst hre
    refine lv_istore_n (lv' := [(3, .int (nI i)), (0, .ref (ad 0)), (1, .long (x))]) Bx.1 Bx.2.1 d_Ab_rule_8 rfl hl (by decide) rfl (fun ls hl => ?_)
    refine lv_aload_n Bx.1 Bx.2.1 d_Ab_rule_9 rfl (lv_at hl 1 rfl) ?_
    refine lv_iload_n Bx.1 Bx.2.1 d_Ab_rule_10 rfl (lv_at hl 0 rfl) ?_
    refine f_xVv (na := 1) (As := [.int (nI i)]) (rest := []) Bx hml E hP hD hS (by omega) h0 rfl (m_Ab_checkRuleX l hlt hn h0 hG) kw_511 kw_513 sel_Ab_checkRule kw_1 kw_514 (by decide +kernel) ⟨rfl, rfl⟩ ⟨Nat.le_of_ble_eq_true rfl, Nat.le_of_ble_eq_true rfl⟩ rfl hl.1 (Nat.le_of_ble_eq_true rfl) d_Ab_rule_11 ⟨Nat.le_of_ble_eq_true rfl, Nat.le_of_ble_eq_true rfl⟩ (fun X ce q9 memx H locs hx9 hP hS g1 g2 g3 => f_out hlocks hno hP hS g1 g2 g3 ⟨Nat.le_of_ble_eq_true rfl, Nat.le_of_ble_eq_true rfl⟩ ⟨hx9.1, hx9.2.1, absurd (⟨nI_pos (by omega), by rw [if_neg (by decide)]; exact (nI_ltI (by omega) (by omega)).mpr hi⟩) hx9.2.2⟩) (fun mem6 H locs hq hP hS => ?_)
    have hD : va_D (Az sz) (fw n ad mem6) := fw_D hD
    rw [hq.1] at hP hD
    refine lv_iload_n Bx.1 Bx.2.1 d_Ab_rule_14 rfl (lv_at hl 0 rfl) ?_
    exact x_iret hx hb hlocks hr (⟨rfl, i, hfs, rfl⟩) hP hS d_Ab_rule_15
set_option maxHeartbeats 4000000 in
set_option maxRecDepth 100000 in
theorem m_Ab_ruleX0 (l : Launch) {D : va_G} {cy : Nat → ClassId} {sz n : Nat} {ad : Nat → Nat} {mem : Nat → va_E} {lim rc ec : Nat} {to : Nat → Int32} {nm : Nat → Int64} {x : Int64} (hlt : l.stackTraces = false) (hn : 224 ≤ n) (h0 : mem 0 = abC ad) (hG : GI cy ad lim rc ec 0 mem) : NXi l D cy sz n ad y_Ab_rule c_Ab_rule 4 (some .int) ({ frames := 8, cells := 1, slots := 6, locals := 160 } : Room) mem [.ref (ad 0), .long (x)] (fun r mem' => mem' = mem ∧ ∃ i, fdF nm x 0 = some i ∧ r = nI i) (fun X mem' => X = cNS ∧ mem' = mem ∧ fdF nm x 0 = none) := by
  refine vx_ofW (cc := c_Ab_rule) (maxL := 4) (ret := (some .int)) (by decide) rfl ?_
  intro p e s m args below meth c s₁ B hml hno hv
  obtain ⟨rfl, E, hP, hD⟩ := hv
  have hx := B.exec
  have hb := B.bytes
  have hr := B.returns
  have hlocks := B.notSynchronized
  have Bx : MB p s m [.ref (ad 0), .long (x)].toArray c c_Ab_rule "AbnfChart" D cy := ⟨hx, hb, tb_all (atoms_spec B.pre) E.2.1, findClass_of_methodNamed B.named, E.1⟩
  have hS : va_S (Az sz) s.heap s.heap [] := va_S.rf
  have hl := lv_entry ([.ref (ad 0), .long (x)]) (n := 4) (Nat.le_of_ble_eq_true rfl)
  rw [lg_entry_eq]
  generalize (lg_sl ([.ref (ad 0), .long (x)]) ++ List.replicate (4 - (lg_sl ([.ref (ad 0), .long (x)])).length) Slot.unset).toArray = ls at hl ⊢
  have hl : lv_has ls 4 [(0, .ref (ad 0)), (1, .long (x))] := hl
  have hbd := hG.1
  refine lv_aload_n Bx.1 Bx.2.1 d_Ab_rule_0 rfl (lv_at hl 0 rfl) ?_
  refine f_get Bx hP (by omega) h0 rfl inAb 2 (by decide) kw_176 rfl rfl d_Ab_rule_1 ?_
  refine lv_lload_n Bx.1 Bx.2.1 d_Ab_rule_4 rfl (lv_at hl 1 rfl) ?_
  refine f_callVi (na := 1) (As := [.long (x)]) (rest := []) Bx hml E hP hD hS (by omega) hG.2.1 rfl (m_Gr_findG l hn hG) kw_510 kw_376 kw_377 kw_3 kw_378 (by decide +kernel) ⟨rfl, rfl⟩ ⟨Nat.le_of_ble_eq_true rfl, Nat.le_of_ble_eq_true rfl⟩ rfl hl.1 (Nat.le_of_ble_eq_true rfl) d_Ab_rule_5 ⟨Nat.le_of_ble_eq_true rfl, Nat.le_of_ble_eq_true rfl⟩ (fun r1 mem2 H locs hq hP hS => ?_)
  have hD : va_D (Az sz) (fw n ad mem2) := fw_D hD
  rw [hq] at hP hD
  refine lv_istore_n (lv' := [(3, .int (r1)), (0, .ref (ad 0)), (1, .long (x))]) Bx.1 Bx.2.1 d_Ab_rule_8 rfl hl (by decide) rfl (fun ls hl => ?_)
  refine lv_aload_n Bx.1 Bx.2.1 d_Ab_rule_9 rfl (lv_at hl 1 rfl) ?_
  refine lv_iload_n Bx.1 Bx.2.1 d_Ab_rule_10 rfl (lv_at hl 0 rfl) ?_
  refine f_xVv (na := 1) (As := [.int (r1)]) (rest := []) Bx hml E hP hD hS (by omega) h0 rfl (m_Ab_checkRuleX l hlt hn h0 hG) kw_511 kw_513 sel_Ab_checkRule kw_1 kw_514 (by decide +kernel) ⟨rfl, rfl⟩ ⟨Nat.le_of_ble_eq_true rfl, Nat.le_of_ble_eq_true rfl⟩ rfl hl.1 (Nat.le_of_ble_eq_true rfl) d_Ab_rule_11 ⟨Nat.le_of_ble_eq_true rfl, Nat.le_of_ble_eq_true rfl⟩ (fun X ce q9 memx H locs hx9 hP hS g1 g2 g3 => f_out hlocks hno hP hS g1 g2 g3 ⟨Nat.le_of_ble_eq_true rfl, Nat.le_of_ble_eq_true rfl⟩ ⟨hx9.1, hx9.2.1, rfl⟩) (fun mem4 H locs hq hP hS => ?_)
  have hD : va_D (Az sz) (fw n ad mem4) := fw_D hD
  exact absurd (show _ < (0 : Int32) from hq.2.2) hq.2.1
theorem m_Ab_ruleX (l : Launch) {D : va_G} {cy : Nat → ClassId} {sz n : Nat} {ad : Nat → Nat} {mem : Nat → va_E} {R Ec : Nat} {to : Nat → Int32} {nm : Nat → Int64} {x : Int64} (hlt : l.stackTraces = false) (hn : 224 ≤ n) (h0 : mem 0 = abC ad) (hX : GX cy ad R Ec to nm mem) : NXi l D cy sz n ad y_Ab_rule c_Ab_rule 4 (some .int) ({ frames := 8, cells := 1, slots := 6, locals := 160 } : Room) mem [.ref (ad 0), .long (x)] (fun r mem' => mem' = mem ∧ ∃ i, fdF nm x R = some i ∧ r = nI i) (fun X mem' => X = cNS ∧ mem' = mem ∧ fdF nm x R = none) := by
  rcases hX with ⟨lim, hG, hN⟩ | ⟨e1, e2, lim, rc, ec, hG⟩
  · exact m_Ab_ruleX1 l hlt hn h0 hG hN
  · subst e1
    exact m_Ab_ruleX0 l (to := to) hlt hn h0 hG
