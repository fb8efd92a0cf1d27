theorem d_Gr_hasRoomForElement_0 : decode c_Gr_hasRoomForElement 0 = .ok (.aload_n 0, 1) := by decide +kernel
theorem d_Gr_hasRoomForElement_1 : decode c_Gr_hasRoomForElement 1 = .ok (.getfield 38, 3) := by decide +kernel
theorem d_Gr_hasRoomForElement_4 : decode c_Gr_hasRoomForElement 4 = .ok (.bipush 100, 2) := by decide +kernel
theorem d_Gr_hasRoomForElement_6 : decode c_Gr_hasRoomForElement 6 = .ok (.if_icmp .ge 7, 3) := by decide +kernel
theorem d_Gr_hasRoomForElement_9 : decode c_Gr_hasRoomForElement 9 = .ok (.iconst 1, 1) := by decide +kernel
theorem d_Gr_hasRoomForElement_10 : decode c_Gr_hasRoomForElement 10 = .ok (.goto 4, 3) := by decide +kernel
theorem d_Gr_hasRoomForElement_13 : decode c_Gr_hasRoomForElement 13 = .ok (.iconst 0, 1) := by decide +kernel
theorem d_Gr_hasRoomForElement_14 : decode c_Gr_hasRoomForElement 14 = .ok (.ireturn, 1) := by decide +kernel
theorem d_Gr_hasRoomForRule_0 : decode c_Gr_hasRoomForRule 0 = .ok (.aload_n 0, 1) := by decide +kernel
theorem d_Gr_hasRoomForRule_1 : decode c_Gr_hasRoomForRule 1 = .ok (.getfield 34, 3) := by decide +kernel
theorem d_Gr_hasRoomForRule_4 : decode c_Gr_hasRoomForRule 4 = .ok (.bipush 12, 2) := by decide +kernel
theorem d_Gr_hasRoomForRule_6 : decode c_Gr_hasRoomForRule 6 = .ok (.if_icmp .ge 7, 3) := by decide +kernel
theorem d_Gr_hasRoomForRule_9 : decode c_Gr_hasRoomForRule 9 = .ok (.iconst 1, 1) := by decide +kernel
theorem d_Gr_hasRoomForRule_10 : decode c_Gr_hasRoomForRule 10 = .ok (.goto 4, 3) := by decide +kernel
theorem d_Gr_hasRoomForRule_13 : decode c_Gr_hasRoomForRule 13 = .ok (.iconst 0, 1) := by decide +kernel
theorem d_Gr_hasRoomForRule_14 : decode c_Gr_hasRoomForRule 14 = .ok (.ireturn, 1) := by decide +kernel
theorem d_El_begin_0 : decode c_El_begin 0 = .ok (.aload_n 0, 1) := by decide +kernel
theorem d_El_begin_1 : decode c_El_begin 1 = .ok (.iload_n 1, 1) := by decide +kernel
theorem d_El_begin_2 : decode c_El_begin 2 = .ok (.putfield 15, 3) := by decide +kernel
theorem d_El_begin_5 : decode c_El_begin 5 = .ok (.aload_n 0, 1) := by decide +kernel
theorem d_El_begin_6 : decode c_El_begin 6 = .ok (.iconst 0, 1) := by decide +kernel
theorem d_El_begin_7 : decode c_El_begin 7 = .ok (.putfield 19, 3) := by decide +kernel
theorem d_El_begin_10 : decode c_El_begin 10 = .ok (.aload_n 0, 1) := by decide +kernel
theorem d_El_begin_11 : decode c_El_begin 11 = .ok (.iconst 0, 1) := by decide +kernel
theorem d_El_begin_12 : decode c_El_begin 12 = .ok (.putfield 22, 3) := by decide +kernel
theorem d_El_begin_15 : decode c_El_begin 15 = .ok (.aload_n 0, 1) := by decide +kernel
theorem d_El_begin_16 : decode c_El_begin 16 = .ok (.aconst_null, 1) := by decide +kernel
theorem d_El_begin_17 : decode c_El_begin 17 = .ok (.putfield 25, 3) := by decide +kernel
theorem d_El_begin_20 : decode c_El_begin 20 = .ok (.aload_n 0, 1) := by decide +kernel
theorem d_El_begin_21 : decode c_El_begin 21 = .ok (.aconst_null, 1) := by decide +kernel
theorem d_El_begin_22 : decode c_El_begin 22 = .ok (.putfield 29, 3) := by decide +kernel
theorem d_El_begin_25 : decode c_El_begin 25 = .ok (.aload_n 0, 1) := by decide +kernel
theorem d_El_begin_26 : decode c_El_begin 26 = .ok (.aconst_null, 1) := by decide +kernel
theorem d_El_begin_27 : decode c_El_begin 27 = .ok (.putfield 33, 3) := by decide +kernel
theorem d_El_begin_30 : decode c_El_begin 30 = .ok (.return_, 1) := by decide +kernel
theorem d_Gr_addElement_0 : decode c_Gr_addElement 0 = .ok (.aload_n 0, 1) := by decide +kernel
theorem d_Gr_addElement_1 : decode c_Gr_addElement 1 = .ok (.getfield 20, 3) := by decide +kernel
theorem d_Gr_addElement_4 : decode c_Gr_addElement 4 = .ok (.aload_n 0, 1) := by decide +kernel
theorem d_Gr_addElement_5 : decode c_Gr_addElement 5 = .ok (.getfield 38, 3) := by decide +kernel
theorem d_Gr_addElement_8 : decode c_Gr_addElement 8 = .ok (.aaload, 1) := by decide +kernel
theorem d_Gr_addElement_9 : decode c_Gr_addElement 9 = .ok (.astore_n 2, 1) := by decide +kernel
theorem d_Gr_addElement_10 : decode c_Gr_addElement 10 = .ok (.aload_n 0, 1) := by decide +kernel
theorem d_Gr_addElement_11 : decode c_Gr_addElement 11 = .ok (.dup, 1) := by decide +kernel
theorem d_Gr_addElement_12 : decode c_Gr_addElement 12 = .ok (.getfield 38, 3) := by decide +kernel
theorem d_Gr_addElement_15 : decode c_Gr_addElement 15 = .ok (.iconst 1, 1) := by decide +kernel
theorem d_Gr_addElement_16 : decode c_Gr_addElement 16 = .ok (.iadd, 1) := by decide +kernel
theorem d_Gr_addElement_17 : decode c_Gr_addElement 17 = .ok (.putfield 38, 3) := by decide +kernel
theorem d_Gr_addElement_20 : decode c_Gr_addElement 20 = .ok (.aload_n 2, 1) := by decide +kernel
theorem d_Gr_addElement_21 : decode c_Gr_addElement 21 = .ok (.iload_n 1, 1) := by decide +kernel
theorem d_Gr_addElement_22 : decode c_Gr_addElement 22 = .ok (.invokevirtual 64, 3) := by decide +kernel
theorem d_Gr_addElement_25 : decode c_Gr_addElement 25 = .ok (.aload_n 2, 1) := by decide +kernel
theorem d_Gr_addElement_26 : decode c_Gr_addElement 26 = .ok (.areturn, 1) := by decide +kernel
theorem d_Rd_addElement_0 : decode c_Rd_addElement 0 = .ok (.aload_n 0, 1) := by decide +kernel
theorem d_Rd_addElement_1 : decode c_Rd_addElement 1 = .ok (.aload_n 0, 1) := by decide +kernel
theorem d_Rd_addElement_2 : decode c_Rd_addElement 2 = .ok (.getfield 15, 3) := by decide +kernel
theorem d_Rd_addElement_5 : decode c_Rd_addElement 5 = .ok (.invokevirtual 196, 3) := by decide +kernel
theorem d_Rd_addElement_8 : decode c_Rd_addElement 8 = .ok (.iload_n 2, 1) := by decide +kernel
theorem d_Rd_addElement_9 : decode c_Rd_addElement 9 = .ok (.invokevirtual 148, 3) := by decide +kernel
theorem d_Rd_addElement_12 : decode c_Rd_addElement 12 = .ok (.aload_n 0, 1) := by decide +kernel
theorem d_Rd_addElement_13 : decode c_Rd_addElement 13 = .ok (.getfield 15, 3) := by decide +kernel
theorem d_Rd_addElement_16 : decode c_Rd_addElement 16 = .ok (.iload_n 1, 1) := by decide +kernel
theorem d_Rd_addElement_17 : decode c_Rd_addElement 17 = .ok (.invokevirtual 199, 3) := by decide +kernel
theorem d_Rd_addElement_20 : decode c_Rd_addElement 20 = .ok (.areturn, 1) := by decide +kernel
theorem d_Ru_begin_0 : decode c_Ru_begin 0 = .ok (.aload_n 0, 1) := by decide +kernel
theorem d_Ru_begin_1 : decode c_Ru_begin 1 = .ok (.lload_n 1, 1) := by decide +kernel
theorem d_Ru_begin_2 : decode c_Ru_begin 2 = .ok (.putfield 7, 3) := by decide +kernel
theorem d_Ru_begin_5 : decode c_Ru_begin 5 = .ok (.aload_n 0, 1) := by decide +kernel
theorem d_Ru_begin_6 : decode c_Ru_begin 6 = .ok (.aconst_null, 1) := by decide +kernel
theorem d_Ru_begin_7 : decode c_Ru_begin 7 = .ok (.putfield 13, 3) := by decide +kernel
theorem d_Ru_begin_10 : decode c_Ru_begin 10 = .ok (.aload_n 0, 1) := by decide +kernel
theorem d_Ru_begin_11 : decode c_Ru_begin 11 = .ok (.aconst_null, 1) := by decide +kernel
theorem d_Ru_begin_12 : decode c_Ru_begin 12 = .ok (.putfield 17, 3) := by decide +kernel
theorem d_Ru_begin_15 : decode c_Ru_begin 15 = .ok (.return_, 1) := by decide +kernel
theorem d_Gr_addRule_0 : decode c_Gr_addRule 0 = .ok (.aload_n 0, 1) := by decide +kernel
theorem d_Gr_addRule_1 : decode c_Gr_addRule 1 = .ok (.getfield 11, 3) := by decide +kernel
theorem d_Gr_addRule_4 : decode c_Gr_addRule 4 = .ok (.aload_n 0, 1) := by decide +kernel
theorem d_Gr_addRule_5 : decode c_Gr_addRule 5 = .ok (.getfield 34, 3) := by decide +kernel
theorem d_Gr_addRule_8 : decode c_Gr_addRule 8 = .ok (.aaload, 1) := by decide +kernel
theorem d_Gr_addRule_9 : decode c_Gr_addRule 9 = .ok (.astore_n 3, 1) := by decide +kernel
theorem d_Gr_addRule_10 : decode c_Gr_addRule 10 = .ok (.aload_n 0, 1) := by decide +kernel
theorem d_Gr_addRule_11 : decode c_Gr_addRule 11 = .ok (.dup, 1) := by decide +kernel
theorem d_Gr_addRule_12 : decode c_Gr_addRule 12 = .ok (.getfield 34, 3) := by decide +kernel
theorem d_Gr_addRule_15 : decode c_Gr_addRule 15 = .ok (.iconst 1, 1) := by decide +kernel
theorem d_Gr_addRule_16 : decode c_Gr_addRule 16 = .ok (.iadd, 1) := by decide +kernel
theorem d_Gr_addRule_17 : decode c_Gr_addRule 17 = .ok (.putfield 34, 3) := by decide +kernel
theorem d_Gr_addRule_20 : decode c_Gr_addRule 20 = .ok (.aload_n 3, 1) := by decide +kernel
theorem d_Gr_addRule_21 : decode c_Gr_addRule 21 = .ok (.lload_n 1, 1) := by decide +kernel
theorem d_Gr_addRule_22 : decode c_Gr_addRule 22 = .ok (.invokevirtual 60, 3) := by decide +kernel
theorem d_Gr_addRule_25 : decode c_Gr_addRule 25 = .ok (.aload_n 3, 1) := by decide +kernel
theorem d_Gr_addRule_26 : decode c_Gr_addRule 26 = .ok (.areturn, 1) := by decide +kernel
theorem RS.addE {cy : Nat → ClassId} {ad : Nat → Nat} {lim rc ec : Nat} {mem m0 : Nat → va_E} (h : RS cy ad lim rc ec m0 mem) (hec : ec < 100) (kd : Int32) : RS cy ad lim rc (ec + 1) m0 (va_up (va_up mem 5 (.inr (3, [.ref (ad 6), .ref (ad 19), .ref (ad 220), .int (nI rc), .int (nI (ec + 1)), .int 0]))) (20 + 2 * ec) (.inr (2, [.int kd, .int 0, .int 0, .null, .null, .null, .ref (ad (21 + 2 * ec))]))) := by
  have hA := h.1.upEl (k := ec) hec (a := kd) (b := 0) (c := 0) (q := .null) (v := .null) (w := .null) (fun q => absurd q (Nat.lt_irrefl _))
  have hB := hA.up5 (rc' := rc) (ec' := ec + 1) (wh' := 0) ⟨h.1.1.1, by omega, by have := h.1.1; omega⟩ (fun i hi hir => by
    obtain ⟨nm, v, w, e, o⟩ := hA.2.2.2.2.1 i hi
    exact ⟨nm, v, w, e, (o hir).1.mono (by omega) (by omega), (o hir).2.mono (by omega) (by omega)⟩) (fun k hk hke => by
    by_cases hk2 : k = ec
    · subst hk2
      exact ⟨kd, 0, 0, .null, .null, .null, va_up_self _ _ _, Or.inl rfl, Or.inl rfl, Or.inl rfl⟩
    · obtain ⟨a, b, c, q, v, w, e, o⟩ := (hA.2.2.2.2.2.1 k hk).1
      have o := o (by omega)
      exact ⟨a, b, c, q, v, w, e, o.1, o.2.1.mono (by omega) (by omega), o.2.2.mono (by omega) (by omega)⟩)
  rw [up_sw _ _ _ (by omega)]
  obtain ⟨a, t, e⟩ := h.2.1
  exact ⟨hB, ⟨a, t, by rw [va_up_ne _ _ (by omega), va_up_ne _ _ (by omega)]; exact e⟩, fun i hi => by rw [va_up_ne _ _ (by omega), va_up_ne _ _ (by omega)]; exact h.2.2 i hi⟩
theorem RS.addR {cy : Nat → ClassId} {ad : Nat → Nat} {lim rc ec : Nat} {mem m0 : Nat → va_E} (h : RS cy ad lim rc ec m0 mem) (hrc : rc < 12) (nm : Int64) : RS cy ad lim (rc + 1) ec m0 (va_up (va_up mem 5 (.inr (3, [.ref (ad 6), .ref (ad 19), .ref (ad 220), .int (nI (rc + 1)), .int (nI ec), .int 0]))) (7 + rc) (.inr (5, [.long nm, .null, .null]))) := by
  have hA := h.1.upRu (k := rc) hrc (nm := nm) (v := .null) (w := .null) (fun q => absurd q (Nat.lt_irrefl _))
  have hB := hA.up5 (rc' := rc + 1) (ec' := ec) (wh' := 0) ⟨by omega, h.1.1.2⟩ (fun i hi hir => by
    by_cases hk2 : i = rc
    · subst hk2
      exact ⟨nm, .null, .null, va_up_self _ _ _, Or.inl rfl, Or.inl rfl⟩
    · obtain ⟨nm, v, w, e, o⟩ := hA.2.2.2.2.1 i hi
      exact ⟨nm, v, w, e, o (by omega)⟩) (fun k hk hke => by
    obtain ⟨a, b, c, q, v, w, e, o⟩ := (hA.2.2.2.2.2.1 k hk).1
    exact ⟨a, b, c, q, v, w, e, (o hke).1.mono (by omega), (o hke).2⟩)
  rw [up_sw _ _ _ (by omega)]
  obtain ⟨a, t, e⟩ := h.2.1
  exact ⟨hB, ⟨a, t, by rw [va_up_ne _ _ (by omega), va_up_ne _ _ (by omega)]; exact e⟩, fun i hi => by rw [va_up_ne _ _ (by omega), va_up_ne _ _ (by omega)]; exact h.2.2 i hi⟩
set_option maxHeartbeats 4000000 in
set_option maxRecDepth 100000 in
theorem m_Gr_hasRoomForElement (l : Launch) {D : va_G} {cy : Nat → ClassId} {sz n : Nat} {ad : Nat → Nat} {mem : Nat → va_E} {Z : Nat} {f : Nat → Int32} {lim rc ec : Nat} {m0 : Nat → va_E} (hn : 224 ≤ n) (hT : TX cy ad Z f m0) (hRS : RS cy ad lim rc ec m0 mem) : MI l D cy sz n ad y_Gr_hasRoomForElement c_Gr_hasRoomForElement 1 (some .boolean) ({ frames := 0, cells := 0, slots := 0, locals := 0 } : Room) mem [.ref (ad 5)] (fun r mem' => mem' = mem ∧ (r ≠ 0 → ec < 100)) := by
  refine Met.ofW (cc := c_Gr_hasRoomForElement) (maxL := 1) (ret := (some .boolean)) (by decide) rfl ?_
  intro p e s m args below meth c s₁ B hml hv
  obtain ⟨rfl, E, hP, hD⟩ := hv
  have hx := B.exec
  have hb := B.bytes
  have hr := B.returns
  have hlocks := B.notSynchronized
  have Bx : MB p s m [.ref (ad 5)].toArray c c_Gr_hasRoomForElement "AbnfChart$Grammar" D cy := ⟨hx, hb, tb_all (atoms_spec B.pre) E.2.1, findClass_of_methodNamed B.named, E.1⟩
  have hS : va_S (Az sz) s.heap s.heap [] := va_S.rf
  have hl := lv_entry ([.ref (ad 5)]) (n := 1) (Nat.le_of_ble_eq_true rfl)
  rw [lg_entry_eq]
  generalize (lg_sl ([.ref (ad 5)]) ++ List.replicate (1 - (lg_sl ([.ref (ad 5)])).length) Slot.unset).toArray = ls at hl ⊢
  have hl : lv_has ls 1 [(0, .ref (ad 5))] := hl
  obtain ⟨at1, ft2, h9_3⟩ := hRS.2.1
  have h1_4 : mem 1 = .inr (0, [.ref (ad 2), .int (nI Z)]) := (hRS.2.2 1 (by omega)).trans hT.1
  have h2_5 : mem 2 = .inl (cy 0, 240, .inl f) := (hRS.2.2 2 (by omega)).trans hT.2.2
  have h5_6 := hRS.1.2.1
  have hbd12 := hRS.1.1
  obtain ⟨S7, g8, hS_9, h220_10, h221_11⟩ := hRS.1.2.2.2.2.2.2
  refine lv_aload_n Bx.1 Bx.2.1 d_Gr_hasRoomForElement_0 rfl (lv_at hl 0 rfl) ?_
  refine f_get Bx hP (by omega) h5_6 rfl inGr 4 (by decide) kw_122 rfl rfl d_Gr_hasRoomForElement_1 ?_
  refine lv_bipush (v := 100) Bx.1 Bx.2.1 d_Gr_hasRoomForElement_4 (by decide) ?_
  refine lv_icmp_ge Bx.1 Bx.2.1 d_Gr_hasRoomForElement_6 rfl (fun h => ?_) (fun h => ?_)
  · refine lv_iconst (v := 0) Bx.1 Bx.2.1 d_Gr_hasRoomForElement_13 (by decide) ?_
    exact W.zret (v := 0) hx hb hr rfl (fun t ht hW => ⟨⟨0, mem, rfl, ⟨rfl, fun q => absurd rfl q⟩, by show va_P _ _ _ t.heap; rw [ht]; exact hP⟩, hS.F ht⟩) hS.2.2 d_Gr_hasRoomForElement_14
  · have hlt9 : ec < 100 := by
      rcases Nat.lt_or_ge ec 100 with q | q
      · exact q
      · exact absurd (nI_le (a := 100) q (by have := hRS.1.1; omega)) h
    refine lv_iconst (v := 1) Bx.1 Bx.2.1 d_Gr_hasRoomForElement_9 (by decide) ?_
    refine lv_goto Bx.1 Bx.2.1 d_Gr_hasRoomForElement_10 rfl ?_
    exact W.zret (v := 1) hx hb hr rfl (fun t ht hW => ⟨⟨1, mem, rfl, ⟨rfl, fun _ => hlt9⟩, by show va_P _ _ _ t.heap; rw [ht]; exact hP⟩, hS.F ht⟩) hS.2.2 d_Gr_hasRoomForElement_14
set_option maxHeartbeats 4000000 in
set_option maxRecDepth 100000 in
theorem m_Gr_hasRoomForRule (l : Launch) {D : va_G} {cy : Nat → ClassId} {sz n : Nat} {ad : Nat → Nat} {mem : Nat → va_E} {Z : Nat} {f : Nat → Int32} {lim rc ec : Nat} {m0 : Nat → va_E} (hn : 224 ≤ n) (hT : TX cy ad Z f m0) (hRS : RS cy ad lim rc ec m0 mem) : MI l D cy sz n ad y_Gr_hasRoomForRule c_Gr_hasRoomForRule 1 (some .boolean) ({ frames := 0, cells := 0, slots := 0, locals := 0 } : Room) mem [.ref (ad 5)] (fun r mem' => mem' = mem ∧ (r ≠ 0 → rc < 12)) := by
  refine Met.ofW (cc := c_Gr_hasRoomForRule) (maxL := 1) (ret := (some .boolean)) (by decide) rfl ?_
  intro p e s m args below meth c s₁ B hml hv
  obtain ⟨rfl, E, hP, hD⟩ := hv
  have hx := B.exec
  have hb := B.bytes
  have hr := B.returns
  have hlocks := B.notSynchronized
  have Bx : MB p s m [.ref (ad 5)].toArray c c_Gr_hasRoomForRule "AbnfChart$Grammar" D cy := ⟨hx, hb, tb_all (atoms_spec B.pre) E.2.1, findClass_of_methodNamed B.named, E.1⟩
  have hS : va_S (Az sz) s.heap s.heap [] := va_S.rf
  have hl := lv_entry ([.ref (ad 5)]) (n := 1) (Nat.le_of_ble_eq_true rfl)
  rw [lg_entry_eq]
  generalize (lg_sl ([.ref (ad 5)]) ++ List.replicate (1 - (lg_sl ([.ref (ad 5)])).length) Slot.unset).toArray = ls at hl ⊢
  have hl : lv_has ls 1 [(0, .ref (ad 5))] := hl
  obtain ⟨at1, ft2, h9_3⟩ := hRS.2.1
  have h1_4 : mem 1 = .inr (0, [.ref (ad 2), .int (nI Z)]) := (hRS.2.2 1 (by omega)).trans hT.1
  have h2_5 : mem 2 = .inl (cy 0, 240, .inl f) := (hRS.2.2 2 (by omega)).trans hT.2.2
  have h5_6 := hRS.1.2.1
  have hbd12 := hRS.1.1
  obtain ⟨S7, g8, hS_9, h220_10, h221_11⟩ := hRS.1.2.2.2.2.2.2
  refine lv_aload_n Bx.1 Bx.2.1 d_Gr_hasRoomForRule_0 rfl (lv_at hl 0 rfl) ?_
  refine f_get Bx hP (by omega) h5_6 rfl inGr 3 (by decide) kw_121 rfl rfl d_Gr_hasRoomForRule_1 ?_
  refine lv_bipush (v := 12) Bx.1 Bx.2.1 d_Gr_hasRoomForRule_4 (by decide) ?_
  refine lv_icmp_ge Bx.1 Bx.2.1 d_Gr_hasRoomForRule_6 rfl (fun h => ?_) (fun h => ?_)
  · refine lv_iconst (v := 0) Bx.1 Bx.2.1 d_Gr_hasRoomForRule_13 (by decide) ?_
    exact W.zret (v := 0) hx hb hr rfl (fun t ht hW => ⟨⟨0, mem, rfl, ⟨rfl, fun q => absurd rfl q⟩, by show va_P _ _ _ t.heap; rw [ht]; exact hP⟩, hS.F ht⟩) hS.2.2 d_Gr_hasRoomForRule_14
  · have hlt9 : rc < 12 := by
      rcases Nat.lt_or_ge rc 12 with q | q
      · exact q
      · exact absurd (nI_le (a := 12) q (by have := hRS.1.1; omega)) h
    refine lv_iconst (v := 1) Bx.1 Bx.2.1 d_Gr_hasRoomForRule_9 (by decide) ?_
    refine lv_goto Bx.1 Bx.2.1 d_Gr_hasRoomForRule_10 rfl ?_
    exact W.zret (v := 1) hx hb hr rfl (fun t ht hW => ⟨⟨1, mem, rfl, ⟨rfl, fun _ => hlt9⟩, by show va_P _ _ _ t.heap; rw [ht]; exact hP⟩, hS.F ht⟩) hS.2.2 d_Gr_hasRoomForRule_14
set_option maxHeartbeats 4000000 in
set_option maxRecDepth 100000 in
theorem m_El_begin (l : Launch) {D : va_G} {cy : Nat → ClassId} {sz n : Nat} {ad : Nat → Nat} {mem : Nat → va_E} {k : Nat} {kd a b d : Int32} {q v w : Value} (hk : 20 + 2 * k < n) (h : mem (20 + 2 * k) = .inr (2, [.int a, .int b, .int d, q, v, w, .ref (ad (21 + 2 * k))])) : MV l D cy sz n ad y_El_begin c_El_begin 2 ({ frames := 0, cells := 0, slots := 0, locals := 0 } : Room) mem [.ref (ad (20 + 2 * k)), .int (kd)] (fun mem' => mem' = va_up mem (20 + 2 * k) (.inr (2, [.int kd, .int 0, .int 0, .null, .null, .null, .ref (ad (21 + 2 * k))]))) := by
  refine Met.ofW (cc := c_El_begin) (maxL := 2) (ret := none) (by decide) rfl ?_
  intro p e s m args below meth c s₁ B hml hv
  obtain ⟨rfl, E, hP, hD⟩ := hv
  have hx := B.exec
  have hb := B.bytes
  have hr := B.returns
  have hlocks := B.notSynchronized
  have Bx : MB p s m [.ref (ad (20 + 2 * k)), .int (kd)].toArray c c_El_begin "AbnfChart$Element" D cy := ⟨hx, hb, tb_all (atoms_spec B.pre) E.2.1, findClass_of_methodNamed B.named, E.1⟩
  have hS : va_S (Az sz) s.heap s.heap [] := va_S.rf
  have hl := lv_entry ([.ref (ad (20 + 2 * k)), .int (kd)]) (n := 2) (Nat.le_of_ble_eq_true rfl)
  rw [lg_entry_eq]
  generalize (lg_sl ([.ref (ad (20 + 2 * k)), .int (kd)]) ++ List.replicate (2 - (lg_sl ([.ref (ad (20 + 2 * k)), .int (kd)])).length) Slot.unset).toArray = ls at hl ⊢
  have hl : lv_has ls 2 [(0, .ref (ad (20 + 2 * k))), (1, .int (kd))] := hl
  refine lv_aload_n Bx.1 Bx.2.1 d_El_begin_0 rfl (lv_at hl 0 rfl) ?_
  refine lv_iload_n Bx.1 Bx.2.1 d_El_begin_1 rfl (lv_at hl 1 rfl) ?_
  refine f_put Bx hP hD hS hk h rfl inEl tyEl okEl nmEl 0 (by decide) kw_74 rfl rfl rfl rfl (Nat.le_of_ble_eq_true rfl) d_El_begin_2 (fun H locs hP hS => ?_)
  obtain ⟨mem1, e_mem1⟩ : ∃ z, z = va_up mem ((20 + 2 * k)) (.inr (2, [.int (kd), .int (b), .int (d), q, v, w, .ref (ad (21 + 2 * k))])) := ⟨_, rfl⟩
  have hP : va_P D vcl (fw n ad mem1) H := by rw [e_mem1]; exact hP
  have hD : va_D (Az sz) (fw n ad mem1) := fw_D hD
  have h_mem1 : mem1 ((20 + 2 * k)) = .inr (2, [.int (kd), .int (b), .int (d), q, v, w, .ref (ad (21 + 2 * k))]) := by rw [e_mem1, va_up_self]
  refine lv_aload_n Bx.1 Bx.2.1 d_El_begin_5 rfl (lv_at hl 0 rfl) ?_
  refine lv_iconst (v := 0) Bx.1 Bx.2.1 d_El_begin_6 (by decide) ?_
  refine f_put Bx hP hD hS hk h_mem1 rfl inEl tyEl okEl nmEl 1 (by decide) kw_77 rfl rfl rfl rfl (Nat.le_of_ble_eq_true rfl) d_El_begin_7 (fun H locs hP hS => ?_)
  obtain ⟨mem2, e_mem2⟩ : ∃ z, z = va_up mem1 ((20 + 2 * k)) (.inr (2, [.int (kd), .int (0), .int (d), q, v, w, .ref (ad (21 + 2 * k))])) := ⟨_, rfl⟩
  have hP : va_P D vcl (fw n ad mem2) H := by rw [e_mem2]; exact hP
  have hD : va_D (Az sz) (fw n ad mem2) := fw_D hD
  have h_mem2 : mem2 ((20 + 2 * k)) = .inr (2, [.int (kd), .int (0), .int (d), q, v, w, .ref (ad (21 + 2 * k))]) := by rw [e_mem2, va_up_self]
  refine lv_aload_n Bx.1 Bx.2.1 d_El_begin_10 rfl (lv_at hl 0 rfl) ?_
  refine lv_iconst (v := 0) Bx.1 Bx.2.1 d_El_begin_11 (by decide) ?_
  refine f_put Bx hP hD hS hk h_mem2 rfl inEl tyEl okEl nmEl 2 (by decide) kw_80 rfl rfl rfl rfl (Nat.le_of_ble_eq_true rfl) d_El_begin_12 (fun H locs hP hS => ?_)
  obtain ⟨mem3, e_mem3⟩ : ∃ z, z = va_up mem2 ((20 + 2 * k)) (.inr (2, [.int (kd), .int (0), .int (0), q, v, w, .ref (ad (21 + 2 * k))])) := ⟨_, rfl⟩
  have hP : va_P D vcl (fw n ad mem3) H := by rw [e_mem3]; exact hP
  have hD : va_D (Az sz) (fw n ad mem3) := fw_D hD
  have h_mem3 : mem3 ((20 + 2 * k)) = .inr (2, [.int (kd), .int (0), .int (0), q, v, w, .ref (ad (21 + 2 * k))]) := by rw [e_mem3, va_up_self]
  refine lv_aload_n Bx.1 Bx.2.1 d_El_begin_15 rfl (lv_at hl 0 rfl) ?_
  refine lv_null Bx.1 Bx.2.1 d_El_begin_16 ?_
  refine f_put Bx hP hD hS hk h_mem3 rfl inEl tyEl okEl nmEl 3 (by decide) kw_83 rfl rfl rfl rfl (Nat.le_of_ble_eq_true rfl) d_El_begin_17 (fun H locs hP hS => ?_)
  obtain ⟨mem4, e_mem4⟩ : ∃ z, z = va_up mem3 ((20 + 2 * k)) (.inr (2, [.int (kd), .int (0), .int (0), .null, v, w, .ref (ad (21 + 2 * k))])) := ⟨_, rfl⟩
  have hP : va_P D vcl (fw n ad mem4) H := by rw [e_mem4]; exact hP
  have hD : va_D (Az sz) (fw n ad mem4) := fw_D hD
  have h_mem4 : mem4 ((20 + 2 * k)) = .inr (2, [.int (kd), .int (0), .int (0), .null, v, w, .ref (ad (21 + 2 * k))]) := by rw [e_mem4, va_up_self]
  refine lv_aload_n Bx.1 Bx.2.1 d_El_begin_20 rfl (lv_at hl 0 rfl) ?_
  refine lv_null Bx.1 Bx.2.1 d_El_begin_21 ?_
  refine f_put Bx hP hD hS hk h_mem4 rfl inEl tyEl okEl nmEl 4 (by decide) kw_86 rfl rfl rfl rfl (Nat.le_of_ble_eq_true rfl) d_El_begin_22 (fun H locs hP hS => ?_)
  obtain ⟨mem5, e_mem5⟩ : ∃ z, z = va_up mem4 ((20 + 2 * k)) (.inr (2, [.int (kd), .int (0), .int (0), .null, .null, w, .ref (ad (21 + 2 * k))])) := ⟨_, rfl⟩
  have hP : va_P D vcl (fw n ad mem5) H := by rw [e_mem5]; exact hP
  have hD : va_D (Az sz) (fw n ad mem5) := fw_D hD
  have h_mem5 : mem5 ((20 + 2 * k)) = .inr (2, [.int (kd), .int (0), .int (0), .null, .null, w, .ref (ad (21 + 2 * k))]) := by rw [e_mem5, va_up_self]
  refine lv_aload_n Bx.1 Bx.2.1 d_El_begin_25 rfl (lv_at hl 0 rfl) ?_
  refine lv_null Bx.1 Bx.2.1 d_El_begin_26 ?_
  refine f_put Bx hP hD hS hk h_mem5 rfl inEl tyEl okEl nmEl 5 (by decide) kw_89 rfl rfl rfl rfl (Nat.le_of_ble_eq_true rfl) d_El_begin_27 (fun H locs hP hS => ?_)
  obtain ⟨mem6, e_mem6⟩ : ∃ z, z = va_up mem5 ((20 + 2 * k)) (.inr (2, [.int (kd), .int (0), .int (0), .null, .null, .null, .ref (ad (21 + 2 * k))])) := ⟨_, rfl⟩
  have hP : va_P D vcl (fw n ad mem6) H := by rw [e_mem6]; exact hP
  have hD : va_D (Az sz) (fw n ad mem6) := fw_D hD
  have h_mem6 : mem6 ((20 + 2 * k)) = .inr (2, [.int (kd), .int (0), .int (0), .null, .null, .null, .ref (ad (21 + 2 * k))]) := by rw [e_mem6, va_up_self]
  exact W.vret hx hb hr (fun t ht hW => ⟨⟨mem6, rfl, by rw [e_mem6, e_mem5, e_mem4, e_mem3, e_mem2, e_mem1, up_up, up_up, up_up, up_up, up_up], by show va_P _ _ _ t.heap; rw [ht]; exact hP⟩, hS.F ht⟩) hS.2.2 d_El_begin_30
set_option maxHeartbeats 4000000 in
set_option maxRecDepth 100000 in
theorem m_Ru_begin (l : Launch) {D : va_G} {cy : Nat → ClassId} {sz n : Nat} {ad : Nat → Nat} {mem : Nat → va_E} {k : Nat} {nm x : Int64} {v w : Value} (hk : 7 + k < n) (h : mem (7 + k) = .inr (5, [.long x, v, w])) : MV l D cy sz n ad y_Ru_begin c_Ru_begin 3 ({ frames := 0, cells := 0, slots := 0, locals := 0 } : Room) mem [.ref (ad (7 + k)), .long (nm)] (fun mem' => mem' = va_up mem (7 + k) (.inr (5, [.long nm, .null, .null]))) := by
  refine Met.ofW (cc := c_Ru_begin) (maxL := 3) (ret := none) (by decide) rfl ?_
  intro p e s m args below meth c s₁ B hml hv
  obtain ⟨rfl, E, hP, hD⟩ := hv
  have hx := B.exec
  have hb := B.bytes
  have hr := B.returns
  have hlocks := B.notSynchronized
  have Bx : MB p s m [.ref (ad (7 + k)), .long (nm)].toArray c c_Ru_begin "AbnfChart$Rule" D cy := ⟨hx, hb, tb_all (atoms_spec B.pre) E.2.1, findClass_of_methodNamed B.named, E.1⟩
  have hS : va_S (Az sz) s.heap s.heap [] := va_S.rf
  have hl := lv_entry ([.ref (ad (7 + k)), .long (nm)]) (n := 3) (Nat.le_of_ble_eq_true rfl)
  rw [lg_entry_eq]
  generalize (lg_sl ([.ref (ad (7 + k)), .long (nm)]) ++ List.replicate (3 - (lg_sl ([.ref (ad (7 + k)), .long (nm)])).length) Slot.unset).toArray = ls at hl ⊢
  have hl : lv_has ls 3 [(0, .ref (ad (7 + k))), (1, .long (nm))] := hl
  refine lv_aload_n Bx.1 Bx.2.1 d_Ru_begin_0 rfl (lv_at hl 0 rfl) ?_
  refine lv_lload_n Bx.1 Bx.2.1 d_Ru_begin_1 rfl (lv_at hl 1 rfl) ?_
  refine f_put Bx hP hD hS hk h rfl inRu tyRu okRu nmRu 0 (by decide) kw_55 rfl rfl rfl rfl (Nat.le_of_ble_eq_true rfl) d_Ru_begin_2 (fun H locs hP hS => ?_)
  obtain ⟨mem1, e_mem1⟩ : ∃ z, z = va_up mem ((7 + k)) (.inr (5, [.long (nm), v, w])) := ⟨_, rfl⟩
  have hP : va_P D vcl (fw n ad mem1) H := by rw [e_mem1]; exact hP
  have hD : va_D (Az sz) (fw n ad mem1) := fw_D hD
  have h_mem1 : mem1 ((7 + k)) = .inr (5, [.long (nm), v, w]) := by rw [e_mem1, va_up_self]
  refine lv_aload_n Bx.1 Bx.2.1 d_Ru_begin_5 rfl (lv_at hl 0 rfl) ?_
  refine lv_null Bx.1 Bx.2.1 d_Ru_begin_6 ?_
  refine f_put Bx hP hD hS hk h_mem1 rfl inRu tyRu okRu nmRu 1 (by decide) kw_57 rfl rfl rfl rfl (Nat.le_of_ble_eq_true rfl) d_Ru_begin_7 (fun H locs hP hS => ?_)
  obtain ⟨mem2, e_mem2⟩ : ∃ z, z = va_up mem1 ((7 + k)) (.inr (5, [.long (nm), .null, w])) := ⟨_, rfl⟩
  have hP : va_P D vcl (fw n ad mem2) H := by rw [e_mem2]; exact hP
  have hD : va_D (Az sz) (fw n ad mem2) := fw_D hD
  have h_mem2 : mem2 ((7 + k)) = .inr (5, [.long (nm), .null, w]) := by rw [e_mem2, va_up_self]
  refine lv_aload_n Bx.1 Bx.2.1 d_Ru_begin_10 rfl (lv_at hl 0 rfl) ?_
  refine lv_null Bx.1 Bx.2.1 d_Ru_begin_11 ?_
  refine f_put Bx hP hD hS hk h_mem2 rfl inRu tyRu okRu nmRu 2 (by decide) kw_59 rfl rfl rfl rfl (Nat.le_of_ble_eq_true rfl) d_Ru_begin_12 (fun H locs hP hS => ?_)
  obtain ⟨mem3, e_mem3⟩ : ∃ z, z = va_up mem2 ((7 + k)) (.inr (5, [.long (nm), .null, .null])) := ⟨_, rfl⟩
  have hP : va_P D vcl (fw n ad mem3) H := by rw [e_mem3]; exact hP
  have hD : va_D (Az sz) (fw n ad mem3) := fw_D hD
  have h_mem3 : mem3 ((7 + k)) = .inr (5, [.long (nm), .null, .null]) := by rw [e_mem3, va_up_self]
  exact W.vret hx hb hr (fun t ht hW => ⟨⟨mem3, rfl, by rw [e_mem3, e_mem2, e_mem1, up_up, up_up], by show va_P _ _ _ t.heap; rw [ht]; exact hP⟩, hS.F ht⟩) hS.2.2 d_Ru_begin_15
set_option maxHeartbeats 4000000 in
set_option maxRecDepth 100000 in
theorem m_Gr_addElement (l : Launch) {D : va_G} {cy : Nat → ClassId} {sz n : Nat} {ad : Nat → Nat} {mem : Nat → va_E} {Z : Nat} {f : Nat → Int32} {lim rc ec : Nat} {m0 : Nat → va_E} {kd : Int32} (hn : 224 ≤ n) (hT : TX cy ad Z f m0) (hRS : RS cy ad lim rc ec m0 mem) (hc : ec < 100) : MR l D cy sz n ad y_Gr_addElement c_Gr_addElement 3 (some (.object "AbnfChart$Element")) ({ frames := 1, cells := 0, slots := 0, locals := 30 } : Room) mem [.ref (ad 5), .int (kd)] (fun r mem' => r = ad (20 + 2 * ec) ∧ RS cy ad lim rc (ec + 1) m0 mem') := by
  refine Met.ofW (cc := c_Gr_addElement) (maxL := 3) (ret := (some (.object "AbnfChart$Element"))) (by decide) rfl ?_
  intro p e s m args below meth c s₁ B hml hv
  obtain ⟨rfl, E, hP, hD⟩ := hv
  have hx := B.exec
  have hb := B.bytes
  have hr := B.returns
  have hlocks := B.notSynchronized
  have Bx : MB p s m [.ref (ad 5), .int (kd)].toArray c c_Gr_addElement "AbnfChart$Grammar" D cy := ⟨hx, hb, tb_all (atoms_spec B.pre) E.2.1, findClass_of_methodNamed B.named, E.1⟩
  have hS : va_S (Az sz) s.heap s.heap [] := va_S.rf
  have hl := lv_entry ([.ref (ad 5), .int (kd)]) (n := 3) (Nat.le_of_ble_eq_true rfl)
  rw [lg_entry_eq]
  generalize (lg_sl ([.ref (ad 5), .int (kd)]) ++ List.replicate (3 - (lg_sl ([.ref (ad 5), .int (kd)])).length) Slot.unset).toArray = ls at hl ⊢
  have hl : lv_has ls 3 [(0, .ref (ad 5)), (1, .int (kd))] := hl
  obtain ⟨at1, ft2, h9_3⟩ := hRS.2.1
  have h1_4 : mem 1 = .inr (0, [.ref (ad 2), .int (nI Z)]) := (hRS.2.2 1 (by omega)).trans hT.1
  have h2_5 : mem 2 = .inl (cy 0, 240, .inl f) := (hRS.2.2 2 (by omega)).trans hT.2.2
  have h5_6 := hRS.1.2.1
  have hbd12 := hRS.1.1
  obtain ⟨S7, g8, hS_9, h220_10, h221_11⟩ := hRS.1.2.2.2.2.2.2
  refine lv_aload_n Bx.1 Bx.2.1 d_Gr_addElement_0 rfl (lv_at hl 0 rfl) ?_
  refine f_get Bx hP (by omega) h5_6 rfl inGr 1 (by decide) kw_116 rfl rfl d_Gr_addElement_1 ?_
  refine lv_aload_n Bx.1 Bx.2.1 d_Gr_addElement_4 rfl (lv_at hl 0 rfl) ?_
  refine f_get Bx hP (by omega) h5_6 rfl inGr 4 (by decide) kw_122 rfl rfl d_Gr_addElement_5 ?_
  refine f_aald (t0 := 4) Bx hP (by omega) hRS.1.2.2.2.1 rfl ec rfl hc (by decide) (if_pos hc) d_Gr_addElement_8 ?_
  refine lv_astore_n (lv' := [(2, .ref (ad (20 + 2 * ec))), (0, .ref (ad 5)), (1, .int (kd))]) Bx.1 Bx.2.1 d_Gr_addElement_9 rfl hl (by decide) rfl (fun ls hl => ?_)
  refine lv_aload_n Bx.1 Bx.2.1 d_Gr_addElement_10 rfl (lv_at hl 1 rfl) ?_
  refine lv_dup Bx.1 Bx.2.1 d_Gr_addElement_11 rfl ?_
  refine f_get Bx hP (by omega) h5_6 rfl inGr 4 (by decide) kw_122 rfl rfl d_Gr_addElement_12 ?_
  refine lv_iconst (v := 1) Bx.1 Bx.2.1 d_Gr_addElement_15 (by decide) ?_
  refine lv_iadd Bx.1 Bx.2.1 d_Gr_addElement_16 ?_
  rw [nI_1]
  obtain ⟨k13, lo14, hi15, as16, pa17, ne18, hcell, -⟩ := (hRS.1.2.2.2.2.2.1 ec hc).1
  refine f_put Bx hP hD hS (by omega) h5_6 rfl inGr tyGr okGr nmGr 4 (by decide) kw_122 rfl rfl rfl rfl (Nat.le_of_ble_eq_true rfl) d_Gr_addElement_17 (fun H locs hP hS => ?_)
  obtain ⟨mem19, e_mem19⟩ : ∃ z, z = va_up mem (5) (.inr (3, [.ref (ad 6), .ref (ad 19), .ref (ad 220), .int (nI rc), .int (nI (ec + 1)), .int (0)])) := ⟨_, rfl⟩
  have hP : va_P D vcl (fw n ad mem19) H := by rw [e_mem19]; exact hP
  have hD : va_D (Az sz) (fw n ad mem19) := fw_D hD
  have h_mem19 : mem19 (5) = .inr (3, [.ref (ad 6), .ref (ad 19), .ref (ad 220), .int (nI rc), .int (nI (ec + 1)), .int (0)]) := by rw [e_mem19, va_up_self]
  have hh20 := (va_up_ne mem (.inr (3, [.ref (ad 6), .ref (ad 19), .ref (ad 220), .int (nI rc), .int (nI (ec + 1)), .int (0)])) (show (222 : Nat) ≠ 5 by first | decide | assumption | omega)).trans h9_3
  rw [← e_mem19] at hh20
  have hh21 := (va_up_ne mem (.inr (3, [.ref (ad 6), .ref (ad 19), .ref (ad 220), .int (nI rc), .int (nI (ec + 1)), .int (0)])) (show (1 : Nat) ≠ 5 by first | decide | assumption | omega)).trans h1_4
  rw [← e_mem19] at hh21
  have hh22 := (va_up_ne mem (.inr (3, [.ref (ad 6), .ref (ad 19), .ref (ad 220), .int (nI rc), .int (nI (ec + 1)), .int (0)])) (show (220 : Nat) ≠ 5 by first | decide | assumption | omega)).trans h220_10
  rw [← e_mem19] at hh22
  have hh23 := (va_up_ne mem (.inr (3, [.ref (ad 6), .ref (ad 19), .ref (ad 220), .int (nI rc), .int (nI (ec + 1)), .int (0)])) (show ((20 + 2 * ec) : Nat) ≠ 5 by first | decide | assumption | omega)).trans hcell
  rw [← e_mem19] at hh23
  refine lv_aload_n Bx.1 Bx.2.1 d_Gr_addElement_20 rfl (lv_at hl 0 rfl) ?_
  refine lv_iload_n Bx.1 Bx.2.1 d_Gr_addElement_21 rfl (lv_at hl 2 rfl) ?_
  refine f_callVv (na := 1) (As := [.int (kd)]) (rest := []) Bx hml E hP hD hS (by omega) hh23 rfl (m_El_begin l (by omega) hh23) kw_431 kw_432 kw_433 kw_5 kw_434 (by decide +kernel) ⟨rfl, rfl⟩ ⟨Nat.le_of_ble_eq_true rfl, Nat.le_of_ble_eq_true rfl⟩ rfl hl.1 (Nat.le_of_ble_eq_true rfl) d_Gr_addElement_22 ⟨Nat.le_of_ble_eq_true rfl, Nat.le_of_ble_eq_true rfl⟩ (fun mem25 H locs hq hP hS => ?_)
  have hD : va_D (Az sz) (fw n ad mem25) := fw_D hD
  refine lv_aload_n Bx.1 Bx.2.1 d_Gr_addElement_25 rfl (lv_at hl 0 rfl) ?_
  exact r_aret hx hb hlocks hr (⟨rfl, by rw [hq, e_mem19]; exact hRS.addE hc _⟩) hP hS d_Gr_addElement_26
set_option maxHeartbeats 4000000 in
set_option maxRecDepth 100000 in
theorem m_Gr_addRule (l : Launch) {D : va_G} {cy : Nat → ClassId} {sz n : Nat} {ad : Nat → Nat} {mem : Nat → va_E} {Z : Nat} {f : Nat → Int32} {lim rc ec : Nat} {m0 : Nat → va_E} {nm : Int64} (hn : 224 ≤ n) (hT : TX cy ad Z f m0) (hRS : RS cy ad lim rc ec m0 mem) (hc : rc < 12) : MR l D cy sz n ad y_Gr_addRule c_Gr_addRule 4 (some (.object "AbnfChart$Rule")) ({ frames := 1, cells := 0, slots := 0, locals := 30 } : Room) mem [.ref (ad 5), .long (nm)] (fun r mem' => r = ad (7 + rc) ∧ RS cy ad lim (rc + 1) ec m0 mem') := by
  refine Met.ofW (cc := c_Gr_addRule) (maxL := 4) (ret := (some (.object "AbnfChart$Rule"))) (by decide) rfl ?_
  intro p e s m args below meth c s₁ B hml hv
  obtain ⟨rfl, E, hP, hD⟩ := hv
  have hx := B.exec
  have hb := B.bytes
  have hr := B.returns
  have hlocks := B.notSynchronized
  have Bx : MB p s m [.ref (ad 5), .long (nm)].toArray c c_Gr_addRule "AbnfChart$Grammar" D cy := ⟨hx, hb, tb_all (atoms_spec B.pre) E.2.1, findClass_of_methodNamed B.named, E.1⟩
  have hS : va_S (Az sz) s.heap s.heap [] := va_S.rf
  have hl := lv_entry ([.ref (ad 5), .long (nm)]) (n := 4) (Nat.le_of_ble_eq_true rfl)
  rw [lg_entry_eq]
  generalize (lg_sl ([.ref (ad 5), .long (nm)]) ++ List.replicate (4 - (lg_sl ([.ref (ad 5), .long (nm)])).length) Slot.unset).toArray = ls at hl ⊢
  have hl : lv_has ls 4 [(0, .ref (ad 5)), (1, .long (nm))] := hl
  obtain ⟨at1, ft2, h9_3⟩ := hRS.2.1
  have h1_4 : mem 1 = .inr (0, [.ref (ad 2), .int (nI Z)]) := (hRS.2.2 1 (by omega)).trans hT.1
  have h2_5 : mem 2 = .inl (cy 0, 240, .inl f) := (hRS.2.2 2 (by omega)).trans hT.2.2
  have h5_6 := hRS.1.2.1
  have hbd12 := hRS.1.1
  obtain ⟨S7, g8, hS_9, h220_10, h221_11⟩ := hRS.1.2.2.2.2.2.2
  refine lv_aload_n Bx.1 Bx.2.1 d_Gr_addRule_0 rfl (lv_at hl 0 rfl) ?_
  refine f_get Bx hP (by omega) h5_6 rfl inGr 0 (by decide) kw_113 rfl rfl d_Gr_addRule_1 ?_
  refine lv_aload_n Bx.1 Bx.2.1 d_Gr_addRule_4 rfl (lv_at hl 0 rfl) ?_
  refine f_get Bx hP (by omega) h5_6 rfl inGr 3 (by decide) kw_121 rfl rfl d_Gr_addRule_5 ?_
  refine f_aald (t0 := 5) Bx hP (by omega) hRS.1.2.2.1 rfl rc rfl hc (by decide) (by unfold rfA; rw [if_pos hc, Nat.one_mul]) d_Gr_addRule_8 ?_
  refine lv_astore_n (lv' := [(3, .ref (ad (7 + rc))), (0, .ref (ad 5)), (1, .long (nm))]) Bx.1 Bx.2.1 d_Gr_addRule_9 rfl hl (by decide) rfl (fun ls hl => ?_)
  refine lv_aload_n Bx.1 Bx.2.1 d_Gr_addRule_10 rfl (lv_at hl 1 rfl) ?_
  refine lv_dup Bx.1 Bx.2.1 d_Gr_addRule_11 rfl ?_
  refine f_get Bx hP (by omega) h5_6 rfl inGr 3 (by decide) kw_121 rfl rfl d_Gr_addRule_12 ?_
  refine lv_iconst (v := 1) Bx.1 Bx.2.1 d_Gr_addRule_15 (by decide) ?_
  refine lv_iadd Bx.1 Bx.2.1 d_Gr_addRule_16 ?_
  rw [nI_1]
  obtain ⟨nm13, fi14, la15, hcell, -⟩ := hRS.1.2.2.2.2.1 rc hc
  refine f_put Bx hP hD hS (by omega) h5_6 rfl inGr tyGr okGr nmGr 3 (by decide) kw_121 rfl rfl rfl rfl (Nat.le_of_ble_eq_true rfl) d_Gr_addRule_17 (fun H locs hP hS => ?_)
  obtain ⟨mem16, e_mem16⟩ : ∃ z, z = va_up mem (5) (.inr (3, [.ref (ad 6), .ref (ad 19), .ref (ad 220), .int (nI (rc + 1)), .int (nI ec), .int (0)])) := ⟨_, rfl⟩
  have hP : va_P D vcl (fw n ad mem16) H := by rw [e_mem16]; exact hP
  have hD : va_D (Az sz) (fw n ad mem16) := fw_D hD
  have h_mem16 : mem16 (5) = .inr (3, [.ref (ad 6), .ref (ad 19), .ref (ad 220), .int (nI (rc + 1)), .int (nI ec), .int (0)]) := by rw [e_mem16, va_up_self]
  have hh17 := (va_up_ne mem (.inr (3, [.ref (ad 6), .ref (ad 19), .ref (ad 220), .int (nI (rc + 1)), .int (nI ec), .int (0)])) (show (222 : Nat) ≠ 5 by first | decide | assumption | omega)).trans h9_3
  rw [← e_mem16] at hh17
  have hh18 := (va_up_ne mem (.inr (3, [.ref (ad 6), .ref (ad 19), .ref (ad 220), .int (nI (rc + 1)), .int (nI ec), .int (0)])) (show (1 : Nat) ≠ 5 by first | decide | assumption | omega)).trans h1_4
  rw [← e_mem16] at hh18
  have hh19 := (va_up_ne mem (.inr (3, [.ref (ad 6), .ref (ad 19), .ref (ad 220), .int (nI (rc + 1)), .int (nI ec), .int (0)])) (show (220 : Nat) ≠ 5 by first | decide | assumption | omega)).trans h220_10
  rw [← e_mem16] at hh19
  have hh20 := (va_up_ne mem (.inr (3, [.ref (ad 6), .ref (ad 19), .ref (ad 220), .int (nI (rc + 1)), .int (nI ec), .int (0)])) (show ((7 + rc) : Nat) ≠ 5 by first | decide | assumption | omega)).trans hcell
  rw [← e_mem16] at hh20
  refine lv_aload_n Bx.1 Bx.2.1 d_Gr_addRule_20 rfl (lv_at hl 0 rfl) ?_
  refine lv_lload_n Bx.1 Bx.2.1 d_Gr_addRule_21 rfl (lv_at hl 2 rfl) ?_
  refine f_callVv (na := 1) (As := [.long (nm)]) (rest := []) Bx hml E hP hD hS (by omega) hh20 rfl (m_Ru_begin l (by omega) hh20) kw_393 kw_394 kw_395 kw_4 kw_396 (by decide +kernel) ⟨rfl, rfl⟩ ⟨Nat.le_of_ble_eq_true rfl, Nat.le_of_ble_eq_true rfl⟩ rfl hl.1 (Nat.le_of_ble_eq_true rfl) d_Gr_addRule_22 ⟨Nat.le_of_ble_eq_true rfl, Nat.le_of_ble_eq_true rfl⟩ (fun mem22 H locs hq hP hS => ?_)
  have hD : va_D (Az sz) (fw n ad mem22) := fw_D hD
  refine lv_aload_n Bx.1 Bx.2.1 d_Gr_addRule_25 rfl (lv_at hl 0 rfl) ?_
  exact r_aret hx hb hlocks hr (⟨rfl, by rw [hq, e_mem16]; exact hRS.addR hc _⟩) hP hS d_Gr_addRule_26
