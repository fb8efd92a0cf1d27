theorem wi_n {x a b : Int32} (h : ¬ (if x < a ∨ b < x then (0 : Int32) else 1) = 0) : ¬ x < a ∧ ¬ b < x := ⟨fun q => h (if_pos (Or.inl q)), fun q => h (if_pos (Or.inr q))⟩
theorem wi_z {x a b : Int32} (h : (if x < a ∨ b < x then (0 : Int32) else 1) = 0) : x < a ∨ b < x := by
  by_cases q : x < a ∨ b < x
  · exact q
  · rw [if_neg q] at h; exact absurd h (by decide)
theorem isL_1 {x : Int32} (h : ¬ x < 97 ∧ ¬ 122 < x) : isL x = true := by simp only [isL, h.1, h.2, not_false_eq_true, decide_true, Bool.true_and, Bool.true_or]
theorem isL_2 {x : Int32} (h : ¬ x < 65 ∧ ¬ 90 < x) : isL x = true := by simp only [isL, h.1, h.2, not_false_eq_true, decide_true, Bool.true_and, Bool.or_true]
theorem isL_0 {x : Int32} (h : x < 97 ∨ 122 < x) (h2 : x < 65 ∨ 90 < x) : isL x = false := by
  unfold isL
  have a : (decide (¬ x < 97) && decide (¬ 122 < x)) = false := by rcases h with q | q <;> simp [q]
  have b : (decide (¬ x < 65) && decide (¬ 90 < x)) = false := by rcases h2 with q | q <;> simp [q]
  rw [a, b]; rfl
set_option maxHeartbeats 4000000 in
set_option maxRecDepth 100000 in
theorem m_Mo_letter (l : Launch) (x : Int32) : MS l y_Mo_letter c_Mo_letter 1 (some .boolean) ({ frames := 1, cells := 0, slots := 0, locals := 30 } : Room) [.int (x)] (fun r => r = if isL x then 1 else 0) := by
  refine Met.ofW (cc := c_Mo_letter) (maxL := 1) (ret := (some .boolean)) (by decide) rfl ?_
  intro p e s m args below meth c s₁ B hml hv
  obtain ⟨rfl, hN⟩ := hv
  have hx := B.exec
  have hb := B.bytes
  have hr := B.returns
  have hlocks := B.notSynchronized
  have Bx : p.tables.exec = Jvm.exec ∧ c.code = c_Mo_letter ∧ (∀ w ∈ TB, w.before [.int (x)].toArray s = true) ∧ s.vm.findClass "AbnfChartModel" = some m.cls ∧ True := ⟨hx, hb, tb_all (atoms_spec B.pre) hN, findClass_of_methodNamed B.named, trivial⟩
  have hl := lv_entry ([.int (x)]) (n := 1) (Nat.le_of_ble_eq_true rfl)
  rw [lg_entry_eq]
  generalize (lg_sl ([.int (x)]) ++ List.replicate (1 - (lg_sl ([.int (x)])).length) Slot.unset).toArray = ls at hl ⊢
  have hl : lv_has ls 1 [(0, .int (x))] := hl
  refine lv_iload_n Bx.1 Bx.2.1 d_Mo_letter_0 rfl (lv_at hl 0 rfl) ?_
  refine lv_bipush (v := 97) Bx.1 Bx.2.1 d_Mo_letter_1 (by decide) ?_
  refine lv_bipush (v := 122) Bx.1 Bx.2.1 d_Mo_letter_3 (by decide) ?_
  refine f_callSi (na := 3) (As := [.int (x), .int (97), .int (122)]) (rest := []) Bx hml hN (m_Mo_within l x 97 122) kw_754 kw_755 kw_8 kw_756 (by decide +kernel) ⟨rfl, rfl⟩ ⟨Nat.le_of_ble_eq_true rfl, Nat.le_of_ble_eq_true rfl⟩ rfl hl.1 (Nat.le_of_ble_eq_true rfl) d_Mo_letter_5 ⟨Nat.le_of_ble_eq_true rfl, Nat.le_of_ble_eq_true rfl⟩ (fun r1 hr1 => ?_)
  subst hr1
  refine lv_if_ne Bx.1 Bx.2.1 d_Mo_letter_8 rfl (fun h => ?_) (fun h => ?_)
  · refine lv_iconst (v := 1) Bx.1 Bx.2.1 d_Mo_letter_22 (by decide) ?_
    refine lv_goto Bx.1 Bx.2.1 d_Mo_letter_23 rfl ?_
    exact W.zret (v := 1) hx hb hr rfl (fun t ht hW => ⟨1, rfl, by rw [isL_1 (wi_n h)]; rfl, ht⟩) (fun _ h => by cases h) d_Mo_letter_27
  · refine lv_iload_n Bx.1 Bx.2.1 d_Mo_letter_11 rfl (lv_at hl 0 rfl) ?_
    refine lv_bipush (v := 65) Bx.1 Bx.2.1 d_Mo_letter_12 (by decide) ?_
    refine lv_bipush (v := 90) Bx.1 Bx.2.1 d_Mo_letter_14 (by decide) ?_
    refine f_callSi (na := 3) (As := [.int (x), .int (65), .int (90)]) (rest := []) Bx hml hN (m_Mo_within l x 65 90) kw_754 kw_755 kw_8 kw_756 (by decide +kernel) ⟨rfl, rfl⟩ ⟨Nat.le_of_ble_eq_true rfl, Nat.le_of_ble_eq_true rfl⟩ rfl hl.1 (Nat.le_of_ble_eq_true rfl) d_Mo_letter_16 ⟨Nat.le_of_ble_eq_true rfl, Nat.le_of_ble_eq_true rfl⟩ (fun r2 hr2 => ?_)
    subst hr2
    refine lv_if_eq Bx.1 Bx.2.1 d_Mo_letter_19 rfl (fun h2 => ?_) (fun h2 => ?_)
    · refine lv_iconst (v := 0) Bx.1 Bx.2.1 d_Mo_letter_26 (by decide) ?_
      exact W.zret (v := 0) hx hb hr rfl (fun t ht hW => ⟨0, rfl, by rw [isL_0 (wi_z h) (wi_z h2)]; rfl, ht⟩) (fun _ h => by cases h) d_Mo_letter_27
    · refine lv_iconst (v := 1) Bx.1 Bx.2.1 d_Mo_letter_22 (by decide) ?_
      refine lv_goto Bx.1 Bx.2.1 d_Mo_letter_23 rfl ?_
      exact W.zret (v := 1) hx hb hr rfl (fun t ht hW => ⟨1, rfl, by rw [isL_2 (wi_n h2)]; rfl, ht⟩) (fun _ h => by cases h) d_Mo_letter_27
set_option maxHeartbeats 4000000 in
set_option maxRecDepth 100000 in
theorem m_Mo_here0 (l : Launch) {D : va_G} {cy : Nat → ClassId} {sz n : Nat} {ad : Nat → Nat} {mem : Nat → va_E} {J : Nat → Int32} (hn : 242 ≤ n) (h4 : mem 224 = moC ad J) (ha : J 16 = 0) (hb0 : J 1 = 0) : MI l D cy sz n ad y_Mo_here c_Mo_here 1 (some .int) ({ frames := 0, cells := 0, slots := 0, locals := 0 } : Room) mem [.ref (ad 224)] (fun r mem' => r = -1 ∧ mem' = mem) := by
  refine Met.ofW (cc := c_Mo_here) (maxL := 1) (ret := (some .int)) (by decide) rfl ?_
  intro p e s m args below meth c s₁ B hml hv
  obtain ⟨rfl, E, hP, hD⟩ := hv
  have hx := B.exec
  have hb := B.bytes
  have hr := B.returns
  have hlocks := B.notSynchronized
  have Bx : MB p s m [.ref (ad 224)].toArray c c_Mo_here "AbnfChartModel" D cy := ⟨hx, hb, tb_all (atoms_spec B.pre) E.2.1, findClass_of_methodNamed B.named, E.1⟩
  have hS : va_S (Az sz) s.heap s.heap [] := va_S.rf
  have hl := lv_entry ([.ref (ad 224)]) (n := 1) (Nat.le_of_ble_eq_true rfl)
  rw [lg_entry_eq]
  generalize (lg_sl ([.ref (ad 224)]) ++ List.replicate (1 - (lg_sl ([.ref (ad 224)])).length) Slot.unset).toArray = ls at hl ⊢
  have hl : lv_has ls 1 [(0, .ref (ad 224))] := hl
  refine lv_aload_n Bx.1 Bx.2.1 d_Mo_here_0 rfl (lv_at hl 0 rfl) ?_
  refine f_get Bx hP (by omega) h4 rfl inMo 16 (by decide) kw_672 rfl rfl d_Mo_here_1 ?_
  refine lv_aload_n Bx.1 Bx.2.1 d_Mo_here_4 rfl (lv_at hl 0 rfl) ?_
  refine f_get Bx hP (by omega) h4 rfl inMo 1 (by decide) kw_657 rfl rfl d_Mo_here_5 ?_
  refine lv_icmp_ge Bx.1 Bx.2.1 d_Mo_here_8 rfl (fun h => ?_) (fun h => ?_)
  · refine lv_iconst (v := -1) Bx.1 Bx.2.1 d_Mo_here_23 (by decide) ?_
    exact W.iret (v := (-1)) hx hb hr (fun t ht hW => ⟨⟨(-1), mem, rfl, ⟨rfl, rfl⟩, by show va_P _ _ _ t.heap; rw [ht]; exact hP⟩, hS.F ht⟩) hS.2.2 d_Mo_here_24
  · exact absurd (by rw [ha, hb0]; decide) h
set_option maxHeartbeats 4000000 in
set_option maxRecDepth 100000 in
theorem m_Mo_line0 (l : Launch) {D : va_G} {cy : Nat → ClassId} {sz n : Nat} {ad : Nat → Nat} {mem : Nat → va_E} {J : Nat → Int32} (hn : 242 ≤ n) (h4 : mem 224 = moC ad J) (hb0 : J 1 = 0) : MI l D cy sz n ad y_Mo_line c_Mo_line 4 (some .int) ({ frames := 0, cells := 0, slots := 0, locals := 0 } : Room) mem [.ref (ad 224), .int (0)] (fun r mem' => r = 0 ∧ mem' = mem) := by
  refine Met.ofW (cc := c_Mo_line) (maxL := 4) (ret := (some .int)) (by decide) rfl ?_
  intro p e s m args below meth c s₁ B hml hv
  obtain ⟨rfl, E, hP, hD⟩ := hv
  have hx := B.exec
  have hb := B.bytes
  have hr := B.returns
  have hlocks := B.notSynchronized
  have Bx : MB p s m [.ref (ad 224), .int (0)].toArray c c_Mo_line "AbnfChartModel" D cy := ⟨hx, hb, tb_all (atoms_spec B.pre) E.2.1, findClass_of_methodNamed B.named, E.1⟩
  have hS : va_S (Az sz) s.heap s.heap [] := va_S.rf
  have hl := lv_entry ([.ref (ad 224), .int (0)]) (n := 4) (Nat.le_of_ble_eq_true rfl)
  rw [lg_entry_eq]
  generalize (lg_sl ([.ref (ad 224), .int (0)]) ++ List.replicate (4 - (lg_sl ([.ref (ad 224), .int (0)])).length) Slot.unset).toArray = ls at hl ⊢
  have hl : lv_has ls 4 [(0, .ref (ad 224)), (1, .int (0))] := hl
  refine lv_iload_n Bx.1 Bx.2.1 d_Mo_line_0 rfl (lv_at hl 1 rfl) ?_
  refine lv_istore_n (lv' := [(2, .int (0)), (0, .ref (ad 224)), (1, .int (0))]) Bx.1 Bx.2.1 d_Mo_line_1 rfl hl (by decide) rfl (fun ls hl => ?_)
  refine lv_iload_n Bx.1 Bx.2.1 d_Mo_line_2 rfl (lv_at hl 0 rfl) ?_
  refine lv_aload_n Bx.1 Bx.2.1 d_Mo_line_3 rfl (lv_at hl 1 rfl) ?_
  refine f_get Bx hP (by omega) h4 rfl inMo 1 (by decide) kw_657 rfl rfl d_Mo_line_4 ?_
  refine lv_icmp_ge Bx.1 Bx.2.1 d_Mo_line_7 rfl (fun h => ?_) (fun h => ?_)
  · refine lv_aload_n Bx.1 Bx.2.1 d_Mo_line_59 rfl (lv_at hl 1 rfl) ?_
    refine f_get Bx hP (by omega) h4 rfl inMo 1 (by decide) kw_657 rfl rfl d_Mo_line_60 ?_
    rw [hb0]
    exact W.iret (v := 0) hx hb hr (fun t ht hW => ⟨⟨0, mem, rfl, ⟨rfl, rfl⟩, by show va_P _ _ _ t.heap; rw [ht]; exact hP⟩, hS.F ht⟩) hS.2.2 d_Mo_line_63
  · exact absurd (by rw [hb0]; decide) h
set_option maxHeartbeats 4000000 in
set_option maxRecDepth 100000 in
theorem m_Mo_wrong0 (l : Launch) {D : va_G} {cy : Nat → ClassId} {sz n : Nat} {ad : Nat → Nat} {mem : Nat → va_E} {J : Nat → Int32} {a b : Int32} (hn : 242 ≤ n) (h4 : mem 224 = moC ad J) (hb0 : J 17 = 0) : MV l D cy sz n ad y_Mo_wrong c_Mo_wrong 3 ({ frames := 0, cells := 0, slots := 0, locals := 0 } : Room) mem [.ref (ad 224), .int (a), .int (b)] (fun mem' => mem' = va_up mem 224 (moC ad (va_up (va_up J 17 a) 3 b))) := by
  refine Met.ofW (cc := c_Mo_wrong) (maxL := 3) (ret := none) (by decide) rfl ?_
  intro p e s m args below meth c s₁ B hml hv
  obtain ⟨rfl, E, hP, hD⟩ := hv
  have hx := B.exec
  have hb := B.bytes
  have hr := B.returns
  have hlocks := B.notSynchronized
  have Bx : MB p s m [.ref (ad 224), .int (a), .int (b)].toArray c c_Mo_wrong "AbnfChartModel" D cy := ⟨hx, hb, tb_all (atoms_spec B.pre) E.2.1, findClass_of_methodNamed B.named, E.1⟩
  have hS : va_S (Az sz) s.heap s.heap [] := va_S.rf
  have hl := lv_entry ([.ref (ad 224), .int (a), .int (b)]) (n := 3) (Nat.le_of_ble_eq_true rfl)
  rw [lg_entry_eq]
  generalize (lg_sl ([.ref (ad 224), .int (a), .int (b)]) ++ List.replicate (3 - (lg_sl ([.ref (ad 224), .int (a), .int (b)])).length) Slot.unset).toArray = ls at hl ⊢
  have hl : lv_has ls 3 [(0, .ref (ad 224)), (1, .int (a)), (2, .int (b))] := hl
  refine lv_aload_n Bx.1 Bx.2.1 d_Mo_wrong_0 rfl (lv_at hl 0 rfl) ?_
  refine f_get Bx hP (by omega) h4 rfl inMo 17 (by decide) kw_673 rfl rfl d_Mo_wrong_1 ?_
  refine lv_if_ne Bx.1 Bx.2.1 d_Mo_wrong_4 rfl (fun h => ?_) (fun h => ?_)
  · exact absurd hb0 h
  · refine lv_aload_n Bx.1 Bx.2.1 d_Mo_wrong_7 rfl (lv_at hl 0 rfl) ?_
    refine lv_iload_n Bx.1 Bx.2.1 d_Mo_wrong_8 rfl (lv_at hl 1 rfl) ?_
    refine f_put Bx hP hD hS (by omega) h4 rfl inMo tyMo okMo nmMo 17 (by decide) kw_673 rfl rfl rfl rfl (Nat.le_of_ble_eq_true rfl) d_Mo_wrong_9 (fun H locs hP hS => ?_)
    obtain ⟨mem1, e_mem1⟩ : ∃ z, z = va_up mem (224) (.inr (7, [.int (J 0), .int (J 1), .ref (ad 225), .int (J 3), .int (J 4), .ref (ad 226), .ref (ad 227), .int (J 7), .ref (ad 228), .ref (ad 229), .ref (ad 230), .ref (ad 231), .ref (ad 232), .ref (ad 233), .int (J 14), .ref (ad 234), .int (J 16), .int (a), .int (J 18), .ref (ad 235), .ref (ad 236), .ref (ad 237), .ref (ad 238), .ref (ad 239), .int (J 24), .ref (ad 240), .int (J 26), .ref (ad 241), .int (J 28)])) := ⟨_, rfl⟩
    have hP : va_P D vcl (fw n ad mem1) H := by rw [e_mem1]; exact hP
    have hD : va_D (Az sz) (fw n ad mem1) := fw_D hD
    have h_mem1 : mem1 (224) = .inr (7, [.int (J 0), .int (J 1), .ref (ad 225), .int (J 3), .int (J 4), .ref (ad 226), .ref (ad 227), .int (J 7), .ref (ad 228), .ref (ad 229), .ref (ad 230), .ref (ad 231), .ref (ad 232), .ref (ad 233), .int (J 14), .ref (ad 234), .int (J 16), .int (a), .int (J 18), .ref (ad 235), .ref (ad 236), .ref (ad 237), .ref (ad 238), .ref (ad 239), .int (J 24), .ref (ad 240), .int (J 26), .ref (ad 241), .int (J 28)]) := by rw [e_mem1, va_up_self]
    refine lv_aload_n Bx.1 Bx.2.1 d_Mo_wrong_12 rfl (lv_at hl 0 rfl) ?_
    refine lv_iload_n Bx.1 Bx.2.1 d_Mo_wrong_13 rfl (lv_at hl 2 rfl) ?_
    refine f_put Bx hP hD hS (by omega) h_mem1 rfl inMo tyMo okMo nmMo 3 (by decide) kw_659 rfl rfl rfl rfl (Nat.le_of_ble_eq_true rfl) d_Mo_wrong_14 (fun H locs hP hS => ?_)
    obtain ⟨mem2, e_mem2⟩ : ∃ z, z = va_up mem1 (224) (.inr (7, [.int (J 0), .int (J 1), .ref (ad 225), .int (b), .int (J 4), .ref (ad 226), .ref (ad 227), .int (J 7), .ref (ad 228), .ref (ad 229), .ref (ad 230), .ref (ad 231), .ref (ad 232), .ref (ad 233), .int (J 14), .ref (ad 234), .int (J 16), .int (a), .int (J 18), .ref (ad 235), .ref (ad 236), .ref (ad 237), .ref (ad 238), .ref (ad 239), .int (J 24), .ref (ad 240), .int (J 26), .ref (ad 241), .int (J 28)])) := ⟨_, rfl⟩
    have hP : va_P D vcl (fw n ad mem2) H := by rw [e_mem2]; exact hP
    have hD : va_D (Az sz) (fw n ad mem2) := fw_D hD
    have h_mem2 : mem2 (224) = .inr (7, [.int (J 0), .int (J 1), .ref (ad 225), .int (b), .int (J 4), .ref (ad 226), .ref (ad 227), .int (J 7), .ref (ad 228), .ref (ad 229), .ref (ad 230), .ref (ad 231), .ref (ad 232), .ref (ad 233), .int (J 14), .ref (ad 234), .int (J 16), .int (a), .int (J 18), .ref (ad 235), .ref (ad 236), .ref (ad 237), .ref (ad 238), .ref (ad 239), .int (J 24), .ref (ad 240), .int (J 26), .ref (ad 241), .int (J 28)]) := by rw [e_mem2, va_up_self]
    exact W.vret hx hb hr (fun t ht hW => ⟨⟨mem2, rfl, by rw [e_mem2, e_mem1, up_up]; rfl, by show va_P _ _ _ t.heap; rw [ht]; exact hP⟩, hS.F ht⟩) hS.2.2 d_Mo_wrong_17
set_option maxHeartbeats 4000000 in
set_option maxRecDepth 100000 in
theorem m_Mo_read0 (l : Launch) {D : va_G} {cy : Nat → ClassId} {sz n : Nat} {ad : Nat → Nat} {mem : Nat → va_E} {J : Nat → Int32} (hn : 242 ≤ n) (h4 : mem 224 = moC ad J) (hb0 : J 1 = 0) : MI l D cy sz n ad y_Mo_read c_Mo_read 2 (some .int) ({ frames := 2, cells := 0, slots := 0, locals := 60 } : Room) mem [.ref (ad 224)] (fun r mem' => r = 0 ∧ ∃ J' : Nat → Int32, mem' = va_up mem 224 (moC ad J') ∧ J' 0 = 1) := by
  refine Met.ofW (cc := c_Mo_read) (maxL := 2) (ret := (some .int)) (by decide) rfl ?_
  intro p e s m args below meth c s₁ B hml hv
  obtain ⟨rfl, E, hP, hD⟩ := hv
  have hx := B.exec
  have hb := B.bytes
  have hr := B.returns
  have hlocks := B.notSynchronized
  have Bx : MB p s m [.ref (ad 224)].toArray c c_Mo_read "AbnfChartModel" D cy := ⟨hx, hb, tb_all (atoms_spec B.pre) E.2.1, findClass_of_methodNamed B.named, E.1⟩
  have hS : va_S (Az sz) s.heap s.heap [] := va_S.rf
  have hl := lv_entry ([.ref (ad 224)]) (n := 2) (Nat.le_of_ble_eq_true rfl)
  rw [lg_entry_eq]
  generalize (lg_sl ([.ref (ad 224)]) ++ List.replicate (2 - (lg_sl ([.ref (ad 224)])).length) Slot.unset).toArray = ls at hl ⊢
  have hl : lv_has ls 2 [(0, .ref (ad 224))] := hl
  refine lv_aload_n Bx.1 Bx.2.1 d_Mo_read_0 rfl (lv_at hl 0 rfl) ?_
  refine lv_iconst (v := 0) Bx.1 Bx.2.1 d_Mo_read_1 (by decide) ?_
  refine f_put Bx hP hD hS (by omega) h4 rfl inMo tyMo okMo nmMo 0 (by decide) kw_656 rfl rfl rfl rfl (Nat.le_of_ble_eq_true rfl) d_Mo_read_2 (fun H locs hP hS => ?_)
  obtain ⟨mem1, e_mem1⟩ : ∃ z, z = va_up mem (224) (.inr (7, [.int (0), .int (J 1), .ref (ad 225), .int (J 3), .int (J 4), .ref (ad 226), .ref (ad 227), .int (J 7), .ref (ad 228), .ref (ad 229), .ref (ad 230), .ref (ad 231), .ref (ad 232), .ref (ad 233), .int (J 14), .ref (ad 234), .int (J 16), .int (J 17), .int (J 18), .ref (ad 235), .ref (ad 236), .ref (ad 237), .ref (ad 238), .ref (ad 239), .int (J 24), .ref (ad 240), .int (J 26), .ref (ad 241), .int (J 28)])) := ⟨_, rfl⟩
  have hP : va_P D vcl (fw n ad mem1) H := by rw [e_mem1]; exact hP
  have hD : va_D (Az sz) (fw n ad mem1) := fw_D hD
  have h_mem1 : mem1 (224) = .inr (7, [.int (0), .int (J 1), .ref (ad 225), .int (J 3), .int (J 4), .ref (ad 226), .ref (ad 227), .int (J 7), .ref (ad 228), .ref (ad 229), .ref (ad 230), .ref (ad 231), .ref (ad 232), .ref (ad 233), .int (J 14), .ref (ad 234), .int (J 16), .int (J 17), .int (J 18), .ref (ad 235), .ref (ad 236), .ref (ad 237), .ref (ad 238), .ref (ad 239), .int (J 24), .ref (ad 240), .int (J 26), .ref (ad 241), .int (J 28)]) := by rw [e_mem1, va_up_self]
  refine lv_aload_n Bx.1 Bx.2.1 d_Mo_read_5 rfl (lv_at hl 0 rfl) ?_
  refine lv_iconst (v := 0) Bx.1 Bx.2.1 d_Mo_read_6 (by decide) ?_
  refine f_put Bx hP hD hS (by omega) h_mem1 rfl inMo tyMo okMo nmMo 17 (by decide) kw_673 rfl rfl rfl rfl (Nat.le_of_ble_eq_true rfl) d_Mo_read_7 (fun H locs hP hS => ?_)
  obtain ⟨mem2, e_mem2⟩ : ∃ z, z = va_up mem1 (224) (.inr (7, [.int (0), .int (J 1), .ref (ad 225), .int (J 3), .int (J 4), .ref (ad 226), .ref (ad 227), .int (J 7), .ref (ad 228), .ref (ad 229), .ref (ad 230), .ref (ad 231), .ref (ad 232), .ref (ad 233), .int (J 14), .ref (ad 234), .int (J 16), .int (0), .int (J 18), .ref (ad 235), .ref (ad 236), .ref (ad 237), .ref (ad 238), .ref (ad 239), .int (J 24), .ref (ad 240), .int (J 26), .ref (ad 241), .int (J 28)])) := ⟨_, rfl⟩
  have hP : va_P D vcl (fw n ad mem2) H := by rw [e_mem2]; exact hP
  have hD : va_D (Az sz) (fw n ad mem2) := fw_D hD
  have h_mem2 : mem2 (224) = .inr (7, [.int (0), .int (J 1), .ref (ad 225), .int (J 3), .int (J 4), .ref (ad 226), .ref (ad 227), .int (J 7), .ref (ad 228), .ref (ad 229), .ref (ad 230), .ref (ad 231), .ref (ad 232), .ref (ad 233), .int (J 14), .ref (ad 234), .int (J 16), .int (0), .int (J 18), .ref (ad 235), .ref (ad 236), .ref (ad 237), .ref (ad 238), .ref (ad 239), .int (J 24), .ref (ad 240), .int (J 26), .ref (ad 241), .int (J 28)]) := by rw [e_mem2, va_up_self]
  refine lv_aload_n Bx.1 Bx.2.1 d_Mo_read_10 rfl (lv_at hl 0 rfl) ?_
  refine lv_iconst (v := -1) Bx.1 Bx.2.1 d_Mo_read_11 (by decide) ?_
  refine f_put Bx hP hD hS (by omega) h_mem2 rfl inMo tyMo okMo nmMo 3 (by decide) kw_659 rfl rfl rfl rfl (Nat.le_of_ble_eq_true rfl) d_Mo_read_12 (fun H locs hP hS => ?_)
  obtain ⟨mem3, e_mem3⟩ : ∃ z, z = va_up mem2 (224) (.inr (7, [.int (0), .int (J 1), .ref (ad 225), .int ((-1)), .int (J 4), .ref (ad 226), .ref (ad 227), .int (J 7), .ref (ad 228), .ref (ad 229), .ref (ad 230), .ref (ad 231), .ref (ad 232), .ref (ad 233), .int (J 14), .ref (ad 234), .int (J 16), .int (0), .int (J 18), .ref (ad 235), .ref (ad 236), .ref (ad 237), .ref (ad 238), .ref (ad 239), .int (J 24), .ref (ad 240), .int (J 26), .ref (ad 241), .int (J 28)])) := ⟨_, rfl⟩
  have hP : va_P D vcl (fw n ad mem3) H := by rw [e_mem3]; exact hP
  have hD : va_D (Az sz) (fw n ad mem3) := fw_D hD
  have h_mem3 : mem3 (224) = .inr (7, [.int (0), .int (J 1), .ref (ad 225), .int ((-1)), .int (J 4), .ref (ad 226), .ref (ad 227), .int (J 7), .ref (ad 228), .ref (ad 229), .ref (ad 230), .ref (ad 231), .ref (ad 232), .ref (ad 233), .int (J 14), .ref (ad 234), .int (J 16), .int (0), .int (J 18), .ref (ad 235), .ref (ad 236), .ref (ad 237), .ref (ad 238), .ref (ad 239), .int (J 24), .ref (ad 240), .int (J 26), .ref (ad 241), .int (J 28)]) := by rw [e_mem3, va_up_self]
  refine lv_aload_n Bx.1 Bx.2.1 d_Mo_read_15 rfl (lv_at hl 0 rfl) ?_
  refine lv_iconst (v := 0) Bx.1 Bx.2.1 d_Mo_read_16 (by decide) ?_
  refine f_put Bx hP hD hS (by omega) h_mem3 rfl inMo tyMo okMo nmMo 4 (by decide) kw_660 rfl rfl rfl rfl (Nat.le_of_ble_eq_true rfl) d_Mo_read_17 (fun H locs hP hS => ?_)
  obtain ⟨mem4, e_mem4⟩ : ∃ z, z = va_up mem3 (224) (.inr (7, [.int (0), .int (J 1), .ref (ad 225), .int ((-1)), .int (0), .ref (ad 226), .ref (ad 227), .int (J 7), .ref (ad 228), .ref (ad 229), .ref (ad 230), .ref (ad 231), .ref (ad 232), .ref (ad 233), .int (J 14), .ref (ad 234), .int (J 16), .int (0), .int (J 18), .ref (ad 235), .ref (ad 236), .ref (ad 237), .ref (ad 238), .ref (ad 239), .int (J 24), .ref (ad 240), .int (J 26), .ref (ad 241), .int (J 28)])) := ⟨_, rfl⟩
  have hP : va_P D vcl (fw n ad mem4) H := by rw [e_mem4]; exact hP
  have hD : va_D (Az sz) (fw n ad mem4) := fw_D hD
  have h_mem4 : mem4 (224) = .inr (7, [.int (0), .int (J 1), .ref (ad 225), .int ((-1)), .int (0), .ref (ad 226), .ref (ad 227), .int (J 7), .ref (ad 228), .ref (ad 229), .ref (ad 230), .ref (ad 231), .ref (ad 232), .ref (ad 233), .int (J 14), .ref (ad 234), .int (J 16), .int (0), .int (J 18), .ref (ad 235), .ref (ad 236), .ref (ad 237), .ref (ad 238), .ref (ad 239), .int (J 24), .ref (ad 240), .int (J 26), .ref (ad 241), .int (J 28)]) := by rw [e_mem4, va_up_self]
  refine lv_aload_n Bx.1 Bx.2.1 d_Mo_read_20 rfl (lv_at hl 0 rfl) ?_
  refine lv_iconst (v := 0) Bx.1 Bx.2.1 d_Mo_read_21 (by decide) ?_
  refine f_put Bx hP hD hS (by omega) h_mem4 rfl inMo tyMo okMo nmMo 7 (by decide) kw_663 rfl rfl rfl rfl (Nat.le_of_ble_eq_true rfl) d_Mo_read_22 (fun H locs hP hS => ?_)
  obtain ⟨mem5, e_mem5⟩ : ∃ z, z = va_up mem4 (224) (.inr (7, [.int (0), .int (J 1), .ref (ad 225), .int ((-1)), .int (0), .ref (ad 226), .ref (ad 227), .int (0), .ref (ad 228), .ref (ad 229), .ref (ad 230), .ref (ad 231), .ref (ad 232), .ref (ad 233), .int (J 14), .ref (ad 234), .int (J 16), .int (0), .int (J 18), .ref (ad 235), .ref (ad 236), .ref (ad 237), .ref (ad 238), .ref (ad 239), .int (J 24), .ref (ad 240), .int (J 26), .ref (ad 241), .int (J 28)])) := ⟨_, rfl⟩
  have hP : va_P D vcl (fw n ad mem5) H := by rw [e_mem5]; exact hP
  have hD : va_D (Az sz) (fw n ad mem5) := fw_D hD
  have h_mem5 : mem5 (224) = .inr (7, [.int (0), .int (J 1), .ref (ad 225), .int ((-1)), .int (0), .ref (ad 226), .ref (ad 227), .int (0), .ref (ad 228), .ref (ad 229), .ref (ad 230), .ref (ad 231), .ref (ad 232), .ref (ad 233), .int (J 14), .ref (ad 234), .int (J 16), .int (0), .int (J 18), .ref (ad 235), .ref (ad 236), .ref (ad 237), .ref (ad 238), .ref (ad 239), .int (J 24), .ref (ad 240), .int (J 26), .ref (ad 241), .int (J 28)]) := by rw [e_mem5, va_up_self]
  refine lv_aload_n Bx.1 Bx.2.1 d_Mo_read_25 rfl (lv_at hl 0 rfl) ?_
  refine lv_iconst (v := 0) Bx.1 Bx.2.1 d_Mo_read_26 (by decide) ?_
  refine f_put Bx hP hD hS (by omega) h_mem5 rfl inMo tyMo okMo nmMo 14 (by decide) kw_670 rfl rfl rfl rfl (Nat.le_of_ble_eq_true rfl) d_Mo_read_27 (fun H locs hP hS => ?_)
  obtain ⟨mem6, e_mem6⟩ : ∃ z, z = va_up mem5 (224) (.inr (7, [.int (0), .int (J 1), .ref (ad 225), .int ((-1)), .int (0), .ref (ad 226), .ref (ad 227), .int (0), .ref (ad 228), .ref (ad 229), .ref (ad 230), .ref (ad 231), .ref (ad 232), .ref (ad 233), .int (0), .ref (ad 234), .int (J 16), .int (0), .int (J 18), .ref (ad 235), .ref (ad 236), .ref (ad 237), .ref (ad 238), .ref (ad 239), .int (J 24), .ref (ad 240), .int (J 26), .ref (ad 241), .int (J 28)])) := ⟨_, rfl⟩
  have hP : va_P D vcl (fw n ad mem6) H := by rw [e_mem6]; exact hP
  have hD : va_D (Az sz) (fw n ad mem6) := fw_D hD
  have h_mem6 : mem6 (224) = .inr (7, [.int (0), .int (J 1), .ref (ad 225), .int ((-1)), .int (0), .ref (ad 226), .ref (ad 227), .int (0), .ref (ad 228), .ref (ad 229), .ref (ad 230), .ref (ad 231), .ref (ad 232), .ref (ad 233), .int (0), .ref (ad 234), .int (J 16), .int (0), .int (J 18), .ref (ad 235), .ref (ad 236), .ref (ad 237), .ref (ad 238), .ref (ad 239), .int (J 24), .ref (ad 240), .int (J 26), .ref (ad 241), .int (J 28)]) := by rw [e_mem6, va_up_self]
  refine lv_aload_n Bx.1 Bx.2.1 d_Mo_read_30 rfl (lv_at hl 0 rfl) ?_
  refine lv_iconst (v := 1) Bx.1 Bx.2.1 d_Mo_read_31 (by decide) ?_
  refine f_put Bx hP hD hS (by omega) h_mem6 rfl inMo tyMo okMo nmMo 26 (by decide) kw_682 rfl rfl rfl rfl (Nat.le_of_ble_eq_true rfl) d_Mo_read_32 (fun H locs hP hS => ?_)
  obtain ⟨mem7, e_mem7⟩ : ∃ z, z = va_up mem6 (224) (.inr (7, [.int (0), .int (J 1), .ref (ad 225), .int ((-1)), .int (0), .ref (ad 226), .ref (ad 227), .int (0), .ref (ad 228), .ref (ad 229), .ref (ad 230), .ref (ad 231), .ref (ad 232), .ref (ad 233), .int (0), .ref (ad 234), .int (J 16), .int (0), .int (J 18), .ref (ad 235), .ref (ad 236), .ref (ad 237), .ref (ad 238), .ref (ad 239), .int (J 24), .ref (ad 240), .int (1), .ref (ad 241), .int (J 28)])) := ⟨_, rfl⟩
  have hP : va_P D vcl (fw n ad mem7) H := by rw [e_mem7]; exact hP
  have hD : va_D (Az sz) (fw n ad mem7) := fw_D hD
  have h_mem7 : mem7 (224) = .inr (7, [.int (0), .int (J 1), .ref (ad 225), .int ((-1)), .int (0), .ref (ad 226), .ref (ad 227), .int (0), .ref (ad 228), .ref (ad 229), .ref (ad 230), .ref (ad 231), .ref (ad 232), .ref (ad 233), .int (0), .ref (ad 234), .int (J 16), .int (0), .int (J 18), .ref (ad 235), .ref (ad 236), .ref (ad 237), .ref (ad 238), .ref (ad 239), .int (J 24), .ref (ad 240), .int (1), .ref (ad 241), .int (J 28)]) := by rw [e_mem7, va_up_self]
  refine lv_aload_n Bx.1 Bx.2.1 d_Mo_read_35 rfl (lv_at hl 0 rfl) ?_
  refine lv_iconst (v := 0) Bx.1 Bx.2.1 d_Mo_read_36 (by decide) ?_
  refine f_put Bx hP hD hS (by omega) h_mem7 rfl inMo tyMo okMo nmMo 28 (by decide) kw_684 rfl rfl rfl rfl (Nat.le_of_ble_eq_true rfl) d_Mo_read_37 (fun H locs hP hS => ?_)
  obtain ⟨mem8, e_mem8⟩ : ∃ z, z = va_up mem7 (224) (.inr (7, [.int (0), .int (J 1), .ref (ad 225), .int ((-1)), .int (0), .ref (ad 226), .ref (ad 227), .int (0), .ref (ad 228), .ref (ad 229), .ref (ad 230), .ref (ad 231), .ref (ad 232), .ref (ad 233), .int (0), .ref (ad 234), .int (J 16), .int (0), .int (J 18), .ref (ad 235), .ref (ad 236), .ref (ad 237), .ref (ad 238), .ref (ad 239), .int (J 24), .ref (ad 240), .int (1), .ref (ad 241), .int (0)])) := ⟨_, rfl⟩
  have hP : va_P D vcl (fw n ad mem8) H := by rw [e_mem8]; exact hP
  have hD : va_D (Az sz) (fw n ad mem8) := fw_D hD
  have h_mem8 : mem8 (224) = .inr (7, [.int (0), .int (J 1), .ref (ad 225), .int ((-1)), .int (0), .ref (ad 226), .ref (ad 227), .int (0), .ref (ad 228), .ref (ad 229), .ref (ad 230), .ref (ad 231), .ref (ad 232), .ref (ad 233), .int (0), .ref (ad 234), .int (J 16), .int (0), .int (J 18), .ref (ad 235), .ref (ad 236), .ref (ad 237), .ref (ad 238), .ref (ad 239), .int (J 24), .ref (ad 240), .int (1), .ref (ad 241), .int (0)]) := by rw [e_mem8, va_up_self]
  refine lv_aload_n Bx.1 Bx.2.1 d_Mo_read_40 rfl (lv_at hl 0 rfl) ?_
  refine lv_aload_n Bx.1 Bx.2.1 d_Mo_read_41 rfl (lv_at hl 0 rfl) ?_
  refine lv_iconst (v := 0) Bx.1 Bx.2.1 d_Mo_read_42 (by decide) ?_
  have hJa : mem8 224 = moC ad (va_up (va_up (va_up (va_up (va_up (va_up (va_up (va_up J 0 0) 17 0) 3 (-1)) 4 0) 7 0) 14 0) 26 1) 28 0) := h_mem8
  have hJ1 : (va_up (va_up (va_up (va_up (va_up (va_up (va_up (va_up J 0 0) 17 0) 3 (-1)) 4 0) 7 0) 14 0) 26 1) 28 0) 1 = 0 := hb0
  refine f_callVi (na := 1) (As := [.int (0)]) (rest := [.ref (ad 224)]) Bx hml E hP hD hS (by omega) h_mem8 rfl (m_Mo_line0 l hn hJa hJ1) kw_770 kw_772 sel_Mo_line kw_8 kw_773 (by decide +kernel) ⟨rfl, rfl⟩ ⟨Nat.le_of_ble_eq_true rfl, Nat.le_of_ble_eq_true rfl⟩ rfl hl.1 (Nat.le_of_ble_eq_true rfl) d_Mo_read_43 ⟨Nat.le_of_ble_eq_true rfl, Nat.le_of_ble_eq_true rfl⟩ (fun r9 mem10 H locs hq hP hS => ?_)
  obtain ⟨hr1, mem10e⟩ := hq
  rw [mem10e] at hP
  subst hr1
  refine f_put Bx hP hD hS (by omega) h_mem8 rfl inMo tyMo okMo nmMo 16 (by decide) kw_672 rfl rfl rfl rfl (Nat.le_of_ble_eq_true rfl) d_Mo_read_46 (fun H locs hP hS => ?_)
  obtain ⟨mem11, e_mem11⟩ : ∃ z, z = va_up mem8 (224) (.inr (7, [.int (0), .int (J 1), .ref (ad 225), .int ((-1)), .int (0), .ref (ad 226), .ref (ad 227), .int (0), .ref (ad 228), .ref (ad 229), .ref (ad 230), .ref (ad 231), .ref (ad 232), .ref (ad 233), .int (0), .ref (ad 234), .int (0), .int (0), .int (J 18), .ref (ad 235), .ref (ad 236), .ref (ad 237), .ref (ad 238), .ref (ad 239), .int (J 24), .ref (ad 240), .int (1), .ref (ad 241), .int (0)])) := ⟨_, rfl⟩
  have hP : va_P D vcl (fw n ad mem11) H := by rw [e_mem11]; exact hP
  have hD : va_D (Az sz) (fw n ad mem11) := fw_D hD
  have h_mem11 : mem11 (224) = .inr (7, [.int (0), .int (J 1), .ref (ad 225), .int ((-1)), .int (0), .ref (ad 226), .ref (ad 227), .int (0), .ref (ad 228), .ref (ad 229), .ref (ad 230), .ref (ad 231), .ref (ad 232), .ref (ad 233), .int (0), .ref (ad 234), .int (0), .int (0), .int (J 18), .ref (ad 235), .ref (ad 236), .ref (ad 237), .ref (ad 238), .ref (ad 239), .int (J 24), .ref (ad 240), .int (1), .ref (ad 241), .int (0)]) := by rw [e_mem11, va_up_self]
  have hJb : mem11 224 = moC ad (va_up (va_up (va_up (va_up (va_up (va_up (va_up (va_up (va_up J 0 0) 17 0) 3 (-1)) 4 0) 7 0) 14 0) 26 1) 28 0) 16 0) := h_mem11
  refine lv_iconst (v := 1) Bx.1 Bx.2.1 d_Mo_read_49 (by decide) ?_
  refine lv_istore_n (lv' := [(1, .int (1)), (0, .ref (ad 224))]) Bx.1 Bx.2.1 d_Mo_read_50 rfl hl (by decide) rfl (fun ls hl => ?_)
  refine lv_iload_n Bx.1 Bx.2.1 d_Mo_read_51 rfl (lv_at hl 0 rfl) ?_
  refine lv_if_eq Bx.1 Bx.2.1 d_Mo_read_52 rfl (fun h => ?_) (fun h => ?_)
  · exact absurd h (by decide)
  · refine lv_aload_n Bx.1 Bx.2.1 d_Mo_read_55 rfl (lv_at hl 1 rfl) ?_
    refine f_get Bx hP (by omega) h_mem11 rfl inMo 17 (by decide) kw_673 rfl rfl d_Mo_read_56 ?_
    refine lv_if_ne Bx.1 Bx.2.1 d_Mo_read_59 rfl (fun h2 => ?_) (fun h2 => ?_)
    · exact absurd rfl h2
    · refine lv_aload_n Bx.1 Bx.2.1 d_Mo_read_62 rfl (lv_at hl 1 rfl) ?_
      refine f_callVi (na := 0) (As := []) (rest := []) Bx hml E hP hD hS (by omega) h_mem11 rfl (m_Mo_here0 l hn hJb rfl hb0) kw_778 kw_780 sel_Mo_here kw_8 kw_781 (by decide +kernel) ⟨rfl, rfl⟩ ⟨Nat.le_of_ble_eq_true rfl, Nat.le_of_ble_eq_true rfl⟩ rfl hl.1 (Nat.le_of_ble_eq_true rfl) d_Mo_read_63 ⟨Nat.le_of_ble_eq_true rfl, Nat.le_of_ble_eq_true rfl⟩ (fun r12 mem13 H locs hq hP hS => ?_)
      obtain ⟨hr2, mem13e⟩ := hq
      rw [mem13e] at hP
      subst hr2
      refine f_callSi (na := 1) (As := [.int ((-1))]) (rest := []) Bx hml E.2.1 (m_Mo_letter l (-1)) kw_782 kw_783 kw_8 kw_784 (by decide +kernel) ⟨rfl, rfl⟩ ⟨Nat.le_of_ble_eq_true rfl, Nat.le_of_ble_eq_true rfl⟩ rfl hl.1 (Nat.le_of_ble_eq_true rfl) d_Mo_read_66 ⟨Nat.le_of_ble_eq_true rfl, Nat.le_of_ble_eq_true rfl⟩ (fun r14 hr3 => ?_)
      subst hr3
      refine lv_if_eq Bx.1 Bx.2.1 d_Mo_read_69 rfl (fun h5 => ?_) (fun h5 => ?_)
      · refine lv_aload_n Bx.1 Bx.2.1 d_Mo_read_79 rfl (lv_at hl 1 rfl) ?_
        refine lv_iconst (v := 1) Bx.1 Bx.2.1 d_Mo_read_80 (by decide) ?_
        refine lv_aload_n Bx.1 Bx.2.1 d_Mo_read_81 rfl (lv_at hl 1 rfl) ?_
        refine f_get Bx hP (by omega) h_mem11 rfl inMo 16 (by decide) kw_672 rfl rfl d_Mo_read_82 ?_
        refine f_callVv (na := 2) (As := [.int (1), .int (0)]) (rest := []) Bx hml E hP hD hS (by omega) h_mem11 rfl (m_Mo_wrong0 l hn hJb rfl) kw_799 kw_801 sel_Mo_wrong kw_8 kw_802 (by decide +kernel) ⟨rfl, rfl⟩ ⟨Nat.le_of_ble_eq_true rfl, Nat.le_of_ble_eq_true rfl⟩ rfl hl.1 (Nat.le_of_ble_eq_true rfl) d_Mo_read_85 ⟨Nat.le_of_ble_eq_true rfl, Nat.le_of_ble_eq_true rfl⟩ (fun mem16 H locs hq3 hP hS => ?_)
        have hD : va_D (Az sz) (fw n ad mem16) := fw_D hD
        have hJc : mem16 224 = moC ad (va_up (va_up (va_up (va_up (va_up (va_up (va_up (va_up (va_up (va_up (va_up J 0 0) 17 0) 3 (-1)) 4 0) 7 0) 14 0) 26 1) 28 0) 16 0) 17 1) 3 0) := by rw [hq3, va_up_self]
        refine lv_aload_n Bx.1 Bx.2.1 d_Mo_read_88 rfl (lv_at hl 1 rfl) ?_
        refine f_get Bx hP (by omega) hJc rfl inMo 17 (by decide) kw_673 rfl rfl d_Mo_read_89 ?_
        refine lv_if_ne Bx.1 Bx.2.1 d_Mo_read_92 rfl (fun h6 => ?_) (fun h6 => ?_)
        · refine lv_iconst (v := 0) Bx.1 Bx.2.1 d_Mo_read_127 (by decide) ?_
          refine lv_istore_n (lv' := [(1, .int (0)), (0, .ref (ad 224))]) Bx.1 Bx.2.1 d_Mo_read_128 rfl hl (by decide) rfl (fun ls hl => ?_)
          refine lv_iload_n Bx.1 Bx.2.1 d_Mo_read_129 rfl (lv_at hl 0 rfl) ?_
          refine lv_if_eq Bx.1 Bx.2.1 d_Mo_read_130 rfl (fun h7 => ?_) (fun h7 => ?_)
          · refine lv_iload_n Bx.1 Bx.2.1 d_Mo_read_51 rfl (lv_at hl 0 rfl) ?_
            refine lv_if_eq Bx.1 Bx.2.1 d_Mo_read_52 rfl (fun h8 => ?_) (fun h8 => ?_)
            · refine lv_aload_n Bx.1 Bx.2.1 d_Mo_read_150 rfl (lv_at hl 1 rfl) ?_
              refine f_get Bx hP (by omega) hJc rfl inMo 17 (by decide) kw_673 rfl rfl d_Mo_read_151 ?_
              refine lv_if_ne Bx.1 Bx.2.1 d_Mo_read_154 rfl (fun h9 => ?_) (fun h9 => ?_)
              · refine lv_aload_n Bx.1 Bx.2.1 d_Mo_read_162 rfl (lv_at hl 1 rfl) ?_
                refine lv_iconst (v := 0) Bx.1 Bx.2.1 d_Mo_read_163 (by decide) ?_
                refine f_put Bx hP hD hS (by omega) hJc rfl inMo tyMo okMo nmMo 4 (by decide) kw_660 rfl rfl rfl rfl (Nat.le_of_ble_eq_true rfl) d_Mo_read_164 (fun H locs hP hS => ?_)
                obtain ⟨mem17, e_mem17⟩ : ∃ z, z = va_up mem16 (224) (.inr (7, [.int (0), .int (J 1), .ref (ad 225), .int (0), .int (0), .ref (ad 226), .ref (ad 227), .int (0), .ref (ad 228), .ref (ad 229), .ref (ad 230), .ref (ad 231), .ref (ad 232), .ref (ad 233), .int (0), .ref (ad 234), .int (0), .int (1), .int (J 18), .ref (ad 235), .ref (ad 236), .ref (ad 237), .ref (ad 238), .ref (ad 239), .int (J 24), .ref (ad 240), .int (1), .ref (ad 241), .int (0)])) := ⟨_, rfl⟩
                have hP : va_P D vcl (fw n ad mem17) H := by rw [e_mem17]; exact hP
                have hD : va_D (Az sz) (fw n ad mem17) := fw_D hD
                have h_mem17 : mem17 (224) = .inr (7, [.int (0), .int (J 1), .ref (ad 225), .int (0), .int (0), .ref (ad 226), .ref (ad 227), .int (0), .ref (ad 228), .ref (ad 229), .ref (ad 230), .ref (ad 231), .ref (ad 232), .ref (ad 233), .int (0), .ref (ad 234), .int (0), .int (1), .int (J 18), .ref (ad 235), .ref (ad 236), .ref (ad 237), .ref (ad 238), .ref (ad 239), .int (J 24), .ref (ad 240), .int (1), .ref (ad 241), .int (0)]) := by rw [e_mem17, va_up_self]
                refine lv_aload_n Bx.1 Bx.2.1 d_Mo_read_167 rfl (lv_at hl 1 rfl) ?_
                refine lv_iconst (v := 0) Bx.1 Bx.2.1 d_Mo_read_168 (by decide) ?_
                refine f_put Bx hP hD hS (by omega) h_mem17 rfl inMo tyMo okMo nmMo 7 (by decide) kw_663 rfl rfl rfl rfl (Nat.le_of_ble_eq_true rfl) d_Mo_read_169 (fun H locs hP hS => ?_)
                obtain ⟨mem18, e_mem18⟩ : ∃ z, z = va_up mem17 (224) (.inr (7, [.int (0), .int (J 1), .ref (ad 225), .int (0), .int (0), .ref (ad 226), .ref (ad 227), .int (0), .ref (ad 228), .ref (ad 229), .ref (ad 230), .ref (ad 231), .ref (ad 232), .ref (ad 233), .int (0), .ref (ad 234), .int (0), .int (1), .int (J 18), .ref (ad 235), .ref (ad 236), .ref (ad 237), .ref (ad 238), .ref (ad 239), .int (J 24), .ref (ad 240), .int (1), .ref (ad 241), .int (0)])) := ⟨_, rfl⟩
                have hP : va_P D vcl (fw n ad mem18) H := by rw [e_mem18]; exact hP
                have hD : va_D (Az sz) (fw n ad mem18) := fw_D hD
                have h_mem18 : mem18 (224) = .inr (7, [.int (0), .int (J 1), .ref (ad 225), .int (0), .int (0), .ref (ad 226), .ref (ad 227), .int (0), .ref (ad 228), .ref (ad 229), .ref (ad 230), .ref (ad 231), .ref (ad 232), .ref (ad 233), .int (0), .ref (ad 234), .int (0), .int (1), .int (J 18), .ref (ad 235), .ref (ad 236), .ref (ad 237), .ref (ad 238), .ref (ad 239), .int (J 24), .ref (ad 240), .int (1), .ref (ad 241), .int (0)]) := by rw [e_mem18, va_up_self]
                have hJd : mem18 224 = moC ad (va_up (va_up (va_up (va_up (va_up (va_up (va_up (va_up (va_up (va_up (va_up (va_up (va_up J 0 0) 17 0) 3 (-1)) 4 0) 7 0) 14 0) 26 1) 28 0) 16 0) 17 1) 3 0) 4 0) 7 0) := h_mem18
                refine lv_aload_n Bx.1 Bx.2.1 d_Mo_read_172 rfl (lv_at hl 1 rfl) ?_
                refine lv_aload_n Bx.1 Bx.2.1 d_Mo_read_173 rfl (lv_at hl 1 rfl) ?_
                refine f_get Bx hP (by omega) h_mem18 rfl inMo 17 (by decide) kw_673 rfl rfl d_Mo_read_174 ?_
                refine f_callVi (na := 1) (As := [.int (1)]) (rest := []) Bx hml E hP hD hS (by omega) h_mem18 rfl (m_Mo_fail l hn hJd) kw_757 kw_759 sel_Mo_fail kw_8 kw_760 (by decide +kernel) ⟨rfl, rfl⟩ ⟨Nat.le_of_ble_eq_true rfl, Nat.le_of_ble_eq_true rfl⟩ rfl hl.1 (Nat.le_of_ble_eq_true rfl) d_Mo_read_177 ⟨Nat.le_of_ble_eq_true rfl, Nat.le_of_ble_eq_true rfl⟩ (fun r19 mem20 H locs hq5 hP hS => ?_)
                have hD : va_D (Az sz) (fw n ad mem20) := fw_D hD
                obtain ⟨hq6, hq5⟩ := hq5
                subst hq6
                exact W.iret (v := 0) hx hb hr (fun t ht hW => ⟨⟨0, mem20, rfl, ⟨rfl, va_up (va_up (va_up (va_up (va_up (va_up (va_up (va_up (va_up (va_up (va_up (va_up (va_up (va_up J 0 0) 17 0) 3 (-1)) 4 0) 7 0) 14 0) 26 1) 28 0) 16 0) 17 1) 3 0) 4 0) 7 0) 0 1, by rw [hq5, e_mem18, e_mem17, up_up, up_up, hq3, up_up, e_mem11, up_up, e_mem8, up_up, e_mem7, up_up, e_mem6, up_up, e_mem5, up_up, e_mem4, up_up, e_mem3, up_up, e_mem2, up_up, e_mem1, up_up], va_up_self _ _ _⟩, by show va_P _ _ _ t.heap; rw [ht]; exact hP⟩, hS.F ht⟩) hS.2.2 d_Mo_read_180
              · exact absurd h9 (show ¬ ((1 : Int32) = 0) by decide)
            · exact absurd rfl h8
          · exact absurd rfl h7
        · exact absurd h6 (show ¬ ((1 : Int32) = 0) by decide)
      · exact absurd (by decide) h5
