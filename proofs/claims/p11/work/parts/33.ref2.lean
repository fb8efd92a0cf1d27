set_option maxHeartbeats 4000000 in
set_option maxRecDepth 100000 in
theorem m_Mo_wrong (l : Launch) {D : va_G} {cy : Nat → ClassId} {sz n : Nat} {ad : Nat → Nat} {mem : Nat → va_E} {J : Nat → Int32} {A : Nat → Nat → Int32} {nm : Nat → Int64} {m0 : Nat → va_E} {ho wh : Int32} (hn : 242 ≤ n) (hM : MW cy ad J A nm m0 mem) (h17 : J 17 = 0 ∨ b12 (J 17)) (hho : b12 ho) : MV l D cy sz n ad y_Mo_wrong c_Mo_wrong 3 ({ frames := 0, cells := 0, slots := 0, locals := 0 } : Room) mem [.ref (ad 224), .int (ho), .int (wh)] (fun mem' => ∃ J', MW cy ad J' A nm m0 mem' ∧ wr J J') := by
  refine Met.ofW (cc := c_Mo_wrong) (maxL := 3) (ret := none) (by decide) rfl ?_
  intro p e s m args below meth c s₁ B hml hv
  obtain ⟨rfl, E, hP, hD⟩ := hv
  have hx := B.exec
  have hb := B.bytes
  have hr := B.returns
  have hlocks := B.notSynchronized
  have Bx : MB p s m [.ref (ad 224), .int (ho), .int (wh)].toArray c c_Mo_wrong "AbnfChartModel" D cy := ⟨hx, hb, tb_all (atoms_spec B.pre) E.2.1, findClass_of_methodNamed B.named, E.1⟩
  have hS : va_S (Az sz) s.heap s.heap [] := va_S.rf
  have hl := lv_entry ([.ref (ad 224), .int (ho), .int (wh)]) (n := 3) (Nat.le_of_ble_eq_true rfl)
  rw [lg_entry_eq]
  generalize (lg_sl ([.ref (ad 224), .int (ho), .int (wh)]) ++ List.replicate (3 - (lg_sl ([.ref (ad 224), .int (ho), .int (wh)])).length) Slot.unset).toArray = ls at hl ⊢
  have hl : lv_has ls 3 [(0, .ref (ad 224)), (1, .int (ho)), (2, .int (wh))] := hl
  refine lv_aload_n Bx.1 Bx.2.1 d_Mo_wrong_0 rfl (lv_at hl 0 rfl) ?_
  refine f_get Bx hP (by omega) hM.1 rfl inMo 17 (by decide) kw_673 rfl rfl d_Mo_wrong_1 ?_
  refine lv_if_ne Bx.1 Bx.2.1 d_Mo_wrong_4 rfl (fun hb1 => ?_) (fun hb1 => ?_)
  · exact W.vret hx hb hr (fun t ht hW => ⟨⟨mem, rfl, ⟨J, hM, h17.resolve_left hb1, fun _ _ _ => rfl⟩, by show va_P _ _ _ t.heap; rw [ht]; exact hP⟩, hS.F ht⟩) hS.2.2 d_Mo_wrong_17
  · refine lv_aload_n Bx.1 Bx.2.1 d_Mo_wrong_7 rfl (lv_at hl 0 rfl) ?_
    refine lv_iload_n Bx.1 Bx.2.1 d_Mo_wrong_8 rfl (lv_at hl 1 rfl) ?_
    refine f_put Bx hP hD hS (by omega) hM.1 rfl inMo tyMo okMo nmMo 17 (by decide) kw_673 rfl rfl rfl rfl (Nat.le_of_ble_eq_true rfl) d_Mo_wrong_9 (fun H locs hP hS => ?_)
    obtain ⟨J2, eJ2⟩ : ∃ z, z = va_up J 17 (ho) := ⟨_, rfl⟩
    obtain ⟨mem3, e_mem3⟩ : ∃ z, z = va_up mem 224 (moC ad J2) := ⟨_, rfl⟩
    have hP : va_P D vcl (fw n ad mem3) H := by rw [e_mem3, eJ2]; exact hP
    have hD : va_D (Az sz) (fw n ad mem3) := fw_D hD
    have hW4 : MW cy ad J2 A nm m0 mem3 := by rw [e_mem3]; exact hM.upJ (by rw [eJ2]; exact va_up_ne _ _ (by decide))
    have kk5 : J2 17 = ho := by rw [eJ2, va_up_self]
    refine lv_aload_n Bx.1 Bx.2.1 d_Mo_wrong_12 rfl (lv_at hl 0 rfl) ?_
    refine lv_iload_n Bx.1 Bx.2.1 d_Mo_wrong_13 rfl (lv_at hl 2 rfl) ?_
    refine f_put Bx hP hD hS (by omega) hW4.1 rfl inMo tyMo okMo nmMo 3 (by decide) kw_659 rfl rfl rfl rfl (Nat.le_of_ble_eq_true rfl) d_Mo_wrong_14 (fun H locs hP hS => ?_)
    obtain ⟨J6, eJ6⟩ : ∃ z, z = va_up J2 3 (wh) := ⟨_, rfl⟩
    obtain ⟨mem7, e_mem7⟩ : ∃ z, z = va_up mem3 224 (moC ad J6) := ⟨_, rfl⟩
    have hP : va_P D vcl (fw n ad mem7) H := by rw [e_mem7, eJ6]; exact hP
    have hD : va_D (Az sz) (fw n ad mem7) := fw_D hD
    have hW8 : MW cy ad J6 A nm m0 mem7 := by rw [e_mem7]; exact hW4.upJ (by rw [eJ6]; exact va_up_ne _ _ (by decide))
    have kk9 : J6 17 = ho := by rw [eJ6]; exact kk5
    have kk10 : J6 3 = wh := by rw [eJ6, va_up_self]
    exact W.vret hx hb hr (fun t ht hW => ⟨⟨mem7, rfl, ⟨J6, hW8, by rw [kk9]; exact hho, fun i q1 q2 => by rw [eJ6, eJ2, va_up_ne _ _ q2, va_up_ne _ _ q1]⟩, by show va_P _ _ _ t.heap; rw [ht]; exact hP⟩, hS.F ht⟩) hS.2.2 d_Mo_wrong_17
set_option maxHeartbeats 4000000 in
set_option maxRecDepth 100000 in
theorem m_Mo_element (l : Launch) {D : va_G} {cy : Nat → ClassId} {sz n : Nat} {ad : Nat → Nat} {mem : Nat → va_E} {J : Nat → Int32} {A : Nat → Nat → Int32} {nm : Nat → Int64} {m0 : Nat → va_E} {kd wh : Int32} {Ec : Nat} (hn : 242 ≤ n) (hM : MW cy ad J A nm m0 mem) (h17 : J 17 = 0 ∨ b12 (J 17)) (hE : J 7 = nI Ec) (hEb : Ec ≤ 100) : MI l D cy sz n ad y_Mo_element c_Mo_element 3 (some .int) ({ frames := 1, cells := 0, slots := 0, locals := 30 } : Room) mem [.ref (ad 224), .int (kd), .int (wh)] (fun r mem' => (r = 0 ∧ ∃ J', MW cy ad J' A nm m0 mem' ∧ wr J J') ∨ (Ec < 100 ∧ r = nI Ec ∧ MW cy ad (va_up J 7 (nI (Ec + 1))) (elA A Ec kd) nm m0 mem')) := by
  refine Met.ofW (cc := c_Mo_element) (maxL := 3) (ret := (some .int)) (by decide) rfl ?_
  intro p e s m args below meth c s₁ B hml hv
  obtain ⟨rfl, E, hP, hD⟩ := hv
  have hx := B.exec
  have hb := B.bytes
  have hr := B.returns
  have hlocks := B.notSynchronized
  have Bx : MB p s m [.ref (ad 224), .int (kd), .int (wh)].toArray c c_Mo_element "AbnfChartModel" D cy := ⟨hx, hb, tb_all (atoms_spec B.pre) E.2.1, findClass_of_methodNamed B.named, E.1⟩
  have hS : va_S (Az sz) s.heap s.heap [] := va_S.rf
  have hl := lv_entry ([.ref (ad 224), .int (kd), .int (wh)]) (n := 3) (Nat.le_of_ble_eq_true rfl)
  rw [lg_entry_eq]
  generalize (lg_sl ([.ref (ad 224), .int (kd), .int (wh)]) ++ List.replicate (3 - (lg_sl ([.ref (ad 224), .int (kd), .int (wh)])).length) Slot.unset).toArray = ls at hl ⊢
  have hl : lv_has ls 3 [(0, .ref (ad 224)), (1, .int (kd)), (2, .int (wh))] := hl
  refine lv_aload_n Bx.1 Bx.2.1 d_Mo_element_0 rfl (lv_at hl 0 rfl) ?_
  refine f_get Bx hP (by omega) hM.1 rfl inMo 7 (by decide) kw_663 rfl rfl d_Mo_element_1 ?_
  rw [hE]
  refine lv_bipush (v := 100) Bx.1 Bx.2.1 d_Mo_element_4 (by decide) ?_
  refine lv_icmp_ne Bx.1 Bx.2.1 d_Mo_element_6 rfl (fun hb1 => ?_) (fun hb1 => ?_)
  · have hN2 : ¬ Ec = 100 := fun q9 => hb1 (show nI (Ec) = nI (100) from (nI_eq (by omega) (by omega)).mpr q9)
    refine lv_aload_n Bx.1 Bx.2.1 d_Mo_element_17 rfl (lv_at hl 0 rfl) ?_
    refine f_get Bx hP (by omega) hM.1 rfl inMo 8 (by decide) kw_664 rfl rfl d_Mo_element_18 ?_
    refine lv_aload_n Bx.1 Bx.2.1 d_Mo_element_21 rfl (lv_at hl 0 rfl) ?_
    refine f_get Bx hP (by omega) hM.1 rfl inMo 7 (by decide) kw_663 rfl rfl d_Mo_element_22 ?_
    rw [hE]
    refine lv_iload_n Bx.1 Bx.2.1 d_Mo_element_25 rfl (lv_at hl 1 rfl) ?_
    refine f_iast (x := kd) (i := nI (Ec)) Bx hP hD hS (by omega) (show mem 228 = .inl (cy 1, 100, .inl (A 228)) from hM.2.2.1 228 (by decide) (by decide) (by decide)) (vp_in_nI (n := Ec) (by omega) (by decide)) d_Mo_element_26 (fun H locs hP hS => ?_)
    rw [nI_clamp (n := Ec) (by omega)] at hP
    obtain ⟨A3, eA3⟩ : ∃ z, z = va_up A 228 (upd (A 228) (Ec) (kd)) := ⟨_, rfl⟩
    obtain ⟨mem4, e_mem4⟩ : ∃ z, z = va_up mem 228 (.inl (cy 1, 100, .inl (upd (A 228) (Ec) (kd)))) := ⟨_, rfl⟩
    have hP : va_P D vcl (fw n ad mem4) H := by rw [e_mem4]; exact hP
    have hD : va_D (Az sz) (fw n ad mem4) := fw_D hD
    have hW5 : MW cy ad J A3 nm m0 mem4 := by rw [e_mem4, eA3]; exact hM.upA (j := 228) (by decide) (by decide) (by decide) (Or.inl (by decide))
    refine lv_aload_n Bx.1 Bx.2.1 d_Mo_element_27 rfl (lv_at hl 0 rfl) ?_
    refine f_get Bx hP (by omega) hW5.1 rfl inMo 9 (by decide) kw_665 rfl rfl d_Mo_element_28 ?_
    refine lv_aload_n Bx.1 Bx.2.1 d_Mo_element_31 rfl (lv_at hl 0 rfl) ?_
    refine f_get Bx hP (by omega) hW5.1 rfl inMo 7 (by decide) kw_663 rfl rfl d_Mo_element_32 ?_
    rw [hE]
    refine lv_iconst (v := 0) Bx.1 Bx.2.1 d_Mo_element_35 (by decide) ?_
    refine f_iast (x := 0) (i := nI (Ec)) Bx hP hD hS (by omega) (show mem4 229 = .inl (cy 1, 100, .inl (A3 229)) from hW5.2.2.1 229 (by decide) (by decide) (by decide)) (vp_in_nI (n := Ec) (by omega) (by decide)) d_Mo_element_36 (fun H locs hP hS => ?_)
    rw [nI_clamp (n := Ec) (by omega)] at hP
    obtain ⟨A6, eA6⟩ : ∃ z, z = va_up A3 229 (upd (A3 229) (Ec) (0)) := ⟨_, rfl⟩
    obtain ⟨mem7, e_mem7⟩ : ∃ z, z = va_up mem4 229 (.inl (cy 1, 100, .inl (upd (A3 229) (Ec) (0)))) := ⟨_, rfl⟩
    have hP : va_P D vcl (fw n ad mem7) H := by rw [e_mem7]; exact hP
    have hD : va_D (Az sz) (fw n ad mem7) := fw_D hD
    have hW8 : MW cy ad J A6 nm m0 mem7 := by rw [e_mem7, eA6]; exact hW5.upA (j := 229) (by decide) (by decide) (by decide) (Or.inl (by decide))
    refine lv_aload_n Bx.1 Bx.2.1 d_Mo_element_37 rfl (lv_at hl 0 rfl) ?_
    refine f_get Bx hP (by omega) hW8.1 rfl inMo 10 (by decide) kw_666 rfl rfl d_Mo_element_38 ?_
    refine lv_aload_n Bx.1 Bx.2.1 d_Mo_element_41 rfl (lv_at hl 0 rfl) ?_
    refine f_get Bx hP (by omega) hW8.1 rfl inMo 7 (by decide) kw_663 rfl rfl d_Mo_element_42 ?_
    rw [hE]
    refine lv_iconst (v := 0) Bx.1 Bx.2.1 d_Mo_element_45 (by decide) ?_
    refine f_iast (x := 0) (i := nI (Ec)) Bx hP hD hS (by omega) (show mem7 230 = .inl (cy 1, 100, .inl (A6 230)) from hW8.2.2.1 230 (by decide) (by decide) (by decide)) (vp_in_nI (n := Ec) (by omega) (by decide)) d_Mo_element_46 (fun H locs hP hS => ?_)
    rw [nI_clamp (n := Ec) (by omega)] at hP
    obtain ⟨A9, eA9⟩ : ∃ z, z = va_up A6 230 (upd (A6 230) (Ec) (0)) := ⟨_, rfl⟩
    obtain ⟨mem10, e_mem10⟩ : ∃ z, z = va_up mem7 230 (.inl (cy 1, 100, .inl (upd (A6 230) (Ec) (0)))) := ⟨_, rfl⟩
    have hP : va_P D vcl (fw n ad mem10) H := by rw [e_mem10]; exact hP
    have hD : va_D (Az sz) (fw n ad mem10) := fw_D hD
    have hW11 : MW cy ad J A9 nm m0 mem10 := by rw [e_mem10, eA9]; exact hW8.upA (j := 230) (by decide) (by decide) (by decide) (Or.inl (by decide))
    refine lv_aload_n Bx.1 Bx.2.1 d_Mo_element_47 rfl (lv_at hl 0 rfl) ?_
    refine f_get Bx hP (by omega) hW11.1 rfl inMo 11 (by decide) kw_667 rfl rfl d_Mo_element_48 ?_
    refine lv_aload_n Bx.1 Bx.2.1 d_Mo_element_51 rfl (lv_at hl 0 rfl) ?_
    refine f_get Bx hP (by omega) hW11.1 rfl inMo 7 (by decide) kw_663 rfl rfl d_Mo_element_52 ?_
    rw [hE]
    refine lv_iconst (v := 0) Bx.1 Bx.2.1 d_Mo_element_55 (by decide) ?_
    refine f_zast (x := 0) (i := nI (Ec)) Bx hP hD hS (by omega) (show mem10 231 = .inl (cy 3, 100, .inl (A9 231)) from hW11.2.2.1 231 (by decide) (by decide) (by decide)) (vp_in_nI (n := Ec) (by omega) (by decide)) d_Mo_element_56 (fun H locs hP hS => ?_)
    rw [nI_clamp (n := Ec) (by omega)] at hP
    obtain ⟨A12, eA12⟩ : ∃ z, z = va_up A9 231 (upd (A9 231) (Ec) (vp_nar .boolean (0))) := ⟨_, rfl⟩
    obtain ⟨mem13, e_mem13⟩ : ∃ z, z = va_up mem10 231 (.inl (cy 3, 100, .inl (upd (A9 231) (Ec) (vp_nar .boolean (0))))) := ⟨_, rfl⟩
    have hP : va_P D vcl (fw n ad mem13) H := by rw [e_mem13]; exact hP
    have hD : va_D (Az sz) (fw n ad mem13) := fw_D hD
    have hW14 : MW cy ad J A12 nm m0 mem13 := by rw [e_mem13, eA12]; exact hW11.upA (j := 231) (by decide) (by decide) (by decide) (Or.inl (by decide))
    refine lv_aload_n Bx.1 Bx.2.1 d_Mo_element_57 rfl (lv_at hl 0 rfl) ?_
    refine f_get Bx hP (by omega) hW14.1 rfl inMo 12 (by decide) kw_668 rfl rfl d_Mo_element_58 ?_
    refine lv_aload_n Bx.1 Bx.2.1 d_Mo_element_61 rfl (lv_at hl 0 rfl) ?_
    refine f_get Bx hP (by omega) hW14.1 rfl inMo 7 (by decide) kw_663 rfl rfl d_Mo_element_62 ?_
    rw [hE]
    refine lv_iconst (v := -1) Bx.1 Bx.2.1 d_Mo_element_65 (by decide) ?_
    refine f_iast (x := (-1)) (i := nI (Ec)) Bx hP hD hS (by omega) (show mem13 232 = .inl (cy 1, 100, .inl (A12 232)) from hW14.2.2.1 232 (by decide) (by decide) (by decide)) (vp_in_nI (n := Ec) (by omega) (by decide)) d_Mo_element_66 (fun H locs hP hS => ?_)
    rw [nI_clamp (n := Ec) (by omega)] at hP
    obtain ⟨A15, eA15⟩ : ∃ z, z = va_up A12 232 (upd (A12 232) (Ec) ((-1))) := ⟨_, rfl⟩
    obtain ⟨mem16, e_mem16⟩ : ∃ z, z = va_up mem13 232 (.inl (cy 1, 100, .inl (upd (A12 232) (Ec) ((-1))))) := ⟨_, rfl⟩
    have hP : va_P D vcl (fw n ad mem16) H := by rw [e_mem16]; exact hP
    have hD : va_D (Az sz) (fw n ad mem16) := fw_D hD
    have hW17 : MW cy ad J A15 nm m0 mem16 := by rw [e_mem16, eA15]; exact hW14.upA (j := 232) (by decide) (by decide) (by decide) (Or.inl (by decide))
    refine lv_aload_n Bx.1 Bx.2.1 d_Mo_element_67 rfl (lv_at hl 0 rfl) ?_
    refine f_get Bx hP (by omega) hW17.1 rfl inMo 13 (by decide) kw_669 rfl rfl d_Mo_element_68 ?_
    refine lv_aload_n Bx.1 Bx.2.1 d_Mo_element_71 rfl (lv_at hl 0 rfl) ?_
    refine f_get Bx hP (by omega) hW17.1 rfl inMo 7 (by decide) kw_663 rfl rfl d_Mo_element_72 ?_
    rw [hE]
    refine lv_iconst (v := -1) Bx.1 Bx.2.1 d_Mo_element_75 (by decide) ?_
    refine f_iast (x := (-1)) (i := nI (Ec)) Bx hP hD hS (by omega) (show mem16 233 = .inl (cy 1, 100, .inl (A15 233)) from hW17.2.2.1 233 (by decide) (by decide) (by decide)) (vp_in_nI (n := Ec) (by omega) (by decide)) d_Mo_element_76 (fun H locs hP hS => ?_)
    rw [nI_clamp (n := Ec) (by omega)] at hP
    obtain ⟨A18, eA18⟩ : ∃ z, z = va_up A15 233 (upd (A15 233) (Ec) ((-1))) := ⟨_, rfl⟩
    obtain ⟨mem19, e_mem19⟩ : ∃ z, z = va_up mem16 233 (.inl (cy 1, 100, .inl (upd (A15 233) (Ec) ((-1))))) := ⟨_, rfl⟩
    have hP : va_P D vcl (fw n ad mem19) H := by rw [e_mem19]; exact hP
    have hD : va_D (Az sz) (fw n ad mem19) := fw_D hD
    have hW20 : MW cy ad J A18 nm m0 mem19 := by rw [e_mem19, eA18]; exact hW17.upA (j := 233) (by decide) (by decide) (by decide) (Or.inl (by decide))
    refine lv_aload_n Bx.1 Bx.2.1 d_Mo_element_77 rfl (lv_at hl 0 rfl) ?_
    refine lv_dup Bx.1 Bx.2.1 d_Mo_element_78 rfl ?_
    refine f_get Bx hP (by omega) hW20.1 rfl inMo 7 (by decide) kw_663 rfl rfl d_Mo_element_79 ?_
    rw [hE]
    refine lv_iconst (v := 1) Bx.1 Bx.2.1 d_Mo_element_82 (by decide) ?_
    refine lv_iadd Bx.1 Bx.2.1 d_Mo_element_83 ?_
    rw [show nI Ec + 1 = nI (Ec + 1) from nI_add (Ec) (1)]
    refine f_put Bx hP hD hS (by omega) hW20.1 rfl inMo tyMo okMo nmMo 7 (by decide) kw_663 rfl rfl rfl rfl (Nat.le_of_ble_eq_true rfl) d_Mo_element_84 (fun H locs hP hS => ?_)
    obtain ⟨J21, eJ21⟩ : ∃ z, z = va_up J 7 (nI (Ec + 1)) := ⟨_, rfl⟩
    obtain ⟨mem22, e_mem22⟩ : ∃ z, z = va_up mem19 224 (moC ad J21) := ⟨_, rfl⟩
    have hP : va_P D vcl (fw n ad mem22) H := by rw [e_mem22, eJ21]; exact hP
    have hD : va_D (Az sz) (fw n ad mem22) := fw_D hD
    have hW23 : MW cy ad J21 A18 nm m0 mem22 := by rw [e_mem22]; exact hW20.upJ (by rw [eJ21]; exact va_up_ne _ _ (by decide))
    have kk24 : J21 7 = nI (Ec + 1) := by rw [eJ21, va_up_self]
    refine lv_aload_n Bx.1 Bx.2.1 d_Mo_element_87 rfl (lv_at hl 0 rfl) ?_
    refine f_get Bx hP (by omega) hW23.1 rfl inMo 7 (by decide) kw_663 rfl rfl d_Mo_element_88 ?_
    rw [kk24]
    refine lv_iconst (v := 1) Bx.1 Bx.2.1 d_Mo_element_91 (by decide) ?_
    refine lv_isub Bx.1 Bx.2.1 d_Mo_element_92 ?_
    rw [show nI (Ec + 1) - 1 = nI (Ec) from nI_pred (Ec)]
    exact W.iret (v := nI (Ec)) hx hb hr (fun t ht hW => ⟨⟨nI (Ec), mem22, rfl, Or.inr ⟨by omega, rfl, by rw [← eJ21, show elA A Ec kd = A18 by rw [eA18, eA15, eA12, eA9, eA6, eA3]; rfl]; exact hW23⟩, by show va_P _ _ _ t.heap; rw [ht]; exact hP⟩, hS.F ht⟩) hS.2.2 d_Mo_element_93
  · have hN25 : Ec = 100 := (nI_eq (by omega) (by omega)).mp (show nI (Ec) = nI (100) from hb1)
    refine lv_aload_n Bx.1 Bx.2.1 d_Mo_element_9 rfl (lv_at hl 0 rfl) ?_
    refine lv_iconst (v := 2) Bx.1 Bx.2.1 d_Mo_element_10 (by decide) ?_
    refine lv_iload_n Bx.1 Bx.2.1 d_Mo_element_11 rfl (lv_at hl 2 rfl) ?_
    refine f_callVv (na := 2) (As := [.int (2), .int (wh)]) (rest := []) Bx hml E hP hD hS (by omega) hM.1 rfl (m_Mo_wrong l hn hM h17 (by first | exact Or.inl rfl | exact Or.inr rfl)) kw_799 kw_801 sel_Mo_wrong kw_8 kw_802 (by decide +kernel) ⟨rfl, rfl⟩ ⟨Nat.le_of_ble_eq_true rfl, Nat.le_of_ble_eq_true rfl⟩ rfl hl.1 (Nat.le_of_ble_eq_true rfl) d_Mo_element_12 ⟨Nat.le_of_ble_eq_true rfl, Nat.le_of_ble_eq_true rfl⟩ (fun mem27 H locs hq hP hS => ?_)
    have hD : va_D (Az sz) (fw n ad mem27) := fw_D hD
    obtain ⟨J28, hW29, hwr30⟩ := hq
    have kk31 : J28 7 = nI Ec := (show J28 7 = J 7 from hwr30.2 7 (by decide) (by decide)).trans hE
    refine lv_iconst (v := 0) Bx.1 Bx.2.1 d_Mo_element_15 (by decide) ?_
    exact W.iret (v := 0) hx hb hr (fun t ht hW => ⟨⟨0, mem27, rfl, Or.inl ⟨rfl, J28, hW29, hwr30⟩, by show va_P _ _ _ t.heap; rw [ht]; exact hP⟩, hS.F ht⟩) hS.2.2 d_Mo_element_16
set_option maxHeartbeats 4000000 in
set_option maxRecDepth 100000 in
theorem m_Mo_append (l : Launch) {D : va_G} {cy : Nat → ClassId} {sz n : Nat} {ad : Nat → Nat} {mem : Nat → va_E} {J : Nat → Int32} {A : Nat → Nat → Int32} {nm : Nat → Int64} {m0 : Nat → va_E} {to pa Ec : Nat} (hn : 242 ≤ n) (hM : MW cy ad J A nm m0 mem) (hE : Ec ≤ 100) (hto : to < pa) (hpa : pa < Ec) (hLK : LK Ec A) (hCL : CL pa A) : MV l D cy sz n ad y_Mo_append c_Mo_append 4 ({ frames := 0, cells := 0, slots := 0, locals := 0 } : Room) mem [.ref (ad 224), .int (nI to), .int (nI pa)] (fun mem' => ∃ A', MW cy ad J A' nm m0 mem' ∧ apd A A' to pa) := by
  refine Met.ofW (cc := c_Mo_append) (maxL := 4) (ret := none) (by decide) rfl ?_
  intro p e s m args below meth c s₁ B hml hv
  obtain ⟨rfl, E, hP, hD⟩ := hv
  have hx := B.exec
  have hb := B.bytes
  have hr := B.returns
  have hlocks := B.notSynchronized
  have Bx : MB p s m [.ref (ad 224), .int (nI to), .int (nI pa)].toArray c c_Mo_append "AbnfChartModel" D cy := ⟨hx, hb, tb_all (atoms_spec B.pre) E.2.1, findClass_of_methodNamed B.named, E.1⟩
  have hS : va_S (Az sz) s.heap s.heap [] := va_S.rf
  have hl := lv_entry ([.ref (ad 224), .int (nI to), .int (nI pa)]) (n := 4) (Nat.le_of_ble_eq_true rfl)
  rw [lg_entry_eq]
  generalize (lg_sl ([.ref (ad 224), .int (nI to), .int (nI pa)]) ++ List.replicate (4 - (lg_sl ([.ref (ad 224), .int (nI to), .int (nI pa)])).length) Slot.unset).toArray = ls at hl ⊢
  have hl : lv_has ls 4 [(0, .ref (ad 224)), (1, .int (nI to)), (2, .int (nI pa))] := hl
  refine lv_aload_n Bx.1 Bx.2.1 d_Mo_append_0 rfl (lv_at hl 0 rfl) ?_
  refine f_get Bx hP (by omega) hM.1 rfl inMo 12 (by decide) kw_668 rfl rfl d_Mo_append_1 ?_
  refine lv_iload_n Bx.1 Bx.2.1 d_Mo_append_4 rfl (lv_at hl 1 rfl) ?_
  refine f_iald Bx hP (by omega) (show mem 232 = .inl (cy 1, 100, .inl (A 232)) from hM.2.2.1 232 (by decide) (by decide) (by decide)) (vp_in_nI (n := to) (by omega) (by decide)) d_Mo_append_5 ?_
  rw [nI_clamp (n := to) (by omega)]
  have hf := lkcl (hLK to (by omega)).1 (hCL to hto).1 (by omega) hE
  refine lv_if_ge Bx.1 Bx.2.1 d_Mo_append_6 rfl (fun hb1 => ?_) (fun hb1 => ?_)
  · rcases hf with hf | ⟨j0, hj1, hj2, hf⟩
    · exact absurd (by rw [hf]; exact lt_m1) (Int32.not_lt.mpr hb1)
    · refine lv_aload_n Bx.1 Bx.2.1 d_Mo_append_19 rfl (lv_at hl 0 rfl) ?_
      refine f_get Bx hP (by omega) hM.1 rfl inMo 12 (by decide) kw_668 rfl rfl d_Mo_append_20 ?_
      refine lv_iload_n Bx.1 Bx.2.1 d_Mo_append_23 rfl (lv_at hl 1 rfl) ?_
      refine f_iald Bx hP (by omega) (show mem 232 = .inl (cy 1, 100, .inl (A 232)) from hM.2.2.1 232 (by decide) (by decide) (by decide)) (vp_in_nI (n := to) (by omega) (by decide)) d_Mo_append_24 ?_
      rw [nI_clamp (n := to) (by omega)]
      rw [hf]
      refine lv_istore_n (lv' := [(3, .int (nI j0)), (0, .ref (ad 224)), (1, .int (nI to)), (2, .int (nI pa))]) Bx.1 Bx.2.1 d_Mo_append_25 rfl hl (by decide) rfl (fun ls hl => ?_)
      have loop2 : ∀ (d3 : Nat) (k : Nat) (ls : Array Slot) (H : Heap) (locs : List Loc), (pa - k < d3) → (to < k ∧ k < pa) → (va_P D vcl (fw n ad mem) H) → (va_D (Az sz) (fw n ad mem)) → (va_S (Az sz) s.heap H locs) → (lv_has ls 4 [(3, .int (nI k)), (0, .ref (ad 224)), (1, .int (nI to)), (2, .int (nI pa))]) → W p l e (headSpec (Cond.code y_Mo_append c_Mo_append 4 none :: tg) ({ frames := 0, cells := 0, slots := 0, locals := 0 } : Room)).room s m [.ref (ad 224), .int (nI to), .int (nI pa)].toArray below meth c H locs 0 0 (MQ below (va_Qv (fun mem' => ∃ A', MW cy ad J A' nm m0 mem' ∧ apd A A' to pa) (PP D n ad) (Az sz)) [.ref (ad 224), .int (nI to), .int (nI pa)].toArray s 0 0 (Az sz)) (F0 m 26 ls []) := by
        intro d3
        induction d3 with
        | zero => intro k ls H locs hmeas6; exact absurd hmeas6 (Nat.not_lt_zero _)
        | succ d3 ih5 =>
          intro k ls H locs hmeas6 hz4 hP hD hS hl
          refine lv_aload_n Bx.1 Bx.2.1 d_Mo_append_26 rfl (lv_at hl 1 rfl) ?_
          refine f_get Bx hP (by omega) hM.1 rfl inMo 13 (by decide) kw_669 rfl rfl d_Mo_append_27 ?_
          refine lv_iload_n Bx.1 Bx.2.1 d_Mo_append_30 rfl (lv_at hl 0 rfl) ?_
          refine f_iald Bx hP (by omega) (show mem 233 = .inl (cy 1, 100, .inl (A 233)) from hM.2.2.1 233 (by decide) (by decide) (by decide)) (vp_in_nI (n := k) (by omega) (by decide)) d_Mo_append_31 ?_
          rw [nI_clamp (n := k) (by omega)]
          have hxx := lkcl (hLK k (by omega)).2 (hCL k (by omega)).2 (by omega) hE
          refine lv_if_lt Bx.1 Bx.2.1 d_Mo_append_32 rfl (fun hb7 => ?_) (fun hb7 => ?_)
          · refine lv_aload_n Bx.1 Bx.2.1 d_Mo_append_45 rfl (lv_at hl 1 rfl) ?_
            refine f_get Bx hP (by omega) hM.1 rfl inMo 13 (by decide) kw_669 rfl rfl d_Mo_append_46 ?_
            refine lv_iload_n Bx.1 Bx.2.1 d_Mo_append_49 rfl (lv_at hl 0 rfl) ?_
            refine lv_iload_n Bx.1 Bx.2.1 d_Mo_append_50 rfl (lv_at hl 3 rfl) ?_
            refine f_iast (x := nI pa) (i := nI (k)) Bx hP hD hS (by omega) (show mem 233 = .inl (cy 1, 100, .inl (A 233)) from hM.2.2.1 233 (by decide) (by decide) (by decide)) (vp_in_nI (n := k) (by omega) (by decide)) d_Mo_append_51 (fun H locs hP hS => ?_)
            rw [nI_clamp (n := k) (by omega)] at hP
            obtain ⟨A8, eA8⟩ : ∃ z, z = va_up A 233 (upd (A 233) (k) (nI pa)) := ⟨_, rfl⟩
            obtain ⟨mem9, e_mem9⟩ : ∃ z, z = va_up mem 233 (.inl (cy 1, 100, .inl (upd (A 233) (k) (nI pa)))) := ⟨_, rfl⟩
            have hP : va_P D vcl (fw n ad mem9) H := by rw [e_mem9]; exact hP
            have hD : va_D (Az sz) (fw n ad mem9) := fw_D hD
            have hW10 : MW cy ad J A8 nm m0 mem9 := by rw [e_mem9, eA8]; exact hM.upA (j := 233) (by decide) (by decide) (by decide) (Or.inl (by decide))
            exact W.vret hx hb hr (fun t ht hW => ⟨⟨mem9, rfl, ⟨A8, hW10, Or.inr ⟨by rw [hf]; exact fun q9 => absurd (q9 ▸ nI_pos (n := j0) (by omega)) (by decide), k, by omega, by omega, hxx.resolve_right (fun ⟨j, _, _, q9⟩ => nI_pos (n := j) (by omega) (q9 ▸ hb7)), by rw [eA8]⟩⟩, by show va_P _ _ _ t.heap; rw [ht]; exact hP⟩, hS.F ht⟩) hS.2.2 d_Mo_append_52
          · obtain ⟨j, hk1, hk2, hk3⟩ := hxx.resolve_left (fun q9 => hb7 (by rw [q9]; exact lt_m1))
            refine lv_aload_n Bx.1 Bx.2.1 d_Mo_append_35 rfl (lv_at hl 1 rfl) ?_
            refine f_get Bx hP (by omega) hM.1 rfl inMo 13 (by decide) kw_669 rfl rfl d_Mo_append_36 ?_
            refine lv_iload_n Bx.1 Bx.2.1 d_Mo_append_39 rfl (lv_at hl 0 rfl) ?_
            refine f_iald Bx hP (by omega) (show mem 233 = .inl (cy 1, 100, .inl (A 233)) from hM.2.2.1 233 (by decide) (by decide) (by decide)) (vp_in_nI (n := k) (by omega) (by decide)) d_Mo_append_40 ?_
            rw [nI_clamp (n := k) (by omega)]
            rw [hk3]
            refine lv_istore_n (lv' := [(3, .int (nI j)), (0, .ref (ad 224)), (1, .int (nI to)), (2, .int (nI pa))]) Bx.1 Bx.2.1 d_Mo_append_41 rfl hl (by decide) rfl (fun ls hl => ?_)
            refine lv_goto Bx.1 Bx.2.1 d_Mo_append_42 rfl ?_
            exact ih5 (j) _ _ _ (by have := hmeas6; omega) (⟨by omega, by omega⟩) hP hD hS (lv_sub hl [0, 1, 2, 3] rfl)
      exact loop2 _ (j0) _ _ _ (Nat.lt_succ_self _) (⟨by omega, by omega⟩) hP hD hS (lv_sub hl [0, 1, 2, 3] rfl)
  · refine lv_aload_n Bx.1 Bx.2.1 d_Mo_append_9 rfl (lv_at hl 0 rfl) ?_
    refine f_get Bx hP (by omega) hM.1 rfl inMo 12 (by decide) kw_668 rfl rfl d_Mo_append_10 ?_
    refine lv_iload_n Bx.1 Bx.2.1 d_Mo_append_13 rfl (lv_at hl 1 rfl) ?_
    refine lv_iload_n Bx.1 Bx.2.1 d_Mo_append_14 rfl (lv_at hl 2 rfl) ?_
    refine f_iast (x := nI pa) (i := nI (to)) Bx hP hD hS (by omega) (show mem 232 = .inl (cy 1, 100, .inl (A 232)) from hM.2.2.1 232 (by decide) (by decide) (by decide)) (vp_in_nI (n := to) (by omega) (by decide)) d_Mo_append_15 (fun H locs hP hS => ?_)
    rw [nI_clamp (n := to) (by omega)] at hP
    obtain ⟨A11, eA11⟩ : ∃ z, z = va_up A 232 (upd (A 232) (to) (nI pa)) := ⟨_, rfl⟩
    obtain ⟨mem12, e_mem12⟩ : ∃ z, z = va_up mem 232 (.inl (cy 1, 100, .inl (upd (A 232) (to) (nI pa)))) := ⟨_, rfl⟩
    have hP : va_P D vcl (fw n ad mem12) H := by rw [e_mem12]; exact hP
    have hD : va_D (Az sz) (fw n ad mem12) := fw_D hD
    have hW13 : MW cy ad J A11 nm m0 mem12 := by rw [e_mem12, eA11]; exact hM.upA (j := 232) (by decide) (by decide) (by decide) (Or.inl (by decide))
    refine lv_goto Bx.1 Bx.2.1 d_Mo_append_16 rfl ?_
    exact W.vret hx hb hr (fun t ht hW => ⟨⟨mem12, rfl, ⟨A11, hW13, Or.inl ⟨hf.resolve_right (fun ⟨j, _, _, q9⟩ => absurd (nI_pos' (n := j) (by omega)) (q9 ▸ hb1)), by rw [eA11]⟩⟩, by show va_P _ _ _ t.heap; rw [ht]; exact hP⟩, hS.F ht⟩) hS.2.2 d_Mo_append_52
def nmP (J J' : Nat → Int32) (A A' : Nat → Nat → Int32) (L a R : Nat) (r : Int32) : Prop := ∃ a', a < a' ∧ a' ≤ L ∧ J' 16 = nI a' ∧ (∀ i, i ≠ 16 → i ≠ 17 → i ≠ 3 → i ≠ 4 → J' i = J i) ∧ ((b12 (J' 17) ∧ A' = A) ∨ (J' 17 = J 17 ∧ ∃ r0 R', r = nI r0 ∧ r0 < R' ∧ R' ≤ 12 ∧ J' 4 = nI R' ∧ ((R' = R ∧ A' = A) ∨ (R' = R + 1 ∧ A' = va_up A 227 (upd (A 227) R (-1))))))
theorem dg_ne {x : Int32} (h : ¬ (if x < 48 ∨ 57 < x then (0 : Int32) else 1) = 0) : x ≠ -1 := by
  rintro rfl
  exact h (by decide)
set_option maxHeartbeats 4000000 in
set_option maxRecDepth 100000 in
theorem m_Mo_name (l : Launch) {D : va_G} {cy : Nat → ClassId} {sz n : Nat} {ad : Nat → Nat} {mem : Nat → va_E} {J : Nat → Int32} {A : Nat → Nat → Int32} {nm : Nat → Int64} {m0 : Nat → va_E} {L a R : Nat} (hn : 242 ≤ n) (hM : MW cy ad J A nm m0 mem) (h1 : J 1 = nI L) (hL : L ≤ 240) (ha : J 16 = nI a) (haL : a ≤ L) (h17 : J 17 = 0 ∨ b12 (J 17)) (hR : J 4 = nI R) (hRb : R ≤ 12) (hlet : ltF (hereF L (A 225) a) ≠ 0) : MI l D cy sz n ad y_Mo_name c_Mo_name 6 (some .int) ({ frames := 2, cells := 0, slots := 0, locals := 60 } : Room) mem [.ref (ad 224)] (fun r mem' => ∃ J' A' nm', MW cy ad J' A' nm' m0 mem' ∧ nmP J J' A A' L a R r) := by
  refine Met.ofW (cc := c_Mo_name) (maxL := 6) (ret := (some .int)) (by decide) rfl ?_
  intro p e s m args below meth c s₁ B hml hv
  obtain ⟨rfl, E, hP, hD⟩ := hv
  have hx := B.exec
  have hb := B.bytes
  have hr := B.returns
  have hlocks := B.notSynchronized
  have Bx : MB p s m [.ref (ad 224)].toArray c c_Mo_name "AbnfChartModel" D cy := ⟨hx, hb, tb_all (atoms_spec B.pre) E.2.1, findClass_of_methodNamed B.named, E.1⟩
  have hS : va_S (Az sz) s.heap s.heap [] := va_S.rf
  have hl := lv_entry ([.ref (ad 224)]) (n := 6) (Nat.le_of_ble_eq_true rfl)
  rw [lg_entry_eq]
  generalize (lg_sl ([.ref (ad 224)]) ++ List.replicate (6 - (lg_sl ([.ref (ad 224)])).length) Slot.unset).toArray = ls at hl ⊢
  have hl : lv_has ls 6 [(0, .ref (ad 224))] := hl
  refine lv_aload_n Bx.1 Bx.2.1 d_Mo_name_0 rfl (lv_at hl 0 rfl) ?_
  refine f_get Bx hP (by omega) hM.1 rfl inMo 16 (by decide) kw_672 rfl rfl d_Mo_name_1 ?_
  rw [ha]
  refine lv_istore_n (lv' := [(1, .int (nI a)), (0, .ref (ad 224))]) Bx.1 Bx.2.1 d_Mo_name_4 rfl hl (by decide) rfl (fun ls hl => ?_)
  refine lv_lconst (v := 0) Bx.1 Bx.2.1 d_Mo_name_5 (by decide) ?_
  refine lv_lstore_n (lv' := [(2, .long (0)), (1, .int (nI a)), (0, .ref (ad 224))]) Bx.1 Bx.2.1 d_Mo_name_6 rfl hl (by decide) rfl (fun ls hl => ?_)
  refine lv_iconst (v := 0) Bx.1 Bx.2.1 d_Mo_name_7 (by decide) ?_
  refine lv_istore (lv' := [(4, .int (0)), (2, .long (0)), (1, .int (nI a)), (0, .ref (ad 224))]) Bx.1 Bx.2.1 d_Mo_name_8 hl (by decide) rfl (fun ls hl => ?_)
  have loop1 : ∀ (d2 : Nat) (mem9 : Nat → va_E) (J9 : Nat → Int32) (a1 : Nat) (k : Nat) (v : Int64) (ls : Array Slot) (H : Heap) (locs : List Loc), (6 - k < d2) → (J9 = va_up J 16 (nI a1) ∧ J9 1 = nI L ∧ J9 16 = nI a1 ∧ J9 4 = nI R) → (MW cy ad J9 A nm m0 mem9) → (a1 = a + k ∧ a1 ≤ L ∧ k ≤ 6) → (va_P D vcl (fw n ad mem9) H) → (va_D (Az sz) (fw n ad mem9)) → (va_S (Az sz) s.heap H locs) → (lv_has ls 6 [(4, .int (nI k)), (2, .long (v)), (1, .int (nI a)), (0, .ref (ad 224))]) → W p l e (headSpec (Cond.code y_Mo_name c_Mo_name 6 (some .int) :: tg) ({ frames := 2, cells := 0, slots := 0, locals := 60 } : Room)).room s m [.ref (ad 224)].toArray below meth c H locs 0 0 (MQ below (va_Qi (fun r mem' => ∃ J' A' nm', MW cy ad J' A' nm' m0 mem' ∧ nmP J J' A A' L a R r) (PP D n ad) (Az sz)) [.ref (ad 224)].toArray s 0 0 (Az sz)) (F0 m 10 ls []) := by
    intro d2
    induction d2 with
    | zero => intro mem9 J9 a1 k v ls H locs hmeas7; exact absurd hmeas7 (Nat.not_lt_zero _)
    | succ d2 ih6 =>
      intro mem9 J9 a1 k v ls H locs hmeas7 hz3 hz4 hz5 hP hD hS hl
      obtain ⟨eJ9, g1, g16, g4⟩ := hz3
      refine lv_iload Bx.1 Bx.2.1 d_Mo_name_10 (lv_at hl 0 rfl) ?_
      refine lv_bipush (v := 6) Bx.1 Bx.2.1 d_Mo_name_12 (by decide) ?_
      refine lv_icmp_ge Bx.1 Bx.2.1 d_Mo_name_14 rfl (fun hb8 => ?_) (fun hb8 => ?_)
      · have hN9 : 6 ≤ k := (nI_leI (by omega) (by omega)).mp (show nI (6) ≤ nI (k) from hb8)
        have hn1 : 1 ≤ k := by first | omega | exact Nat.pos_of_ne_zero (fun q9 => by subst q9; obtain rfl : a1 = a := (by omega); exact absurd trivial hlet)
        refine lv_iconst (v := 0) Bx.1 Bx.2.1 d_Mo_name_84 (by decide) ?_
        refine lv_istore (lv' := [(5, .int (0)), (4, .int (nI k)), (2, .long (v)), (1, .int (nI a)), (0, .ref (ad 224))]) Bx.1 Bx.2.1 d_Mo_name_85 hl (by decide) rfl (fun ls hl => ?_)
        have loop10 : ∀ (d11 : Nat) (rr : Nat) (ls : Array Slot) (H : Heap) (locs : List Loc), (R - rr < d11) → (rr ≤ R) → (va_P D vcl (fw n ad mem9) H) → (va_D (Az sz) (fw n ad mem9)) → (va_S (Az sz) s.heap H locs) → (lv_has ls 6 [(5, .int (nI rr)), (4, .int (nI k)), (2, .long (v)), (1, .int (nI a)), (0, .ref (ad 224))]) → W p l e (headSpec (Cond.code y_Mo_name c_Mo_name 6 (some .int) :: tg) ({ frames := 2, cells := 0, slots := 0, locals := 60 } : Room)).room s m [.ref (ad 224)].toArray below meth c H locs 0 0 (MQ below (va_Qi (fun r mem' => ∃ J' A' nm', MW cy ad J' A' nm' m0 mem' ∧ nmP J J' A A' L a R r) (PP D n ad) (Az sz)) [.ref (ad 224)].toArray s 0 0 (Az sz)) (F0 m 87 ls []) := by
          intro d11
          induction d11 with
          | zero => intro rr ls H locs hmeas14; exact absurd hmeas14 (Nat.not_lt_zero _)
          | succ d11 ih13 =>
            intro rr ls H locs hmeas14 hz12 hP hD hS hl
            refine lv_iload Bx.1 Bx.2.1 d_Mo_name_87 (lv_at hl 0 rfl) ?_
            refine lv_aload_n Bx.1 Bx.2.1 d_Mo_name_89 rfl (lv_at hl 4 rfl) ?_
            refine f_get Bx hP (by omega) hz4.1 rfl inMo 4 (by decide) kw_660 rfl rfl d_Mo_name_90 ?_
            rw [g4]
            refine lv_icmp_ge Bx.1 Bx.2.1 d_Mo_name_93 rfl (fun hb15 => ?_) (fun hb15 => ?_)
            · have hN16 : R ≤ rr := (nI_leI (by omega) (by omega)).mp (show nI (R) ≤ nI (rr) from hb15)
              refine lv_aload_n Bx.1 Bx.2.1 d_Mo_name_117 rfl (lv_at hl 4 rfl) ?_
              refine f_get Bx hP (by omega) hz4.1 rfl inMo 4 (by decide) kw_660 rfl rfl d_Mo_name_118 ?_
              rw [g4]
              refine lv_bipush (v := 12) Bx.1 Bx.2.1 d_Mo_name_121 (by decide) ?_
              refine lv_icmp_ne Bx.1 Bx.2.1 d_Mo_name_123 rfl (fun hb17 => ?_) (fun hb17 => ?_)
              · have hN18 : ¬ R = 12 := fun q9 => hb17 (show nI (R) = nI (12) from (nI_eq (by omega) (by omega)).mpr q9)
                refine lv_aload_n Bx.1 Bx.2.1 d_Mo_name_134 rfl (lv_at hl 4 rfl) ?_
                refine f_get Bx hP (by omega) hz4.1 rfl inMo 5 (by decide) kw_661 rfl rfl d_Mo_name_135 ?_
                refine lv_aload_n Bx.1 Bx.2.1 d_Mo_name_138 rfl (lv_at hl 4 rfl) ?_
                refine f_get Bx hP (by omega) hz4.1 rfl inMo 4 (by decide) kw_660 rfl rfl d_Mo_name_139 ?_
                rw [g4]
                refine lv_lload_n Bx.1 Bx.2.1 d_Mo_name_142 rfl (lv_at hl 2 rfl) ?_
                refine f_last (x := v) (i := nI R) Bx hP hD hS (by omega) hz4.2.1 (vp_in_nI (n := R) (by omega) (by decide)) d_Mo_name_143 (fun H locs hP hS => ?_)
                obtain ⟨nn20, enn20⟩ : ∃ z : Nat → Int64, z = vp_updL nm (nI R).toNatClampNeg (v) := ⟨_, rfl⟩
                rw [← enn20] at hP
                obtain ⟨mem19, e_mem19⟩ : ∃ z, z = va_up mem9 226 (.inl (cy 2, 12, .inr (.inl nn20))) := ⟨_, rfl⟩
                have hP : va_P D vcl (fw n ad mem19) H := by rw [e_mem19]; exact hP
                have hD : va_D (Az sz) (fw n ad mem19) := fw_D hD
                have hW21 : MW cy ad J9 A nn20 m0 mem19 := by rw [e_mem19]; exact hz4.upN
                refine lv_aload_n Bx.1 Bx.2.1 d_Mo_name_144 rfl (lv_at hl 4 rfl) ?_
                refine f_get Bx hP (by omega) hW21.1 rfl inMo 6 (by decide) kw_662 rfl rfl d_Mo_name_145 ?_
                refine lv_aload_n Bx.1 Bx.2.1 d_Mo_name_148 rfl (lv_at hl 4 rfl) ?_
                refine f_get Bx hP (by omega) hW21.1 rfl inMo 4 (by decide) kw_660 rfl rfl d_Mo_name_149 ?_
                rw [g4]
                refine lv_iconst (v := -1) Bx.1 Bx.2.1 d_Mo_name_152 (by decide) ?_
                refine f_iast (x := (-1)) (i := nI (R)) Bx hP hD hS (by omega) (show mem19 227 = .inl (cy 1, 12, .inl (A 227)) from hW21.2.2.1 227 (by decide) (by decide) (by decide)) (vp_in_nI (n := R) (by omega) (by decide)) d_Mo_name_153 (fun H locs hP hS => ?_)
                rw [nI_clamp (n := R) (by omega)] at hP
                obtain ⟨A22, eA22⟩ : ∃ z, z = va_up A 227 (upd (A 227) (R) ((-1))) := ⟨_, rfl⟩
                obtain ⟨mem23, e_mem23⟩ : ∃ z, z = va_up mem19 227 (.inl (cy 1, 12, .inl (upd (A 227) (R) ((-1))))) := ⟨_, rfl⟩
                have hP : va_P D vcl (fw n ad mem23) H := by rw [e_mem23]; exact hP
                have hD : va_D (Az sz) (fw n ad mem23) := fw_D hD
                have hW24 : MW cy ad J9 A22 nn20 m0 mem23 := by rw [e_mem23, eA22]; exact hW21.upA (j := 227) (by decide) (by decide) (by decide) (Or.inl (by decide))
                refine lv_aload_n Bx.1 Bx.2.1 d_Mo_name_154 rfl (lv_at hl 4 rfl) ?_
                refine lv_dup Bx.1 Bx.2.1 d_Mo_name_155 rfl ?_
                refine f_get Bx hP (by omega) hW24.1 rfl inMo 4 (by decide) kw_660 rfl rfl d_Mo_name_156 ?_
                rw [g4]
                refine lv_iconst (v := 1) Bx.1 Bx.2.1 d_Mo_name_159 (by decide) ?_
                refine lv_iadd Bx.1 Bx.2.1 d_Mo_name_160 ?_
                rw [show nI R + 1 = nI (R + 1) from nI_add (R) (1)]
                refine f_put Bx hP hD hS (by omega) hW24.1 rfl inMo tyMo okMo nmMo 4 (by decide) kw_660 rfl rfl rfl rfl (Nat.le_of_ble_eq_true rfl) d_Mo_name_161 (fun H locs hP hS => ?_)
                obtain ⟨J25, eJ25⟩ : ∃ z, z = va_up J9 4 (nI (R + 1)) := ⟨_, rfl⟩
                obtain ⟨mem26, e_mem26⟩ : ∃ z, z = va_up mem23 224 (moC ad J25) := ⟨_, rfl⟩
                have hP : va_P D vcl (fw n ad mem26) H := by rw [e_mem26, eJ25]; exact hP
                have hD : va_D (Az sz) (fw n ad mem26) := fw_D hD
                have hW27 : MW cy ad J25 A22 nn20 m0 mem26 := by rw [e_mem26]; exact hW24.upJ (by rw [eJ25]; exact va_up_ne _ _ (by decide))
                have kk28 : J25 1 = nI L := by rw [eJ25]; exact g1
                have kk29 : J25 16 = nI a1 := by rw [eJ25]; exact g16
                have kk30 : J25 4 = nI (R + 1) := by rw [eJ25, va_up_self]
                refine lv_aload_n Bx.1 Bx.2.1 d_Mo_name_164 rfl (lv_at hl 4 rfl) ?_
                refine f_get Bx hP (by omega) hW27.1 rfl inMo 4 (by decide) kw_660 rfl rfl d_Mo_name_165 ?_
                rw [kk30]
                refine lv_iconst (v := 1) Bx.1 Bx.2.1 d_Mo_name_168 (by decide) ?_
                refine lv_isub Bx.1 Bx.2.1 d_Mo_name_169 ?_
                rw [show nI (R + 1) - 1 = nI (R) from nI_pred (R)]
                exact W.iret (v := nI (R)) hx hb hr (fun t ht hW => ⟨⟨nI (R), mem26, rfl, ⟨J25, A22, nn20, hW27, a1, by omega, by omega, kk29, fun i q1 q2 q3 q4 => by rw [eJ25, va_up_ne _ _ q4, eJ9, va_up_ne _ _ q1], Or.inr ⟨by rw [eJ25, eJ9]; rfl, R, R + 1, rfl, by omega, by omega, kk30, Or.inr ⟨rfl, by rw [eA22]⟩⟩⟩, by show va_P _ _ _ t.heap; rw [ht]; exact hP⟩, hS.F ht⟩) hS.2.2 d_Mo_name_170
              · have hN31 : R = 12 := (nI_eq (by omega) (by omega)).mp (show nI (R) = nI (12) from hb17)
                refine lv_aload_n Bx.1 Bx.2.1 d_Mo_name_126 rfl (lv_at hl 4 rfl) ?_
                refine lv_iconst (v := 2) Bx.1 Bx.2.1 d_Mo_name_127 (by decide) ?_
                refine lv_iload_n Bx.1 Bx.2.1 d_Mo_name_128 rfl (lv_at hl 3 rfl) ?_
                refine f_callVv (na := 2) (As := [.int (2), .int (nI a)]) (rest := []) Bx hml E hP hD hS (by omega) hz4.1 rfl (m_Mo_wrong l hn hz4 (by rw [eJ9]; exact h17) (by first | exact Or.inl rfl | exact Or.inr rfl)) kw_799 kw_801 sel_Mo_wrong kw_8 kw_802 (by decide +kernel) ⟨rfl, rfl⟩ ⟨Nat.le_of_ble_eq_true rfl, Nat.le_of_ble_eq_true rfl⟩ rfl hl.1 (Nat.le_of_ble_eq_true rfl) d_Mo_name_129 ⟨Nat.le_of_ble_eq_true rfl, Nat.le_of_ble_eq_true rfl⟩ (fun mem33 H locs hq hP hS => ?_)
                have hD : va_D (Az sz) (fw n ad mem33) := fw_D hD
                obtain ⟨J34, hW35, hwr36⟩ := hq
                have kk37 : J34 1 = nI L := (show J34 1 = J9 1 from hwr36.2 1 (by decide) (by decide)).trans g1
                have kk38 : J34 16 = nI a1 := (show J34 16 = J9 16 from hwr36.2 16 (by decide) (by decide)).trans g16
                have kk39 : J34 4 = nI R := (show J34 4 = J9 4 from hwr36.2 4 (by decide) (by decide)).trans g4
                refine lv_iconst (v := 0) Bx.1 Bx.2.1 d_Mo_name_132 (by decide) ?_
                exact W.iret (v := 0) hx hb hr (fun t ht hW => ⟨⟨0, mem33, rfl, ⟨J34, A, nm, hW35, a1, by omega, by omega, kk38, fun i q1 q2 q3 q4 => (hwr36.2 i q2 q3).trans (by rw [eJ9, va_up_ne _ _ q1]), Or.inl ⟨hwr36.1, rfl⟩⟩, by show va_P _ _ _ t.heap; rw [ht]; exact hP⟩, hS.F ht⟩) hS.2.2 d_Mo_name_133
            · have hN40 : ¬ R ≤ rr := fun q9 => hb15 (show nI (R) ≤ nI (rr) from (nI_leI (by omega) (by omega)).mpr q9)
              refine lv_aload_n Bx.1 Bx.2.1 d_Mo_name_96 rfl (lv_at hl 4 rfl) ?_
              refine f_get Bx hP (by omega) hz4.1 rfl inMo 5 (by decide) kw_661 rfl rfl d_Mo_name_97 ?_
              refine lv_iload Bx.1 Bx.2.1 d_Mo_name_100 (lv_at hl 0 rfl) ?_
              refine f_lald Bx hP (by omega) hz4.2.1 (vp_in_nI (n := rr) (by omega) (by decide)) d_Mo_name_102 ?_
              refine lv_lload_n Bx.1 Bx.2.1 d_Mo_name_103 rfl (lv_at hl 2 rfl) ?_
              refine W.lcmp Bx.1 Bx.2.1 d_Mo_name_104 ?_
              refine lv_if_ne Bx.1 Bx.2.1 d_Mo_name_105 rfl (fun h7 => ?_) (fun h7 => ?_)
              · refine lv_iinc (lv' := [(5, .int ((nI rr + (1)))), (4, .int (nI k)), (2, .long (v)), (1, .int (nI a)), (0, .ref (ad 224))]) Bx.1 Bx.2.1 d_Mo_name_111 hl (k := 0) rfl rfl (by decide) rfl (fun ls hl => ?_)
                rw [show (nI rr + (1) : Int32) = nI (rr + 1) from nI_1 (rr)] at hl
                refine lv_goto Bx.1 Bx.2.1 d_Mo_name_114 rfl ?_
                exact ih13 (rr + 1) _ _ _ (by have := hmeas14; omega) (by omega) hP hD hS (lv_sub hl [0, 1, 2, 3, 4] rfl)
              · refine lv_iload Bx.1 Bx.2.1 d_Mo_name_108 (lv_at hl 0 rfl) ?_
                exact W.iret (v := nI rr) hx hb hr (fun t ht hW => ⟨⟨nI rr, mem9, rfl, ⟨J9, A, nm, hz4, a1, by omega, by omega, g16, fun i q1 q2 q3 q4 => by rw [eJ9, va_up_ne _ _ q1], Or.inr ⟨by rw [eJ9]; rfl, rr, R, rfl, by omega, by omega, g4, Or.inl ⟨rfl, rfl⟩⟩⟩, by show va_P _ _ _ t.heap; rw [ht]; exact hP⟩, hS.F ht⟩) hS.2.2 d_Mo_name_110
        exact loop10 _ (0) _ _ _ (Nat.lt_succ_self _) (by omega) hP hD hS (lv_sub hl [0, 1, 2, 3, 4] rfl)
      · have hN41 : ¬ 6 ≤ k := fun q9 => hb8 (show nI (6) ≤ nI (k) from (nI_leI (by omega) (by omega)).mpr q9)
        refine lv_aload_n Bx.1 Bx.2.1 d_Mo_name_17 rfl (lv_at hl 3 rfl) ?_
        refine f_callVi (na := 0) (As := []) (rest := []) Bx hml E hP hD hS (by omega) hz4.1 rfl (m_Mo_here l hn hz4 g1 hL g16 (by omega)) kw_778 kw_780 sel_Mo_here kw_8 kw_781 (by decide +kernel) ⟨rfl, rfl⟩ ⟨Nat.le_of_ble_eq_true rfl, Nat.le_of_ble_eq_true rfl⟩ rfl hl.1 (Nat.le_of_ble_eq_true rfl) d_Mo_name_18 ⟨Nat.le_of_ble_eq_true rfl, Nat.le_of_ble_eq_true rfl⟩ (fun r42 mem43 H locs hq hP hS => ?_)
        have hD : va_D (Az sz) (fw n ad mem43) := fw_D hD
        obtain ⟨hre, hq⟩ := hq
        rw [hq] at hP hD
        subst hre
        refine f_callSi (na := 1) (As := [.int (hereF L (A 225) (a1))]) (rest := []) Bx hml E.2.1 (m_Mo_letter l (hereF L (A 225) (a1))) kw_782 kw_783 kw_8 kw_784 (by decide +kernel) ⟨rfl, rfl⟩ ⟨Nat.le_of_ble_eq_true rfl, Nat.le_of_ble_eq_true rfl⟩ rfl hl.1 (Nat.le_of_ble_eq_true rfl) d_Mo_name_21 ⟨Nat.le_of_ble_eq_true rfl, Nat.le_of_ble_eq_true rfl⟩ (fun r45 hs44 => ?_)
        subst hs44
        refine lv_if_ne Bx.1 Bx.2.1 d_Mo_name_24 rfl (fun hb46 => ?_) (fun hb46 => ?_)
        · have hlt47 : a1 < L := hereF_lt (ltF_ne hb46)
          refine lv_lload_n Bx.1 Bx.2.1 d_Mo_name_51 rfl (lv_at hl 1 rfl) ?_
          refine lv_aload_n Bx.1 Bx.2.1 d_Mo_name_52 rfl (lv_at hl 3 rfl) ?_
          refine f_callVi (na := 0) (As := []) (rest := [.long (v)]) Bx hml E hP hD hS (by omega) hz4.1 rfl (m_Mo_here l hn hz4 g1 hL g16 (by omega)) kw_778 kw_780 sel_Mo_here kw_8 kw_781 (by decide +kernel) ⟨rfl, rfl⟩ ⟨Nat.le_of_ble_eq_true rfl, Nat.le_of_ble_eq_true rfl⟩ rfl hl.1 (Nat.le_of_ble_eq_true rfl) d_Mo_name_53 ⟨Nat.le_of_ble_eq_true rfl, Nat.le_of_ble_eq_true rfl⟩ (fun r48 mem49 H locs hq hP hS => ?_)
          have hD : va_D (Az sz) (fw n ad mem49) := fw_D hD
          obtain ⟨hre, hq⟩ := hq
          rw [hq] at hP hD
          subst hre
          refine f_callSi (na := 1) (As := [.int (hereF L (A 225) (a1))]) (rest := [.long (v)]) Bx hml E.2.1 (m_Mo_small l (hereF L (A 225) (a1))) kw_796 kw_797 kw_8 kw_798 (by decide +kernel) ⟨rfl, rfl⟩ ⟨Nat.le_of_ble_eq_true rfl, Nat.le_of_ble_eq_true rfl⟩ rfl hl.1 (Nat.le_of_ble_eq_true rfl) d_Mo_name_56 ⟨Nat.le_of_ble_eq_true rfl, Nat.le_of_ble_eq_true rfl⟩ (fun r51 hs50 => ?_)
          subst hs50
          refine lv_i2l Bx.1 Bx.2.1 d_Mo_name_59 rfl ?_
          refine lv_bipush (v := 8) Bx.1 Bx.2.1 d_Mo_name_60 (by decide) ?_
          refine lv_iload Bx.1 Bx.2.1 d_Mo_name_62 (lv_at hl 0 rfl) ?_
          refine lv_imul Bx.1 Bx.2.1 d_Mo_name_64 ?_
          rw [show 8 * nI k = nI (8 * k) from nI_mulR (8) (k)]
          refine lv_lshl Bx.1 Bx.2.1 d_Mo_name_65 rfl ?_
          refine lv_lor Bx.1 Bx.2.1 d_Mo_name_66 ?_
          refine lv_lstore_n (lv' := [(2, .long (v ||| ((smF (hereF L (A 225) (a1))).toInt64) <<< ((nI (8 * k) : Int32).toInt64 &&& 63))), (4, .int (nI k)), (1, .int (nI a)), (0, .ref (ad 224))]) Bx.1 Bx.2.1 d_Mo_name_67 rfl hl (by decide) rfl (fun ls hl => ?_)
          refine lv_iinc (lv' := [(4, .int ((nI k + (1)))), (2, .long (v ||| ((smF (hereF L (A 225) (a1))).toInt64) <<< ((nI (8 * k) : Int32).toInt64 &&& 63))), (1, .int (nI a)), (0, .ref (ad 224))]) Bx.1 Bx.2.1 d_Mo_name_68 hl (k := 1) rfl rfl (by decide) rfl (fun ls hl => ?_)
          rw [show (nI k + (1) : Int32) = nI (k + 1) from nI_1 (k)] at hl
          refine lv_aload_n Bx.1 Bx.2.1 d_Mo_name_71 rfl (lv_at hl 3 rfl) ?_
          refine lv_dup Bx.1 Bx.2.1 d_Mo_name_72 rfl ?_
          refine f_get Bx hP (by omega) hz4.1 rfl inMo 16 (by decide) kw_672 rfl rfl d_Mo_name_73 ?_
          rw [g16]
          refine lv_iconst (v := 1) Bx.1 Bx.2.1 d_Mo_name_76 (by decide) ?_
          refine lv_iadd Bx.1 Bx.2.1 d_Mo_name_77 ?_
          rw [show nI a1 + 1 = nI (a1 + 1) from nI_add (a1) (1)]
          refine f_put Bx hP hD hS (by omega) hz4.1 rfl inMo tyMo okMo nmMo 16 (by decide) kw_672 rfl rfl rfl rfl (Nat.le_of_ble_eq_true rfl) d_Mo_name_78 (fun H locs hP hS => ?_)
          obtain ⟨J52, eJ52⟩ : ∃ z, z = va_up J9 16 (nI (a1 + 1)) := ⟨_, rfl⟩
          obtain ⟨mem53, e_mem53⟩ : ∃ z, z = va_up mem9 224 (moC ad J52) := ⟨_, rfl⟩
          have hP : va_P D vcl (fw n ad mem53) H := by rw [e_mem53, eJ52]; exact hP
          have hD : va_D (Az sz) (fw n ad mem53) := fw_D hD
          have hW54 : MW cy ad J52 A nm m0 mem53 := by rw [e_mem53]; exact hz4.upJ (by rw [eJ52]; exact va_up_ne _ _ (by decide))
          have kk55 : J52 1 = nI L := by rw [eJ52]; exact g1
          have kk56 : J52 4 = nI R := by rw [eJ52]; exact g4
          have kk57 : J52 16 = nI (a1 + 1) := by rw [eJ52, va_up_self]
          refine lv_goto Bx.1 Bx.2.1 d_Mo_name_81 rfl ?_
          have hJe : J52 = va_up J 16 (nI (a1 + 1)) := by rw [eJ52, eJ9, up_up]
          exact ih6 mem53 (J52) (a1 + 1) (k + 1) (v ||| ((smF (hereF L (A 225) (a1))).toInt64) <<< ((nI (8 * k) : Int32).toInt64 &&& 63)) _ _ _ (by have := hmeas7; omega) (⟨hJe, kk55, kk57, kk56⟩) (hW54) (⟨by omega, by omega, by omega⟩) hP hD hS (lv_sub hl [0, 1, 2, 3] rfl)
        · refine lv_iload Bx.1 Bx.2.1 d_Mo_name_27 (lv_at hl 0 rfl) ?_
          refine lv_if_le Bx.1 Bx.2.1 d_Mo_name_29 rfl (fun hb58 => ?_) (fun hb58 => ?_)
          · have hN59 : k ≤ 0 := (nI_leI (by omega) (by omega)).mp (show nI (k) ≤ nI (0) from hb58)
            have hn1 : 1 ≤ k := by first | omega | exact Nat.pos_of_ne_zero (fun q9 => by subst q9; obtain rfl : a1 = a := (by omega); exact absurd hb46 hlet)
            refine lv_iconst (v := 0) Bx.1 Bx.2.1 d_Mo_name_84 (by decide) ?_
            refine lv_istore (lv' := [(5, .int (0)), (4, .int (nI k)), (2, .long (v)), (1, .int (nI a)), (0, .ref (ad 224))]) Bx.1 Bx.2.1 d_Mo_name_85 hl (by decide) rfl (fun ls hl => ?_)
            have loop60 : ∀ (d61 : Nat) (rr : Nat) (ls : Array Slot) (H : Heap) (locs : List Loc), (R - rr < d61) → (rr ≤ R) → (va_P D vcl (fw n ad mem9) H) → (va_D (Az sz) (fw n ad mem9)) → (va_S (Az sz) s.heap H locs) → (lv_has ls 6 [(5, .int (nI rr)), (4, .int (nI k)), (2, .long (v)), (1, .int (nI a)), (0, .ref (ad 224))]) → W p l e (headSpec (Cond.code y_Mo_name c_Mo_name 6 (some .int) :: tg) ({ frames := 2, cells := 0, slots := 0, locals := 60 } : Room)).room s m [.ref (ad 224)].toArray below meth c H locs 0 0 (MQ below (va_Qi (fun r mem' => ∃ J' A' nm', MW cy ad J' A' nm' m0 mem' ∧ nmP J J' A A' L a R r) (PP D n ad) (Az sz)) [.ref (ad 224)].toArray s 0 0 (Az sz)) (F0 m 87 ls []) := by
              intro d61
              induction d61 with
              | zero => intro rr ls H locs hmeas64; exact absurd hmeas64 (Nat.not_lt_zero _)
              | succ d61 ih63 =>
                intro rr ls H locs hmeas64 hz62 hP hD hS hl
                refine lv_iload Bx.1 Bx.2.1 d_Mo_name_87 (lv_at hl 0 rfl) ?_
                refine lv_aload_n Bx.1 Bx.2.1 d_Mo_name_89 rfl (lv_at hl 4 rfl) ?_
                refine f_get Bx hP (by omega) hz4.1 rfl inMo 4 (by decide) kw_660 rfl rfl d_Mo_name_90 ?_
                rw [g4]
                refine lv_icmp_ge Bx.1 Bx.2.1 d_Mo_name_93 rfl (fun hb65 => ?_) (fun hb65 => ?_)
                · have hN66 : R ≤ rr := (nI_leI (by omega) (by omega)).mp (show nI (R) ≤ nI (rr) from hb65)
                  refine lv_aload_n Bx.1 Bx.2.1 d_Mo_name_117 rfl (lv_at hl 4 rfl) ?_
                  refine f_get Bx hP (by omega) hz4.1 rfl inMo 4 (by decide) kw_660 rfl rfl d_Mo_name_118 ?_
                  rw [g4]
                  refine lv_bipush (v := 12) Bx.1 Bx.2.1 d_Mo_name_121 (by decide) ?_
                  refine lv_icmp_ne Bx.1 Bx.2.1 d_Mo_name_123 rfl (fun hb67 => ?_) (fun hb67 => ?_)
                  · have hN68 : ¬ R = 12 := fun q9 => hb67 (show nI (R) = nI (12) from (nI_eq (by omega) (by omega)).mpr q9)
                    refine lv_aload_n Bx.1 Bx.2.1 d_Mo_name_134 rfl (lv_at hl 4 rfl) ?_
                    refine f_get Bx hP (by omega) hz4.1 rfl inMo 5 (by decide) kw_661 rfl rfl d_Mo_name_135 ?_
                    refine lv_aload_n Bx.1 Bx.2.1 d_Mo_name_138 rfl (lv_at hl 4 rfl) ?_
                    refine f_get Bx hP (by omega) hz4.1 rfl inMo 4 (by decide) kw_660 rfl rfl d_Mo_name_139 ?_
                    rw [g4]
                    refine lv_lload_n Bx.1 Bx.2.1 d_Mo_name_142 rfl (lv_at hl 2 rfl) ?_
                    refine f_last (x := v) (i := nI R) Bx hP hD hS (by omega) hz4.2.1 (vp_in_nI (n := R) (by omega) (by decide)) d_Mo_name_143 (fun H locs hP hS => ?_)
                    obtain ⟨nn70, enn70⟩ : ∃ z : Nat → Int64, z = vp_updL nm (nI R).toNatClampNeg (v) := ⟨_, rfl⟩
                    rw [← enn70] at hP
                    obtain ⟨mem69, e_mem69⟩ : ∃ z, z = va_up mem9 226 (.inl (cy 2, 12, .inr (.inl nn70))) := ⟨_, rfl⟩
                    have hP : va_P D vcl (fw n ad mem69) H := by rw [e_mem69]; exact hP
                    have hD : va_D (Az sz) (fw n ad mem69) := fw_D hD
                    have hW71 : MW cy ad J9 A nn70 m0 mem69 := by rw [e_mem69]; exact hz4.upN
                    refine lv_aload_n Bx.1 Bx.2.1 d_Mo_name_144 rfl (lv_at hl 4 rfl) ?_
                    refine f_get Bx hP (by omega) hW71.1 rfl inMo 6 (by decide) kw_662 rfl rfl d_Mo_name_145 ?_
                    refine lv_aload_n Bx.1 Bx.2.1 d_Mo_name_148 rfl (lv_at hl 4 rfl) ?_
                    refine f_get Bx hP (by omega) hW71.1 rfl inMo 4 (by decide) kw_660 rfl rfl d_Mo_name_149 ?_
                    rw [g4]
                    refine lv_iconst (v := -1) Bx.1 Bx.2.1 d_Mo_name_152 (by decide) ?_
                    refine f_iast (x := (-1)) (i := nI (R)) Bx hP hD hS (by omega) (show mem69 227 = .inl (cy 1, 12, .inl (A 227)) from hW71.2.2.1 227 (by decide) (by decide) (by decide)) (vp_in_nI (n := R) (by omega) (by decide)) d_Mo_name_153 (fun H locs hP hS => ?_)
                    rw [nI_clamp (n := R) (by omega)] at hP
                    obtain ⟨A72, eA72⟩ : ∃ z, z = va_up A 227 (upd (A 227) (R) ((-1))) := ⟨_, rfl⟩
                    obtain ⟨mem73, e_mem73⟩ : ∃ z, z = va_up mem69 227 (.inl (cy 1, 12, .inl (upd (A 227) (R) ((-1))))) := ⟨_, rfl⟩
                    have hP : va_P D vcl (fw n ad mem73) H := by rw [e_mem73]; exact hP
                    have hD : va_D (Az sz) (fw n ad mem73) := fw_D hD
                    have hW74 : MW cy ad J9 A72 nn70 m0 mem73 := by rw [e_mem73, eA72]; exact hW71.upA (j := 227) (by decide) (by decide) (by decide) (Or.inl (by decide))
                    refine lv_aload_n Bx.1 Bx.2.1 d_Mo_name_154 rfl (lv_at hl 4 rfl) ?_
                    refine lv_dup Bx.1 Bx.2.1 d_Mo_name_155 rfl ?_
                    refine f_get Bx hP (by omega) hW74.1 rfl inMo 4 (by decide) kw_660 rfl rfl d_Mo_name_156 ?_
                    rw [g4]
                    refine lv_iconst (v := 1) Bx.1 Bx.2.1 d_Mo_name_159 (by decide) ?_
                    refine lv_iadd Bx.1 Bx.2.1 d_Mo_name_160 ?_
                    rw [show nI R + 1 = nI (R + 1) from nI_add (R) (1)]
                    refine f_put Bx hP hD hS (by omega) hW74.1 rfl inMo tyMo okMo nmMo 4 (by decide) kw_660 rfl rfl rfl rfl (Nat.le_of_ble_eq_true rfl) d_Mo_name_161 (fun H locs hP hS => ?_)
                    obtain ⟨J75, eJ75⟩ : ∃ z, z = va_up J9 4 (nI (R + 1)) := ⟨_, rfl⟩
                    obtain ⟨mem76, e_mem76⟩ : ∃ z, z = va_up mem73 224 (moC ad J75) := ⟨_, rfl⟩
                    have hP : va_P D vcl (fw n ad mem76) H := by rw [e_mem76, eJ75]; exact hP
                    have hD : va_D (Az sz) (fw n ad mem76) := fw_D hD
                    have hW77 : MW cy ad J75 A72 nn70 m0 mem76 := by rw [e_mem76]; exact hW74.upJ (by rw [eJ75]; exact va_up_ne _ _ (by decide))
                    have kk78 : J75 1 = nI L := by rw [eJ75]; exact g1
                    have kk79 : J75 16 = nI a1 := by rw [eJ75]; exact g16
                    have kk80 : J75 4 = nI (R + 1) := by rw [eJ75, va_up_self]
                    refine lv_aload_n Bx.1 Bx.2.1 d_Mo_name_164 rfl (lv_at hl 4 rfl) ?_
                    refine f_get Bx hP (by omega) hW77.1 rfl inMo 4 (by decide) kw_660 rfl rfl d_Mo_name_165 ?_
                    rw [kk80]
                    refine lv_iconst (v := 1) Bx.1 Bx.2.1 d_Mo_name_168 (by decide) ?_
                    refine lv_isub Bx.1 Bx.2.1 d_Mo_name_169 ?_
                    rw [show nI (R + 1) - 1 = nI (R) from nI_pred (R)]
                    exact W.iret (v := nI (R)) hx hb hr (fun t ht hW => ⟨⟨nI (R), mem76, rfl, ⟨J75, A72, nn70, hW77, a1, by omega, by omega, kk79, fun i q1 q2 q3 q4 => by rw [eJ75, va_up_ne _ _ q4, eJ9, va_up_ne _ _ q1], Or.inr ⟨by rw [eJ75, eJ9]; rfl, R, R + 1, rfl, by omega, by omega, kk80, Or.inr ⟨rfl, by rw [eA72]⟩⟩⟩, by show va_P _ _ _ t.heap; rw [ht]; exact hP⟩, hS.F ht⟩) hS.2.2 d_Mo_name_170
                  · have hN81 : R = 12 := (nI_eq (by omega) (by omega)).mp (show nI (R) = nI (12) from hb67)
                    refine lv_aload_n Bx.1 Bx.2.1 d_Mo_name_126 rfl (lv_at hl 4 rfl) ?_
                    refine lv_iconst (v := 2) Bx.1 Bx.2.1 d_Mo_name_127 (by decide) ?_
                    refine lv_iload_n Bx.1 Bx.2.1 d_Mo_name_128 rfl (lv_at hl 3 rfl) ?_
                    refine f_callVv (na := 2) (As := [.int (2), .int (nI a)]) (rest := []) Bx hml E hP hD hS (by omega) hz4.1 rfl (m_Mo_wrong l hn hz4 (by rw [eJ9]; exact h17) (by first | exact Or.inl rfl | exact Or.inr rfl)) kw_799 kw_801 sel_Mo_wrong kw_8 kw_802 (by decide +kernel) ⟨rfl, rfl⟩ ⟨Nat.le_of_ble_eq_true rfl, Nat.le_of_ble_eq_true rfl⟩ rfl hl.1 (Nat.le_of_ble_eq_true rfl) d_Mo_name_129 ⟨Nat.le_of_ble_eq_true rfl, Nat.le_of_ble_eq_true rfl⟩ (fun mem83 H locs hq hP hS => ?_)
                    have hD : va_D (Az sz) (fw n ad mem83) := fw_D hD
                    obtain ⟨J84, hW85, hwr86⟩ := hq
                    have kk87 : J84 1 = nI L := (show J84 1 = J9 1 from hwr86.2 1 (by decide) (by decide)).trans g1
                    have kk88 : J84 16 = nI a1 := (show J84 16 = J9 16 from hwr86.2 16 (by decide) (by decide)).trans g16
                    have kk89 : J84 4 = nI R := (show J84 4 = J9 4 from hwr86.2 4 (by decide) (by decide)).trans g4
                    refine lv_iconst (v := 0) Bx.1 Bx.2.1 d_Mo_name_132 (by decide) ?_
                    exact W.iret (v := 0) hx hb hr (fun t ht hW => ⟨⟨0, mem83, rfl, ⟨J84, A, nm, hW85, a1, by omega, by omega, kk88, fun i q1 q2 q3 q4 => (hwr86.2 i q2 q3).trans (by rw [eJ9, va_up_ne _ _ q1]), Or.inl ⟨hwr86.1, rfl⟩⟩, by show va_P _ _ _ t.heap; rw [ht]; exact hP⟩, hS.F ht⟩) hS.2.2 d_Mo_name_133
                · have hN90 : ¬ R ≤ rr := fun q9 => hb65 (show nI (R) ≤ nI (rr) from (nI_leI (by omega) (by omega)).mpr q9)
                  refine lv_aload_n Bx.1 Bx.2.1 d_Mo_name_96 rfl (lv_at hl 4 rfl) ?_
                  refine f_get Bx hP (by omega) hz4.1 rfl inMo 5 (by decide) kw_661 rfl rfl d_Mo_name_97 ?_
                  refine lv_iload Bx.1 Bx.2.1 d_Mo_name_100 (lv_at hl 0 rfl) ?_
                  refine f_lald Bx hP (by omega) hz4.2.1 (vp_in_nI (n := rr) (by omega) (by decide)) d_Mo_name_102 ?_
                  refine lv_lload_n Bx.1 Bx.2.1 d_Mo_name_103 rfl (lv_at hl 2 rfl) ?_
                  refine W.lcmp Bx.1 Bx.2.1 d_Mo_name_104 ?_
                  refine lv_if_ne Bx.1 Bx.2.1 d_Mo_name_105 rfl (fun h7 => ?_) (fun h7 => ?_)
                  · refine lv_iinc (lv' := [(5, .int ((nI rr + (1)))), (4, .int (nI k)), (2, .long (v)), (1, .int (nI a)), (0, .ref (ad 224))]) Bx.1 Bx.2.1 d_Mo_name_111 hl (k := 0) rfl rfl (by decide) rfl (fun ls hl => ?_)
                    rw [show (nI rr + (1) : Int32) = nI (rr + 1) from nI_1 (rr)] at hl
                    refine lv_goto Bx.1 Bx.2.1 d_Mo_name_114 rfl ?_
                    exact ih63 (rr + 1) _ _ _ (by have := hmeas64; omega) (by omega) hP hD hS (lv_sub hl [0, 1, 2, 3, 4] rfl)
                  · refine lv_iload Bx.1 Bx.2.1 d_Mo_name_108 (lv_at hl 0 rfl) ?_
                    exact W.iret (v := nI rr) hx hb hr (fun t ht hW => ⟨⟨nI rr, mem9, rfl, ⟨J9, A, nm, hz4, a1, by omega, by omega, g16, fun i q1 q2 q3 q4 => by rw [eJ9, va_up_ne _ _ q1], Or.inr ⟨by rw [eJ9]; rfl, rr, R, rfl, by omega, by omega, g4, Or.inl ⟨rfl, rfl⟩⟩⟩, by show va_P _ _ _ t.heap; rw [ht]; exact hP⟩, hS.F ht⟩) hS.2.2 d_Mo_name_110
            exact loop60 _ (0) _ _ _ (Nat.lt_succ_self _) (by omega) hP hD hS (lv_sub hl [0, 1, 2, 3, 4] rfl)
          · have hN91 : ¬ k ≤ 0 := fun q9 => hb58 (show nI (k) ≤ nI (0) from (nI_leI (by omega) (by omega)).mpr q9)
            refine lv_aload_n Bx.1 Bx.2.1 d_Mo_name_32 rfl (lv_at hl 3 rfl) ?_
            refine f_callVi (na := 0) (As := []) (rest := []) Bx hml E hP hD hS (by omega) hz4.1 rfl (m_Mo_here l hn hz4 g1 hL g16 (by omega)) kw_778 kw_780 sel_Mo_here kw_8 kw_781 (by decide +kernel) ⟨rfl, rfl⟩ ⟨Nat.le_of_ble_eq_true rfl, Nat.le_of_ble_eq_true rfl⟩ rfl hl.1 (Nat.le_of_ble_eq_true rfl) d_Mo_name_33 ⟨Nat.le_of_ble_eq_true rfl, Nat.le_of_ble_eq_true rfl⟩ (fun r92 mem93 H locs hq hP hS => ?_)
            have hD : va_D (Az sz) (fw n ad mem93) := fw_D hD
            obtain ⟨hre, hq⟩ := hq
            rw [hq] at hP hD
            subst hre
            refine f_callSi (na := 1) (As := [.int (hereF L (A 225) (a1))]) (rest := []) Bx hml E.2.1 (m_Mo_digit l (hereF L (A 225) (a1))) kw_793 kw_794 kw_8 kw_795 (by decide +kernel) ⟨rfl, rfl⟩ ⟨Nat.le_of_ble_eq_true rfl, Nat.le_of_ble_eq_true rfl⟩ rfl hl.1 (Nat.le_of_ble_eq_true rfl) d_Mo_name_36 ⟨Nat.le_of_ble_eq_true rfl, Nat.le_of_ble_eq_true rfl⟩ (fun r95 hs94 => ?_)
            subst hs94
            refine lv_if_ne Bx.1 Bx.2.1 d_Mo_name_39 rfl (fun hb96 => ?_) (fun hb96 => ?_)
            · have hlt97 : a1 < L := hereF_lt (dg_ne hb96)
              refine lv_lload_n Bx.1 Bx.2.1 d_Mo_name_51 rfl (lv_at hl 1 rfl) ?_
              refine lv_aload_n Bx.1 Bx.2.1 d_Mo_name_52 rfl (lv_at hl 3 rfl) ?_
              refine f_callVi (na := 0) (As := []) (rest := [.long (v)]) Bx hml E hP hD hS (by omega) hz4.1 rfl (m_Mo_here l hn hz4 g1 hL g16 (by omega)) kw_778 kw_780 sel_Mo_here kw_8 kw_781 (by decide +kernel) ⟨rfl, rfl⟩ ⟨Nat.le_of_ble_eq_true rfl, Nat.le_of_ble_eq_true rfl⟩ rfl hl.1 (Nat.le_of_ble_eq_true rfl) d_Mo_name_53 ⟨Nat.le_of_ble_eq_true rfl, Nat.le_of_ble_eq_true rfl⟩ (fun r98 mem99 H locs hq hP hS => ?_)
              have hD : va_D (Az sz) (fw n ad mem99) := fw_D hD
              obtain ⟨hre, hq⟩ := hq
              rw [hq] at hP hD
              subst hre
              refine f_callSi (na := 1) (As := [.int (hereF L (A 225) (a1))]) (rest := [.long (v)]) Bx hml E.2.1 (m_Mo_small l (hereF L (A 225) (a1))) kw_796 kw_797 kw_8 kw_798 (by decide +kernel) ⟨rfl, rfl⟩ ⟨Nat.le_of_ble_eq_true rfl, Nat.le_of_ble_eq_true rfl⟩ rfl hl.1 (Nat.le_of_ble_eq_true rfl) d_Mo_name_56 ⟨Nat.le_of_ble_eq_true rfl, Nat.le_of_ble_eq_true rfl⟩ (fun r101 hs100 => ?_)
              subst hs100
              refine lv_i2l Bx.1 Bx.2.1 d_Mo_name_59 rfl ?_
              refine lv_bipush (v := 8) Bx.1 Bx.2.1 d_Mo_name_60 (by decide) ?_
              refine lv_iload Bx.1 Bx.2.1 d_Mo_name_62 (lv_at hl 0 rfl) ?_
              refine lv_imul Bx.1 Bx.2.1 d_Mo_name_64 ?_
              rw [show 8 * nI k = nI (8 * k) from nI_mulR (8) (k)]
              refine lv_lshl Bx.1 Bx.2.1 d_Mo_name_65 rfl ?_
              refine lv_lor Bx.1 Bx.2.1 d_Mo_name_66 ?_
              refine lv_lstore_n (lv' := [(2, .long (v ||| ((smF (hereF L (A 225) (a1))).toInt64) <<< ((nI (8 * k) : Int32).toInt64 &&& 63))), (4, .int (nI k)), (1, .int (nI a)), (0, .ref (ad 224))]) Bx.1 Bx.2.1 d_Mo_name_67 rfl hl (by decide) rfl (fun ls hl => ?_)
              refine lv_iinc (lv' := [(4, .int ((nI k + (1)))), (2, .long (v ||| ((smF (hereF L (A 225) (a1))).toInt64) <<< ((nI (8 * k) : Int32).toInt64 &&& 63))), (1, .int (nI a)), (0, .ref (ad 224))]) Bx.1 Bx.2.1 d_Mo_name_68 hl (k := 1) rfl rfl (by decide) rfl (fun ls hl => ?_)
              rw [show (nI k + (1) : Int32) = nI (k + 1) from nI_1 (k)] at hl
              refine lv_aload_n Bx.1 Bx.2.1 d_Mo_name_71 rfl (lv_at hl 3 rfl) ?_
              refine lv_dup Bx.1 Bx.2.1 d_Mo_name_72 rfl ?_
              refine f_get Bx hP (by omega) hz4.1 rfl inMo 16 (by decide) kw_672 rfl rfl d_Mo_name_73 ?_
              rw [g16]
              refine lv_iconst (v := 1) Bx.1 Bx.2.1 d_Mo_name_76 (by decide) ?_
              refine lv_iadd Bx.1 Bx.2.1 d_Mo_name_77 ?_
              rw [show nI a1 + 1 = nI (a1 + 1) from nI_add (a1) (1)]
              refine f_put Bx hP hD hS (by omega) hz4.1 rfl inMo tyMo okMo nmMo 16 (by decide) kw_672 rfl rfl rfl rfl (Nat.le_of_ble_eq_true rfl) d_Mo_name_78 (fun H locs hP hS => ?_)
              obtain ⟨J102, eJ102⟩ : ∃ z, z = va_up J9 16 (nI (a1 + 1)) := ⟨_, rfl⟩
              obtain ⟨mem103, e_mem103⟩ : ∃ z, z = va_up mem9 224 (moC ad J102) := ⟨_, rfl⟩
              have hP : va_P D vcl (fw n ad mem103) H := by rw [e_mem103, eJ102]; exact hP
              have hD : va_D (Az sz) (fw n ad mem103) := fw_D hD
              have hW104 : MW cy ad J102 A nm m0 mem103 := by rw [e_mem103]; exact hz4.upJ (by rw [eJ102]; exact va_up_ne _ _ (by decide))
              have kk105 : J102 1 = nI L := by rw [eJ102]; exact g1
              have kk106 : J102 4 = nI R := by rw [eJ102]; exact g4
              have kk107 : J102 16 = nI (a1 + 1) := by rw [eJ102, va_up_self]
              refine lv_goto Bx.1 Bx.2.1 d_Mo_name_81 rfl ?_
              have hJe : J102 = va_up J 16 (nI (a1 + 1)) := by rw [eJ102, eJ9, up_up]
              exact ih6 mem103 (J102) (a1 + 1) (k + 1) (v ||| ((smF (hereF L (A 225) (a1))).toInt64) <<< ((nI (8 * k) : Int32).toInt64 &&& 63)) _ _ _ (by have := hmeas7; omega) (⟨hJe, kk105, kk107, kk106⟩) (hW104) (⟨by omega, by omega, by omega⟩) hP hD hS (lv_sub hl [0, 1, 2, 3] rfl)
            · refine lv_aload_n Bx.1 Bx.2.1 d_Mo_name_42 rfl (lv_at hl 3 rfl) ?_
              refine f_callVi (na := 0) (As := []) (rest := []) Bx hml E hP hD hS (by omega) hz4.1 rfl (m_Mo_here l hn hz4 g1 hL g16 (by omega)) kw_778 kw_780 sel_Mo_here kw_8 kw_781 (by decide +kernel) ⟨rfl, rfl⟩ ⟨Nat.le_of_ble_eq_true rfl, Nat.le_of_ble_eq_true rfl⟩ rfl hl.1 (Nat.le_of_ble_eq_true rfl) d_Mo_name_43 ⟨Nat.le_of_ble_eq_true rfl, Nat.le_of_ble_eq_true rfl⟩ (fun r108 mem109 H locs hq hP hS => ?_)
              have hD : va_D (Az sz) (fw n ad mem109) := fw_D hD
              obtain ⟨hre, hq⟩ := hq
              rw [hq] at hP hD
              subst hre
              refine lv_bipush (v := 45) Bx.1 Bx.2.1 d_Mo_name_46 (by decide) ?_
              refine lv_icmp_ne Bx.1 Bx.2.1 d_Mo_name_48 rfl (fun hb110 => ?_) (fun hb110 => ?_)
              · have hn1 : 1 ≤ k := by first | omega | exact Nat.pos_of_ne_zero (fun q9 => by subst q9; obtain rfl : a1 = a := (by omega); exact absurd hb46 hlet)
                refine lv_iconst (v := 0) Bx.1 Bx.2.1 d_Mo_name_84 (by decide) ?_
                refine lv_istore (lv' := [(5, .int (0)), (4, .int (nI k)), (2, .long (v)), (1, .int (nI a)), (0, .ref (ad 224))]) Bx.1 Bx.2.1 d_Mo_name_85 hl (by decide) rfl (fun ls hl => ?_)
                have loop111 : ∀ (d112 : Nat) (rr : Nat) (ls : Array Slot) (H : Heap) (locs : List Loc), (R - rr < d112) → (rr ≤ R) → (va_P D vcl (fw n ad mem9) H) → (va_D (Az sz) (fw n ad mem9)) → (va_S (Az sz) s.heap H locs) → (lv_has ls 6 [(5, .int (nI rr)), (4, .int (nI k)), (2, .long (v)), (1, .int (nI a)), (0, .ref (ad 224))]) → W p l e (headSpec (Cond.code y_Mo_name c_Mo_name 6 (some .int) :: tg) ({ frames := 2, cells := 0, slots := 0, locals := 60 } : Room)).room s m [.ref (ad 224)].toArray below meth c H locs 0 0 (MQ below (va_Qi (fun r mem' => ∃ J' A' nm', MW cy ad J' A' nm' m0 mem' ∧ nmP J J' A A' L a R r) (PP D n ad) (Az sz)) [.ref (ad 224)].toArray s 0 0 (Az sz)) (F0 m 87 ls []) := by
                  intro d112
                  induction d112 with
                  | zero => intro rr ls H locs hmeas115; exact absurd hmeas115 (Nat.not_lt_zero _)
                  | succ d112 ih114 =>
                    intro rr ls H locs hmeas115 hz113 hP hD hS hl
                    refine lv_iload Bx.1 Bx.2.1 d_Mo_name_87 (lv_at hl 0 rfl) ?_
                    refine lv_aload_n Bx.1 Bx.2.1 d_Mo_name_89 rfl (lv_at hl 4 rfl) ?_
                    refine f_get Bx hP (by omega) hz4.1 rfl inMo 4 (by decide) kw_660 rfl rfl d_Mo_name_90 ?_
                    rw [g4]
                    refine lv_icmp_ge Bx.1 Bx.2.1 d_Mo_name_93 rfl (fun hb116 => ?_) (fun hb116 => ?_)
                    · have hN117 : R ≤ rr := (nI_leI (by omega) (by omega)).mp (show nI (R) ≤ nI (rr) from hb116)
                      refine lv_aload_n Bx.1 Bx.2.1 d_Mo_name_117 rfl (lv_at hl 4 rfl) ?_
                      refine f_get Bx hP (by omega) hz4.1 rfl inMo 4 (by decide) kw_660 rfl rfl d_Mo_name_118 ?_
                      rw [g4]
                      refine lv_bipush (v := 12) Bx.1 Bx.2.1 d_Mo_name_121 (by decide) ?_
                      refine lv_icmp_ne Bx.1 Bx.2.1 d_Mo_name_123 rfl (fun hb118 => ?_) (fun hb118 => ?_)
                      · have hN119 : ¬ R = 12 := fun q9 => hb118 (show nI (R) = nI (12) from (nI_eq (by omega) (by omega)).mpr q9)
                        refine lv_aload_n Bx.1 Bx.2.1 d_Mo_name_134 rfl (lv_at hl 4 rfl) ?_
                        refine f_get Bx hP (by omega) hz4.1 rfl inMo 5 (by decide) kw_661 rfl rfl d_Mo_name_135 ?_
                        refine lv_aload_n Bx.1 Bx.2.1 d_Mo_name_138 rfl (lv_at hl 4 rfl) ?_
                        refine f_get Bx hP (by omega) hz4.1 rfl inMo 4 (by decide) kw_660 rfl rfl d_Mo_name_139 ?_
                        rw [g4]
                        refine lv_lload_n Bx.1 Bx.2.1 d_Mo_name_142 rfl (lv_at hl 2 rfl) ?_
                        refine f_last (x := v) (i := nI R) Bx hP hD hS (by omega) hz4.2.1 (vp_in_nI (n := R) (by omega) (by decide)) d_Mo_name_143 (fun H locs hP hS => ?_)
                        obtain ⟨nn121, enn121⟩ : ∃ z : Nat → Int64, z = vp_updL nm (nI R).toNatClampNeg (v) := ⟨_, rfl⟩
                        rw [← enn121] at hP
                        obtain ⟨mem120, e_mem120⟩ : ∃ z, z = va_up mem9 226 (.inl (cy 2, 12, .inr (.inl nn121))) := ⟨_, rfl⟩
                        have hP : va_P D vcl (fw n ad mem120) H := by rw [e_mem120]; exact hP
                        have hD : va_D (Az sz) (fw n ad mem120) := fw_D hD
                        have hW122 : MW cy ad J9 A nn121 m0 mem120 := by rw [e_mem120]; exact hz4.upN
                        refine lv_aload_n Bx.1 Bx.2.1 d_Mo_name_144 rfl (lv_at hl 4 rfl) ?_
                        refine f_get Bx hP (by omega) hW122.1 rfl inMo 6 (by decide) kw_662 rfl rfl d_Mo_name_145 ?_
                        refine lv_aload_n Bx.1 Bx.2.1 d_Mo_name_148 rfl (lv_at hl 4 rfl) ?_
                        refine f_get Bx hP (by omega) hW122.1 rfl inMo 4 (by decide) kw_660 rfl rfl d_Mo_name_149 ?_
                        rw [g4]
                        refine lv_iconst (v := -1) Bx.1 Bx.2.1 d_Mo_name_152 (by decide) ?_
                        refine f_iast (x := (-1)) (i := nI (R)) Bx hP hD hS (by omega) (show mem120 227 = .inl (cy 1, 12, .inl (A 227)) from hW122.2.2.1 227 (by decide) (by decide) (by decide)) (vp_in_nI (n := R) (by omega) (by decide)) d_Mo_name_153 (fun H locs hP hS => ?_)
                        rw [nI_clamp (n := R) (by omega)] at hP
                        obtain ⟨A123, eA123⟩ : ∃ z, z = va_up A 227 (upd (A 227) (R) ((-1))) := ⟨_, rfl⟩
                        obtain ⟨mem124, e_mem124⟩ : ∃ z, z = va_up mem120 227 (.inl (cy 1, 12, .inl (upd (A 227) (R) ((-1))))) := ⟨_, rfl⟩
                        have hP : va_P D vcl (fw n ad mem124) H := by rw [e_mem124]; exact hP
                        have hD : va_D (Az sz) (fw n ad mem124) := fw_D hD
                        have hW125 : MW cy ad J9 A123 nn121 m0 mem124 := by rw [e_mem124, eA123]; exact hW122.upA (j := 227) (by decide) (by decide) (by decide) (Or.inl (by decide))
                        refine lv_aload_n Bx.1 Bx.2.1 d_Mo_name_154 rfl (lv_at hl 4 rfl) ?_
                        refine lv_dup Bx.1 Bx.2.1 d_Mo_name_155 rfl ?_
                        refine f_get Bx hP (by omega) hW125.1 rfl inMo 4 (by decide) kw_660 rfl rfl d_Mo_name_156 ?_
                        rw [g4]
                        refine lv_iconst (v := 1) Bx.1 Bx.2.1 d_Mo_name_159 (by decide) ?_
                        refine lv_iadd Bx.1 Bx.2.1 d_Mo_name_160 ?_
                        rw [show nI R + 1 = nI (R + 1) from nI_add (R) (1)]
                        refine f_put Bx hP hD hS (by omega) hW125.1 rfl inMo tyMo okMo nmMo 4 (by decide) kw_660 rfl rfl rfl rfl (Nat.le_of_ble_eq_true rfl) d_Mo_name_161 (fun H locs hP hS => ?_)
                        obtain ⟨J126, eJ126⟩ : ∃ z, z = va_up J9 4 (nI (R + 1)) := ⟨_, rfl⟩
                        obtain ⟨mem127, e_mem127⟩ : ∃ z, z = va_up mem124 224 (moC ad J126) := ⟨_, rfl⟩
                        have hP : va_P D vcl (fw n ad mem127) H := by rw [e_mem127, eJ126]; exact hP
                        have hD : va_D (Az sz) (fw n ad mem127) := fw_D hD
                        have hW128 : MW cy ad J126 A123 nn121 m0 mem127 := by rw [e_mem127]; exact hW125.upJ (by rw [eJ126]; exact va_up_ne _ _ (by decide))
                        have kk129 : J126 1 = nI L := by rw [eJ126]; exact g1
                        have kk130 : J126 16 = nI a1 := by rw [eJ126]; exact g16
                        have kk131 : J126 4 = nI (R + 1) := by rw [eJ126, va_up_self]
                        refine lv_aload_n Bx.1 Bx.2.1 d_Mo_name_164 rfl (lv_at hl 4 rfl) ?_
                        refine f_get Bx hP (by omega) hW128.1 rfl inMo 4 (by decide) kw_660 rfl rfl d_Mo_name_165 ?_
                        rw [kk131]
                        refine lv_iconst (v := 1) Bx.1 Bx.2.1 d_Mo_name_168 (by decide) ?_
                        refine lv_isub Bx.1 Bx.2.1 d_Mo_name_169 ?_
                        rw [show nI (R + 1) - 1 = nI (R) from nI_pred (R)]
                        exact W.iret (v := nI (R)) hx hb hr (fun t ht hW => ⟨⟨nI (R), mem127, rfl, ⟨J126, A123, nn121, hW128, a1, by omega, by omega, kk130, fun i q1 q2 q3 q4 => by rw [eJ126, va_up_ne _ _ q4, eJ9, va_up_ne _ _ q1], Or.inr ⟨by rw [eJ126, eJ9]; rfl, R, R + 1, rfl, by omega, by omega, kk131, Or.inr ⟨rfl, by rw [eA123]⟩⟩⟩, by show va_P _ _ _ t.heap; rw [ht]; exact hP⟩, hS.F ht⟩) hS.2.2 d_Mo_name_170
                      · have hN132 : R = 12 := (nI_eq (by omega) (by omega)).mp (show nI (R) = nI (12) from hb118)
                        refine lv_aload_n Bx.1 Bx.2.1 d_Mo_name_126 rfl (lv_at hl 4 rfl) ?_
                        refine lv_iconst (v := 2) Bx.1 Bx.2.1 d_Mo_name_127 (by decide) ?_
                        refine lv_iload_n Bx.1 Bx.2.1 d_Mo_name_128 rfl (lv_at hl 3 rfl) ?_
                        refine f_callVv (na := 2) (As := [.int (2), .int (nI a)]) (rest := []) Bx hml E hP hD hS (by omega) hz4.1 rfl (m_Mo_wrong l hn hz4 (by rw [eJ9]; exact h17) (by first | exact Or.inl rfl | exact Or.inr rfl)) kw_799 kw_801 sel_Mo_wrong kw_8 kw_802 (by decide +kernel) ⟨rfl, rfl⟩ ⟨Nat.le_of_ble_eq_true rfl, Nat.le_of_ble_eq_true rfl⟩ rfl hl.1 (Nat.le_of_ble_eq_true rfl) d_Mo_name_129 ⟨Nat.le_of_ble_eq_true rfl, Nat.le_of_ble_eq_true rfl⟩ (fun mem134 H locs hq hP hS => ?_)
                        have hD : va_D (Az sz) (fw n ad mem134) := fw_D hD
                        obtain ⟨J135, hW136, hwr137⟩ := hq
                        have kk138 : J135 1 = nI L := (show J135 1 = J9 1 from hwr137.2 1 (by decide) (by decide)).trans g1
                        have kk139 : J135 16 = nI a1 := (show J135 16 = J9 16 from hwr137.2 16 (by decide) (by decide)).trans g16
                        have kk140 : J135 4 = nI R := (show J135 4 = J9 4 from hwr137.2 4 (by decide) (by decide)).trans g4
                        refine lv_iconst (v := 0) Bx.1 Bx.2.1 d_Mo_name_132 (by decide) ?_
                        exact W.iret (v := 0) hx hb hr (fun t ht hW => ⟨⟨0, mem134, rfl, ⟨J135, A, nm, hW136, a1, by omega, by omega, kk139, fun i q1 q2 q3 q4 => (hwr137.2 i q2 q3).trans (by rw [eJ9, va_up_ne _ _ q1]), Or.inl ⟨hwr137.1, rfl⟩⟩, by show va_P _ _ _ t.heap; rw [ht]; exact hP⟩, hS.F ht⟩) hS.2.2 d_Mo_name_133
                    · have hN141 : ¬ R ≤ rr := fun q9 => hb116 (show nI (R) ≤ nI (rr) from (nI_leI (by omega) (by omega)).mpr q9)
                      refine lv_aload_n Bx.1 Bx.2.1 d_Mo_name_96 rfl (lv_at hl 4 rfl) ?_
                      refine f_get Bx hP (by omega) hz4.1 rfl inMo 5 (by decide) kw_661 rfl rfl d_Mo_name_97 ?_
                      refine lv_iload Bx.1 Bx.2.1 d_Mo_name_100 (lv_at hl 0 rfl) ?_
                      refine f_lald Bx hP (by omega) hz4.2.1 (vp_in_nI (n := rr) (by omega) (by decide)) d_Mo_name_102 ?_
                      refine lv_lload_n Bx.1 Bx.2.1 d_Mo_name_103 rfl (lv_at hl 2 rfl) ?_
                      refine W.lcmp Bx.1 Bx.2.1 d_Mo_name_104 ?_
                      refine lv_if_ne Bx.1 Bx.2.1 d_Mo_name_105 rfl (fun h7 => ?_) (fun h7 => ?_)
                      · refine lv_iinc (lv' := [(5, .int ((nI rr + (1)))), (4, .int (nI k)), (2, .long (v)), (1, .int (nI a)), (0, .ref (ad 224))]) Bx.1 Bx.2.1 d_Mo_name_111 hl (k := 0) rfl rfl (by decide) rfl (fun ls hl => ?_)
                        rw [show (nI rr + (1) : Int32) = nI (rr + 1) from nI_1 (rr)] at hl
                        refine lv_goto Bx.1 Bx.2.1 d_Mo_name_114 rfl ?_
                        exact ih114 (rr + 1) _ _ _ (by have := hmeas115; omega) (by omega) hP hD hS (lv_sub hl [0, 1, 2, 3, 4] rfl)
                      · refine lv_iload Bx.1 Bx.2.1 d_Mo_name_108 (lv_at hl 0 rfl) ?_
                        exact W.iret (v := nI rr) hx hb hr (fun t ht hW => ⟨⟨nI rr, mem9, rfl, ⟨J9, A, nm, hz4, a1, by omega, by omega, g16, fun i q1 q2 q3 q4 => by rw [eJ9, va_up_ne _ _ q1], Or.inr ⟨by rw [eJ9]; rfl, rr, R, rfl, by omega, by omega, g4, Or.inl ⟨rfl, rfl⟩⟩⟩, by show va_P _ _ _ t.heap; rw [ht]; exact hP⟩, hS.F ht⟩) hS.2.2 d_Mo_name_110
                exact loop111 _ (0) _ _ _ (Nat.lt_succ_self _) (by omega) hP hD hS (lv_sub hl [0, 1, 2, 3, 4] rfl)
              · have hlt142 := hereF_lt (by rw [hb110]; decide)
                refine lv_lload_n Bx.1 Bx.2.1 d_Mo_name_51 rfl (lv_at hl 1 rfl) ?_
                refine lv_aload_n Bx.1 Bx.2.1 d_Mo_name_52 rfl (lv_at hl 3 rfl) ?_
                refine f_callVi (na := 0) (As := []) (rest := [.long (v)]) Bx hml E hP hD hS (by omega) hz4.1 rfl (m_Mo_here l hn hz4 g1 hL g16 (by omega)) kw_778 kw_780 sel_Mo_here kw_8 kw_781 (by decide +kernel) ⟨rfl, rfl⟩ ⟨Nat.le_of_ble_eq_true rfl, Nat.le_of_ble_eq_true rfl⟩ rfl hl.1 (Nat.le_of_ble_eq_true rfl) d_Mo_name_53 ⟨Nat.le_of_ble_eq_true rfl, Nat.le_of_ble_eq_true rfl⟩ (fun r143 mem144 H locs hq hP hS => ?_)
                have hD : va_D (Az sz) (fw n ad mem144) := fw_D hD
                obtain ⟨hre, hq⟩ := hq
                rw [hq] at hP hD
                subst hre
                refine f_callSi (na := 1) (As := [.int (hereF L (A 225) (a1))]) (rest := [.long (v)]) Bx hml E.2.1 (m_Mo_small l (hereF L (A 225) (a1))) kw_796 kw_797 kw_8 kw_798 (by decide +kernel) ⟨rfl, rfl⟩ ⟨Nat.le_of_ble_eq_true rfl, Nat.le_of_ble_eq_true rfl⟩ rfl hl.1 (Nat.le_of_ble_eq_true rfl) d_Mo_name_56 ⟨Nat.le_of_ble_eq_true rfl, Nat.le_of_ble_eq_true rfl⟩ (fun r146 hs145 => ?_)
                subst hs145
                refine lv_i2l Bx.1 Bx.2.1 d_Mo_name_59 rfl ?_
                refine lv_bipush (v := 8) Bx.1 Bx.2.1 d_Mo_name_60 (by decide) ?_
                refine lv_iload Bx.1 Bx.2.1 d_Mo_name_62 (lv_at hl 0 rfl) ?_
                refine lv_imul Bx.1 Bx.2.1 d_Mo_name_64 ?_
                rw [show 8 * nI k = nI (8 * k) from nI_mulR (8) (k)]
                refine lv_lshl Bx.1 Bx.2.1 d_Mo_name_65 rfl ?_
                refine lv_lor Bx.1 Bx.2.1 d_Mo_name_66 ?_
                refine lv_lstore_n (lv' := [(2, .long (v ||| ((smF (hereF L (A 225) (a1))).toInt64) <<< ((nI (8 * k) : Int32).toInt64 &&& 63))), (4, .int (nI k)), (1, .int (nI a)), (0, .ref (ad 224))]) Bx.1 Bx.2.1 d_Mo_name_67 rfl hl (by decide) rfl (fun ls hl => ?_)
                refine lv_iinc (lv' := [(4, .int ((nI k + (1)))), (2, .long (v ||| ((smF (hereF L (A 225) (a1))).toInt64) <<< ((nI (8 * k) : Int32).toInt64 &&& 63))), (1, .int (nI a)), (0, .ref (ad 224))]) Bx.1 Bx.2.1 d_Mo_name_68 hl (k := 1) rfl rfl (by decide) rfl (fun ls hl => ?_)
                rw [show (nI k + (1) : Int32) = nI (k + 1) from nI_1 (k)] at hl
                refine lv_aload_n Bx.1 Bx.2.1 d_Mo_name_71 rfl (lv_at hl 3 rfl) ?_
                refine lv_dup Bx.1 Bx.2.1 d_Mo_name_72 rfl ?_
                refine f_get Bx hP (by omega) hz4.1 rfl inMo 16 (by decide) kw_672 rfl rfl d_Mo_name_73 ?_
                rw [g16]
                refine lv_iconst (v := 1) Bx.1 Bx.2.1 d_Mo_name_76 (by decide) ?_
                refine lv_iadd Bx.1 Bx.2.1 d_Mo_name_77 ?_
                rw [show nI a1 + 1 = nI (a1 + 1) from nI_add (a1) (1)]
                refine f_put Bx hP hD hS (by omega) hz4.1 rfl inMo tyMo okMo nmMo 16 (by decide) kw_672 rfl rfl rfl rfl (Nat.le_of_ble_eq_true rfl) d_Mo_name_78 (fun H locs hP hS => ?_)
                obtain ⟨J147, eJ147⟩ : ∃ z, z = va_up J9 16 (nI (a1 + 1)) := ⟨_, rfl⟩
                obtain ⟨mem148, e_mem148⟩ : ∃ z, z = va_up mem9 224 (moC ad J147) := ⟨_, rfl⟩
                have hP : va_P D vcl (fw n ad mem148) H := by rw [e_mem148, eJ147]; exact hP
                have hD : va_D (Az sz) (fw n ad mem148) := fw_D hD
                have hW149 : MW cy ad J147 A nm m0 mem148 := by rw [e_mem148]; exact hz4.upJ (by rw [eJ147]; exact va_up_ne _ _ (by decide))
                have kk150 : J147 1 = nI L := by rw [eJ147]; exact g1
                have kk151 : J147 4 = nI R := by rw [eJ147]; exact g4
                have kk152 : J147 16 = nI (a1 + 1) := by rw [eJ147, va_up_self]
                refine lv_goto Bx.1 Bx.2.1 d_Mo_name_81 rfl ?_
                have hJe : J147 = va_up J 16 (nI (a1 + 1)) := by rw [eJ147, eJ9, up_up]
                exact ih6 mem148 (J147) (a1 + 1) (k + 1) (v ||| ((smF (hereF L (A 225) (a1))).toInt64) <<< ((nI (8 * k) : Int32).toInt64 &&& 63)) _ _ _ (by have := hmeas7; omega) (⟨hJe, kk150, kk152, kk151⟩) (hW149) (⟨by omega, by omega, by omega⟩) hP hD hS (lv_sub hl [0, 1, 2, 3] rfl)
  exact loop1 _ mem (J) (a) (0) (0) _ _ _ (Nat.lt_succ_self _) (⟨by rw [up_id J ha], h1, ha, hR⟩) (hM) (⟨by omega, by omega, by omega⟩) hP hD hS (lv_sub hl [0, 1, 2, 3] rfl)
