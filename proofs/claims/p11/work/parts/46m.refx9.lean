theorem bg_0 {b : Bool} (h : (if b then (1 : Int32) else 0) = 0) : b = false := by
  cases b
  · rfl
  · exact absurd h (by decide)
theorem bg_1 {b : Bool} (h : ¬ (if b then (1 : Int32) else 0) = 0) : b = true := by
  cases b
  · exact absurd rfl h
  · rfl
theorem entS_no {T : Nat → Int32} {L a u R E op : Nat} {A : Ro} {nm : Nat → Int64} {what oe : Int32} (h : bgF (hereF L T (gapF T L a)) = false ∨ E = 100) : entS T L a u R E op A nm what oe = none := by
  unfold entS
  rw [if_pos h]
theorem entS_ok {T : Nat → Int32} {L a u R E op : Nat} {A : Ro} {nm : Nat → Int64} {what oe : Int32} (h1 : bgF (hereF L T (gapF T L a)) = true) (h2 : E < 100) : entS T L a u R E op A nm what oe = some (gapF T L a, u, R, E + 1, op, va_up (elA (va_up (va_up (va_up A 235 (upd (A 235) op what)) 236 (upd (A 236) op oe)) 239 (upd (A 239) op (-1))) E 0) 237 (upd ((elA (va_up (va_up (va_up A 235 (upd (A 235) op what)) 236 (upd (A 236) op oe)) 239 (upd (A 239) op (-1))) E 0) 237) op (nI E)), nm, true) := by
  unfold entS
  rw [if_neg (fun z => by rcases z with z | z; rw [h1] at z; exact absurd z (by decide); omega)]
theorem ent0S_no {T : Nat → Int32} {L a u R E r : Nat} {A : Ro} {nm : Nat → Int64} (h : bgF (hereF L T (gapF T L a)) = false ∨ E = 100) : ent0S T L a u R E r A nm = none := by
  unfold ent0S
  rw [entS_no h]
theorem ent0S_ok {T : Nat → Int32} {L a u R E r : Nat} {A : Ro} {nm : Nat → Int64} (h1 : bgF (hereF L T (gapF T L a)) = true) (h2 : E < 100) (h3 : A 227 r = -1) : ent0S T L a u R E r A nm = some (gapF T L a, u, R, E + 1, 0, va_up (va_up (elA (va_up (va_up (va_up A 235 (upd (A 235) 0 0)) 236 (upd (A 236) 0 (nI r))) 239 (upd (A 239) 0 (-1))) E 0) 237 (upd ((elA (va_up (va_up (va_up A 235 (upd (A 235) 0 0)) 236 (upd (A 236) 0 (nI r))) 239 (upd (A 239) 0 (-1))) E 0) 237) 0 (nI E))) 227 (upd ((va_up (elA (va_up (va_up (va_up A 235 (upd (A 235) 0 0)) 236 (upd (A 236) 0 (nI r))) 239 (upd (A 239) 0 (-1))) E 0) 237 (upd ((elA (va_up (va_up (va_up A 235 (upd (A 235) 0 0)) 236 (upd (A 236) 0 (nI r))) 239 (upd (A 239) 0 (-1))) E 0) 237) 0 (nI E))) 227) r ((va_up (elA (va_up (va_up (va_up A 235 (upd (A 235) 0 0)) 236 (upd (A 236) 0 (nI r))) 239 (upd (A 239) 0 (-1))) E 0) 237 (upd ((elA (va_up (va_up (va_up A 235 (upd (A 235) 0 0)) 236 (upd (A 236) 0 (nI r))) 239 (upd (A 239) 0 (-1))) E 0) 237) 0 (nI E))) 237 0)), nm, true) := by
  unfold ent0S
  rw [entS_ok h1 h2]
  simp only []
  rw [if_pos (show _ < (0 : Int32) from by show A 227 r < 0; rw [h3]; decide)]
theorem ent0S_ok2 {T : Nat → Int32} {L a u R E r j : Nat} {A : Ro} {nm : Nat → Int64} (h1 : bgF (hereF L T (gapF T L a)) = true) (h2 : E < 100) (h3 : A 227 r = nI j) (hj : j < 2 ^ 31) : ent0S T L a u R E r A nm = some (gapF T L a, u, R, E + 1, 0, va_up (va_up (va_up (elA (va_up (va_up (va_up A 235 (upd (A 235) 0 0)) 236 (upd (A 236) 0 (nI r))) 239 (upd (A 239) 0 (-1))) E 0) 237 (upd ((elA (va_up (va_up (va_up A 235 (upd (A 235) 0 0)) 236 (upd (A 236) 0 (nI r))) 239 (upd (A 239) 0 (-1))) E 0) 237) 0 (nI E))) 237 (upd ((va_up (elA (va_up (va_up (va_up A 235 (upd (A 235) 0 0)) 236 (upd (A 236) 0 (nI r))) 239 (upd (A 239) 0 (-1))) E 0) 237 (upd ((elA (va_up (va_up (va_up A 235 (upd (A 235) 0 0)) 236 (upd (A 236) 0 (nI r))) 239 (upd (A 239) 0 (-1))) E 0) 237) 0 (nI E))) 237) 0 (nI j))) 227 (upd ((va_up (elA (va_up (va_up (va_up A 235 (upd (A 235) 0 0)) 236 (upd (A 236) 0 (nI r))) 239 (upd (A 239) 0 (-1))) E 0) 237 (upd ((elA (va_up (va_up (va_up A 235 (upd (A 235) 0 0)) 236 (upd (A 236) 0 (nI r))) 239 (upd (A 239) 0 (-1))) E 0) 237) 0 (nI E))) 227) r (va_up (va_up (elA (va_up (va_up (va_up A 235 (upd (A 235) 0 0)) 236 (upd (A 236) 0 (nI r))) 239 (upd (A 239) 0 (-1))) E 0) 237 (upd ((elA (va_up (va_up (va_up A 235 (upd (A 235) 0 0)) 236 (upd (A 236) 0 (nI r))) 239 (upd (A 239) 0 (-1))) E 0) 237) 0 (nI E))) 237 (upd ((va_up (elA (va_up (va_up (va_up A 235 (upd (A 235) 0 0)) 236 (upd (A 236) 0 (nI r))) 239 (upd (A 239) 0 (-1))) E 0) 237 (upd ((elA (va_up (va_up (va_up A 235 (upd (A 235) 0 0)) 236 (upd (A 236) 0 (nI r))) 239 (upd (A 239) 0 (-1))) E 0) 237) 0 (nI E))) 237) 0 (nI j)) 237 0)), nm, true) := by
  unfold ent0S
  rw [entS_ok h1 h2]
  simp only []
  rw [if_neg (show ¬ _ < (0 : Int32) from by show ¬ A 227 r < 0; rw [h3]; exact nI_pos hj), show va_up (elA (va_up (va_up (va_up A 235 (upd (A 235) 0 0)) 236 (upd (A 236) 0 (nI r))) 239 (upd (A 239) 0 (-1))) E 0) 237 (upd ((elA (va_up (va_up (va_up A 235 (upd (A 235) 0 0)) 236 (upd (A 236) 0 (nI r))) 239 (upd (A 239) 0 (-1))) E 0) 237) 0 (nI E)) 227 r = nI j from h3]
  rfl
set_option maxHeartbeats 4000000 in
set_option maxRecDepth 100000 in
theorem m_Mo_elementX (l : Launch) {D : va_G} {cy : Nat → ClassId} {sz n : Nat} {ad : Nat → Nat} {mem : Nat → va_E} {J : Nat → Int32} {A : Nat → Nat → Int32} {nm : Nat → Int64} {m0 : Nat → va_E} {kd wh : Int32} {Ec : Nat} (hn : 242 ≤ n) (hM : MW cy ad J A nm m0 mem) (h17 : J 17 = 0 ∨ b12 (J 17)) (hE : J 7 = nI Ec) (hEb : Ec ≤ 100) : MI l D cy sz n ad y_Mo_element c_Mo_element 3 (some .int) ({ frames := 1, cells := 0, slots := 0, locals := 30 } : Room) mem [.ref (ad 224), .int (kd), .int (wh)] (fun r mem' => (Ec = 100 ∧ r = 0 ∧ ∃ J', MW cy ad J' A nm m0 mem' ∧ wr J J') ∨ (Ec < 100 ∧ r = nI Ec ∧ MW cy ad (va_up J 7 (nI (Ec + 1))) (elA A Ec kd) nm m0 mem')) := by
  refine Met.ofW (cc := c_Mo_element) (maxL := 3) (ret := (some .int)) (by decide) rfl ?_
  intro p e s m args below meth c s₁ B hml hv
  obtain ⟨rfl, E, hP, hD⟩ := hv
  have hx := B.exec
  have hb := B.bytes
  have hr := B.returns
  have hlocks := B.notSynchronized
  have Bx : MB p s m [.ref (ad 224), .int (kd), .int (wh)].toArray c c_Mo_element "AbnfChartModel" D cy := ⟨hx, hb, tb_all (atoms_spec B.pre) E.2.1, findClass_of_methodNamed B.named, E.1⟩
  have hS : va_S (Az sz) s.heap s.heap [] := va_S.rf
  have hl := lv_entry ([.ref (ad 224), .int (kd), .int (wh)]) (n := 3) (Nat.le_of_ble_eq_true rfl)
  rw [lg_entry_eq]
  generalize (lg_sl ([.ref (ad 224), .int (kd), .int (wh)]) ++ List.replicate (3 - (lg_sl ([.ref (ad 224), .int (kd), .int (wh)])).length) Slot.unset).toArray = ls at hl ⊢
  have hl : lv_has ls 3 [(0, .ref (ad 224)), (1, .int (kd)), (2, .int (wh))] := hl
  refine lv_aload_n Bx.1 Bx.2.1 d_Mo_element_0 rfl (lv_at hl 0 rfl) ?_
  refine f_get Bx hP (by omega) hM.1 rfl inMo 7 (by decide) kw_663 rfl rfl d_Mo_element_1 ?_
  rw [hE]
  refine lv_bipush (v := 100) Bx.1 Bx.2.1 d_Mo_element_4 (by decide) ?_
  refine lv_icmp_ne Bx.1 Bx.2.1 d_Mo_element_6 rfl (fun hb1 => ?_) (fun hb1 => ?_)
  · have hN2 : ¬ Ec = 100 := fun q9 => hb1 (show nI (Ec) = nI (100) from (nI_eq (by omega) (by omega)).mpr q9)
    refine lv_aload_n Bx.1 Bx.2.1 d_Mo_element_17 rfl (lv_at hl 0 rfl) ?_
    refine f_get Bx hP (by omega) hM.1 rfl inMo 8 (by decide) kw_664 rfl rfl d_Mo_element_18 ?_
    refine lv_aload_n Bx.1 Bx.2.1 d_Mo_element_21 rfl (lv_at hl 0 rfl) ?_
    refine f_get Bx hP (by omega) hM.1 rfl inMo 7 (by decide) kw_663 rfl rfl d_Mo_element_22 ?_
    rw [hE]
    refine lv_iload_n Bx.1 Bx.2.1 d_Mo_element_25 rfl (lv_at hl 1 rfl) ?_
    refine f_iast (x := kd) (i := nI (Ec)) Bx hP hD hS (by omega) (show mem 228 = .inl (cy 1, 100, .inl (A 228)) from hM.2.2.1 228 (by decide) (by decide) (by decide)) (vp_in_nI (n := Ec) (by omega) (by decide)) d_Mo_element_26 (fun H locs hP hS => ?_)
    rw [nI_clamp (n := Ec) (by omega)] at hP
    obtain ⟨A3, eA3⟩ : ∃ z, z = va_up A 228 (upd (A 228) (Ec) (kd)) := ⟨_, rfl⟩
    obtain ⟨mem4, e_mem4⟩ : ∃ z, z = va_up mem 228 (.inl (cy 1, 100, .inl (upd (A 228) (Ec) (kd)))) := ⟨_, rfl⟩
    have hP : va_P D vcl (fw n ad mem4) H := by rw [e_mem4]; exact hP
    have hD : va_D (Az sz) (fw n ad mem4) := fw_D hD
    have hW5 : MW cy ad J A3 nm m0 mem4 := by rw [e_mem4, eA3]; exact hM.upA (j := 228) (by decide) (by decide) (by decide) (Or.inl (by decide))
    refine lv_aload_n Bx.1 Bx.2.1 d_Mo_element_27 rfl (lv_at hl 0 rfl) ?_
    refine f_get Bx hP (by omega) hW5.1 rfl inMo 9 (by decide) kw_665 rfl rfl d_Mo_element_28 ?_
    refine lv_aload_n Bx.1 Bx.2.1 d_Mo_element_31 rfl (lv_at hl 0 rfl) ?_
    refine f_get Bx hP (by omega) hW5.1 rfl inMo 7 (by decide) kw_663 rfl rfl d_Mo_element_32 ?_
    rw [hE]
    refine lv_iconst (v := 0) Bx.1 Bx.2.1 d_Mo_element_35 (by decide) ?_
    refine f_iast (x := 0) (i := nI (Ec)) Bx hP hD hS (by omega) (show mem4 229 = .inl (cy 1, 100, .inl (A3 229)) from hW5.2.2.1 229 (by decide) (by decide) (by decide)) (vp_in_nI (n := Ec) (by omega) (by decide)) d_Mo_element_36 (fun H locs hP hS => ?_)
    rw [nI_clamp (n := Ec) (by omega)] at hP
    obtain ⟨A6, eA6⟩ : ∃ z, z = va_up A3 229 (upd (A3 229) (Ec) (0)) := ⟨_, rfl⟩
    obtain ⟨mem7, e_mem7⟩ : ∃ z, z = va_up mem4 229 (.inl (cy 1, 100, .inl (upd (A3 229) (Ec) (0)))) := ⟨_, rfl⟩
    have hP : va_P D vcl (fw n ad mem7) H := by rw [e_mem7]; exact hP
    have hD : va_D (Az sz) (fw n ad mem7) := fw_D hD
    have hW8 : MW cy ad J A6 nm m0 mem7 := by rw [e_mem7, eA6]; exact hW5.upA (j := 229) (by decide) (by decide) (by decide) (Or.inl (by decide))
    refine lv_aload_n Bx.1 Bx.2.1 d_Mo_element_37 rfl (lv_at hl 0 rfl) ?_
    refine f_get Bx hP (by omega) hW8.1 rfl inMo 10 (by decide) kw_666 rfl rfl d_Mo_element_38 ?_
    refine lv_aload_n Bx.1 Bx.2.1 d_Mo_element_41 rfl (lv_at hl 0 rfl) ?_
    refine f_get Bx hP (by omega) hW8.1 rfl inMo 7 (by decide) kw_663 rfl rfl d_Mo_element_42 ?_
    rw [hE]
    refine lv_iconst (v := 0) Bx.1 Bx.2.1 d_Mo_element_45 (by decide) ?_
    refine f_iast (x := 0) (i := nI (Ec)) Bx hP hD hS (by omega) (show mem7 230 = .inl (cy 1, 100, .inl (A6 230)) from hW8.2.2.1 230 (by decide) (by decide) (by decide)) (vp_in_nI (n := Ec) (by omega) (by decide)) d_Mo_element_46 (fun H locs hP hS => ?_)
    rw [nI_clamp (n := Ec) (by omega)] at hP
    obtain ⟨A9, eA9⟩ : ∃ z, z = va_up A6 230 (upd (A6 230) (Ec) (0)) := ⟨_, rfl⟩
    obtain ⟨mem10, e_mem10⟩ : ∃ z, z = va_up mem7 230 (.inl (cy 1, 100, .inl (upd (A6 230) (Ec) (0)))) := ⟨_, rfl⟩
    have hP : va_P D vcl (fw n ad mem10) H := by rw [e_mem10]; exact hP
    have hD : va_D (Az sz) (fw n ad mem10) := fw_D hD
    have hW11 : MW cy ad J A9 nm m0 mem10 := by rw [e_mem10, eA9]; exact hW8.upA (j := 230) (by decide) (by decide) (by decide) (Or.inl (by decide))
    refine lv_aload_n Bx.1 Bx.2.1 d_Mo_element_47 rfl (lv_at hl 0 rfl) ?_
    refine f_get Bx hP (by omega) hW11.1 rfl inMo 11 (by decide) kw_667 rfl rfl d_Mo_element_48 ?_
    refine lv_aload_n Bx.1 Bx.2.1 d_Mo_element_51 rfl (lv_at hl 0 rfl) ?_
    refine f_get Bx hP (by omega) hW11.1 rfl inMo 7 (by decide) kw_663 rfl rfl d_Mo_element_52 ?_
    rw [hE]
    refine lv_iconst (v := 0) Bx.1 Bx.2.1 d_Mo_element_55 (by decide) ?_
    refine f_zast (x := 0) (i := nI (Ec)) Bx hP hD hS (by omega) (show mem10 231 = .inl (cy 3, 100, .inl (A9 231)) from hW11.2.2.1 231 (by decide) (by decide) (by decide)) (vp_in_nI (n := Ec) (by omega) (by decide)) d_Mo_element_56 (fun H locs hP hS => ?_)
    rw [nI_clamp (n := Ec) (by omega)] at hP
    obtain ⟨A12, eA12⟩ : ∃ z, z = va_up A9 231 (upd (A9 231) (Ec) (vp_nar .boolean (0))) := ⟨_, rfl⟩
    obtain ⟨mem13, e_mem13⟩ : ∃ z, z = va_up mem10 231 (.inl (cy 3, 100, .inl (upd (A9 231) (Ec) (vp_nar .boolean (0))))) := ⟨_, rfl⟩
    have hP : va_P D vcl (fw n ad mem13) H := by rw [e_mem13]; exact hP
    have hD : va_D (Az sz) (fw n ad mem13) := fw_D hD
    have hW14 : MW cy ad J A12 nm m0 mem13 := by rw [e_mem13, eA12]; exact hW11.upA (j := 231) (by decide) (by decide) (by decide) (Or.inl (by decide))
    refine lv_aload_n Bx.1 Bx.2.1 d_Mo_element_57 rfl (lv_at hl 0 rfl) ?_
    refine f_get Bx hP (by omega) hW14.1 rfl inMo 12 (by decide) kw_668 rfl rfl d_Mo_element_58 ?_
    refine lv_aload_n Bx.1 Bx.2.1 d_Mo_element_61 rfl (lv_at hl 0 rfl) ?_
    refine f_get Bx hP (by omega) hW14.1 rfl inMo 7 (by decide) kw_663 rfl rfl d_Mo_element_62 ?_
    rw [hE]
    refine lv_iconst (v := -1) Bx.1 Bx.2.1 d_Mo_element_65 (by decide) ?_
    refine f_iast (x := (-1)) (i := nI (Ec)) Bx hP hD hS (by omega) (show mem13 232 = .inl (cy 1, 100, .inl (A12 232)) from hW14.2.2.1 232 (by decide) (by decide) (by decide)) (vp_in_nI (n := Ec) (by omega) (by decide)) d_Mo_element_66 (fun H locs hP hS => ?_)
    rw [nI_clamp (n := Ec) (by omega)] at hP
    obtain ⟨A15, eA15⟩ : ∃ z, z = va_up A12 232 (upd (A12 232) (Ec) ((-1))) := ⟨_, rfl⟩
    obtain ⟨mem16, e_mem16⟩ : ∃ z, z = va_up mem13 232 (.inl (cy 1, 100, .inl (upd (A12 232) (Ec) ((-1))))) := ⟨_, rfl⟩
    have hP : va_P D vcl (fw n ad mem16) H := by rw [e_mem16]; exact hP
    have hD : va_D (Az sz) (fw n ad mem16) := fw_D hD
    have hW17 : MW cy ad J A15 nm m0 mem16 := by rw [e_mem16, eA15]; exact hW14.upA (j := 232) (by decide) (by decide) (by decide) (Or.inl (by decide))
    refine lv_aload_n Bx.1 Bx.2.1 d_Mo_element_67 rfl (lv_at hl 0 rfl) ?_
    refine f_get Bx hP (by omega) hW17.1 rfl inMo 13 (by decide) kw_669 rfl rfl d_Mo_element_68 ?_
    refine lv_aload_n Bx.1 Bx.2.1 d_Mo_element_71 rfl (lv_at hl 0 rfl) ?_
    refine f_get Bx hP (by omega) hW17.1 rfl inMo 7 (by decide) kw_663 rfl rfl d_Mo_element_72 ?_
    rw [hE]
    refine lv_iconst (v := -1) Bx.1 Bx.2.1 d_Mo_element_75 (by decide) ?_
    refine f_iast (x := (-1)) (i := nI (Ec)) Bx hP hD hS (by omega) (show mem16 233 = .inl (cy 1, 100, .inl (A15 233)) from hW17.2.2.1 233 (by decide) (by decide) (by decide)) (vp_in_nI (n := Ec) (by omega) (by decide)) d_Mo_element_76 (fun H locs hP hS => ?_)
    rw [nI_clamp (n := Ec) (by omega)] at hP
    obtain ⟨A18, eA18⟩ : ∃ z, z = va_up A15 233 (upd (A15 233) (Ec) ((-1))) := ⟨_, rfl⟩
    obtain ⟨mem19, e_mem19⟩ : ∃ z, z = va_up mem16 233 (.inl (cy 1, 100, .inl (upd (A15 233) (Ec) ((-1))))) := ⟨_, rfl⟩
    have hP : va_P D vcl (fw n ad mem19) H := by rw [e_mem19]; exact hP
    have hD : va_D (Az sz) (fw n ad mem19) := fw_D hD
    have hW20 : MW cy ad J A18 nm m0 mem19 := by rw [e_mem19, eA18]; exact hW17.upA (j := 233) (by decide) (by decide) (by decide) (Or.inl (by decide))
    refine lv_aload_n Bx.1 Bx.2.1 d_Mo_element_77 rfl (lv_at hl 0 rfl) ?_
    refine lv_dup Bx.1 Bx.2.1 d_Mo_element_78 rfl ?_
    refine f_get Bx hP (by omega) hW20.1 rfl inMo 7 (by decide) kw_663 rfl rfl d_Mo_element_79 ?_
    rw [hE]
    refine lv_iconst (v := 1) Bx.1 Bx.2.1 d_Mo_element_82 (by decide) ?_
    refine lv_iadd Bx.1 Bx.2.1 d_Mo_element_83 ?_
    rw [show nI Ec + 1 = nI (Ec + 1) from nI_add (Ec) (1)]
    refine f_put Bx hP hD hS (by omega) hW20.1 rfl inMo tyMo okMo nmMo 7 (by decide) kw_663 rfl rfl rfl rfl (Nat.le_of_ble_eq_true rfl) d_Mo_element_84 (fun H locs hP hS => ?_)
    obtain ⟨J21, eJ21⟩ : ∃ z, z = va_up J 7 (nI (Ec + 1)) := ⟨_, rfl⟩
    obtain ⟨mem22, e_mem22⟩ : ∃ z, z = va_up mem19 224 (moC ad J21) := ⟨_, rfl⟩
    have hP : va_P D vcl (fw n ad mem22) H := by rw [e_mem22, eJ21]; exact hP
    have hD : va_D (Az sz) (fw n ad mem22) := fw_D hD
    have hW23 : MW cy ad J21 A18 nm m0 mem22 := by rw [e_mem22]; exact hW20.upJ (by rw [eJ21]; exact va_up_ne _ _ (by decide))
    have kk24 : J21 7 = nI (Ec + 1) := by rw [eJ21, va_up_self]
    refine lv_aload_n Bx.1 Bx.2.1 d_Mo_element_87 rfl (lv_at hl 0 rfl) ?_
    refine f_get Bx hP (by omega) hW23.1 rfl inMo 7 (by decide) kw_663 rfl rfl d_Mo_element_88 ?_
    rw [kk24]
    refine lv_iconst (v := 1) Bx.1 Bx.2.1 d_Mo_element_91 (by decide) ?_
    refine lv_isub Bx.1 Bx.2.1 d_Mo_element_92 ?_
    rw [show nI (Ec + 1) - 1 = nI (Ec) from nI_pred (Ec)]
    exact W.iret (v := nI (Ec)) hx hb hr (fun t ht hW => ⟨⟨nI (Ec), mem22, rfl, Or.inr ⟨by omega, rfl, by rw [← eJ21, show elA A Ec kd = A18 by rw [eA18, eA15, eA12, eA9, eA6, eA3]; rfl]; exact hW23⟩, by show va_P _ _ _ t.heap; rw [ht]; exact hP⟩, hS.F ht⟩) hS.2.2 d_Mo_element_93
  · have hN25 : Ec = 100 := (nI_eq (by omega) (by omega)).mp (show nI (Ec) = nI (100) from hb1)
    refine lv_aload_n Bx.1 Bx.2.1 d_Mo_element_9 rfl (lv_at hl 0 rfl) ?_
    refine lv_iconst (v := 2) Bx.1 Bx.2.1 d_Mo_element_10 (by decide) ?_
    refine lv_iload_n Bx.1 Bx.2.1 d_Mo_element_11 rfl (lv_at hl 2 rfl) ?_
    refine f_callVv (na := 2) (As := [.int (2), .int (wh)]) (rest := []) Bx hml E hP hD hS (by omega) hM.1 rfl (m_Mo_wrong l hn hM h17 (by first | exact Or.inl rfl | exact Or.inr rfl)) kw_799 kw_801 sel_Mo_wrong kw_8 kw_802 (by decide +kernel) ⟨rfl, rfl⟩ ⟨Nat.le_of_ble_eq_true rfl, Nat.le_of_ble_eq_true rfl⟩ rfl hl.1 (Nat.le_of_ble_eq_true rfl) d_Mo_element_12 ⟨Nat.le_of_ble_eq_true rfl, Nat.le_of_ble_eq_true rfl⟩ (fun mem27 H locs hq hP hS => ?_)
    have hD : va_D (Az sz) (fw n ad mem27) := fw_D hD
    obtain ⟨J28, hW29, hwr30⟩ := hq
    have kk31 : J28 7 = nI Ec := (show J28 7 = J 7 from hwr30.2 7 (by decide) (by decide)).trans hE
    refine lv_iconst (v := 0) Bx.1 Bx.2.1 d_Mo_element_15 (by decide) ?_
    exact W.iret (v := 0) hx hb hr (fun t ht hW => ⟨⟨0, mem27, rfl, Or.inl ⟨by omega, rfl, J28, hW29, hwr30⟩, by show va_P _ _ _ t.heap; rw [ht]; exact hP⟩, hS.F ht⟩) hS.2.2 d_Mo_element_16
set_option maxHeartbeats 4000000 in
set_option maxRecDepth 100000 in
theorem m_Mo_enterBX (l : Launch) {D : va_G} {cy : Nat → ClassId} {sz n : Nat} {ad : Nat → Nat} {mem : Nat → va_E} {J : Nat → Int32} {A : Nat → Nat → Int32} {nm : Nat → Int64} {m0 : Nat → va_E} {L G a u R f : Nat} {T : Nat → Int32} {fc fs ft : Nat → Nat} {Ec tt : Nat} {wh oe : Int32} {X : Nat → Prop} (hn : 242 ≤ n) (hM : MW cy ad J A nm m0 mem) (hNm : Num L G a u R Ec f J) (hBd : L ≤ 240 ∧ a ≤ L ∧ u ≤ a ∧ R ≤ 12 ∧ f ≤ 6) (hEb : Ec ≤ 100) (hf5 : f ≤ 5) (hT : A 225 = T) (hp : J 28 = 0) (hI : Inv R Ec u f True fc fs ft A X) (hwh : (wh = 1 ∧ tt = Ec ∧ ∀ k, ¬ X k) ∨ (wh = 2 ∧ oe = nI tt ∧ Ec = tt + 1 ∧ A 232 tt = -1 ∧ A 233 tt = -1 ∧ ∀ k, X k → k = tt)) (hse : fs f < tt) (hrr : A 239 f = -1 ∨ ∃ r, A 239 f = nI r ∧ fs f < r ∧ r < tt) (hC : CL tt A) : MV l D cy sz n ad y_Mo_enter c_Mo_enter 3 ({ frames := 3, cells := 0, slots := 0, locals := 90 } : Room) mem [.ref (ad 224), .int (wh), .int (oe)] (fun mem' => ∃ J' A' nm', MW cy ad J' A' nm' m0 mem' ∧ ResE9 L G T a J' A' nm' (entS T L a u R Ec (f + 1) A nm wh oe)) := by
  refine Met.ofW (cc := c_Mo_enter) (maxL := 3) (ret := none) (by decide) rfl ?_
  intro p e s m args below meth c s₁ B hml hv
  obtain ⟨rfl, E, hP, hD⟩ := hv
  have hx := B.exec
  have hb := B.bytes
  have hr := B.returns
  have hlocks := B.notSynchronized
  have Bx : MB p s m [.ref (ad 224), .int (wh), .int (oe)].toArray c c_Mo_enter "AbnfChartModel" D cy := ⟨hx, hb, tb_all (atoms_spec B.pre) E.2.1, findClass_of_methodNamed B.named, E.1⟩
  have hS : va_S (Az sz) s.heap s.heap [] := va_S.rf
  have hl := lv_entry ([.ref (ad 224), .int (wh), .int (oe)]) (n := 3) (Nat.le_of_ble_eq_true rfl)
  rw [lg_entry_eq]
  generalize (lg_sl ([.ref (ad 224), .int (wh), .int (oe)]) ++ List.replicate (3 - (lg_sl ([.ref (ad 224), .int (wh), .int (oe)])).length) Slot.unset).toArray = ls at hl ⊢
  have hl : lv_has ls 3 [(0, .ref (ad 224)), (1, .int (wh)), (2, .int (oe))] := hl
  obtain ⟨hL, haL, huA, hRb, hfb⟩ := hBd
  obtain ⟨g1, g2, g3, g4, g5, g6, g7, g8⟩ := hNm
  have hw0 : wh ≠ 0 := by rcases hwh with h | h <;> rw [h.1] <;> decide
  refine lv_aload_n Bx.1 Bx.2.1 d_Mo_enter_0 rfl (lv_at hl 0 rfl) ?_
  refine f_callVv (na := 0) (As := []) (rest := []) Bx hml E hP hD hS (by omega) hM.1 rfl (m_Mo_gapX l hn hM g1 hL g3 (by omega)) kw_803 kw_805 sel_Mo_gap kw_8 kw_806 (by decide +kernel) ⟨rfl, rfl⟩ ⟨Nat.le_of_ble_eq_true rfl, Nat.le_of_ble_eq_true rfl⟩ rfl hl.1 (Nat.le_of_ble_eq_true rfl) d_Mo_enter_1 ⟨Nat.le_of_ble_eq_true rfl, Nat.le_of_ble_eq_true rfl⟩ (fun mem10 H locs hq hP hS => ?_)
  have hD : va_D (Az sz) (fw n ad mem10) := fw_D hD
  rw [hT] at hq
  obtain ⟨a11, ea16⟩ : ∃ z, z = gapF T L (a) := ⟨_, rfl⟩
  have hg12 : a ≤ a11 := by rw [ea16]; exact gapF_ge T L _
  have hg13 : a11 ≤ L := by rw [ea16]; exact gapF_le T (by omega)
  rw [← ea16] at hq
  obtain ⟨J15, eJ15⟩ : ∃ z, z = va_up J 16 (nI a11) := ⟨_, rfl⟩
  rw [← eJ15] at hq
  have hW14 := hq
  have kk17 : J15 1 = nI L := (show J15 1 = J 1 from by rw [eJ15]; rfl).trans g1
  have kk18 : J15 24 = nI G := (show J15 24 = J 24 from by rw [eJ15]; rfl).trans g2
  have kk19 : J15 17 = 0 := (show J15 17 = J 17 from by rw [eJ15]; rfl).trans g4
  have kk20 : J15 14 = nI u := (show J15 14 = J 14 from by rw [eJ15]; rfl).trans g5
  have kk21 : J15 4 = nI R := (show J15 4 = J 4 from by rw [eJ15]; rfl).trans g6
  have kk22 : J15 7 = nI Ec := (show J15 7 = J 7 from by rw [eJ15]; rfl).trans g7
  have kk23 : J15 18 = nI (f + 1) := (show J15 18 = J 18 from by rw [eJ15]; rfl).trans g8
  have kk24 : J15 28 = 0 := (show J15 28 = J 28 from by rw [eJ15]; rfl).trans hp
  have kk25 : J15 16 = nI a11 := by rw [eJ15, va_up_self]
  refine lv_aload_n Bx.1 Bx.2.1 d_Mo_enter_4 rfl (lv_at hl 0 rfl) ?_
  refine f_callVi (na := 0) (As := []) (rest := []) Bx hml E hP hD hS (by omega) hW14.1 rfl (m_Mo_here l hn hW14 kk17 hL kk25 (by omega)) kw_778 kw_780 sel_Mo_here kw_8 kw_781 (by decide +kernel) ⟨rfl, rfl⟩ ⟨Nat.le_of_ble_eq_true rfl, Nat.le_of_ble_eq_true rfl⟩ rfl hl.1 (Nat.le_of_ble_eq_true rfl) d_Mo_enter_5 ⟨Nat.le_of_ble_eq_true rfl, Nat.le_of_ble_eq_true rfl⟩ (fun r26 mem27 H locs hq hP hS => ?_)
  have hD : va_D (Az sz) (fw n ad mem27) := fw_D hD
  obtain ⟨hre, hq⟩ := hq
  rw [hq] at hP hD
  subst hre
  rw [show hereF L (A 225) (a11) = hereF L T (a11) by rw [hT]]
  refine f_callSi (na := 1) (As := [.int (hereF L T (a11))]) (rest := []) Bx hml E.2.1 (m_Mo_beginsX l (hereF L T (a11))) kw_811 kw_812 kw_8 kw_813 (by decide +kernel) ⟨rfl, rfl⟩ ⟨Nat.le_of_ble_eq_true rfl, Nat.le_of_ble_eq_true rfl⟩ rfl hl.1 (Nat.le_of_ble_eq_true rfl) d_Mo_enter_8 ⟨Nat.le_of_ble_eq_true rfl, Nat.le_of_ble_eq_true rfl⟩ (fun r29 hs28 => ?_)
  subst hs28
  refine lv_if_ne Bx.1 Bx.2.1 d_Mo_enter_11 rfl (fun hb30 => ?_) (fun hb30 => ?_)
  · refine lv_aload_n Bx.1 Bx.2.1 d_Mo_enter_24 rfl (lv_at hl 0 rfl) ?_
    refine f_get Bx hP (by omega) hW14.1 rfl inMo 19 (by decide) kw_675 rfl rfl d_Mo_enter_25 ?_
    refine lv_aload_n Bx.1 Bx.2.1 d_Mo_enter_28 rfl (lv_at hl 0 rfl) ?_
    refine f_get Bx hP (by omega) hW14.1 rfl inMo 18 (by decide) kw_674 rfl rfl d_Mo_enter_29 ?_
    rw [kk23]
    refine lv_iload_n Bx.1 Bx.2.1 d_Mo_enter_32 rfl (lv_at hl 1 rfl) ?_
    refine f_iast (x := wh) (i := nI (f + 1)) Bx hP hD hS (by omega) (show mem10 235 = .inl (cy 1, 8, .inl (A 235)) from hW14.2.2.1 235 (by decide) (by decide) (by decide)) (vp_in_nI (n := f + 1) (by omega) (by decide)) d_Mo_enter_33 (fun H locs hP hS => ?_)
    rw [nI_clamp (n := f + 1) (by omega)] at hP
    obtain ⟨A31, eA31⟩ : ∃ z, z = va_up A 235 (upd (A 235) (f + 1) (wh)) := ⟨_, rfl⟩
    obtain ⟨mem32, e_mem32⟩ : ∃ z, z = va_up mem10 235 (.inl (cy 1, 8, .inl (upd (A 235) (f + 1) (wh)))) := ⟨_, rfl⟩
    have hP : va_P D vcl (fw n ad mem32) H := by rw [e_mem32]; exact hP
    have hD : va_D (Az sz) (fw n ad mem32) := fw_D hD
    have hW33 : MW cy ad J15 A31 nm m0 mem32 := by rw [e_mem32, eA31]; exact hW14.upA (j := 235) (by decide) (by decide) (by decide) (Or.inl (by decide))
    have tT34 : A31 225 = T := by rw [eA31]; exact hT
    refine lv_aload_n Bx.1 Bx.2.1 d_Mo_enter_34 rfl (lv_at hl 0 rfl) ?_
    refine f_get Bx hP (by omega) hW33.1 rfl inMo 20 (by decide) kw_676 rfl rfl d_Mo_enter_35 ?_
    refine lv_aload_n Bx.1 Bx.2.1 d_Mo_enter_38 rfl (lv_at hl 0 rfl) ?_
    refine f_get Bx hP (by omega) hW33.1 rfl inMo 18 (by decide) kw_674 rfl rfl d_Mo_enter_39 ?_
    rw [kk23]
    refine lv_iload_n Bx.1 Bx.2.1 d_Mo_enter_42 rfl (lv_at hl 2 rfl) ?_
    refine f_iast (x := oe) (i := nI (f + 1)) Bx hP hD hS (by omega) (show mem32 236 = .inl (cy 1, 8, .inl (A31 236)) from hW33.2.2.1 236 (by decide) (by decide) (by decide)) (vp_in_nI (n := f + 1) (by omega) (by decide)) d_Mo_enter_43 (fun H locs hP hS => ?_)
    rw [nI_clamp (n := f + 1) (by omega)] at hP
    obtain ⟨A35, eA35⟩ : ∃ z, z = va_up A31 236 (upd (A31 236) (f + 1) (oe)) := ⟨_, rfl⟩
    obtain ⟨mem36, e_mem36⟩ : ∃ z, z = va_up mem32 236 (.inl (cy 1, 8, .inl (upd (A31 236) (f + 1) (oe)))) := ⟨_, rfl⟩
    have hP : va_P D vcl (fw n ad mem36) H := by rw [e_mem36]; exact hP
    have hD : va_D (Az sz) (fw n ad mem36) := fw_D hD
    have hW37 : MW cy ad J15 A35 nm m0 mem36 := by rw [e_mem36, eA35]; exact hW33.upA (j := 236) (by decide) (by decide) (by decide) (Or.inl (by decide))
    have tT38 : A35 225 = T := by rw [eA35]; exact tT34
    refine lv_aload_n Bx.1 Bx.2.1 d_Mo_enter_44 rfl (lv_at hl 0 rfl) ?_
    refine f_get Bx hP (by omega) hW37.1 rfl inMo 23 (by decide) kw_679 rfl rfl d_Mo_enter_45 ?_
    refine lv_aload_n Bx.1 Bx.2.1 d_Mo_enter_48 rfl (lv_at hl 0 rfl) ?_
    refine f_get Bx hP (by omega) hW37.1 rfl inMo 18 (by decide) kw_674 rfl rfl d_Mo_enter_49 ?_
    rw [kk23]
    refine lv_iconst (v := -1) Bx.1 Bx.2.1 d_Mo_enter_52 (by decide) ?_
    refine f_iast (x := (-1)) (i := nI (f + 1)) Bx hP hD hS (by omega) (show mem36 239 = .inl (cy 1, 8, .inl (A35 239)) from hW37.2.2.1 239 (by decide) (by decide) (by decide)) (vp_in_nI (n := f + 1) (by omega) (by decide)) d_Mo_enter_53 (fun H locs hP hS => ?_)
    rw [nI_clamp (n := f + 1) (by omega)] at hP
    obtain ⟨A39, eA39⟩ : ∃ z, z = va_up A35 239 (upd (A35 239) (f + 1) ((-1))) := ⟨_, rfl⟩
    obtain ⟨mem40, e_mem40⟩ : ∃ z, z = va_up mem36 239 (.inl (cy 1, 8, .inl (upd (A35 239) (f + 1) ((-1))))) := ⟨_, rfl⟩
    have hP : va_P D vcl (fw n ad mem40) H := by rw [e_mem40]; exact hP
    have hD : va_D (Az sz) (fw n ad mem40) := fw_D hD
    have hW41 : MW cy ad J15 A39 nm m0 mem40 := by rw [e_mem40, eA39]; exact hW37.upA (j := 239) (by decide) (by decide) (by decide) (Or.inl (by decide))
    have tT42 : A39 225 = T := by rw [eA39]; exact tT38
    refine lv_aload_n Bx.1 Bx.2.1 d_Mo_enter_54 rfl (lv_at hl 0 rfl) ?_
    refine f_get Bx hP (by omega) hW41.1 rfl inMo 21 (by decide) kw_677 rfl rfl d_Mo_enter_55 ?_
    refine lv_aload_n Bx.1 Bx.2.1 d_Mo_enter_58 rfl (lv_at hl 0 rfl) ?_
    refine f_get Bx hP (by omega) hW41.1 rfl inMo 18 (by decide) kw_674 rfl rfl d_Mo_enter_59 ?_
    rw [kk23]
    refine lv_aload_n Bx.1 Bx.2.1 d_Mo_enter_62 rfl (lv_at hl 0 rfl) ?_
    refine lv_iconst (v := 0) Bx.1 Bx.2.1 d_Mo_enter_63 (by decide) ?_
    refine lv_aload_n Bx.1 Bx.2.1 d_Mo_enter_64 rfl (lv_at hl 0 rfl) ?_
    refine f_get Bx hP (by omega) hW41.1 rfl inMo 16 (by decide) kw_672 rfl rfl d_Mo_enter_65 ?_
    rw [kk25]
    refine f_callVi (na := 2) (As := [.int (0), .int (nI a11)]) (rest := [.int (nI (f + 1)), .ref (ad 237)]) Bx hml E hP hD hS (by omega) hW41.1 rfl (m_Mo_elementX l hn hW41 (Or.inl kk19) kk22 (by omega)) kw_814 kw_816 sel_Mo_element kw_8 kw_817 (by decide +kernel) ⟨rfl, rfl⟩ ⟨Nat.le_of_ble_eq_true rfl, Nat.le_of_ble_eq_true rfl⟩ rfl hl.1 (Nat.le_of_ble_eq_true rfl) d_Mo_enter_68 ⟨Nat.le_of_ble_eq_true rfl, Nat.le_of_ble_eq_true rfl⟩ (fun r43 mem44 H locs hq hP hS => ?_)
    have hD : va_D (Az sz) (fw n ad mem44) := fw_D hD
    rcases hq with ⟨hE52, hre53, J45, hW46, hwr47⟩ | ⟨hEl48, hre54, hW51⟩
    · subst hre53
      have kk55 : J45 1 = nI L := (show J45 1 = J15 1 from hwr47.2 1 (by decide) (by decide)).trans kk17
      have kk56 : J45 24 = nI G := (show J45 24 = J15 24 from hwr47.2 24 (by decide) (by decide)).trans kk18
      have kk57 : J45 14 = nI u := (show J45 14 = J15 14 from hwr47.2 14 (by decide) (by decide)).trans kk20
      have kk58 : J45 4 = nI R := (show J45 4 = J15 4 from hwr47.2 4 (by decide) (by decide)).trans kk21
      have kk59 : J45 7 = nI Ec := (show J45 7 = J15 7 from hwr47.2 7 (by decide) (by decide)).trans kk22
      have kk60 : J45 18 = nI (f + 1) := (show J45 18 = J15 18 from hwr47.2 18 (by decide) (by decide)).trans kk23
      have kk61 : J45 28 = 0 := (show J45 28 = J15 28 from hwr47.2 28 (by decide) (by decide)).trans kk24
      have kk62 : J45 16 = nI a11 := (show J45 16 = J15 16 from hwr47.2 16 (by decide) (by decide)).trans kk25
      refine f_iast (x := 0) (i := nI (f + 1)) Bx hP hD hS (by omega) (show mem44 237 = .inl (cy 1, 8, .inl (A39 237)) from hW46.2.2.1 237 (by decide) (by decide) (by decide)) (vp_in_nI (n := f + 1) (by omega) (by decide)) d_Mo_enter_71 (fun H locs hP hS => ?_)
      rw [nI_clamp (n := f + 1) (by omega)] at hP
      obtain ⟨A63, eA63⟩ : ∃ z, z = va_up A39 237 (upd (A39 237) (f + 1) (0)) := ⟨_, rfl⟩
      obtain ⟨mem64, e_mem64⟩ : ∃ z, z = va_up mem44 237 (.inl (cy 1, 8, .inl (upd (A39 237) (f + 1) (0)))) := ⟨_, rfl⟩
      have hP : va_P D vcl (fw n ad mem64) H := by rw [e_mem64]; exact hP
      have hD : va_D (Az sz) (fw n ad mem64) := fw_D hD
      have hW65 : MW cy ad J45 A63 nm m0 mem64 := by rw [e_mem64, eA63]; exact hW46.upA (j := 237) (by decide) (by decide) (by decide) (Or.inl (by decide))
      have tT66 : A63 225 = T := by rw [eA63]; exact tT42
      refine lv_aload_n Bx.1 Bx.2.1 d_Mo_enter_72 rfl (lv_at hl 0 rfl) ?_
      refine lv_dup Bx.1 Bx.2.1 d_Mo_enter_73 rfl ?_
      refine f_get Bx hP (by omega) hW65.1 rfl inMo 18 (by decide) kw_674 rfl rfl d_Mo_enter_74 ?_
      rw [kk60]
      refine lv_iconst (v := 1) Bx.1 Bx.2.1 d_Mo_enter_77 (by decide) ?_
      refine lv_iadd Bx.1 Bx.2.1 d_Mo_enter_78 ?_
      rw [show nI (f + 1) + 1 = nI (f + 1 + 1) from nI_add (f + 1) (1)]
      refine f_put Bx hP hD hS (by omega) hW65.1 rfl inMo tyMo okMo nmMo 18 (by decide) kw_674 rfl rfl rfl rfl (Nat.le_of_ble_eq_true rfl) d_Mo_enter_79 (fun H locs hP hS => ?_)
      obtain ⟨J67, eJ67⟩ : ∃ z, z = va_up J45 18 (nI (f + 1 + 1)) := ⟨_, rfl⟩
      obtain ⟨mem68, e_mem68⟩ : ∃ z, z = va_up mem64 224 (moC ad J67) := ⟨_, rfl⟩
      have hP : va_P D vcl (fw n ad mem68) H := by rw [e_mem68, eJ67]; exact hP
      have hD : va_D (Az sz) (fw n ad mem68) := fw_D hD
      have hW69 : MW cy ad J67 A63 nm m0 mem68 := by rw [e_mem68]; exact hW65.upJ (by rw [eJ67]; exact va_up_ne _ _ (by decide))
      have kk70 : J67 1 = nI L := by rw [eJ67]; exact kk55
      have kk71 : J67 24 = nI G := by rw [eJ67]; exact kk56
      have kk72 : J67 14 = nI u := by rw [eJ67]; exact kk57
      have kk73 : J67 4 = nI R := by rw [eJ67]; exact kk58
      have kk74 : J67 7 = nI Ec := by rw [eJ67]; exact kk59
      have kk75 : J67 28 = 0 := by rw [eJ67]; exact kk61
      have kk76 : J67 16 = nI a11 := by rw [eJ67]; exact kk62
      have kk77 : J67 18 = nI (f + 1 + 1) := by rw [eJ67, va_up_self]
      have bd78 : b12 (J67 17) := by rw [eJ67]; exact hwr47.1
      refine lv_aload_n Bx.1 Bx.2.1 d_Mo_enter_82 rfl (lv_at hl 0 rfl) ?_
      refine f_get Bx hP (by omega) hW69.1 rfl inMo 17 (by decide) kw_673 rfl rfl d_Mo_enter_83 ?_
      refine lv_if_ne Bx.1 Bx.2.1 d_Mo_enter_86 rfl (fun hb79 => ?_) (fun hb79 => ?_)
      · refine lv_aload_n Bx.1 Bx.2.1 d_Mo_enter_119 rfl (lv_at hl 0 rfl) ?_
        refine f_get Bx hP (by omega) hW69.1 rfl inMo 17 (by decide) kw_673 rfl rfl d_Mo_enter_120 ?_
        refine lv_if_ne Bx.1 Bx.2.1 d_Mo_enter_123 rfl (fun hb80 => ?_) (fun hb80 => ?_)
        · refine lv_aload_n Bx.1 Bx.2.1 d_Mo_enter_147 rfl (lv_at hl 0 rfl) ?_
          refine lv_iconst (v := 1) Bx.1 Bx.2.1 d_Mo_enter_148 (by decide) ?_
          refine f_put Bx hP hD hS (by omega) hW69.1 rfl inMo tyMo okMo nmMo 28 (by decide) kw_684 rfl rfl rfl rfl (Nat.le_of_ble_eq_true rfl) d_Mo_enter_149 (fun H locs hP hS => ?_)
          obtain ⟨J81, eJ81⟩ : ∃ z, z = va_up J67 28 (1) := ⟨_, rfl⟩
          obtain ⟨mem82, e_mem82⟩ : ∃ z, z = va_up mem68 224 (moC ad J81) := ⟨_, rfl⟩
          have hP : va_P D vcl (fw n ad mem82) H := by rw [e_mem82, eJ81]; exact hP
          have hD : va_D (Az sz) (fw n ad mem82) := fw_D hD
          have hW83 : MW cy ad J81 A63 nm m0 mem82 := by rw [e_mem82]; exact hW69.upJ (by rw [eJ81]; exact va_up_ne _ _ (by decide))
          have kk84 : J81 1 = nI L := by rw [eJ81]; exact kk70
          have kk85 : J81 24 = nI G := by rw [eJ81]; exact kk71
          have kk86 : J81 14 = nI u := by rw [eJ81]; exact kk72
          have kk87 : J81 4 = nI R := by rw [eJ81]; exact kk73
          have kk88 : J81 7 = nI Ec := by rw [eJ81]; exact kk74
          have kk89 : J81 16 = nI a11 := by rw [eJ81]; exact kk76
          have kk90 : J81 18 = nI (f + 1 + 1) := by rw [eJ81]; exact kk77
          have kk91 : J81 28 = 1 := by rw [eJ81, va_up_self]
          have bd92 : b12 (J81 17) := by rw [eJ81]; exact bd78
          exact W.vret hx hb hr (fun t ht hW => ⟨⟨mem82, rfl, ⟨J81, A63, nm, hW83, Or.inl ⟨⟨kk84, kk85, tT66, bd92, _, by omega, kk89⟩, entS_no (Or.inr hE52)⟩⟩, by show va_P _ _ _ t.heap; rw [ht]; exact hP⟩, hS.F ht⟩) hS.2.2 d_Mo_enter_152
        · exact absurd hb80 bd78.ne
      · exact absurd hb79 bd78.ne
    · subst hre54
      obtain ⟨J49, eJ49⟩ : ∃ z, z = va_up J15 7 (nI (Ec + 1)) := ⟨_, rfl⟩
      obtain ⟨A50, eA50⟩ : ∃ z, z = elA A39 (Ec) 0 := ⟨_, rfl⟩
      rw [← eJ49, ← eA50] at hW51
      have kk93 : J49 1 = nI L := (show J49 1 = J15 1 from by rw [eJ49]; rfl).trans kk17
      have kk94 : J49 24 = nI G := (show J49 24 = J15 24 from by rw [eJ49]; rfl).trans kk18
      have kk95 : J49 17 = 0 := (show J49 17 = J15 17 from by rw [eJ49]; rfl).trans kk19
      have kk96 : J49 14 = nI u := (show J49 14 = J15 14 from by rw [eJ49]; rfl).trans kk20
      have kk97 : J49 4 = nI R := (show J49 4 = J15 4 from by rw [eJ49]; rfl).trans kk21
      have kk98 : J49 18 = nI (f + 1) := (show J49 18 = J15 18 from by rw [eJ49]; rfl).trans kk23
      have kk99 : J49 28 = 0 := (show J49 28 = J15 28 from by rw [eJ49]; rfl).trans kk24
      have kk100 : J49 16 = nI a11 := (show J49 16 = J15 16 from by rw [eJ49]; rfl).trans kk25
      have kk101 : J49 7 = nI (Ec + 1) := by rw [eJ49, va_up_self]
      have tT102 : A50 225 = T := by rw [eA50]; exact tT42
      refine f_iast (x := nI Ec) (i := nI (f + 1)) Bx hP hD hS (by omega) (show mem44 237 = .inl (cy 1, 8, .inl (A50 237)) from hW51.2.2.1 237 (by decide) (by decide) (by decide)) (vp_in_nI (n := f + 1) (by omega) (by decide)) d_Mo_enter_71 (fun H locs hP hS => ?_)
      rw [nI_clamp (n := f + 1) (by omega)] at hP
      obtain ⟨A103, eA103⟩ : ∃ z, z = va_up A50 237 (upd (A50 237) (f + 1) (nI Ec)) := ⟨_, rfl⟩
      obtain ⟨mem104, e_mem104⟩ : ∃ z, z = va_up mem44 237 (.inl (cy 1, 8, .inl (upd (A50 237) (f + 1) (nI Ec)))) := ⟨_, rfl⟩
      have hP : va_P D vcl (fw n ad mem104) H := by rw [e_mem104]; exact hP
      have hD : va_D (Az sz) (fw n ad mem104) := fw_D hD
      have hW105 : MW cy ad J49 A103 nm m0 mem104 := by rw [e_mem104, eA103]; exact hW51.upA (j := 237) (by decide) (by decide) (by decide) (Or.inl (by decide))
      have tT106 : A103 225 = T := by rw [eA103]; exact tT102
      refine lv_aload_n Bx.1 Bx.2.1 d_Mo_enter_72 rfl (lv_at hl 0 rfl) ?_
      refine lv_dup Bx.1 Bx.2.1 d_Mo_enter_73 rfl ?_
      refine f_get Bx hP (by omega) hW105.1 rfl inMo 18 (by decide) kw_674 rfl rfl d_Mo_enter_74 ?_
      rw [kk98]
      refine lv_iconst (v := 1) Bx.1 Bx.2.1 d_Mo_enter_77 (by decide) ?_
      refine lv_iadd Bx.1 Bx.2.1 d_Mo_enter_78 ?_
      rw [show nI (f + 1) + 1 = nI (f + 1 + 1) from nI_add (f + 1) (1)]
      refine f_put Bx hP hD hS (by omega) hW105.1 rfl inMo tyMo okMo nmMo 18 (by decide) kw_674 rfl rfl rfl rfl (Nat.le_of_ble_eq_true rfl) d_Mo_enter_79 (fun H locs hP hS => ?_)
      obtain ⟨J107, eJ107⟩ : ∃ z, z = va_up J49 18 (nI (f + 1 + 1)) := ⟨_, rfl⟩
      obtain ⟨mem108, e_mem108⟩ : ∃ z, z = va_up mem104 224 (moC ad J107) := ⟨_, rfl⟩
      have hP : va_P D vcl (fw n ad mem108) H := by rw [e_mem108, eJ107]; exact hP
      have hD : va_D (Az sz) (fw n ad mem108) := fw_D hD
      have hW109 : MW cy ad J107 A103 nm m0 mem108 := by rw [e_mem108]; exact hW105.upJ (by rw [eJ107]; exact va_up_ne _ _ (by decide))
      have kk110 : J107 1 = nI L := by rw [eJ107]; exact kk93
      have kk111 : J107 24 = nI G := by rw [eJ107]; exact kk94
      have kk112 : J107 17 = 0 := by rw [eJ107]; exact kk95
      have kk113 : J107 14 = nI u := by rw [eJ107]; exact kk96
      have kk114 : J107 4 = nI R := by rw [eJ107]; exact kk97
      have kk115 : J107 28 = 0 := by rw [eJ107]; exact kk99
      have kk116 : J107 16 = nI a11 := by rw [eJ107]; exact kk100
      have kk117 : J107 7 = nI (Ec + 1) := by rw [eJ107]; exact kk101
      have kk118 : J107 18 = nI (f + 1 + 1) := by rw [eJ107, va_up_self]
      refine lv_aload_n Bx.1 Bx.2.1 d_Mo_enter_82 rfl (lv_at hl 0 rfl) ?_
      refine f_get Bx hP (by omega) hW109.1 rfl inMo 17 (by decide) kw_673 rfl rfl d_Mo_enter_83 ?_
      rw [kk112]
      refine lv_if_ne Bx.1 Bx.2.1 d_Mo_enter_86 rfl (fun hb119 => ?_) (fun hb119 => ?_)
      · exact absurd hb119 (by decide)
      · refine lv_iload_n Bx.1 Bx.2.1 d_Mo_enter_89 rfl (lv_at hl 1 rfl) ?_
        refine lv_if_ne Bx.1 Bx.2.1 d_Mo_enter_90 rfl (fun hb120 => ?_) (fun hb120 => ?_)
        · refine lv_aload_n Bx.1 Bx.2.1 d_Mo_enter_119 rfl (lv_at hl 0 rfl) ?_
          refine f_get Bx hP (by omega) hW109.1 rfl inMo 17 (by decide) kw_673 rfl rfl d_Mo_enter_120 ?_
          rw [kk112]
          refine lv_if_ne Bx.1 Bx.2.1 d_Mo_enter_123 rfl (fun hb121 => ?_) (fun hb121 => ?_)
          · exact absurd hb121 (by decide)
          · refine lv_iload_n Bx.1 Bx.2.1 d_Mo_enter_126 rfl (lv_at hl 1 rfl) ?_
            refine lv_if_ne Bx.1 Bx.2.1 d_Mo_enter_127 rfl (fun hb122 => ?_) (fun hb122 => ?_)
            · refine lv_aload_n Bx.1 Bx.2.1 d_Mo_enter_147 rfl (lv_at hl 0 rfl) ?_
              refine lv_iconst (v := 1) Bx.1 Bx.2.1 d_Mo_enter_148 (by decide) ?_
              refine f_put Bx hP hD hS (by omega) hW109.1 rfl inMo tyMo okMo nmMo 28 (by decide) kw_684 rfl rfl rfl rfl (Nat.le_of_ble_eq_true rfl) d_Mo_enter_149 (fun H locs hP hS => ?_)
              obtain ⟨J123, eJ123⟩ : ∃ z, z = va_up J107 28 (1) := ⟨_, rfl⟩
              obtain ⟨mem124, e_mem124⟩ : ∃ z, z = va_up mem108 224 (moC ad J123) := ⟨_, rfl⟩
              have hP : va_P D vcl (fw n ad mem124) H := by rw [e_mem124, eJ123]; exact hP
              have hD : va_D (Az sz) (fw n ad mem124) := fw_D hD
              have hW125 : MW cy ad J123 A103 nm m0 mem124 := by rw [e_mem124]; exact hW109.upJ (by rw [eJ123]; exact va_up_ne _ _ (by decide))
              have kk126 : J123 1 = nI L := by rw [eJ123]; exact kk110
              have kk127 : J123 24 = nI G := by rw [eJ123]; exact kk111
              have kk128 : J123 17 = 0 := by rw [eJ123]; exact kk112
              have kk129 : J123 14 = nI u := by rw [eJ123]; exact kk113
              have kk130 : J123 4 = nI R := by rw [eJ123]; exact kk114
              have kk131 : J123 16 = nI a11 := by rw [eJ123]; exact kk116
              have kk132 : J123 7 = nI (Ec + 1) := by rw [eJ123]; exact kk117
              have kk133 : J123 18 = nI (f + 1 + 1) := by rw [eJ123]; exact kk118
              have kk134 : J123 28 = 1 := by rw [eJ123, va_up_self]
              have hpu := hI.push (A' := A103) (tt := tt) (what := wh) (e := oe) (by omega) ⟨fun j h1 h2 h3 k hk => by
                  have hj : j = 228 ∨ j = 229 ∨ j = 230 ∨ j = 232 ∨ j = 233 := by omega
                  rcases hj with rfl | rfl | rfl | rfl | rfl <;> simp [eA31, eA35, eA39, eA50, eA103, elA, va_up, upd, Nat.ne_of_lt hk], by simp [eA31, eA35, eA39, eA50, eA103, elA, va_up], fun j h1 h2 => by
                  have hj : j = 235 ∨ j = 236 ∨ j = 237 ∨ j = 238 ∨ j = 239 := by omega
                  rcases hj with rfl | rfl | rfl | rfl | rfl <;> simp [eA31, eA35, eA39, eA50, eA103, elA, va_up], by simp [eA31, eA35, eA39, eA50, eA103, elA, va_up, upd], by simp [eA31, eA35, eA39, eA50, eA103, elA, va_up, upd]⟩ (by simp [eA31, eA35, eA39, eA50, eA103, elA, va_up, upd]) (fun j h1 h2 g hg => by
                  have hj : j = 235 ∨ j = 236 ∨ j = 237 ∨ j = 238 ∨ j = 239 := by omega
                  rcases hj with rfl | rfl | rfl | rfl | rfl <;> simp [eA31, eA35, eA39, eA50, eA103, elA, va_up, upd, hg]) (by simp [eA31, eA35, eA39, eA50, eA103, elA, va_up, upd]) (by simp [eA31, eA35, eA39, eA50, eA103, elA, va_up, upd]) (by simp [eA31, eA35, eA39, eA50, eA103, elA, va_up, upd]) (by simp [eA31, eA35, eA39, eA50, eA103, elA, va_up, upd]) hwh hse hrr hC
              exact W.vret hx hb hr (fun t ht hW => ⟨⟨mem124, rfl, ⟨J123, A103, nm, hW125, Or.inr ⟨a11, u, R, Ec + 1, f + 1, true, by omega, by rw [entS_ok (show bgF (hereF L T (gapF T L a)) = true by rw [← ea16]; exact bg_1 hb30) hEl48, ← ea16, eA103, eA50, eA39, eA35, eA31]; rfl, ⟨kk126, kk127, kk131, kk128, kk129, kk130, kk132, kk133⟩, ⟨by omega, by omega, by omega, by omega, by omega, by omega⟩, tT106, kk134, _, _, _, Inv.qF (by rw [kk134]; decide) hpu, by simp [eA31, eA35, eA39, eA50, eA103, elA, va_up, upd]⟩⟩, by show va_P _ _ _ t.heap; rw [ht]; exact hP⟩, hS.F ht⟩) hS.2.2 d_Mo_enter_152
            · exact absurd hb122 hw0
        · exact absurd hb120 hw0
  · refine lv_aload_n Bx.1 Bx.2.1 d_Mo_enter_14 rfl (lv_at hl 0 rfl) ?_
    refine lv_iconst (v := 1) Bx.1 Bx.2.1 d_Mo_enter_15 (by decide) ?_
    refine lv_aload_n Bx.1 Bx.2.1 d_Mo_enter_16 rfl (lv_at hl 0 rfl) ?_
    refine f_get Bx hP (by omega) hW14.1 rfl inMo 16 (by decide) kw_672 rfl rfl d_Mo_enter_17 ?_
    rw [kk25]
    refine f_callVv (na := 2) (As := [.int (1), .int (nI a11)]) (rest := []) Bx hml E hP hD hS (by omega) hW14.1 rfl (m_Mo_wrong l hn hW14 (Or.inl kk19) (by first | exact Or.inl rfl | exact Or.inr rfl)) kw_799 kw_801 sel_Mo_wrong kw_8 kw_802 (by decide +kernel) ⟨rfl, rfl⟩ ⟨Nat.le_of_ble_eq_true rfl, Nat.le_of_ble_eq_true rfl⟩ rfl hl.1 (Nat.le_of_ble_eq_true rfl) d_Mo_enter_20 ⟨Nat.le_of_ble_eq_true rfl, Nat.le_of_ble_eq_true rfl⟩ (fun mem136 H locs hq hP hS => ?_)
    have hD : va_D (Az sz) (fw n ad mem136) := fw_D hD
    obtain ⟨J137, hW138, hwr139⟩ := hq
    have kk140 : J137 1 = nI L := (show J137 1 = J15 1 from hwr139.2 1 (by decide) (by decide)).trans kk17
    have kk141 : J137 24 = nI G := (show J137 24 = J15 24 from hwr139.2 24 (by decide) (by decide)).trans kk18
    have kk142 : J137 14 = nI u := (show J137 14 = J15 14 from hwr139.2 14 (by decide) (by decide)).trans kk20
    have kk143 : J137 4 = nI R := (show J137 4 = J15 4 from hwr139.2 4 (by decide) (by decide)).trans kk21
    have kk144 : J137 7 = nI Ec := (show J137 7 = J15 7 from hwr139.2 7 (by decide) (by decide)).trans kk22
    have kk145 : J137 18 = nI (f + 1) := (show J137 18 = J15 18 from hwr139.2 18 (by decide) (by decide)).trans kk23
    have kk146 : J137 28 = 0 := (show J137 28 = J15 28 from hwr139.2 28 (by decide) (by decide)).trans kk24
    have kk147 : J137 16 = nI a11 := (show J137 16 = J15 16 from hwr139.2 16 (by decide) (by decide)).trans kk25
    exact W.vret hx hb hr (fun t ht hW => ⟨⟨mem136, rfl, ⟨J137, A, nm, hW138, Or.inl ⟨⟨kk140, kk141, hT, hwr139.1, _, by omega, kk147⟩, entS_no (Or.inl (by rw [← ea16]; exact bg_0 hb30))⟩⟩, by show va_P _ _ _ t.heap; rw [ht]; exact hP⟩, hS.F ht⟩) hS.2.2 d_Mo_enter_23
set_option maxHeartbeats 4000000 in
set_option maxRecDepth 100000 in
theorem m_Mo_enter0X (l : Launch) {D : va_G} {cy : Nat → ClassId} {sz n : Nat} {ad : Nat → Nat} {mem : Nat → va_E} {J : Nat → Int32} {A : Nat → Nat → Int32} {nm : Nat → Int64} {m0 : Nat → va_E} {L G a u R Ec r0 : Nat} {T : Nat → Int32} (hn : 242 ≤ n) (hM : MW cy ad J A nm m0 mem) (h1 : J 1 = nI L) (h24 : J 24 = nI G) (h16 : J 16 = nI a) (h17 : J 17 = 0) (h14 : J 14 = nI u) (h4 : J 4 = nI R) (h7 : J 7 = nI Ec) (h18 : J 18 = 0) (hBd : L ≤ 240 ∧ a ≤ L ∧ u ≤ a ∧ R ≤ 12 ∧ Ec ≤ 100) (hT : A 225 = T) (hG : Gd R Ec u A) (hr0 : r0 < R) : MV l D cy sz n ad y_Mo_enter c_Mo_enter 3 ({ frames := 3, cells := 0, slots := 0, locals := 90 } : Room) mem [.ref (ad 224), .int (0), .int (nI r0)] (fun mem' => ∃ J' A' nm', MW cy ad J' A' nm' m0 mem' ∧ ResE9 L G T a J' A' nm' (ent0S T L a u R Ec r0 A nm)) := by
  refine Met.ofW (cc := c_Mo_enter) (maxL := 3) (ret := none) (by decide) rfl ?_
  intro p e s m args below meth c s₁ B hml hv
  obtain ⟨rfl, E, hP, hD⟩ := hv
  have hx := B.exec
  have hb := B.bytes
  have hr := B.returns
  have hlocks := B.notSynchronized
  have Bx : MB p s m [.ref (ad 224), .int (0), .int (nI r0)].toArray c c_Mo_enter "AbnfChartModel" D cy := ⟨hx, hb, tb_all (atoms_spec B.pre) E.2.1, findClass_of_methodNamed B.named, E.1⟩
  have hS : va_S (Az sz) s.heap s.heap [] := va_S.rf
  have hl := lv_entry ([.ref (ad 224), .int (0), .int (nI r0)]) (n := 3) (Nat.le_of_ble_eq_true rfl)
  rw [lg_entry_eq]
  generalize (lg_sl ([.ref (ad 224), .int (0), .int (nI r0)]) ++ List.replicate (3 - (lg_sl ([.ref (ad 224), .int (0), .int (nI r0)])).length) Slot.unset).toArray = ls at hl ⊢
  have hl : lv_has ls 3 [(0, .ref (ad 224)), (1, .int (0)), (2, .int (nI r0))] := hl
  obtain ⟨hL, haL, huA, hRb, hEb⟩ := hBd
  refine lv_aload_n Bx.1 Bx.2.1 d_Mo_enter_0 rfl (lv_at hl 0 rfl) ?_
  refine f_callVv (na := 0) (As := []) (rest := []) Bx hml E hP hD hS (by omega) hM.1 rfl (m_Mo_gapX l hn hM h1 hL h16 (by omega)) kw_803 kw_805 sel_Mo_gap kw_8 kw_806 (by decide +kernel) ⟨rfl, rfl⟩ ⟨Nat.le_of_ble_eq_true rfl, Nat.le_of_ble_eq_true rfl⟩ rfl hl.1 (Nat.le_of_ble_eq_true rfl) d_Mo_enter_1 ⟨Nat.le_of_ble_eq_true rfl, Nat.le_of_ble_eq_true rfl⟩ (fun mem2 H locs hq hP hS => ?_)
  have hD : va_D (Az sz) (fw n ad mem2) := fw_D hD
  rw [hT] at hq
  obtain ⟨a3, ea8⟩ : ∃ z, z = gapF T L (a) := ⟨_, rfl⟩
  have hg4 : a ≤ a3 := by rw [ea8]; exact gapF_ge T L _
  have hg5 : a3 ≤ L := by rw [ea8]; exact gapF_le T (by omega)
  rw [← ea8] at hq
  obtain ⟨J7, eJ7⟩ : ∃ z, z = va_up J 16 (nI a3) := ⟨_, rfl⟩
  rw [← eJ7] at hq
  have hW6 := hq
  have kk9 : J7 1 = nI L := (show J7 1 = J 1 from by rw [eJ7]; rfl).trans h1
  have kk10 : J7 24 = nI G := (show J7 24 = J 24 from by rw [eJ7]; rfl).trans h24
  have kk11 : J7 17 = 0 := (show J7 17 = J 17 from by rw [eJ7]; rfl).trans h17
  have kk12 : J7 14 = nI u := (show J7 14 = J 14 from by rw [eJ7]; rfl).trans h14
  have kk13 : J7 4 = nI R := (show J7 4 = J 4 from by rw [eJ7]; rfl).trans h4
  have kk14 : J7 7 = nI Ec := (show J7 7 = J 7 from by rw [eJ7]; rfl).trans h7
  have kk15 : J7 18 = nI 0 := (show J7 18 = J 18 from by rw [eJ7]; rfl).trans h18
  have kk16 : J7 16 = nI a3 := by rw [eJ7, va_up_self]
  refine lv_aload_n Bx.1 Bx.2.1 d_Mo_enter_4 rfl (lv_at hl 0 rfl) ?_
  refine f_callVi (na := 0) (As := []) (rest := []) Bx hml E hP hD hS (by omega) hW6.1 rfl (m_Mo_here l hn hW6 kk9 hL kk16 (by omega)) kw_778 kw_780 sel_Mo_here kw_8 kw_781 (by decide +kernel) ⟨rfl, rfl⟩ ⟨Nat.le_of_ble_eq_true rfl, Nat.le_of_ble_eq_true rfl⟩ rfl hl.1 (Nat.le_of_ble_eq_true rfl) d_Mo_enter_5 ⟨Nat.le_of_ble_eq_true rfl, Nat.le_of_ble_eq_true rfl⟩ (fun r17 mem18 H locs hq hP hS => ?_)
  have hD : va_D (Az sz) (fw n ad mem18) := fw_D hD
  obtain ⟨hre, hq⟩ := hq
  rw [hq] at hP hD
  subst hre
  rw [show hereF L (A 225) (a3) = hereF L T (a3) by rw [hT]]
  refine f_callSi (na := 1) (As := [.int (hereF L T (a3))]) (rest := []) Bx hml E.2.1 (m_Mo_beginsX l (hereF L T (a3))) kw_811 kw_812 kw_8 kw_813 (by decide +kernel) ⟨rfl, rfl⟩ ⟨Nat.le_of_ble_eq_true rfl, Nat.le_of_ble_eq_true rfl⟩ rfl hl.1 (Nat.le_of_ble_eq_true rfl) d_Mo_enter_8 ⟨Nat.le_of_ble_eq_true rfl, Nat.le_of_ble_eq_true rfl⟩ (fun r20 hs19 => ?_)
  subst hs19
  refine lv_if_ne Bx.1 Bx.2.1 d_Mo_enter_11 rfl (fun hb21 => ?_) (fun hb21 => ?_)
  · refine lv_aload_n Bx.1 Bx.2.1 d_Mo_enter_24 rfl (lv_at hl 0 rfl) ?_
    refine f_get Bx hP (by omega) hW6.1 rfl inMo 19 (by decide) kw_675 rfl rfl d_Mo_enter_25 ?_
    refine lv_aload_n Bx.1 Bx.2.1 d_Mo_enter_28 rfl (lv_at hl 0 rfl) ?_
    refine f_get Bx hP (by omega) hW6.1 rfl inMo 18 (by decide) kw_674 rfl rfl d_Mo_enter_29 ?_
    rw [kk15]
    refine lv_iload_n Bx.1 Bx.2.1 d_Mo_enter_32 rfl (lv_at hl 1 rfl) ?_
    refine f_iast (x := 0) (i := nI (0)) Bx hP hD hS (by omega) (show mem2 235 = .inl (cy 1, 8, .inl (A 235)) from hW6.2.2.1 235 (by decide) (by decide) (by decide)) (vp_in_nI (n := 0) (by omega) (by decide)) d_Mo_enter_33 (fun H locs hP hS => ?_)
    rw [nI_clamp (n := 0) (by omega)] at hP
    obtain ⟨A22, eA22⟩ : ∃ z, z = va_up A 235 (upd (A 235) (0) (0)) := ⟨_, rfl⟩
    obtain ⟨mem23, e_mem23⟩ : ∃ z, z = va_up mem2 235 (.inl (cy 1, 8, .inl (upd (A 235) (0) (0)))) := ⟨_, rfl⟩
    have hP : va_P D vcl (fw n ad mem23) H := by rw [e_mem23]; exact hP
    have hD : va_D (Az sz) (fw n ad mem23) := fw_D hD
    have hW24 : MW cy ad J7 A22 nm m0 mem23 := by rw [e_mem23, eA22]; exact hW6.upA (j := 235) (by decide) (by decide) (by decide) (Or.inl (by decide))
    have tT25 : A22 225 = T := by rw [eA22]; exact hT
    refine lv_aload_n Bx.1 Bx.2.1 d_Mo_enter_34 rfl (lv_at hl 0 rfl) ?_
    refine f_get Bx hP (by omega) hW24.1 rfl inMo 20 (by decide) kw_676 rfl rfl d_Mo_enter_35 ?_
    refine lv_aload_n Bx.1 Bx.2.1 d_Mo_enter_38 rfl (lv_at hl 0 rfl) ?_
    refine f_get Bx hP (by omega) hW24.1 rfl inMo 18 (by decide) kw_674 rfl rfl d_Mo_enter_39 ?_
    rw [kk15]
    refine lv_iload_n Bx.1 Bx.2.1 d_Mo_enter_42 rfl (lv_at hl 2 rfl) ?_
    refine f_iast (x := nI r0) (i := nI (0)) Bx hP hD hS (by omega) (show mem23 236 = .inl (cy 1, 8, .inl (A22 236)) from hW24.2.2.1 236 (by decide) (by decide) (by decide)) (vp_in_nI (n := 0) (by omega) (by decide)) d_Mo_enter_43 (fun H locs hP hS => ?_)
    rw [nI_clamp (n := 0) (by omega)] at hP
    obtain ⟨A26, eA26⟩ : ∃ z, z = va_up A22 236 (upd (A22 236) (0) (nI r0)) := ⟨_, rfl⟩
    obtain ⟨mem27, e_mem27⟩ : ∃ z, z = va_up mem23 236 (.inl (cy 1, 8, .inl (upd (A22 236) (0) (nI r0)))) := ⟨_, rfl⟩
    have hP : va_P D vcl (fw n ad mem27) H := by rw [e_mem27]; exact hP
    have hD : va_D (Az sz) (fw n ad mem27) := fw_D hD
    have hW28 : MW cy ad J7 A26 nm m0 mem27 := by rw [e_mem27, eA26]; exact hW24.upA (j := 236) (by decide) (by decide) (by decide) (Or.inl (by decide))
    have tT29 : A26 225 = T := by rw [eA26]; exact tT25
    refine lv_aload_n Bx.1 Bx.2.1 d_Mo_enter_44 rfl (lv_at hl 0 rfl) ?_
    refine f_get Bx hP (by omega) hW28.1 rfl inMo 23 (by decide) kw_679 rfl rfl d_Mo_enter_45 ?_
    refine lv_aload_n Bx.1 Bx.2.1 d_Mo_enter_48 rfl (lv_at hl 0 rfl) ?_
    refine f_get Bx hP (by omega) hW28.1 rfl inMo 18 (by decide) kw_674 rfl rfl d_Mo_enter_49 ?_
    rw [kk15]
    refine lv_iconst (v := -1) Bx.1 Bx.2.1 d_Mo_enter_52 (by decide) ?_
    refine f_iast (x := (-1)) (i := nI (0)) Bx hP hD hS (by omega) (show mem27 239 = .inl (cy 1, 8, .inl (A26 239)) from hW28.2.2.1 239 (by decide) (by decide) (by decide)) (vp_in_nI (n := 0) (by omega) (by decide)) d_Mo_enter_53 (fun H locs hP hS => ?_)
    rw [nI_clamp (n := 0) (by omega)] at hP
    obtain ⟨A30, eA30⟩ : ∃ z, z = va_up A26 239 (upd (A26 239) (0) ((-1))) := ⟨_, rfl⟩
    obtain ⟨mem31, e_mem31⟩ : ∃ z, z = va_up mem27 239 (.inl (cy 1, 8, .inl (upd (A26 239) (0) ((-1))))) := ⟨_, rfl⟩
    have hP : va_P D vcl (fw n ad mem31) H := by rw [e_mem31]; exact hP
    have hD : va_D (Az sz) (fw n ad mem31) := fw_D hD
    have hW32 : MW cy ad J7 A30 nm m0 mem31 := by rw [e_mem31, eA30]; exact hW28.upA (j := 239) (by decide) (by decide) (by decide) (Or.inl (by decide))
    have tT33 : A30 225 = T := by rw [eA30]; exact tT29
    refine lv_aload_n Bx.1 Bx.2.1 d_Mo_enter_54 rfl (lv_at hl 0 rfl) ?_
    refine f_get Bx hP (by omega) hW32.1 rfl inMo 21 (by decide) kw_677 rfl rfl d_Mo_enter_55 ?_
    refine lv_aload_n Bx.1 Bx.2.1 d_Mo_enter_58 rfl (lv_at hl 0 rfl) ?_
    refine f_get Bx hP (by omega) hW32.1 rfl inMo 18 (by decide) kw_674 rfl rfl d_Mo_enter_59 ?_
    rw [kk15]
    refine lv_aload_n Bx.1 Bx.2.1 d_Mo_enter_62 rfl (lv_at hl 0 rfl) ?_
    refine lv_iconst (v := 0) Bx.1 Bx.2.1 d_Mo_enter_63 (by decide) ?_
    refine lv_aload_n Bx.1 Bx.2.1 d_Mo_enter_64 rfl (lv_at hl 0 rfl) ?_
    refine f_get Bx hP (by omega) hW32.1 rfl inMo 16 (by decide) kw_672 rfl rfl d_Mo_enter_65 ?_
    rw [kk16]
    refine f_callVi (na := 2) (As := [.int (0), .int (nI a3)]) (rest := [.int (nI 0), .ref (ad 237)]) Bx hml E hP hD hS (by omega) hW32.1 rfl (m_Mo_elementX l hn hW32 (Or.inl kk11) kk14 (by omega)) kw_814 kw_816 sel_Mo_element kw_8 kw_817 (by decide +kernel) ⟨rfl, rfl⟩ ⟨Nat.le_of_ble_eq_true rfl, Nat.le_of_ble_eq_true rfl⟩ rfl hl.1 (Nat.le_of_ble_eq_true rfl) d_Mo_enter_68 ⟨Nat.le_of_ble_eq_true rfl, Nat.le_of_ble_eq_true rfl⟩ (fun r34 mem35 H locs hq hP hS => ?_)
    have hD : va_D (Az sz) (fw n ad mem35) := fw_D hD
    rcases hq with ⟨hE43, hre44, J36, hW37, hwr38⟩ | ⟨hEl39, hre45, hW42⟩
    · subst hre44
      have kk46 : J36 1 = nI L := (show J36 1 = J7 1 from hwr38.2 1 (by decide) (by decide)).trans kk9
      have kk47 : J36 24 = nI G := (show J36 24 = J7 24 from hwr38.2 24 (by decide) (by decide)).trans kk10
      have kk48 : J36 14 = nI u := (show J36 14 = J7 14 from hwr38.2 14 (by decide) (by decide)).trans kk12
      have kk49 : J36 4 = nI R := (show J36 4 = J7 4 from hwr38.2 4 (by decide) (by decide)).trans kk13
      have kk50 : J36 7 = nI Ec := (show J36 7 = J7 7 from hwr38.2 7 (by decide) (by decide)).trans kk14
      have kk51 : J36 18 = nI 0 := (show J36 18 = J7 18 from hwr38.2 18 (by decide) (by decide)).trans kk15
      have kk52 : J36 16 = nI a3 := (show J36 16 = J7 16 from hwr38.2 16 (by decide) (by decide)).trans kk16
      refine f_iast (x := 0) (i := nI (0)) Bx hP hD hS (by omega) (show mem35 237 = .inl (cy 1, 8, .inl (A30 237)) from hW37.2.2.1 237 (by decide) (by decide) (by decide)) (vp_in_nI (n := 0) (by omega) (by decide)) d_Mo_enter_71 (fun H locs hP hS => ?_)
      rw [nI_clamp (n := 0) (by omega)] at hP
      obtain ⟨A53, eA53⟩ : ∃ z, z = va_up A30 237 (upd (A30 237) (0) (0)) := ⟨_, rfl⟩
      obtain ⟨mem54, e_mem54⟩ : ∃ z, z = va_up mem35 237 (.inl (cy 1, 8, .inl (upd (A30 237) (0) (0)))) := ⟨_, rfl⟩
      have hP : va_P D vcl (fw n ad mem54) H := by rw [e_mem54]; exact hP
      have hD : va_D (Az sz) (fw n ad mem54) := fw_D hD
      have hW55 : MW cy ad J36 A53 nm m0 mem54 := by rw [e_mem54, eA53]; exact hW37.upA (j := 237) (by decide) (by decide) (by decide) (Or.inl (by decide))
      have tT56 : A53 225 = T := by rw [eA53]; exact tT33
      refine lv_aload_n Bx.1 Bx.2.1 d_Mo_enter_72 rfl (lv_at hl 0 rfl) ?_
      refine lv_dup Bx.1 Bx.2.1 d_Mo_enter_73 rfl ?_
      refine f_get Bx hP (by omega) hW55.1 rfl inMo 18 (by decide) kw_674 rfl rfl d_Mo_enter_74 ?_
      rw [kk51]
      refine lv_iconst (v := 1) Bx.1 Bx.2.1 d_Mo_enter_77 (by decide) ?_
      refine lv_iadd Bx.1 Bx.2.1 d_Mo_enter_78 ?_
      rw [show nI 0 + 1 = nI (1) from nI_add (0) (1)]
      refine f_put Bx hP hD hS (by omega) hW55.1 rfl inMo tyMo okMo nmMo 18 (by decide) kw_674 rfl rfl rfl rfl (Nat.le_of_ble_eq_true rfl) d_Mo_enter_79 (fun H locs hP hS => ?_)
      obtain ⟨J57, eJ57⟩ : ∃ z, z = va_up J36 18 (nI (1)) := ⟨_, rfl⟩
      obtain ⟨mem58, e_mem58⟩ : ∃ z, z = va_up mem54 224 (moC ad J57) := ⟨_, rfl⟩
      have hP : va_P D vcl (fw n ad mem58) H := by rw [e_mem58, eJ57]; exact hP
      have hD : va_D (Az sz) (fw n ad mem58) := fw_D hD
      have hW59 : MW cy ad J57 A53 nm m0 mem58 := by rw [e_mem58]; exact hW55.upJ (by rw [eJ57]; exact va_up_ne _ _ (by decide))
      have kk60 : J57 1 = nI L := by rw [eJ57]; exact kk46
      have kk61 : J57 24 = nI G := by rw [eJ57]; exact kk47
      have kk62 : J57 14 = nI u := by rw [eJ57]; exact kk48
      have kk63 : J57 4 = nI R := by rw [eJ57]; exact kk49
      have kk64 : J57 7 = nI Ec := by rw [eJ57]; exact kk50
      have kk65 : J57 16 = nI a3 := by rw [eJ57]; exact kk52
      have kk66 : J57 18 = nI (1) := by rw [eJ57, va_up_self]
      have bd67 : b12 (J57 17) := by rw [eJ57]; exact hwr38.1
      refine lv_aload_n Bx.1 Bx.2.1 d_Mo_enter_82 rfl (lv_at hl 0 rfl) ?_
      refine f_get Bx hP (by omega) hW59.1 rfl inMo 17 (by decide) kw_673 rfl rfl d_Mo_enter_83 ?_
      refine lv_if_ne Bx.1 Bx.2.1 d_Mo_enter_86 rfl (fun hb68 => ?_) (fun hb68 => ?_)
      · refine lv_aload_n Bx.1 Bx.2.1 d_Mo_enter_119 rfl (lv_at hl 0 rfl) ?_
        refine f_get Bx hP (by omega) hW59.1 rfl inMo 17 (by decide) kw_673 rfl rfl d_Mo_enter_120 ?_
        refine lv_if_ne Bx.1 Bx.2.1 d_Mo_enter_123 rfl (fun hb69 => ?_) (fun hb69 => ?_)
        · refine lv_aload_n Bx.1 Bx.2.1 d_Mo_enter_147 rfl (lv_at hl 0 rfl) ?_
          refine lv_iconst (v := 1) Bx.1 Bx.2.1 d_Mo_enter_148 (by decide) ?_
          refine f_put Bx hP hD hS (by omega) hW59.1 rfl inMo tyMo okMo nmMo 28 (by decide) kw_684 rfl rfl rfl rfl (Nat.le_of_ble_eq_true rfl) d_Mo_enter_149 (fun H locs hP hS => ?_)
          obtain ⟨J70, eJ70⟩ : ∃ z, z = va_up J57 28 (1) := ⟨_, rfl⟩
          obtain ⟨mem71, e_mem71⟩ : ∃ z, z = va_up mem58 224 (moC ad J70) := ⟨_, rfl⟩
          have hP : va_P D vcl (fw n ad mem71) H := by rw [e_mem71, eJ70]; exact hP
          have hD : va_D (Az sz) (fw n ad mem71) := fw_D hD
          have hW72 : MW cy ad J70 A53 nm m0 mem71 := by rw [e_mem71]; exact hW59.upJ (by rw [eJ70]; exact va_up_ne _ _ (by decide))
          have kk73 : J70 1 = nI L := by rw [eJ70]; exact kk60
          have kk74 : J70 24 = nI G := by rw [eJ70]; exact kk61
          have kk75 : J70 14 = nI u := by rw [eJ70]; exact kk62
          have kk76 : J70 4 = nI R := by rw [eJ70]; exact kk63
          have kk77 : J70 7 = nI Ec := by rw [eJ70]; exact kk64
          have kk78 : J70 16 = nI a3 := by rw [eJ70]; exact kk65
          have kk79 : J70 18 = nI (1) := by rw [eJ70]; exact kk66
          have kk80 : J70 28 = 1 := by rw [eJ70, va_up_self]
          have bd81 : b12 (J70 17) := by rw [eJ70]; exact bd67
          exact W.vret hx hb hr (fun t ht hW => ⟨⟨mem71, rfl, ⟨J70, A53, nm, hW72, Or.inl ⟨⟨kk73, kk74, tT56, bd81, _, by omega, kk78⟩, ent0S_no (Or.inr hE43)⟩⟩, by show va_P _ _ _ t.heap; rw [ht]; exact hP⟩, hS.F ht⟩) hS.2.2 d_Mo_enter_152
        · exact absurd hb69 bd67.ne
      · exact absurd hb68 bd67.ne
    · subst hre45
      obtain ⟨J40, eJ40⟩ : ∃ z, z = va_up J7 7 (nI (Ec + 1)) := ⟨_, rfl⟩
      obtain ⟨A41, eA41⟩ : ∃ z, z = elA A30 (Ec) 0 := ⟨_, rfl⟩
      rw [← eJ40, ← eA41] at hW42
      have kk82 : J40 1 = nI L := (show J40 1 = J7 1 from by rw [eJ40]; rfl).trans kk9
      have kk83 : J40 24 = nI G := (show J40 24 = J7 24 from by rw [eJ40]; rfl).trans kk10
      have kk84 : J40 17 = 0 := (show J40 17 = J7 17 from by rw [eJ40]; rfl).trans kk11
      have kk85 : J40 14 = nI u := (show J40 14 = J7 14 from by rw [eJ40]; rfl).trans kk12
      have kk86 : J40 4 = nI R := (show J40 4 = J7 4 from by rw [eJ40]; rfl).trans kk13
      have kk87 : J40 18 = nI 0 := (show J40 18 = J7 18 from by rw [eJ40]; rfl).trans kk15
      have kk88 : J40 16 = nI a3 := (show J40 16 = J7 16 from by rw [eJ40]; rfl).trans kk16
      have kk89 : J40 7 = nI (Ec + 1) := by rw [eJ40, va_up_self]
      have tT90 : A41 225 = T := by rw [eA41]; exact tT33
      refine f_iast (x := nI Ec) (i := nI (0)) Bx hP hD hS (by omega) (show mem35 237 = .inl (cy 1, 8, .inl (A41 237)) from hW42.2.2.1 237 (by decide) (by decide) (by decide)) (vp_in_nI (n := 0) (by omega) (by decide)) d_Mo_enter_71 (fun H locs hP hS => ?_)
      rw [nI_clamp (n := 0) (by omega)] at hP
      obtain ⟨A91, eA91⟩ : ∃ z, z = va_up A41 237 (upd (A41 237) (0) (nI Ec)) := ⟨_, rfl⟩
      obtain ⟨mem92, e_mem92⟩ : ∃ z, z = va_up mem35 237 (.inl (cy 1, 8, .inl (upd (A41 237) (0) (nI Ec)))) := ⟨_, rfl⟩
      have hP : va_P D vcl (fw n ad mem92) H := by rw [e_mem92]; exact hP
      have hD : va_D (Az sz) (fw n ad mem92) := fw_D hD
      have hW93 : MW cy ad J40 A91 nm m0 mem92 := by rw [e_mem92, eA91]; exact hW42.upA (j := 237) (by decide) (by decide) (by decide) (Or.inl (by decide))
      have tT94 : A91 225 = T := by rw [eA91]; exact tT90
      refine lv_aload_n Bx.1 Bx.2.1 d_Mo_enter_72 rfl (lv_at hl 0 rfl) ?_
      refine lv_dup Bx.1 Bx.2.1 d_Mo_enter_73 rfl ?_
      refine f_get Bx hP (by omega) hW93.1 rfl inMo 18 (by decide) kw_674 rfl rfl d_Mo_enter_74 ?_
      rw [kk87]
      refine lv_iconst (v := 1) Bx.1 Bx.2.1 d_Mo_enter_77 (by decide) ?_
      refine lv_iadd Bx.1 Bx.2.1 d_Mo_enter_78 ?_
      rw [show nI 0 + 1 = nI (1) from nI_add (0) (1)]
      refine f_put Bx hP hD hS (by omega) hW93.1 rfl inMo tyMo okMo nmMo 18 (by decide) kw_674 rfl rfl rfl rfl (Nat.le_of_ble_eq_true rfl) d_Mo_enter_79 (fun H locs hP hS => ?_)
      obtain ⟨J95, eJ95⟩ : ∃ z, z = va_up J40 18 (nI (1)) := ⟨_, rfl⟩
      obtain ⟨mem96, e_mem96⟩ : ∃ z, z = va_up mem92 224 (moC ad J95) := ⟨_, rfl⟩
      have hP : va_P D vcl (fw n ad mem96) H := by rw [e_mem96, eJ95]; exact hP
      have hD : va_D (Az sz) (fw n ad mem96) := fw_D hD
      have hW97 : MW cy ad J95 A91 nm m0 mem96 := by rw [e_mem96]; exact hW93.upJ (by rw [eJ95]; exact va_up_ne _ _ (by decide))
      have kk98 : J95 1 = nI L := by rw [eJ95]; exact kk82
      have kk99 : J95 24 = nI G := by rw [eJ95]; exact kk83
      have kk100 : J95 17 = 0 := by rw [eJ95]; exact kk84
      have kk101 : J95 14 = nI u := by rw [eJ95]; exact kk85
      have kk102 : J95 4 = nI R := by rw [eJ95]; exact kk86
      have kk103 : J95 16 = nI a3 := by rw [eJ95]; exact kk88
      have kk104 : J95 7 = nI (Ec + 1) := by rw [eJ95]; exact kk89
      have kk105 : J95 18 = nI (1) := by rw [eJ95, va_up_self]
      refine lv_aload_n Bx.1 Bx.2.1 d_Mo_enter_82 rfl (lv_at hl 0 rfl) ?_
      refine f_get Bx hP (by omega) hW97.1 rfl inMo 17 (by decide) kw_673 rfl rfl d_Mo_enter_83 ?_
      rw [kk100]
      refine lv_if_ne Bx.1 Bx.2.1 d_Mo_enter_86 rfl (fun hb106 => ?_) (fun hb106 => ?_)
      · exact absurd hb106 (by decide)
      · refine lv_iload_n Bx.1 Bx.2.1 d_Mo_enter_89 rfl (lv_at hl 1 rfl) ?_
        refine lv_if_ne Bx.1 Bx.2.1 d_Mo_enter_90 rfl (fun hb107 => ?_) (fun hb107 => ?_)
        · exact absurd hb107 (by decide)
        · refine lv_aload_n Bx.1 Bx.2.1 d_Mo_enter_93 rfl (lv_at hl 0 rfl) ?_
          refine f_get Bx hP (by omega) hW97.1 rfl inMo 6 (by decide) kw_662 rfl rfl d_Mo_enter_94 ?_
          refine lv_iload_n Bx.1 Bx.2.1 d_Mo_enter_97 rfl (lv_at hl 2 rfl) ?_
          refine f_iald Bx hP (by omega) (show mem96 227 = .inl (cy 1, 12, .inl (A91 227)) from hW97.2.2.1 227 (by decide) (by decide) (by decide)) (vp_in_nI (n := r0) (by omega) (by decide)) d_Mo_enter_98 ?_
          rw [nI_clamp (n := r0) (by omega)]
          have htops : A91 227 (r0) = A 227 r0 := by simp [eA22, eA26, eA30, eA41, eA91, elA, va_up]
          rw [htops]
          rcases (hG.2.1 r0 hr0) with hv | ⟨j, hj, hv⟩
          · rw [hv]
            refine lv_if_lt Bx.1 Bx.2.1 d_Mo_enter_99 rfl (fun hb108 => ?_) (fun hb108 => ?_)
            · refine lv_aload_n Bx.1 Bx.2.1 d_Mo_enter_119 rfl (lv_at hl 0 rfl) ?_
              refine f_get Bx hP (by omega) hW97.1 rfl inMo 17 (by decide) kw_673 rfl rfl d_Mo_enter_120 ?_
              rw [kk100]
              refine lv_if_ne Bx.1 Bx.2.1 d_Mo_enter_123 rfl (fun hb109 => ?_) (fun hb109 => ?_)
              · exact absurd hb109 (by decide)
              · refine lv_iload_n Bx.1 Bx.2.1 d_Mo_enter_126 rfl (lv_at hl 1 rfl) ?_
                refine lv_if_ne Bx.1 Bx.2.1 d_Mo_enter_127 rfl (fun hb110 => ?_) (fun hb110 => ?_)
                · exact absurd hb110 (by decide)
                · refine lv_aload_n Bx.1 Bx.2.1 d_Mo_enter_130 rfl (lv_at hl 0 rfl) ?_
                  refine f_get Bx hP (by omega) hW97.1 rfl inMo 6 (by decide) kw_662 rfl rfl d_Mo_enter_131 ?_
                  refine lv_iload_n Bx.1 Bx.2.1 d_Mo_enter_134 rfl (lv_at hl 2 rfl) ?_
                  refine lv_aload_n Bx.1 Bx.2.1 d_Mo_enter_135 rfl (lv_at hl 0 rfl) ?_
                  refine f_get Bx hP (by omega) hW97.1 rfl inMo 21 (by decide) kw_677 rfl rfl d_Mo_enter_136 ?_
                  refine lv_aload_n Bx.1 Bx.2.1 d_Mo_enter_139 rfl (lv_at hl 0 rfl) ?_
                  refine f_get Bx hP (by omega) hW97.1 rfl inMo 18 (by decide) kw_674 rfl rfl d_Mo_enter_140 ?_
                  rw [kk105]
                  refine lv_iconst (v := 1) Bx.1 Bx.2.1 d_Mo_enter_143 (by decide) ?_
                  refine lv_isub Bx.1 Bx.2.1 d_Mo_enter_144 ?_
                  rw [show nI (1) - 1 = nI (0) from nI_pred (0)]
                  refine f_iald Bx hP (by omega) (show mem96 237 = .inl (cy 1, 8, .inl (A91 237)) from hW97.2.2.1 237 (by decide) (by decide) (by decide)) (vp_in_nI (n := 0) (by omega) (by decide)) d_Mo_enter_145 ?_
                  rw [nI_clamp (n := 0) (by omega)]
                  have hcc9 : A91 237 (0) = nI Ec := by simp [eA22, eA26, eA30, eA41, eA91, elA, va_up, upd]
                  refine f_iast (x := A91 237 (0)) (i := nI (r0)) Bx hP hD hS (by omega) (show mem96 227 = .inl (cy 1, 12, .inl (A91 227)) from hW97.2.2.1 227 (by decide) (by decide) (by decide)) (vp_in_nI (n := r0) (by omega) (by decide)) d_Mo_enter_146 (fun H locs hP hS => ?_)
                  rw [nI_clamp (n := r0) (by omega)] at hP
                  obtain ⟨A111, eA111⟩ : ∃ z, z = va_up A91 227 (upd (A91 227) (r0) (A91 237 (0))) := ⟨_, rfl⟩
                  obtain ⟨mem112, e_mem112⟩ : ∃ z, z = va_up mem96 227 (.inl (cy 1, 12, .inl (upd (A91 227) (r0) (A91 237 (0))))) := ⟨_, rfl⟩
                  have hP : va_P D vcl (fw n ad mem112) H := by rw [e_mem112]; exact hP
                  have hD : va_D (Az sz) (fw n ad mem112) := fw_D hD
                  have hW113 : MW cy ad J95 A111 nm m0 mem112 := by rw [e_mem112, eA111]; exact hW97.upA (j := 227) (by decide) (by decide) (by decide) (Or.inl (by decide))
                  have tT114 : A111 225 = T := by rw [eA111]; exact tT94
                  refine lv_aload_n Bx.1 Bx.2.1 d_Mo_enter_147 rfl (lv_at hl 0 rfl) ?_
                  refine lv_iconst (v := 1) Bx.1 Bx.2.1 d_Mo_enter_148 (by decide) ?_
                  refine f_put Bx hP hD hS (by omega) hW113.1 rfl inMo tyMo okMo nmMo 28 (by decide) kw_684 rfl rfl rfl rfl (Nat.le_of_ble_eq_true rfl) d_Mo_enter_149 (fun H locs hP hS => ?_)
                  obtain ⟨J115, eJ115⟩ : ∃ z, z = va_up J95 28 (1) := ⟨_, rfl⟩
                  obtain ⟨mem116, e_mem116⟩ : ∃ z, z = va_up mem112 224 (moC ad J115) := ⟨_, rfl⟩
                  have hP : va_P D vcl (fw n ad mem116) H := by rw [e_mem116, eJ115]; exact hP
                  have hD : va_D (Az sz) (fw n ad mem116) := fw_D hD
                  have hW117 : MW cy ad J115 A111 nm m0 mem116 := by rw [e_mem116]; exact hW113.upJ (by rw [eJ115]; exact va_up_ne _ _ (by decide))
                  have kk118 : J115 1 = nI L := by rw [eJ115]; exact kk98
                  have kk119 : J115 24 = nI G := by rw [eJ115]; exact kk99
                  have kk120 : J115 17 = 0 := by rw [eJ115]; exact kk100
                  have kk121 : J115 14 = nI u := by rw [eJ115]; exact kk101
                  have kk122 : J115 4 = nI R := by rw [eJ115]; exact kk102
                  have kk123 : J115 16 = nI a3 := by rw [eJ115]; exact kk103
                  have kk124 : J115 7 = nI (Ec + 1) := by rw [eJ115]; exact kk104
                  have kk125 : J115 18 = nI (1) := by rw [eJ115]; exact kk105
                  have kk126 : J115 28 = 1 := by rw [eJ115, va_up_self]
                  have hpu := hG.push (A' := A111) (r := r0) (cc := Ec) hr0 (by omega) (fun j h1 h2 h3 k hk => by
                      have hj : j = 228 ∨ j = 229 ∨ j = 230 ∨ j = 232 ∨ j = 233 := by omega
                      rcases hj with rfl | rfl | rfl | rfl | rfl <;> simp [eA22, eA26, eA30, eA41, eA91, eA111, elA, va_up, upd, Nat.ne_of_lt hk]) (by simp [eA22, eA26, eA30, eA41, eA91, eA111, elA, va_up, upd]) (by simp [eA22, eA26, eA30, eA41, eA91, eA111, elA, va_up, upd]) (by simp [eA22, eA26, eA30, eA41, eA91, eA111, elA, va_up, upd]) (by rw [eA111, va_up_self, hcc9]; simp [eA22, eA26, eA30, eA41, eA91, eA111, elA, va_up]) (by simp [eA22, eA26, eA30, eA41, eA91, eA111, elA, va_up, upd]) (by simp [eA22, eA26, eA30, eA41, eA91, eA111, elA, va_up, upd]) (by simp [eA22, eA26, eA30, eA41, eA91, eA111, elA, va_up, upd])
                  have hk18 : J115 18 = nI (0 + 1) := kk125
                  exact W.vret hx hb hr (fun t ht hW => ⟨⟨mem116, rfl, ⟨J115, A111, nm, hW117, Or.inr ⟨a3, u, R, Ec + 1, 0, true, by omega, by rw [ent0S_ok (show bgF (hereF L T (gapF T L a)) = true by rw [← ea8]; exact bg_1 hb21) hEl39 hv, ← ea8, eA111, eA91, eA41, eA30, eA26, eA22]; rfl, ⟨kk118, kk119, kk123, kk120, kk121, kk122, kk124, hk18⟩, ⟨by omega, by omega, by omega, by omega, by omega, by omega⟩, tT114, kk126, _, _, _, Inv.qF (by rw [kk126]; decide) hpu, by simp [eA22, eA26, eA30, eA41, eA91, eA111, elA, va_up, upd]⟩⟩, by show va_P _ _ _ t.heap; rw [ht]; exact hP⟩, hS.F ht⟩) hS.2.2 d_Mo_enter_152
            · exact absurd hb108 (by decide)
          · rw [hv]
            refine lv_if_lt Bx.1 Bx.2.1 d_Mo_enter_99 rfl (fun hb127 => ?_) (fun hb127 => ?_)
            · exact absurd hb127 (by first | exact nI_pos (by omega) | exact fun q9 => q9 (nI_pos' (by omega)))
            · refine lv_aload_n Bx.1 Bx.2.1 d_Mo_enter_102 rfl (lv_at hl 0 rfl) ?_
              refine f_get Bx hP (by omega) hW97.1 rfl inMo 21 (by decide) kw_677 rfl rfl d_Mo_enter_103 ?_
              refine lv_aload_n Bx.1 Bx.2.1 d_Mo_enter_106 rfl (lv_at hl 0 rfl) ?_
              refine f_get Bx hP (by omega) hW97.1 rfl inMo 18 (by decide) kw_674 rfl rfl d_Mo_enter_107 ?_
              rw [kk105]
              refine lv_iconst (v := 1) Bx.1 Bx.2.1 d_Mo_enter_110 (by decide) ?_
              refine lv_isub Bx.1 Bx.2.1 d_Mo_enter_111 ?_
              rw [show nI (1) - 1 = nI (0) from nI_pred (0)]
              refine lv_aload_n Bx.1 Bx.2.1 d_Mo_enter_112 rfl (lv_at hl 0 rfl) ?_
              refine f_get Bx hP (by omega) hW97.1 rfl inMo 6 (by decide) kw_662 rfl rfl d_Mo_enter_113 ?_
              refine lv_iload_n Bx.1 Bx.2.1 d_Mo_enter_116 rfl (lv_at hl 2 rfl) ?_
              refine f_iald Bx hP (by omega) (show mem96 227 = .inl (cy 1, 12, .inl (A91 227)) from hW97.2.2.1 227 (by decide) (by decide) (by decide)) (vp_in_nI (n := r0) (by omega) (by decide)) d_Mo_enter_117 ?_
              rw [nI_clamp (n := r0) (by omega)]
              rw [show A91 227 (r0) = nI j by rw [show A91 227 (r0) = A 227 r0 by simp [eA22, eA26, eA30, eA41, eA91, elA, va_up]]; exact hv]
              refine f_iast (x := nI j) (i := nI (0)) Bx hP hD hS (by omega) (show mem96 237 = .inl (cy 1, 8, .inl (A91 237)) from hW97.2.2.1 237 (by decide) (by decide) (by decide)) (vp_in_nI (n := 0) (by omega) (by decide)) d_Mo_enter_118 (fun H locs hP hS => ?_)
              rw [nI_clamp (n := 0) (by omega)] at hP
              obtain ⟨A128, eA128⟩ : ∃ z, z = va_up A91 237 (upd (A91 237) (0) (nI j)) := ⟨_, rfl⟩
              obtain ⟨mem129, e_mem129⟩ : ∃ z, z = va_up mem96 237 (.inl (cy 1, 8, .inl (upd (A91 237) (0) (nI j)))) := ⟨_, rfl⟩
              have hP : va_P D vcl (fw n ad mem129) H := by rw [e_mem129]; exact hP
              have hD : va_D (Az sz) (fw n ad mem129) := fw_D hD
              have hW130 : MW cy ad J95 A128 nm m0 mem129 := by rw [e_mem129, eA128]; exact hW97.upA (j := 237) (by decide) (by decide) (by decide) (Or.inl (by decide))
              have tT131 : A128 225 = T := by rw [eA128]; exact tT94
              refine lv_aload_n Bx.1 Bx.2.1 d_Mo_enter_119 rfl (lv_at hl 0 rfl) ?_
              refine f_get Bx hP (by omega) hW130.1 rfl inMo 17 (by decide) kw_673 rfl rfl d_Mo_enter_120 ?_
              rw [kk100]
              refine lv_if_ne Bx.1 Bx.2.1 d_Mo_enter_123 rfl (fun hb132 => ?_) (fun hb132 => ?_)
              · exact absurd hb132 (by decide)
              · refine lv_iload_n Bx.1 Bx.2.1 d_Mo_enter_126 rfl (lv_at hl 1 rfl) ?_
                refine lv_if_ne Bx.1 Bx.2.1 d_Mo_enter_127 rfl (fun hb133 => ?_) (fun hb133 => ?_)
                · exact absurd hb133 (by decide)
                · refine lv_aload_n Bx.1 Bx.2.1 d_Mo_enter_130 rfl (lv_at hl 0 rfl) ?_
                  refine f_get Bx hP (by omega) hW130.1 rfl inMo 6 (by decide) kw_662 rfl rfl d_Mo_enter_131 ?_
                  refine lv_iload_n Bx.1 Bx.2.1 d_Mo_enter_134 rfl (lv_at hl 2 rfl) ?_
                  refine lv_aload_n Bx.1 Bx.2.1 d_Mo_enter_135 rfl (lv_at hl 0 rfl) ?_
                  refine f_get Bx hP (by omega) hW130.1 rfl inMo 21 (by decide) kw_677 rfl rfl d_Mo_enter_136 ?_
                  refine lv_aload_n Bx.1 Bx.2.1 d_Mo_enter_139 rfl (lv_at hl 0 rfl) ?_
                  refine f_get Bx hP (by omega) hW130.1 rfl inMo 18 (by decide) kw_674 rfl rfl d_Mo_enter_140 ?_
                  rw [kk105]
                  refine lv_iconst (v := 1) Bx.1 Bx.2.1 d_Mo_enter_143 (by decide) ?_
                  refine lv_isub Bx.1 Bx.2.1 d_Mo_enter_144 ?_
                  rw [show nI (1) - 1 = nI (0) from nI_pred (0)]
                  refine f_iald Bx hP (by omega) (show mem129 237 = .inl (cy 1, 8, .inl (A128 237)) from hW130.2.2.1 237 (by decide) (by decide) (by decide)) (vp_in_nI (n := 0) (by omega) (by decide)) d_Mo_enter_145 ?_
                  rw [nI_clamp (n := 0) (by omega)]
                  have hcc9 : A128 237 (0) = nI j := by simp [eA22, eA26, eA30, eA41, eA91, eA128, elA, va_up, upd, hv]
                  refine f_iast (x := A128 237 (0)) (i := nI (r0)) Bx hP hD hS (by omega) (show mem129 227 = .inl (cy 1, 12, .inl (A128 227)) from hW130.2.2.1 227 (by decide) (by decide) (by decide)) (vp_in_nI (n := r0) (by omega) (by decide)) d_Mo_enter_146 (fun H locs hP hS => ?_)
                  rw [nI_clamp (n := r0) (by omega)] at hP
                  obtain ⟨A134, eA134⟩ : ∃ z, z = va_up A128 227 (upd (A128 227) (r0) (A128 237 (0))) := ⟨_, rfl⟩
                  obtain ⟨mem135, e_mem135⟩ : ∃ z, z = va_up mem129 227 (.inl (cy 1, 12, .inl (upd (A128 227) (r0) (A128 237 (0))))) := ⟨_, rfl⟩
                  have hP : va_P D vcl (fw n ad mem135) H := by rw [e_mem135]; exact hP
                  have hD : va_D (Az sz) (fw n ad mem135) := fw_D hD
                  have hW136 : MW cy ad J95 A134 nm m0 mem135 := by rw [e_mem135, eA134]; exact hW130.upA (j := 227) (by decide) (by decide) (by decide) (Or.inl (by decide))
                  have tT137 : A134 225 = T := by rw [eA134]; exact tT131
                  refine lv_aload_n Bx.1 Bx.2.1 d_Mo_enter_147 rfl (lv_at hl 0 rfl) ?_
                  refine lv_iconst (v := 1) Bx.1 Bx.2.1 d_Mo_enter_148 (by decide) ?_
                  refine f_put Bx hP hD hS (by omega) hW136.1 rfl inMo tyMo okMo nmMo 28 (by decide) kw_684 rfl rfl rfl rfl (Nat.le_of_ble_eq_true rfl) d_Mo_enter_149 (fun H locs hP hS => ?_)
                  obtain ⟨J138, eJ138⟩ : ∃ z, z = va_up J95 28 (1) := ⟨_, rfl⟩
                  obtain ⟨mem139, e_mem139⟩ : ∃ z, z = va_up mem135 224 (moC ad J138) := ⟨_, rfl⟩
                  have hP : va_P D vcl (fw n ad mem139) H := by rw [e_mem139, eJ138]; exact hP
                  have hD : va_D (Az sz) (fw n ad mem139) := fw_D hD
                  have hW140 : MW cy ad J138 A134 nm m0 mem139 := by rw [e_mem139]; exact hW136.upJ (by rw [eJ138]; exact va_up_ne _ _ (by decide))
                  have kk141 : J138 1 = nI L := by rw [eJ138]; exact kk98
                  have kk142 : J138 24 = nI G := by rw [eJ138]; exact kk99
                  have kk143 : J138 17 = 0 := by rw [eJ138]; exact kk100
                  have kk144 : J138 14 = nI u := by rw [eJ138]; exact kk101
                  have kk145 : J138 4 = nI R := by rw [eJ138]; exact kk102
                  have kk146 : J138 16 = nI a3 := by rw [eJ138]; exact kk103
                  have kk147 : J138 7 = nI (Ec + 1) := by rw [eJ138]; exact kk104
                  have kk148 : J138 18 = nI (1) := by rw [eJ138]; exact kk105
                  have kk149 : J138 28 = 1 := by rw [eJ138, va_up_self]
                  have hpu := hG.push (A' := A134) (r := r0) (cc := j) hr0 (by omega) (fun j h1 h2 h3 k hk => by
                      have hj : j = 228 ∨ j = 229 ∨ j = 230 ∨ j = 232 ∨ j = 233 := by omega
                      rcases hj with rfl | rfl | rfl | rfl | rfl <;> simp [eA22, eA26, eA30, eA41, eA91, eA128, eA134, elA, va_up, upd, Nat.ne_of_lt hk]) (by simp [eA22, eA26, eA30, eA41, eA91, eA128, eA134, elA, va_up, upd]) (by simp [eA22, eA26, eA30, eA41, eA91, eA128, eA134, elA, va_up, upd]) (by simp [eA22, eA26, eA30, eA41, eA91, eA128, eA134, elA, va_up, upd]) (by rw [eA134, va_up_self, hcc9]; simp [eA22, eA26, eA30, eA41, eA91, eA128, eA134, elA, va_up]) (by simp [eA22, eA26, eA30, eA41, eA91, eA128, eA134, elA, va_up, upd]) (by simp [eA22, eA26, eA30, eA41, eA91, eA128, eA134, elA, va_up, upd, hv]) (by simp [eA22, eA26, eA30, eA41, eA91, eA128, eA134, elA, va_up, upd])
                  have hk18 : J138 18 = nI (0 + 1) := kk148
                  exact W.vret hx hb hr (fun t ht hW => ⟨⟨mem139, rfl, ⟨J138, A134, nm, hW140, Or.inr ⟨a3, u, R, Ec + 1, 0, true, by omega, by rw [ent0S_ok2 (show bgF (hereF L T (gapF T L a)) = true by rw [← ea8]; exact bg_1 hb21) hEl39 hv (by omega), ← ea8, eA134, eA128, eA91, eA41, eA30, eA26, eA22]; rfl, ⟨kk141, kk142, kk146, kk143, kk144, kk145, kk147, hk18⟩, ⟨by omega, by omega, by omega, by omega, by omega, by omega⟩, tT137, kk149, _, _, _, Inv.qF (by rw [kk149]; decide) hpu, by simp [eA22, eA26, eA30, eA41, eA91, eA128, eA134, elA, va_up, upd]⟩⟩, by show va_P _ _ _ t.heap; rw [ht]; exact hP⟩, hS.F ht⟩) hS.2.2 d_Mo_enter_152
  · refine lv_aload_n Bx.1 Bx.2.1 d_Mo_enter_14 rfl (lv_at hl 0 rfl) ?_
    refine lv_iconst (v := 1) Bx.1 Bx.2.1 d_Mo_enter_15 (by decide) ?_
    refine lv_aload_n Bx.1 Bx.2.1 d_Mo_enter_16 rfl (lv_at hl 0 rfl) ?_
    refine f_get Bx hP (by omega) hW6.1 rfl inMo 16 (by decide) kw_672 rfl rfl d_Mo_enter_17 ?_
    rw [kk16]
    refine f_callVv (na := 2) (As := [.int (1), .int (nI a3)]) (rest := []) Bx hml E hP hD hS (by omega) hW6.1 rfl (m_Mo_wrong l hn hW6 (Or.inl kk11) (by first | exact Or.inl rfl | exact Or.inr rfl)) kw_799 kw_801 sel_Mo_wrong kw_8 kw_802 (by decide +kernel) ⟨rfl, rfl⟩ ⟨Nat.le_of_ble_eq_true rfl, Nat.le_of_ble_eq_true rfl⟩ rfl hl.1 (Nat.le_of_ble_eq_true rfl) d_Mo_enter_20 ⟨Nat.le_of_ble_eq_true rfl, Nat.le_of_ble_eq_true rfl⟩ (fun mem151 H locs hq hP hS => ?_)
    have hD : va_D (Az sz) (fw n ad mem151) := fw_D hD
    obtain ⟨J152, hW153, hwr154⟩ := hq
    have kk155 : J152 1 = nI L := (show J152 1 = J7 1 from hwr154.2 1 (by decide) (by decide)).trans kk9
    have kk156 : J152 24 = nI G := (show J152 24 = J7 24 from hwr154.2 24 (by decide) (by decide)).trans kk10
    have kk157 : J152 14 = nI u := (show J152 14 = J7 14 from hwr154.2 14 (by decide) (by decide)).trans kk12
    have kk158 : J152 4 = nI R := (show J152 4 = J7 4 from hwr154.2 4 (by decide) (by decide)).trans kk13
    have kk159 : J152 7 = nI Ec := (show J152 7 = J7 7 from hwr154.2 7 (by decide) (by decide)).trans kk14
    have kk160 : J152 18 = nI 0 := (show J152 18 = J7 18 from hwr154.2 18 (by decide) (by decide)).trans kk15
    have kk161 : J152 16 = nI a3 := (show J152 16 = J7 16 from hwr154.2 16 (by decide) (by decide)).trans kk16
    exact W.vret hx hb hr (fun t ht hW => ⟨⟨mem151, rfl, ⟨J152, A, nm, hW153, Or.inl ⟨⟨kk155, kk156, hT, hwr154.1, _, by omega, kk161⟩, ent0S_no (Or.inl (by rw [← ea8]; exact bg_0 hb21))⟩⟩, by show va_P _ _ _ t.heap; rw [ht]; exact hP⟩, hS.F ht⟩) hS.2.2 d_Mo_enter_23
