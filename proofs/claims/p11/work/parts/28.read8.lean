theorem d_Ru_isTold_0 : decode c_Ru_isTold 0 = .ok (.aload_n 0, 1) := by decide +kernel
theorem d_Ru_isTold_1 : decode c_Ru_isTold 1 = .ok (.getfield 13, 3) := by decide +kernel
theorem d_Ru_isTold_4 : decode c_Ru_isTold 4 = .ok (.ifnull 7, 3) := by decide +kernel
theorem d_Ru_isTold_7 : decode c_Ru_isTold 7 = .ok (.iconst 1, 1) := by decide +kernel
theorem d_Ru_isTold_8 : decode c_Ru_isTold 8 = .ok (.goto 4, 3) := by decide +kernel
theorem d_Ru_isTold_11 : decode c_Ru_isTold 11 = .ok (.iconst 0, 1) := by decide +kernel
theorem d_Ru_isTold_12 : decode c_Ru_isTold 12 = .ok (.ireturn, 1) := by decide +kernel
theorem d_Ru_tell_0 : decode c_Ru_tell 0 = .ok (.aload_n 0, 1) := by decide +kernel
theorem d_Ru_tell_1 : decode c_Ru_tell 1 = .ok (.getfield 17, 3) := by decide +kernel
theorem d_Ru_tell_4 : decode c_Ru_tell 4 = .ok (.ifnonnull 11, 3) := by decide +kernel
theorem d_Ru_tell_7 : decode c_Ru_tell 7 = .ok (.aload_n 0, 1) := by decide +kernel
theorem d_Ru_tell_8 : decode c_Ru_tell 8 = .ok (.aload_n 1, 1) := by decide +kernel
theorem d_Ru_tell_9 : decode c_Ru_tell 9 = .ok (.putfield 13, 3) := by decide +kernel
theorem d_Ru_tell_12 : decode c_Ru_tell 12 = .ok (.goto 11, 3) := by decide +kernel
theorem d_Ru_tell_15 : decode c_Ru_tell 15 = .ok (.aload_n 0, 1) := by decide +kernel
theorem d_Ru_tell_16 : decode c_Ru_tell 16 = .ok (.getfield 17, 3) := by decide +kernel
theorem d_Ru_tell_19 : decode c_Ru_tell 19 = .ok (.aload_n 1, 1) := by decide +kernel
theorem d_Ru_tell_20 : decode c_Ru_tell 20 = .ok (.putfield 20, 3) := by decide +kernel
theorem d_Ru_tell_23 : decode c_Ru_tell 23 = .ok (.aload_n 0, 1) := by decide +kernel
theorem d_Ru_tell_24 : decode c_Ru_tell 24 = .ok (.aload_n 1, 1) := by decide +kernel
theorem d_Ru_tell_25 : decode c_Ru_tell 25 = .ok (.putfield 17, 3) := by decide +kernel
theorem d_Ru_tell_28 : decode c_Ru_tell 28 = .ok (.return_, 1) := by decide +kernel
theorem RS.grow {cy : Nat → ClassId} {ad : Nat → Nat} {lim rc ec : Nat} {mem m0 : Nat → va_E} (h : RS cy ad lim rc ec m0 mem) : RS cy ad ec rc ec m0 mem := by
  obtain ⟨⟨h1, h5, h6, h19, hr, he, hs⟩, h2, h3⟩ := h
  refine ⟨⟨⟨h1.1, h1.2.1, Nat.le_refl _⟩, h5, h6, h19, fun i hi => ?_, he, hs⟩, h2, h3⟩
  obtain ⟨nm, v, w, e, o⟩ := hr i hi
  exact ⟨nm, v, w, e, fun q => ⟨(o q).1.mono (by omega) (by omega), (o q).2.mono (by omega) (by omega)⟩⟩
set_option maxHeartbeats 4000000 in
set_option maxRecDepth 100000 in
theorem m_Ru_isTold (l : Launch) {D : va_G} {cy : Nat → ClassId} {sz n : Nat} {ad : Nat → Nat} {mem : Nat → va_E} {Z : Nat} {f : Nat → Int32} {lim rc ec : Nat} {m0 : Nat → va_E} {i : Nat} (hn : 224 ≤ n) (hT : TX cy ad Z f m0) (hRS : RS cy ad lim rc ec m0 mem) (hi : i < rc) : MI l D cy sz n ad y_Ru_isTold c_Ru_isTold 1 (some .boolean) ({ frames := 0, cells := 0, slots := 0, locals := 0 } : Room) mem [.ref (ad (7 + i))] (fun r mem' => mem' = mem) := by
  refine Met.ofW (cc := c_Ru_isTold) (maxL := 1) (ret := (some .boolean)) (by decide) rfl ?_
  intro p e s m args below meth c s₁ B hml hv
  obtain ⟨rfl, E, hP, hD⟩ := hv
  have hx := B.exec
  have hb := B.bytes
  have hr := B.returns
  have hlocks := B.notSynchronized
  have Bx : MB p s m [.ref (ad (7 + i))].toArray c c_Ru_isTold "AbnfChart$Rule" D cy := ⟨hx, hb, tb_all (atoms_spec B.pre) E.2.1, findClass_of_methodNamed B.named, E.1⟩
  have hS : va_S (Az sz) s.heap s.heap [] := va_S.rf
  have hl := lv_entry ([.ref (ad (7 + i))]) (n := 1) (Nat.le_of_ble_eq_true rfl)
  rw [lg_entry_eq]
  generalize (lg_sl ([.ref (ad (7 + i))]) ++ List.replicate (1 - (lg_sl ([.ref (ad (7 + i))])).length) Slot.unset).toArray = ls at hl ⊢
  have hl : lv_has ls 1 [(0, .ref (ad (7 + i)))] := hl
  obtain ⟨at1, ft2, h9_3⟩ := hRS.2.1
  have h1_4 : mem 1 = .inr (0, [.ref (ad 2), .int (nI Z)]) := (hRS.2.2 1 (by omega)).trans hT.1
  have h2_5 : mem 2 = .inl (cy 0, 240, .inl f) := (hRS.2.2 2 (by omega)).trans hT.2.2
  have h5_6 := hRS.1.2.1
  have hbd12 := hRS.1.1
  obtain ⟨S7, g8, hS_9, h220_10, h221_11⟩ := hRS.1.2.2.2.2.2.2
  obtain ⟨nm13, fi14, la15, hru16, hro17⟩ := hRS.1.2.2.2.2.1 i (by omega)
  refine lv_aload_n Bx.1 Bx.2.1 d_Ru_isTold_0 rfl (lv_at hl 0 rfl) ?_
  refine f_get Bx hP (by omega) hru16 rfl inRu 1 (by decide) kw_57 rfl rfl d_Ru_isTold_1 ?_
  rcases (hro17 hi).1 with hv | ⟨j, hj1, hj2, hv⟩
  · rw [hv]
    refine lv_ifnullN Bx.1 Bx.2.1 d_Ru_isTold_4 rfl ?_
    refine lv_iconst (v := 0) Bx.1 Bx.2.1 d_Ru_isTold_11 (by decide) ?_
    exact W.zret (v := 0) hx hb hr rfl (fun t ht hW => ⟨⟨0, mem, rfl, rfl, by show va_P _ _ _ t.heap; rw [ht]; exact hP⟩, hS.F ht⟩) hS.2.2 d_Ru_isTold_12
  · rw [hv]
    refine lv_ifnull Bx.1 Bx.2.1 d_Ru_isTold_4 ?_
    refine lv_iconst (v := 1) Bx.1 Bx.2.1 d_Ru_isTold_7 (by decide) ?_
    refine lv_goto Bx.1 Bx.2.1 d_Ru_isTold_8 rfl ?_
    exact W.zret (v := 1) hx hb hr rfl (fun t ht hW => ⟨⟨1, mem, rfl, rfl, by show va_P _ _ _ t.heap; rw [ht]; exact hP⟩, hS.F ht⟩) hS.2.2 d_Ru_isTold_12
set_option maxHeartbeats 4000000 in
set_option maxRecDepth 100000 in
theorem m_Ru_tell (l : Launch) {D : va_G} {cy : Nat → ClassId} {sz n : Nat} {ad : Nat → Nat} {mem : Nat → va_E} {Z : Nat} {f : Nat → Int32} {lim rc ec : Nat} {m0 : Nat → va_E} {i k : Nat} (hn : 224 ≤ n) (hT : TX cy ad Z f m0) (hRS : RS cy ad lim rc ec m0 mem) (hi : i < rc) (hk : lim ≤ k ∧ k < ec) : MV l D cy sz n ad y_Ru_tell c_Ru_tell 2 ({ frames := 0, cells := 0, slots := 0, locals := 0 } : Room) mem [.ref (ad (7 + i)), .ref (ad (20 + 2 * k))] (fun mem' => RS cy ad ec rc ec m0 mem') := by
  refine Met.ofW (cc := c_Ru_tell) (maxL := 2) (ret := none) (by decide) rfl ?_
  intro p e s m args below meth c s₁ B hml hv
  obtain ⟨rfl, E, hP, hD⟩ := hv
  have hx := B.exec
  have hb := B.bytes
  have hr := B.returns
  have hlocks := B.notSynchronized
  have Bx : MB p s m [.ref (ad (7 + i)), .ref (ad (20 + 2 * k))].toArray c c_Ru_tell "AbnfChart$Rule" D cy := ⟨hx, hb, tb_all (atoms_spec B.pre) E.2.1, findClass_of_methodNamed B.named, E.1⟩
  have hS : va_S (Az sz) s.heap s.heap [] := va_S.rf
  have hl := lv_entry ([.ref (ad (7 + i)), .ref (ad (20 + 2 * k))]) (n := 2) (Nat.le_of_ble_eq_true rfl)
  rw [lg_entry_eq]
  generalize (lg_sl ([.ref (ad (7 + i)), .ref (ad (20 + 2 * k))]) ++ List.replicate (2 - (lg_sl ([.ref (ad (7 + i)), .ref (ad (20 + 2 * k))])).length) Slot.unset).toArray = ls at hl ⊢
  have hl : lv_has ls 2 [(0, .ref (ad (7 + i))), (1, .ref (ad (20 + 2 * k)))] := hl
  obtain ⟨at1, ft2, h9_3⟩ := hRS.2.1
  have h1_4 : mem 1 = .inr (0, [.ref (ad 2), .int (nI Z)]) := (hRS.2.2 1 (by omega)).trans hT.1
  have h2_5 : mem 2 = .inl (cy 0, 240, .inl f) := (hRS.2.2 2 (by omega)).trans hT.2.2
  have h5_6 := hRS.1.2.1
  have hbd12 := hRS.1.1
  obtain ⟨S7, g8, hS_9, h220_10, h221_11⟩ := hRS.1.2.2.2.2.2.2
  obtain ⟨nm13, fi14, la15, hru16, hro17⟩ := hRS.1.2.2.2.2.1 i (by omega)
  refine lv_aload_n Bx.1 Bx.2.1 d_Ru_tell_0 rfl (lv_at hl 0 rfl) ?_
  refine f_get Bx hP (by omega) hru16 rfl inRu 2 (by decide) kw_59 rfl rfl d_Ru_tell_1 ?_
  rcases (hro17 hi).2 with hv | ⟨j, hj1, hj2, hv⟩
  · rw [hv]
    refine lv_ifnonnullN Bx.1 Bx.2.1 d_Ru_tell_4 ?_
    refine lv_aload_n Bx.1 Bx.2.1 d_Ru_tell_7 rfl (lv_at hl 0 rfl) ?_
    refine lv_aload_n Bx.1 Bx.2.1 d_Ru_tell_8 rfl (lv_at hl 1 rfl) ?_
    refine f_put Bx hP hD hS (by omega) hru16 rfl inRu tyRu okRu nmRu 1 (by decide) kw_57 rfl rfl rfl rfl (Nat.le_of_ble_eq_true rfl) d_Ru_tell_9 (fun H locs hP hS => ?_)
    obtain ⟨mem18, e_mem18⟩ : ∃ z, z = va_up mem ((7 + i)) (.inr (5, [.long (nm13), .ref (ad (20 + 2 * k)), la15])) := ⟨_, rfl⟩
    have hP : va_P D vcl (fw n ad mem18) H := by rw [e_mem18]; exact hP
    have hD : va_D (Az sz) (fw n ad mem18) := fw_D hD
    have h_mem18 : mem18 ((7 + i)) = .inr (5, [.long (nm13), .ref (ad (20 + 2 * k)), la15]) := by rw [e_mem18, va_up_self]
    have hh19 := (va_up_ne mem (.inr (5, [.long (nm13), .ref (ad (20 + 2 * k)), la15])) (show (222 : Nat) ≠ (7 + i) by first | decide | assumption | omega)).trans h9_3
    rw [← e_mem18] at hh19
    have hh20 := (va_up_ne mem (.inr (5, [.long (nm13), .ref (ad (20 + 2 * k)), la15])) (show (1 : Nat) ≠ (7 + i) by first | decide | assumption | omega)).trans h1_4
    rw [← e_mem18] at hh20
    have hh21 := (va_up_ne mem (.inr (5, [.long (nm13), .ref (ad (20 + 2 * k)), la15])) (show (5 : Nat) ≠ (7 + i) by first | decide | assumption | omega)).trans h5_6
    rw [← e_mem18] at hh21
    have hh22 := (va_up_ne mem (.inr (5, [.long (nm13), .ref (ad (20 + 2 * k)), la15])) (show (220 : Nat) ≠ (7 + i) by first | decide | assumption | omega)).trans h220_10
    rw [← e_mem18] at hh22
    refine lv_goto Bx.1 Bx.2.1 d_Ru_tell_12 rfl ?_
    refine lv_aload_n Bx.1 Bx.2.1 d_Ru_tell_23 rfl (lv_at hl 0 rfl) ?_
    refine lv_aload_n Bx.1 Bx.2.1 d_Ru_tell_24 rfl (lv_at hl 1 rfl) ?_
    refine f_put Bx hP hD hS (by omega) h_mem18 rfl inRu tyRu okRu nmRu 2 (by decide) kw_59 rfl rfl rfl rfl (Nat.le_of_ble_eq_true rfl) d_Ru_tell_25 (fun H locs hP hS => ?_)
    obtain ⟨mem23, e_mem23⟩ : ∃ z, z = va_up mem18 ((7 + i)) (.inr (5, [.long (nm13), .ref (ad (20 + 2 * k)), .ref (ad (20 + 2 * k))])) := ⟨_, rfl⟩
    have hP : va_P D vcl (fw n ad mem23) H := by rw [e_mem23]; exact hP
    have hD : va_D (Az sz) (fw n ad mem23) := fw_D hD
    have h_mem23 : mem23 ((7 + i)) = .inr (5, [.long (nm13), .ref (ad (20 + 2 * k)), .ref (ad (20 + 2 * k))]) := by rw [e_mem23, va_up_self]
    have hh24 := (va_up_ne mem18 (.inr (5, [.long (nm13), .ref (ad (20 + 2 * k)), .ref (ad (20 + 2 * k))])) (show (222 : Nat) ≠ (7 + i) by first | decide | assumption | omega)).trans hh19
    rw [← e_mem23] at hh24
    have hh25 := (va_up_ne mem18 (.inr (5, [.long (nm13), .ref (ad (20 + 2 * k)), .ref (ad (20 + 2 * k))])) (show (1 : Nat) ≠ (7 + i) by first | decide | assumption | omega)).trans hh20
    rw [← e_mem23] at hh25
    have hh26 := (va_up_ne mem18 (.inr (5, [.long (nm13), .ref (ad (20 + 2 * k)), .ref (ad (20 + 2 * k))])) (show (5 : Nat) ≠ (7 + i) by first | decide | assumption | omega)).trans hh21
    rw [← e_mem23] at hh26
    have hh27 := (va_up_ne mem18 (.inr (5, [.long (nm13), .ref (ad (20 + 2 * k)), .ref (ad (20 + 2 * k))])) (show (220 : Nat) ≠ (7 + i) by first | decide | assumption | omega)).trans hh22
    rw [← e_mem23] at hh27
    exact W.vret hx hb hr (fun t ht hW => ⟨⟨mem23, rfl, by rw [e_mem23, e_mem18, up_up]; exact hRS.grow.mk (by omega) (hRS.grow.1.upRu (by omega) (fun _ => ⟨Or.inr ⟨k, by omega, by omega, rfl⟩, Or.inr ⟨k, by omega, by omega, rfl⟩⟩)), by show va_P _ _ _ t.heap; rw [ht]; exact hP⟩, hS.F ht⟩) hS.2.2 d_Ru_tell_28
  · rw [hv]
    refine lv_ifnonnull Bx.1 Bx.2.1 d_Ru_tell_4 rfl ?_
    obtain ⟨k28, lo29, hi30, as31, pa32, ne33, he_34, ho_35⟩ := (hRS.1.2.2.2.2.2.1 j (by omega)).1
    refine lv_aload_n Bx.1 Bx.2.1 d_Ru_tell_15 rfl (lv_at hl 0 rfl) ?_
    refine f_get Bx hP (by omega) hru16 rfl inRu 2 (by decide) kw_59 rfl rfl d_Ru_tell_16 ?_
    rw [hv]
    refine lv_aload_n Bx.1 Bx.2.1 d_Ru_tell_19 rfl (lv_at hl 1 rfl) ?_
    refine f_putN Bx hP hD hS (by omega) he_34 rfl inEl tyEl okEl nmEl 5 (by decide) kw_90 rfl rfl rfl rfl (Nat.le_of_ble_eq_true rfl) d_Ru_tell_20 (fun H locs hP hS => ?_)
    obtain ⟨mem36, e_mem36⟩ : ∃ z, z = va_up mem ((20 + 2 * j)) (.inr (2, [.int (k28), .int (lo29), .int (hi30), as31, pa32, .ref (ad (20 + 2 * k)), .ref (ad (21 + 2 * j))])) := ⟨_, rfl⟩
    have hP : va_P D vcl (fw n ad mem36) H := by rw [e_mem36]; exact hP
    have hD : va_D (Az sz) (fw n ad mem36) := fw_D hD
    have h_mem36 : mem36 ((20 + 2 * j)) = .inr (2, [.int (k28), .int (lo29), .int (hi30), as31, pa32, .ref (ad (20 + 2 * k)), .ref (ad (21 + 2 * j))]) := by rw [e_mem36, va_up_self]
    have hh37 := (va_up_ne mem (.inr (2, [.int (k28), .int (lo29), .int (hi30), as31, pa32, .ref (ad (20 + 2 * k)), .ref (ad (21 + 2 * j))])) (show (222 : Nat) ≠ (20 + 2 * j) by first | decide | assumption | omega)).trans h9_3
    rw [← e_mem36] at hh37
    have hh38 := (va_up_ne mem (.inr (2, [.int (k28), .int (lo29), .int (hi30), as31, pa32, .ref (ad (20 + 2 * k)), .ref (ad (21 + 2 * j))])) (show (1 : Nat) ≠ (20 + 2 * j) by first | decide | assumption | omega)).trans h1_4
    rw [← e_mem36] at hh38
    have hh39 := (va_up_ne mem (.inr (2, [.int (k28), .int (lo29), .int (hi30), as31, pa32, .ref (ad (20 + 2 * k)), .ref (ad (21 + 2 * j))])) (show (5 : Nat) ≠ (20 + 2 * j) by first | decide | assumption | omega)).trans h5_6
    rw [← e_mem36] at hh39
    have hh40 := (va_up_ne mem (.inr (2, [.int (k28), .int (lo29), .int (hi30), as31, pa32, .ref (ad (20 + 2 * k)), .ref (ad (21 + 2 * j))])) (show (220 : Nat) ≠ (20 + 2 * j) by first | decide | assumption | omega)).trans h220_10
    rw [← e_mem36] at hh40
    have hh41 := (va_up_ne mem (.inr (2, [.int (k28), .int (lo29), .int (hi30), as31, pa32, .ref (ad (20 + 2 * k)), .ref (ad (21 + 2 * j))])) (show ((7 + i) : Nat) ≠ (20 + 2 * j) by first | decide | assumption | omega)).trans hru16
    rw [← e_mem36] at hh41
    have hRS42 : RS cy ad lim rc ec m0 mem36 := by rw [e_mem36]; exact hRS.mk (by omega) (hRS.1.upEl (by omega) (fun q9 => ⟨(ho_35 q9).1, (ho_35 q9).2.1, Or.inr ⟨k, by omega, by omega, rfl⟩⟩))
    refine lv_aload_n Bx.1 Bx.2.1 d_Ru_tell_23 rfl (lv_at hl 0 rfl) ?_
    refine lv_aload_n Bx.1 Bx.2.1 d_Ru_tell_24 rfl (lv_at hl 1 rfl) ?_
    refine f_put Bx hP hD hS (by omega) hh41 rfl inRu tyRu okRu nmRu 2 (by decide) kw_59 rfl rfl rfl rfl (Nat.le_of_ble_eq_true rfl) d_Ru_tell_25 (fun H locs hP hS => ?_)
    obtain ⟨mem43, e_mem43⟩ : ∃ z, z = va_up mem36 ((7 + i)) (.inr (5, [.long (nm13), fi14, .ref (ad (20 + 2 * k))])) := ⟨_, rfl⟩
    have hP : va_P D vcl (fw n ad mem43) H := by rw [e_mem43]; exact hP
    have hD : va_D (Az sz) (fw n ad mem43) := fw_D hD
    have h_mem43 : mem43 ((7 + i)) = .inr (5, [.long (nm13), fi14, .ref (ad (20 + 2 * k))]) := by rw [e_mem43, va_up_self]
    have hh44 := (va_up_ne mem36 (.inr (5, [.long (nm13), fi14, .ref (ad (20 + 2 * k))])) (show (222 : Nat) ≠ (7 + i) by first | decide | assumption | omega)).trans hh37
    rw [← e_mem43] at hh44
    have hh45 := (va_up_ne mem36 (.inr (5, [.long (nm13), fi14, .ref (ad (20 + 2 * k))])) (show (1 : Nat) ≠ (7 + i) by first | decide | assumption | omega)).trans hh38
    rw [← e_mem43] at hh45
    have hh46 := (va_up_ne mem36 (.inr (5, [.long (nm13), fi14, .ref (ad (20 + 2 * k))])) (show (5 : Nat) ≠ (7 + i) by first | decide | assumption | omega)).trans hh39
    rw [← e_mem43] at hh46
    have hh47 := (va_up_ne mem36 (.inr (5, [.long (nm13), fi14, .ref (ad (20 + 2 * k))])) (show (220 : Nat) ≠ (7 + i) by first | decide | assumption | omega)).trans hh40
    rw [← e_mem43] at hh47
    have hh48 := (va_up_ne mem36 (.inr (5, [.long (nm13), fi14, .ref (ad (20 + 2 * k))])) (show ((20 + 2 * j) : Nat) ≠ (7 + i) by first | decide | assumption | omega)).trans h_mem36
    rw [← e_mem43] at hh48
    exact W.vret hx hb hr (fun t ht hW => ⟨⟨mem43, rfl, by rw [e_mem43]; exact hRS42.grow.mk (by omega) (hRS42.grow.1.upRu (by omega) (fun _ => ⟨(hro17 hi).1.mono (by omega) (by omega), Or.inr ⟨k, by omega, by omega, rfl⟩⟩)), by show va_P _ _ _ t.heap; rw [ht]; exact hP⟩, hS.F ht⟩) hS.2.2 d_Ru_tell_28
