theorem d_Ct_forget_0 : decode c_Ct_forget 0 = .ok (.aload_n 0, 1) := by decide +kernel
theorem d_Ct_forget_1 : decode c_Ct_forget 1 = .ok (.iconst 0, 1) := by decide +kernel
theorem d_Ct_forget_2 : decode c_Ct_forget 2 = .ok (.putfield 19, 3) := by decide +kernel
theorem d_Ct_forget_5 : decode c_Ct_forget 5 = .ok (.return_, 1) := by decide +kernel
theorem d_Gr_ruleTotal_0 : decode c_Gr_ruleTotal 0 = .ok (.aload_n 0, 1) := by decide +kernel
theorem d_Gr_ruleTotal_1 : decode c_Gr_ruleTotal 1 = .ok (.getfield 41, 3) := by decide +kernel
theorem d_Gr_ruleTotal_4 : decode c_Gr_ruleTotal 4 = .ok (.ifCond .eq 10, 3) := by decide +kernel
theorem d_Gr_ruleTotal_7 : decode c_Gr_ruleTotal 7 = .ok (.aload_n 0, 1) := by decide +kernel
theorem d_Gr_ruleTotal_8 : decode c_Gr_ruleTotal 8 = .ok (.getfield 34, 3) := by decide +kernel
theorem d_Gr_ruleTotal_11 : decode c_Gr_ruleTotal 11 = .ok (.goto 4, 3) := by decide +kernel
theorem d_Gr_ruleTotal_14 : decode c_Gr_ruleTotal 14 = .ok (.iconst 0, 1) := by decide +kernel
theorem d_Gr_ruleTotal_15 : decode c_Gr_ruleTotal 15 = .ok (.ireturn, 1) := by decide +kernel
theorem d_Gr_elementTotal_0 : decode c_Gr_elementTotal 0 = .ok (.aload_n 0, 1) := by decide +kernel
theorem d_Gr_elementTotal_1 : decode c_Gr_elementTotal 1 = .ok (.getfield 41, 3) := by decide +kernel
theorem d_Gr_elementTotal_4 : decode c_Gr_elementTotal 4 = .ok (.ifCond .eq 10, 3) := by decide +kernel
theorem d_Gr_elementTotal_7 : decode c_Gr_elementTotal 7 = .ok (.aload_n 0, 1) := by decide +kernel
theorem d_Gr_elementTotal_8 : decode c_Gr_elementTotal 8 = .ok (.getfield 38, 3) := by decide +kernel
theorem d_Gr_elementTotal_11 : decode c_Gr_elementTotal 11 = .ok (.goto 4, 3) := by decide +kernel
theorem d_Gr_elementTotal_14 : decode c_Gr_elementTotal 14 = .ok (.iconst 0, 1) := by decide +kernel
theorem d_Gr_elementTotal_15 : decode c_Gr_elementTotal 15 = .ok (.ireturn, 1) := by decide +kernel
theorem d_Ab_erase_0 : decode c_Ab_erase 0 = .ok (.aload_n 0, 1) := by decide +kernel
theorem d_Ab_erase_1 : decode c_Ab_erase 1 = .ok (.getfield 14, 3) := by decide +kernel
theorem d_Ab_erase_4 : decode c_Ab_erase 4 = .ok (.invokevirtual 69, 3) := by decide +kernel
theorem d_Ab_erase_7 : decode c_Ab_erase 7 = .ok (.ireturn, 1) := by decide +kernel
theorem d_Ab_place_0 : decode c_Ab_place 0 = .ok (.aload_n 0, 1) := by decide +kernel
theorem d_Ab_place_1 : decode c_Ab_place 1 = .ok (.getfield 33, 3) := by decide +kernel
theorem d_Ab_place_4 : decode c_Ab_place 4 = .ok (.getfield 82, 3) := by decide +kernel
theorem d_Ab_place_7 : decode c_Ab_place 7 = .ok (.ireturn, 1) := by decide +kernel
theorem d_Ab_drop_0 : decode c_Ab_drop 0 = .ok (.aload_n 0, 1) := by decide +kernel
theorem d_Ab_drop_1 : decode c_Ab_drop 1 = .ok (.getfield 40, 3) := by decide +kernel
theorem d_Ab_drop_4 : decode c_Ab_drop 4 = .ok (.invokevirtual 73, 3) := by decide +kernel
theorem d_Ab_drop_7 : decode c_Ab_drop 7 = .ok (.aload_n 0, 1) := by decide +kernel
theorem d_Ab_drop_8 : decode c_Ab_drop 8 = .ok (.getfield 18, 3) := by decide +kernel
theorem d_Ab_drop_11 : decode c_Ab_drop 11 = .ok (.invokevirtual 69, 3) := by decide +kernel
theorem d_Ab_drop_14 : decode c_Ab_drop 14 = .ok (.ireturn, 1) := by decide +kernel
theorem d_Ab_write_0 : decode c_Ab_write 0 = .ok (.iload_n 3, 1) := by decide +kernel
theorem d_Ab_write_1 : decode c_Ab_write 1 = .ok (.invokestatic 44, 3) := by decide +kernel
theorem d_Ab_write_4 : decode c_Ab_write 4 = .ok (.ifCond .eq 11, 3) := by decide +kernel
theorem d_Ab_write_7 : decode c_Ab_write 7 = .ok (.lload_n 1, 1) := by decide +kernel
theorem d_Ab_write_8 : decode c_Ab_write 8 = .ok (.iload_n 3, 1) := by decide +kernel
theorem d_Ab_write_9 : decode c_Ab_write 9 = .ok (.invokestatic 48, 3) := by decide +kernel
theorem d_Ab_write_12 : decode c_Ab_write 12 = .ok (.ifCond .ne 11, 3) := by decide +kernel
theorem d_Ab_write_15 : decode c_Ab_write 15 = .ok (.new 52, 3) := by decide +kernel
theorem d_Ab_write_18 : decode c_Ab_write 18 = .ok (.dup, 1) := by decide +kernel
theorem d_Ab_write_19 : decode c_Ab_write 19 = .ok (.invokespecial 54, 3) := by decide +kernel
theorem d_Ab_write_22 : decode c_Ab_write 22 = .ok (.athrow, 1) := by decide +kernel
theorem d_Ab_write_23 : decode c_Ab_write 23 = .ok (.aload_n 0, 1) := by decide +kernel
theorem d_Ab_write_24 : decode c_Ab_write 24 = .ok (.getfield 14, 3) := by decide +kernel
theorem d_Ab_write_27 : decode c_Ab_write 27 = .ok (.iload_n 3, 1) := by decide +kernel
theorem d_Ab_write_28 : decode c_Ab_write 28 = .ok (.invokevirtual 55, 3) := by decide +kernel
theorem d_Ab_write_31 : decode c_Ab_write 31 = .ok (.ifCond .ne 11, 3) := by decide +kernel
theorem d_Ab_write_34 : decode c_Ab_write 34 = .ok (.new 58, 3) := by decide +kernel
theorem d_Ab_write_37 : decode c_Ab_write 37 = .ok (.dup, 1) := by decide +kernel
theorem d_Ab_write_38 : decode c_Ab_write 38 = .ok (.invokespecial 60, 3) := by decide +kernel
theorem d_Ab_write_41 : decode c_Ab_write 41 = .ok (.athrow, 1) := by decide +kernel
theorem d_Ab_write_42 : decode c_Ab_write 42 = .ok (.aload_n 0, 1) := by decide +kernel
theorem d_Ab_write_43 : decode c_Ab_write 43 = .ok (.getfield 14, 3) := by decide +kernel
theorem d_Ab_write_46 : decode c_Ab_write 46 = .ok (.lload_n 1, 1) := by decide +kernel
theorem d_Ab_write_47 : decode c_Ab_write 47 = .ok (.iload_n 3, 1) := by decide +kernel
theorem d_Ab_write_48 : decode c_Ab_write 48 = .ok (.invokevirtual 61, 3) := by decide +kernel
theorem d_Ab_write_51 : decode c_Ab_write 51 = .ok (.aload_n 0, 1) := by decide +kernel
theorem d_Ab_write_52 : decode c_Ab_write 52 = .ok (.getfield 14, 3) := by decide +kernel
theorem d_Ab_write_55 : decode c_Ab_write 55 = .ok (.getfield 65, 3) := by decide +kernel
theorem d_Ab_write_58 : decode c_Ab_write 58 = .ok (.ireturn, 1) := by decide +kernel
theorem d_Ab_give_0 : decode c_Ab_give 0 = .ok (.iload_n 3, 1) := by decide +kernel
theorem d_Ab_give_1 : decode c_Ab_give 1 = .ok (.invokestatic 44, 3) := by decide +kernel
theorem d_Ab_give_4 : decode c_Ab_give 4 = .ok (.ifCond .eq 11, 3) := by decide +kernel
theorem d_Ab_give_7 : decode c_Ab_give 7 = .ok (.lload_n 1, 1) := by decide +kernel
theorem d_Ab_give_8 : decode c_Ab_give 8 = .ok (.iload_n 3, 1) := by decide +kernel
theorem d_Ab_give_9 : decode c_Ab_give 9 = .ok (.invokestatic 92, 3) := by decide +kernel
theorem d_Ab_give_12 : decode c_Ab_give 12 = .ok (.ifCond .ne 11, 3) := by decide +kernel
theorem d_Ab_give_15 : decode c_Ab_give 15 = .ok (.new 52, 3) := by decide +kernel
theorem d_Ab_give_18 : decode c_Ab_give 18 = .ok (.dup, 1) := by decide +kernel
theorem d_Ab_give_19 : decode c_Ab_give 19 = .ok (.invokespecial 54, 3) := by decide +kernel
theorem d_Ab_give_22 : decode c_Ab_give 22 = .ok (.athrow, 1) := by decide +kernel
theorem d_Ab_give_23 : decode c_Ab_give 23 = .ok (.aload_n 0, 1) := by decide +kernel
theorem d_Ab_give_24 : decode c_Ab_give 24 = .ok (.getfield 18, 3) := by decide +kernel
theorem d_Ab_give_27 : decode c_Ab_give 27 = .ok (.iload_n 3, 1) := by decide +kernel
theorem d_Ab_give_28 : decode c_Ab_give 28 = .ok (.invokevirtual 55, 3) := by decide +kernel
theorem d_Ab_give_31 : decode c_Ab_give 31 = .ok (.ifCond .ne 11, 3) := by decide +kernel
theorem d_Ab_give_34 : decode c_Ab_give 34 = .ok (.new 58, 3) := by decide +kernel
theorem d_Ab_give_37 : decode c_Ab_give 37 = .ok (.dup, 1) := by decide +kernel
theorem d_Ab_give_38 : decode c_Ab_give 38 = .ok (.invokespecial 60, 3) := by decide +kernel
theorem d_Ab_give_41 : decode c_Ab_give 41 = .ok (.athrow, 1) := by decide +kernel
theorem d_Ab_give_42 : decode c_Ab_give 42 = .ok (.aload_n 0, 1) := by decide +kernel
theorem d_Ab_give_43 : decode c_Ab_give 43 = .ok (.getfield 40, 3) := by decide +kernel
theorem d_Ab_give_46 : decode c_Ab_give 46 = .ok (.invokevirtual 73, 3) := by decide +kernel
theorem d_Ab_give_49 : decode c_Ab_give 49 = .ok (.aload_n 0, 1) := by decide +kernel
theorem d_Ab_give_50 : decode c_Ab_give 50 = .ok (.getfield 18, 3) := by decide +kernel
theorem d_Ab_give_53 : decode c_Ab_give 53 = .ok (.lload_n 1, 1) := by decide +kernel
theorem d_Ab_give_54 : decode c_Ab_give 54 = .ok (.iload_n 3, 1) := by decide +kernel
theorem d_Ab_give_55 : decode c_Ab_give 55 = .ok (.invokevirtual 61, 3) := by decide +kernel
theorem d_Ab_give_58 : decode c_Ab_give 58 = .ok (.aload_n 0, 1) := by decide +kernel
theorem d_Ab_give_59 : decode c_Ab_give 59 = .ok (.getfield 18, 3) := by decide +kernel
theorem d_Ab_give_62 : decode c_Ab_give 62 = .ok (.getfield 65, 3) := by decide +kernel
theorem d_Ab_give_65 : decode c_Ab_give 65 = .ok (.ireturn, 1) := by decide +kernel
theorem d_Ab_checkRule_0 : decode c_Ab_checkRule 0 = .ok (.iload_n 1, 1) := by decide +kernel
theorem d_Ab_checkRule_1 : decode c_Ab_checkRule 1 = .ok (.ifCond .lt 14, 3) := by decide +kernel
theorem d_Ab_checkRule_4 : decode c_Ab_checkRule 4 = .ok (.iload_n 1, 1) := by decide +kernel
theorem d_Ab_checkRule_5 : decode c_Ab_checkRule 5 = .ok (.aload_n 0, 1) := by decide +kernel
theorem d_Ab_checkRule_6 : decode c_Ab_checkRule 6 = .ok (.getfield 24, 3) := by decide +kernel
theorem d_Ab_checkRule_9 : decode c_Ab_checkRule 9 = .ok (.invokevirtual 79, 3) := by decide +kernel
theorem d_Ab_checkRule_12 : decode c_Ab_checkRule 12 = .ok (.if_icmp .lt 11, 3) := by decide +kernel
theorem d_Ab_checkRule_15 : decode c_Ab_checkRule 15 = .ok (.new 118, 3) := by decide +kernel
theorem d_Ab_checkRule_18 : decode c_Ab_checkRule 18 = .ok (.dup, 1) := by decide +kernel
theorem d_Ab_checkRule_19 : decode c_Ab_checkRule 19 = .ok (.invokespecial 120, 3) := by decide +kernel
theorem d_Ab_checkRule_22 : decode c_Ab_checkRule 22 = .ok (.athrow, 1) := by decide +kernel
theorem d_Ab_checkRule_23 : decode c_Ab_checkRule 23 = .ok (.return_, 1) := by decide +kernel
theorem d_Ab_checkPiece_0 : decode c_Ab_checkPiece 0 = .ok (.iload_n 1, 1) := by decide +kernel
theorem d_Ab_checkPiece_1 : decode c_Ab_checkPiece 1 = .ok (.ifCond .lt 19, 3) := by decide +kernel
theorem d_Ab_checkPiece_4 : decode c_Ab_checkPiece 4 = .ok (.iload_n 2, 1) := by decide +kernel
theorem d_Ab_checkPiece_5 : decode c_Ab_checkPiece 5 = .ok (.iload_n 1, 1) := by decide +kernel
theorem d_Ab_checkPiece_6 : decode c_Ab_checkPiece 6 = .ok (.if_icmp .lt 14, 3) := by decide +kernel
theorem d_Ab_checkPiece_9 : decode c_Ab_checkPiece 9 = .ok (.iload_n 2, 1) := by decide +kernel
theorem d_Ab_checkPiece_10 : decode c_Ab_checkPiece 10 = .ok (.aload_n 0, 1) := by decide +kernel
theorem d_Ab_checkPiece_11 : decode c_Ab_checkPiece 11 = .ok (.getfield 18, 3) := by decide +kernel
theorem d_Ab_checkPiece_14 : decode c_Ab_checkPiece 14 = .ok (.getfield 65, 3) := by decide +kernel
theorem d_Ab_checkPiece_17 : decode c_Ab_checkPiece 17 = .ok (.if_icmp .le 11, 3) := by decide +kernel
theorem d_Ab_checkPiece_20 : decode c_Ab_checkPiece 20 = .ok (.new 115, 3) := by decide +kernel
theorem d_Ab_checkPiece_23 : decode c_Ab_checkPiece 23 = .ok (.dup, 1) := by decide +kernel
theorem d_Ab_checkPiece_24 : decode c_Ab_checkPiece 24 = .ok (.invokespecial 117, 3) := by decide +kernel
theorem d_Ab_checkPiece_27 : decode c_Ab_checkPiece 27 = .ok (.athrow, 1) := by decide +kernel
theorem d_Ab_checkPiece_28 : decode c_Ab_checkPiece 28 = .ok (.return_, 1) := by decide +kernel
theorem bc_ok {k : Int32} (h : ¬ (if k < 1 ∨ 8 < k then (0 : Int32) else 1) = 0) : ∃ N : Nat, 1 ≤ N ∧ N ≤ 8 ∧ k = nI N := by
  by_cases hk : k < 1 ∨ 8 < k
  · rw [if_pos hk] at h; exact absurd rfl h
  · have h1 : ¬ k < 1 := fun q => hk (Or.inl q)
    have h2 : ¬ 8 < k := fun q => hk (Or.inr q)
    rw [Int32.lt_iff_toInt_lt] at h1 h2
    have e1 : (1 : Int32).toInt = 1 := by decide
    have e8 : (8 : Int32).toInt = 8 := by decide
    have e0 : (0 : Int32).toInt = 0 := by decide
    obtain ⟨j, hj, rfl⟩ := nI_of (x := k) (by rw [Int32.lt_iff_toInt_lt]; omega)
    rw [nI_toInt hj] at h1 h2
    exact ⟨j, by omega, by omega, rfl⟩
theorem bc_no {k : Int32} (h : (if k < 1 ∨ 8 < k then (0 : Int32) else 1) = 0) : k < 1 ∨ 8 < k := by
  by_cases hk : k < 1 ∨ 8 < k
  · exact hk
  · rw [if_neg hk] at h; exact absurd h (by decide)
theorem if01 {c : Bool} (h : (if c then (1 : Int32) else 0) = 0) : c = false := by cases c <;> simp_all
theorem if01' {c : Bool} (h : ¬ (if c then (1 : Int32) else 0) = 0) : c = true := by cases c <;> simp_all
set_option maxHeartbeats 4000000 in
set_option maxRecDepth 100000 in
theorem m_Ct_forget (l : Launch) {D : va_G} {cy : Nat → ClassId} {sz n : Nat} {ad : Nat → Nat} {mem : Nat → va_E} {j : Nat} {a b : Value} {z : Int32} (hj : j < n) (hm : mem j = .inr (1, [a, b, .int z])) : MV l D cy sz n ad y_Ct_forget c_Ct_forget 1 ({ frames := 0, cells := 0, slots := 0, locals := 0 } : Room) mem [.ref (ad j)] (fun mem' => mem' = va_up mem j (.inr (1, [a, b, .int 0]))) := by
  refine Met.ofW (cc := c_Ct_forget) (maxL := 1) (ret := none) (by decide) rfl ?_
  intro p e s m args below meth c s₁ B hml hv
  obtain ⟨rfl, E, hP, hD⟩ := hv
  have hx := B.exec
  have hb := B.bytes
  have hr := B.returns
  have hlocks := B.notSynchronized
  have Bx : MB p s m [.ref (ad j)].toArray c c_Ct_forget "AbnfChart$Chart" D cy := ⟨hx, hb, tb_all (atoms_spec B.pre) E.2.1, findClass_of_methodNamed B.named, E.1⟩
  have hS : va_S (Az sz) s.heap s.heap [] := va_S.rf
  have hl := lv_entry ([.ref (ad j)]) (n := 1) (Nat.le_of_ble_eq_true rfl)
  rw [lg_entry_eq]
  generalize (lg_sl ([.ref (ad j)]) ++ List.replicate (1 - (lg_sl ([.ref (ad j)])).length) Slot.unset).toArray = ls at hl ⊢
  have hl : lv_has ls 1 [(0, .ref (ad j))] := hl
  refine lv_aload_n Bx.1 Bx.2.1 d_Ct_forget_0 rfl (lv_at hl 0 rfl) ?_
  refine lv_iconst (v := 0) Bx.1 Bx.2.1 d_Ct_forget_1 (by decide) ?_
  refine f_put Bx hP hD hS hj hm rfl inCt tyCt okCt nmCt 2 (by decide) kw_166 rfl rfl rfl rfl (Nat.le_of_ble_eq_true rfl) d_Ct_forget_2 (fun H locs hP hS => ?_)
  obtain ⟨mem1, e_mem1⟩ : ∃ z, z = va_up mem (j) (.inr (1, [a, b, .int (0)])) := ⟨_, rfl⟩
  have hP : va_P D vcl (fw n ad mem1) H := by rw [e_mem1]; exact hP
  have hD : va_D (Az sz) (fw n ad mem1) := fw_D hD
  have h_mem1 : mem1 (j) = .inr (1, [a, b, .int (0)]) := by rw [e_mem1, va_up_self]
  exact W.vret hx hb hr (fun t ht hW => ⟨⟨mem1, rfl, e_mem1, by show va_P _ _ _ t.heap; rw [ht]; exact hP⟩, hS.F ht⟩) hS.2.2 d_Ct_forget_5
set_option maxHeartbeats 4000000 in
set_option maxRecDepth 100000 in
theorem m_Gr_ruleTotal (l : Launch) {D : va_G} {cy : Nat → ClassId} {sz n : Nat} {ad : Nat → Nat} {mem : Nat → va_E} {j : Nat} {a b d : Value} {rc ec wh : Int32} (hj : j < n) (hm : mem j = .inr (3, [a, b, d, .int rc, .int ec, .int wh])) : MI l D cy sz n ad y_Gr_ruleTotal c_Gr_ruleTotal 1 (some .int) ({ frames := 0, cells := 0, slots := 0, locals := 0 } : Room) mem [.ref (ad j)] (fun r mem' => r = (if wh = 0 then 0 else rc) ∧ mem' = mem) := by
  refine Met.ofW (cc := c_Gr_ruleTotal) (maxL := 1) (ret := (some .int)) (by decide) rfl ?_
  intro p e s m args below meth c s₁ B hml hv
  obtain ⟨rfl, E, hP, hD⟩ := hv
  have hx := B.exec
  have hb := B.bytes
  have hr := B.returns
  have hlocks := B.notSynchronized
  have Bx : MB p s m [.ref (ad j)].toArray c c_Gr_ruleTotal "AbnfChart$Grammar" D cy := ⟨hx, hb, tb_all (atoms_spec B.pre) E.2.1, findClass_of_methodNamed B.named, E.1⟩
  have hS : va_S (Az sz) s.heap s.heap [] := va_S.rf
  have hl := lv_entry ([.ref (ad j)]) (n := 1) (Nat.le_of_ble_eq_true rfl)
  rw [lg_entry_eq]
  generalize (lg_sl ([.ref (ad j)]) ++ List.replicate (1 - (lg_sl ([.ref (ad j)])).length) Slot.unset).toArray = ls at hl ⊢
  have hl : lv_has ls 1 [(0, .ref (ad j))] := hl
  refine lv_aload_n Bx.1 Bx.2.1 d_Gr_ruleTotal_0 rfl (lv_at hl 0 rfl) ?_
  refine f_get Bx hP hj hm rfl inGr 5 (by decide) kw_124 rfl rfl d_Gr_ruleTotal_1 ?_
  refine lv_if_eq Bx.1 Bx.2.1 d_Gr_ruleTotal_4 rfl (fun h => ?_) (fun h => ?_)
  · refine lv_iconst (v := 0) Bx.1 Bx.2.1 d_Gr_ruleTotal_14 (by decide) ?_
    exact W.iret (v := 0) hx hb hr (fun t ht hW => ⟨⟨0, mem, rfl, ⟨(if_pos h).symm, rfl⟩, by show va_P _ _ _ t.heap; rw [ht]; exact hP⟩, hS.F ht⟩) hS.2.2 d_Gr_ruleTotal_15
  · refine lv_aload_n Bx.1 Bx.2.1 d_Gr_ruleTotal_7 rfl (lv_at hl 0 rfl) ?_
    refine f_get Bx hP hj hm rfl inGr 3 (by decide) kw_121 rfl rfl d_Gr_ruleTotal_8 ?_
    refine lv_goto Bx.1 Bx.2.1 d_Gr_ruleTotal_11 rfl ?_
    exact W.iret (v := rc) hx hb hr (fun t ht hW => ⟨⟨rc, mem, rfl, ⟨(if_neg h).symm, rfl⟩, by show va_P _ _ _ t.heap; rw [ht]; exact hP⟩, hS.F ht⟩) hS.2.2 d_Gr_ruleTotal_15
set_option maxHeartbeats 4000000 in
set_option maxRecDepth 100000 in
theorem m_Gr_elementTotal (l : Launch) {D : va_G} {cy : Nat → ClassId} {sz n : Nat} {ad : Nat → Nat} {mem : Nat → va_E} {j : Nat} {a b d : Value} {rc ec wh : Int32} (hj : j < n) (hm : mem j = .inr (3, [a, b, d, .int rc, .int ec, .int wh])) : MI l D cy sz n ad y_Gr_elementTotal c_Gr_elementTotal 1 (some .int) ({ frames := 0, cells := 0, slots := 0, locals := 0 } : Room) mem [.ref (ad j)] (fun r mem' => r = (if wh = 0 then 0 else ec) ∧ mem' = mem) := by
  refine Met.ofW (cc := c_Gr_elementTotal) (maxL := 1) (ret := (some .int)) (by decide) rfl ?_
  intro p e s m args below meth c s₁ B hml hv
  obtain ⟨rfl, E, hP, hD⟩ := hv
  have hx := B.exec
  have hb := B.bytes
  have hr := B.returns
  have hlocks := B.notSynchronized
  have Bx : MB p s m [.ref (ad j)].toArray c c_Gr_elementTotal "AbnfChart$Grammar" D cy := ⟨hx, hb, tb_all (atoms_spec B.pre) E.2.1, findClass_of_methodNamed B.named, E.1⟩
  have hS : va_S (Az sz) s.heap s.heap [] := va_S.rf
  have hl := lv_entry ([.ref (ad j)]) (n := 1) (Nat.le_of_ble_eq_true rfl)
  rw [lg_entry_eq]
  generalize (lg_sl ([.ref (ad j)]) ++ List.replicate (1 - (lg_sl ([.ref (ad j)])).length) Slot.unset).toArray = ls at hl ⊢
  have hl : lv_has ls 1 [(0, .ref (ad j))] := hl
  refine lv_aload_n Bx.1 Bx.2.1 d_Gr_elementTotal_0 rfl (lv_at hl 0 rfl) ?_
  refine f_get Bx hP hj hm rfl inGr 5 (by decide) kw_124 rfl rfl d_Gr_elementTotal_1 ?_
  refine lv_if_eq Bx.1 Bx.2.1 d_Gr_elementTotal_4 rfl (fun h => ?_) (fun h => ?_)
  · refine lv_iconst (v := 0) Bx.1 Bx.2.1 d_Gr_elementTotal_14 (by decide) ?_
    exact W.iret (v := 0) hx hb hr (fun t ht hW => ⟨⟨0, mem, rfl, ⟨(if_pos h).symm, rfl⟩, by show va_P _ _ _ t.heap; rw [ht]; exact hP⟩, hS.F ht⟩) hS.2.2 d_Gr_elementTotal_15
  · refine lv_aload_n Bx.1 Bx.2.1 d_Gr_elementTotal_7 rfl (lv_at hl 0 rfl) ?_
    refine f_get Bx hP hj hm rfl inGr 4 (by decide) kw_122 rfl rfl d_Gr_elementTotal_8 ?_
    refine lv_goto Bx.1 Bx.2.1 d_Gr_elementTotal_11 rfl ?_
    exact W.iret (v := ec) hx hb hr (fun t ht hW => ⟨⟨ec, mem, rfl, ⟨(if_neg h).symm, rfl⟩, by show va_P _ _ _ t.heap; rw [ht]; exact hP⟩, hS.F ht⟩) hS.2.2 d_Gr_elementTotal_15
set_option maxHeartbeats 4000000 in
set_option maxRecDepth 100000 in
theorem m_Ab_erase (l : Launch) {D : va_G} {cy : Nat → ClassId} {sz n : Nat} {ad : Nat → Nat} {mem : Nat → va_E} {q : Value} {z : Int32} (hn : 224 ≤ n) (h0 : mem 0 = .inr (6, [.ref (ad 1), .ref (ad 3), .ref (ad 5), .ref (ad 222), .ref (ad 223)])) (h1 : mem 1 = .inr (0, [q, .int z])) : MI l D cy sz n ad y_Ab_erase c_Ab_erase 1 (some .int) ({ frames := 1, cells := 0, slots := 0, locals := 30 } : Room) mem [.ref (ad 0)] (fun r mem' => r = z ∧ mem' = va_up mem 1 (.inr (0, [q, .int 0]))) := by
  refine Met.ofW (cc := c_Ab_erase) (maxL := 1) (ret := (some .int)) (by decide) rfl ?_
  intro p e s m args below meth c s₁ B hml hv
  obtain ⟨rfl, E, hP, hD⟩ := hv
  have hx := B.exec
  have hb := B.bytes
  have hr := B.returns
  have hlocks := B.notSynchronized
  have Bx : MB p s m [.ref (ad 0)].toArray c c_Ab_erase "AbnfChart" D cy := ⟨hx, hb, tb_all (atoms_spec B.pre) E.2.1, findClass_of_methodNamed B.named, E.1⟩
  have hS : va_S (Az sz) s.heap s.heap [] := va_S.rf
  have hl := lv_entry ([.ref (ad 0)]) (n := 1) (Nat.le_of_ble_eq_true rfl)
  rw [lg_entry_eq]
  generalize (lg_sl ([.ref (ad 0)]) ++ List.replicate (1 - (lg_sl ([.ref (ad 0)])).length) Slot.unset).toArray = ls at hl ⊢
  have hl : lv_has ls 1 [(0, .ref (ad 0))] := hl
  refine lv_aload_n Bx.1 Bx.2.1 d_Ab_erase_0 rfl (lv_at hl 0 rfl) ?_
  refine f_get Bx hP (by omega) h0 rfl inAb 0 (by decide) kw_174 rfl rfl d_Ab_erase_1 ?_
  refine f_callVi (na := 0) (As := []) (rest := []) Bx hml E hP hD hS (by omega) h1 rfl (m_Ch_empty l (by omega) h1) kw_194 kw_195 kw_196 kw_2 kw_197 (by decide +kernel) ⟨rfl, rfl⟩ ⟨Nat.le_of_ble_eq_true rfl, Nat.le_of_ble_eq_true rfl⟩ rfl hl.1 (Nat.le_of_ble_eq_true rfl) d_Ab_erase_4 ⟨Nat.le_of_ble_eq_true rfl, Nat.le_of_ble_eq_true rfl⟩ (fun r1 mem2 H locs hq hP hS => ?_)
  have hD : va_D (Az sz) (fw n ad mem2) := fw_D hD
  exact W.iret (v := r1) hx hb hr (fun t ht hW => ⟨⟨r1, mem2, rfl, hq, by show va_P _ _ _ t.heap; rw [ht]; exact hP⟩, hS.F ht⟩) hS.2.2 d_Ab_erase_7
set_option maxHeartbeats 4000000 in
set_option maxRecDepth 100000 in
theorem m_Ab_place (l : Launch) {D : va_G} {cy : Nat → ClassId} {sz n : Nat} {ad : Nat → Nat} {mem : Nat → va_E} {a b : Value} {y z : Int32} (hn : 224 ≤ n) (h0 : mem 0 = .inr (6, [.ref (ad 1), .ref (ad 3), .ref (ad 5), .ref (ad 222), .ref (ad 223)])) (h9 : mem 222 = .inr (4, [a, b, .int y, .int z])) : MI l D cy sz n ad y_Ab_place c_Ab_place 1 (some .int) ({ frames := 0, cells := 0, slots := 0, locals := 0 } : Room) mem [.ref (ad 0)] (fun r mem' => r = z ∧ mem' = mem) := by
  refine Met.ofW (cc := c_Ab_place) (maxL := 1) (ret := (some .int)) (by decide) rfl ?_
  intro p e s m args below meth c s₁ B hml hv
  obtain ⟨rfl, E, hP, hD⟩ := hv
  have hx := B.exec
  have hb := B.bytes
  have hr := B.returns
  have hlocks := B.notSynchronized
  have Bx : MB p s m [.ref (ad 0)].toArray c c_Ab_place "AbnfChart" D cy := ⟨hx, hb, tb_all (atoms_spec B.pre) E.2.1, findClass_of_methodNamed B.named, E.1⟩
  have hS : va_S (Az sz) s.heap s.heap [] := va_S.rf
  have hl := lv_entry ([.ref (ad 0)]) (n := 1) (Nat.le_of_ble_eq_true rfl)
  rw [lg_entry_eq]
  generalize (lg_sl ([.ref (ad 0)]) ++ List.replicate (1 - (lg_sl ([.ref (ad 0)])).length) Slot.unset).toArray = ls at hl ⊢
  have hl : lv_has ls 1 [(0, .ref (ad 0))] := hl
  refine lv_aload_n Bx.1 Bx.2.1 d_Ab_place_0 rfl (lv_at hl 0 rfl) ?_
  refine f_get Bx hP (by omega) h0 rfl inAb 3 (by decide) kw_177 rfl rfl d_Ab_place_1 ?_
  refine f_getN Bx hP (by omega) h9 rfl inRd 3 (by decide) kw_148 rfl rfl d_Ab_place_4 ?_
  exact W.iret (v := z) hx hb hr (fun t ht hW => ⟨⟨z, mem, rfl, ⟨rfl, rfl⟩, by show va_P _ _ _ t.heap; rw [ht]; exact hP⟩, hS.F ht⟩) hS.2.2 d_Ab_place_7
set_option maxHeartbeats 4000000 in
set_option maxRecDepth 100000 in
theorem m_Ab_drop (l : Launch) {D : va_G} {cy : Nat → ClassId} {sz n : Nat} {ad : Nat → Nat} {mem : Nat → va_E} {q a b : Value} {z fl : Int32} (hn : 224 ≤ n) (h0 : mem 0 = .inr (6, [.ref (ad 1), .ref (ad 3), .ref (ad 5), .ref (ad 222), .ref (ad 223)])) (h3 : mem 3 = .inr (0, [q, .int z])) (hc : mem 223 = .inr (1, [a, b, .int fl])) : MI l D cy sz n ad y_Ab_drop c_Ab_drop 1 (some .int) ({ frames := 1, cells := 0, slots := 0, locals := 30 } : Room) mem [.ref (ad 0)] (fun r mem' => r = z ∧ mem' = va_up (va_up mem 223 (.inr (1, [a, b, .int 0]))) 3 (.inr (0, [q, .int 0]))) := by
  refine Met.ofW (cc := c_Ab_drop) (maxL := 1) (ret := (some .int)) (by decide) rfl ?_
  intro p e s m args below meth c s₁ B hml hv
  obtain ⟨rfl, E, hP, hD⟩ := hv
  have hx := B.exec
  have hb := B.bytes
  have hr := B.returns
  have hlocks := B.notSynchronized
  have Bx : MB p s m [.ref (ad 0)].toArray c c_Ab_drop "AbnfChart" D cy := ⟨hx, hb, tb_all (atoms_spec B.pre) E.2.1, findClass_of_methodNamed B.named, E.1⟩
  have hS : va_S (Az sz) s.heap s.heap [] := va_S.rf
  have hl := lv_entry ([.ref (ad 0)]) (n := 1) (Nat.le_of_ble_eq_true rfl)
  rw [lg_entry_eq]
  generalize (lg_sl ([.ref (ad 0)]) ++ List.replicate (1 - (lg_sl ([.ref (ad 0)])).length) Slot.unset).toArray = ls at hl ⊢
  have hl : lv_has ls 1 [(0, .ref (ad 0))] := hl
  refine lv_aload_n Bx.1 Bx.2.1 d_Ab_drop_0 rfl (lv_at hl 0 rfl) ?_
  refine f_get Bx hP (by omega) h0 rfl inAb 4 (by decide) kw_178 rfl rfl d_Ab_drop_1 ?_
  refine f_callVv (na := 0) (As := []) (rest := []) Bx hml E hP hD hS (by omega) hc rfl (m_Ct_forget l (by omega) hc) kw_206 kw_207 kw_208 kw_7 kw_209 (by decide +kernel) ⟨rfl, rfl⟩ ⟨Nat.le_of_ble_eq_true rfl, Nat.le_of_ble_eq_true rfl⟩ rfl hl.1 (Nat.le_of_ble_eq_true rfl) d_Ab_drop_4 ⟨Nat.le_of_ble_eq_true rfl, Nat.le_of_ble_eq_true rfl⟩ (fun mem2 H locs hq hP hS => ?_)
  have hD : va_D (Az sz) (fw n ad mem2) := fw_D hD
  have hh3 : mem2 (0) = .inr (6, [.ref (ad 1), .ref (ad 3), .ref (ad 5), .ref (ad 222), .ref (ad 223)]) := by rw [hq]; (try unfold chM); rw [va_up_ne _ _ (by first | decide | assumption | omega)]; exact h0
  have hh4 : mem2 (3) = .inr (0, [q, .int (z)]) := by rw [hq]; (try unfold chM); rw [va_up_ne _ _ (by first | decide | assumption | omega)]; exact h3
  refine lv_aload_n Bx.1 Bx.2.1 d_Ab_drop_7 rfl (lv_at hl 0 rfl) ?_
  refine f_get Bx hP (by omega) hh3 rfl inAb 1 (by decide) kw_175 rfl rfl d_Ab_drop_8 ?_
  refine f_callVi (na := 0) (As := []) (rest := []) Bx hml E hP hD hS (by omega) hh4 rfl (m_Ch_empty l (by omega) hh4) kw_194 kw_195 kw_196 kw_2 kw_197 (by decide +kernel) ⟨rfl, rfl⟩ ⟨Nat.le_of_ble_eq_true rfl, Nat.le_of_ble_eq_true rfl⟩ rfl hl.1 (Nat.le_of_ble_eq_true rfl) d_Ab_drop_11 ⟨Nat.le_of_ble_eq_true rfl, Nat.le_of_ble_eq_true rfl⟩ (fun r5 mem6 H locs hq2 hP hS => ?_)
  have hD : va_D (Az sz) (fw n ad mem6) := fw_D hD
  exact W.iret (v := r5) hx hb hr (fun t ht hW => ⟨⟨r5, mem6, rfl, ⟨hq2.1, by rw [hq2.2, hq]⟩, by show va_P _ _ _ t.heap; rw [ht]; exact hP⟩, hS.F ht⟩) hS.2.2 d_Ab_drop_14
set_option maxHeartbeats 4000000 in
set_option maxRecDepth 100000 in
theorem m_Ab_checkRule (l : Launch) {D : va_G} {cy : Nat → ClassId} {sz n : Nat} {ad : Nat → Nat} {mem : Nat → va_E} {a b d : Value} {rc ec wh k : Int32} (hlt : l.stackTraces = false) (hn : 224 ≤ n) (h0 : mem 0 = .inr (6, [.ref (ad 1), .ref (ad 3), .ref (ad 5), .ref (ad 222), .ref (ad 223)])) (h5 : mem 5 = .inr (3, [a, b, d, .int rc, .int ec, .int wh])) : MXv l D cy sz n ad y_Ab_checkRule c_Ab_checkRule 2 ({ frames := 6, cells := 1, slots := 6, locals := 90 } : Room) mem [.ref (ad 0), .int (k)] (fun mem' => mem' = mem ∧ ¬ k < 0 ∧ k < (if wh = 0 then 0 else rc)) (fun X mem' => X = cNS ∧ mem' = mem ∧ (k < 0 ∨ ¬ k < (if wh = 0 then 0 else rc))) := by
  refine vx_ofW (cc := c_Ab_checkRule) (maxL := 2) (ret := none) (by decide) rfl ?_
  intro p e s m args below meth c s₁ B hml hno hv
  obtain ⟨rfl, E, hP, hD⟩ := hv
  have hx := B.exec
  have hb := B.bytes
  have hr := B.returns
  have hlocks := B.notSynchronized
  have Bx : MB p s m [.ref (ad 0), .int (k)].toArray c c_Ab_checkRule "AbnfChart" D cy := ⟨hx, hb, tb_all (atoms_spec B.pre) E.2.1, findClass_of_methodNamed B.named, E.1⟩
  have hS : va_S (Az sz) s.heap s.heap [] := va_S.rf
  have hl := lv_entry ([.ref (ad 0), .int (k)]) (n := 2) (Nat.le_of_ble_eq_true rfl)
  rw [lg_entry_eq]
  generalize (lg_sl ([.ref (ad 0), .int (k)]) ++ List.replicate (2 - (lg_sl ([.ref (ad 0), .int (k)])).length) Slot.unset).toArray = ls at hl ⊢
  have hl : lv_has ls 2 [(0, .ref (ad 0)), (1, .int (k))] := hl
  refine lv_iload_n Bx.1 Bx.2.1 d_Ab_checkRule_0 rfl (lv_at hl 1 rfl) ?_
  refine lv_if_lt Bx.1 Bx.2.1 d_Ab_checkRule_1 rfl (fun h => ?_) (fun h => ?_)
  · exact f_throw (rest := []) hlt Bx hml hlocks hno E hP hS (by decide +kernel) kw_515 kw_14 at_Ab_NS hl.1 d_Ab_checkRule_15 d_Ab_checkRule_18 d_Ab_checkRule_19 d_Ab_checkRule_22 ⟨Nat.le_of_ble_eq_true rfl, Nat.le_of_ble_eq_true rfl, Nat.le_of_ble_eq_true rfl, Nat.le_of_ble_eq_true rfl⟩ ⟨Nat.le_of_ble_eq_true rfl, Nat.le_of_ble_eq_true rfl⟩ ⟨rfl, rfl, Or.inl h⟩
  · refine lv_iload_n Bx.1 Bx.2.1 d_Ab_checkRule_4 rfl (lv_at hl 1 rfl) ?_
    refine lv_aload_n Bx.1 Bx.2.1 d_Ab_checkRule_5 rfl (lv_at hl 0 rfl) ?_
    refine f_get Bx hP (by omega) h0 rfl inAb 2 (by decide) kw_176 rfl rfl d_Ab_checkRule_6 ?_
    refine f_callVi (na := 0) (As := []) (rest := [.int (k)]) Bx hml E hP hD hS (by omega) h5 rfl (m_Gr_ruleTotal l (by omega) h5) kw_498 kw_499 kw_500 kw_3 kw_501 (by decide +kernel) ⟨rfl, rfl⟩ ⟨Nat.le_of_ble_eq_true rfl, Nat.le_of_ble_eq_true rfl⟩ rfl hl.1 (Nat.le_of_ble_eq_true rfl) d_Ab_checkRule_9 ⟨Nat.le_of_ble_eq_true rfl, Nat.le_of_ble_eq_true rfl⟩ (fun r1 mem2 H locs hq hP hS => ?_)
    obtain ⟨hr1, mem2e⟩ := hq
    rw [mem2e] at hP
    subst hr1
    refine lv_icmp_lt Bx.1 Bx.2.1 d_Ab_checkRule_12 rfl (fun h2 => ?_) (fun h2 => ?_)
    · refine vx_ret (W.widen (k := 1) (n := 6) (by decide) (by decide) ?_)
      exact W.vret hx hb hr (fun t ht hW => ⟨⟨mem, rfl, ⟨rfl, h, h2⟩, by show va_P _ _ _ t.heap; rw [ht]; exact hP⟩, hS.F ht⟩) hS.2.2 d_Ab_checkRule_23
    · exact f_throw (rest := []) hlt Bx hml hlocks hno E hP hS (by decide +kernel) kw_515 kw_14 at_Ab_NS hl.1 d_Ab_checkRule_15 d_Ab_checkRule_18 d_Ab_checkRule_19 d_Ab_checkRule_22 ⟨Nat.le_of_ble_eq_true rfl, Nat.le_of_ble_eq_true rfl, Nat.le_of_ble_eq_true rfl, Nat.le_of_ble_eq_true rfl⟩ ⟨Nat.le_of_ble_eq_true rfl, Nat.le_of_ble_eq_true rfl⟩ ⟨rfl, rfl, Or.inr h2⟩
set_option maxHeartbeats 4000000 in
set_option maxRecDepth 100000 in
theorem m_Ab_checkPiece (l : Launch) {D : va_G} {cy : Nat → ClassId} {sz n : Nat} {ad : Nat → Nat} {mem : Nat → va_E} {q : Value} {z i j : Int32} (hlt : l.stackTraces = false) (hn : 224 ≤ n) (h0 : mem 0 = .inr (6, [.ref (ad 1), .ref (ad 3), .ref (ad 5), .ref (ad 222), .ref (ad 223)])) (h3 : mem 3 = .inr (0, [q, .int z])) : MXv l D cy sz n ad y_Ab_checkPiece c_Ab_checkPiece 3 ({ frames := 6, cells := 1, slots := 6, locals := 90 } : Room) mem [.ref (ad 0), .int (i), .int (j)] (fun mem' => mem' = mem ∧ ¬ i < 0 ∧ ¬ j < i ∧ j ≤ z) (fun X mem' => X = cIO ∧ mem' = mem ∧ (i < 0 ∨ j < i ∨ ¬ j ≤ z)) := by
  refine vx_ofW (cc := c_Ab_checkPiece) (maxL := 3) (ret := none) (by decide) rfl ?_
  intro p e s m args below meth c s₁ B hml hno hv
  obtain ⟨rfl, E, hP, hD⟩ := hv
  have hx := B.exec
  have hb := B.bytes
  have hr := B.returns
  have hlocks := B.notSynchronized
  have Bx : MB p s m [.ref (ad 0), .int (i), .int (j)].toArray c c_Ab_checkPiece "AbnfChart" D cy := ⟨hx, hb, tb_all (atoms_spec B.pre) E.2.1, findClass_of_methodNamed B.named, E.1⟩
  have hS : va_S (Az sz) s.heap s.heap [] := va_S.rf
  have hl := lv_entry ([.ref (ad 0), .int (i), .int (j)]) (n := 3) (Nat.le_of_ble_eq_true rfl)
  rw [lg_entry_eq]
  generalize (lg_sl ([.ref (ad 0), .int (i), .int (j)]) ++ List.replicate (3 - (lg_sl ([.ref (ad 0), .int (i), .int (j)])).length) Slot.unset).toArray = ls at hl ⊢
  have hl : lv_has ls 3 [(0, .ref (ad 0)), (1, .int (i)), (2, .int (j))] := hl
  refine lv_iload_n Bx.1 Bx.2.1 d_Ab_checkPiece_0 rfl (lv_at hl 1 rfl) ?_
  refine lv_if_lt Bx.1 Bx.2.1 d_Ab_checkPiece_1 rfl (fun h => ?_) (fun h => ?_)
  · exact f_throw (rest := []) hlt Bx hml hlocks hno E hP hS (by decide +kernel) kw_552 kw_15 at_Ab_IO hl.1 d_Ab_checkPiece_20 d_Ab_checkPiece_23 d_Ab_checkPiece_24 d_Ab_checkPiece_27 ⟨Nat.le_of_ble_eq_true rfl, Nat.le_of_ble_eq_true rfl, Nat.le_of_ble_eq_true rfl, Nat.le_of_ble_eq_true rfl⟩ ⟨Nat.le_of_ble_eq_true rfl, Nat.le_of_ble_eq_true rfl⟩ ⟨rfl, rfl, Or.inl h⟩
  · refine lv_iload_n Bx.1 Bx.2.1 d_Ab_checkPiece_4 rfl (lv_at hl 2 rfl) ?_
    refine lv_iload_n Bx.1 Bx.2.1 d_Ab_checkPiece_5 rfl (lv_at hl 1 rfl) ?_
    refine lv_icmp_lt Bx.1 Bx.2.1 d_Ab_checkPiece_6 rfl (fun h2 => ?_) (fun h2 => ?_)
    · exact f_throw (rest := []) hlt Bx hml hlocks hno E hP hS (by decide +kernel) kw_552 kw_15 at_Ab_IO hl.1 d_Ab_checkPiece_20 d_Ab_checkPiece_23 d_Ab_checkPiece_24 d_Ab_checkPiece_27 ⟨Nat.le_of_ble_eq_true rfl, Nat.le_of_ble_eq_true rfl, Nat.le_of_ble_eq_true rfl, Nat.le_of_ble_eq_true rfl⟩ ⟨Nat.le_of_ble_eq_true rfl, Nat.le_of_ble_eq_true rfl⟩ ⟨rfl, rfl, Or.inr (Or.inl h2)⟩
    · refine lv_iload_n Bx.1 Bx.2.1 d_Ab_checkPiece_9 rfl (lv_at hl 2 rfl) ?_
      refine lv_aload_n Bx.1 Bx.2.1 d_Ab_checkPiece_10 rfl (lv_at hl 0 rfl) ?_
      refine f_get Bx hP (by omega) h0 rfl inAb 1 (by decide) kw_175 rfl rfl d_Ab_checkPiece_11 ?_
      refine f_getN Bx hP (by omega) h3 rfl inCh 1 (by decide) kw_34 rfl rfl d_Ab_checkPiece_14 ?_
      refine lv_icmp_le Bx.1 Bx.2.1 d_Ab_checkPiece_17 rfl (fun h3b => ?_) (fun h3b => ?_)
      · refine vx_ret (W.widen (k := 1) (n := 6) (by decide) (by decide) ?_)
        exact W.vret hx hb hr (fun t ht hW => ⟨⟨mem, rfl, ⟨rfl, h, h2, h3b⟩, by show va_P _ _ _ t.heap; rw [ht]; exact hP⟩, hS.F ht⟩) hS.2.2 d_Ab_checkPiece_28
      · exact f_throw (rest := []) hlt Bx hml hlocks hno E hP hS (by decide +kernel) kw_552 kw_15 at_Ab_IO hl.1 d_Ab_checkPiece_20 d_Ab_checkPiece_23 d_Ab_checkPiece_24 d_Ab_checkPiece_27 ⟨Nat.le_of_ble_eq_true rfl, Nat.le_of_ble_eq_true rfl, Nat.le_of_ble_eq_true rfl, Nat.le_of_ble_eq_true rfl⟩ ⟨Nat.le_of_ble_eq_true rfl, Nat.le_of_ble_eq_true rfl⟩ ⟨rfl, rfl, Or.inr (Or.inr h3b)⟩
set_option maxHeartbeats 4000000 in
set_option maxRecDepth 100000 in
theorem m_Ab_write (l : Launch) {D : va_G} {cy : Nat → ClassId} {sz n : Nat} {ad : Nat → Nat} {mem : Nat → va_E} {Z : Nat} {f : Nat → Int32} {x : Int64} {k : Int32} (hlt : l.stackTraces = false) (hn : 224 ≤ n) (h0 : mem 0 = .inr (6, [.ref (ad 1), .ref (ad 3), .ref (ad 5), .ref (ad 222), .ref (ad 223)])) (h1 : mem 1 = .inr (0, [.ref (ad 2), .int (nI Z)])) (h2 : mem 2 = .inl (cy 0, 240, .inl f)) (hZ : Z ≤ 240) : MXi l D cy sz n ad y_Ab_write c_Ab_write 4 (some .int) ({ frames := 6, cells := 1, slots := 6, locals := 90 } : Room) mem [.ref (ad 0), .long (x), .int (k)] (fun r mem' => ∃ N : Nat, k = nI N ∧ 1 ≤ N ∧ N ≤ 8 ∧ allB (fun i => okT (by8 x (nI i))) N = true ∧ Z + N ≤ 240 ∧ r = nI (Z + N) ∧ mem' = chM cy ad mem 1 2 240 (apB f Z x N) (Z + N)) (fun X mem' => mem' = mem ∧ ((X = cIA ∧ (k < 1 ∨ 8 < k ∨ ∃ N : Nat, k = nI N ∧ 1 ≤ N ∧ N ≤ 8 ∧ allB (fun i => okT (by8 x (nI i))) N = false)) ∨ (X = cIS ∧ ∃ N : Nat, k = nI N ∧ 1 ≤ N ∧ N ≤ 8 ∧ allB (fun i => okT (by8 x (nI i))) N = true ∧ 240 < Z + N))) := by
  refine vx_ofW (cc := c_Ab_write) (maxL := 4) (ret := (some .int)) (by decide) rfl ?_
  intro p e s m args below meth c s₁ B hml hno hv
  obtain ⟨rfl, E, hP, hD⟩ := hv
  have hx := B.exec
  have hb := B.bytes
  have hr := B.returns
  have hlocks := B.notSynchronized
  have Bx : MB p s m [.ref (ad 0), .long (x), .int (k)].toArray c c_Ab_write "AbnfChart" D cy := ⟨hx, hb, tb_all (atoms_spec B.pre) E.2.1, findClass_of_methodNamed B.named, E.1⟩
  have hS : va_S (Az sz) s.heap s.heap [] := va_S.rf
  have hl := lv_entry ([.ref (ad 0), .long (x), .int (k)]) (n := 4) (Nat.le_of_ble_eq_true rfl)
  rw [lg_entry_eq]
  generalize (lg_sl ([.ref (ad 0), .long (x), .int (k)]) ++ List.replicate (4 - (lg_sl ([.ref (ad 0), .long (x), .int (k)])).length) Slot.unset).toArray = ls at hl ⊢
  have hl : lv_has ls 4 [(0, .ref (ad 0)), (1, .long (x)), (3, .int (k))] := hl
  refine lv_iload_n Bx.1 Bx.2.1 d_Ab_write_0 rfl (lv_at hl 2 rfl) ?_
  refine f_callSi (na := 1) (As := [.int (k)]) (rest := []) Bx hml E.2.1 (m_Ab_isByteCount l k) kw_219 kw_220 kw_1 kw_221 (by decide +kernel) ⟨rfl, rfl⟩ ⟨Nat.le_of_ble_eq_true rfl, Nat.le_of_ble_eq_true rfl⟩ rfl hl.1 (Nat.le_of_ble_eq_true rfl) d_Ab_write_1 ⟨Nat.le_of_ble_eq_true rfl, Nat.le_of_ble_eq_true rfl⟩ (fun r1 hr1 => ?_)
  subst hr1
  refine lv_if_eq Bx.1 Bx.2.1 d_Ab_write_4 rfl (fun h => ?_) (fun h => ?_)
  · exact f_throw (rest := []) hlt Bx hml hlocks hno E hP hS (by decide +kernel) kw_229 kw_12 at_Ab_IA hl.1 d_Ab_write_15 d_Ab_write_18 d_Ab_write_19 d_Ab_write_22 ⟨Nat.le_of_ble_eq_true rfl, Nat.le_of_ble_eq_true rfl, Nat.le_of_ble_eq_true rfl, Nat.le_of_ble_eq_true rfl⟩ ⟨Nat.le_of_ble_eq_true rfl, Nat.le_of_ble_eq_true rfl⟩ ⟨rfl, Or.inl ⟨rfl, (bc_no h).elim Or.inl (fun q => Or.inr (Or.inl q))⟩⟩
  · obtain ⟨N, hN1, hN8, rfl⟩ := bc_ok h
    refine lv_lload_n Bx.1 Bx.2.1 d_Ab_write_7 rfl (lv_at hl 1 rfl) ?_
    refine lv_iload_n Bx.1 Bx.2.1 d_Ab_write_8 rfl (lv_at hl 2 rfl) ?_
    refine f_callSi (na := 2) (As := [.long (x), .int (nI N)]) (rest := []) Bx hml E.2.1 (m_Ab_areTextCodes l x N hN8) kw_222 kw_223 kw_1 kw_224 (by decide +kernel) ⟨rfl, rfl⟩ ⟨Nat.le_of_ble_eq_true rfl, Nat.le_of_ble_eq_true rfl⟩ rfl hl.1 (Nat.le_of_ble_eq_true rfl) d_Ab_write_9 ⟨Nat.le_of_ble_eq_true rfl, Nat.le_of_ble_eq_true rfl⟩ (fun r2 hr2 => ?_)
    subst hr2
    refine lv_if_ne Bx.1 Bx.2.1 d_Ab_write_12 rfl (fun h3 => ?_) (fun h3 => ?_)
    · have ha : allB (fun i => okT (by8 x (nI i))) N = true := if01' h3
      refine lv_aload_n Bx.1 Bx.2.1 d_Ab_write_23 rfl (lv_at hl 0 rfl) ?_
      refine f_get Bx hP (by omega) h0 rfl inAb 0 (by decide) kw_174 rfl rfl d_Ab_write_24 ?_
      refine lv_iload_n Bx.1 Bx.2.1 d_Ab_write_27 rfl (lv_at hl 2 rfl) ?_
      refine f_callVi (na := 1) (As := [.int (nI N)]) (rest := []) Bx hml E hP hD hS (by omega) h1 rfl (m_Ch_hasRoomFor l (by omega) h1 (by omega) h2) kw_293 kw_294 kw_295 kw_2 kw_296 (by decide +kernel) ⟨rfl, rfl⟩ ⟨Nat.le_of_ble_eq_true rfl, Nat.le_of_ble_eq_true rfl⟩ rfl hl.1 (Nat.le_of_ble_eq_true rfl) d_Ab_write_28 ⟨Nat.le_of_ble_eq_true rfl, Nat.le_of_ble_eq_true rfl⟩ (fun r3 mem4 H locs hq hP hS => ?_)
      obtain ⟨hr3, mem4e⟩ := hq
      rw [mem4e] at hP
      subst hr3
      refine lv_if_ne Bx.1 Bx.2.1 d_Ab_write_31 rfl (fun h4 => ?_) (fun h4 => ?_)
      · have hroom : Z + N ≤ 240 := by
          by_cases q : (nI 240 - nI Z : Int32) < nI N
          · rw [if_pos q] at h4; exact absurd rfl h4
          · rw [pk_sub hZ] at q; rw [nI_ltI (by omega) (by omega)] at q; omega
        refine lv_aload_n Bx.1 Bx.2.1 d_Ab_write_42 rfl (lv_at hl 0 rfl) ?_
        refine f_get Bx hP (by omega) h0 rfl inAb 0 (by decide) kw_174 rfl rfl d_Ab_write_43 ?_
        refine lv_lload_n Bx.1 Bx.2.1 d_Ab_write_46 rfl (lv_at hl 1 rfl) ?_
        refine lv_iload_n Bx.1 Bx.2.1 d_Ab_write_47 rfl (lv_at hl 2 rfl) ?_
        refine f_callVv (na := 2) (As := [.long (x), .int (nI N)]) (rest := []) Bx hml E hP hD hS (by omega) h1 rfl (m_Ch_appendBytes (N := N) l (by omega) h1 (by omega) h2 (by decide) hroom (by decide)) kw_312 kw_313 kw_314 kw_2 kw_315 (by decide +kernel) ⟨rfl, rfl⟩ ⟨Nat.le_of_ble_eq_true rfl, Nat.le_of_ble_eq_true rfl⟩ rfl hl.1 (Nat.le_of_ble_eq_true rfl) d_Ab_write_48 ⟨Nat.le_of_ble_eq_true rfl, Nat.le_of_ble_eq_true rfl⟩ (fun mem6 H locs hq2 hP hS => ?_)
        have hD : va_D (Az sz) (fw n ad mem6) := fw_D hD
        have h1n : mem6 1 = .inr (0, [.ref (ad 2), .int (nI (Z + N))]) := by rw [hq2]; exact va_up_self _ _ _
        have h0n : mem6 0 = .inr (6, [.ref (ad 1), .ref (ad 3), .ref (ad 5), .ref (ad 222), .ref (ad 223)]) := by rw [hq2]; unfold chM; rw [va_up_ne _ _ (by decide), va_up_ne _ _ (by decide)]; exact h0
        refine lv_aload_n Bx.1 Bx.2.1 d_Ab_write_51 rfl (lv_at hl 0 rfl) ?_
        refine f_get Bx hP (by omega) h0n rfl inAb 0 (by decide) kw_174 rfl rfl d_Ab_write_52 ?_
        refine f_getN Bx hP (by omega) h1n rfl inCh 1 (by decide) kw_34 rfl rfl d_Ab_write_55 ?_
        refine vx_ret (W.widen (k := 1) (n := 6) (by decide) (by decide) ?_)
        exact W.iret (v := nI (Z + N)) hx hb hr (fun t ht hW => ⟨⟨nI (Z + N), mem6, rfl, ⟨N, rfl, hN1, hN8, ha, hroom, rfl, by rw [hq2]⟩, by show va_P _ _ _ t.heap; rw [ht]; exact hP⟩, hS.F ht⟩) hS.2.2 d_Ab_write_58
      · have hroom : 240 < Z + N := by
          by_cases q : (nI 240 - nI Z : Int32) < nI N
          · rw [pk_sub hZ] at q; rw [nI_ltI (by omega) (by omega)] at q; omega
          · rw [if_neg q] at h4; exact absurd h4 (by decide)
        exact f_throw (rest := []) hlt Bx hml hlocks hno E hP hS (by decide +kernel) kw_297 kw_13 at_Ab_IS hl.1 d_Ab_write_34 d_Ab_write_37 d_Ab_write_38 d_Ab_write_41 ⟨Nat.le_of_ble_eq_true rfl, Nat.le_of_ble_eq_true rfl, Nat.le_of_ble_eq_true rfl, Nat.le_of_ble_eq_true rfl⟩ ⟨Nat.le_of_ble_eq_true rfl, Nat.le_of_ble_eq_true rfl⟩ ⟨rfl, Or.inr ⟨rfl, N, rfl, hN1, hN8, ha, hroom⟩⟩
    · exact f_throw (rest := []) hlt Bx hml hlocks hno E hP hS (by decide +kernel) kw_229 kw_12 at_Ab_IA hl.1 d_Ab_write_15 d_Ab_write_18 d_Ab_write_19 d_Ab_write_22 ⟨Nat.le_of_ble_eq_true rfl, Nat.le_of_ble_eq_true rfl, Nat.le_of_ble_eq_true rfl, Nat.le_of_ble_eq_true rfl⟩ ⟨Nat.le_of_ble_eq_true rfl, Nat.le_of_ble_eq_true rfl⟩ ⟨rfl, Or.inl ⟨rfl, Or.inr (Or.inr ⟨N, rfl, hN1, hN8, if01 h3⟩)⟩⟩
set_option maxHeartbeats 4000000 in
set_option maxRecDepth 100000 in
theorem m_Ab_give (l : Launch) {D : va_G} {cy : Nat → ClassId} {sz n : Nat} {ad : Nat → Nat} {mem : Nat → va_E} {Z : Nat} {f : Nat → Int32} {x : Int64} {k : Int32} {a b : Value} {fl : Int32} (hlt : l.stackTraces = false) (hn : 224 ≤ n) (h0 : mem 0 = .inr (6, [.ref (ad 1), .ref (ad 3), .ref (ad 5), .ref (ad 222), .ref (ad 223)])) (h1 : mem 3 = .inr (0, [.ref (ad 4), .int (nI Z)])) (h2 : mem 4 = .inl (cy 0, 24, .inl f)) (hZ : Z ≤ 24) (hc : mem 223 = .inr (1, [a, b, .int fl])) : MXi l D cy sz n ad y_Ab_give c_Ab_give 4 (some .int) ({ frames := 6, cells := 1, slots := 6, locals := 90 } : Room) mem [.ref (ad 0), .long (x), .int (k)] (fun r mem' => ∃ N : Nat, k = nI N ∧ 1 ≤ N ∧ N ≤ 8 ∧ allB (fun i => okI (by8 x (nI i))) N = true ∧ Z + N ≤ 24 ∧ r = nI (Z + N) ∧ mem' = chM cy ad (va_up mem 223 (.inr (1, [a, b, .int 0]))) 3 4 24 (apB f Z x N) (Z + N)) (fun X mem' => mem' = mem ∧ ((X = cIA ∧ (k < 1 ∨ 8 < k ∨ ∃ N : Nat, k = nI N ∧ 1 ≤ N ∧ N ≤ 8 ∧ allB (fun i => okI (by8 x (nI i))) N = false)) ∨ (X = cIS ∧ ∃ N : Nat, k = nI N ∧ 1 ≤ N ∧ N ≤ 8 ∧ allB (fun i => okI (by8 x (nI i))) N = true ∧ 24 < Z + N))) := by
  refine vx_ofW (cc := c_Ab_give) (maxL := 4) (ret := (some .int)) (by decide) rfl ?_
  intro p e s m args below meth c s₁ B hml hno hv
  obtain ⟨rfl, E, hP, hD⟩ := hv
  have hx := B.exec
  have hb := B.bytes
  have hr := B.returns
  have hlocks := B.notSynchronized
  have Bx : MB p s m [.ref (ad 0), .long (x), .int (k)].toArray c c_Ab_give "AbnfChart" D cy := ⟨hx, hb, tb_all (atoms_spec B.pre) E.2.1, findClass_of_methodNamed B.named, E.1⟩
  have hS : va_S (Az sz) s.heap s.heap [] := va_S.rf
  have hl := lv_entry ([.ref (ad 0), .long (x), .int (k)]) (n := 4) (Nat.le_of_ble_eq_true rfl)
  rw [lg_entry_eq]
  generalize (lg_sl ([.ref (ad 0), .long (x), .int (k)]) ++ List.replicate (4 - (lg_sl ([.ref (ad 0), .long (x), .int (k)])).length) Slot.unset).toArray = ls at hl ⊢
  have hl : lv_has ls 4 [(0, .ref (ad 0)), (1, .long (x)), (3, .int (k))] := hl
  refine lv_iload_n Bx.1 Bx.2.1 d_Ab_give_0 rfl (lv_at hl 2 rfl) ?_
  refine f_callSi (na := 1) (As := [.int (k)]) (rest := []) Bx hml E.2.1 (m_Ab_isByteCount l k) kw_219 kw_220 kw_1 kw_221 (by decide +kernel) ⟨rfl, rfl⟩ ⟨Nat.le_of_ble_eq_true rfl, Nat.le_of_ble_eq_true rfl⟩ rfl hl.1 (Nat.le_of_ble_eq_true rfl) d_Ab_give_1 ⟨Nat.le_of_ble_eq_true rfl, Nat.le_of_ble_eq_true rfl⟩ (fun r1 hr1 => ?_)
  subst hr1
  refine lv_if_eq Bx.1 Bx.2.1 d_Ab_give_4 rfl (fun h => ?_) (fun h => ?_)
  · exact f_throw (rest := []) hlt Bx hml hlocks hno E hP hS (by decide +kernel) kw_229 kw_12 at_Ab_IA hl.1 d_Ab_give_15 d_Ab_give_18 d_Ab_give_19 d_Ab_give_22 ⟨Nat.le_of_ble_eq_true rfl, Nat.le_of_ble_eq_true rfl, Nat.le_of_ble_eq_true rfl, Nat.le_of_ble_eq_true rfl⟩ ⟨Nat.le_of_ble_eq_true rfl, Nat.le_of_ble_eq_true rfl⟩ ⟨rfl, Or.inl ⟨rfl, (bc_no h).elim Or.inl (fun q => Or.inr (Or.inl q))⟩⟩
  · obtain ⟨N, hN1, hN8, rfl⟩ := bc_ok h
    refine lv_lload_n Bx.1 Bx.2.1 d_Ab_give_7 rfl (lv_at hl 1 rfl) ?_
    refine lv_iload_n Bx.1 Bx.2.1 d_Ab_give_8 rfl (lv_at hl 2 rfl) ?_
    refine f_callSi (na := 2) (As := [.long (x), .int (nI N)]) (rest := []) Bx hml E.2.1 (m_Ab_areInputCodes l x N hN8) kw_537 kw_538 kw_1 kw_539 (by decide +kernel) ⟨rfl, rfl⟩ ⟨Nat.le_of_ble_eq_true rfl, Nat.le_of_ble_eq_true rfl⟩ rfl hl.1 (Nat.le_of_ble_eq_true rfl) d_Ab_give_9 ⟨Nat.le_of_ble_eq_true rfl, Nat.le_of_ble_eq_true rfl⟩ (fun r2 hr2 => ?_)
    subst hr2
    refine lv_if_ne Bx.1 Bx.2.1 d_Ab_give_12 rfl (fun h3 => ?_) (fun h3 => ?_)
    · have ha : allB (fun i => okI (by8 x (nI i))) N = true := if01' h3
      refine lv_aload_n Bx.1 Bx.2.1 d_Ab_give_23 rfl (lv_at hl 0 rfl) ?_
      refine f_get Bx hP (by omega) h0 rfl inAb 1 (by decide) kw_175 rfl rfl d_Ab_give_24 ?_
      refine lv_iload_n Bx.1 Bx.2.1 d_Ab_give_27 rfl (lv_at hl 2 rfl) ?_
      refine f_callVi (na := 1) (As := [.int (nI N)]) (rest := []) Bx hml E hP hD hS (by omega) h1 rfl (m_Ch_hasRoomFor l (by omega) h1 (by omega) h2) kw_293 kw_294 kw_295 kw_2 kw_296 (by decide +kernel) ⟨rfl, rfl⟩ ⟨Nat.le_of_ble_eq_true rfl, Nat.le_of_ble_eq_true rfl⟩ rfl hl.1 (Nat.le_of_ble_eq_true rfl) d_Ab_give_28 ⟨Nat.le_of_ble_eq_true rfl, Nat.le_of_ble_eq_true rfl⟩ (fun r3 mem4 H locs hq hP hS => ?_)
      obtain ⟨hr3, mem4e⟩ := hq
      rw [mem4e] at hP
      subst hr3
      refine lv_if_ne Bx.1 Bx.2.1 d_Ab_give_31 rfl (fun h4 => ?_) (fun h4 => ?_)
      · have hroom : Z + N ≤ 24 := by
          by_cases q : (nI 24 - nI Z : Int32) < nI N
          · rw [if_pos q] at h4; exact absurd rfl h4
          · rw [pk_sub hZ] at q; rw [nI_ltI (by omega) (by omega)] at q; omega
        refine lv_aload_n Bx.1 Bx.2.1 d_Ab_give_42 rfl (lv_at hl 0 rfl) ?_
        refine f_get Bx hP (by omega) h0 rfl inAb 4 (by decide) kw_178 rfl rfl d_Ab_give_43 ?_
        refine f_callVv (na := 0) (As := []) (rest := []) Bx hml E hP hD hS (by omega) hc rfl (m_Ct_forget l (by omega) hc) kw_206 kw_207 kw_208 kw_7 kw_209 (by decide +kernel) ⟨rfl, rfl⟩ ⟨Nat.le_of_ble_eq_true rfl, Nat.le_of_ble_eq_true rfl⟩ rfl hl.1 (Nat.le_of_ble_eq_true rfl) d_Ab_give_46 ⟨Nat.le_of_ble_eq_true rfl, Nat.le_of_ble_eq_true rfl⟩ (fun mem6 H locs hqf hP hS => ?_)
        have hD : va_D (Az sz) (fw n ad mem6) := fw_D hD
        have h2' : mem6 4 = .inl (cy 0, 24, .inl f) := by rw [hqf, va_up_ne _ _ (by decide)]; exact h2
        have hh7 : mem6 (0) = .inr (6, [.ref (ad 1), .ref (ad 3), .ref (ad 5), .ref (ad 222), .ref (ad 223)]) := by rw [hqf]; (try unfold chM); rw [va_up_ne _ _ (by first | decide | assumption | omega)]; exact h0
        have hh8 : mem6 (3) = .inr (0, [.ref (ad 4), .int (nI Z)]) := by rw [hqf]; (try unfold chM); rw [va_up_ne _ _ (by first | decide | assumption | omega)]; exact h1
        refine lv_aload_n Bx.1 Bx.2.1 d_Ab_give_49 rfl (lv_at hl 0 rfl) ?_
        refine f_get Bx hP (by omega) hh7 rfl inAb 1 (by decide) kw_175 rfl rfl d_Ab_give_50 ?_
        refine lv_lload_n Bx.1 Bx.2.1 d_Ab_give_53 rfl (lv_at hl 1 rfl) ?_
        refine lv_iload_n Bx.1 Bx.2.1 d_Ab_give_54 rfl (lv_at hl 2 rfl) ?_
        refine f_callVv (na := 2) (As := [.long (x), .int (nI N)]) (rest := []) Bx hml E hP hD hS (by omega) hh8 rfl (m_Ch_appendBytes (N := N) l (by omega) hh8 (by omega) h2' (by decide) hroom (by decide)) kw_312 kw_313 kw_314 kw_2 kw_315 (by decide +kernel) ⟨rfl, rfl⟩ ⟨Nat.le_of_ble_eq_true rfl, Nat.le_of_ble_eq_true rfl⟩ rfl hl.1 (Nat.le_of_ble_eq_true rfl) d_Ab_give_55 ⟨Nat.le_of_ble_eq_true rfl, Nat.le_of_ble_eq_true rfl⟩ (fun mem10 H locs hq2 hP hS => ?_)
        have hD : va_D (Az sz) (fw n ad mem10) := fw_D hD
        have h1n : mem10 3 = .inr (0, [.ref (ad 4), .int (nI (Z + N))]) := by rw [hq2]; exact va_up_self _ _ _
        have h0n : mem10 0 = .inr (6, [.ref (ad 1), .ref (ad 3), .ref (ad 5), .ref (ad 222), .ref (ad 223)]) := by rw [hq2]; unfold chM; rw [va_up_ne _ _ (by decide), va_up_ne _ _ (by decide)]; exact hh7
        refine lv_aload_n Bx.1 Bx.2.1 d_Ab_give_58 rfl (lv_at hl 0 rfl) ?_
        refine f_get Bx hP (by omega) h0n rfl inAb 1 (by decide) kw_175 rfl rfl d_Ab_give_59 ?_
        refine f_getN Bx hP (by omega) h1n rfl inCh 1 (by decide) kw_34 rfl rfl d_Ab_give_62 ?_
        refine vx_ret (W.widen (k := 1) (n := 6) (by decide) (by decide) ?_)
        exact W.iret (v := nI (Z + N)) hx hb hr (fun t ht hW => ⟨⟨nI (Z + N), mem10, rfl, ⟨N, rfl, hN1, hN8, ha, hroom, rfl, by rw [hq2, hqf]⟩, by show va_P _ _ _ t.heap; rw [ht]; exact hP⟩, hS.F ht⟩) hS.2.2 d_Ab_give_65
      · have hroom : 24 < Z + N := by
          by_cases q : (nI 24 - nI Z : Int32) < nI N
          · rw [pk_sub hZ] at q; rw [nI_ltI (by omega) (by omega)] at q; omega
          · rw [if_neg q] at h4; exact absurd h4 (by decide)
        exact f_throw (rest := []) hlt Bx hml hlocks hno E hP hS (by decide +kernel) kw_297 kw_13 at_Ab_IS hl.1 d_Ab_give_34 d_Ab_give_37 d_Ab_give_38 d_Ab_give_41 ⟨Nat.le_of_ble_eq_true rfl, Nat.le_of_ble_eq_true rfl, Nat.le_of_ble_eq_true rfl, Nat.le_of_ble_eq_true rfl⟩ ⟨Nat.le_of_ble_eq_true rfl, Nat.le_of_ble_eq_true rfl⟩ ⟨rfl, Or.inr ⟨rfl, N, rfl, hN1, hN8, ha, hroom⟩⟩
    · exact f_throw (rest := []) hlt Bx hml hlocks hno E hP hS (by decide +kernel) kw_229 kw_12 at_Ab_IA hl.1 d_Ab_give_15 d_Ab_give_18 d_Ab_give_19 d_Ab_give_22 ⟨Nat.le_of_ble_eq_true rfl, Nat.le_of_ble_eq_true rfl, Nat.le_of_ble_eq_true rfl, Nat.le_of_ble_eq_true rfl⟩ ⟨Nat.le_of_ble_eq_true rfl, Nat.le_of_ble_eq_true rfl⟩ ⟨rfl, Or.inl ⟨rfl, Or.inr (Or.inr ⟨N, rfl, hN1, hN8, if01 h3⟩)⟩⟩
