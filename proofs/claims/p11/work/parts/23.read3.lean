theorem d_Gr_find_0 : decode c_Gr_find 0 = .ok (.iconst 0, 1) := by decide +kernel
theorem d_Gr_find_1 : decode c_Gr_find 1 = .ok (.istore_n 3, 1) := by decide +kernel
theorem d_Gr_find_2 : decode c_Gr_find 2 = .ok (.iload_n 3, 1) := by decide +kernel
theorem d_Gr_find_3 : decode c_Gr_find 3 = .ok (.aload_n 0, 1) := by decide +kernel
theorem d_Gr_find_4 : decode c_Gr_find 4 = .ok (.getfield 34, 3) := by decide +kernel
theorem d_Gr_find_7 : decode c_Gr_find 7 = .ok (.if_icmp .ge 25, 3) := by decide +kernel
theorem d_Gr_find_10 : decode c_Gr_find 10 = .ok (.aload_n 0, 1) := by decide +kernel
theorem d_Gr_find_11 : decode c_Gr_find 11 = .ok (.getfield 11, 3) := by decide +kernel
theorem d_Gr_find_14 : decode c_Gr_find 14 = .ok (.iload_n 3, 1) := by decide +kernel
theorem d_Gr_find_15 : decode c_Gr_find 15 = .ok (.aaload, 1) := by decide +kernel
theorem d_Gr_find_16 : decode c_Gr_find 16 = .ok (.getfield 56, 3) := by decide +kernel
theorem d_Gr_find_19 : decode c_Gr_find 19 = .ok (.lload_n 1, 1) := by decide +kernel
theorem d_Gr_find_20 : decode c_Gr_find 20 = .ok (.lcmp, 1) := by decide +kernel
theorem d_Gr_find_21 : decode c_Gr_find 21 = .ok (.ifCond .ne 5, 3) := by decide +kernel
theorem d_Gr_find_24 : decode c_Gr_find 24 = .ok (.iload_n 3, 1) := by decide +kernel
theorem d_Gr_find_25 : decode c_Gr_find 25 = .ok (.ireturn, 1) := by decide +kernel
theorem d_Gr_find_26 : decode c_Gr_find 26 = .ok (.iinc 3 1, 3) := by decide +kernel
theorem d_Gr_find_29 : decode c_Gr_find 29 = .ok (.goto (-27), 3) := by decide +kernel
theorem d_Gr_find_32 : decode c_Gr_find 32 = .ok (.iconst (-1), 1) := by decide +kernel
theorem d_Gr_find_33 : decode c_Gr_find 33 = .ok (.ireturn, 1) := by decide +kernel
theorem d_Rd_fullLineFrom_0 : decode c_Rd_fullLineFrom 0 = .ok (.iload_n 1, 1) := by decide +kernel
theorem d_Rd_fullLineFrom_1 : decode c_Rd_fullLineFrom 1 = .ok (.istore_n 2, 1) := by decide +kernel
theorem d_Rd_fullLineFrom_2 : decode c_Rd_fullLineFrom 2 = .ok (.iconst 0, 1) := by decide +kernel
theorem d_Rd_fullLineFrom_3 : decode c_Rd_fullLineFrom 3 = .ok (.istore_n 3, 1) := by decide +kernel
theorem d_Rd_fullLineFrom_4 : decode c_Rd_fullLineFrom 4 = .ok (.iload_n 1, 1) := by decide +kernel
theorem d_Rd_fullLineFrom_5 : decode c_Rd_fullLineFrom 5 = .ok (.istore 4, 2) := by decide +kernel
theorem d_Rd_fullLineFrom_7 : decode c_Rd_fullLineFrom 7 = .ok (.iload 4, 2) := by decide +kernel
theorem d_Rd_fullLineFrom_9 : decode c_Rd_fullLineFrom 9 = .ok (.aload_n 0, 1) := by decide +kernel
theorem d_Rd_fullLineFrom_10 : decode c_Rd_fullLineFrom 10 = .ok (.getfield 9, 3) := by decide +kernel
theorem d_Rd_fullLineFrom_13 : decode c_Rd_fullLineFrom 13 = .ok (.getfield 38, 3) := by decide +kernel
theorem d_Rd_fullLineFrom_16 : decode c_Rd_fullLineFrom 16 = .ok (.if_icmp .ge 62, 3) := by decide +kernel
theorem d_Rd_fullLineFrom_19 : decode c_Rd_fullLineFrom 19 = .ok (.aload_n 0, 1) := by decide +kernel
theorem d_Rd_fullLineFrom_20 : decode c_Rd_fullLineFrom 20 = .ok (.getfield 9, 3) := by decide +kernel
theorem d_Rd_fullLineFrom_23 : decode c_Rd_fullLineFrom 23 = .ok (.iload 4, 2) := by decide +kernel
theorem d_Rd_fullLineFrom_25 : decode c_Rd_fullLineFrom 25 = .ok (.invokevirtual 132, 3) := by decide +kernel
theorem d_Rd_fullLineFrom_28 : decode c_Rd_fullLineFrom 28 = .ok (.istore 5, 2) := by decide +kernel
theorem d_Rd_fullLineFrom_30 : decode c_Rd_fullLineFrom 30 = .ok (.iload 5, 2) := by decide +kernel
theorem d_Rd_fullLineFrom_32 : decode c_Rd_fullLineFrom 32 = .ok (.bipush 10, 2) := by decide +kernel
theorem d_Rd_fullLineFrom_34 : decode c_Rd_fullLineFrom 34 = .ok (.if_icmp .ne 13, 3) := by decide +kernel
theorem d_Rd_fullLineFrom_37 : decode c_Rd_fullLineFrom 37 = .ok (.iload 4, 2) := by decide +kernel
theorem d_Rd_fullLineFrom_39 : decode c_Rd_fullLineFrom 39 = .ok (.iconst 1, 1) := by decide +kernel
theorem d_Rd_fullLineFrom_40 : decode c_Rd_fullLineFrom 40 = .ok (.iadd, 1) := by decide +kernel
theorem d_Rd_fullLineFrom_41 : decode c_Rd_fullLineFrom 41 = .ok (.istore_n 2, 1) := by decide +kernel
theorem d_Rd_fullLineFrom_42 : decode c_Rd_fullLineFrom 42 = .ok (.iconst 0, 1) := by decide +kernel
theorem d_Rd_fullLineFrom_43 : decode c_Rd_fullLineFrom 43 = .ok (.istore_n 3, 1) := by decide +kernel
theorem d_Rd_fullLineFrom_44 : decode c_Rd_fullLineFrom 44 = .ok (.goto 28, 3) := by decide +kernel
theorem d_Rd_fullLineFrom_47 : decode c_Rd_fullLineFrom 47 = .ok (.iload 5, 2) := by decide +kernel
theorem d_Rd_fullLineFrom_49 : decode c_Rd_fullLineFrom 49 = .ok (.bipush 59, 2) := by decide +kernel
theorem d_Rd_fullLineFrom_51 : decode c_Rd_fullLineFrom 51 = .ok (.if_icmp .ne 8, 3) := by decide +kernel
theorem d_Rd_fullLineFrom_54 : decode c_Rd_fullLineFrom 54 = .ok (.iconst 1, 1) := by decide +kernel
theorem d_Rd_fullLineFrom_55 : decode c_Rd_fullLineFrom 55 = .ok (.istore_n 3, 1) := by decide +kernel
theorem d_Rd_fullLineFrom_56 : decode c_Rd_fullLineFrom 56 = .ok (.goto 16, 3) := by decide +kernel
theorem d_Rd_fullLineFrom_59 : decode c_Rd_fullLineFrom 59 = .ok (.iload 5, 2) := by decide +kernel
theorem d_Rd_fullLineFrom_61 : decode c_Rd_fullLineFrom 61 = .ok (.bipush 32, 2) := by decide +kernel
theorem d_Rd_fullLineFrom_63 : decode c_Rd_fullLineFrom 63 = .ok (.if_icmp .eq 9, 3) := by decide +kernel
theorem d_Rd_fullLineFrom_66 : decode c_Rd_fullLineFrom 66 = .ok (.iload_n 3, 1) := by decide +kernel
theorem d_Rd_fullLineFrom_67 : decode c_Rd_fullLineFrom 67 = .ok (.ifCond .ne 5, 3) := by decide +kernel
theorem d_Rd_fullLineFrom_70 : decode c_Rd_fullLineFrom 70 = .ok (.iload_n 2, 1) := by decide +kernel
theorem d_Rd_fullLineFrom_71 : decode c_Rd_fullLineFrom 71 = .ok (.ireturn, 1) := by decide +kernel
theorem d_Rd_fullLineFrom_72 : decode c_Rd_fullLineFrom 72 = .ok (.iinc 4 1, 3) := by decide +kernel
theorem d_Rd_fullLineFrom_75 : decode c_Rd_fullLineFrom 75 = .ok (.goto (-68), 3) := by decide +kernel
theorem d_Rd_fullLineFrom_78 : decode c_Rd_fullLineFrom 78 = .ok (.aload_n 0, 1) := by decide +kernel
theorem d_Rd_fullLineFrom_79 : decode c_Rd_fullLineFrom 79 = .ok (.getfield 9, 3) := by decide +kernel
theorem d_Rd_fullLineFrom_82 : decode c_Rd_fullLineFrom 82 = .ok (.getfield 38, 3) := by decide +kernel
theorem d_Rd_fullLineFrom_85 : decode c_Rd_fullLineFrom 85 = .ok (.ireturn, 1) := by decide +kernel
theorem d_Rd_readGap_0 : decode c_Rd_readGap 0 = .ok (.aload_n 0, 1) := by decide +kernel
theorem d_Rd_readGap_1 : decode c_Rd_readGap 1 = .ok (.getfield 19, 3) := by decide +kernel
theorem d_Rd_readGap_4 : decode c_Rd_readGap 4 = .ok (.istore_n 1, 1) := by decide +kernel
theorem d_Rd_readGap_5 : decode c_Rd_readGap 5 = .ok (.iconst 0, 1) := by decide +kernel
theorem d_Rd_readGap_6 : decode c_Rd_readGap 6 = .ok (.istore_n 2, 1) := by decide +kernel
theorem d_Rd_readGap_7 : decode c_Rd_readGap 7 = .ok (.iconst 0, 1) := by decide +kernel
theorem d_Rd_readGap_8 : decode c_Rd_readGap 8 = .ok (.istore_n 3, 1) := by decide +kernel
theorem d_Rd_readGap_9 : decode c_Rd_readGap 9 = .ok (.iload_n 3, 1) := by decide +kernel
theorem d_Rd_readGap_10 : decode c_Rd_readGap 10 = .ok (.sipush 240, 3) := by decide +kernel
theorem d_Rd_readGap_13 : decode c_Rd_readGap 13 = .ok (.if_icmp .ge 112, 3) := by decide +kernel
theorem d_Rd_readGap_16 : decode c_Rd_readGap 16 = .ok (.aload_n 0, 1) := by decide +kernel
theorem d_Rd_readGap_17 : decode c_Rd_readGap 17 = .ok (.getfield 19, 3) := by decide +kernel
theorem d_Rd_readGap_20 : decode c_Rd_readGap 20 = .ok (.aload_n 0, 1) := by decide +kernel
theorem d_Rd_readGap_21 : decode c_Rd_readGap 21 = .ok (.getfield 9, 3) := by decide +kernel
theorem d_Rd_readGap_24 : decode c_Rd_readGap 24 = .ok (.getfield 38, 3) := by decide +kernel
theorem d_Rd_readGap_27 : decode c_Rd_readGap 27 = .ok (.if_icmp .ge 98, 3) := by decide +kernel
theorem d_Rd_readGap_30 : decode c_Rd_readGap 30 = .ok (.aload_n 0, 1) := by decide +kernel
theorem d_Rd_readGap_31 : decode c_Rd_readGap 31 = .ok (.invokevirtual 54, 3) := by decide +kernel
theorem d_Rd_readGap_34 : decode c_Rd_readGap 34 = .ok (.istore 4, 2) := by decide +kernel
theorem d_Rd_readGap_36 : decode c_Rd_readGap 36 = .ok (.iload 4, 2) := by decide +kernel
theorem d_Rd_readGap_38 : decode c_Rd_readGap 38 = .ok (.bipush 10, 2) := by decide +kernel
theorem d_Rd_readGap_40 : decode c_Rd_readGap 40 = .ok (.if_icmp .ne 43, 3) := by decide +kernel
theorem d_Rd_readGap_43 : decode c_Rd_readGap 43 = .ok (.aload_n 0, 1) := by decide +kernel
theorem d_Rd_readGap_44 : decode c_Rd_readGap 44 = .ok (.aload_n 0, 1) := by decide +kernel
theorem d_Rd_readGap_45 : decode c_Rd_readGap 45 = .ok (.getfield 19, 3) := by decide +kernel
theorem d_Rd_readGap_48 : decode c_Rd_readGap 48 = .ok (.iconst 1, 1) := by decide +kernel
theorem d_Rd_readGap_49 : decode c_Rd_readGap 49 = .ok (.iadd, 1) := by decide +kernel
theorem d_Rd_readGap_50 : decode c_Rd_readGap 50 = .ok (.invokevirtual 31, 3) := by decide +kernel
theorem d_Rd_readGap_53 : decode c_Rd_readGap 53 = .ok (.istore 5, 2) := by decide +kernel
theorem d_Rd_readGap_55 : decode c_Rd_readGap 55 = .ok (.aload_n 0, 1) := by decide +kernel
theorem d_Rd_readGap_56 : decode c_Rd_readGap 56 = .ok (.getfield 9, 3) := by decide +kernel
theorem d_Rd_readGap_59 : decode c_Rd_readGap 59 = .ok (.iload 5, 2) := by decide +kernel
theorem d_Rd_readGap_61 : decode c_Rd_readGap 61 = .ok (.invokevirtual 132, 3) := by decide +kernel
theorem d_Rd_readGap_64 : decode c_Rd_readGap 64 = .ok (.bipush 32, 2) := by decide +kernel
theorem d_Rd_readGap_66 : decode c_Rd_readGap 66 = .ok (.if_icmp .eq 6, 3) := by decide +kernel
theorem d_Rd_readGap_69 : decode c_Rd_readGap 69 = .ok (.goto 56, 3) := by decide +kernel
theorem d_Rd_readGap_72 : decode c_Rd_readGap 72 = .ok (.aload_n 0, 1) := by decide +kernel
theorem d_Rd_readGap_73 : decode c_Rd_readGap 73 = .ok (.iload 5, 2) := by decide +kernel
theorem d_Rd_readGap_75 : decode c_Rd_readGap 75 = .ok (.putfield 19, 3) := by decide +kernel
theorem d_Rd_readGap_78 : decode c_Rd_readGap 78 = .ok (.iconst 0, 1) := by decide +kernel
theorem d_Rd_readGap_79 : decode c_Rd_readGap 79 = .ok (.istore_n 2, 1) := by decide +kernel
theorem d_Rd_readGap_80 : decode c_Rd_readGap 80 = .ok (.goto 29, 3) := by decide +kernel
theorem d_Rd_readGap_83 : decode c_Rd_readGap 83 = .ok (.iload 4, 2) := by decide +kernel
theorem d_Rd_readGap_85 : decode c_Rd_readGap 85 = .ok (.bipush 59, 2) := by decide +kernel
theorem d_Rd_readGap_87 : decode c_Rd_readGap 87 = .ok (.if_icmp .ne 8, 3) := by decide +kernel
theorem d_Rd_readGap_90 : decode c_Rd_readGap 90 = .ok (.iconst 1, 1) := by decide +kernel
theorem d_Rd_readGap_91 : decode c_Rd_readGap 91 = .ok (.istore_n 2, 1) := by decide +kernel
theorem d_Rd_readGap_92 : decode c_Rd_readGap 92 = .ok (.goto 17, 3) := by decide +kernel
theorem d_Rd_readGap_95 : decode c_Rd_readGap 95 = .ok (.iload 4, 2) := by decide +kernel
theorem d_Rd_readGap_97 : decode c_Rd_readGap 97 = .ok (.bipush 32, 2) := by decide +kernel
theorem d_Rd_readGap_99 : decode c_Rd_readGap 99 = .ok (.if_icmp .eq 10, 3) := by decide +kernel
theorem d_Rd_readGap_102 : decode c_Rd_readGap 102 = .ok (.iload_n 2, 1) := by decide +kernel
theorem d_Rd_readGap_103 : decode c_Rd_readGap 103 = .ok (.ifCond .ne 6, 3) := by decide +kernel
theorem d_Rd_readGap_106 : decode c_Rd_readGap 106 = .ok (.goto 19, 3) := by decide +kernel
theorem d_Rd_readGap_109 : decode c_Rd_readGap 109 = .ok (.aload_n 0, 1) := by decide +kernel
theorem d_Rd_readGap_110 : decode c_Rd_readGap 110 = .ok (.dup, 1) := by decide +kernel
theorem d_Rd_readGap_111 : decode c_Rd_readGap 111 = .ok (.getfield 19, 3) := by decide +kernel
theorem d_Rd_readGap_114 : decode c_Rd_readGap 114 = .ok (.iconst 1, 1) := by decide +kernel
theorem d_Rd_readGap_115 : decode c_Rd_readGap 115 = .ok (.iadd, 1) := by decide +kernel
theorem d_Rd_readGap_116 : decode c_Rd_readGap 116 = .ok (.putfield 19, 3) := by decide +kernel
theorem d_Rd_readGap_119 : decode c_Rd_readGap 119 = .ok (.iinc 3 1, 3) := by decide +kernel
theorem d_Rd_readGap_122 : decode c_Rd_readGap 122 = .ok (.goto (-113), 3) := by decide +kernel
theorem d_Rd_readGap_125 : decode c_Rd_readGap 125 = .ok (.aload_n 0, 1) := by decide +kernel
theorem d_Rd_readGap_126 : decode c_Rd_readGap 126 = .ok (.getfield 19, 3) := by decide +kernel
theorem d_Rd_readGap_129 : decode c_Rd_readGap 129 = .ok (.iload_n 1, 1) := by decide +kernel
theorem d_Rd_readGap_130 : decode c_Rd_readGap 130 = .ok (.if_icmp .le 7, 3) := by decide +kernel
theorem d_Rd_readGap_133 : decode c_Rd_readGap 133 = .ok (.iconst 1, 1) := by decide +kernel
theorem d_Rd_readGap_134 : decode c_Rd_readGap 134 = .ok (.goto 4, 3) := by decide +kernel
theorem d_Rd_readGap_137 : decode c_Rd_readGap 137 = .ok (.iconst 0, 1) := by decide +kernel
theorem d_Rd_readGap_138 : decode c_Rd_readGap 138 = .ok (.ireturn, 1) := by decide +kernel
theorem inc_meas {k b : Int32} (h : ¬ b ≤ k) : (b.toInt - (k + 1).toInt).toNat < (b.toInt - k.toInt).toNat := by
  have h1 : k.toInt < b.toInt := Int32.lt_iff_toInt_lt.mp (Int32.not_le.mp h)
  have h2 : b.toInt < 2 ^ 31 := Int32.toInt_lt b
  have h3 : -2 ^ 31 ≤ k.toInt := Int32.le_toInt k
  have e1 : (1 : Int32).toInt = 1 := by decide
  have h4 : (k + 1).toInt = k.toInt + 1 := by
    rw [Int32.toInt_add, e1]
    exact Int.bmod_eq_of_le (by omega) (by omega)
  omega
set_option maxHeartbeats 4000000 in
set_option maxRecDepth 100000 in
theorem m_Rd_addElement (l : Launch) {D : va_G} {cy : Nat → ClassId} {sz n : Nat} {ad : Nat → Nat} {mem : Nat → va_E} {Z : Nat} {f : Nat → Int32} {lim rc ec : Nat} {m0 : Nat → va_E} {kd st : Int32} (hlt : l.stackTraces = false) (hn : 224 ≤ n) (hT : TX cy ad Z f m0) (hRS : RS cy ad lim rc ec m0 mem) : NXr l D cy sz n ad y_Rd_addElement c_Rd_addElement 3 (some (.object "AbnfChart$Element")) ({ frames := 8, cells := 1, slots := 6, locals := 130 } : Room) mem [.ref (ad 222), .int (kd), .int (st)] (fun r mem' => r = ad (20 + 2 * ec) ∧ ec < 100 ∧ RS cy ad lim rc (ec + 1) m0 mem') (fun X mem' => (X = cIA ∨ X = cIS) ∧ ∃ rc' ec' : Nat, RS cy ad lim rc' ec' m0 mem') := by
  refine vx_ofW (cc := c_Rd_addElement) (maxL := 3) (ret := (some (.object "AbnfChart$Element"))) (by decide) rfl ?_
  intro p e s m args below meth c s₁ B hml hno hv
  obtain ⟨rfl, E, hP, hD⟩ := hv
  have hx := B.exec
  have hb := B.bytes
  have hr := B.returns
  have hlocks := B.notSynchronized
  have Bx : MB p s m [.ref (ad 222), .int (kd), .int (st)].toArray c c_Rd_addElement "AbnfChart$Reader" D cy := ⟨hx, hb, tb_all (atoms_spec B.pre) E.2.1, findClass_of_methodNamed B.named, E.1⟩
  have hS : va_S (Az sz) s.heap s.heap [] := va_S.rf
  have hl := lv_entry ([.ref (ad 222), .int (kd), .int (st)]) (n := 3) (Nat.le_of_ble_eq_true rfl)
  rw [lg_entry_eq]
  generalize (lg_sl ([.ref (ad 222), .int (kd), .int (st)]) ++ List.replicate (3 - (lg_sl ([.ref (ad 222), .int (kd), .int (st)])).length) Slot.unset).toArray = ls at hl ⊢
  have hl : lv_has ls 3 [(0, .ref (ad 222)), (1, .int (kd)), (2, .int (st))] := hl
  obtain ⟨at1, ft2, h9_3⟩ := hRS.2.1
  have h1_4 : mem 1 = .inr (0, [.ref (ad 2), .int (nI Z)]) := (hRS.2.2 1 (by omega)).trans hT.1
  have h2_5 : mem 2 = .inl (cy 0, 240, .inl f) := (hRS.2.2 2 (by omega)).trans hT.2.2
  have h5_6 := hRS.1.2.1
  have hbd12 := hRS.1.1
  obtain ⟨S7, g8, hS_9, h220_10, h221_11⟩ := hRS.1.2.2.2.2.2.2
  refine lv_aload_n Bx.1 Bx.2.1 d_Rd_addElement_0 rfl (lv_at hl 0 rfl) ?_
  refine lv_aload_n Bx.1 Bx.2.1 d_Rd_addElement_1 rfl (lv_at hl 0 rfl) ?_
  refine f_get Bx hP (by omega) h9_3 rfl inRd 1 (by decide) kw_145 rfl rfl d_Rd_addElement_2 ?_
  refine f_callVi (na := 0) (As := []) (rest := [.ref (ad 222)]) Bx hml E hP hD hS (by omega) h5_6 rfl (m_Gr_hasRoomForElement l hn hT hRS) kw_423 kw_424 kw_425 kw_3 kw_426 (by decide +kernel) ⟨rfl, rfl⟩ ⟨Nat.le_of_ble_eq_true rfl, Nat.le_of_ble_eq_true rfl⟩ rfl hl.1 (Nat.le_of_ble_eq_true rfl) d_Rd_addElement_5 ⟨Nat.le_of_ble_eq_true rfl, Nat.le_of_ble_eq_true rfl⟩ (fun r13 mem14 H locs hq hP hS => ?_)
  have hD : va_D (Az sz) (fw n ad mem14) := fw_D hD
  obtain ⟨hqe, hq⟩ := hq
  rw [hqe] at hP hD
  refine lv_iload_n Bx.1 Bx.2.1 d_Rd_addElement_8 rfl (lv_at hl 2 rfl) ?_
  refine f_xVv (na := 2) (As := [.int (r13), .int (st)]) (rest := []) Bx hml E hP hD hS (by omega) h9_3 rfl (m_Rd_needRoom l hlt hn hT hRS) kw_383 kw_385 sel_Rd_needRoom kw_6 kw_386 (by decide +kernel) ⟨rfl, rfl⟩ ⟨Nat.le_of_ble_eq_true rfl, Nat.le_of_ble_eq_true rfl⟩ rfl hl.1 (Nat.le_of_ble_eq_true rfl) d_Rd_addElement_9 ⟨Nat.le_of_ble_eq_true rfl, Nat.le_of_ble_eq_true rfl⟩ (fun X ce q9 memx H locs hx9 hP hS g1 g2 g3 => f_out hlocks hno hP hS g1 g2 g3 ⟨Nat.le_of_ble_eq_true rfl, Nat.le_of_ble_eq_true rfl⟩ hx9) (fun mem16 H locs hq2 hP hS => ?_)
  have hD : va_D (Az sz) (fw n ad mem16) := fw_D hD
  obtain ⟨hRS2, hm2, hg⟩ := hq2
  obtain ⟨at17, ft18, h9_19⟩ := hRS2.2.1
  have h1_20 : mem16 1 = .inr (0, [.ref (ad 2), .int (nI Z)]) := (hRS2.2.2 1 (by omega)).trans hT.1
  have h2_21 : mem16 2 = .inl (cy 0, 240, .inl f) := (hRS2.2.2 2 (by omega)).trans hT.2.2
  have h5_22 := hRS2.1.2.1
  have hbd28 := hRS2.1.1
  obtain ⟨S23, g24, hS_25, h220_26, h221_27⟩ := hRS2.1.2.2.2.2.2.2
  refine lv_aload_n Bx.1 Bx.2.1 d_Rd_addElement_12 rfl (lv_at hl 0 rfl) ?_
  refine f_get Bx hP (by omega) h9_19 rfl inRd 1 (by decide) kw_145 rfl rfl d_Rd_addElement_13 ?_
  refine lv_iload_n Bx.1 Bx.2.1 d_Rd_addElement_16 rfl (lv_at hl 1 rfl) ?_
  refine f_callVr (na := 1) (As := [.int (kd)]) (rest := []) Bx hml E hP hD hS (by omega) h5_22 rfl (m_Gr_addElement l hn hT hRS2 (hq hg)) kw_427 kw_428 kw_429 kw_3 kw_430 (by decide +kernel) ⟨rfl, rfl⟩ ⟨Nat.le_of_ble_eq_true rfl, Nat.le_of_ble_eq_true rfl⟩ rfl hl.1 (Nat.le_of_ble_eq_true rfl) d_Rd_addElement_17 ⟨Nat.le_of_ble_eq_true rfl, Nat.le_of_ble_eq_true rfl⟩ (fun r29 mem30 H locs hq3 hP hS => ?_)
  have hD : va_D (Az sz) (fw n ad mem30) := fw_D hD
  exact x_aret hx hb hlocks hr (⟨hq3.1, hq hg, hq3.2⟩) hP hS d_Rd_addElement_20
set_option maxHeartbeats 4000000 in
set_option maxRecDepth 100000 in
theorem m_Gr_find (l : Launch) {D : va_G} {cy : Nat → ClassId} {sz n : Nat} {ad : Nat → Nat} {mem : Nat → va_E} {Z : Nat} {f : Nat → Int32} {lim rc ec : Nat} {m0 : Nat → va_E} {x : Int64} (hn : 224 ≤ n) (hT : TX cy ad Z f m0) (hRS : RS cy ad lim rc ec m0 mem) : MI l D cy sz n ad y_Gr_find c_Gr_find 4 (some .int) ({ frames := 0, cells := 0, slots := 0, locals := 0 } : Room) mem [.ref (ad 5), .long (x)] (fun r mem' => mem' = mem ∧ (r = -1 ∨ ∃ i, i < rc ∧ r = nI i)) := by
  refine Met.ofW (cc := c_Gr_find) (maxL := 4) (ret := (some .int)) (by decide) rfl ?_
  intro p e s m args below meth c s₁ B hml hv
  obtain ⟨rfl, E, hP, hD⟩ := hv
  have hx := B.exec
  have hb := B.bytes
  have hr := B.returns
  have hlocks := B.notSynchronized
  have Bx : MB p s m [.ref (ad 5), .long (x)].toArray c c_Gr_find "AbnfChart$Grammar" D cy := ⟨hx, hb, tb_all (atoms_spec B.pre) E.2.1, findClass_of_methodNamed B.named, E.1⟩
  have hS : va_S (Az sz) s.heap s.heap [] := va_S.rf
  have hl := lv_entry ([.ref (ad 5), .long (x)]) (n := 4) (Nat.le_of_ble_eq_true rfl)
  rw [lg_entry_eq]
  generalize (lg_sl ([.ref (ad 5), .long (x)]) ++ List.replicate (4 - (lg_sl ([.ref (ad 5), .long (x)])).length) Slot.unset).toArray = ls at hl ⊢
  have hl : lv_has ls 4 [(0, .ref (ad 5)), (1, .long (x))] := hl
  obtain ⟨at1, ft2, h9_3⟩ := hRS.2.1
  have h1_4 : mem 1 = .inr (0, [.ref (ad 2), .int (nI Z)]) := (hRS.2.2 1 (by omega)).trans hT.1
  have h2_5 : mem 2 = .inl (cy 0, 240, .inl f) := (hRS.2.2 2 (by omega)).trans hT.2.2
  have h5_6 := hRS.1.2.1
  have hbd12 := hRS.1.1
  obtain ⟨S7, g8, hS_9, h220_10, h221_11⟩ := hRS.1.2.2.2.2.2.2
  refine lv_iconst (v := 0) Bx.1 Bx.2.1 d_Gr_find_0 (by decide) ?_
  refine lv_istore_n (lv' := [(3, .int (0)), (0, .ref (ad 5)), (1, .long (x))]) Bx.1 Bx.2.1 d_Gr_find_1 rfl hl (by decide) rfl (fun ls hl => ?_)
  have loop13 : ∀ (d : Nat) (ls : Array Slot) (H : Heap) (locs : List Loc) (k : Int32), ((nI rc : Int32).toInt - (k).toInt).toNat < d → (¬ nI rc ≤ k → ∃ j, j < rc ∧ k = nI j) → va_P D vcl (fw n ad mem) H → va_D (Az sz) (fw n ad mem) → va_S (Az sz) s.heap H locs → lv_has ls 4 [(3, .int (k)), (0, .ref (ad 5)), (1, .long (x))] → W p l e (headSpec (Cond.code y_Gr_find c_Gr_find 4 (some .int) :: tg) ({ frames := 0, cells := 0, slots := 0, locals := 0 } : Room)).room s m [.ref (ad 5), .long (x)].toArray below meth c H locs 0 0 (MQ below (va_Qi (fun r mem' => mem' = mem ∧ (r = -1 ∨ ∃ i, i < rc ∧ r = nI i)) (PP D n ad) (Az sz)) [.ref (ad 5), .long (x)].toArray s 0 0 (Az sz)) (F0 m 2 ls []) := by
    intro d
    induction d with
    | zero => intro ls H locs k hmeas; exact absurd hmeas (Nat.not_lt_zero _)
    | succ d ih =>
      intro ls H locs k hmeas hx0 hP hD hS hl
      refine lv_iload_n Bx.1 Bx.2.1 d_Gr_find_2 rfl (lv_at hl 0 rfl) ?_
      refine lv_aload_n Bx.1 Bx.2.1 d_Gr_find_3 rfl (lv_at hl 1 rfl) ?_
      refine f_get Bx hP (by omega) h5_6 rfl inGr 3 (by decide) kw_121 rfl rfl d_Gr_find_4 ?_
      refine lv_icmp_ge Bx.1 Bx.2.1 d_Gr_find_7 rfl (fun h => ?_) (fun h => ?_)
      · refine lv_iconst (v := -1) Bx.1 Bx.2.1 d_Gr_find_32 (by decide) ?_
        exact W.iret (v := (-1)) hx hb hr (fun t ht hW => ⟨⟨(-1), mem, rfl, ⟨rfl, Or.inl rfl⟩, by show va_P _ _ _ t.heap; rw [ht]; exact hP⟩, hS.F ht⟩) hS.2.2 d_Gr_find_33
      · obtain ⟨j, hj, rfl⟩ : ∃ j, j < rc ∧ k = nI j := hx0 h
        refine lv_aload_n Bx.1 Bx.2.1 d_Gr_find_10 rfl (lv_at hl 1 rfl) ?_
        refine f_get Bx hP (by omega) h5_6 rfl inGr 0 (by decide) kw_113 rfl rfl d_Gr_find_11 ?_
        refine lv_iload_n Bx.1 Bx.2.1 d_Gr_find_14 rfl (lv_at hl 0 rfl) ?_
        refine f_aald (t0 := 5) Bx hP (by omega) hRS.1.2.2.1 rfl j rfl (by have := hRS.1.1; omega) (by decide) (q := ad (7 + j)) (by unfold rfA; rw [if_pos (by have := hRS.1.1; omega), Nat.one_mul]) d_Gr_find_15 ?_
        obtain ⟨nm9, v9, w9, hru, -⟩ := hRS.1.2.2.2.2.1 j (by have := hRS.1.1; omega)
        refine f_getN Bx hP (by omega) hru rfl inRu 0 (by decide) kw_56 rfl rfl d_Gr_find_16 ?_
        refine lv_lload_n Bx.1 Bx.2.1 d_Gr_find_19 rfl (lv_at hl 2 rfl) ?_
        refine W.lcmp Bx.1 Bx.2.1 d_Gr_find_20 ?_
        refine lv_if_ne Bx.1 Bx.2.1 d_Gr_find_21 rfl (fun h7 => ?_) (fun h7 => ?_)
        · refine lv_iinc (lv' := [(3, .int ((nI j + (1)))), (0, .ref (ad 5)), (1, .long (x))]) Bx.1 Bx.2.1 d_Gr_find_26 hl (k := 0) rfl rfl (by decide) rfl (fun ls hl => ?_)
          refine lv_goto Bx.1 Bx.2.1 d_Gr_find_29 rfl ?_
          exact ih _ _ _ _ (by have := inc_meas h; omega) (fun q9 => ⟨j + 1, by have := hRS.1.1; exact (nI_ltI (by omega) (by omega)).mp (by rw [nI_succ]; exact Int32.not_le.mp q9), by rw [nI_succ]⟩) hP hD hS (lv_sub hl [0, 1, 2] rfl)
        · refine lv_iload_n Bx.1 Bx.2.1 d_Gr_find_24 rfl (lv_at hl 0 rfl) ?_
          exact W.iret (v := nI j) hx hb hr (fun t ht hW => ⟨⟨nI j, mem, rfl, ⟨rfl, Or.inr ⟨j, hj, rfl⟩⟩, by show va_P _ _ _ t.heap; rw [ht]; exact hP⟩, hS.F ht⟩) hS.2.2 d_Gr_find_25
  exact loop13 _ _ _ _ _ (Nat.lt_succ_self _) (fun q9 => ⟨0, by have := hRS.1.1; exact (nI_ltI (by omega) (by omega)).mp (Int32.not_le.mp q9), rfl⟩) hP hD hS (lv_sub hl [0, 1, 2] rfl)
set_option maxHeartbeats 4000000 in
set_option maxRecDepth 100000 in
theorem m_Rd_fullLineFrom (l : Launch) {D : va_G} {cy : Nat → ClassId} {sz n : Nat} {ad : Nat → Nat} {mem : Nat → va_E} {Z : Nat} {f : Nat → Int32} {lim rc ec : Nat} {m0 : Nat → va_E} {fr : Int32} (hn : 224 ≤ n) (hT : TX cy ad Z f m0) (hRS : RS cy ad lim rc ec m0 mem) : MI l D cy sz n ad y_Rd_fullLineFrom c_Rd_fullLineFrom 6 (some .int) ({ frames := 1, cells := 0, slots := 0, locals := 30 } : Room) mem [.ref (ad 222), .int (fr)] (fun r mem' => mem' = mem) := by
  refine Met.ofW (cc := c_Rd_fullLineFrom) (maxL := 6) (ret := (some .int)) (by decide) rfl ?_
  intro p e s m args below meth c s₁ B hml hv
  obtain ⟨rfl, E, hP, hD⟩ := hv
  have hx := B.exec
  have hb := B.bytes
  have hr := B.returns
  have hlocks := B.notSynchronized
  have Bx : MB p s m [.ref (ad 222), .int (fr)].toArray c c_Rd_fullLineFrom "AbnfChart$Reader" D cy := ⟨hx, hb, tb_all (atoms_spec B.pre) E.2.1, findClass_of_methodNamed B.named, E.1⟩
  have hS : va_S (Az sz) s.heap s.heap [] := va_S.rf
  have hl := lv_entry ([.ref (ad 222), .int (fr)]) (n := 6) (Nat.le_of_ble_eq_true rfl)
  rw [lg_entry_eq]
  generalize (lg_sl ([.ref (ad 222), .int (fr)]) ++ List.replicate (6 - (lg_sl ([.ref (ad 222), .int (fr)])).length) Slot.unset).toArray = ls at hl ⊢
  have hl : lv_has ls 6 [(0, .ref (ad 222)), (1, .int (fr))] := hl
  obtain ⟨at1, ft2, h9_3⟩ := hRS.2.1
  have h1_4 : mem 1 = .inr (0, [.ref (ad 2), .int (nI Z)]) := (hRS.2.2 1 (by omega)).trans hT.1
  have h2_5 : mem 2 = .inl (cy 0, 240, .inl f) := (hRS.2.2 2 (by omega)).trans hT.2.2
  have h5_6 := hRS.1.2.1
  have hbd12 := hRS.1.1
  obtain ⟨S7, g8, hS_9, h220_10, h221_11⟩ := hRS.1.2.2.2.2.2.2
  refine lv_iload_n Bx.1 Bx.2.1 d_Rd_fullLineFrom_0 rfl (lv_at hl 1 rfl) ?_
  refine lv_istore_n (lv' := [(2, .int (fr)), (0, .ref (ad 222)), (1, .int (fr))]) Bx.1 Bx.2.1 d_Rd_fullLineFrom_1 rfl hl (by decide) rfl (fun ls hl => ?_)
  refine lv_iconst (v := 0) Bx.1 Bx.2.1 d_Rd_fullLineFrom_2 (by decide) ?_
  refine lv_istore_n (lv' := [(3, .int (0)), (2, .int (fr)), (0, .ref (ad 222)), (1, .int (fr))]) Bx.1 Bx.2.1 d_Rd_fullLineFrom_3 rfl hl (by decide) rfl (fun ls hl => ?_)
  refine lv_iload_n Bx.1 Bx.2.1 d_Rd_fullLineFrom_4 rfl (lv_at hl 3 rfl) ?_
  refine lv_istore (lv' := [(4, .int (fr)), (3, .int (0)), (2, .int (fr)), (0, .ref (ad 222)), (1, .int (fr))]) Bx.1 Bx.2.1 d_Rd_fullLineFrom_5 hl (by decide) rfl (fun ls hl => ?_)
  have loop13 : ∀ (d : Nat) (ls : Array Slot) (H : Heap) (locs : List Loc) (li : Int32) (co : Int32) (k : Int32), ((nI Z : Int32).toInt - (k).toInt).toNat < d → va_P D vcl (fw n ad mem) H → va_D (Az sz) (fw n ad mem) → va_S (Az sz) s.heap H locs → lv_has ls 6 [(4, .int (k)), (3, .int (co)), (2, .int (li)), (0, .ref (ad 222)), (1, .int (fr))] → W p l e (headSpec (Cond.code y_Rd_fullLineFrom c_Rd_fullLineFrom 6 (some .int) :: tg) ({ frames := 1, cells := 0, slots := 0, locals := 30 } : Room)).room s m [.ref (ad 222), .int (fr)].toArray below meth c H locs 0 0 (MQ below (va_Qi (fun r mem' => mem' = mem) (PP D n ad) (Az sz)) [.ref (ad 222), .int (fr)].toArray s 0 0 (Az sz)) (F0 m 7 ls []) := by
    intro d
    induction d with
    | zero => intro ls H locs li co k hmeas; exact absurd hmeas (Nat.not_lt_zero _)
    | succ d ih =>
      intro ls H locs li co k hmeas  hP hD hS hl
      refine lv_iload Bx.1 Bx.2.1 d_Rd_fullLineFrom_7 (lv_at hl 0 rfl) ?_
      refine lv_aload_n Bx.1 Bx.2.1 d_Rd_fullLineFrom_9 rfl (lv_at hl 3 rfl) ?_
      refine f_get Bx hP (by omega) h9_3 rfl inRd 0 (by decide) kw_144 rfl rfl d_Rd_fullLineFrom_10 ?_
      refine f_getN Bx hP (by omega) h1_4 rfl inCh 1 (by decide) kw_33 rfl rfl d_Rd_fullLineFrom_13 ?_
      refine lv_icmp_ge Bx.1 Bx.2.1 d_Rd_fullLineFrom_16 rfl (fun h => ?_) (fun h => ?_)
      · refine lv_aload_n Bx.1 Bx.2.1 d_Rd_fullLineFrom_78 rfl (lv_at hl 3 rfl) ?_
        refine f_get Bx hP (by omega) h9_3 rfl inRd 0 (by decide) kw_144 rfl rfl d_Rd_fullLineFrom_79 ?_
        refine f_getN Bx hP (by omega) h1_4 rfl inCh 1 (by decide) kw_33 rfl rfl d_Rd_fullLineFrom_82 ?_
        exact W.iret (v := nI Z) hx hb hr (fun t ht hW => ⟨⟨nI Z, mem, rfl, rfl, by show va_P _ _ _ t.heap; rw [ht]; exact hP⟩, hS.F ht⟩) hS.2.2 d_Rd_fullLineFrom_85
      · refine lv_aload_n Bx.1 Bx.2.1 d_Rd_fullLineFrom_19 rfl (lv_at hl 3 rfl) ?_
        refine f_get Bx hP (by omega) h9_3 rfl inRd 0 (by decide) kw_144 rfl rfl d_Rd_fullLineFrom_20 ?_
        refine lv_iload Bx.1 Bx.2.1 d_Rd_fullLineFrom_23 (lv_at hl 0 rfl) ?_
        refine f_callVi (na := 1) (As := [.int (k)]) (rest := []) Bx hml E hP hD hS (by omega) h1_4 rfl (m_Ch_codeAt l (by omega) h1_4 (by omega) h2_5 (by rw [nI_toInt (by have := hT.2.1; omega)]; have := hT.2.1; omega)) kw_341 kw_342 kw_343 kw_2 kw_344 (by decide +kernel) ⟨rfl, rfl⟩ ⟨Nat.le_of_ble_eq_true rfl, Nat.le_of_ble_eq_true rfl⟩ rfl hl.1 (Nat.le_of_ble_eq_true rfl) d_Rd_fullLineFrom_25 ⟨Nat.le_of_ble_eq_true rfl, Nat.le_of_ble_eq_true rfl⟩ (fun r14 mem15 H locs hq hP hS => ?_)
        have hD : va_D (Az sz) (fw n ad mem15) := fw_D hD
        rw [hq.2] at hP hD
        refine lv_istore (lv' := [(5, .int (r14)), (4, .int (k)), (3, .int (co)), (2, .int (li)), (0, .ref (ad 222)), (1, .int (fr))]) Bx.1 Bx.2.1 d_Rd_fullLineFrom_28 hl (by decide) rfl (fun ls hl => ?_)
        refine lv_iload Bx.1 Bx.2.1 d_Rd_fullLineFrom_30 (lv_at hl 0 rfl) ?_
        refine lv_bipush (v := 10) Bx.1 Bx.2.1 d_Rd_fullLineFrom_32 (by decide) ?_
        refine lv_icmp_ne Bx.1 Bx.2.1 d_Rd_fullLineFrom_34 rfl (fun h8 => ?_) (fun h8 => ?_)
        · refine lv_iload Bx.1 Bx.2.1 d_Rd_fullLineFrom_47 (lv_at hl 0 rfl) ?_
          refine lv_bipush (v := 59) Bx.1 Bx.2.1 d_Rd_fullLineFrom_49 (by decide) ?_
          refine lv_icmp_ne Bx.1 Bx.2.1 d_Rd_fullLineFrom_51 rfl (fun h8 => ?_) (fun h8 => ?_)
          · refine lv_iload Bx.1 Bx.2.1 d_Rd_fullLineFrom_59 (lv_at hl 0 rfl) ?_
            refine lv_bipush (v := 32) Bx.1 Bx.2.1 d_Rd_fullLineFrom_61 (by decide) ?_
            refine lv_icmp_eq Bx.1 Bx.2.1 d_Rd_fullLineFrom_63 rfl (fun h8 => ?_) (fun h8 => ?_)
            · refine lv_iinc (lv' := [(4, .int ((k + (1)))), (5, .int (r14)), (3, .int (co)), (2, .int (li)), (0, .ref (ad 222)), (1, .int (fr))]) Bx.1 Bx.2.1 d_Rd_fullLineFrom_72 hl (k := 1) rfl rfl (by decide) rfl (fun ls hl => ?_)
              refine lv_goto Bx.1 Bx.2.1 d_Rd_fullLineFrom_75 rfl ?_
              exact ih _ _ _ _ _ _ (by have := inc_meas h; omega)  hP hD hS (lv_sub hl [0, 2, 3, 4, 5] rfl)
            · refine lv_iload_n Bx.1 Bx.2.1 d_Rd_fullLineFrom_66 rfl (lv_at hl 2 rfl) ?_
              refine lv_if_ne Bx.1 Bx.2.1 d_Rd_fullLineFrom_67 rfl (fun h8 => ?_) (fun h8 => ?_)
              · refine lv_iinc (lv' := [(4, .int ((k + (1)))), (5, .int (r14)), (3, .int (co)), (2, .int (li)), (0, .ref (ad 222)), (1, .int (fr))]) Bx.1 Bx.2.1 d_Rd_fullLineFrom_72 hl (k := 1) rfl rfl (by decide) rfl (fun ls hl => ?_)
                refine lv_goto Bx.1 Bx.2.1 d_Rd_fullLineFrom_75 rfl ?_
                exact ih _ _ _ _ _ _ (by have := inc_meas h; omega)  hP hD hS (lv_sub hl [0, 2, 3, 4, 5] rfl)
              · refine lv_iload_n Bx.1 Bx.2.1 d_Rd_fullLineFrom_70 rfl (lv_at hl 3 rfl) ?_
                exact W.iret (v := li) hx hb hr (fun t ht hW => ⟨⟨li, mem, rfl, rfl, by show va_P _ _ _ t.heap; rw [ht]; exact hP⟩, hS.F ht⟩) hS.2.2 d_Rd_fullLineFrom_71
          · refine lv_iconst (v := 1) Bx.1 Bx.2.1 d_Rd_fullLineFrom_54 (by decide) ?_
            refine lv_istore_n (lv' := [(3, .int (1)), (5, .int (r14)), (4, .int (k)), (2, .int (li)), (0, .ref (ad 222)), (1, .int (fr))]) Bx.1 Bx.2.1 d_Rd_fullLineFrom_55 rfl hl (by decide) rfl (fun ls hl => ?_)
            refine lv_goto Bx.1 Bx.2.1 d_Rd_fullLineFrom_56 rfl ?_
            refine lv_iinc (lv' := [(4, .int ((k + (1)))), (3, .int (1)), (5, .int (r14)), (2, .int (li)), (0, .ref (ad 222)), (1, .int (fr))]) Bx.1 Bx.2.1 d_Rd_fullLineFrom_72 hl (k := 2) rfl rfl (by decide) rfl (fun ls hl => ?_)
            refine lv_goto Bx.1 Bx.2.1 d_Rd_fullLineFrom_75 rfl ?_
            exact ih _ _ _ _ _ _ (by have := inc_meas h; omega)  hP hD hS (lv_sub hl [0, 1, 3, 4, 5] rfl)
        · refine lv_iload Bx.1 Bx.2.1 d_Rd_fullLineFrom_37 (lv_at hl 1 rfl) ?_
          refine lv_iconst (v := 1) Bx.1 Bx.2.1 d_Rd_fullLineFrom_39 (by decide) ?_
          refine lv_iadd Bx.1 Bx.2.1 d_Rd_fullLineFrom_40 ?_
          refine lv_istore_n (lv' := [(2, .int (k + 1)), (5, .int (r14)), (4, .int (k)), (3, .int (co)), (0, .ref (ad 222)), (1, .int (fr))]) Bx.1 Bx.2.1 d_Rd_fullLineFrom_41 rfl hl (by decide) rfl (fun ls hl => ?_)
          refine lv_iconst (v := 0) Bx.1 Bx.2.1 d_Rd_fullLineFrom_42 (by decide) ?_
          refine lv_istore_n (lv' := [(3, .int (0)), (2, .int (k + 1)), (5, .int (r14)), (4, .int (k)), (0, .ref (ad 222)), (1, .int (fr))]) Bx.1 Bx.2.1 d_Rd_fullLineFrom_43 rfl hl (by decide) rfl (fun ls hl => ?_)
          refine lv_goto Bx.1 Bx.2.1 d_Rd_fullLineFrom_44 rfl ?_
          refine lv_iinc (lv' := [(4, .int ((k + (1)))), (3, .int (0)), (2, .int (k + 1)), (5, .int (r14)), (0, .ref (ad 222)), (1, .int (fr))]) Bx.1 Bx.2.1 d_Rd_fullLineFrom_72 hl (k := 3) rfl rfl (by decide) rfl (fun ls hl => ?_)
          refine lv_goto Bx.1 Bx.2.1 d_Rd_fullLineFrom_75 rfl ?_
          exact ih _ _ _ _ _ _ (by have := inc_meas h; omega)  hP hD hS (lv_sub hl [0, 1, 2, 4, 5] rfl)
  exact loop13 _ _ _ _ _ _ _ (Nat.lt_succ_self _)  hP hD hS (lv_sub hl [0, 1, 2, 3, 4] rfl)
