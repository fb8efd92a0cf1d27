theorem d_Rd_readRule_0 : decode c_Rd_readRule 0 = .ok (.aload_n 0, 1) := by decide +kernel
theorem d_Rd_readRule_1 : decode c_Rd_readRule 1 = .ok (.getfield 19, 3) := by decide +kernel
theorem d_Rd_readRule_4 : decode c_Rd_readRule 4 = .ok (.istore_n 1, 1) := by decide +kernel
theorem d_Rd_readRule_5 : decode c_Rd_readRule 5 = .ok (.aload_n 0, 1) := by decide +kernel
theorem d_Rd_readRule_6 : decode c_Rd_readRule 6 = .ok (.invokevirtual 46, 3) := by decide +kernel
theorem d_Rd_readRule_9 : decode c_Rd_readRule 9 = .ok (.astore_n 2, 1) := by decide +kernel
theorem d_Rd_readRule_10 : decode c_Rd_readRule 10 = .ok (.aload_n 0, 1) := by decide +kernel
theorem d_Rd_readRule_11 : decode c_Rd_readRule 11 = .ok (.invokevirtual 50, 3) := by decide +kernel
theorem d_Rd_readRule_14 : decode c_Rd_readRule 14 = .ok (.pop, 1) := by decide +kernel
theorem d_Rd_readRule_15 : decode c_Rd_readRule 15 = .ok (.aload_n 0, 1) := by decide +kernel
theorem d_Rd_readRule_16 : decode c_Rd_readRule 16 = .ok (.aload_n 0, 1) := by decide +kernel
theorem d_Rd_readRule_17 : decode c_Rd_readRule 17 = .ok (.invokevirtual 54, 3) := by decide +kernel
theorem d_Rd_readRule_20 : decode c_Rd_readRule 20 = .ok (.bipush 61, 2) := by decide +kernel
theorem d_Rd_readRule_22 : decode c_Rd_readRule 22 = .ok (.if_icmp .ne 7, 3) := by decide +kernel
theorem d_Rd_readRule_25 : decode c_Rd_readRule 25 = .ok (.iconst 1, 1) := by decide +kernel
theorem d_Rd_readRule_26 : decode c_Rd_readRule 26 = .ok (.goto 4, 3) := by decide +kernel
theorem d_Rd_readRule_29 : decode c_Rd_readRule 29 = .ok (.iconst 0, 1) := by decide +kernel
theorem d_Rd_readRule_30 : decode c_Rd_readRule 30 = .ok (.aload_n 0, 1) := by decide +kernel
theorem d_Rd_readRule_31 : decode c_Rd_readRule 31 = .ok (.getfield 19, 3) := by decide +kernel
theorem d_Rd_readRule_34 : decode c_Rd_readRule 34 = .ok (.invokevirtual 58, 3) := by decide +kernel
theorem d_Rd_readRule_37 : decode c_Rd_readRule 37 = .ok (.aload_n 0, 1) := by decide +kernel
theorem d_Rd_readRule_38 : decode c_Rd_readRule 38 = .ok (.dup, 1) := by decide +kernel
theorem d_Rd_readRule_39 : decode c_Rd_readRule 39 = .ok (.getfield 19, 3) := by decide +kernel
theorem d_Rd_readRule_42 : decode c_Rd_readRule 42 = .ok (.iconst 1, 1) := by decide +kernel
theorem d_Rd_readRule_43 : decode c_Rd_readRule 43 = .ok (.iadd, 1) := by decide +kernel
theorem d_Rd_readRule_44 : decode c_Rd_readRule 44 = .ok (.putfield 19, 3) := by decide +kernel
theorem d_Rd_readRule_47 : decode c_Rd_readRule 47 = .ok (.aload_n 0, 1) := by decide +kernel
theorem d_Rd_readRule_48 : decode c_Rd_readRule 48 = .ok (.invokevirtual 54, 3) := by decide +kernel
theorem d_Rd_readRule_51 : decode c_Rd_readRule 51 = .ok (.bipush 47, 2) := by decide +kernel
theorem d_Rd_readRule_53 : decode c_Rd_readRule 53 = .ok (.if_icmp .ne 7, 3) := by decide +kernel
theorem d_Rd_readRule_56 : decode c_Rd_readRule 56 = .ok (.iconst 1, 1) := by decide +kernel
theorem d_Rd_readRule_57 : decode c_Rd_readRule 57 = .ok (.goto 4, 3) := by decide +kernel
theorem d_Rd_readRule_60 : decode c_Rd_readRule 60 = .ok (.iconst 0, 1) := by decide +kernel
theorem d_Rd_readRule_61 : decode c_Rd_readRule 61 = .ok (.istore_n 3, 1) := by decide +kernel
theorem d_Rd_readRule_62 : decode c_Rd_readRule 62 = .ok (.iload_n 3, 1) := by decide +kernel
theorem d_Rd_readRule_63 : decode c_Rd_readRule 63 = .ok (.ifCond .eq 13, 3) := by decide +kernel
theorem d_Rd_readRule_66 : decode c_Rd_readRule 66 = .ok (.aload_n 0, 1) := by decide +kernel
theorem d_Rd_readRule_67 : decode c_Rd_readRule 67 = .ok (.dup, 1) := by decide +kernel
theorem d_Rd_readRule_68 : decode c_Rd_readRule 68 = .ok (.getfield 19, 3) := by decide +kernel
theorem d_Rd_readRule_71 : decode c_Rd_readRule 71 = .ok (.iconst 1, 1) := by decide +kernel
theorem d_Rd_readRule_72 : decode c_Rd_readRule 72 = .ok (.iadd, 1) := by decide +kernel
theorem d_Rd_readRule_73 : decode c_Rd_readRule 73 = .ok (.putfield 19, 3) := by decide +kernel
theorem d_Rd_readRule_76 : decode c_Rd_readRule 76 = .ok (.aload_n 0, 1) := by decide +kernel
theorem d_Rd_readRule_77 : decode c_Rd_readRule 77 = .ok (.aload_n 2, 1) := by decide +kernel
theorem d_Rd_readRule_78 : decode c_Rd_readRule 78 = .ok (.invokevirtual 62, 3) := by decide +kernel
theorem d_Rd_readRule_81 : decode c_Rd_readRule 81 = .ok (.iload_n 3, 1) := by decide +kernel
theorem d_Rd_readRule_82 : decode c_Rd_readRule 82 = .ok (.if_icmp .ne 7, 3) := by decide +kernel
theorem d_Rd_readRule_85 : decode c_Rd_readRule 85 = .ok (.iconst 1, 1) := by decide +kernel
theorem d_Rd_readRule_86 : decode c_Rd_readRule 86 = .ok (.goto 4, 3) := by decide +kernel
theorem d_Rd_readRule_89 : decode c_Rd_readRule 89 = .ok (.iconst 0, 1) := by decide +kernel
theorem d_Rd_readRule_90 : decode c_Rd_readRule 90 = .ok (.iload_n 1, 1) := by decide +kernel
theorem d_Rd_readRule_91 : decode c_Rd_readRule 91 = .ok (.invokevirtual 58, 3) := by decide +kernel
theorem d_Rd_readRule_94 : decode c_Rd_readRule 94 = .ok (.aload_n 0, 1) := by decide +kernel
theorem d_Rd_readRule_95 : decode c_Rd_readRule 95 = .ok (.invokevirtual 50, 3) := by decide +kernel
theorem d_Rd_readRule_98 : decode c_Rd_readRule 98 = .ok (.pop, 1) := by decide +kernel
theorem d_Rd_readRule_99 : decode c_Rd_readRule 99 = .ok (.aload_n 2, 1) := by decide +kernel
theorem d_Rd_readRule_100 : decode c_Rd_readRule 100 = .ok (.aload_n 0, 1) := by decide +kernel
theorem d_Rd_readRule_101 : decode c_Rd_readRule 101 = .ok (.iconst 0, 1) := by decide +kernel
theorem d_Rd_readRule_102 : decode c_Rd_readRule 102 = .ok (.invokevirtual 67, 3) := by decide +kernel
theorem d_Rd_readRule_105 : decode c_Rd_readRule 105 = .ok (.invokevirtual 71, 3) := by decide +kernel
theorem d_Rd_readRule_108 : decode c_Rd_readRule 108 = .ok (.aload_n 0, 1) := by decide +kernel
theorem d_Rd_readRule_109 : decode c_Rd_readRule 109 = .ok (.aload_n 0, 1) := by decide +kernel
theorem d_Rd_readRule_110 : decode c_Rd_readRule 110 = .ok (.invokevirtual 54, 3) := by decide +kernel
theorem d_Rd_readRule_113 : decode c_Rd_readRule 113 = .ok (.iconst (-1), 1) := by decide +kernel
theorem d_Rd_readRule_114 : decode c_Rd_readRule 114 = .ok (.if_icmp .eq 12, 3) := by decide +kernel
theorem d_Rd_readRule_117 : decode c_Rd_readRule 117 = .ok (.aload_n 0, 1) := by decide +kernel
theorem d_Rd_readRule_118 : decode c_Rd_readRule 118 = .ok (.invokevirtual 54, 3) := by decide +kernel
theorem d_Rd_readRule_121 : decode c_Rd_readRule 121 = .ok (.bipush 10, 2) := by decide +kernel
theorem d_Rd_readRule_123 : decode c_Rd_readRule 123 = .ok (.if_icmp .ne 7, 3) := by decide +kernel
theorem d_Rd_readRule_126 : decode c_Rd_readRule 126 = .ok (.iconst 1, 1) := by decide +kernel
theorem d_Rd_readRule_127 : decode c_Rd_readRule 127 = .ok (.goto 4, 3) := by decide +kernel
theorem d_Rd_readRule_130 : decode c_Rd_readRule 130 = .ok (.iconst 0, 1) := by decide +kernel
theorem d_Rd_readRule_131 : decode c_Rd_readRule 131 = .ok (.aload_n 0, 1) := by decide +kernel
theorem d_Rd_readRule_132 : decode c_Rd_readRule 132 = .ok (.getfield 19, 3) := by decide +kernel
theorem d_Rd_readRule_135 : decode c_Rd_readRule 135 = .ok (.invokevirtual 58, 3) := by decide +kernel
theorem d_Rd_readRule_138 : decode c_Rd_readRule 138 = .ok (.aload_n 0, 1) := by decide +kernel
theorem d_Rd_readRule_139 : decode c_Rd_readRule 139 = .ok (.aload_n 0, 1) := by decide +kernel
theorem d_Rd_readRule_140 : decode c_Rd_readRule 140 = .ok (.aload_n 0, 1) := by decide +kernel
theorem d_Rd_readRule_141 : decode c_Rd_readRule 141 = .ok (.getfield 19, 3) := by decide +kernel
theorem d_Rd_readRule_144 : decode c_Rd_readRule 144 = .ok (.iconst 1, 1) := by decide +kernel
theorem d_Rd_readRule_145 : decode c_Rd_readRule 145 = .ok (.iadd, 1) := by decide +kernel
theorem d_Rd_readRule_146 : decode c_Rd_readRule 146 = .ok (.invokevirtual 31, 3) := by decide +kernel
theorem d_Rd_readRule_149 : decode c_Rd_readRule 149 = .ok (.putfield 19, 3) := by decide +kernel
theorem d_Rd_readRule_152 : decode c_Rd_readRule 152 = .ok (.return_, 1) := by decide +kernel
theorem d_Gr_begin_0 : decode c_Gr_begin 0 = .ok (.aload_n 0, 1) := by decide +kernel
theorem d_Gr_begin_1 : decode c_Gr_begin 1 = .ok (.getfield 30, 3) := by decide +kernel
theorem d_Gr_begin_4 : decode c_Gr_begin 4 = .ok (.invokevirtual 45, 3) := by decide +kernel
theorem d_Gr_begin_7 : decode c_Gr_begin 7 = .ok (.pop, 1) := by decide +kernel
theorem d_Gr_begin_8 : decode c_Gr_begin 8 = .ok (.aload_n 0, 1) := by decide +kernel
theorem d_Gr_begin_9 : decode c_Gr_begin 9 = .ok (.iconst 0, 1) := by decide +kernel
theorem d_Gr_begin_10 : decode c_Gr_begin 10 = .ok (.putfield 34, 3) := by decide +kernel
theorem d_Gr_begin_13 : decode c_Gr_begin 13 = .ok (.aload_n 0, 1) := by decide +kernel
theorem d_Gr_begin_14 : decode c_Gr_begin 14 = .ok (.iconst 0, 1) := by decide +kernel
theorem d_Gr_begin_15 : decode c_Gr_begin 15 = .ok (.putfield 38, 3) := by decide +kernel
theorem d_Gr_begin_18 : decode c_Gr_begin 18 = .ok (.aload_n 0, 1) := by decide +kernel
theorem d_Gr_begin_19 : decode c_Gr_begin 19 = .ok (.iconst 0, 1) := by decide +kernel
theorem d_Gr_begin_20 : decode c_Gr_begin 20 = .ok (.putfield 41, 3) := by decide +kernel
theorem d_Gr_begin_23 : decode c_Gr_begin 23 = .ok (.return_, 1) := by decide +kernel
theorem d_Gr_end_0 : decode c_Gr_end 0 = .ok (.aload_n 0, 1) := by decide +kernel
theorem d_Gr_end_1 : decode c_Gr_end 1 = .ok (.iconst 1, 1) := by decide +kernel
theorem d_Gr_end_2 : decode c_Gr_end 2 = .ok (.putfield 41, 3) := by decide +kernel
theorem d_Gr_end_5 : decode c_Gr_end 5 = .ok (.return_, 1) := by decide +kernel
theorem d_Rd_readGrammar_0 : decode c_Rd_readGrammar 0 = .ok (.aload_n 0, 1) := by decide +kernel
theorem d_Rd_readGrammar_1 : decode c_Rd_readGrammar 1 = .ok (.getfield 15, 3) := by decide +kernel
theorem d_Rd_readGrammar_4 : decode c_Rd_readGrammar 4 = .ok (.invokevirtual 26, 3) := by decide +kernel
theorem d_Rd_readGrammar_7 : decode c_Rd_readGrammar 7 = .ok (.aload_n 0, 1) := by decide +kernel
theorem d_Rd_readGrammar_8 : decode c_Rd_readGrammar 8 = .ok (.iconst (-1), 1) := by decide +kernel
theorem d_Rd_readGrammar_9 : decode c_Rd_readGrammar 9 = .ok (.putfield 23, 3) := by decide +kernel
theorem d_Rd_readGrammar_12 : decode c_Rd_readGrammar 12 = .ok (.aload_n 0, 1) := by decide +kernel
theorem d_Rd_readGrammar_13 : decode c_Rd_readGrammar 13 = .ok (.aload_n 0, 1) := by decide +kernel
theorem d_Rd_readGrammar_14 : decode c_Rd_readGrammar 14 = .ok (.iconst 0, 1) := by decide +kernel
theorem d_Rd_readGrammar_15 : decode c_Rd_readGrammar 15 = .ok (.invokevirtual 31, 3) := by decide +kernel
theorem d_Rd_readGrammar_18 : decode c_Rd_readGrammar 18 = .ok (.putfield 19, 3) := by decide +kernel
theorem d_Rd_readGrammar_21 : decode c_Rd_readGrammar 21 = .ok (.aload_n 0, 1) := by decide +kernel
theorem d_Rd_readGrammar_22 : decode c_Rd_readGrammar 22 = .ok (.invokevirtual 35, 3) := by decide +kernel
theorem d_Rd_readGrammar_25 : decode c_Rd_readGrammar 25 = .ok (.iconst 0, 1) := by decide +kernel
theorem d_Rd_readGrammar_26 : decode c_Rd_readGrammar 26 = .ok (.istore_n 1, 1) := by decide +kernel
theorem d_Rd_readGrammar_27 : decode c_Rd_readGrammar 27 = .ok (.iload_n 1, 1) := by decide +kernel
theorem d_Rd_readGrammar_28 : decode c_Rd_readGrammar 28 = .ok (.sipush 240, 3) := by decide +kernel
theorem d_Rd_readGrammar_31 : decode c_Rd_readGrammar 31 = .ok (.if_icmp .ge 27, 3) := by decide +kernel
theorem d_Rd_readGrammar_34 : decode c_Rd_readGrammar 34 = .ok (.aload_n 0, 1) := by decide +kernel
theorem d_Rd_readGrammar_35 : decode c_Rd_readGrammar 35 = .ok (.getfield 19, 3) := by decide +kernel
theorem d_Rd_readGrammar_38 : decode c_Rd_readGrammar 38 = .ok (.aload_n 0, 1) := by decide +kernel
theorem d_Rd_readGrammar_39 : decode c_Rd_readGrammar 39 = .ok (.getfield 9, 3) := by decide +kernel
theorem d_Rd_readGrammar_42 : decode c_Rd_readGrammar 42 = .ok (.getfield 38, 3) := by decide +kernel
theorem d_Rd_readGrammar_45 : decode c_Rd_readGrammar 45 = .ok (.if_icmp .ge 13, 3) := by decide +kernel
theorem d_Rd_readGrammar_48 : decode c_Rd_readGrammar 48 = .ok (.aload_n 0, 1) := by decide +kernel
theorem d_Rd_readGrammar_49 : decode c_Rd_readGrammar 49 = .ok (.invokevirtual 35, 3) := by decide +kernel
theorem d_Rd_readGrammar_52 : decode c_Rd_readGrammar 52 = .ok (.iinc 1 1, 3) := by decide +kernel
theorem d_Rd_readGrammar_55 : decode c_Rd_readGrammar 55 = .ok (.goto (-28), 3) := by decide +kernel
theorem d_Rd_readGrammar_58 : decode c_Rd_readGrammar 58 = .ok (.aload_n 0, 1) := by decide +kernel
theorem d_Rd_readGrammar_59 : decode c_Rd_readGrammar 59 = .ok (.getfield 15, 3) := by decide +kernel
theorem d_Rd_readGrammar_62 : decode c_Rd_readGrammar 62 = .ok (.invokevirtual 43, 3) := by decide +kernel
theorem d_Rd_readGrammar_65 : decode c_Rd_readGrammar 65 = .ok (.return_, 1) := by decide +kernel
theorem d_Ab_read_0 : decode c_Ab_read 0 = .ok (.aload_n 0, 1) := by decide +kernel
theorem d_Ab_read_1 : decode c_Ab_read 1 = .ok (.getfield 40, 3) := by decide +kernel
theorem d_Ab_read_4 : decode c_Ab_read 4 = .ok (.invokevirtual 73, 3) := by decide +kernel
theorem d_Ab_read_7 : decode c_Ab_read 7 = .ok (.aload_n 0, 1) := by decide +kernel
theorem d_Ab_read_8 : decode c_Ab_read 8 = .ok (.getfield 33, 3) := by decide +kernel
theorem d_Ab_read_11 : decode c_Ab_read 11 = .ok (.invokevirtual 76, 3) := by decide +kernel
theorem d_Ab_read_14 : decode c_Ab_read 14 = .ok (.aload_n 0, 1) := by decide +kernel
theorem d_Ab_read_15 : decode c_Ab_read 15 = .ok (.getfield 24, 3) := by decide +kernel
theorem d_Ab_read_18 : decode c_Ab_read 18 = .ok (.invokevirtual 79, 3) := by decide +kernel
theorem d_Ab_read_21 : decode c_Ab_read 21 = .ok (.ireturn, 1) := by decide +kernel
set_option maxHeartbeats 4000000 in
set_option maxRecDepth 100000 in
theorem m_Rd_readRule (l : Launch) {D : va_G} {cy : Nat → ClassId} {sz n : Nat} {ad : Nat → Nat} {mem : Nat → va_E} {Z : Nat} {f : Nat → Int32} {lim rc ec : Nat} {m0 : Nat → va_E} (hlt : l.stackTraces = false) (hn : 224 ≤ n) (hT : TX cy ad Z f m0) (hRS : RS cy ad lim rc ec m0 mem) : NXv l D cy sz n ad y_Rd_readRule c_Rd_readRule 4 ({ frames := 60, cells := 1, slots := 6, locals := 1500 } : Room) mem [.ref (ad 222)] (fun mem' => ∃ lim' rc' ec' : Nat, RS cy ad lim' rc' ec' m0 mem') (fun X mem' => (X = cIA ∨ X = cIS) ∧ ∃ lim' rc' ec' : Nat, RS cy ad lim' rc' ec' m0 mem') := by
  refine vx_ofW (cc := c_Rd_readRule) (maxL := 4) (ret := none) (by decide) rfl ?_
  intro p e s m args below meth c s₁ B hml hno hv
  obtain ⟨rfl, E, hP, hD⟩ := hv
  have hx := B.exec
  have hb := B.bytes
  have hr := B.returns
  have hlocks := B.notSynchronized
  have Bx : MB p s m [.ref (ad 222)].toArray c c_Rd_readRule "AbnfChart$Reader" D cy := ⟨hx, hb, tb_all (atoms_spec B.pre) E.2.1, findClass_of_methodNamed B.named, E.1⟩
  have hS : va_S (Az sz) s.heap s.heap [] := va_S.rf
  have hl := lv_entry ([.ref (ad 222)]) (n := 4) (Nat.le_of_ble_eq_true rfl)
  rw [lg_entry_eq]
  generalize (lg_sl ([.ref (ad 222)]) ++ List.replicate (4 - (lg_sl ([.ref (ad 222)])).length) Slot.unset).toArray = ls at hl ⊢
  have hl : lv_has ls 4 [(0, .ref (ad 222))] := hl
  obtain ⟨at1, ft2, h9_3⟩ := hRS.2.1
  have h1_4 : mem 1 = .inr (0, [.ref (ad 2), .int (nI Z)]) := (hRS.2.2 1 (by omega)).trans hT.1
  have h2_5 : mem 2 = .inl (cy 0, 240, .inl f) := (hRS.2.2 2 (by omega)).trans hT.2.2
  have h5_6 := hRS.1.2.1
  have hbd12 := hRS.1.1
  obtain ⟨S7, g8, hS_9, h220_10, h221_11⟩ := hRS.1.2.2.2.2.2.2
  refine lv_aload_n Bx.1 Bx.2.1 d_Rd_readRule_0 rfl (lv_at hl 0 rfl) ?_
  refine f_get Bx hP (by omega) h9_3 rfl inRd 2 (by decide) kw_146 rfl rfl d_Rd_readRule_1 ?_
  refine lv_istore_n (lv' := [(1, .int (at1)), (0, .ref (ad 222))]) Bx.1 Bx.2.1 d_Rd_readRule_4 rfl hl (by decide) rfl (fun ls hl => ?_)
  refine lv_aload_n Bx.1 Bx.2.1 d_Rd_readRule_5 rfl (lv_at hl 1 rfl) ?_
  refine f_xVr (na := 0) (As := []) (rest := []) Bx hml E hP hD hS (by omega) h9_3 rfl (m_Rd_readName l hlt hn hT hRS) kw_349 kw_351 sel_Rd_readName kw_6 kw_352 (by decide +kernel) ⟨rfl, rfl⟩ ⟨Nat.le_of_ble_eq_true rfl, Nat.le_of_ble_eq_true rfl⟩ rfl hl.1 (Nat.le_of_ble_eq_true rfl) d_Rd_readRule_6 ⟨Nat.le_of_ble_eq_true rfl, Nat.le_of_ble_eq_true rfl⟩ (fun X ce q9 memx H locs hx9 hP hS g1 g2 g3 => f_out hlocks hno hP hS g1 g2 g3 ⟨Nat.le_of_ble_eq_true rfl, Nat.le_of_ble_eq_true rfl⟩ ⟨hx9.1, hx9.2.elim (fun a9 q9 => q9.elim (fun b9 q9 => ⟨_, a9, b9, q9⟩))⟩) (fun r13 mem14 H locs hq hP hS => ?_)
  have hD : va_D (Az sz) (fw n ad mem14) := fw_D hD
  obtain ⟨i, rc1, hr9, hi, hrc1, hRS15⟩ := hq
  subst hr9
  obtain ⟨at16, ft17, h9_18⟩ := hRS15.2.1
  have h1_19 : mem14 1 = .inr (0, [.ref (ad 2), .int (nI Z)]) := (hRS15.2.2 1 (by omega)).trans hT.1
  have h2_20 : mem14 2 = .inl (cy 0, 240, .inl f) := (hRS15.2.2 2 (by omega)).trans hT.2.2
  have h5_21 := hRS15.1.2.1
  have hbd27 := hRS15.1.1
  obtain ⟨S22, g23, hS_24, h220_25, h221_26⟩ := hRS15.1.2.2.2.2.2.2
  refine lv_astore_n (lv' := [(2, .ref (ad (7 + i))), (1, .int (at1)), (0, .ref (ad 222))]) Bx.1 Bx.2.1 d_Rd_readRule_9 rfl hl (by decide) rfl (fun ls hl => ?_)
  refine lv_aload_n Bx.1 Bx.2.1 d_Rd_readRule_10 rfl (lv_at hl 2 rfl) ?_
  refine f_callVi (na := 0) (As := []) (rest := []) Bx hml E hP hD hS (by omega) h9_18 rfl (m_Rd_readGap l hn hT hRS15) kw_397 kw_399 sel_Rd_readGap kw_6 kw_400 (by decide +kernel) ⟨rfl, rfl⟩ ⟨Nat.le_of_ble_eq_true rfl, Nat.le_of_ble_eq_true rfl⟩ rfl hl.1 (Nat.le_of_ble_eq_true rfl) d_Rd_readRule_11 ⟨Nat.le_of_ble_eq_true rfl, Nat.le_of_ble_eq_true rfl⟩ (fun r29 mem30 H locs hRS28 hP hS => ?_)
  have hD : va_D (Az sz) (fw n ad mem30) := fw_D hD
  obtain ⟨at31, ft32, h9_33⟩ := hRS28.2.1
  have h1_34 : mem30 1 = .inr (0, [.ref (ad 2), .int (nI Z)]) := (hRS28.2.2 1 (by omega)).trans hT.1
  have h2_35 : mem30 2 = .inl (cy 0, 240, .inl f) := (hRS28.2.2 2 (by omega)).trans hT.2.2
  have h5_36 := hRS28.1.2.1
  have hbd42 := hRS28.1.1
  obtain ⟨S37, g38, hS_39, h220_40, h221_41⟩ := hRS28.1.2.2.2.2.2.2
  refine lv_pop Bx.1 Bx.2.1 d_Rd_readRule_14 rfl ?_
  refine lv_aload_n Bx.1 Bx.2.1 d_Rd_readRule_15 rfl (lv_at hl 2 rfl) ?_
  refine lv_aload_n Bx.1 Bx.2.1 d_Rd_readRule_16 rfl (lv_at hl 2 rfl) ?_
  refine f_callVi (na := 0) (As := []) (rest := [.ref (ad 222)]) Bx hml E hP hD hS (by omega) h9_33 rfl (m_Rd_peek l hn hT hRS28) kw_353 kw_355 sel_Rd_peek kw_6 kw_356 (by decide +kernel) ⟨rfl, rfl⟩ ⟨Nat.le_of_ble_eq_true rfl, Nat.le_of_ble_eq_true rfl⟩ rfl hl.1 (Nat.le_of_ble_eq_true rfl) d_Rd_readRule_17 ⟨Nat.le_of_ble_eq_true rfl, Nat.le_of_ble_eq_true rfl⟩ (fun r43 mem44 H locs hq hP hS => ?_)
  have hD : va_D (Az sz) (fw n ad mem44) := fw_D hD
  rw [hq] at hP hD
  refine lv_bipush (v := 61) Bx.1 Bx.2.1 d_Rd_readRule_20 (by decide) ?_
  have J46 : ∀ (jv45 : Int32) (H : Heap) (locs : List Loc), va_P D vcl (fw n ad mem30) H → va_D (Az sz) (fw n ad mem30) → va_S (Az sz) s.heap H locs → W p l e (headSpec (Cond.code y_Rd_readRule c_Rd_readRule 4 none :: tg) ({ frames := 60, cells := 1, slots := 6, locals := 1500 } : Room)).room s m [.ref (ad 222)].toArray below meth c H locs 0 0 (vx_MQ below (QX (va_Qv (fun mem' => ∃ lim' rc' ec' : Nat, RS cy ad lim' rc' ec' m0 mem') (PP D n ad) (Az sz))) (XQ D sz n ad (fun X mem' => (X = cIA ∨ X = cIS) ∧ ∃ lim' rc' ec' : Nat, RS cy ad lim' rc' ec' m0 mem')) [.ref (ad 222)].toArray s 1 6 (Az sz)) (F0 m 30 ls [.int (jv45), .ref (ad 222)]) := by
    intro jv45 H locs hP hD hS
    refine lv_aload_n Bx.1 Bx.2.1 d_Rd_readRule_30 rfl (lv_at hl 2 rfl) ?_
    refine f_get Bx hP (by omega) h9_33 rfl inRd 2 (by decide) kw_146 rfl rfl d_Rd_readRule_31 ?_
    refine f_xVv (na := 2) (As := [.int (jv45), .int (at31)]) (rest := []) Bx hml E hP hD hS (by omega) h9_33 rfl (m_Rd_needReadable l hlt hn hT hRS28) kw_360 kw_362 sel_Rd_needReadable kw_6 kw_363 (by decide +kernel) ⟨rfl, rfl⟩ ⟨Nat.le_of_ble_eq_true rfl, Nat.le_of_ble_eq_true rfl⟩ rfl hl.1 (Nat.le_of_ble_eq_true rfl) d_Rd_readRule_34 ⟨Nat.le_of_ble_eq_true rfl, Nat.le_of_ble_eq_true rfl⟩ (fun X ce q9 memx H locs hx9 hP hS g1 g2 g3 => f_out hlocks hno hP hS g1 g2 g3 ⟨Nat.le_of_ble_eq_true rfl, Nat.le_of_ble_eq_true rfl⟩ ⟨hx9.1, hx9.2.elim (fun a9 q9 => q9.elim (fun b9 q9 => ⟨_, a9, b9, q9⟩))⟩) (fun mem48 H locs hq hP hS => ?_)
    have hD : va_D (Az sz) (fw n ad mem48) := fw_D hD
    obtain ⟨hRS49, -, hg50⟩ := hq
    obtain ⟨at51, ft52, h9_53⟩ := hRS49.2.1
    have h1_54 : mem48 1 = .inr (0, [.ref (ad 2), .int (nI Z)]) := (hRS49.2.2 1 (by omega)).trans hT.1
    have h2_55 : mem48 2 = .inl (cy 0, 240, .inl f) := (hRS49.2.2 2 (by omega)).trans hT.2.2
    have h5_56 := hRS49.1.2.1
    have hbd62 := hRS49.1.1
    obtain ⟨S57, g58, hS_59, h220_60, h221_61⟩ := hRS49.1.2.2.2.2.2.2
    refine lv_aload_n Bx.1 Bx.2.1 d_Rd_readRule_37 rfl (lv_at hl 2 rfl) ?_
    refine lv_dup Bx.1 Bx.2.1 d_Rd_readRule_38 rfl ?_
    refine f_get Bx hP (by omega) h9_53 rfl inRd 2 (by decide) kw_146 rfl rfl d_Rd_readRule_39 ?_
    refine lv_iconst (v := 1) Bx.1 Bx.2.1 d_Rd_readRule_42 (by decide) ?_
    refine lv_iadd Bx.1 Bx.2.1 d_Rd_readRule_43 ?_
    refine f_put Bx hP hD hS (by omega) h9_53 rfl inRd tyRd okRd nmRd 2 (by decide) kw_146 rfl rfl rfl rfl (Nat.le_of_ble_eq_true rfl) d_Rd_readRule_44 (fun H locs hP hS => ?_)
    obtain ⟨mem63, e_mem63⟩ : ∃ z, z = va_up mem48 (222) (.inr (4, [.ref (ad 1), .ref (ad 5), .int (at51 + 1), .int (ft52)])) := ⟨_, rfl⟩
    have hP : va_P D vcl (fw n ad mem63) H := by rw [e_mem63]; exact hP
    have hD : va_D (Az sz) (fw n ad mem63) := fw_D hD
    have h_mem63 : mem63 (222) = .inr (4, [.ref (ad 1), .ref (ad 5), .int (at51 + 1), .int (ft52)]) := by rw [e_mem63, va_up_self]
    have hh64 := (va_up_ne mem48 (.inr (4, [.ref (ad 1), .ref (ad 5), .int (at51 + 1), .int (ft52)])) (show (1 : Nat) ≠ 222 by first | decide | assumption | omega)).trans h1_54
    rw [← e_mem63] at hh64
    have hh65 := (va_up_ne mem48 (.inr (4, [.ref (ad 1), .ref (ad 5), .int (at51 + 1), .int (ft52)])) (show (5 : Nat) ≠ 222 by first | decide | assumption | omega)).trans h5_56
    rw [← e_mem63] at hh65
    have hh66 := (va_up_ne mem48 (.inr (4, [.ref (ad 1), .ref (ad 5), .int (at51 + 1), .int (ft52)])) (show (220 : Nat) ≠ 222 by first | decide | assumption | omega)).trans h220_60
    rw [← e_mem63] at hh66
    have hRS67 : RS cy ad lim rc1 ec m0 mem63 := by rw [e_mem63]; exact hRS49.at222
    refine lv_aload_n Bx.1 Bx.2.1 d_Rd_readRule_47 rfl (lv_at hl 2 rfl) ?_
    refine f_callVi (na := 0) (As := []) (rest := []) Bx hml E hP hD hS (by omega) h_mem63 rfl (m_Rd_peek l hn hT hRS67) kw_353 kw_355 sel_Rd_peek kw_6 kw_356 (by decide +kernel) ⟨rfl, rfl⟩ ⟨Nat.le_of_ble_eq_true rfl, Nat.le_of_ble_eq_true rfl⟩ rfl hl.1 (Nat.le_of_ble_eq_true rfl) d_Rd_readRule_48 ⟨Nat.le_of_ble_eq_true rfl, Nat.le_of_ble_eq_true rfl⟩ (fun r68 mem69 H locs hq hP hS => ?_)
    have hD : va_D (Az sz) (fw n ad mem69) := fw_D hD
    rw [hq] at hP hD
    refine lv_bipush (v := 47) Bx.1 Bx.2.1 d_Rd_readRule_51 (by decide) ?_
    have J71 : ∀ (jv70 : Int32) (H : Heap) (locs : List Loc), va_P D vcl (fw n ad mem63) H → va_D (Az sz) (fw n ad mem63) → va_S (Az sz) s.heap H locs → W p l e (headSpec (Cond.code y_Rd_readRule c_Rd_readRule 4 none :: tg) ({ frames := 60, cells := 1, slots := 6, locals := 1500 } : Room)).room s m [.ref (ad 222)].toArray below meth c H locs 0 0 (vx_MQ below (QX (va_Qv (fun mem' => ∃ lim' rc' ec' : Nat, RS cy ad lim' rc' ec' m0 mem') (PP D n ad) (Az sz))) (XQ D sz n ad (fun X mem' => (X = cIA ∨ X = cIS) ∧ ∃ lim' rc' ec' : Nat, RS cy ad lim' rc' ec' m0 mem')) [.ref (ad 222)].toArray s 1 6 (Az sz)) (F0 m 61 ls [.int (jv70)]) := by
      intro jv70 H locs hP hD hS
      refine lv_istore_n (lv' := [(3, .int (jv70)), (2, .ref (ad (7 + i))), (1, .int (at1)), (0, .ref (ad 222))]) Bx.1 Bx.2.1 d_Rd_readRule_61 rfl hl (by decide) rfl (fun ls hl => ?_)
      refine lv_iload_n Bx.1 Bx.2.1 d_Rd_readRule_62 rfl (lv_at hl 0 rfl) ?_
      refine lv_if_eq Bx.1 Bx.2.1 d_Rd_readRule_63 rfl (fun h8 => ?_) (fun h8 => ?_)
      · refine lv_aload_n Bx.1 Bx.2.1 d_Rd_readRule_76 rfl (lv_at hl 3 rfl) ?_
        refine lv_aload_n Bx.1 Bx.2.1 d_Rd_readRule_77 rfl (lv_at hl 1 rfl) ?_
        obtain ⟨nm72, fi73, la74, hru75, hro76⟩ := hRS67.1.2.2.2.2.1 i (by omega)
        refine f_callVi (na := 0) (As := []) (rest := [.ref (ad 222)]) Bx hml E hP hD hS (by omega) hru75 rfl (m_Ru_isTold l hn hT hRS67 (by omega)) kw_401 kw_402 kw_403 kw_4 kw_404 (by decide +kernel) ⟨rfl, rfl⟩ ⟨Nat.le_of_ble_eq_true rfl, Nat.le_of_ble_eq_true rfl⟩ rfl hl.1 (Nat.le_of_ble_eq_true rfl) d_Rd_readRule_78 ⟨Nat.le_of_ble_eq_true rfl, Nat.le_of_ble_eq_true rfl⟩ (fun r77 mem78 H locs hq hP hS => ?_)
        have hD : va_D (Az sz) (fw n ad mem78) := fw_D hD
        rw [hq] at hP hD
        refine lv_iload_n Bx.1 Bx.2.1 d_Rd_readRule_81 rfl (lv_at hl 0 rfl) ?_
        have J80 : ∀ (jv79 : Int32) (H : Heap) (locs : List Loc), va_P D vcl (fw n ad mem63) H → va_D (Az sz) (fw n ad mem63) → va_S (Az sz) s.heap H locs → W p l e (headSpec (Cond.code y_Rd_readRule c_Rd_readRule 4 none :: tg) ({ frames := 60, cells := 1, slots := 6, locals := 1500 } : Room)).room s m [.ref (ad 222)].toArray below meth c H locs 0 0 (vx_MQ below (QX (va_Qv (fun mem' => ∃ lim' rc' ec' : Nat, RS cy ad lim' rc' ec' m0 mem') (PP D n ad) (Az sz))) (XQ D sz n ad (fun X mem' => (X = cIA ∨ X = cIS) ∧ ∃ lim' rc' ec' : Nat, RS cy ad lim' rc' ec' m0 mem')) [.ref (ad 222)].toArray s 1 6 (Az sz)) (F0 m 90 ls [.int (jv79), .ref (ad 222)]) := by
          intro jv79 H locs hP hD hS
          refine lv_iload_n Bx.1 Bx.2.1 d_Rd_readRule_90 rfl (lv_at hl 2 rfl) ?_
          refine f_xVv (na := 2) (As := [.int (jv79), .int (at1)]) (rest := []) Bx hml E hP hD hS (by omega) h_mem63 rfl (m_Rd_needReadable l hlt hn hT hRS67) kw_360 kw_362 sel_Rd_needReadable kw_6 kw_363 (by decide +kernel) ⟨rfl, rfl⟩ ⟨Nat.le_of_ble_eq_true rfl, Nat.le_of_ble_eq_true rfl⟩ rfl hl.1 (Nat.le_of_ble_eq_true rfl) d_Rd_readRule_91 ⟨Nat.le_of_ble_eq_true rfl, Nat.le_of_ble_eq_true rfl⟩ (fun X ce q9 memx H locs hx9 hP hS g1 g2 g3 => f_out hlocks hno hP hS g1 g2 g3 ⟨Nat.le_of_ble_eq_true rfl, Nat.le_of_ble_eq_true rfl⟩ ⟨hx9.1, hx9.2.elim (fun a9 q9 => q9.elim (fun b9 q9 => ⟨_, a9, b9, q9⟩))⟩) (fun mem82 H locs hq hP hS => ?_)
          have hD : va_D (Az sz) (fw n ad mem82) := fw_D hD
          obtain ⟨hRS83, -, hg84⟩ := hq
          obtain ⟨at85, ft86, h9_87⟩ := hRS83.2.1
          have h1_88 : mem82 1 = .inr (0, [.ref (ad 2), .int (nI Z)]) := (hRS83.2.2 1 (by omega)).trans hT.1
          have h2_89 : mem82 2 = .inl (cy 0, 240, .inl f) := (hRS83.2.2 2 (by omega)).trans hT.2.2
          have h5_90 := hRS83.1.2.1
          have hbd96 := hRS83.1.1
          obtain ⟨S91, g92, hS_93, h220_94, h221_95⟩ := hRS83.1.2.2.2.2.2.2
          refine lv_aload_n Bx.1 Bx.2.1 d_Rd_readRule_94 rfl (lv_at hl 3 rfl) ?_
          refine f_callVi (na := 0) (As := []) (rest := []) Bx hml E hP hD hS (by omega) h9_87 rfl (m_Rd_readGap l hn hT hRS83) kw_397 kw_399 sel_Rd_readGap kw_6 kw_400 (by decide +kernel) ⟨rfl, rfl⟩ ⟨Nat.le_of_ble_eq_true rfl, Nat.le_of_ble_eq_true rfl⟩ rfl hl.1 (Nat.le_of_ble_eq_true rfl) d_Rd_readRule_95 ⟨Nat.le_of_ble_eq_true rfl, Nat.le_of_ble_eq_true rfl⟩ (fun r98 mem99 H locs hRS97 hP hS => ?_)
          have hD : va_D (Az sz) (fw n ad mem99) := fw_D hD
          obtain ⟨at100, ft101, h9_102⟩ := hRS97.2.1
          have h1_103 : mem99 1 = .inr (0, [.ref (ad 2), .int (nI Z)]) := (hRS97.2.2 1 (by omega)).trans hT.1
          have h2_104 : mem99 2 = .inl (cy 0, 240, .inl f) := (hRS97.2.2 2 (by omega)).trans hT.2.2
          have h5_105 := hRS97.1.2.1
          have hbd111 := hRS97.1.1
          obtain ⟨S106, g107, hS_108, h220_109, h221_110⟩ := hRS97.1.2.2.2.2.2.2
          refine lv_pop Bx.1 Bx.2.1 d_Rd_readRule_98 rfl ?_
          refine lv_aload_n Bx.1 Bx.2.1 d_Rd_readRule_99 rfl (lv_at hl 1 rfl) ?_
          refine lv_aload_n Bx.1 Bx.2.1 d_Rd_readRule_100 rfl (lv_at hl 3 rfl) ?_
          refine lv_iconst (v := 0) Bx.1 Bx.2.1 d_Rd_readRule_101 (by decide) ?_
          refine f_xVr (na := 1) (As := [.int (0)]) (rest := [.ref (ad (7 + i))]) Bx hml E hP hD hS (by omega) h9_102 rfl (m_Rd_readAlternatives_0 l hlt hn hT hRS97) kw_405 kw_407 sel_Rd_readAlternatives kw_6 kw_408 (by decide +kernel) ⟨rfl, rfl⟩ ⟨Nat.le_of_ble_eq_true rfl, Nat.le_of_ble_eq_true rfl⟩ rfl hl.1 (Nat.le_of_ble_eq_true rfl) d_Rd_readRule_102 ⟨Nat.le_of_ble_eq_true rfl, Nat.le_of_ble_eq_true rfl⟩ (fun X ce q9 memx H locs hx9 hP hS g1 g2 g3 => f_out hlocks hno hP hS g1 g2 g3 ⟨Nat.le_of_ble_eq_true rfl, Nat.le_of_ble_eq_true rfl⟩ ⟨hx9.1, hx9.2.elim (fun a9 q9 => q9.elim (fun b9 q9 => ⟨_, a9, b9, q9⟩))⟩) (fun r112 mem113 H locs hq hP hS => ?_)
          have hD : va_D (Az sz) (fw n ad mem113) := fw_D hD
          obtain ⟨kx114, rc115, ec116, hr9118, hb119, hb120, hb121, hRS117⟩ := hq
          subst hr9118
          have hbd122 := hRS117.1.1
          obtain ⟨at123, ft124, h9_125⟩ := hRS117.2.1
          have h1_126 : mem113 1 = .inr (0, [.ref (ad 2), .int (nI Z)]) := (hRS117.2.2 1 (by omega)).trans hT.1
          have h2_127 : mem113 2 = .inl (cy 0, 240, .inl f) := (hRS117.2.2 2 (by omega)).trans hT.2.2
          have h5_128 := hRS117.1.2.1
          have hbd134 := hRS117.1.1
          obtain ⟨S129, g130, hS_131, h220_132, h221_133⟩ := hRS117.1.2.2.2.2.2.2
          obtain ⟨nm135, fi136, la137, hru138, hro139⟩ := hRS117.1.2.2.2.2.1 i (by omega)
          refine f_callVv (na := 1) (As := [.ref (ad (20 + 2 * kx114))]) (rest := []) Bx hml E hP hD hS (by omega) hru138 rfl (m_Ru_tell l hn hT hRS117 (by omega) ⟨by omega, by omega⟩) kw_490 kw_491 kw_492 kw_4 kw_493 (by decide +kernel) ⟨rfl, rfl⟩ ⟨Nat.le_of_ble_eq_true rfl, Nat.le_of_ble_eq_true rfl⟩ rfl hl.1 (Nat.le_of_ble_eq_true rfl) d_Rd_readRule_105 ⟨Nat.le_of_ble_eq_true rfl, Nat.le_of_ble_eq_true rfl⟩ (fun mem142 H locs hRS140 hP hS => ?_)
          have hD : va_D (Az sz) (fw n ad mem142) := fw_D hD
          obtain ⟨at143, ft144, h9_145⟩ := hRS140.2.1
          have h1_146 : mem142 1 = .inr (0, [.ref (ad 2), .int (nI Z)]) := (hRS140.2.2 1 (by omega)).trans hT.1
          have h2_147 : mem142 2 = .inl (cy 0, 240, .inl f) := (hRS140.2.2 2 (by omega)).trans hT.2.2
          have h5_148 := hRS140.1.2.1
          have hbd154 := hRS140.1.1
          obtain ⟨S149, g150, hS_151, h220_152, h221_153⟩ := hRS140.1.2.2.2.2.2.2
          refine lv_aload_n Bx.1 Bx.2.1 d_Rd_readRule_108 rfl (lv_at hl 3 rfl) ?_
          refine lv_aload_n Bx.1 Bx.2.1 d_Rd_readRule_109 rfl (lv_at hl 3 rfl) ?_
          refine f_callVi (na := 0) (As := []) (rest := [.ref (ad 222)]) Bx hml E hP hD hS (by omega) h9_145 rfl (m_Rd_peek l hn hT hRS140) kw_353 kw_355 sel_Rd_peek kw_6 kw_356 (by decide +kernel) ⟨rfl, rfl⟩ ⟨Nat.le_of_ble_eq_true rfl, Nat.le_of_ble_eq_true rfl⟩ rfl hl.1 (Nat.le_of_ble_eq_true rfl) d_Rd_readRule_110 ⟨Nat.le_of_ble_eq_true rfl, Nat.le_of_ble_eq_true rfl⟩ (fun r155 mem156 H locs hq hP hS => ?_)
          have hD : va_D (Az sz) (fw n ad mem156) := fw_D hD
          rw [hq] at hP hD
          refine lv_iconst (v := -1) Bx.1 Bx.2.1 d_Rd_readRule_113 (by decide) ?_
          have J158 : ∀ (jv157 : Int32) (H : Heap) (locs : List Loc), va_P D vcl (fw n ad mem142) H → va_D (Az sz) (fw n ad mem142) → va_S (Az sz) s.heap H locs → W p l e (headSpec (Cond.code y_Rd_readRule c_Rd_readRule 4 none :: tg) ({ frames := 60, cells := 1, slots := 6, locals := 1500 } : Room)).room s m [.ref (ad 222)].toArray below meth c H locs 0 0 (vx_MQ below (QX (va_Qv (fun mem' => ∃ lim' rc' ec' : Nat, RS cy ad lim' rc' ec' m0 mem') (PP D n ad) (Az sz))) (XQ D sz n ad (fun X mem' => (X = cIA ∨ X = cIS) ∧ ∃ lim' rc' ec' : Nat, RS cy ad lim' rc' ec' m0 mem')) [.ref (ad 222)].toArray s 1 6 (Az sz)) (F0 m 131 ls [.int (jv157), .ref (ad 222)]) := by
            intro jv157 H locs hP hD hS
            refine lv_aload_n Bx.1 Bx.2.1 d_Rd_readRule_131 rfl (lv_at hl 3 rfl) ?_
            refine f_get Bx hP (by omega) h9_145 rfl inRd 2 (by decide) kw_146 rfl rfl d_Rd_readRule_132 ?_
            refine f_xVv (na := 2) (As := [.int (jv157), .int (at143)]) (rest := []) Bx hml E hP hD hS (by omega) h9_145 rfl (m_Rd_needReadable l hlt hn hT hRS140) kw_360 kw_362 sel_Rd_needReadable kw_6 kw_363 (by decide +kernel) ⟨rfl, rfl⟩ ⟨Nat.le_of_ble_eq_true rfl, Nat.le_of_ble_eq_true rfl⟩ rfl hl.1 (Nat.le_of_ble_eq_true rfl) d_Rd_readRule_135 ⟨Nat.le_of_ble_eq_true rfl, Nat.le_of_ble_eq_true rfl⟩ (fun X ce q9 memx H locs hx9 hP hS g1 g2 g3 => f_out hlocks hno hP hS g1 g2 g3 ⟨Nat.le_of_ble_eq_true rfl, Nat.le_of_ble_eq_true rfl⟩ ⟨hx9.1, hx9.2.elim (fun a9 q9 => q9.elim (fun b9 q9 => ⟨_, a9, b9, q9⟩))⟩) (fun mem160 H locs hq hP hS => ?_)
            have hD : va_D (Az sz) (fw n ad mem160) := fw_D hD
            obtain ⟨hRS161, -, hg162⟩ := hq
            obtain ⟨at163, ft164, h9_165⟩ := hRS161.2.1
            have h1_166 : mem160 1 = .inr (0, [.ref (ad 2), .int (nI Z)]) := (hRS161.2.2 1 (by omega)).trans hT.1
            have h2_167 : mem160 2 = .inl (cy 0, 240, .inl f) := (hRS161.2.2 2 (by omega)).trans hT.2.2
            have h5_168 := hRS161.1.2.1
            have hbd174 := hRS161.1.1
            obtain ⟨S169, g170, hS_171, h220_172, h221_173⟩ := hRS161.1.2.2.2.2.2.2
            refine lv_aload_n Bx.1 Bx.2.1 d_Rd_readRule_138 rfl (lv_at hl 3 rfl) ?_
            refine lv_aload_n Bx.1 Bx.2.1 d_Rd_readRule_139 rfl (lv_at hl 3 rfl) ?_
            refine lv_aload_n Bx.1 Bx.2.1 d_Rd_readRule_140 rfl (lv_at hl 3 rfl) ?_
            refine f_get Bx hP (by omega) h9_165 rfl inRd 2 (by decide) kw_146 rfl rfl d_Rd_readRule_141 ?_
            refine lv_iconst (v := 1) Bx.1 Bx.2.1 d_Rd_readRule_144 (by decide) ?_
            refine lv_iadd Bx.1 Bx.2.1 d_Rd_readRule_145 ?_
            refine f_callVi (na := 1) (As := [.int (at163 + 1)]) (rest := [.ref (ad 222)]) Bx hml E hP hD hS (by omega) h9_165 rfl (m_Rd_fullLineFrom l hn hT hRS161) kw_337 kw_339 sel_Rd_fullLineFrom kw_6 kw_340 (by decide +kernel) ⟨rfl, rfl⟩ ⟨Nat.le_of_ble_eq_true rfl, Nat.le_of_ble_eq_true rfl⟩ rfl hl.1 (Nat.le_of_ble_eq_true rfl) d_Rd_readRule_146 ⟨Nat.le_of_ble_eq_true rfl, Nat.le_of_ble_eq_true rfl⟩ (fun r175 mem176 H locs hq hP hS => ?_)
            have hD : va_D (Az sz) (fw n ad mem176) := fw_D hD
            rw [hq] at hP hD
            refine f_put Bx hP hD hS (by omega) h9_165 rfl inRd tyRd okRd nmRd 2 (by decide) kw_146 rfl rfl rfl rfl (Nat.le_of_ble_eq_true rfl) d_Rd_readRule_149 (fun H locs hP hS => ?_)
            obtain ⟨mem177, e_mem177⟩ : ∃ z, z = va_up mem160 (222) (.inr (4, [.ref (ad 1), .ref (ad 5), .int (r175), .int (ft164)])) := ⟨_, rfl⟩
            have hP : va_P D vcl (fw n ad mem177) H := by rw [e_mem177]; exact hP
            have hD : va_D (Az sz) (fw n ad mem177) := fw_D hD
            have h_mem177 : mem177 (222) = .inr (4, [.ref (ad 1), .ref (ad 5), .int (r175), .int (ft164)]) := by rw [e_mem177, va_up_self]
            have hh178 := (va_up_ne mem160 (.inr (4, [.ref (ad 1), .ref (ad 5), .int (r175), .int (ft164)])) (show (1 : Nat) ≠ 222 by first | decide | assumption | omega)).trans h1_166
            rw [← e_mem177] at hh178
            have hh179 := (va_up_ne mem160 (.inr (4, [.ref (ad 1), .ref (ad 5), .int (r175), .int (ft164)])) (show (5 : Nat) ≠ 222 by first | decide | assumption | omega)).trans h5_168
            rw [← e_mem177] at hh179
            have hh180 := (va_up_ne mem160 (.inr (4, [.ref (ad 1), .ref (ad 5), .int (r175), .int (ft164)])) (show (220 : Nat) ≠ 222 by first | decide | assumption | omega)).trans h220_172
            rw [← e_mem177] at hh180
            have hRS181 : RS cy ad ec116 rc115 ec116 m0 mem177 := by rw [e_mem177]; exact hRS161.at222
            exact x_vret hx hb hlocks hr (⟨_, _, _, hRS181⟩) hP hS d_Rd_readRule_152
          refine lv_icmp_eq Bx.1 Bx.2.1 d_Rd_readRule_114 rfl (fun h8 => ?_) (fun h8 => ?_)
          · refine lv_iconst (v := 1) Bx.1 Bx.2.1 d_Rd_readRule_126 (by decide) ?_
            refine lv_goto Bx.1 Bx.2.1 d_Rd_readRule_127 rfl ?_
            exact J158 _ _ _ hP hD hS
          · refine lv_aload_n Bx.1 Bx.2.1 d_Rd_readRule_117 rfl (lv_at hl 3 rfl) ?_
            refine f_callVi (na := 0) (As := []) (rest := [.ref (ad 222)]) Bx hml E hP hD hS (by omega) h9_145 rfl (m_Rd_peek l hn hT hRS140) kw_353 kw_355 sel_Rd_peek kw_6 kw_356 (by decide +kernel) ⟨rfl, rfl⟩ ⟨Nat.le_of_ble_eq_true rfl, Nat.le_of_ble_eq_true rfl⟩ rfl hl.1 (Nat.le_of_ble_eq_true rfl) d_Rd_readRule_118 ⟨Nat.le_of_ble_eq_true rfl, Nat.le_of_ble_eq_true rfl⟩ (fun r182 mem183 H locs hq hP hS => ?_)
            have hD : va_D (Az sz) (fw n ad mem183) := fw_D hD
            rw [hq] at hP hD
            refine lv_bipush (v := 10) Bx.1 Bx.2.1 d_Rd_readRule_121 (by decide) ?_
            refine lv_icmp_ne Bx.1 Bx.2.1 d_Rd_readRule_123 rfl (fun h8 => ?_) (fun h8 => ?_)
            · refine lv_iconst (v := 0) Bx.1 Bx.2.1 d_Rd_readRule_130 (by decide) ?_
              exact J158 _ _ _ hP hD hS
            · refine lv_iconst (v := 1) Bx.1 Bx.2.1 d_Rd_readRule_126 (by decide) ?_
              refine lv_goto Bx.1 Bx.2.1 d_Rd_readRule_127 rfl ?_
              exact J158 _ _ _ hP hD hS
        refine lv_icmp_ne Bx.1 Bx.2.1 d_Rd_readRule_82 rfl (fun h8 => ?_) (fun h8 => ?_)
        · refine lv_iconst (v := 0) Bx.1 Bx.2.1 d_Rd_readRule_89 (by decide) ?_
          exact J80 _ _ _ hP hD hS
        · refine lv_iconst (v := 1) Bx.1 Bx.2.1 d_Rd_readRule_85 (by decide) ?_
          refine lv_goto Bx.1 Bx.2.1 d_Rd_readRule_86 rfl ?_
          exact J80 _ _ _ hP hD hS
      · refine lv_aload_n Bx.1 Bx.2.1 d_Rd_readRule_66 rfl (lv_at hl 3 rfl) ?_
        refine lv_dup Bx.1 Bx.2.1 d_Rd_readRule_67 rfl ?_
        refine f_get Bx hP (by omega) h_mem63 rfl inRd 2 (by decide) kw_146 rfl rfl d_Rd_readRule_68 ?_
        refine lv_iconst (v := 1) Bx.1 Bx.2.1 d_Rd_readRule_71 (by decide) ?_
        refine lv_iadd Bx.1 Bx.2.1 d_Rd_readRule_72 ?_
        refine f_put Bx hP hD hS (by omega) h_mem63 rfl inRd tyRd okRd nmRd 2 (by decide) kw_146 rfl rfl rfl rfl (Nat.le_of_ble_eq_true rfl) d_Rd_readRule_73 (fun H locs hP hS => ?_)
        obtain ⟨mem184, e_mem184⟩ : ∃ z, z = va_up mem63 (222) (.inr (4, [.ref (ad 1), .ref (ad 5), .int (at51 + 1 + 1), .int (ft52)])) := ⟨_, rfl⟩
        have hP : va_P D vcl (fw n ad mem184) H := by rw [e_mem184]; exact hP
        have hD : va_D (Az sz) (fw n ad mem184) := fw_D hD
        have h_mem184 : mem184 (222) = .inr (4, [.ref (ad 1), .ref (ad 5), .int (at51 + 1 + 1), .int (ft52)]) := by rw [e_mem184, va_up_self]
        have hh185 := (va_up_ne mem63 (.inr (4, [.ref (ad 1), .ref (ad 5), .int (at51 + 1 + 1), .int (ft52)])) (show (1 : Nat) ≠ 222 by first | decide | assumption | omega)).trans hh64
        rw [← e_mem184] at hh185
        have hh186 := (va_up_ne mem63 (.inr (4, [.ref (ad 1), .ref (ad 5), .int (at51 + 1 + 1), .int (ft52)])) (show (5 : Nat) ≠ 222 by first | decide | assumption | omega)).trans hh65
        rw [← e_mem184] at hh186
        have hh187 := (va_up_ne mem63 (.inr (4, [.ref (ad 1), .ref (ad 5), .int (at51 + 1 + 1), .int (ft52)])) (show (220 : Nat) ≠ 222 by first | decide | assumption | omega)).trans hh66
        rw [← e_mem184] at hh187
        have hRS188 : RS cy ad lim rc1 ec m0 mem184 := by rw [e_mem184]; exact hRS67.at222
        refine lv_aload_n Bx.1 Bx.2.1 d_Rd_readRule_76 rfl (lv_at hl 3 rfl) ?_
        refine lv_aload_n Bx.1 Bx.2.1 d_Rd_readRule_77 rfl (lv_at hl 1 rfl) ?_
        obtain ⟨nm189, fi190, la191, hru192, hro193⟩ := hRS188.1.2.2.2.2.1 i (by omega)
        refine f_callVi (na := 0) (As := []) (rest := [.ref (ad 222)]) Bx hml E hP hD hS (by omega) hru192 rfl (m_Ru_isTold l hn hT hRS188 (by omega)) kw_401 kw_402 kw_403 kw_4 kw_404 (by decide +kernel) ⟨rfl, rfl⟩ ⟨Nat.le_of_ble_eq_true rfl, Nat.le_of_ble_eq_true rfl⟩ rfl hl.1 (Nat.le_of_ble_eq_true rfl) d_Rd_readRule_78 ⟨Nat.le_of_ble_eq_true rfl, Nat.le_of_ble_eq_true rfl⟩ (fun r194 mem195 H locs hq hP hS => ?_)
        have hD : va_D (Az sz) (fw n ad mem195) := fw_D hD
        rw [hq] at hP hD
        refine lv_iload_n Bx.1 Bx.2.1 d_Rd_readRule_81 rfl (lv_at hl 0 rfl) ?_
        have J197 : ∀ (jv196 : Int32) (H : Heap) (locs : List Loc), va_P D vcl (fw n ad mem184) H → va_D (Az sz) (fw n ad mem184) → va_S (Az sz) s.heap H locs → W p l e (headSpec (Cond.code y_Rd_readRule c_Rd_readRule 4 none :: tg) ({ frames := 60, cells := 1, slots := 6, locals := 1500 } : Room)).room s m [.ref (ad 222)].toArray below meth c H locs 0 0 (vx_MQ below (QX (va_Qv (fun mem' => ∃ lim' rc' ec' : Nat, RS cy ad lim' rc' ec' m0 mem') (PP D n ad) (Az sz))) (XQ D sz n ad (fun X mem' => (X = cIA ∨ X = cIS) ∧ ∃ lim' rc' ec' : Nat, RS cy ad lim' rc' ec' m0 mem')) [.ref (ad 222)].toArray s 1 6 (Az sz)) (F0 m 90 ls [.int (jv196), .ref (ad 222)]) := by
          intro jv196 H locs hP hD hS
          refine lv_iload_n Bx.1 Bx.2.1 d_Rd_readRule_90 rfl (lv_at hl 2 rfl) ?_
          refine f_xVv (na := 2) (As := [.int (jv196), .int (at1)]) (rest := []) Bx hml E hP hD hS (by omega) h_mem184 rfl (m_Rd_needReadable l hlt hn hT hRS188) kw_360 kw_362 sel_Rd_needReadable kw_6 kw_363 (by decide +kernel) ⟨rfl, rfl⟩ ⟨Nat.le_of_ble_eq_true rfl, Nat.le_of_ble_eq_true rfl⟩ rfl hl.1 (Nat.le_of_ble_eq_true rfl) d_Rd_readRule_91 ⟨Nat.le_of_ble_eq_true rfl, Nat.le_of_ble_eq_true rfl⟩ (fun X ce q9 memx H locs hx9 hP hS g1 g2 g3 => f_out hlocks hno hP hS g1 g2 g3 ⟨Nat.le_of_ble_eq_true rfl, Nat.le_of_ble_eq_true rfl⟩ ⟨hx9.1, hx9.2.elim (fun a9 q9 => q9.elim (fun b9 q9 => ⟨_, a9, b9, q9⟩))⟩) (fun mem199 H locs hq hP hS => ?_)
          have hD : va_D (Az sz) (fw n ad mem199) := fw_D hD
          obtain ⟨hRS200, -, hg201⟩ := hq
          obtain ⟨at202, ft203, h9_204⟩ := hRS200.2.1
          have h1_205 : mem199 1 = .inr (0, [.ref (ad 2), .int (nI Z)]) := (hRS200.2.2 1 (by omega)).trans hT.1
          have h2_206 : mem199 2 = .inl (cy 0, 240, .inl f) := (hRS200.2.2 2 (by omega)).trans hT.2.2
          have h5_207 := hRS200.1.2.1
          have hbd213 := hRS200.1.1
          obtain ⟨S208, g209, hS_210, h220_211, h221_212⟩ := hRS200.1.2.2.2.2.2.2
          refine lv_aload_n Bx.1 Bx.2.1 d_Rd_readRule_94 rfl (lv_at hl 3 rfl) ?_
          refine f_callVi (na := 0) (As := []) (rest := []) Bx hml E hP hD hS (by omega) h9_204 rfl (m_Rd_readGap l hn hT hRS200) kw_397 kw_399 sel_Rd_readGap kw_6 kw_400 (by decide +kernel) ⟨rfl, rfl⟩ ⟨Nat.le_of_ble_eq_true rfl, Nat.le_of_ble_eq_true rfl⟩ rfl hl.1 (Nat.le_of_ble_eq_true rfl) d_Rd_readRule_95 ⟨Nat.le_of_ble_eq_true rfl, Nat.le_of_ble_eq_true rfl⟩ (fun r215 mem216 H locs hRS214 hP hS => ?_)
          have hD : va_D (Az sz) (fw n ad mem216) := fw_D hD
          obtain ⟨at217, ft218, h9_219⟩ := hRS214.2.1
          have h1_220 : mem216 1 = .inr (0, [.ref (ad 2), .int (nI Z)]) := (hRS214.2.2 1 (by omega)).trans hT.1
          have h2_221 : mem216 2 = .inl (cy 0, 240, .inl f) := (hRS214.2.2 2 (by omega)).trans hT.2.2
          have h5_222 := hRS214.1.2.1
          have hbd228 := hRS214.1.1
          obtain ⟨S223, g224, hS_225, h220_226, h221_227⟩ := hRS214.1.2.2.2.2.2.2
          refine lv_pop Bx.1 Bx.2.1 d_Rd_readRule_98 rfl ?_
          refine lv_aload_n Bx.1 Bx.2.1 d_Rd_readRule_99 rfl (lv_at hl 1 rfl) ?_
          refine lv_aload_n Bx.1 Bx.2.1 d_Rd_readRule_100 rfl (lv_at hl 3 rfl) ?_
          refine lv_iconst (v := 0) Bx.1 Bx.2.1 d_Rd_readRule_101 (by decide) ?_
          refine f_xVr (na := 1) (As := [.int (0)]) (rest := [.ref (ad (7 + i))]) Bx hml E hP hD hS (by omega) h9_219 rfl (m_Rd_readAlternatives_0 l hlt hn hT hRS214) kw_405 kw_407 sel_Rd_readAlternatives kw_6 kw_408 (by decide +kernel) ⟨rfl, rfl⟩ ⟨Nat.le_of_ble_eq_true rfl, Nat.le_of_ble_eq_true rfl⟩ rfl hl.1 (Nat.le_of_ble_eq_true rfl) d_Rd_readRule_102 ⟨Nat.le_of_ble_eq_true rfl, Nat.le_of_ble_eq_true rfl⟩ (fun X ce q9 memx H locs hx9 hP hS g1 g2 g3 => f_out hlocks hno hP hS g1 g2 g3 ⟨Nat.le_of_ble_eq_true rfl, Nat.le_of_ble_eq_true rfl⟩ ⟨hx9.1, hx9.2.elim (fun a9 q9 => q9.elim (fun b9 q9 => ⟨_, a9, b9, q9⟩))⟩) (fun r229 mem230 H locs hq hP hS => ?_)
          have hD : va_D (Az sz) (fw n ad mem230) := fw_D hD
          obtain ⟨kx231, rc232, ec233, hr9235, hb236, hb237, hb238, hRS234⟩ := hq
          subst hr9235
          have hbd239 := hRS234.1.1
          obtain ⟨at240, ft241, h9_242⟩ := hRS234.2.1
          have h1_243 : mem230 1 = .inr (0, [.ref (ad 2), .int (nI Z)]) := (hRS234.2.2 1 (by omega)).trans hT.1
          have h2_244 : mem230 2 = .inl (cy 0, 240, .inl f) := (hRS234.2.2 2 (by omega)).trans hT.2.2
          have h5_245 := hRS234.1.2.1
          have hbd251 := hRS234.1.1
          obtain ⟨S246, g247, hS_248, h220_249, h221_250⟩ := hRS234.1.2.2.2.2.2.2
          obtain ⟨nm252, fi253, la254, hru255, hro256⟩ := hRS234.1.2.2.2.2.1 i (by omega)
          refine f_callVv (na := 1) (As := [.ref (ad (20 + 2 * kx231))]) (rest := []) Bx hml E hP hD hS (by omega) hru255 rfl (m_Ru_tell l hn hT hRS234 (by omega) ⟨by omega, by omega⟩) kw_490 kw_491 kw_492 kw_4 kw_493 (by decide +kernel) ⟨rfl, rfl⟩ ⟨Nat.le_of_ble_eq_true rfl, Nat.le_of_ble_eq_true rfl⟩ rfl hl.1 (Nat.le_of_ble_eq_true rfl) d_Rd_readRule_105 ⟨Nat.le_of_ble_eq_true rfl, Nat.le_of_ble_eq_true rfl⟩ (fun mem259 H locs hRS257 hP hS => ?_)
          have hD : va_D (Az sz) (fw n ad mem259) := fw_D hD
          obtain ⟨at260, ft261, h9_262⟩ := hRS257.2.1
          have h1_263 : mem259 1 = .inr (0, [.ref (ad 2), .int (nI Z)]) := (hRS257.2.2 1 (by omega)).trans hT.1
          have h2_264 : mem259 2 = .inl (cy 0, 240, .inl f) := (hRS257.2.2 2 (by omega)).trans hT.2.2
          have h5_265 := hRS257.1.2.1
          have hbd271 := hRS257.1.1
          obtain ⟨S266, g267, hS_268, h220_269, h221_270⟩ := hRS257.1.2.2.2.2.2.2
          refine lv_aload_n Bx.1 Bx.2.1 d_Rd_readRule_108 rfl (lv_at hl 3 rfl) ?_
          refine lv_aload_n Bx.1 Bx.2.1 d_Rd_readRule_109 rfl (lv_at hl 3 rfl) ?_
          refine f_callVi (na := 0) (As := []) (rest := [.ref (ad 222)]) Bx hml E hP hD hS (by omega) h9_262 rfl (m_Rd_peek l hn hT hRS257) kw_353 kw_355 sel_Rd_peek kw_6 kw_356 (by decide +kernel) ⟨rfl, rfl⟩ ⟨Nat.le_of_ble_eq_true rfl, Nat.le_of_ble_eq_true rfl⟩ rfl hl.1 (Nat.le_of_ble_eq_true rfl) d_Rd_readRule_110 ⟨Nat.le_of_ble_eq_true rfl, Nat.le_of_ble_eq_true rfl⟩ (fun r272 mem273 H locs hq hP hS => ?_)
          have hD : va_D (Az sz) (fw n ad mem273) := fw_D hD
          rw [hq] at hP hD
          refine lv_iconst (v := -1) Bx.1 Bx.2.1 d_Rd_readRule_113 (by decide) ?_
          have J275 : ∀ (jv274 : Int32) (H : Heap) (locs : List Loc), va_P D vcl (fw n ad mem259) H → va_D (Az sz) (fw n ad mem259) → va_S (Az sz) s.heap H locs → W p l e (headSpec (Cond.code y_Rd_readRule c_Rd_readRule 4 none :: tg) ({ frames := 60, cells := 1, slots := 6, locals := 1500 } : Room)).room s m [.ref (ad 222)].toArray below meth c H locs 0 0 (vx_MQ below (QX (va_Qv (fun mem' => ∃ lim' rc' ec' : Nat, RS cy ad lim' rc' ec' m0 mem') (PP D n ad) (Az sz))) (XQ D sz n ad (fun X mem' => (X = cIA ∨ X = cIS) ∧ ∃ lim' rc' ec' : Nat, RS cy ad lim' rc' ec' m0 mem')) [.ref (ad 222)].toArray s 1 6 (Az sz)) (F0 m 131 ls [.int (jv274), .ref (ad 222)]) := by
            intro jv274 H locs hP hD hS
            refine lv_aload_n Bx.1 Bx.2.1 d_Rd_readRule_131 rfl (lv_at hl 3 rfl) ?_
            refine f_get Bx hP (by omega) h9_262 rfl inRd 2 (by decide) kw_146 rfl rfl d_Rd_readRule_132 ?_
            refine f_xVv (na := 2) (As := [.int (jv274), .int (at260)]) (rest := []) Bx hml E hP hD hS (by omega) h9_262 rfl (m_Rd_needReadable l hlt hn hT hRS257) kw_360 kw_362 sel_Rd_needReadable kw_6 kw_363 (by decide +kernel) ⟨rfl, rfl⟩ ⟨Nat.le_of_ble_eq_true rfl, Nat.le_of_ble_eq_true rfl⟩ rfl hl.1 (Nat.le_of_ble_eq_true rfl) d_Rd_readRule_135 ⟨Nat.le_of_ble_eq_true rfl, Nat.le_of_ble_eq_true rfl⟩ (fun X ce q9 memx H locs hx9 hP hS g1 g2 g3 => f_out hlocks hno hP hS g1 g2 g3 ⟨Nat.le_of_ble_eq_true rfl, Nat.le_of_ble_eq_true rfl⟩ ⟨hx9.1, hx9.2.elim (fun a9 q9 => q9.elim (fun b9 q9 => ⟨_, a9, b9, q9⟩))⟩) (fun mem277 H locs hq hP hS => ?_)
            have hD : va_D (Az sz) (fw n ad mem277) := fw_D hD
            obtain ⟨hRS278, -, hg279⟩ := hq
            obtain ⟨at280, ft281, h9_282⟩ := hRS278.2.1
            have h1_283 : mem277 1 = .inr (0, [.ref (ad 2), .int (nI Z)]) := (hRS278.2.2 1 (by omega)).trans hT.1
            have h2_284 : mem277 2 = .inl (cy 0, 240, .inl f) := (hRS278.2.2 2 (by omega)).trans hT.2.2
            have h5_285 := hRS278.1.2.1
            have hbd291 := hRS278.1.1
            obtain ⟨S286, g287, hS_288, h220_289, h221_290⟩ := hRS278.1.2.2.2.2.2.2
            refine lv_aload_n Bx.1 Bx.2.1 d_Rd_readRule_138 rfl (lv_at hl 3 rfl) ?_
            refine lv_aload_n Bx.1 Bx.2.1 d_Rd_readRule_139 rfl (lv_at hl 3 rfl) ?_
            refine lv_aload_n Bx.1 Bx.2.1 d_Rd_readRule_140 rfl (lv_at hl 3 rfl) ?_
            refine f_get Bx hP (by omega) h9_282 rfl inRd 2 (by decide) kw_146 rfl rfl d_Rd_readRule_141 ?_
            refine lv_iconst (v := 1) Bx.1 Bx.2.1 d_Rd_readRule_144 (by decide) ?_
            refine lv_iadd Bx.1 Bx.2.1 d_Rd_readRule_145 ?_
            refine f_callVi (na := 1) (As := [.int (at280 + 1)]) (rest := [.ref (ad 222)]) Bx hml E hP hD hS (by omega) h9_282 rfl (m_Rd_fullLineFrom l hn hT hRS278) kw_337 kw_339 sel_Rd_fullLineFrom kw_6 kw_340 (by decide +kernel) ⟨rfl, rfl⟩ ⟨Nat.le_of_ble_eq_true rfl, Nat.le_of_ble_eq_true rfl⟩ rfl hl.1 (Nat.le_of_ble_eq_true rfl) d_Rd_readRule_146 ⟨Nat.le_of_ble_eq_true rfl, Nat.le_of_ble_eq_true rfl⟩ (fun r292 mem293 H locs hq hP hS => ?_)
            have hD : va_D (Az sz) (fw n ad mem293) := fw_D hD
            rw [hq] at hP hD
            refine f_put Bx hP hD hS (by omega) h9_282 rfl inRd tyRd okRd nmRd 2 (by decide) kw_146 rfl rfl rfl rfl (Nat.le_of_ble_eq_true rfl) d_Rd_readRule_149 (fun H locs hP hS => ?_)
            obtain ⟨mem294, e_mem294⟩ : ∃ z, z = va_up mem277 (222) (.inr (4, [.ref (ad 1), .ref (ad 5), .int (r292), .int (ft281)])) := ⟨_, rfl⟩
            have hP : va_P D vcl (fw n ad mem294) H := by rw [e_mem294]; exact hP
            have hD : va_D (Az sz) (fw n ad mem294) := fw_D hD
            have h_mem294 : mem294 (222) = .inr (4, [.ref (ad 1), .ref (ad 5), .int (r292), .int (ft281)]) := by rw [e_mem294, va_up_self]
            have hh295 := (va_up_ne mem277 (.inr (4, [.ref (ad 1), .ref (ad 5), .int (r292), .int (ft281)])) (show (1 : Nat) ≠ 222 by first | decide | assumption | omega)).trans h1_283
            rw [← e_mem294] at hh295
            have hh296 := (va_up_ne mem277 (.inr (4, [.ref (ad 1), .ref (ad 5), .int (r292), .int (ft281)])) (show (5 : Nat) ≠ 222 by first | decide | assumption | omega)).trans h5_285
            rw [← e_mem294] at hh296
            have hh297 := (va_up_ne mem277 (.inr (4, [.ref (ad 1), .ref (ad 5), .int (r292), .int (ft281)])) (show (220 : Nat) ≠ 222 by first | decide | assumption | omega)).trans h220_289
            rw [← e_mem294] at hh297
            have hRS298 : RS cy ad ec233 rc232 ec233 m0 mem294 := by rw [e_mem294]; exact hRS278.at222
            exact x_vret hx hb hlocks hr (⟨_, _, _, hRS298⟩) hP hS d_Rd_readRule_152
          refine lv_icmp_eq Bx.1 Bx.2.1 d_Rd_readRule_114 rfl (fun h8 => ?_) (fun h8 => ?_)
          · refine lv_iconst (v := 1) Bx.1 Bx.2.1 d_Rd_readRule_126 (by decide) ?_
            refine lv_goto Bx.1 Bx.2.1 d_Rd_readRule_127 rfl ?_
            exact J275 _ _ _ hP hD hS
          · refine lv_aload_n Bx.1 Bx.2.1 d_Rd_readRule_117 rfl (lv_at hl 3 rfl) ?_
            refine f_callVi (na := 0) (As := []) (rest := [.ref (ad 222)]) Bx hml E hP hD hS (by omega) h9_262 rfl (m_Rd_peek l hn hT hRS257) kw_353 kw_355 sel_Rd_peek kw_6 kw_356 (by decide +kernel) ⟨rfl, rfl⟩ ⟨Nat.le_of_ble_eq_true rfl, Nat.le_of_ble_eq_true rfl⟩ rfl hl.1 (Nat.le_of_ble_eq_true rfl) d_Rd_readRule_118 ⟨Nat.le_of_ble_eq_true rfl, Nat.le_of_ble_eq_true rfl⟩ (fun r299 mem300 H locs hq hP hS => ?_)
            have hD : va_D (Az sz) (fw n ad mem300) := fw_D hD
            rw [hq] at hP hD
            refine lv_bipush (v := 10) Bx.1 Bx.2.1 d_Rd_readRule_121 (by decide) ?_
            refine lv_icmp_ne Bx.1 Bx.2.1 d_Rd_readRule_123 rfl (fun h8 => ?_) (fun h8 => ?_)
            · refine lv_iconst (v := 0) Bx.1 Bx.2.1 d_Rd_readRule_130 (by decide) ?_
              exact J275 _ _ _ hP hD hS
            · refine lv_iconst (v := 1) Bx.1 Bx.2.1 d_Rd_readRule_126 (by decide) ?_
              refine lv_goto Bx.1 Bx.2.1 d_Rd_readRule_127 rfl ?_
              exact J275 _ _ _ hP hD hS
        refine lv_icmp_ne Bx.1 Bx.2.1 d_Rd_readRule_82 rfl (fun h8 => ?_) (fun h8 => ?_)
        · refine lv_iconst (v := 0) Bx.1 Bx.2.1 d_Rd_readRule_89 (by decide) ?_
          exact J197 _ _ _ hP hD hS
        · refine lv_iconst (v := 1) Bx.1 Bx.2.1 d_Rd_readRule_85 (by decide) ?_
          refine lv_goto Bx.1 Bx.2.1 d_Rd_readRule_86 rfl ?_
          exact J197 _ _ _ hP hD hS
    refine lv_icmp_ne Bx.1 Bx.2.1 d_Rd_readRule_53 rfl (fun h8 => ?_) (fun h8 => ?_)
    · refine lv_iconst (v := 0) Bx.1 Bx.2.1 d_Rd_readRule_60 (by decide) ?_
      exact J71 _ _ _ hP hD hS
    · refine lv_iconst (v := 1) Bx.1 Bx.2.1 d_Rd_readRule_56 (by decide) ?_
      refine lv_goto Bx.1 Bx.2.1 d_Rd_readRule_57 rfl ?_
      exact J71 _ _ _ hP hD hS
  refine lv_icmp_ne Bx.1 Bx.2.1 d_Rd_readRule_22 rfl (fun h8 => ?_) (fun h8 => ?_)
  · refine lv_iconst (v := 0) Bx.1 Bx.2.1 d_Rd_readRule_29 (by decide) ?_
    exact J46 _ _ _ hP hD hS
  · refine lv_iconst (v := 1) Bx.1 Bx.2.1 d_Rd_readRule_25 (by decide) ?_
    refine lv_goto Bx.1 Bx.2.1 d_Rd_readRule_26 rfl ?_
    exact J46 _ _ _ hP hD hS
theorem GI.begin {cy : Nat → ClassId} {ad : Nat → Nat} {lim rc ec : Nat} {wh : Int32} {mem : Nat → va_E} (h : GI cy ad lim rc ec wh mem) {x : va_E} (hx : x = .inr (0, [.ref (ad 221), .int (nI 0)])) : GI cy ad 0 0 0 0 (va_up (va_up mem 220 x) 5 (.inr (3, [.ref (ad 6), .ref (ad 19), .ref (ad 220), .int (nI 0), .int (nI 0), .int 0]))) := by
  subst hx
  have h' := h.up220 (S' := 0) (by omega)
  obtain ⟨h1, h5, h6, h19, hr, he, S, g, hS, h220, h221⟩ := h'
  refine ⟨⟨by omega, by omega, by omega⟩, va_up_self _ _ _, (va_up_ne _ _ (by omega)).trans h6, (va_up_ne _ _ (by omega)).trans h19, fun i hi => ?_, fun j hj => ⟨?_, ?_⟩, S, g, hS, (va_up_ne _ _ (by omega)).trans h220, (va_up_ne _ _ (by omega)).trans h221⟩
  · obtain ⟨nm, v, w, e, -⟩ := hr i hi
    exact ⟨nm, v, w, (va_up_ne _ _ (by omega)).trans e, fun h => absurd h (by omega)⟩
  · obtain ⟨a, b, c, q, v, w, e, -⟩ := (he j hj).1
    exact ⟨a, b, c, q, v, w, (va_up_ne _ _ (by omega)).trans e, fun h => absurd h (by omega)⟩
  · obtain ⟨g', h⟩ := (he j hj).2
    exact ⟨g', (va_up_ne _ _ (by omega)).trans h⟩
theorem GI.end1 {cy : Nat → ClassId} {ad : Nat → Nat} {lim rc ec : Nat} {wh wh' : Int32} {mem : Nat → va_E} (h : GI cy ad lim rc ec wh mem) : GI cy ad lim rc ec wh' (va_up mem 5 (.inr (3, [.ref (ad 6), .ref (ad 19), .ref (ad 220), .int (nI rc), .int (nI ec), .int wh']))) := by
  refine h.up5 h.1 (fun i hi hir => ?_) (fun k hk hke => ?_)
  · obtain ⟨nm, v, w, e, o⟩ := h.2.2.2.2.1 i hi
    exact ⟨nm, v, w, e, o hir⟩
  · obtain ⟨a, b, c, q, v, w, e, o⟩ := (h.2.2.2.2.2.1 k hk).1
    exact ⟨a, b, c, q, v, w, e, o hke⟩
set_option maxHeartbeats 4000000 in
set_option maxRecDepth 100000 in
theorem m_Gr_begin (l : Launch) {D : va_G} {cy : Nat → ClassId} {sz n : Nat} {ad : Nat → Nat} {mem : Nat → va_E} {lim rc ec : Nat} {wh : Int32} (hn : 224 ≤ n) (hG : GI cy ad lim rc ec wh mem) : MV l D cy sz n ad y_Gr_begin c_Gr_begin 1 ({ frames := 1, cells := 0, slots := 0, locals := 30 } : Room) mem [.ref (ad 5)] (fun mem' => GI cy ad 0 0 0 0 mem' ∧ ∀ i, i < 5 ∨ 222 ≤ i → mem' i = mem i) := by
  refine Met.ofW (cc := c_Gr_begin) (maxL := 1) (ret := none) (by decide) rfl ?_
  intro p e s m args below meth c s₁ B hml hv
  obtain ⟨rfl, E, hP, hD⟩ := hv
  have hx := B.exec
  have hb := B.bytes
  have hr := B.returns
  have hlocks := B.notSynchronized
  have Bx : MB p s m [.ref (ad 5)].toArray c c_Gr_begin "AbnfChart$Grammar" D cy := ⟨hx, hb, tb_all (atoms_spec B.pre) E.2.1, findClass_of_methodNamed B.named, E.1⟩
  have hS : va_S (Az sz) s.heap s.heap [] := va_S.rf
  have hl := lv_entry ([.ref (ad 5)]) (n := 1) (Nat.le_of_ble_eq_true rfl)
  rw [lg_entry_eq]
  generalize (lg_sl ([.ref (ad 5)]) ++ List.replicate (1 - (lg_sl ([.ref (ad 5)])).length) Slot.unset).toArray = ls at hl ⊢
  have hl : lv_has ls 1 [(0, .ref (ad 5))] := hl
  have h5 := hG.2.1
  obtain ⟨S, g, hSz, h220, h221⟩ := hG.2.2.2.2.2.2
  refine lv_aload_n Bx.1 Bx.2.1 d_Gr_begin_0 rfl (lv_at hl 0 rfl) ?_
  refine f_get Bx hP (by omega) h5 rfl inGr 2 (by decide) kw_118 rfl rfl d_Gr_begin_1 ?_
  refine f_callVi (na := 0) (As := []) (rest := []) Bx hml E hP hD hS (by omega) h220 rfl (m_Ch_empty l (by omega) h220) kw_336 kw_195 kw_196 kw_2 kw_197 (by decide +kernel) ⟨rfl, rfl⟩ ⟨Nat.le_of_ble_eq_true rfl, Nat.le_of_ble_eq_true rfl⟩ rfl hl.1 (Nat.le_of_ble_eq_true rfl) d_Gr_begin_4 ⟨Nat.le_of_ble_eq_true rfl, Nat.le_of_ble_eq_true rfl⟩ (fun r1 mem2 H locs hq hP hS => ?_)
  have hD : va_D (Az sz) (fw n ad mem2) := fw_D hD
  obtain ⟨-, hq⟩ := hq
  have hh3 : mem2 (5) = .inr (3, [.ref (ad 6), .ref (ad 19), .ref (ad 220), .int (nI rc), .int (nI ec), .int (wh)]) := by rw [hq]; (try unfold chM); rw [va_up_ne _ _ (by first | decide | assumption | omega)]; exact h5
  refine lv_pop Bx.1 Bx.2.1 d_Gr_begin_7 rfl ?_
  refine lv_aload_n Bx.1 Bx.2.1 d_Gr_begin_8 rfl (lv_at hl 0 rfl) ?_
  refine lv_iconst (v := 0) Bx.1 Bx.2.1 d_Gr_begin_9 (by decide) ?_
  refine f_put Bx hP hD hS (by omega) hh3 rfl inGr tyGr okGr nmGr 3 (by decide) kw_121 rfl rfl rfl rfl (Nat.le_of_ble_eq_true rfl) d_Gr_begin_10 (fun H locs hP hS => ?_)
  obtain ⟨mem4, e_mem4⟩ : ∃ z, z = va_up mem2 (5) (.inr (3, [.ref (ad 6), .ref (ad 19), .ref (ad 220), .int (0), .int (nI ec), .int (wh)])) := ⟨_, rfl⟩
  have hP : va_P D vcl (fw n ad mem4) H := by rw [e_mem4]; exact hP
  have hD : va_D (Az sz) (fw n ad mem4) := fw_D hD
  have h_mem4 : mem4 (5) = .inr (3, [.ref (ad 6), .ref (ad 19), .ref (ad 220), .int (0), .int (nI ec), .int (wh)]) := by rw [e_mem4, va_up_self]
  refine lv_aload_n Bx.1 Bx.2.1 d_Gr_begin_13 rfl (lv_at hl 0 rfl) ?_
  refine lv_iconst (v := 0) Bx.1 Bx.2.1 d_Gr_begin_14 (by decide) ?_
  refine f_put Bx hP hD hS (by omega) h_mem4 rfl inGr tyGr okGr nmGr 4 (by decide) kw_122 rfl rfl rfl rfl (Nat.le_of_ble_eq_true rfl) d_Gr_begin_15 (fun H locs hP hS => ?_)
  obtain ⟨mem5, e_mem5⟩ : ∃ z, z = va_up mem4 (5) (.inr (3, [.ref (ad 6), .ref (ad 19), .ref (ad 220), .int (0), .int (0), .int (wh)])) := ⟨_, rfl⟩
  have hP : va_P D vcl (fw n ad mem5) H := by rw [e_mem5]; exact hP
  have hD : va_D (Az sz) (fw n ad mem5) := fw_D hD
  have h_mem5 : mem5 (5) = .inr (3, [.ref (ad 6), .ref (ad 19), .ref (ad 220), .int (0), .int (0), .int (wh)]) := by rw [e_mem5, va_up_self]
  refine lv_aload_n Bx.1 Bx.2.1 d_Gr_begin_18 rfl (lv_at hl 0 rfl) ?_
  refine lv_iconst (v := 0) Bx.1 Bx.2.1 d_Gr_begin_19 (by decide) ?_
  refine f_put Bx hP hD hS (by omega) h_mem5 rfl inGr tyGr okGr nmGr 5 (by decide) kw_124 rfl rfl rfl rfl (Nat.le_of_ble_eq_true rfl) d_Gr_begin_20 (fun H locs hP hS => ?_)
  obtain ⟨mem6, e_mem6⟩ : ∃ z, z = va_up mem5 (5) (.inr (3, [.ref (ad 6), .ref (ad 19), .ref (ad 220), .int (0), .int (0), .int (0)])) := ⟨_, rfl⟩
  have hP : va_P D vcl (fw n ad mem6) H := by rw [e_mem6]; exact hP
  have hD : va_D (Az sz) (fw n ad mem6) := fw_D hD
  have h_mem6 : mem6 (5) = .inr (3, [.ref (ad 6), .ref (ad 19), .ref (ad 220), .int (0), .int (0), .int (0)]) := by rw [e_mem6, va_up_self]
  exact W.vret hx hb hr (fun t ht hW => ⟨⟨mem6, rfl, by rw [e_mem6, e_mem5, e_mem4, up_up, up_up, hq]; exact ⟨hG.begin rfl, fun i hi => by rw [va_up_ne _ _ (by omega), va_up_ne _ _ (by omega)]⟩, by show va_P _ _ _ t.heap; rw [ht]; exact hP⟩, hS.F ht⟩) hS.2.2 d_Gr_begin_23
set_option maxHeartbeats 4000000 in
set_option maxRecDepth 100000 in
theorem m_Gr_end (l : Launch) {D : va_G} {cy : Nat → ClassId} {sz n : Nat} {ad : Nat → Nat} {mem : Nat → va_E} {lim rc ec : Nat} {wh : Int32} (hn : 224 ≤ n) (hG : GI cy ad lim rc ec wh mem) : MV l D cy sz n ad y_Gr_end c_Gr_end 1 ({ frames := 0, cells := 0, slots := 0, locals := 0 } : Room) mem [.ref (ad 5)] (fun mem' => GI cy ad lim rc ec 1 mem' ∧ ∀ i, i < 5 ∨ 222 ≤ i → mem' i = mem i) := by
  refine Met.ofW (cc := c_Gr_end) (maxL := 1) (ret := none) (by decide) rfl ?_
  intro p e s m args below meth c s₁ B hml hv
  obtain ⟨rfl, E, hP, hD⟩ := hv
  have hx := B.exec
  have hb := B.bytes
  have hr := B.returns
  have hlocks := B.notSynchronized
  have Bx : MB p s m [.ref (ad 5)].toArray c c_Gr_end "AbnfChart$Grammar" D cy := ⟨hx, hb, tb_all (atoms_spec B.pre) E.2.1, findClass_of_methodNamed B.named, E.1⟩
  have hS : va_S (Az sz) s.heap s.heap [] := va_S.rf
  have hl := lv_entry ([.ref (ad 5)]) (n := 1) (Nat.le_of_ble_eq_true rfl)
  rw [lg_entry_eq]
  generalize (lg_sl ([.ref (ad 5)]) ++ List.replicate (1 - (lg_sl ([.ref (ad 5)])).length) Slot.unset).toArray = ls at hl ⊢
  have hl : lv_has ls 1 [(0, .ref (ad 5))] := hl
  have h5 := hG.2.1
  refine lv_aload_n Bx.1 Bx.2.1 d_Gr_end_0 rfl (lv_at hl 0 rfl) ?_
  refine lv_iconst (v := 1) Bx.1 Bx.2.1 d_Gr_end_1 (by decide) ?_
  refine f_put Bx hP hD hS (by omega) h5 rfl inGr tyGr okGr nmGr 5 (by decide) kw_124 rfl rfl rfl rfl (Nat.le_of_ble_eq_true rfl) d_Gr_end_2 (fun H locs hP hS => ?_)
  obtain ⟨mem1, e_mem1⟩ : ∃ z, z = va_up mem (5) (.inr (3, [.ref (ad 6), .ref (ad 19), .ref (ad 220), .int (nI rc), .int (nI ec), .int (1)])) := ⟨_, rfl⟩
  have hP : va_P D vcl (fw n ad mem1) H := by rw [e_mem1]; exact hP
  have hD : va_D (Az sz) (fw n ad mem1) := fw_D hD
  have h_mem1 : mem1 (5) = .inr (3, [.ref (ad 6), .ref (ad 19), .ref (ad 220), .int (nI rc), .int (nI ec), .int (1)]) := by rw [e_mem1, va_up_self]
  exact W.vret hx hb hr (fun t ht hW => ⟨⟨mem1, rfl, by rw [e_mem1]; exact ⟨hG.end1, fun i hi => va_up_ne _ _ (by omega)⟩, by show va_P _ _ _ t.heap; rw [ht]; exact hP⟩, hS.F ht⟩) hS.2.2 d_Gr_end_5
set_option maxHeartbeats 4000000 in
set_option maxRecDepth 100000 in
theorem m_Rd_readGrammar (l : Launch) {D : va_G} {cy : Nat → ClassId} {sz n : Nat} {ad : Nat → Nat} {mem : Nat → va_E} {Z : Nat} {f : Nat → Int32} {lim rc ec : Nat} {wh at0 ft : Int32} (hlt : l.stackTraces = false) (hn : 224 ≤ n) (hT : TX cy ad Z f mem) (hG : GI cy ad lim rc ec wh mem) (h9 : mem 222 = .inr (4, [.ref (ad 1), .ref (ad 5), .int at0, .int ft])) : NXv l D cy sz n ad y_Rd_readGrammar c_Rd_readGrammar 2 ({ frames := 62, cells := 1, slots := 6, locals := 1560 } : Room) mem [.ref (ad 222)] (fun mem' => (∃ lim' rc' ec' : Nat, GI cy ad lim' rc' ec' 1 mem') ∧ (∃ a t : Int32, mem' 222 = .inr (4, [.ref (ad 1), .ref (ad 5), .int a, .int t])) ∧ ∀ i, i < 5 ∨ 223 ≤ i → mem' i = mem i) (fun X mem' => (X = cIA ∨ X = cIS) ∧ ∃ lim' rc' ec' : Nat, RS cy ad lim' rc' ec' mem mem') := by
  refine vx_ofW (cc := c_Rd_readGrammar) (maxL := 2) (ret := none) (by decide) rfl ?_
  intro p e s m args below meth c s₁ B hml hno hv
  obtain ⟨rfl, E, hP, hD⟩ := hv
  have hx := B.exec
  have hb := B.bytes
  have hr := B.returns
  have hlocks := B.notSynchronized
  have Bx : MB p s m [.ref (ad 222)].toArray c c_Rd_readGrammar "AbnfChart$Reader" D cy := ⟨hx, hb, tb_all (atoms_spec B.pre) E.2.1, findClass_of_methodNamed B.named, E.1⟩
  have hS : va_S (Az sz) s.heap s.heap [] := va_S.rf
  have hl := lv_entry ([.ref (ad 222)]) (n := 2) (Nat.le_of_ble_eq_true rfl)
  rw [lg_entry_eq]
  generalize (lg_sl ([.ref (ad 222)]) ++ List.replicate (2 - (lg_sl ([.ref (ad 222)])).length) Slot.unset).toArray = ls at hl ⊢
  have hl : lv_has ls 2 [(0, .ref (ad 222))] := hl
  obtain ⟨m0, em0⟩ : ∃ z, z = mem := ⟨_, rfl⟩
  subst em0
  refine lv_aload_n Bx.1 Bx.2.1 d_Rd_readGrammar_0 rfl (lv_at hl 0 rfl) ?_
  refine f_get Bx hP (by omega) h9 rfl inRd 1 (by decide) kw_145 rfl rfl d_Rd_readGrammar_1 ?_
  refine f_callVv (na := 0) (As := []) (rest := []) Bx hml E hP hD hS (by omega) hG.2.1 rfl (m_Gr_begin l hn hG) kw_332 kw_333 kw_334 kw_3 kw_335 (by decide +kernel) ⟨rfl, rfl⟩ ⟨Nat.le_of_ble_eq_true rfl, Nat.le_of_ble_eq_true rfl⟩ rfl hl.1 (Nat.le_of_ble_eq_true rfl) d_Rd_readGrammar_4 ⟨Nat.le_of_ble_eq_true rfl, Nat.le_of_ble_eq_true rfl⟩ (fun mem2 H locs hq hP hS => ?_)
  have hD : va_D (Az sz) (fw n ad mem2) := fw_D hD
  have hRS : RS cy ad 0 0 0 m0 mem2 := ⟨hq.1, ⟨at0, ft, (hq.2 222 (by omega)).trans h9⟩, fun i hi => hq.2 i (by omega)⟩
  obtain ⟨at3, ft4, h9_5⟩ := hRS.2.1
  have h1_6 : mem2 1 = .inr (0, [.ref (ad 2), .int (nI Z)]) := (hRS.2.2 1 (by omega)).trans hT.1
  have h2_7 : mem2 2 = .inl (cy 0, 240, .inl f) := (hRS.2.2 2 (by omega)).trans hT.2.2
  have h5_8 := hRS.1.2.1
  have hbd14 := hRS.1.1
  obtain ⟨S9, g10, hS_11, h220_12, h221_13⟩ := hRS.1.2.2.2.2.2.2
  refine lv_aload_n Bx.1 Bx.2.1 d_Rd_readGrammar_7 rfl (lv_at hl 0 rfl) ?_
  refine lv_iconst (v := -1) Bx.1 Bx.2.1 d_Rd_readGrammar_8 (by decide) ?_
  refine f_put Bx hP hD hS (by omega) h9_5 rfl inRd tyRd okRd nmRd 3 (by decide) kw_147 rfl rfl rfl rfl (Nat.le_of_ble_eq_true rfl) d_Rd_readGrammar_9 (fun H locs hP hS => ?_)
  obtain ⟨mem15, e_mem15⟩ : ∃ z, z = va_up mem2 (222) (.inr (4, [.ref (ad 1), .ref (ad 5), .int (at3), .int ((-1))])) := ⟨_, rfl⟩
  have hP : va_P D vcl (fw n ad mem15) H := by rw [e_mem15]; exact hP
  have hD : va_D (Az sz) (fw n ad mem15) := fw_D hD
  have h_mem15 : mem15 (222) = .inr (4, [.ref (ad 1), .ref (ad 5), .int (at3), .int ((-1))]) := by rw [e_mem15, va_up_self]
  have hh16 := (va_up_ne mem2 (.inr (4, [.ref (ad 1), .ref (ad 5), .int (at3), .int ((-1))])) (show (1 : Nat) ≠ 222 by first | decide | assumption | omega)).trans h1_6
  rw [← e_mem15] at hh16
  have hh17 := (va_up_ne mem2 (.inr (4, [.ref (ad 1), .ref (ad 5), .int (at3), .int ((-1))])) (show (5 : Nat) ≠ 222 by first | decide | assumption | omega)).trans h5_8
  rw [← e_mem15] at hh17
  have hh18 := (va_up_ne mem2 (.inr (4, [.ref (ad 1), .ref (ad 5), .int (at3), .int ((-1))])) (show (220 : Nat) ≠ 222 by first | decide | assumption | omega)).trans h220_12
  rw [← e_mem15] at hh18
  have hRS19 : RS cy ad 0 0 0 m0 mem15 := by rw [e_mem15]; exact hRS.at222
  refine lv_aload_n Bx.1 Bx.2.1 d_Rd_readGrammar_12 rfl (lv_at hl 0 rfl) ?_
  refine lv_aload_n Bx.1 Bx.2.1 d_Rd_readGrammar_13 rfl (lv_at hl 0 rfl) ?_
  refine lv_iconst (v := 0) Bx.1 Bx.2.1 d_Rd_readGrammar_14 (by decide) ?_
  refine f_callVi (na := 1) (As := [.int (0)]) (rest := [.ref (ad 222)]) Bx hml E hP hD hS (by omega) h_mem15 rfl (m_Rd_fullLineFrom l hn hT hRS19) kw_337 kw_339 sel_Rd_fullLineFrom kw_6 kw_340 (by decide +kernel) ⟨rfl, rfl⟩ ⟨Nat.le_of_ble_eq_true rfl, Nat.le_of_ble_eq_true rfl⟩ rfl hl.1 (Nat.le_of_ble_eq_true rfl) d_Rd_readGrammar_15 ⟨Nat.le_of_ble_eq_true rfl, Nat.le_of_ble_eq_true rfl⟩ (fun r20 mem21 H locs hq hP hS => ?_)
  have hD : va_D (Az sz) (fw n ad mem21) := fw_D hD
  rw [hq] at hP hD
  refine f_put Bx hP hD hS (by omega) h_mem15 rfl inRd tyRd okRd nmRd 2 (by decide) kw_146 rfl rfl rfl rfl (Nat.le_of_ble_eq_true rfl) d_Rd_readGrammar_18 (fun H locs hP hS => ?_)
  obtain ⟨mem22, e_mem22⟩ : ∃ z, z = va_up mem15 (222) (.inr (4, [.ref (ad 1), .ref (ad 5), .int (r20), .int ((-1))])) := ⟨_, rfl⟩
  have hP : va_P D vcl (fw n ad mem22) H := by rw [e_mem22]; exact hP
  have hD : va_D (Az sz) (fw n ad mem22) := fw_D hD
  have h_mem22 : mem22 (222) = .inr (4, [.ref (ad 1), .ref (ad 5), .int (r20), .int ((-1))]) := by rw [e_mem22, va_up_self]
  have hh23 := (va_up_ne mem15 (.inr (4, [.ref (ad 1), .ref (ad 5), .int (r20), .int ((-1))])) (show (1 : Nat) ≠ 222 by first | decide | assumption | omega)).trans hh16
  rw [← e_mem22] at hh23
  have hh24 := (va_up_ne mem15 (.inr (4, [.ref (ad 1), .ref (ad 5), .int (r20), .int ((-1))])) (show (5 : Nat) ≠ 222 by first | decide | assumption | omega)).trans hh17
  rw [← e_mem22] at hh24
  have hh25 := (va_up_ne mem15 (.inr (4, [.ref (ad 1), .ref (ad 5), .int (r20), .int ((-1))])) (show (220 : Nat) ≠ 222 by first | decide | assumption | omega)).trans hh18
  rw [← e_mem22] at hh25
  have hRS26 : RS cy ad 0 0 0 m0 mem22 := by rw [e_mem22]; exact hRS19.at222
  refine lv_aload_n Bx.1 Bx.2.1 d_Rd_readGrammar_21 rfl (lv_at hl 0 rfl) ?_
  refine f_xVv (na := 0) (As := []) (rest := []) Bx hml E hP hD hS (by omega) h_mem22 rfl (m_Rd_readRule l hlt hn hT hRS26) kw_345 kw_347 sel_Rd_readRule kw_6 kw_348 (by decide +kernel) ⟨rfl, rfl⟩ ⟨Nat.le_of_ble_eq_true rfl, Nat.le_of_ble_eq_true rfl⟩ rfl hl.1 (Nat.le_of_ble_eq_true rfl) d_Rd_readGrammar_22 ⟨Nat.le_of_ble_eq_true rfl, Nat.le_of_ble_eq_true rfl⟩ (fun X ce q9 memx H locs hx9 hP hS g1 g2 g3 => f_out hlocks hno hP hS g1 g2 g3 ⟨Nat.le_of_ble_eq_true rfl, Nat.le_of_ble_eq_true rfl⟩ hx9) (fun mem28 H locs hq hP hS => ?_)
  have hD : va_D (Az sz) (fw n ad mem28) := fw_D hD
  obtain ⟨lim29, rc30, ec31, hRS32⟩ := hq
  obtain ⟨at33, ft34, h9_35⟩ := hRS32.2.1
  have h1_36 : mem28 1 = .inr (0, [.ref (ad 2), .int (nI Z)]) := (hRS32.2.2 1 (by omega)).trans hT.1
  have h2_37 : mem28 2 = .inl (cy 0, 240, .inl f) := (hRS32.2.2 2 (by omega)).trans hT.2.2
  have h5_38 := hRS32.1.2.1
  have hbd44 := hRS32.1.1
  obtain ⟨S39, g40, hS_41, h220_42, h221_43⟩ := hRS32.1.2.2.2.2.2.2
  refine lv_iconst (v := 0) Bx.1 Bx.2.1 d_Rd_readGrammar_25 (by decide) ?_
  refine lv_istore_n (lv' := [(1, .int (0)), (0, .ref (ad 222))]) Bx.1 Bx.2.1 d_Rd_readGrammar_26 rfl hl (by decide) rfl (fun ls hl => ?_)
  have loop45 : ∀ (d : Nat) (mem : Nat → va_E) (liml rcl ecl : Nat) (ls : Array Slot) (H : Heap) (locs : List Loc) (k9 : Int32), ((240 : Int32).toInt - (k9).toInt).toNat < d → RS cy ad liml rcl ecl m0 mem → va_P D vcl (fw n ad mem) H → va_D (Az sz) (fw n ad mem) → va_S (Az sz) s.heap H locs → lv_has ls 2 [(1, .int (k9)), (0, .ref (ad 222))] → W p l e (headSpec (Cond.code y_Rd_readGrammar c_Rd_readGrammar 2 none :: tg) ({ frames := 62, cells := 1, slots := 6, locals := 1560 } : Room)).room s m [.ref (ad 222)].toArray below meth c H locs 0 0 (vx_MQ below (QX (va_Qv (fun mem' => (∃ lim' rc' ec' : Nat, GI cy ad lim' rc' ec' 1 mem') ∧ (∃ a t : Int32, mem' 222 = .inr (4, [.ref (ad 1), .ref (ad 5), .int a, .int t])) ∧ ∀ i, i < 5 ∨ 223 ≤ i → mem' i = m0 i) (PP D n ad) (Az sz))) (XQ D sz n ad (fun X mem' => (X = cIA ∨ X = cIS) ∧ ∃ lim' rc' ec' : Nat, RS cy ad lim' rc' ec' m0 mem')) [.ref (ad 222)].toArray s 1 6 (Az sz)) (F0 m 27 ls []) := by
    intro d
    induction d with
    | zero => intro mem liml rcl ecl ls H locs k9 hmeas; exact absurd hmeas (Nat.not_lt_zero _)
    | succ d ih =>
      intro mem liml rcl ecl ls H locs k9 hmeas hRS  hP hD hS hl
      have hbd := hRS.1.1
      obtain ⟨at46, ft47, h9_48⟩ := hRS.2.1
      have h1_49 : mem 1 = .inr (0, [.ref (ad 2), .int (nI Z)]) := (hRS.2.2 1 (by omega)).trans hT.1
      have h2_50 : mem 2 = .inl (cy 0, 240, .inl f) := (hRS.2.2 2 (by omega)).trans hT.2.2
      have h5_51 := hRS.1.2.1
      have hbd57 := hRS.1.1
      obtain ⟨S52, g53, hS_54, h220_55, h221_56⟩ := hRS.1.2.2.2.2.2.2
      refine lv_iload_n Bx.1 Bx.2.1 d_Rd_readGrammar_27 rfl (lv_at hl 0 rfl) ?_
      refine lv_sipush (v := 240) Bx.1 Bx.2.1 d_Rd_readGrammar_28 (by decide) ?_
      refine lv_icmp_ge Bx.1 Bx.2.1 d_Rd_readGrammar_31 rfl (fun hk => ?_) (fun hk => ?_)
      · refine lv_aload_n Bx.1 Bx.2.1 d_Rd_readGrammar_58 rfl (lv_at hl 1 rfl) ?_
        refine f_get Bx hP (by omega) h9_48 rfl inRd 1 (by decide) kw_145 rfl rfl d_Rd_readGrammar_59 ?_
        refine f_callVv (na := 0) (As := []) (rest := []) Bx hml E hP hD hS (by omega) h5_51 rfl (m_Gr_end l hn hRS.1) kw_494 kw_495 kw_496 kw_3 kw_497 (by decide +kernel) ⟨rfl, rfl⟩ ⟨Nat.le_of_ble_eq_true rfl, Nat.le_of_ble_eq_true rfl⟩ rfl hl.1 (Nat.le_of_ble_eq_true rfl) d_Rd_readGrammar_62 ⟨Nat.le_of_ble_eq_true rfl, Nat.le_of_ble_eq_true rfl⟩ (fun mem59 H locs hqe hP hS => ?_)
        have hD : va_D (Az sz) (fw n ad mem59) := fw_D hD
        exact x_vret hx hb hlocks hr (⟨⟨_, _, _, hqe.1⟩, hRS.2.1.elim (fun a q => q.elim (fun t q => ⟨a, t, (hqe.2 222 (by omega)).trans q⟩)), fun i hi => (hqe.2 i (by omega)).trans (hRS.2.2 i hi)⟩) hP hS d_Rd_readGrammar_65
      · refine lv_aload_n Bx.1 Bx.2.1 d_Rd_readGrammar_34 rfl (lv_at hl 1 rfl) ?_
        refine f_get Bx hP (by omega) h9_48 rfl inRd 2 (by decide) kw_146 rfl rfl d_Rd_readGrammar_35 ?_
        refine lv_aload_n Bx.1 Bx.2.1 d_Rd_readGrammar_38 rfl (lv_at hl 1 rfl) ?_
        refine f_get Bx hP (by omega) h9_48 rfl inRd 0 (by decide) kw_144 rfl rfl d_Rd_readGrammar_39 ?_
        refine f_getN Bx hP (by omega) h1_49 rfl inCh 1 (by decide) kw_33 rfl rfl d_Rd_readGrammar_42 ?_
        refine lv_icmp_ge Bx.1 Bx.2.1 d_Rd_readGrammar_45 rfl (fun h8 => ?_) (fun h8 => ?_)
        · refine lv_aload_n Bx.1 Bx.2.1 d_Rd_readGrammar_58 rfl (lv_at hl 1 rfl) ?_
          refine f_get Bx hP (by omega) h9_48 rfl inRd 1 (by decide) kw_145 rfl rfl d_Rd_readGrammar_59 ?_
          refine f_callVv (na := 0) (As := []) (rest := []) Bx hml E hP hD hS (by omega) h5_51 rfl (m_Gr_end l hn hRS.1) kw_494 kw_495 kw_496 kw_3 kw_497 (by decide +kernel) ⟨rfl, rfl⟩ ⟨Nat.le_of_ble_eq_true rfl, Nat.le_of_ble_eq_true rfl⟩ rfl hl.1 (Nat.le_of_ble_eq_true rfl) d_Rd_readGrammar_62 ⟨Nat.le_of_ble_eq_true rfl, Nat.le_of_ble_eq_true rfl⟩ (fun mem61 H locs hqe hP hS => ?_)
          have hD : va_D (Az sz) (fw n ad mem61) := fw_D hD
          exact x_vret hx hb hlocks hr (⟨⟨_, _, _, hqe.1⟩, hRS.2.1.elim (fun a q => q.elim (fun t q => ⟨a, t, (hqe.2 222 (by omega)).trans q⟩)), fun i hi => (hqe.2 i (by omega)).trans (hRS.2.2 i hi)⟩) hP hS d_Rd_readGrammar_65
        · refine lv_aload_n Bx.1 Bx.2.1 d_Rd_readGrammar_48 rfl (lv_at hl 1 rfl) ?_
          refine f_xVv (na := 0) (As := []) (rest := []) Bx hml E hP hD hS (by omega) h9_48 rfl (m_Rd_readRule l hlt hn hT hRS) kw_345 kw_347 sel_Rd_readRule kw_6 kw_348 (by decide +kernel) ⟨rfl, rfl⟩ ⟨Nat.le_of_ble_eq_true rfl, Nat.le_of_ble_eq_true rfl⟩ rfl hl.1 (Nat.le_of_ble_eq_true rfl) d_Rd_readGrammar_49 ⟨Nat.le_of_ble_eq_true rfl, Nat.le_of_ble_eq_true rfl⟩ (fun X ce q9 memx H locs hx9 hP hS g1 g2 g3 => f_out hlocks hno hP hS g1 g2 g3 ⟨Nat.le_of_ble_eq_true rfl, Nat.le_of_ble_eq_true rfl⟩ hx9) (fun mem63 H locs hq hP hS => ?_)
          have hD : va_D (Az sz) (fw n ad mem63) := fw_D hD
          obtain ⟨lim64, rc65, ec66, hRS67⟩ := hq
          obtain ⟨at68, ft69, h9_70⟩ := hRS67.2.1
          have h1_71 : mem63 1 = .inr (0, [.ref (ad 2), .int (nI Z)]) := (hRS67.2.2 1 (by omega)).trans hT.1
          have h2_72 : mem63 2 = .inl (cy 0, 240, .inl f) := (hRS67.2.2 2 (by omega)).trans hT.2.2
          have h5_73 := hRS67.1.2.1
          have hbd79 := hRS67.1.1
          obtain ⟨S74, g75, hS_76, h220_77, h221_78⟩ := hRS67.1.2.2.2.2.2.2
          refine lv_iinc (lv' := [(1, .int ((k9 + (1)))), (0, .ref (ad 222))]) Bx.1 Bx.2.1 d_Rd_readGrammar_52 hl (k := 0) rfl rfl (by decide) rfl (fun ls hl => ?_)
          refine lv_goto Bx.1 Bx.2.1 d_Rd_readGrammar_55 rfl ?_
          exact ih _ _ _ _ _ _ _ _ (by have := inc_meas hk; omega) hRS67  hP hD hS (lv_sub hl [0, 1] rfl)
  exact loop45 _ _ _ _ _ _ _ _ _ (Nat.lt_succ_self _) hRS32  hP hD hS (lv_sub hl [0, 1] rfl)
set_option maxHeartbeats 4000000 in
set_option maxRecDepth 100000 in
theorem m_Ab_read (l : Launch) {D : va_G} {cy : Nat → ClassId} {sz n : Nat} {ad : Nat → Nat} {mem : Nat → va_E} {Z : Nat} {f : Nat → Int32} {lim rc ec : Nat} {wh at0 ft fl : Int32} (hlt : l.stackTraces = false) (hn : 224 ≤ n) (hT : TX cy ad Z f mem) (hG : GI cy ad lim rc ec wh mem) (h9 : mem 222 = .inr (4, [.ref (ad 1), .ref (ad 5), .int at0, .int ft])) (h0 : mem 0 = .inr (6, [.ref (ad 1), .ref (ad 3), .ref (ad 5), .ref (ad 222), .ref (ad 223)])) (hc : mem 223 = .inr (1, [.ref (ad 3), .ref (ad 5), .int fl])) : NXi l D cy sz n ad y_Ab_read c_Ab_read 1 (some .int) ({ frames := 64, cells := 1, slots := 6, locals := 1620 } : Room) mem [.ref (ad 0)] (fun r mem' => (∃ (wh' : Int32) (lim' rc' ec' : Nat), GI cy ad lim' rc' ec' wh' mem') ∧ (∃ a t : Int32, mem' 222 = .inr (4, [.ref (ad 1), .ref (ad 5), .int a, .int t])) ∧ mem' 223 = .inr (1, [.ref (ad 3), .ref (ad 5), .int 0]) ∧ ∀ i, i < 5 ∨ 224 ≤ i → mem' i = mem i) (fun X mem' => (X = cIA ∨ X = cIS) ∧ (∃ (wh' : Int32) (lim' rc' ec' : Nat), GI cy ad lim' rc' ec' wh' mem') ∧ (∃ a t : Int32, mem' 222 = .inr (4, [.ref (ad 1), .ref (ad 5), .int a, .int t])) ∧ mem' 223 = .inr (1, [.ref (ad 3), .ref (ad 5), .int 0]) ∧ ∀ i, i < 5 ∨ 224 ≤ i → mem' i = mem i) := by
  refine vx_ofW (cc := c_Ab_read) (maxL := 1) (ret := (some .int)) (by decide) rfl ?_
  intro p e s m args below meth c s₁ B hml hno hv
  obtain ⟨rfl, E, hP, hD⟩ := hv
  have hx := B.exec
  have hb := B.bytes
  have hr := B.returns
  have hlocks := B.notSynchronized
  have Bx : MB p s m [.ref (ad 0)].toArray c c_Ab_read "AbnfChart" D cy := ⟨hx, hb, tb_all (atoms_spec B.pre) E.2.1, findClass_of_methodNamed B.named, E.1⟩
  have hS : va_S (Az sz) s.heap s.heap [] := va_S.rf
  have hl := lv_entry ([.ref (ad 0)]) (n := 1) (Nat.le_of_ble_eq_true rfl)
  rw [lg_entry_eq]
  generalize (lg_sl ([.ref (ad 0)]) ++ List.replicate (1 - (lg_sl ([.ref (ad 0)])).length) Slot.unset).toArray = ls at hl ⊢
  have hl : lv_has ls 1 [(0, .ref (ad 0))] := hl
  refine lv_aload_n Bx.1 Bx.2.1 d_Ab_read_0 rfl (lv_at hl 0 rfl) ?_
  refine f_get Bx hP (by omega) h0 rfl inAb 4 (by decide) kw_178 rfl rfl d_Ab_read_1 ?_
  refine f_callVv (na := 0) (As := []) (rest := []) Bx hml E hP hD hS (by omega) hc rfl (m_Ct_forget l (by omega) hc) kw_206 kw_207 kw_208 kw_7 kw_209 (by decide +kernel) ⟨rfl, rfl⟩ ⟨Nat.le_of_ble_eq_true rfl, Nat.le_of_ble_eq_true rfl⟩ rfl hl.1 (Nat.le_of_ble_eq_true rfl) d_Ab_read_4 ⟨Nat.le_of_ble_eq_true rfl, Nat.le_of_ble_eq_true rfl⟩ (fun mem2 H locs hq hP hS => ?_)
  have hD : va_D (Az sz) (fw n ad mem2) := fw_D hD
  have hG1 : GI cy ad lim rc ec wh mem2 := by rw [hq]; exact hG.upAny (by omega)
  have hT1 : TX cy ad Z f mem2 := by rw [hq]; exact ⟨(va_up_ne _ _ (by omega)).trans hT.1, hT.2.1, (va_up_ne _ _ (by omega)).trans hT.2.2⟩
  have h91 : mem2 222 = .inr (4, [.ref (ad 1), .ref (ad 5), .int at0, .int ft]) := by rw [hq, va_up_ne _ _ (by omega)]; exact h9
  have h01 : mem2 0 = .inr (6, [.ref (ad 1), .ref (ad 3), .ref (ad 5), .ref (ad 222), .ref (ad 223)]) := by rw [hq, va_up_ne _ _ (by omega)]; exact h0
  have hc1 : mem2 223 = .inr (1, [.ref (ad 3), .ref (ad 5), .int 0]) := by rw [hq, va_up_self]
  have hfr : ∀ i, i < 5 ∨ 224 ≤ i → mem2 i = mem i := fun i hi => by rw [hq, va_up_ne _ _ (by omega)]
  refine lv_aload_n Bx.1 Bx.2.1 d_Ab_read_7 rfl (lv_at hl 0 rfl) ?_
  refine f_get Bx hP (by omega) h01 rfl inAb 3 (by decide) kw_177 rfl rfl d_Ab_read_8 ?_
  refine f_xVv (na := 0) (As := []) (rest := []) Bx hml E hP hD hS (by omega) h91 rfl (m_Rd_readGrammar l hlt hn hT1 hG1 h91) kw_328 kw_329 kw_330 kw_6 kw_331 (by decide +kernel) ⟨rfl, rfl⟩ ⟨Nat.le_of_ble_eq_true rfl, Nat.le_of_ble_eq_true rfl⟩ rfl hl.1 (Nat.le_of_ble_eq_true rfl) d_Ab_read_11 ⟨Nat.le_of_ble_eq_true rfl, Nat.le_of_ble_eq_true rfl⟩ (fun X ce q9 memx H locs hx9 hP hS g1 g2 g3 => f_out hlocks hno hP hS g1 g2 g3 ⟨Nat.le_of_ble_eq_true rfl, Nat.le_of_ble_eq_true rfl⟩ ⟨hx9.1, hx9.2.elim (fun a9 q9 => q9.elim (fun b9 q9 => q9.elim (fun c9 q9 => ⟨⟨_, a9, b9, c9, q9.1⟩, q9.2.1, (q9.2.2 223 (by omega)).trans hc1, fun i hi => (q9.2.2 i (by omega)).trans (hfr i (by omega))⟩)))⟩) (fun mem4 H locs hq2 hP hS => ?_)
  have hD : va_D (Az sz) (fw n ad mem4) := fw_D hD
  obtain ⟨⟨lim2, rc2, ec2, hG2⟩, ⟨a2, t2, h92⟩, hf2⟩ := hq2
  have h02 := (hf2 0 (by omega)).trans h01
  have h52 := hG2.2.1
  refine lv_aload_n Bx.1 Bx.2.1 d_Ab_read_14 rfl (lv_at hl 0 rfl) ?_
  refine f_get Bx hP (by omega) h02 rfl inAb 2 (by decide) kw_176 rfl rfl d_Ab_read_15 ?_
  refine f_callVi (na := 0) (As := []) (rest := []) Bx hml E hP hD hS (by omega) h52 rfl (m_Gr_ruleTotal l (by omega) h52) kw_498 kw_499 kw_500 kw_3 kw_501 (by decide +kernel) ⟨rfl, rfl⟩ ⟨Nat.le_of_ble_eq_true rfl, Nat.le_of_ble_eq_true rfl⟩ rfl hl.1 (Nat.le_of_ble_eq_true rfl) d_Ab_read_18 ⟨Nat.le_of_ble_eq_true rfl, Nat.le_of_ble_eq_true rfl⟩ (fun r5 mem6 H locs hq3 hP hS => ?_)
  have hD : va_D (Az sz) (fw n ad mem6) := fw_D hD
  rw [hq3.2] at hP hD
  exact x_iret hx hb hlocks hr (⟨⟨_, _, _, _, hG2⟩, ⟨_, _, h92⟩, (hf2 223 (by omega)).trans hc1, fun i hi => (hf2 i (by omega)).trans (hfr i hi)⟩) hP hS d_Ab_read_21
