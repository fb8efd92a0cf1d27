theorem d_Mo_enter_0 : decode c_Mo_enter 0 = .ok (.aload_n 0, 1) := by decide +kernel
theorem d_Mo_enter_1 : decode c_Mo_enter 1 = .ok (.invokevirtual 139, 3) := by decide +kernel
theorem d_Mo_enter_4 : decode c_Mo_enter 4 = .ok (.aload_n 0, 1) := by decide +kernel
theorem d_Mo_enter_5 : decode c_Mo_enter 5 = .ok (.invokevirtual 96, 3) := by decide +kernel
theorem d_Mo_enter_8 : decode c_Mo_enter 8 = .ok (.invokestatic 129, 3) := by decide +kernel
theorem d_Mo_enter_11 : decode c_Mo_enter 11 = .ok (.ifCond .ne 13, 3) := by decide +kernel
theorem d_Mo_enter_14 : decode c_Mo_enter 14 = .ok (.aload_n 0, 1) := by decide +kernel
theorem d_Mo_enter_15 : decode c_Mo_enter 15 = .ok (.iconst 1, 1) := by decide +kernel
theorem d_Mo_enter_16 : decode c_Mo_enter 16 = .ok (.aload_n 0, 1) := by decide +kernel
theorem d_Mo_enter_17 : decode c_Mo_enter 17 = .ok (.getfield 87, 3) := by decide +kernel
theorem d_Mo_enter_20 : decode c_Mo_enter 20 = .ok (.invokevirtual 113, 3) := by decide +kernel
theorem d_Mo_enter_23 : decode c_Mo_enter 23 = .ok (.return_, 1) := by decide +kernel
theorem d_Mo_enter_24 : decode c_Mo_enter 24 = .ok (.aload_n 0, 1) := by decide +kernel
theorem d_Mo_enter_25 : decode c_Mo_enter 25 = .ok (.getfield 46, 3) := by decide +kernel
theorem d_Mo_enter_28 : decode c_Mo_enter 28 = .ok (.aload_n 0, 1) := by decide +kernel
theorem d_Mo_enter_29 : decode c_Mo_enter 29 = .ok (.getfield 123, 3) := by decide +kernel
theorem d_Mo_enter_32 : decode c_Mo_enter 32 = .ok (.iload_n 1, 1) := by decide +kernel
theorem d_Mo_enter_33 : decode c_Mo_enter 33 = .ok (.iastore, 1) := by decide +kernel
theorem d_Mo_enter_34 : decode c_Mo_enter 34 = .ok (.aload_n 0, 1) := by decide +kernel
theorem d_Mo_enter_35 : decode c_Mo_enter 35 = .ok (.getfield 49, 3) := by decide +kernel
theorem d_Mo_enter_38 : decode c_Mo_enter 38 = .ok (.aload_n 0, 1) := by decide +kernel
theorem d_Mo_enter_39 : decode c_Mo_enter 39 = .ok (.getfield 123, 3) := by decide +kernel
theorem d_Mo_enter_42 : decode c_Mo_enter 42 = .ok (.iload_n 2, 1) := by decide +kernel
theorem d_Mo_enter_43 : decode c_Mo_enter 43 = .ok (.iastore, 1) := by decide +kernel
theorem d_Mo_enter_44 : decode c_Mo_enter 44 = .ok (.aload_n 0, 1) := by decide +kernel
theorem d_Mo_enter_45 : decode c_Mo_enter 45 = .ok (.getfield 58, 3) := by decide +kernel
theorem d_Mo_enter_48 : decode c_Mo_enter 48 = .ok (.aload_n 0, 1) := by decide +kernel
theorem d_Mo_enter_49 : decode c_Mo_enter 49 = .ok (.getfield 123, 3) := by decide +kernel
theorem d_Mo_enter_52 : decode c_Mo_enter 52 = .ok (.iconst (-1), 1) := by decide +kernel
theorem d_Mo_enter_53 : decode c_Mo_enter 53 = .ok (.iastore, 1) := by decide +kernel
theorem d_Mo_enter_54 : decode c_Mo_enter 54 = .ok (.aload_n 0, 1) := by decide +kernel
theorem d_Mo_enter_55 : decode c_Mo_enter 55 = .ok (.getfield 52, 3) := by decide +kernel
theorem d_Mo_enter_58 : decode c_Mo_enter 58 = .ok (.aload_n 0, 1) := by decide +kernel
theorem d_Mo_enter_59 : decode c_Mo_enter 59 = .ok (.getfield 123, 3) := by decide +kernel
theorem d_Mo_enter_62 : decode c_Mo_enter 62 = .ok (.aload_n 0, 1) := by decide +kernel
theorem d_Mo_enter_63 : decode c_Mo_enter 63 = .ok (.iconst 0, 1) := by decide +kernel
theorem d_Mo_enter_64 : decode c_Mo_enter 64 = .ok (.aload_n 0, 1) := by decide +kernel
theorem d_Mo_enter_65 : decode c_Mo_enter 65 = .ok (.getfield 87, 3) := by decide +kernel
theorem d_Mo_enter_68 : decode c_Mo_enter 68 = .ok (.invokevirtual 132, 3) := by decide +kernel
theorem d_Mo_enter_71 : decode c_Mo_enter 71 = .ok (.iastore, 1) := by decide +kernel
theorem d_Mo_enter_72 : decode c_Mo_enter 72 = .ok (.aload_n 0, 1) := by decide +kernel
theorem d_Mo_enter_73 : decode c_Mo_enter 73 = .ok (.dup, 1) := by decide +kernel
theorem d_Mo_enter_74 : decode c_Mo_enter 74 = .ok (.getfield 123, 3) := by decide +kernel
theorem d_Mo_enter_77 : decode c_Mo_enter 77 = .ok (.iconst 1, 1) := by decide +kernel
theorem d_Mo_enter_78 : decode c_Mo_enter 78 = .ok (.iadd, 1) := by decide +kernel
theorem d_Mo_enter_79 : decode c_Mo_enter 79 = .ok (.putfield 123, 3) := by decide +kernel
theorem d_Mo_enter_82 : decode c_Mo_enter 82 = .ok (.aload_n 0, 1) := by decide +kernel
theorem d_Mo_enter_83 : decode c_Mo_enter 83 = .ok (.getfield 90, 3) := by decide +kernel
theorem d_Mo_enter_86 : decode c_Mo_enter 86 = .ok (.ifCond .ne 33, 3) := by decide +kernel
theorem d_Mo_enter_89 : decode c_Mo_enter 89 = .ok (.iload_n 1, 1) := by decide +kernel
theorem d_Mo_enter_90 : decode c_Mo_enter 90 = .ok (.ifCond .ne 29, 3) := by decide +kernel
theorem d_Mo_enter_93 : decode c_Mo_enter 93 = .ok (.aload_n 0, 1) := by decide +kernel
theorem d_Mo_enter_94 : decode c_Mo_enter 94 = .ok (.getfield 21, 3) := by decide +kernel
theorem d_Mo_enter_97 : decode c_Mo_enter 97 = .ok (.iload_n 2, 1) := by decide +kernel
theorem d_Mo_enter_98 : decode c_Mo_enter 98 = .ok (.iaload, 1) := by decide +kernel
theorem d_Mo_enter_99 : decode c_Mo_enter 99 = .ok (.ifCond .lt 20, 3) := by decide +kernel
theorem d_Mo_enter_102 : decode c_Mo_enter 102 = .ok (.aload_n 0, 1) := by decide +kernel
theorem d_Mo_enter_103 : decode c_Mo_enter 103 = .ok (.getfield 52, 3) := by decide +kernel
theorem d_Mo_enter_106 : decode c_Mo_enter 106 = .ok (.aload_n 0, 1) := by decide +kernel
theorem d_Mo_enter_107 : decode c_Mo_enter 107 = .ok (.getfield 123, 3) := by decide +kernel
theorem d_Mo_enter_110 : decode c_Mo_enter 110 = .ok (.iconst 1, 1) := by decide +kernel
theorem d_Mo_enter_111 : decode c_Mo_enter 111 = .ok (.isub, 1) := by decide +kernel
theorem d_Mo_enter_112 : decode c_Mo_enter 112 = .ok (.aload_n 0, 1) := by decide +kernel
theorem d_Mo_enter_113 : decode c_Mo_enter 113 = .ok (.getfield 21, 3) := by decide +kernel
theorem d_Mo_enter_116 : decode c_Mo_enter 116 = .ok (.iload_n 2, 1) := by decide +kernel
theorem d_Mo_enter_117 : decode c_Mo_enter 117 = .ok (.iaload, 1) := by decide +kernel
theorem d_Mo_enter_118 : decode c_Mo_enter 118 = .ok (.iastore, 1) := by decide +kernel
theorem d_Mo_enter_119 : decode c_Mo_enter 119 = .ok (.aload_n 0, 1) := by decide +kernel
theorem d_Mo_enter_120 : decode c_Mo_enter 120 = .ok (.getfield 90, 3) := by decide +kernel
theorem d_Mo_enter_123 : decode c_Mo_enter 123 = .ok (.ifCond .ne 24, 3) := by decide +kernel
theorem d_Mo_enter_126 : decode c_Mo_enter 126 = .ok (.iload_n 1, 1) := by decide +kernel
theorem d_Mo_enter_127 : decode c_Mo_enter 127 = .ok (.ifCond .ne 20, 3) := by decide +kernel
theorem d_Mo_enter_130 : decode c_Mo_enter 130 = .ok (.aload_n 0, 1) := by decide +kernel
theorem d_Mo_enter_131 : decode c_Mo_enter 131 = .ok (.getfield 21, 3) := by decide +kernel
theorem d_Mo_enter_134 : decode c_Mo_enter 134 = .ok (.iload_n 2, 1) := by decide +kernel
theorem d_Mo_enter_135 : decode c_Mo_enter 135 = .ok (.aload_n 0, 1) := by decide +kernel
theorem d_Mo_enter_136 : decode c_Mo_enter 136 = .ok (.getfield 52, 3) := by decide +kernel
theorem d_Mo_enter_139 : decode c_Mo_enter 139 = .ok (.aload_n 0, 1) := by decide +kernel
theorem d_Mo_enter_140 : decode c_Mo_enter 140 = .ok (.getfield 123, 3) := by decide +kernel
theorem d_Mo_enter_143 : decode c_Mo_enter 143 = .ok (.iconst 1, 1) := by decide +kernel
theorem d_Mo_enter_144 : decode c_Mo_enter 144 = .ok (.isub, 1) := by decide +kernel
theorem d_Mo_enter_145 : decode c_Mo_enter 145 = .ok (.iaload, 1) := by decide +kernel
theorem d_Mo_enter_146 : decode c_Mo_enter 146 = .ok (.iastore, 1) := by decide +kernel
theorem d_Mo_enter_147 : decode c_Mo_enter 147 = .ok (.aload_n 0, 1) := by decide +kernel
theorem d_Mo_enter_148 : decode c_Mo_enter 148 = .ok (.iconst 1, 1) := by decide +kernel
theorem d_Mo_enter_149 : decode c_Mo_enter 149 = .ok (.putfield 142, 3) := by decide +kernel
theorem d_Mo_enter_152 : decode c_Mo_enter 152 = .ok (.return_, 1) := by decide +kernel
set_option maxHeartbeats 4000000 in
set_option maxRecDepth 100000 in
theorem m_Mo_numbers (l : Launch) {D : va_G} {cy : Nat → ClassId} {sz n : Nat} {ad : Nat → Nat} {mem : Nat → va_E} {J : Nat → Int32} {A : Nat → Nat → Int32} {nm : Nat → Int64} {m0 : Nat → va_E} {L G a u R f : Nat} {T : Nat → Int32} {fc fs ft : Nat → Nat} {e9 : Nat} {fro ba : Int32} (hn : 242 ≤ n) (hM : MW cy ad J A nm m0 mem) (hNm : Num L G a u R (e9 + 1) f J) (hBd : L ≤ 240 ∧ a ≤ L ∧ u ≤ a ∧ R ≤ 12 ∧ f ≤ 6) (hEb : e9 + 1 ≤ 100) (hT : A 225 = T) (hp : J 28 = 0) (hI : Inv R (e9 + 1) u f True fc fs ft A (fun _ => False)) (h4 : A 228 e9 = 4) (hC : CL e9 A) (hse : fs f < e9) (hrr : A 239 f = -1 ∨ ∃ r, A 239 f = nI r ∧ fs f < r ∧ r < e9) : MV l D cy sz n ad y_Mo_numbers c_Mo_numbers 6 ({ frames := 4, cells := 0, slots := 0, locals := 120 } : Room) mem [.ref (ad 224), .int (nI e9), .int (fro), .int (ba)] (fun mem' => ∃ J' A' nm', MW cy ad J' A' nm' m0 mem' ∧ Res L G T a J' A') := by
  refine Met.ofW (cc := c_Mo_numbers) (maxL := 6) (ret := none) (by decide) rfl ?_
  intro p e s m args below meth c s₁ B hml hv
  obtain ⟨rfl, E, hP, hD⟩ := hv
  have hx := B.exec
  have hb := B.bytes
  have hr := B.returns
  have hlocks := B.notSynchronized
  have Bx : MB p s m [.ref (ad 224), .int (nI e9), .int (fro), .int (ba)].toArray c c_Mo_numbers "AbnfChartModel" D cy := ⟨hx, hb, tb_all (atoms_spec B.pre) E.2.1, findClass_of_methodNamed B.named, E.1⟩
  have hS : va_S (Az sz) s.heap s.heap [] := va_S.rf
  have hl := lv_entry ([.ref (ad 224), .int (nI e9), .int (fro), .int (ba)]) (n := 6) (Nat.le_of_ble_eq_true rfl)
  rw [lg_entry_eq]
  generalize (lg_sl ([.ref (ad 224), .int (nI e9), .int (fro), .int (ba)]) ++ List.replicate (6 - (lg_sl ([.ref (ad 224), .int (nI e9), .int (fro), .int (ba)])).length) Slot.unset).toArray = ls at hl ⊢
  have hl : lv_has ls 6 [(0, .ref (ad 224)), (1, .int (nI e9)), (2, .int (fro)), (3, .int (ba))] := hl
  obtain ⟨hL, haL, huA, hRb, hfb⟩ := hBd
  obtain ⟨g1, g2, g3, g4, g5, g6, g7, g8⟩ := hNm
  refine lv_aload_n Bx.1 Bx.2.1 d_Mo_numbers_0 rfl (lv_at hl 0 rfl) ?_
  refine lv_iload_n Bx.1 Bx.2.1 d_Mo_numbers_1 rfl (lv_at hl 3 rfl) ?_
  refine lv_iload_n Bx.1 Bx.2.1 d_Mo_numbers_2 rfl (lv_at hl 2 rfl) ?_
  refine f_callVi (na := 2) (As := [.int (ba), .int (fro)]) (rest := []) Bx hml E hP hD hS (by omega) hM.1 rfl (m_Mo_number l hn hM g1 hL g3 (by omega) g4) kw_846 kw_848 sel_Mo_number kw_8 kw_849 (by decide +kernel) ⟨rfl, rfl⟩ ⟨Nat.le_of_ble_eq_true rfl, Nat.le_of_ble_eq_true rfl⟩ rfl hl.1 (Nat.le_of_ble_eq_true rfl) d_Mo_numbers_3 ⟨Nat.le_of_ble_eq_true rfl, Nat.le_of_ble_eq_true rfl⟩ (fun r9 mem10 H locs hq hP hS => ?_)
  have hD : va_D (Az sz) (fw n ad mem10) := fw_D hD
  obtain ⟨J11, a12, hW13, hg14, hg15, kk16, hfr17, hbd18⟩ := hq
  have kk19 : J11 1 = nI L := (show J11 1 = J 1 from hfr17 1 (by decide) (by decide) (by decide)).trans g1
  have kk20 : J11 24 = nI G := (show J11 24 = J 24 from hfr17 24 (by decide) (by decide) (by decide)).trans g2
  have kk21 : J11 14 = nI u := (show J11 14 = J 14 from hfr17 14 (by decide) (by decide) (by decide)).trans g5
  have kk22 : J11 4 = nI R := (show J11 4 = J 4 from hfr17 4 (by decide) (by decide) (by decide)).trans g6
  have kk23 : J11 7 = nI (e9 + 1) := (show J11 7 = J 7 from hfr17 7 (by decide) (by decide) (by decide)).trans g7
  have kk24 : J11 18 = nI (f + 1) := (show J11 18 = J 18 from hfr17 18 (by decide) (by decide) (by decide)).trans g8
  have kk25 : J11 28 = 0 := (show J11 28 = J 28 from hfr17 28 (by decide) (by decide) (by decide)).trans hp
  rcases hbd18 with hbad26 | ⟨kk27, hlt28⟩
  · refine lv_istore (lv' := [(4, .int (r9)), (0, .ref (ad 224)), (1, .int (nI e9)), (2, .int (fro)), (3, .int (ba))]) Bx.1 Bx.2.1 d_Mo_numbers_6 hl (by decide) rfl (fun ls hl => ?_)
    refine lv_aload_n Bx.1 Bx.2.1 d_Mo_numbers_8 rfl (lv_at hl 1 rfl) ?_
    refine f_get Bx hP (by omega) hW13.1 rfl inMo 9 (by decide) kw_665 rfl rfl d_Mo_numbers_9 ?_
    refine lv_iload_n Bx.1 Bx.2.1 d_Mo_numbers_12 rfl (lv_at hl 2 rfl) ?_
    refine lv_aload_n Bx.1 Bx.2.1 d_Mo_numbers_13 rfl (lv_at hl 1 rfl) ?_
    refine f_get Bx hP (by omega) hW13.1 rfl inMo 14 (by decide) kw_670 rfl rfl d_Mo_numbers_14 ?_
    rw [kk21]
    refine f_iast (x := nI u) (i := nI (e9)) Bx hP hD hS (by omega) (show mem10 229 = .inl (cy 1, 100, .inl (A 229)) from hW13.2.2.1 229 (by decide) (by decide) (by decide)) (vp_in_nI (n := e9) (by omega) (by decide)) d_Mo_numbers_17 (fun H locs hP hS => ?_)
    rw [nI_clamp (n := e9) (by omega)] at hP
    obtain ⟨A29, eA29⟩ : ∃ z, z = va_up A 229 (upd (A 229) (e9) (nI u)) := ⟨_, rfl⟩
    obtain ⟨mem30, e_mem30⟩ : ∃ z, z = va_up mem10 229 (.inl (cy 1, 100, .inl (upd (A 229) (e9) (nI u)))) := ⟨_, rfl⟩
    have hP : va_P D vcl (fw n ad mem30) H := by rw [e_mem30]; exact hP
    have hD : va_D (Az sz) (fw n ad mem30) := fw_D hD
    have hW31 : MW cy ad J11 A29 nm m0 mem30 := by rw [e_mem30, eA29]; exact hW13.upA (j := 229) (by decide) (by decide) (by decide) (Or.inl (by decide))
    have tT32 : A29 225 = T := by rw [eA29]; exact hT
    refine lv_aload_n Bx.1 Bx.2.1 d_Mo_numbers_18 rfl (lv_at hl 1 rfl) ?_
    refine f_get Bx hP (by omega) hW31.1 rfl inMo 10 (by decide) kw_666 rfl rfl d_Mo_numbers_19 ?_
    refine lv_iload_n Bx.1 Bx.2.1 d_Mo_numbers_22 rfl (lv_at hl 2 rfl) ?_
    refine lv_iconst (v := 1) Bx.1 Bx.2.1 d_Mo_numbers_23 (by decide) ?_
    refine f_iast (x := 1) (i := nI (e9)) Bx hP hD hS (by omega) (show mem30 230 = .inl (cy 1, 100, .inl (A29 230)) from hW31.2.2.1 230 (by decide) (by decide) (by decide)) (vp_in_nI (n := e9) (by omega) (by decide)) d_Mo_numbers_24 (fun H locs hP hS => ?_)
    rw [nI_clamp (n := e9) (by omega)] at hP
    obtain ⟨A33, eA33⟩ : ∃ z, z = va_up A29 230 (upd (A29 230) (e9) (1)) := ⟨_, rfl⟩
    obtain ⟨mem34, e_mem34⟩ : ∃ z, z = va_up mem30 230 (.inl (cy 1, 100, .inl (upd (A29 230) (e9) (1)))) := ⟨_, rfl⟩
    have hP : va_P D vcl (fw n ad mem34) H := by rw [e_mem34]; exact hP
    have hD : va_D (Az sz) (fw n ad mem34) := fw_D hD
    have hW35 : MW cy ad J11 A33 nm m0 mem34 := by rw [e_mem34, eA33]; exact hW31.upA (j := 230) (by decide) (by decide) (by decide) (Or.inl (by decide))
    have tT36 : A33 225 = T := by rw [eA33]; exact tT32
    refine lv_aload_n Bx.1 Bx.2.1 d_Mo_numbers_25 rfl (lv_at hl 1 rfl) ?_
    refine f_get Bx hP (by omega) hW35.1 rfl inMo 15 (by decide) kw_671 rfl rfl d_Mo_numbers_26 ?_
    refine lv_aload_n Bx.1 Bx.2.1 d_Mo_numbers_29 rfl (lv_at hl 1 rfl) ?_
    refine f_get Bx hP (by omega) hW35.1 rfl inMo 14 (by decide) kw_670 rfl rfl d_Mo_numbers_30 ?_
    rw [kk21]
    refine lv_iload Bx.1 Bx.2.1 d_Mo_numbers_33 (lv_at hl 0 rfl) ?_
    refine f_iast (x := r9) (i := nI (u)) Bx hP hD hS (by omega) (show mem34 234 = .inl (cy 1, 400, .inl (A33 234)) from hW35.2.2.1 234 (by decide) (by decide) (by decide)) (vp_in_nI (n := u) (by omega) (by decide)) d_Mo_numbers_35 (fun H locs hP hS => ?_)
    rw [nI_clamp (n := u) (by omega)] at hP
    obtain ⟨A37, eA37⟩ : ∃ z, z = va_up A33 234 (upd (A33 234) (u) (r9)) := ⟨_, rfl⟩
    obtain ⟨mem38, e_mem38⟩ : ∃ z, z = va_up mem34 234 (.inl (cy 1, 400, .inl (upd (A33 234) (u) (r9)))) := ⟨_, rfl⟩
    have hP : va_P D vcl (fw n ad mem38) H := by rw [e_mem38]; exact hP
    have hD : va_D (Az sz) (fw n ad mem38) := fw_D hD
    have hW39 : MW cy ad J11 A37 nm m0 mem38 := by rw [e_mem38, eA37]; exact hW35.upA (j := 234) (by decide) (by decide) (by decide) (Or.inl (by decide))
    have tT40 : A37 225 = T := by rw [eA37]; exact tT36
    refine lv_aload_n Bx.1 Bx.2.1 d_Mo_numbers_36 rfl (lv_at hl 1 rfl) ?_
    refine lv_dup Bx.1 Bx.2.1 d_Mo_numbers_37 rfl ?_
    refine f_get Bx hP (by omega) hW39.1 rfl inMo 14 (by decide) kw_670 rfl rfl d_Mo_numbers_38 ?_
    rw [kk21]
    refine lv_iconst (v := 1) Bx.1 Bx.2.1 d_Mo_numbers_41 (by decide) ?_
    refine lv_iadd Bx.1 Bx.2.1 d_Mo_numbers_42 ?_
    rw [show nI u + 1 = nI (u + 1) from nI_add (u) (1)]
    refine f_put Bx hP hD hS (by omega) hW39.1 rfl inMo tyMo okMo nmMo 14 (by decide) kw_670 rfl rfl rfl rfl (Nat.le_of_ble_eq_true rfl) d_Mo_numbers_43 (fun H locs hP hS => ?_)
    obtain ⟨J41, eJ41⟩ : ∃ z, z = va_up J11 14 (nI (u + 1)) := ⟨_, rfl⟩
    obtain ⟨mem42, e_mem42⟩ : ∃ z, z = va_up mem38 224 (moC ad J41) := ⟨_, rfl⟩
    have hP : va_P D vcl (fw n ad mem42) H := by rw [e_mem42, eJ41]; exact hP
    have hD : va_D (Az sz) (fw n ad mem42) := fw_D hD
    have hW43 : MW cy ad J41 A37 nm m0 mem42 := by rw [e_mem42]; exact hW39.upJ (by rw [eJ41]; exact va_up_ne _ _ (by decide))
    have kk44 : J41 1 = nI L := by rw [eJ41]; exact kk19
    have kk45 : J41 24 = nI G := by rw [eJ41]; exact kk20
    have kk46 : J41 4 = nI R := by rw [eJ41]; exact kk22
    have kk47 : J41 7 = nI (e9 + 1) := by rw [eJ41]; exact kk23
    have kk48 : J41 18 = nI (f + 1) := by rw [eJ41]; exact kk24
    have kk49 : J41 28 = 0 := by rw [eJ41]; exact kk25
    have kk50 : J41 16 = nI a12 := by rw [eJ41]; exact kk16
    have kk51 : J41 14 = nI (u + 1) := by rw [eJ41, va_up_self]
    have bd52 : b12 (J41 17) := by rw [eJ41]; exact hbad26
    refine lv_aload_n Bx.1 Bx.2.1 d_Mo_numbers_46 rfl (lv_at hl 1 rfl) ?_
    refine f_get Bx hP (by omega) hW43.1 rfl inMo 17 (by decide) kw_673 rfl rfl d_Mo_numbers_47 ?_
    refine lv_if_ne Bx.1 Bx.2.1 d_Mo_numbers_50 rfl (fun hb53 => ?_) (fun hb53 => ?_)
    · refine lv_aload_n Bx.1 Bx.2.1 d_Mo_numbers_116 rfl (lv_at hl 1 rfl) ?_
      refine f_get Bx hP (by omega) hW43.1 rfl inMo 17 (by decide) kw_673 rfl rfl d_Mo_numbers_117 ?_
      refine lv_if_ne Bx.1 Bx.2.1 d_Mo_numbers_120 rfl (fun hb54 => ?_) (fun hb54 => ?_)
      · refine lv_aload_n Bx.1 Bx.2.1 d_Mo_numbers_200 rfl (lv_at hl 1 rfl) ?_
        refine f_get Bx hP (by omega) hW43.1 rfl inMo 17 (by decide) kw_673 rfl rfl d_Mo_numbers_201 ?_
        refine lv_if_ne Bx.1 Bx.2.1 d_Mo_numbers_204 rfl (fun hb55 => ?_) (fun hb55 => ?_)
        · exact W.vret hx hb hr (fun t ht hW => ⟨⟨mem42, rfl, ⟨J41, A37, nm, hW43, Or.inl ⟨kk44, kk45, tT40, bd52, _, by omega, kk50⟩⟩, by show va_P _ _ _ t.heap; rw [ht]; exact hP⟩, hS.F ht⟩) hS.2.2 d_Mo_numbers_212
        · exact absurd hb55 bd52.ne
      · exact absurd hb54 bd52.ne
    · exact absurd hb53 bd52.ne
  · refine lv_istore (lv' := [(4, .int (r9)), (0, .ref (ad 224)), (1, .int (nI e9)), (2, .int (fro)), (3, .int (ba))]) Bx.1 Bx.2.1 d_Mo_numbers_6 hl (by decide) rfl (fun ls hl => ?_)
    refine lv_aload_n Bx.1 Bx.2.1 d_Mo_numbers_8 rfl (lv_at hl 1 rfl) ?_
    refine f_get Bx hP (by omega) hW13.1 rfl inMo 9 (by decide) kw_665 rfl rfl d_Mo_numbers_9 ?_
    refine lv_iload_n Bx.1 Bx.2.1 d_Mo_numbers_12 rfl (lv_at hl 2 rfl) ?_
    refine lv_aload_n Bx.1 Bx.2.1 d_Mo_numbers_13 rfl (lv_at hl 1 rfl) ?_
    refine f_get Bx hP (by omega) hW13.1 rfl inMo 14 (by decide) kw_670 rfl rfl d_Mo_numbers_14 ?_
    rw [kk21]
    refine f_iast (x := nI u) (i := nI (e9)) Bx hP hD hS (by omega) (show mem10 229 = .inl (cy 1, 100, .inl (A 229)) from hW13.2.2.1 229 (by decide) (by decide) (by decide)) (vp_in_nI (n := e9) (by omega) (by decide)) d_Mo_numbers_17 (fun H locs hP hS => ?_)
    rw [nI_clamp (n := e9) (by omega)] at hP
    obtain ⟨A56, eA56⟩ : ∃ z, z = va_up A 229 (upd (A 229) (e9) (nI u)) := ⟨_, rfl⟩
    obtain ⟨mem57, e_mem57⟩ : ∃ z, z = va_up mem10 229 (.inl (cy 1, 100, .inl (upd (A 229) (e9) (nI u)))) := ⟨_, rfl⟩
    have hP : va_P D vcl (fw n ad mem57) H := by rw [e_mem57]; exact hP
    have hD : va_D (Az sz) (fw n ad mem57) := fw_D hD
    have hW58 : MW cy ad J11 A56 nm m0 mem57 := by rw [e_mem57, eA56]; exact hW13.upA (j := 229) (by decide) (by decide) (by decide) (Or.inl (by decide))
    have tT59 : A56 225 = T := by rw [eA56]; exact hT
    refine lv_aload_n Bx.1 Bx.2.1 d_Mo_numbers_18 rfl (lv_at hl 1 rfl) ?_
    refine f_get Bx hP (by omega) hW58.1 rfl inMo 10 (by decide) kw_666 rfl rfl d_Mo_numbers_19 ?_
    refine lv_iload_n Bx.1 Bx.2.1 d_Mo_numbers_22 rfl (lv_at hl 2 rfl) ?_
    refine lv_iconst (v := 1) Bx.1 Bx.2.1 d_Mo_numbers_23 (by decide) ?_
    refine f_iast (x := 1) (i := nI (e9)) Bx hP hD hS (by omega) (show mem57 230 = .inl (cy 1, 100, .inl (A56 230)) from hW58.2.2.1 230 (by decide) (by decide) (by decide)) (vp_in_nI (n := e9) (by omega) (by decide)) d_Mo_numbers_24 (fun H locs hP hS => ?_)
    rw [nI_clamp (n := e9) (by omega)] at hP
    obtain ⟨A60, eA60⟩ : ∃ z, z = va_up A56 230 (upd (A56 230) (e9) (1)) := ⟨_, rfl⟩
    obtain ⟨mem61, e_mem61⟩ : ∃ z, z = va_up mem57 230 (.inl (cy 1, 100, .inl (upd (A56 230) (e9) (1)))) := ⟨_, rfl⟩
    have hP : va_P D vcl (fw n ad mem61) H := by rw [e_mem61]; exact hP
    have hD : va_D (Az sz) (fw n ad mem61) := fw_D hD
    have hW62 : MW cy ad J11 A60 nm m0 mem61 := by rw [e_mem61, eA60]; exact hW58.upA (j := 230) (by decide) (by decide) (by decide) (Or.inl (by decide))
    have tT63 : A60 225 = T := by rw [eA60]; exact tT59
    refine lv_aload_n Bx.1 Bx.2.1 d_Mo_numbers_25 rfl (lv_at hl 1 rfl) ?_
    refine f_get Bx hP (by omega) hW62.1 rfl inMo 15 (by decide) kw_671 rfl rfl d_Mo_numbers_26 ?_
    refine lv_aload_n Bx.1 Bx.2.1 d_Mo_numbers_29 rfl (lv_at hl 1 rfl) ?_
    refine f_get Bx hP (by omega) hW62.1 rfl inMo 14 (by decide) kw_670 rfl rfl d_Mo_numbers_30 ?_
    rw [kk21]
    refine lv_iload Bx.1 Bx.2.1 d_Mo_numbers_33 (lv_at hl 0 rfl) ?_
    refine f_iast (x := r9) (i := nI (u)) Bx hP hD hS (by omega) (show mem61 234 = .inl (cy 1, 400, .inl (A60 234)) from hW62.2.2.1 234 (by decide) (by decide) (by decide)) (vp_in_nI (n := u) (by omega) (by decide)) d_Mo_numbers_35 (fun H locs hP hS => ?_)
    rw [nI_clamp (n := u) (by omega)] at hP
    obtain ⟨A64, eA64⟩ : ∃ z, z = va_up A60 234 (upd (A60 234) (u) (r9)) := ⟨_, rfl⟩
    obtain ⟨mem65, e_mem65⟩ : ∃ z, z = va_up mem61 234 (.inl (cy 1, 400, .inl (upd (A60 234) (u) (r9)))) := ⟨_, rfl⟩
    have hP : va_P D vcl (fw n ad mem65) H := by rw [e_mem65]; exact hP
    have hD : va_D (Az sz) (fw n ad mem65) := fw_D hD
    have hW66 : MW cy ad J11 A64 nm m0 mem65 := by rw [e_mem65, eA64]; exact hW62.upA (j := 234) (by decide) (by decide) (by decide) (Or.inl (by decide))
    have tT67 : A64 225 = T := by rw [eA64]; exact tT63
    refine lv_aload_n Bx.1 Bx.2.1 d_Mo_numbers_36 rfl (lv_at hl 1 rfl) ?_
    refine lv_dup Bx.1 Bx.2.1 d_Mo_numbers_37 rfl ?_
    refine f_get Bx hP (by omega) hW66.1 rfl inMo 14 (by decide) kw_670 rfl rfl d_Mo_numbers_38 ?_
    rw [kk21]
    refine lv_iconst (v := 1) Bx.1 Bx.2.1 d_Mo_numbers_41 (by decide) ?_
    refine lv_iadd Bx.1 Bx.2.1 d_Mo_numbers_42 ?_
    rw [show nI u + 1 = nI (u + 1) from nI_add (u) (1)]
    refine f_put Bx hP hD hS (by omega) hW66.1 rfl inMo tyMo okMo nmMo 14 (by decide) kw_670 rfl rfl rfl rfl (Nat.le_of_ble_eq_true rfl) d_Mo_numbers_43 (fun H locs hP hS => ?_)
    obtain ⟨J68, eJ68⟩ : ∃ z, z = va_up J11 14 (nI (u + 1)) := ⟨_, rfl⟩
    obtain ⟨mem69, e_mem69⟩ : ∃ z, z = va_up mem65 224 (moC ad J68) := ⟨_, rfl⟩
    have hP : va_P D vcl (fw n ad mem69) H := by rw [e_mem69, eJ68]; exact hP
    have hD : va_D (Az sz) (fw n ad mem69) := fw_D hD
    have hW70 : MW cy ad J68 A64 nm m0 mem69 := by rw [e_mem69]; exact hW66.upJ (by rw [eJ68]; exact va_up_ne _ _ (by decide))
    have kk71 : J68 1 = nI L := by rw [eJ68]; exact kk19
    have kk72 : J68 24 = nI G := by rw [eJ68]; exact kk20
    have kk73 : J68 4 = nI R := by rw [eJ68]; exact kk22
    have kk74 : J68 7 = nI (e9 + 1) := by rw [eJ68]; exact kk23
    have kk75 : J68 18 = nI (f + 1) := by rw [eJ68]; exact kk24
    have kk76 : J68 28 = 0 := by rw [eJ68]; exact kk25
    have kk77 : J68 16 = nI a12 := by rw [eJ68]; exact kk16
    have kk78 : J68 17 = 0 := by rw [eJ68]; exact kk27
    have kk79 : J68 14 = nI (u + 1) := by rw [eJ68, va_up_self]
    refine lv_aload_n Bx.1 Bx.2.1 d_Mo_numbers_46 rfl (lv_at hl 1 rfl) ?_
    refine f_get Bx hP (by omega) hW70.1 rfl inMo 17 (by decide) kw_673 rfl rfl d_Mo_numbers_47 ?_
    rw [kk78]
    refine lv_if_ne Bx.1 Bx.2.1 d_Mo_numbers_50 rfl (fun hb80 => ?_) (fun hb80 => ?_)
    · exact absurd hb80 (by decide)
    · refine lv_aload_n Bx.1 Bx.2.1 d_Mo_numbers_53 rfl (lv_at hl 1 rfl) ?_
      refine f_callVi (na := 0) (As := []) (rest := []) Bx hml E hP hD hS (by omega) hW70.1 rfl (m_Mo_here l hn hW70 kk71 hL kk77 (by omega)) kw_778 kw_780 sel_Mo_here kw_8 kw_781 (by decide +kernel) ⟨rfl, rfl⟩ ⟨Nat.le_of_ble_eq_true rfl, Nat.le_of_ble_eq_true rfl⟩ rfl hl.1 (Nat.le_of_ble_eq_true rfl) d_Mo_numbers_54 ⟨Nat.le_of_ble_eq_true rfl, Nat.le_of_ble_eq_true rfl⟩ (fun r81 mem82 H locs hq hP hS => ?_)
      have hD : va_D (Az sz) (fw n ad mem82) := fw_D hD
      obtain ⟨hre, hq⟩ := hq
      rw [hq] at hP hD
      subst hre
      rw [show hereF L (A64 225) (a12) = hereF L T (a12) by rw [tT67]]
      refine lv_bipush (v := 45) Bx.1 Bx.2.1 d_Mo_numbers_57 (by decide) ?_
      refine lv_icmp_ne Bx.1 Bx.2.1 d_Mo_numbers_59 rfl (fun hb83 => ?_) (fun hb83 => ?_)
      · have hrel : (∀ j, j ≠ 229 → j ≠ 230 → j ≠ 234 → A64 j = A j) ∧ (∀ i, i ≠ e9 → A64 229 i = A 229 i ∧ A64 230 i = A 230 i) ∧ A64 229 e9 = nI u ∧ A64 230 e9 = nI 1 := ⟨fun j q9 q0 q4 => by simp [eA56, eA60, eA64, va_up, q9, q0, q4], fun i hi => by simp [eA56, eA60, eA64, va_up, upd, hi], by simp [eA56, eA60, eA64, va_up, upd], by simp [eA56, eA60, eA64, va_up, upd]; rfl⟩
        have loop84 : ∀ (d85 : Nat) (mem9 : Nat → va_E) (J9 : Nat → Int32) (A9 : Nat → Nat → Int32) (a1 : Nat) (t1 : Nat) (ls : Array Slot) (H : Heap) (locs : List Loc), (4 - t1 < d85) → (Num L G a1 (u + t1) R (e9 + 1) f J9 ∧ J9 28 = 0) → (MW cy ad J9 A9 nm m0 mem9) → ((∀ j, j ≠ 229 → j ≠ 230 → j ≠ 234 → A9 j = A j) ∧ (∀ i, i ≠ e9 → A9 229 i = A 229 i ∧ A9 230 i = A 230 i) ∧ A9 229 e9 = nI u ∧ A9 230 e9 = nI t1) → (a < a1 ∧ a1 ≤ L ∧ u + t1 ≤ a1 ∧ t1 ≤ 4) → (va_P D vcl (fw n ad mem9) H) → (va_D (Az sz) (fw n ad mem9)) → (va_S (Az sz) s.heap H locs) → (lv_has ls 6 [(0, .ref (ad 224)), (1, .int (nI e9)), (2, .int (fro)), (3, .int (ba))]) → W p l e (headSpec (Cond.code y_Mo_numbers c_Mo_numbers 6 none :: tg) ({ frames := 4, cells := 0, slots := 0, locals := 120 } : Room)).room s m [.ref (ad 224), .int (nI e9), .int (fro), .int (ba)].toArray below meth c H locs 0 0 (MQ below (va_Qv (fun mem' => ∃ J' A' nm', MW cy ad J' A' nm' m0 mem' ∧ Res L G T a J' A') (PP D n ad) (Az sz)) [.ref (ad 224), .int (nI e9), .int (fro), .int (ba)].toArray s 0 0 (Az sz)) (F0 m 116 ls []) := by
          intro d85
          induction d85 with
          | zero => intro mem9 J9 A9 a1 t1 ls H locs hmeas91; exact absurd hmeas91 (Nat.not_lt_zero _)
          | succ d85 ih90 =>
            intro mem9 J9 A9 a1 t1 ls H locs hmeas91 hz86 hz87 hz88 hz89 hP hD hS hl
            obtain ⟨g92, g93, g94, g95, g96, g97, g98, g99⟩ := hz86.1
            obtain ⟨r1, r2, r3, r4⟩ := hz88
            have tT100 : A9 225 = T := (r1 225 (by decide) (by decide) (by decide)).trans hT
            have hr4 : A9 228 (e9) = 4 := by rw [r1 228 (by decide) (by decide) (by decide)]; exact h4
            refine lv_aload_n Bx.1 Bx.2.1 d_Mo_numbers_116 rfl (lv_at hl 0 rfl) ?_
            refine f_get Bx hP (by omega) hz87.1 rfl inMo 17 (by decide) kw_673 rfl rfl d_Mo_numbers_117 ?_
            rw [g95]
            refine lv_if_ne Bx.1 Bx.2.1 d_Mo_numbers_120 rfl (fun hb101 => ?_) (fun hb101 => ?_)
            · exact absurd hb101 (by decide)
            · refine lv_aload_n Bx.1 Bx.2.1 d_Mo_numbers_123 rfl (lv_at hl 0 rfl) ?_
              refine f_get Bx hP (by omega) hz87.1 rfl inMo 8 (by decide) kw_664 rfl rfl d_Mo_numbers_124 ?_
              refine lv_iload_n Bx.1 Bx.2.1 d_Mo_numbers_127 rfl (lv_at hl 1 rfl) ?_
              refine f_iald Bx hP (by omega) (show mem9 228 = .inl (cy 1, 100, .inl (A9 228)) from hz87.2.2.1 228 (by decide) (by decide) (by decide)) (vp_in_nI (n := e9) (by omega) (by decide)) d_Mo_numbers_128 ?_
              rw [nI_clamp (n := e9) (by omega)]
              rw [hr4]
              refine lv_iconst (v := 4) Bx.1 Bx.2.1 d_Mo_numbers_129 (by decide) ?_
              refine lv_icmp_ne Bx.1 Bx.2.1 d_Mo_numbers_130 rfl (fun hb102 => ?_) (fun hb102 => ?_)
              · exact absurd hb102 (by decide)
              · refine lv_aload_n Bx.1 Bx.2.1 d_Mo_numbers_133 rfl (lv_at hl 0 rfl) ?_
                refine f_callVi (na := 0) (As := []) (rest := []) Bx hml E hP hD hS (by omega) hz87.1 rfl (m_Mo_here l hn hz87 g92 hL g94 (by omega)) kw_778 kw_780 sel_Mo_here kw_8 kw_781 (by decide +kernel) ⟨rfl, rfl⟩ ⟨Nat.le_of_ble_eq_true rfl, Nat.le_of_ble_eq_true rfl⟩ rfl hl.1 (Nat.le_of_ble_eq_true rfl) d_Mo_numbers_134 ⟨Nat.le_of_ble_eq_true rfl, Nat.le_of_ble_eq_true rfl⟩ (fun r103 mem104 H locs hq hP hS => ?_)
                have hD : va_D (Az sz) (fw n ad mem104) := fw_D hD
                obtain ⟨hre, hq⟩ := hq
                rw [hq] at hP hD
                subst hre
                rw [show hereF L (A9 225) (a1) = hereF L T (a1) by rw [tT100]]
                refine lv_bipush (v := 46) Bx.1 Bx.2.1 d_Mo_numbers_137 (by decide) ?_
                refine lv_icmp_ne Bx.1 Bx.2.1 d_Mo_numbers_139 rfl (fun hb105 => ?_) (fun hb105 => ?_)
                · refine lv_aload_n Bx.1 Bx.2.1 d_Mo_numbers_200 rfl (lv_at hl 0 rfl) ?_
                  refine f_get Bx hP (by omega) hz87.1 rfl inMo 17 (by decide) kw_673 rfl rfl d_Mo_numbers_201 ?_
                  rw [g95]
                  refine lv_if_ne Bx.1 Bx.2.1 d_Mo_numbers_204 rfl (fun hb106 => ?_) (fun hb106 => ?_)
                  · exact absurd hb106 (by decide)
                  · refine lv_aload_n Bx.1 Bx.2.1 d_Mo_numbers_207 rfl (lv_at hl 0 rfl) ?_
                    refine lv_iload_n Bx.1 Bx.2.1 d_Mo_numbers_208 rfl (lv_at hl 1 rfl) ?_
                    have hno := hI.note (A' := A9) (e := e9) (u' := u + t1) (by omega) (fun j q8 q9 q0 q1 q4 => r1 j q9 q0 q4) (fun i hi => ⟨by rw [r1 228 (by decide) (by decide) (by decide)], (r2 i hi).1, (r2 i hi).2⟩) (Or.inl (by rw [r1 228 (by decide) (by decide) (by decide)])) (by rw [hr4]; decide) (fun _ => ⟨u, t1, r3, r4, by omega⟩)
                    have hrr2 : A9 239 f = -1 ∨ ∃ r, A9 239 f = nI r ∧ fs f < r ∧ r < e9 := by rw [r1 239 (by decide) (by decide) (by decide)]; exact hrr
                    have hC2 : CL e9 A9 := fun i hi => by rw [r1 232 (by decide) (by decide) (by decide), r1 233 (by decide) (by decide) (by decide)]; exact hC i hi
                    refine f_callVv (na := 1) (As := [.int (nI e9)]) (rest := []) Bx hml E hP hD hS (by omega) hz87.1 rfl (m_Mo_placed l hn hz87 g99 (by omega) (by omega) hno (by omega) hse hrr2 hC2) kw_834 kw_836 sel_Mo_placed kw_8 kw_837 (by decide +kernel) ⟨rfl, rfl⟩ ⟨Nat.le_of_ble_eq_true rfl, Nat.le_of_ble_eq_true rfl⟩ rfl hl.1 (Nat.le_of_ble_eq_true rfl) d_Mo_numbers_209 ⟨Nat.le_of_ble_eq_true rfl, Nat.le_of_ble_eq_true rfl⟩ (fun mem108 H locs hq hP hS => ?_)
                    have hD : va_D (Az sz) (fw n ad mem108) := fw_D hD
                    obtain ⟨A109, hW110, hinv111, h39112, hj113⟩ := hq
                    have tT114 : A109 225 = T := (hj113 225 (by decide) (by decide) (by decide)).trans tT100
                    exact W.vret hx hb hr (fun t ht hW => ⟨⟨mem108, rfl, ⟨J9, A109, nm, hW110, Or.inr ⟨a1, by omega, u + t1, R, e9 + 1, f, fc, fs, ft, ⟨g92, g93, g94, g95, g96, g97, g98, g99⟩, ⟨by omega, by omega, by omega, by omega, by omega, by omega⟩, tT114, Or.inl hz86.2, hinv111.qT, h39112⟩⟩, by show va_P _ _ _ t.heap; rw [ht]; exact hP⟩, hS.F ht⟩) hS.2.2 d_Mo_numbers_212
                · have hlt115 := hereF_lt (by rw [hb105]; decide)
                  refine lv_aload_n Bx.1 Bx.2.1 d_Mo_numbers_142 rfl (lv_at hl 0 rfl) ?_
                  refine f_get Bx hP (by omega) hz87.1 rfl inMo 10 (by decide) kw_666 rfl rfl d_Mo_numbers_143 ?_
                  refine lv_iload_n Bx.1 Bx.2.1 d_Mo_numbers_146 rfl (lv_at hl 1 rfl) ?_
                  refine f_iald Bx hP (by omega) (show mem9 230 = .inl (cy 1, 100, .inl (A9 230)) from hz87.2.2.1 230 (by decide) (by decide) (by decide)) (vp_in_nI (n := e9) (by omega) (by decide)) d_Mo_numbers_147 ?_
                  rw [nI_clamp (n := e9) (by omega)]
                  rw [r4]
                  refine lv_iconst (v := 4) Bx.1 Bx.2.1 d_Mo_numbers_148 (by decide) ?_
                  refine lv_icmp_ge Bx.1 Bx.2.1 d_Mo_numbers_149 rfl (fun hb116 => ?_) (fun hb116 => ?_)
                  · have hN117 : 4 ≤ t1 := (nI_leI (by omega) (by omega)).mp (show nI (4) ≤ nI (t1) from hb116)
                    refine lv_aload_n Bx.1 Bx.2.1 d_Mo_numbers_200 rfl (lv_at hl 0 rfl) ?_
                    refine f_get Bx hP (by omega) hz87.1 rfl inMo 17 (by decide) kw_673 rfl rfl d_Mo_numbers_201 ?_
                    rw [g95]
                    refine lv_if_ne Bx.1 Bx.2.1 d_Mo_numbers_204 rfl (fun hb118 => ?_) (fun hb118 => ?_)
                    · exact absurd hb118 (by decide)
                    · refine lv_aload_n Bx.1 Bx.2.1 d_Mo_numbers_207 rfl (lv_at hl 0 rfl) ?_
                      refine lv_iload_n Bx.1 Bx.2.1 d_Mo_numbers_208 rfl (lv_at hl 1 rfl) ?_
                      have hno := hI.note (A' := A9) (e := e9) (u' := u + t1) (by omega) (fun j q8 q9 q0 q1 q4 => r1 j q9 q0 q4) (fun i hi => ⟨by rw [r1 228 (by decide) (by decide) (by decide)], (r2 i hi).1, (r2 i hi).2⟩) (Or.inl (by rw [r1 228 (by decide) (by decide) (by decide)])) (by rw [hr4]; decide) (fun _ => ⟨u, t1, r3, r4, by omega⟩)
                      have hrr2 : A9 239 f = -1 ∨ ∃ r, A9 239 f = nI r ∧ fs f < r ∧ r < e9 := by rw [r1 239 (by decide) (by decide) (by decide)]; exact hrr
                      have hC2 : CL e9 A9 := fun i hi => by rw [r1 232 (by decide) (by decide) (by decide), r1 233 (by decide) (by decide) (by decide)]; exact hC i hi
                      refine f_callVv (na := 1) (As := [.int (nI e9)]) (rest := []) Bx hml E hP hD hS (by omega) hz87.1 rfl (m_Mo_placed l hn hz87 g99 (by omega) (by omega) hno (by omega) hse hrr2 hC2) kw_834 kw_836 sel_Mo_placed kw_8 kw_837 (by decide +kernel) ⟨rfl, rfl⟩ ⟨Nat.le_of_ble_eq_true rfl, Nat.le_of_ble_eq_true rfl⟩ rfl hl.1 (Nat.le_of_ble_eq_true rfl) d_Mo_numbers_209 ⟨Nat.le_of_ble_eq_true rfl, Nat.le_of_ble_eq_true rfl⟩ (fun mem120 H locs hq hP hS => ?_)
                      have hD : va_D (Az sz) (fw n ad mem120) := fw_D hD
                      obtain ⟨A121, hW122, hinv123, h39124, hj125⟩ := hq
                      have tT126 : A121 225 = T := (hj125 225 (by decide) (by decide) (by decide)).trans tT100
                      exact W.vret hx hb hr (fun t ht hW => ⟨⟨mem120, rfl, ⟨J9, A121, nm, hW122, Or.inr ⟨a1, by omega, u + t1, R, e9 + 1, f, fc, fs, ft, ⟨g92, g93, g94, g95, g96, g97, g98, g99⟩, ⟨by omega, by omega, by omega, by omega, by omega, by omega⟩, tT126, Or.inl hz86.2, hinv123.qT, h39124⟩⟩, by show va_P _ _ _ t.heap; rw [ht]; exact hP⟩, hS.F ht⟩) hS.2.2 d_Mo_numbers_212
                  · have hN127 : ¬ 4 ≤ t1 := fun q9 => hb116 (show nI (4) ≤ nI (t1) from (nI_leI (by omega) (by omega)).mpr q9)
                    refine lv_aload_n Bx.1 Bx.2.1 d_Mo_numbers_152 rfl (lv_at hl 0 rfl) ?_
                    refine lv_dup Bx.1 Bx.2.1 d_Mo_numbers_153 rfl ?_
                    refine f_get Bx hP (by omega) hz87.1 rfl inMo 16 (by decide) kw_672 rfl rfl d_Mo_numbers_154 ?_
                    rw [g94]
                    refine lv_iconst (v := 1) Bx.1 Bx.2.1 d_Mo_numbers_157 (by decide) ?_
                    refine lv_iadd Bx.1 Bx.2.1 d_Mo_numbers_158 ?_
                    rw [show nI a1 + 1 = nI (a1 + 1) from nI_add (a1) (1)]
                    refine f_put Bx hP hD hS (by omega) hz87.1 rfl inMo tyMo okMo nmMo 16 (by decide) kw_672 rfl rfl rfl rfl (Nat.le_of_ble_eq_true rfl) d_Mo_numbers_159 (fun H locs hP hS => ?_)
                    obtain ⟨J128, eJ128⟩ : ∃ z, z = va_up J9 16 (nI (a1 + 1)) := ⟨_, rfl⟩
                    obtain ⟨mem129, e_mem129⟩ : ∃ z, z = va_up mem9 224 (moC ad J128) := ⟨_, rfl⟩
                    have hP : va_P D vcl (fw n ad mem129) H := by rw [e_mem129, eJ128]; exact hP
                    have hD : va_D (Az sz) (fw n ad mem129) := fw_D hD
                    have hW130 : MW cy ad J128 A9 nm m0 mem129 := by rw [e_mem129]; exact hz87.upJ (by rw [eJ128]; exact va_up_ne _ _ (by decide))
                    have kk131 : J128 1 = nI L := by rw [eJ128]; exact g92
                    have kk132 : J128 24 = nI G := by rw [eJ128]; exact g93
                    have kk133 : J128 17 = 0 := by rw [eJ128]; exact g95
                    have kk134 : J128 14 = nI (u + t1) := by rw [eJ128]; exact g96
                    have kk135 : J128 4 = nI R := by rw [eJ128]; exact g97
                    have kk136 : J128 7 = nI (e9 + 1) := by rw [eJ128]; exact g98
                    have kk137 : J128 18 = nI (f + 1) := by rw [eJ128]; exact g99
                    have kk138 : J128 28 = 0 := by rw [eJ128]; exact hz86.2
                    have kk139 : J128 16 = nI (a1 + 1) := by rw [eJ128, va_up_self]
                    refine lv_aload_n Bx.1 Bx.2.1 d_Mo_numbers_162 rfl (lv_at hl 0 rfl) ?_
                    refine f_get Bx hP (by omega) hW130.1 rfl inMo 15 (by decide) kw_671 rfl rfl d_Mo_numbers_163 ?_
                    refine lv_aload_n Bx.1 Bx.2.1 d_Mo_numbers_166 rfl (lv_at hl 0 rfl) ?_
                    refine f_get Bx hP (by omega) hW130.1 rfl inMo 14 (by decide) kw_670 rfl rfl d_Mo_numbers_167 ?_
                    rw [kk134]
                    refine lv_aload_n Bx.1 Bx.2.1 d_Mo_numbers_170 rfl (lv_at hl 0 rfl) ?_
                    refine lv_iload_n Bx.1 Bx.2.1 d_Mo_numbers_171 rfl (lv_at hl 3 rfl) ?_
                    refine lv_iload_n Bx.1 Bx.2.1 d_Mo_numbers_172 rfl (lv_at hl 2 rfl) ?_
                    refine f_callVi (na := 2) (As := [.int (ba), .int (fro)]) (rest := [.int (nI (u + t1)), .ref (ad 234)]) Bx hml E hP hD hS (by omega) hW130.1 rfl (m_Mo_number l hn hW130 kk131 hL kk139 (by omega) kk133) kw_846 kw_848 sel_Mo_number kw_8 kw_849 (by decide +kernel) ⟨rfl, rfl⟩ ⟨Nat.le_of_ble_eq_true rfl, Nat.le_of_ble_eq_true rfl⟩ rfl hl.1 (Nat.le_of_ble_eq_true rfl) d_Mo_numbers_173 ⟨Nat.le_of_ble_eq_true rfl, Nat.le_of_ble_eq_true rfl⟩ (fun r140 mem141 H locs hq hP hS => ?_)
                    have hD : va_D (Az sz) (fw n ad mem141) := fw_D hD
                    obtain ⟨J142, a143, hW144, hg145, hg146, kk147, hfr148, hbd149⟩ := hq
                    have kk150 : J142 1 = nI L := (show J142 1 = J128 1 from hfr148 1 (by decide) (by decide) (by decide)).trans kk131
                    have kk151 : J142 24 = nI G := (show J142 24 = J128 24 from hfr148 24 (by decide) (by decide) (by decide)).trans kk132
                    have kk152 : J142 14 = nI (u + t1) := (show J142 14 = J128 14 from hfr148 14 (by decide) (by decide) (by decide)).trans kk134
                    have kk153 : J142 4 = nI R := (show J142 4 = J128 4 from hfr148 4 (by decide) (by decide) (by decide)).trans kk135
                    have kk154 : J142 7 = nI (e9 + 1) := (show J142 7 = J128 7 from hfr148 7 (by decide) (by decide) (by decide)).trans kk136
                    have kk155 : J142 18 = nI (f + 1) := (show J142 18 = J128 18 from hfr148 18 (by decide) (by decide) (by decide)).trans kk137
                    have kk156 : J142 28 = 0 := (show J142 28 = J128 28 from hfr148 28 (by decide) (by decide) (by decide)).trans kk138
                    rcases hbd149 with hbad157 | ⟨kk158, hlt159⟩
                    · refine f_iast (x := r140) (i := nI (u + t1)) Bx hP hD hS (by omega) (show mem141 234 = .inl (cy 1, 400, .inl (A9 234)) from hW144.2.2.1 234 (by decide) (by decide) (by decide)) (vp_in_nI (n := u + t1) (by omega) (by decide)) d_Mo_numbers_176 (fun H locs hP hS => ?_)
                      rw [nI_clamp (n := u + t1) (by omega)] at hP
                      obtain ⟨A160, eA160⟩ : ∃ z, z = va_up A9 234 (upd (A9 234) (u + t1) (r140)) := ⟨_, rfl⟩
                      obtain ⟨mem161, e_mem161⟩ : ∃ z, z = va_up mem141 234 (.inl (cy 1, 400, .inl (upd (A9 234) (u + t1) (r140)))) := ⟨_, rfl⟩
                      have hP : va_P D vcl (fw n ad mem161) H := by rw [e_mem161]; exact hP
                      have hD : va_D (Az sz) (fw n ad mem161) := fw_D hD
                      have hW162 : MW cy ad J142 A160 nm m0 mem161 := by rw [e_mem161, eA160]; exact hW144.upA (j := 234) (by decide) (by decide) (by decide) (Or.inl (by decide))
                      have tT163 : A160 225 = T := by rw [eA160]; exact tT100
                      refine lv_aload_n Bx.1 Bx.2.1 d_Mo_numbers_177 rfl (lv_at hl 0 rfl) ?_
                      refine lv_dup Bx.1 Bx.2.1 d_Mo_numbers_178 rfl ?_
                      refine f_get Bx hP (by omega) hW162.1 rfl inMo 14 (by decide) kw_670 rfl rfl d_Mo_numbers_179 ?_
                      rw [kk152]
                      refine lv_iconst (v := 1) Bx.1 Bx.2.1 d_Mo_numbers_182 (by decide) ?_
                      refine lv_iadd Bx.1 Bx.2.1 d_Mo_numbers_183 ?_
                      rw [show nI (u + t1) + 1 = nI (u + t1 + 1) from nI_add (u + t1) (1)]
                      refine f_put Bx hP hD hS (by omega) hW162.1 rfl inMo tyMo okMo nmMo 14 (by decide) kw_670 rfl rfl rfl rfl (Nat.le_of_ble_eq_true rfl) d_Mo_numbers_184 (fun H locs hP hS => ?_)
                      obtain ⟨J164, eJ164⟩ : ∃ z, z = va_up J142 14 (nI (u + t1 + 1)) := ⟨_, rfl⟩
                      obtain ⟨mem165, e_mem165⟩ : ∃ z, z = va_up mem161 224 (moC ad J164) := ⟨_, rfl⟩
                      have hP : va_P D vcl (fw n ad mem165) H := by rw [e_mem165, eJ164]; exact hP
                      have hD : va_D (Az sz) (fw n ad mem165) := fw_D hD
                      have hW166 : MW cy ad J164 A160 nm m0 mem165 := by rw [e_mem165]; exact hW162.upJ (by rw [eJ164]; exact va_up_ne _ _ (by decide))
                      have kk167 : J164 1 = nI L := by rw [eJ164]; exact kk150
                      have kk168 : J164 24 = nI G := by rw [eJ164]; exact kk151
                      have kk169 : J164 4 = nI R := by rw [eJ164]; exact kk153
                      have kk170 : J164 7 = nI (e9 + 1) := by rw [eJ164]; exact kk154
                      have kk171 : J164 18 = nI (f + 1) := by rw [eJ164]; exact kk155
                      have kk172 : J164 28 = 0 := by rw [eJ164]; exact kk156
                      have kk173 : J164 16 = nI a143 := by rw [eJ164]; exact kk147
                      have kk174 : J164 14 = nI (u + t1 + 1) := by rw [eJ164, va_up_self]
                      have bd175 : b12 (J164 17) := by rw [eJ164]; exact hbad157
                      refine lv_aload_n Bx.1 Bx.2.1 d_Mo_numbers_187 rfl (lv_at hl 0 rfl) ?_
                      refine f_get Bx hP (by omega) hW166.1 rfl inMo 10 (by decide) kw_666 rfl rfl d_Mo_numbers_188 ?_
                      refine lv_iload_n Bx.1 Bx.2.1 d_Mo_numbers_191 rfl (lv_at hl 1 rfl) ?_
                      refine lv_dup2_11 Bx.1 Bx.2.1 d_Mo_numbers_192 rfl rfl ?_
                      refine f_iald Bx hP (by omega) (show mem165 230 = .inl (cy 1, 100, .inl (A160 230)) from hW166.2.2.1 230 (by decide) (by decide) (by decide)) (vp_in_nI (n := e9) (by omega) (by decide)) d_Mo_numbers_193 ?_
                      rw [nI_clamp (n := e9) (by omega)]
                      rw [show A160 230 (e9) = nI t1 by simp [eA160, va_up, r4]]
                      refine lv_iconst (v := 1) Bx.1 Bx.2.1 d_Mo_numbers_194 (by decide) ?_
                      refine lv_iadd Bx.1 Bx.2.1 d_Mo_numbers_195 ?_
                      rw [show nI t1 + 1 = nI (t1 + 1) from nI_add (t1) (1)]
                      refine f_iast (x := nI (t1 + 1)) (i := nI (e9)) Bx hP hD hS (by omega) (show mem165 230 = .inl (cy 1, 100, .inl (A160 230)) from hW166.2.2.1 230 (by decide) (by decide) (by decide)) (vp_in_nI (n := e9) (by omega) (by decide)) d_Mo_numbers_196 (fun H locs hP hS => ?_)
                      rw [nI_clamp (n := e9) (by omega)] at hP
                      obtain ⟨A176, eA176⟩ : ∃ z, z = va_up A160 230 (upd (A160 230) (e9) (nI (t1 + 1))) := ⟨_, rfl⟩
                      obtain ⟨mem177, e_mem177⟩ : ∃ z, z = va_up mem165 230 (.inl (cy 1, 100, .inl (upd (A160 230) (e9) (nI (t1 + 1))))) := ⟨_, rfl⟩
                      have hP : va_P D vcl (fw n ad mem177) H := by rw [e_mem177]; exact hP
                      have hD : va_D (Az sz) (fw n ad mem177) := fw_D hD
                      have hW178 : MW cy ad J164 A176 nm m0 mem177 := by rw [e_mem177, eA176]; exact hW166.upA (j := 230) (by decide) (by decide) (by decide) (Or.inl (by decide))
                      have tT179 : A176 225 = T := by rw [eA176]; exact tT163
                      refine lv_goto Bx.1 Bx.2.1 d_Mo_numbers_197 rfl ?_
                      refine lv_aload_n Bx.1 Bx.2.1 d_Mo_numbers_116 rfl (lv_at hl 0 rfl) ?_
                      refine f_get Bx hP (by omega) hW178.1 rfl inMo 17 (by decide) kw_673 rfl rfl d_Mo_numbers_117 ?_
                      refine lv_if_ne Bx.1 Bx.2.1 d_Mo_numbers_120 rfl (fun hb180 => ?_) (fun hb180 => ?_)
                      · refine lv_aload_n Bx.1 Bx.2.1 d_Mo_numbers_200 rfl (lv_at hl 0 rfl) ?_
                        refine f_get Bx hP (by omega) hW178.1 rfl inMo 17 (by decide) kw_673 rfl rfl d_Mo_numbers_201 ?_
                        refine lv_if_ne Bx.1 Bx.2.1 d_Mo_numbers_204 rfl (fun hb181 => ?_) (fun hb181 => ?_)
                        · exact W.vret hx hb hr (fun t ht hW => ⟨⟨mem177, rfl, ⟨J164, A176, nm, hW178, Or.inl ⟨kk167, kk168, tT179, bd175, _, by omega, kk173⟩⟩, by show va_P _ _ _ t.heap; rw [ht]; exact hP⟩, hS.F ht⟩) hS.2.2 d_Mo_numbers_212
                        · exact absurd hb181 bd175.ne
                      · exact absurd hb180 bd175.ne
                    · refine f_iast (x := r140) (i := nI (u + t1)) Bx hP hD hS (by omega) (show mem141 234 = .inl (cy 1, 400, .inl (A9 234)) from hW144.2.2.1 234 (by decide) (by decide) (by decide)) (vp_in_nI (n := u + t1) (by omega) (by decide)) d_Mo_numbers_176 (fun H locs hP hS => ?_)
                      rw [nI_clamp (n := u + t1) (by omega)] at hP
                      obtain ⟨A182, eA182⟩ : ∃ z, z = va_up A9 234 (upd (A9 234) (u + t1) (r140)) := ⟨_, rfl⟩
                      obtain ⟨mem183, e_mem183⟩ : ∃ z, z = va_up mem141 234 (.inl (cy 1, 400, .inl (upd (A9 234) (u + t1) (r140)))) := ⟨_, rfl⟩
                      have hP : va_P D vcl (fw n ad mem183) H := by rw [e_mem183]; exact hP
                      have hD : va_D (Az sz) (fw n ad mem183) := fw_D hD
                      have hW184 : MW cy ad J142 A182 nm m0 mem183 := by rw [e_mem183, eA182]; exact hW144.upA (j := 234) (by decide) (by decide) (by decide) (Or.inl (by decide))
                      have tT185 : A182 225 = T := by rw [eA182]; exact tT100
                      refine lv_aload_n Bx.1 Bx.2.1 d_Mo_numbers_177 rfl (lv_at hl 0 rfl) ?_
                      refine lv_dup Bx.1 Bx.2.1 d_Mo_numbers_178 rfl ?_
                      refine f_get Bx hP (by omega) hW184.1 rfl inMo 14 (by decide) kw_670 rfl rfl d_Mo_numbers_179 ?_
                      rw [kk152]
                      refine lv_iconst (v := 1) Bx.1 Bx.2.1 d_Mo_numbers_182 (by decide) ?_
                      refine lv_iadd Bx.1 Bx.2.1 d_Mo_numbers_183 ?_
                      rw [show nI (u + t1) + 1 = nI (u + t1 + 1) from nI_add (u + t1) (1)]
                      refine f_put Bx hP hD hS (by omega) hW184.1 rfl inMo tyMo okMo nmMo 14 (by decide) kw_670 rfl rfl rfl rfl (Nat.le_of_ble_eq_true rfl) d_Mo_numbers_184 (fun H locs hP hS => ?_)
                      obtain ⟨J186, eJ186⟩ : ∃ z, z = va_up J142 14 (nI (u + t1 + 1)) := ⟨_, rfl⟩
                      obtain ⟨mem187, e_mem187⟩ : ∃ z, z = va_up mem183 224 (moC ad J186) := ⟨_, rfl⟩
                      have hP : va_P D vcl (fw n ad mem187) H := by rw [e_mem187, eJ186]; exact hP
                      have hD : va_D (Az sz) (fw n ad mem187) := fw_D hD
                      have hW188 : MW cy ad J186 A182 nm m0 mem187 := by rw [e_mem187]; exact hW184.upJ (by rw [eJ186]; exact va_up_ne _ _ (by decide))
                      have kk189 : J186 1 = nI L := by rw [eJ186]; exact kk150
                      have kk190 : J186 24 = nI G := by rw [eJ186]; exact kk151
                      have kk191 : J186 4 = nI R := by rw [eJ186]; exact kk153
                      have kk192 : J186 7 = nI (e9 + 1) := by rw [eJ186]; exact kk154
                      have kk193 : J186 18 = nI (f + 1) := by rw [eJ186]; exact kk155
                      have kk194 : J186 28 = 0 := by rw [eJ186]; exact kk156
                      have kk195 : J186 16 = nI a143 := by rw [eJ186]; exact kk147
                      have kk196 : J186 17 = 0 := by rw [eJ186]; exact kk158
                      have kk197 : J186 14 = nI (u + t1 + 1) := by rw [eJ186, va_up_self]
                      refine lv_aload_n Bx.1 Bx.2.1 d_Mo_numbers_187 rfl (lv_at hl 0 rfl) ?_
                      refine f_get Bx hP (by omega) hW188.1 rfl inMo 10 (by decide) kw_666 rfl rfl d_Mo_numbers_188 ?_
                      refine lv_iload_n Bx.1 Bx.2.1 d_Mo_numbers_191 rfl (lv_at hl 1 rfl) ?_
                      refine lv_dup2_11 Bx.1 Bx.2.1 d_Mo_numbers_192 rfl rfl ?_
                      refine f_iald Bx hP (by omega) (show mem187 230 = .inl (cy 1, 100, .inl (A182 230)) from hW188.2.2.1 230 (by decide) (by decide) (by decide)) (vp_in_nI (n := e9) (by omega) (by decide)) d_Mo_numbers_193 ?_
                      rw [nI_clamp (n := e9) (by omega)]
                      rw [show A182 230 (e9) = nI t1 by simp [eA182, va_up, r4]]
                      refine lv_iconst (v := 1) Bx.1 Bx.2.1 d_Mo_numbers_194 (by decide) ?_
                      refine lv_iadd Bx.1 Bx.2.1 d_Mo_numbers_195 ?_
                      rw [show nI t1 + 1 = nI (t1 + 1) from nI_add (t1) (1)]
                      refine f_iast (x := nI (t1 + 1)) (i := nI (e9)) Bx hP hD hS (by omega) (show mem187 230 = .inl (cy 1, 100, .inl (A182 230)) from hW188.2.2.1 230 (by decide) (by decide) (by decide)) (vp_in_nI (n := e9) (by omega) (by decide)) d_Mo_numbers_196 (fun H locs hP hS => ?_)
                      rw [nI_clamp (n := e9) (by omega)] at hP
                      obtain ⟨A198, eA198⟩ : ∃ z, z = va_up A182 230 (upd (A182 230) (e9) (nI (t1 + 1))) := ⟨_, rfl⟩
                      obtain ⟨mem199, e_mem199⟩ : ∃ z, z = va_up mem187 230 (.inl (cy 1, 100, .inl (upd (A182 230) (e9) (nI (t1 + 1))))) := ⟨_, rfl⟩
                      have hP : va_P D vcl (fw n ad mem199) H := by rw [e_mem199]; exact hP
                      have hD : va_D (Az sz) (fw n ad mem199) := fw_D hD
                      have hW200 : MW cy ad J186 A198 nm m0 mem199 := by rw [e_mem199, eA198]; exact hW188.upA (j := 230) (by decide) (by decide) (by decide) (Or.inl (by decide))
                      have tT201 : A198 225 = T := by rw [eA198]; exact tT185
                      refine lv_goto Bx.1 Bx.2.1 d_Mo_numbers_197 rfl ?_
                      have hrel : (∀ j, j ≠ 229 → j ≠ 230 → j ≠ 234 → A198 j = A j) ∧ (∀ i, i ≠ e9 → A198 229 i = A 229 i ∧ A198 230 i = A 230 i) ∧ A198 229 e9 = nI u ∧ A198 230 e9 = nI (t1 + 1) := ⟨fun j q9 q0 q4 => by simp [eA182, eA198, va_up, q9, q0, q4, r1], fun i hi => by simp [eA182, eA198, va_up, upd, hi, r2], by simp [eA182, eA198, va_up, upd, r3], by simp [eA182, eA198, va_up, upd]⟩
                      have hn14 : J186 14 = nI (u + (t1 + 1)) := kk197
                      exact ih90 mem199 (J186) (A198) (a143) (t1 + 1) _ _ _ (by have := hmeas91; omega) (⟨⟨kk189, kk190, kk195, kk196, hn14, kk191, kk192, kk193⟩, kk194⟩) (hW200) (hrel) (⟨by omega, by omega, by omega, by omega⟩) hP hD hS (lv_sub hl [0, 1, 2, 3] rfl)
        exact loop84 _ mem69 (J68) (A64) (a12) (1) _ _ _ (Nat.lt_succ_self _) (⟨⟨kk71, kk72, kk77, kk78, kk79, kk73, kk74, kk75⟩, kk76⟩) (hW70) (hrel) (⟨by omega, by omega, by omega, by omega⟩) hP hD hS (lv_sub hl [1, 2, 3, 4] rfl)
      · have hlt202 := hereF_lt (by rw [hb83]; decide)
        refine lv_aload_n Bx.1 Bx.2.1 d_Mo_numbers_62 rfl (lv_at hl 1 rfl) ?_
        refine lv_dup Bx.1 Bx.2.1 d_Mo_numbers_63 rfl ?_
        refine f_get Bx hP (by omega) hW70.1 rfl inMo 16 (by decide) kw_672 rfl rfl d_Mo_numbers_64 ?_
        rw [kk77]
        refine lv_iconst (v := 1) Bx.1 Bx.2.1 d_Mo_numbers_67 (by decide) ?_
        refine lv_iadd Bx.1 Bx.2.1 d_Mo_numbers_68 ?_
        rw [show nI a12 + 1 = nI (a12 + 1) from nI_add (a12) (1)]
        refine f_put Bx hP hD hS (by omega) hW70.1 rfl inMo tyMo okMo nmMo 16 (by decide) kw_672 rfl rfl rfl rfl (Nat.le_of_ble_eq_true rfl) d_Mo_numbers_69 (fun H locs hP hS => ?_)
        obtain ⟨J203, eJ203⟩ : ∃ z, z = va_up J68 16 (nI (a12 + 1)) := ⟨_, rfl⟩
        obtain ⟨mem204, e_mem204⟩ : ∃ z, z = va_up mem69 224 (moC ad J203) := ⟨_, rfl⟩
        have hP : va_P D vcl (fw n ad mem204) H := by rw [e_mem204, eJ203]; exact hP
        have hD : va_D (Az sz) (fw n ad mem204) := fw_D hD
        have hW205 : MW cy ad J203 A64 nm m0 mem204 := by rw [e_mem204]; exact hW70.upJ (by rw [eJ203]; exact va_up_ne _ _ (by decide))
        have kk206 : J203 1 = nI L := by rw [eJ203]; exact kk71
        have kk207 : J203 24 = nI G := by rw [eJ203]; exact kk72
        have kk208 : J203 4 = nI R := by rw [eJ203]; exact kk73
        have kk209 : J203 7 = nI (e9 + 1) := by rw [eJ203]; exact kk74
        have kk210 : J203 18 = nI (f + 1) := by rw [eJ203]; exact kk75
        have kk211 : J203 28 = 0 := by rw [eJ203]; exact kk76
        have kk212 : J203 17 = 0 := by rw [eJ203]; exact kk78
        have kk213 : J203 14 = nI (u + 1) := by rw [eJ203]; exact kk79
        have kk214 : J203 16 = nI (a12 + 1) := by rw [eJ203, va_up_self]
        refine lv_aload_n Bx.1 Bx.2.1 d_Mo_numbers_72 rfl (lv_at hl 1 rfl) ?_
        refine lv_iload_n Bx.1 Bx.2.1 d_Mo_numbers_73 rfl (lv_at hl 4 rfl) ?_
        refine lv_iload_n Bx.1 Bx.2.1 d_Mo_numbers_74 rfl (lv_at hl 3 rfl) ?_
        refine f_callVi (na := 2) (As := [.int (ba), .int (fro)]) (rest := []) Bx hml E hP hD hS (by omega) hW205.1 rfl (m_Mo_number l hn hW205 kk206 hL kk214 (by omega) kk212) kw_846 kw_848 sel_Mo_number kw_8 kw_849 (by decide +kernel) ⟨rfl, rfl⟩ ⟨Nat.le_of_ble_eq_true rfl, Nat.le_of_ble_eq_true rfl⟩ rfl hl.1 (Nat.le_of_ble_eq_true rfl) d_Mo_numbers_75 ⟨Nat.le_of_ble_eq_true rfl, Nat.le_of_ble_eq_true rfl⟩ (fun r215 mem216 H locs hq hP hS => ?_)
        have hD : va_D (Az sz) (fw n ad mem216) := fw_D hD
        obtain ⟨J217, a218, hW219, hg220, hg221, kk222, hfr223, hbd224⟩ := hq
        have kk225 : J217 1 = nI L := (show J217 1 = J203 1 from hfr223 1 (by decide) (by decide) (by decide)).trans kk206
        have kk226 : J217 24 = nI G := (show J217 24 = J203 24 from hfr223 24 (by decide) (by decide) (by decide)).trans kk207
        have kk227 : J217 4 = nI R := (show J217 4 = J203 4 from hfr223 4 (by decide) (by decide) (by decide)).trans kk208
        have kk228 : J217 7 = nI (e9 + 1) := (show J217 7 = J203 7 from hfr223 7 (by decide) (by decide) (by decide)).trans kk209
        have kk229 : J217 18 = nI (f + 1) := (show J217 18 = J203 18 from hfr223 18 (by decide) (by decide) (by decide)).trans kk210
        have kk230 : J217 28 = 0 := (show J217 28 = J203 28 from hfr223 28 (by decide) (by decide) (by decide)).trans kk211
        have kk231 : J217 14 = nI (u + 1) := (show J217 14 = J203 14 from hfr223 14 (by decide) (by decide) (by decide)).trans kk213
        rcases hbd224 with hbad232 | ⟨kk233, hlt234⟩
        · refine lv_istore (lv' := [(5, .int (r215)), (4, .int (r9)), (0, .ref (ad 224)), (1, .int (nI e9)), (2, .int (fro)), (3, .int (ba))]) Bx.1 Bx.2.1 d_Mo_numbers_78 hl (by decide) rfl (fun ls hl => ?_)
          refine lv_iload Bx.1 Bx.2.1 d_Mo_numbers_80 (lv_at hl 1 rfl) ?_
          refine lv_iload Bx.1 Bx.2.1 d_Mo_numbers_82 (lv_at hl 0 rfl) ?_
          refine lv_icmp_le Bx.1 Bx.2.1 d_Mo_numbers_84 rfl (fun hb235 => ?_) (fun hb235 => ?_)
          · refine lv_aload_n Bx.1 Bx.2.1 d_Mo_numbers_93 rfl (lv_at hl 2 rfl) ?_
            refine f_get Bx hP (by omega) hW219.1 rfl inMo 8 (by decide) kw_664 rfl rfl d_Mo_numbers_94 ?_
            refine lv_iload_n Bx.1 Bx.2.1 d_Mo_numbers_97 rfl (lv_at hl 3 rfl) ?_
            refine lv_iconst (v := 5) Bx.1 Bx.2.1 d_Mo_numbers_98 (by decide) ?_
            refine f_iast (x := 5) (i := nI (e9)) Bx hP hD hS (by omega) (show mem216 228 = .inl (cy 1, 100, .inl (A64 228)) from hW219.2.2.1 228 (by decide) (by decide) (by decide)) (vp_in_nI (n := e9) (by omega) (by decide)) d_Mo_numbers_99 (fun H locs hP hS => ?_)
            rw [nI_clamp (n := e9) (by omega)] at hP
            obtain ⟨A236, eA236⟩ : ∃ z, z = va_up A64 228 (upd (A64 228) (e9) (5)) := ⟨_, rfl⟩
            obtain ⟨mem237, e_mem237⟩ : ∃ z, z = va_up mem216 228 (.inl (cy 1, 100, .inl (upd (A64 228) (e9) (5)))) := ⟨_, rfl⟩
            have hP : va_P D vcl (fw n ad mem237) H := by rw [e_mem237]; exact hP
            have hD : va_D (Az sz) (fw n ad mem237) := fw_D hD
            have hW238 : MW cy ad J217 A236 nm m0 mem237 := by rw [e_mem237, eA236]; exact hW219.upA (j := 228) (by decide) (by decide) (by decide) (Or.inl (by decide))
            have tT239 : A236 225 = T := by rw [eA236]; exact tT67
            refine lv_aload_n Bx.1 Bx.2.1 d_Mo_numbers_100 rfl (lv_at hl 2 rfl) ?_
            refine f_get Bx hP (by omega) hW238.1 rfl inMo 9 (by decide) kw_665 rfl rfl d_Mo_numbers_101 ?_
            refine lv_iload_n Bx.1 Bx.2.1 d_Mo_numbers_104 rfl (lv_at hl 3 rfl) ?_
            refine lv_iload Bx.1 Bx.2.1 d_Mo_numbers_105 (lv_at hl 1 rfl) ?_
            refine f_iast (x := r9) (i := nI (e9)) Bx hP hD hS (by omega) (show mem237 229 = .inl (cy 1, 100, .inl (A236 229)) from hW238.2.2.1 229 (by decide) (by decide) (by decide)) (vp_in_nI (n := e9) (by omega) (by decide)) d_Mo_numbers_107 (fun H locs hP hS => ?_)
            rw [nI_clamp (n := e9) (by omega)] at hP
            obtain ⟨A240, eA240⟩ : ∃ z, z = va_up A236 229 (upd (A236 229) (e9) (r9)) := ⟨_, rfl⟩
            obtain ⟨mem241, e_mem241⟩ : ∃ z, z = va_up mem237 229 (.inl (cy 1, 100, .inl (upd (A236 229) (e9) (r9)))) := ⟨_, rfl⟩
            have hP : va_P D vcl (fw n ad mem241) H := by rw [e_mem241]; exact hP
            have hD : va_D (Az sz) (fw n ad mem241) := fw_D hD
            have hW242 : MW cy ad J217 A240 nm m0 mem241 := by rw [e_mem241, eA240]; exact hW238.upA (j := 229) (by decide) (by decide) (by decide) (Or.inl (by decide))
            have tT243 : A240 225 = T := by rw [eA240]; exact tT239
            refine lv_aload_n Bx.1 Bx.2.1 d_Mo_numbers_108 rfl (lv_at hl 2 rfl) ?_
            refine f_get Bx hP (by omega) hW242.1 rfl inMo 10 (by decide) kw_666 rfl rfl d_Mo_numbers_109 ?_
            refine lv_iload_n Bx.1 Bx.2.1 d_Mo_numbers_112 rfl (lv_at hl 3 rfl) ?_
            refine lv_iload Bx.1 Bx.2.1 d_Mo_numbers_113 (lv_at hl 0 rfl) ?_
            refine f_iast (x := r215) (i := nI (e9)) Bx hP hD hS (by omega) (show mem241 230 = .inl (cy 1, 100, .inl (A240 230)) from hW242.2.2.1 230 (by decide) (by decide) (by decide)) (vp_in_nI (n := e9) (by omega) (by decide)) d_Mo_numbers_115 (fun H locs hP hS => ?_)
            rw [nI_clamp (n := e9) (by omega)] at hP
            obtain ⟨A244, eA244⟩ : ∃ z, z = va_up A240 230 (upd (A240 230) (e9) (r215)) := ⟨_, rfl⟩
            obtain ⟨mem245, e_mem245⟩ : ∃ z, z = va_up mem241 230 (.inl (cy 1, 100, .inl (upd (A240 230) (e9) (r215)))) := ⟨_, rfl⟩
            have hP : va_P D vcl (fw n ad mem245) H := by rw [e_mem245]; exact hP
            have hD : va_D (Az sz) (fw n ad mem245) := fw_D hD
            have hW246 : MW cy ad J217 A244 nm m0 mem245 := by rw [e_mem245, eA244]; exact hW242.upA (j := 230) (by decide) (by decide) (by decide) (Or.inl (by decide))
            have tT247 : A244 225 = T := by rw [eA244]; exact tT243
            refine lv_aload_n Bx.1 Bx.2.1 d_Mo_numbers_116 rfl (lv_at hl 2 rfl) ?_
            refine f_get Bx hP (by omega) hW246.1 rfl inMo 17 (by decide) kw_673 rfl rfl d_Mo_numbers_117 ?_
            refine lv_if_ne Bx.1 Bx.2.1 d_Mo_numbers_120 rfl (fun hb248 => ?_) (fun hb248 => ?_)
            · refine lv_aload_n Bx.1 Bx.2.1 d_Mo_numbers_200 rfl (lv_at hl 2 rfl) ?_
              refine f_get Bx hP (by omega) hW246.1 rfl inMo 17 (by decide) kw_673 rfl rfl d_Mo_numbers_201 ?_
              refine lv_if_ne Bx.1 Bx.2.1 d_Mo_numbers_204 rfl (fun hb249 => ?_) (fun hb249 => ?_)
              · exact W.vret hx hb hr (fun t ht hW => ⟨⟨mem245, rfl, ⟨J217, A244, nm, hW246, Or.inl ⟨kk225, kk226, tT247, hbad232, _, by omega, kk222⟩⟩, by show va_P _ _ _ t.heap; rw [ht]; exact hP⟩, hS.F ht⟩) hS.2.2 d_Mo_numbers_212
              · exact absurd hb249 hbad232.ne
            · exact absurd hb248 hbad232.ne
          · refine lv_aload_n Bx.1 Bx.2.1 d_Mo_numbers_87 rfl (lv_at hl 2 rfl) ?_
            refine lv_iconst (v := 1) Bx.1 Bx.2.1 d_Mo_numbers_88 (by decide) ?_
            refine lv_iload_n Bx.1 Bx.2.1 d_Mo_numbers_89 rfl (lv_at hl 4 rfl) ?_
            refine f_callVv (na := 2) (As := [.int (1), .int (fro)]) (rest := []) Bx hml E hP hD hS (by omega) hW219.1 rfl (m_Mo_wrong l hn hW219 (Or.inr hbad232) (by first | exact Or.inl rfl | exact Or.inr rfl)) kw_799 kw_801 sel_Mo_wrong kw_8 kw_802 (by decide +kernel) ⟨rfl, rfl⟩ ⟨Nat.le_of_ble_eq_true rfl, Nat.le_of_ble_eq_true rfl⟩ rfl hl.1 (Nat.le_of_ble_eq_true rfl) d_Mo_numbers_90 ⟨Nat.le_of_ble_eq_true rfl, Nat.le_of_ble_eq_true rfl⟩ (fun mem251 H locs hq hP hS => ?_)
            have hD : va_D (Az sz) (fw n ad mem251) := fw_D hD
            obtain ⟨J252, hW253, hwr254⟩ := hq
            have kk255 : J252 1 = nI L := (show J252 1 = J217 1 from hwr254.2 1 (by decide) (by decide)).trans kk225
            have kk256 : J252 24 = nI G := (show J252 24 = J217 24 from hwr254.2 24 (by decide) (by decide)).trans kk226
            have kk257 : J252 4 = nI R := (show J252 4 = J217 4 from hwr254.2 4 (by decide) (by decide)).trans kk227
            have kk258 : J252 7 = nI (e9 + 1) := (show J252 7 = J217 7 from hwr254.2 7 (by decide) (by decide)).trans kk228
            have kk259 : J252 18 = nI (f + 1) := (show J252 18 = J217 18 from hwr254.2 18 (by decide) (by decide)).trans kk229
            have kk260 : J252 28 = 0 := (show J252 28 = J217 28 from hwr254.2 28 (by decide) (by decide)).trans kk230
            have kk261 : J252 14 = nI (u + 1) := (show J252 14 = J217 14 from hwr254.2 14 (by decide) (by decide)).trans kk231
            have kk262 : J252 16 = nI a218 := (show J252 16 = J217 16 from hwr254.2 16 (by decide) (by decide)).trans kk222
            refine lv_aload_n Bx.1 Bx.2.1 d_Mo_numbers_93 rfl (lv_at hl 2 rfl) ?_
            refine f_get Bx hP (by omega) hW253.1 rfl inMo 8 (by decide) kw_664 rfl rfl d_Mo_numbers_94 ?_
            refine lv_iload_n Bx.1 Bx.2.1 d_Mo_numbers_97 rfl (lv_at hl 3 rfl) ?_
            refine lv_iconst (v := 5) Bx.1 Bx.2.1 d_Mo_numbers_98 (by decide) ?_
            refine f_iast (x := 5) (i := nI (e9)) Bx hP hD hS (by omega) (show mem251 228 = .inl (cy 1, 100, .inl (A64 228)) from hW253.2.2.1 228 (by decide) (by decide) (by decide)) (vp_in_nI (n := e9) (by omega) (by decide)) d_Mo_numbers_99 (fun H locs hP hS => ?_)
            rw [nI_clamp (n := e9) (by omega)] at hP
            obtain ⟨A263, eA263⟩ : ∃ z, z = va_up A64 228 (upd (A64 228) (e9) (5)) := ⟨_, rfl⟩
            obtain ⟨mem264, e_mem264⟩ : ∃ z, z = va_up mem251 228 (.inl (cy 1, 100, .inl (upd (A64 228) (e9) (5)))) := ⟨_, rfl⟩
            have hP : va_P D vcl (fw n ad mem264) H := by rw [e_mem264]; exact hP
            have hD : va_D (Az sz) (fw n ad mem264) := fw_D hD
            have hW265 : MW cy ad J252 A263 nm m0 mem264 := by rw [e_mem264, eA263]; exact hW253.upA (j := 228) (by decide) (by decide) (by decide) (Or.inl (by decide))
            have tT266 : A263 225 = T := by rw [eA263]; exact tT67
            refine lv_aload_n Bx.1 Bx.2.1 d_Mo_numbers_100 rfl (lv_at hl 2 rfl) ?_
            refine f_get Bx hP (by omega) hW265.1 rfl inMo 9 (by decide) kw_665 rfl rfl d_Mo_numbers_101 ?_
            refine lv_iload_n Bx.1 Bx.2.1 d_Mo_numbers_104 rfl (lv_at hl 3 rfl) ?_
            refine lv_iload Bx.1 Bx.2.1 d_Mo_numbers_105 (lv_at hl 1 rfl) ?_
            refine f_iast (x := r9) (i := nI (e9)) Bx hP hD hS (by omega) (show mem264 229 = .inl (cy 1, 100, .inl (A263 229)) from hW265.2.2.1 229 (by decide) (by decide) (by decide)) (vp_in_nI (n := e9) (by omega) (by decide)) d_Mo_numbers_107 (fun H locs hP hS => ?_)
            rw [nI_clamp (n := e9) (by omega)] at hP
            obtain ⟨A267, eA267⟩ : ∃ z, z = va_up A263 229 (upd (A263 229) (e9) (r9)) := ⟨_, rfl⟩
            obtain ⟨mem268, e_mem268⟩ : ∃ z, z = va_up mem264 229 (.inl (cy 1, 100, .inl (upd (A263 229) (e9) (r9)))) := ⟨_, rfl⟩
            have hP : va_P D vcl (fw n ad mem268) H := by rw [e_mem268]; exact hP
            have hD : va_D (Az sz) (fw n ad mem268) := fw_D hD
            have hW269 : MW cy ad J252 A267 nm m0 mem268 := by rw [e_mem268, eA267]; exact hW265.upA (j := 229) (by decide) (by decide) (by decide) (Or.inl (by decide))
            have tT270 : A267 225 = T := by rw [eA267]; exact tT266
            refine lv_aload_n Bx.1 Bx.2.1 d_Mo_numbers_108 rfl (lv_at hl 2 rfl) ?_
            refine f_get Bx hP (by omega) hW269.1 rfl inMo 10 (by decide) kw_666 rfl rfl d_Mo_numbers_109 ?_
            refine lv_iload_n Bx.1 Bx.2.1 d_Mo_numbers_112 rfl (lv_at hl 3 rfl) ?_
            refine lv_iload Bx.1 Bx.2.1 d_Mo_numbers_113 (lv_at hl 0 rfl) ?_
            refine f_iast (x := r215) (i := nI (e9)) Bx hP hD hS (by omega) (show mem268 230 = .inl (cy 1, 100, .inl (A267 230)) from hW269.2.2.1 230 (by decide) (by decide) (by decide)) (vp_in_nI (n := e9) (by omega) (by decide)) d_Mo_numbers_115 (fun H locs hP hS => ?_)
            rw [nI_clamp (n := e9) (by omega)] at hP
            obtain ⟨A271, eA271⟩ : ∃ z, z = va_up A267 230 (upd (A267 230) (e9) (r215)) := ⟨_, rfl⟩
            obtain ⟨mem272, e_mem272⟩ : ∃ z, z = va_up mem268 230 (.inl (cy 1, 100, .inl (upd (A267 230) (e9) (r215)))) := ⟨_, rfl⟩
            have hP : va_P D vcl (fw n ad mem272) H := by rw [e_mem272]; exact hP
            have hD : va_D (Az sz) (fw n ad mem272) := fw_D hD
            have hW273 : MW cy ad J252 A271 nm m0 mem272 := by rw [e_mem272, eA271]; exact hW269.upA (j := 230) (by decide) (by decide) (by decide) (Or.inl (by decide))
            have tT274 : A271 225 = T := by rw [eA271]; exact tT270
            refine lv_aload_n Bx.1 Bx.2.1 d_Mo_numbers_116 rfl (lv_at hl 2 rfl) ?_
            refine f_get Bx hP (by omega) hW273.1 rfl inMo 17 (by decide) kw_673 rfl rfl d_Mo_numbers_117 ?_
            refine lv_if_ne Bx.1 Bx.2.1 d_Mo_numbers_120 rfl (fun hb275 => ?_) (fun hb275 => ?_)
            · refine lv_aload_n Bx.1 Bx.2.1 d_Mo_numbers_200 rfl (lv_at hl 2 rfl) ?_
              refine f_get Bx hP (by omega) hW273.1 rfl inMo 17 (by decide) kw_673 rfl rfl d_Mo_numbers_201 ?_
              refine lv_if_ne Bx.1 Bx.2.1 d_Mo_numbers_204 rfl (fun hb276 => ?_) (fun hb276 => ?_)
              · exact W.vret hx hb hr (fun t ht hW => ⟨⟨mem272, rfl, ⟨J252, A271, nm, hW273, Or.inl ⟨kk255, kk256, tT274, hwr254.1, _, by omega, kk262⟩⟩, by show va_P _ _ _ t.heap; rw [ht]; exact hP⟩, hS.F ht⟩) hS.2.2 d_Mo_numbers_212
              · exact absurd hb276 hwr254.1.ne
            · exact absurd hb275 hwr254.1.ne
        · refine lv_istore (lv' := [(5, .int (r215)), (4, .int (r9)), (0, .ref (ad 224)), (1, .int (nI e9)), (2, .int (fro)), (3, .int (ba))]) Bx.1 Bx.2.1 d_Mo_numbers_78 hl (by decide) rfl (fun ls hl => ?_)
          refine lv_iload Bx.1 Bx.2.1 d_Mo_numbers_80 (lv_at hl 1 rfl) ?_
          refine lv_iload Bx.1 Bx.2.1 d_Mo_numbers_82 (lv_at hl 0 rfl) ?_
          refine lv_icmp_le Bx.1 Bx.2.1 d_Mo_numbers_84 rfl (fun hb277 => ?_) (fun hb277 => ?_)
          · refine lv_aload_n Bx.1 Bx.2.1 d_Mo_numbers_93 rfl (lv_at hl 2 rfl) ?_
            refine f_get Bx hP (by omega) hW219.1 rfl inMo 8 (by decide) kw_664 rfl rfl d_Mo_numbers_94 ?_
            refine lv_iload_n Bx.1 Bx.2.1 d_Mo_numbers_97 rfl (lv_at hl 3 rfl) ?_
            refine lv_iconst (v := 5) Bx.1 Bx.2.1 d_Mo_numbers_98 (by decide) ?_
            refine f_iast (x := 5) (i := nI (e9)) Bx hP hD hS (by omega) (show mem216 228 = .inl (cy 1, 100, .inl (A64 228)) from hW219.2.2.1 228 (by decide) (by decide) (by decide)) (vp_in_nI (n := e9) (by omega) (by decide)) d_Mo_numbers_99 (fun H locs hP hS => ?_)
            rw [nI_clamp (n := e9) (by omega)] at hP
            obtain ⟨A278, eA278⟩ : ∃ z, z = va_up A64 228 (upd (A64 228) (e9) (5)) := ⟨_, rfl⟩
            obtain ⟨mem279, e_mem279⟩ : ∃ z, z = va_up mem216 228 (.inl (cy 1, 100, .inl (upd (A64 228) (e9) (5)))) := ⟨_, rfl⟩
            have hP : va_P D vcl (fw n ad mem279) H := by rw [e_mem279]; exact hP
            have hD : va_D (Az sz) (fw n ad mem279) := fw_D hD
            have hW280 : MW cy ad J217 A278 nm m0 mem279 := by rw [e_mem279, eA278]; exact hW219.upA (j := 228) (by decide) (by decide) (by decide) (Or.inl (by decide))
            have tT281 : A278 225 = T := by rw [eA278]; exact tT67
            refine lv_aload_n Bx.1 Bx.2.1 d_Mo_numbers_100 rfl (lv_at hl 2 rfl) ?_
            refine f_get Bx hP (by omega) hW280.1 rfl inMo 9 (by decide) kw_665 rfl rfl d_Mo_numbers_101 ?_
            refine lv_iload_n Bx.1 Bx.2.1 d_Mo_numbers_104 rfl (lv_at hl 3 rfl) ?_
            refine lv_iload Bx.1 Bx.2.1 d_Mo_numbers_105 (lv_at hl 1 rfl) ?_
            refine f_iast (x := r9) (i := nI (e9)) Bx hP hD hS (by omega) (show mem279 229 = .inl (cy 1, 100, .inl (A278 229)) from hW280.2.2.1 229 (by decide) (by decide) (by decide)) (vp_in_nI (n := e9) (by omega) (by decide)) d_Mo_numbers_107 (fun H locs hP hS => ?_)
            rw [nI_clamp (n := e9) (by omega)] at hP
            obtain ⟨A282, eA282⟩ : ∃ z, z = va_up A278 229 (upd (A278 229) (e9) (r9)) := ⟨_, rfl⟩
            obtain ⟨mem283, e_mem283⟩ : ∃ z, z = va_up mem279 229 (.inl (cy 1, 100, .inl (upd (A278 229) (e9) (r9)))) := ⟨_, rfl⟩
            have hP : va_P D vcl (fw n ad mem283) H := by rw [e_mem283]; exact hP
            have hD : va_D (Az sz) (fw n ad mem283) := fw_D hD
            have hW284 : MW cy ad J217 A282 nm m0 mem283 := by rw [e_mem283, eA282]; exact hW280.upA (j := 229) (by decide) (by decide) (by decide) (Or.inl (by decide))
            have tT285 : A282 225 = T := by rw [eA282]; exact tT281
            refine lv_aload_n Bx.1 Bx.2.1 d_Mo_numbers_108 rfl (lv_at hl 2 rfl) ?_
            refine f_get Bx hP (by omega) hW284.1 rfl inMo 10 (by decide) kw_666 rfl rfl d_Mo_numbers_109 ?_
            refine lv_iload_n Bx.1 Bx.2.1 d_Mo_numbers_112 rfl (lv_at hl 3 rfl) ?_
            refine lv_iload Bx.1 Bx.2.1 d_Mo_numbers_113 (lv_at hl 0 rfl) ?_
            refine f_iast (x := r215) (i := nI (e9)) Bx hP hD hS (by omega) (show mem283 230 = .inl (cy 1, 100, .inl (A282 230)) from hW284.2.2.1 230 (by decide) (by decide) (by decide)) (vp_in_nI (n := e9) (by omega) (by decide)) d_Mo_numbers_115 (fun H locs hP hS => ?_)
            rw [nI_clamp (n := e9) (by omega)] at hP
            obtain ⟨A286, eA286⟩ : ∃ z, z = va_up A282 230 (upd (A282 230) (e9) (r215)) := ⟨_, rfl⟩
            obtain ⟨mem287, e_mem287⟩ : ∃ z, z = va_up mem283 230 (.inl (cy 1, 100, .inl (upd (A282 230) (e9) (r215)))) := ⟨_, rfl⟩
            have hP : va_P D vcl (fw n ad mem287) H := by rw [e_mem287]; exact hP
            have hD : va_D (Az sz) (fw n ad mem287) := fw_D hD
            have hW288 : MW cy ad J217 A286 nm m0 mem287 := by rw [e_mem287, eA286]; exact hW284.upA (j := 230) (by decide) (by decide) (by decide) (Or.inl (by decide))
            have tT289 : A286 225 = T := by rw [eA286]; exact tT285
            refine lv_aload_n Bx.1 Bx.2.1 d_Mo_numbers_116 rfl (lv_at hl 2 rfl) ?_
            refine f_get Bx hP (by omega) hW288.1 rfl inMo 17 (by decide) kw_673 rfl rfl d_Mo_numbers_117 ?_
            rw [kk233]
            refine lv_if_ne Bx.1 Bx.2.1 d_Mo_numbers_120 rfl (fun hb290 => ?_) (fun hb290 => ?_)
            · exact absurd hb290 (by decide)
            · refine lv_aload_n Bx.1 Bx.2.1 d_Mo_numbers_123 rfl (lv_at hl 2 rfl) ?_
              refine f_get Bx hP (by omega) hW288.1 rfl inMo 8 (by decide) kw_664 rfl rfl d_Mo_numbers_124 ?_
              refine lv_iload_n Bx.1 Bx.2.1 d_Mo_numbers_127 rfl (lv_at hl 3 rfl) ?_
              refine f_iald Bx hP (by omega) (show mem287 228 = .inl (cy 1, 100, .inl (A286 228)) from hW288.2.2.1 228 (by decide) (by decide) (by decide)) (vp_in_nI (n := e9) (by omega) (by decide)) d_Mo_numbers_128 ?_
              rw [nI_clamp (n := e9) (by omega)]
              rw [show A286 228 (e9) = 5 by simp [eA56, eA60, eA64, eA278, eA282, eA286, va_up, upd]]
              refine lv_iconst (v := 4) Bx.1 Bx.2.1 d_Mo_numbers_129 (by decide) ?_
              refine lv_icmp_ne Bx.1 Bx.2.1 d_Mo_numbers_130 rfl (fun hb291 => ?_) (fun hb291 => ?_)
              · refine lv_aload_n Bx.1 Bx.2.1 d_Mo_numbers_200 rfl (lv_at hl 2 rfl) ?_
                refine f_get Bx hP (by omega) hW288.1 rfl inMo 17 (by decide) kw_673 rfl rfl d_Mo_numbers_201 ?_
                rw [kk233]
                refine lv_if_ne Bx.1 Bx.2.1 d_Mo_numbers_204 rfl (fun hb292 => ?_) (fun hb292 => ?_)
                · exact absurd hb292 (by decide)
                · refine lv_aload_n Bx.1 Bx.2.1 d_Mo_numbers_207 rfl (lv_at hl 2 rfl) ?_
                  refine lv_iload_n Bx.1 Bx.2.1 d_Mo_numbers_208 rfl (lv_at hl 3 rfl) ?_
                  have hno := hI.note (A' := A286) (e := e9) (u' := u + 1) (by omega) (fun j q8 q9 q0 q1 q4 => by simp [eA56, eA60, eA64, eA278, eA282, eA286, va_up, q8, q9, q0, q4]) (fun i hi => by simp [eA56, eA60, eA64, eA278, eA282, eA286, va_up, upd, hi]) (Or.inr (by simp [eA56, eA60, eA64, eA278, eA282, eA286, va_up, upd])) (by simp [eA56, eA60, eA64, eA278, eA282, eA286, va_up, upd, h4]) (fun z => absurd z (by simp [eA56, eA60, eA64, eA278, eA282, eA286, va_up, upd]))
                  have hrr2 : A286 239 f = -1 ∨ ∃ r, A286 239 f = nI r ∧ fs f < r ∧ r < e9 := by simp only [eA56, eA60, eA64, eA278, eA282, eA286, va_up]; exact hrr
                  have hC2 : CL e9 A286 := fun i hi => by simp only [eA56, eA60, eA64, eA278, eA282, eA286, va_up]; exact hC i hi
                  refine f_callVv (na := 1) (As := [.int (nI e9)]) (rest := []) Bx hml E hP hD hS (by omega) hW288.1 rfl (m_Mo_placed l hn hW288 kk229 (by omega) (by omega) hno (by omega) hse hrr2 hC2) kw_834 kw_836 sel_Mo_placed kw_8 kw_837 (by decide +kernel) ⟨rfl, rfl⟩ ⟨Nat.le_of_ble_eq_true rfl, Nat.le_of_ble_eq_true rfl⟩ rfl hl.1 (Nat.le_of_ble_eq_true rfl) d_Mo_numbers_209 ⟨Nat.le_of_ble_eq_true rfl, Nat.le_of_ble_eq_true rfl⟩ (fun mem294 H locs hq hP hS => ?_)
                  have hD : va_D (Az sz) (fw n ad mem294) := fw_D hD
                  obtain ⟨A295, hW296, hinv297, h39298, hj299⟩ := hq
                  have tT300 : A295 225 = T := (hj299 225 (by decide) (by decide) (by decide)).trans tT289
                  exact W.vret hx hb hr (fun t ht hW => ⟨⟨mem294, rfl, ⟨J217, A295, nm, hW296, Or.inr ⟨a218, by omega, u + 1, R, e9 + 1, f, fc, fs, ft, ⟨kk225, kk226, kk222, kk233, kk231, kk227, kk228, kk229⟩, ⟨by omega, by omega, by omega, by omega, by omega, by omega⟩, tT300, Or.inl kk230, hinv297.qT, h39298⟩⟩, by show va_P _ _ _ t.heap; rw [ht]; exact hP⟩, hS.F ht⟩) hS.2.2 d_Mo_numbers_212
              · exact absurd hb291 (by decide)
          · refine lv_aload_n Bx.1 Bx.2.1 d_Mo_numbers_87 rfl (lv_at hl 2 rfl) ?_
            refine lv_iconst (v := 1) Bx.1 Bx.2.1 d_Mo_numbers_88 (by decide) ?_
            refine lv_iload_n Bx.1 Bx.2.1 d_Mo_numbers_89 rfl (lv_at hl 4 rfl) ?_
            refine f_callVv (na := 2) (As := [.int (1), .int (fro)]) (rest := []) Bx hml E hP hD hS (by omega) hW219.1 rfl (m_Mo_wrong l hn hW219 (Or.inl kk233) (by first | exact Or.inl rfl | exact Or.inr rfl)) kw_799 kw_801 sel_Mo_wrong kw_8 kw_802 (by decide +kernel) ⟨rfl, rfl⟩ ⟨Nat.le_of_ble_eq_true rfl, Nat.le_of_ble_eq_true rfl⟩ rfl hl.1 (Nat.le_of_ble_eq_true rfl) d_Mo_numbers_90 ⟨Nat.le_of_ble_eq_true rfl, Nat.le_of_ble_eq_true rfl⟩ (fun mem302 H locs hq hP hS => ?_)
            have hD : va_D (Az sz) (fw n ad mem302) := fw_D hD
            obtain ⟨J303, hW304, hwr305⟩ := hq
            have kk306 : J303 1 = nI L := (show J303 1 = J217 1 from hwr305.2 1 (by decide) (by decide)).trans kk225
            have kk307 : J303 24 = nI G := (show J303 24 = J217 24 from hwr305.2 24 (by decide) (by decide)).trans kk226
            have kk308 : J303 4 = nI R := (show J303 4 = J217 4 from hwr305.2 4 (by decide) (by decide)).trans kk227
            have kk309 : J303 7 = nI (e9 + 1) := (show J303 7 = J217 7 from hwr305.2 7 (by decide) (by decide)).trans kk228
            have kk310 : J303 18 = nI (f + 1) := (show J303 18 = J217 18 from hwr305.2 18 (by decide) (by decide)).trans kk229
            have kk311 : J303 28 = 0 := (show J303 28 = J217 28 from hwr305.2 28 (by decide) (by decide)).trans kk230
            have kk312 : J303 14 = nI (u + 1) := (show J303 14 = J217 14 from hwr305.2 14 (by decide) (by decide)).trans kk231
            have kk313 : J303 16 = nI a218 := (show J303 16 = J217 16 from hwr305.2 16 (by decide) (by decide)).trans kk222
            refine lv_aload_n Bx.1 Bx.2.1 d_Mo_numbers_93 rfl (lv_at hl 2 rfl) ?_
            refine f_get Bx hP (by omega) hW304.1 rfl inMo 8 (by decide) kw_664 rfl rfl d_Mo_numbers_94 ?_
            refine lv_iload_n Bx.1 Bx.2.1 d_Mo_numbers_97 rfl (lv_at hl 3 rfl) ?_
            refine lv_iconst (v := 5) Bx.1 Bx.2.1 d_Mo_numbers_98 (by decide) ?_
            refine f_iast (x := 5) (i := nI (e9)) Bx hP hD hS (by omega) (show mem302 228 = .inl (cy 1, 100, .inl (A64 228)) from hW304.2.2.1 228 (by decide) (by decide) (by decide)) (vp_in_nI (n := e9) (by omega) (by decide)) d_Mo_numbers_99 (fun H locs hP hS => ?_)
            rw [nI_clamp (n := e9) (by omega)] at hP
            obtain ⟨A314, eA314⟩ : ∃ z, z = va_up A64 228 (upd (A64 228) (e9) (5)) := ⟨_, rfl⟩
            obtain ⟨mem315, e_mem315⟩ : ∃ z, z = va_up mem302 228 (.inl (cy 1, 100, .inl (upd (A64 228) (e9) (5)))) := ⟨_, rfl⟩
            have hP : va_P D vcl (fw n ad mem315) H := by rw [e_mem315]; exact hP
            have hD : va_D (Az sz) (fw n ad mem315) := fw_D hD
            have hW316 : MW cy ad J303 A314 nm m0 mem315 := by rw [e_mem315, eA314]; exact hW304.upA (j := 228) (by decide) (by decide) (by decide) (Or.inl (by decide))
            have tT317 : A314 225 = T := by rw [eA314]; exact tT67
            refine lv_aload_n Bx.1 Bx.2.1 d_Mo_numbers_100 rfl (lv_at hl 2 rfl) ?_
            refine f_get Bx hP (by omega) hW316.1 rfl inMo 9 (by decide) kw_665 rfl rfl d_Mo_numbers_101 ?_
            refine lv_iload_n Bx.1 Bx.2.1 d_Mo_numbers_104 rfl (lv_at hl 3 rfl) ?_
            refine lv_iload Bx.1 Bx.2.1 d_Mo_numbers_105 (lv_at hl 1 rfl) ?_
            refine f_iast (x := r9) (i := nI (e9)) Bx hP hD hS (by omega) (show mem315 229 = .inl (cy 1, 100, .inl (A314 229)) from hW316.2.2.1 229 (by decide) (by decide) (by decide)) (vp_in_nI (n := e9) (by omega) (by decide)) d_Mo_numbers_107 (fun H locs hP hS => ?_)
            rw [nI_clamp (n := e9) (by omega)] at hP
            obtain ⟨A318, eA318⟩ : ∃ z, z = va_up A314 229 (upd (A314 229) (e9) (r9)) := ⟨_, rfl⟩
            obtain ⟨mem319, e_mem319⟩ : ∃ z, z = va_up mem315 229 (.inl (cy 1, 100, .inl (upd (A314 229) (e9) (r9)))) := ⟨_, rfl⟩
            have hP : va_P D vcl (fw n ad mem319) H := by rw [e_mem319]; exact hP
            have hD : va_D (Az sz) (fw n ad mem319) := fw_D hD
            have hW320 : MW cy ad J303 A318 nm m0 mem319 := by rw [e_mem319, eA318]; exact hW316.upA (j := 229) (by decide) (by decide) (by decide) (Or.inl (by decide))
            have tT321 : A318 225 = T := by rw [eA318]; exact tT317
            refine lv_aload_n Bx.1 Bx.2.1 d_Mo_numbers_108 rfl (lv_at hl 2 rfl) ?_
            refine f_get Bx hP (by omega) hW320.1 rfl inMo 10 (by decide) kw_666 rfl rfl d_Mo_numbers_109 ?_
            refine lv_iload_n Bx.1 Bx.2.1 d_Mo_numbers_112 rfl (lv_at hl 3 rfl) ?_
            refine lv_iload Bx.1 Bx.2.1 d_Mo_numbers_113 (lv_at hl 0 rfl) ?_
            refine f_iast (x := r215) (i := nI (e9)) Bx hP hD hS (by omega) (show mem319 230 = .inl (cy 1, 100, .inl (A318 230)) from hW320.2.2.1 230 (by decide) (by decide) (by decide)) (vp_in_nI (n := e9) (by omega) (by decide)) d_Mo_numbers_115 (fun H locs hP hS => ?_)
            rw [nI_clamp (n := e9) (by omega)] at hP
            obtain ⟨A322, eA322⟩ : ∃ z, z = va_up A318 230 (upd (A318 230) (e9) (r215)) := ⟨_, rfl⟩
            obtain ⟨mem323, e_mem323⟩ : ∃ z, z = va_up mem319 230 (.inl (cy 1, 100, .inl (upd (A318 230) (e9) (r215)))) := ⟨_, rfl⟩
            have hP : va_P D vcl (fw n ad mem323) H := by rw [e_mem323]; exact hP
            have hD : va_D (Az sz) (fw n ad mem323) := fw_D hD
            have hW324 : MW cy ad J303 A322 nm m0 mem323 := by rw [e_mem323, eA322]; exact hW320.upA (j := 230) (by decide) (by decide) (by decide) (Or.inl (by decide))
            have tT325 : A322 225 = T := by rw [eA322]; exact tT321
            refine lv_aload_n Bx.1 Bx.2.1 d_Mo_numbers_116 rfl (lv_at hl 2 rfl) ?_
            refine f_get Bx hP (by omega) hW324.1 rfl inMo 17 (by decide) kw_673 rfl rfl d_Mo_numbers_117 ?_
            refine lv_if_ne Bx.1 Bx.2.1 d_Mo_numbers_120 rfl (fun hb326 => ?_) (fun hb326 => ?_)
            · refine lv_aload_n Bx.1 Bx.2.1 d_Mo_numbers_200 rfl (lv_at hl 2 rfl) ?_
              refine f_get Bx hP (by omega) hW324.1 rfl inMo 17 (by decide) kw_673 rfl rfl d_Mo_numbers_201 ?_
              refine lv_if_ne Bx.1 Bx.2.1 d_Mo_numbers_204 rfl (fun hb327 => ?_) (fun hb327 => ?_)
              · exact W.vret hx hb hr (fun t ht hW => ⟨⟨mem323, rfl, ⟨J303, A322, nm, hW324, Or.inl ⟨kk306, kk307, tT325, hwr305.1, _, by omega, kk313⟩⟩, by show va_P _ _ _ t.heap; rw [ht]; exact hP⟩, hS.F ht⟩) hS.2.2 d_Mo_numbers_212
              · exact absurd hb327 hwr305.1.ne
            · exact absurd hb326 hwr305.1.ne
