theorem d_Rd_readName_0 : decode c_Rd_readName 0 = .ok (.aload_n 0, 1) := by decide +kernel
theorem d_Rd_readName_1 : decode c_Rd_readName 1 = .ok (.getfield 19, 3) := by decide +kernel
theorem d_Rd_readName_4 : decode c_Rd_readName 4 = .ok (.istore_n 1, 1) := by decide +kernel
theorem d_Rd_readName_5 : decode c_Rd_readName 5 = .ok (.lconst 0, 1) := by decide +kernel
theorem d_Rd_readName_6 : decode c_Rd_readName 6 = .ok (.lstore_n 2, 1) := by decide +kernel
theorem d_Rd_readName_7 : decode c_Rd_readName 7 = .ok (.aload_n 0, 1) := by decide +kernel
theorem d_Rd_readName_8 : decode c_Rd_readName 8 = .ok (.aload_n 0, 1) := by decide +kernel
theorem d_Rd_readName_9 : decode c_Rd_readName 9 = .ok (.invokevirtual 54, 3) := by decide +kernel
theorem d_Rd_readName_12 : decode c_Rd_readName 12 = .ok (.invokestatic 175, 3) := by decide +kernel
theorem d_Rd_readName_15 : decode c_Rd_readName 15 = .ok (.aload_n 0, 1) := by decide +kernel
theorem d_Rd_readName_16 : decode c_Rd_readName 16 = .ok (.getfield 19, 3) := by decide +kernel
theorem d_Rd_readName_19 : decode c_Rd_readName 19 = .ok (.invokevirtual 58, 3) := by decide +kernel
theorem d_Rd_readName_22 : decode c_Rd_readName 22 = .ok (.iconst 0, 1) := by decide +kernel
theorem d_Rd_readName_23 : decode c_Rd_readName 23 = .ok (.istore 4, 2) := by decide +kernel
theorem d_Rd_readName_25 : decode c_Rd_readName 25 = .ok (.iload 4, 2) := by decide +kernel
theorem d_Rd_readName_27 : decode c_Rd_readName 27 = .ok (.bipush 6, 2) := by decide +kernel
theorem d_Rd_readName_29 : decode c_Rd_readName 29 = .ok (.if_icmp .ge 46, 3) := by decide +kernel
theorem d_Rd_readName_32 : decode c_Rd_readName 32 = .ok (.aload_n 0, 1) := by decide +kernel
theorem d_Rd_readName_33 : decode c_Rd_readName 33 = .ok (.invokevirtual 54, 3) := by decide +kernel
theorem d_Rd_readName_36 : decode c_Rd_readName 36 = .ok (.invokestatic 178, 3) := by decide +kernel
theorem d_Rd_readName_39 : decode c_Rd_readName 39 = .ok (.ifCond .eq 36, 3) := by decide +kernel
theorem d_Rd_readName_42 : decode c_Rd_readName 42 = .ok (.lload_n 2, 1) := by decide +kernel
theorem d_Rd_readName_43 : decode c_Rd_readName 43 = .ok (.aload_n 0, 1) := by decide +kernel
theorem d_Rd_readName_44 : decode c_Rd_readName 44 = .ok (.invokevirtual 54, 3) := by decide +kernel
theorem d_Rd_readName_47 : decode c_Rd_readName 47 = .ok (.invokestatic 135, 3) := by decide +kernel
theorem d_Rd_readName_50 : decode c_Rd_readName 50 = .ok (.i2l, 1) := by decide +kernel
theorem d_Rd_readName_51 : decode c_Rd_readName 51 = .ok (.bipush 8, 2) := by decide +kernel
theorem d_Rd_readName_53 : decode c_Rd_readName 53 = .ok (.iload 4, 2) := by decide +kernel
theorem d_Rd_readName_55 : decode c_Rd_readName 55 = .ok (.imul, 1) := by decide +kernel
theorem d_Rd_readName_56 : decode c_Rd_readName 56 = .ok (.lshl, 1) := by decide +kernel
theorem d_Rd_readName_57 : decode c_Rd_readName 57 = .ok (.lor, 1) := by decide +kernel
theorem d_Rd_readName_58 : decode c_Rd_readName 58 = .ok (.lstore_n 2, 1) := by decide +kernel
theorem d_Rd_readName_59 : decode c_Rd_readName 59 = .ok (.aload_n 0, 1) := by decide +kernel
theorem d_Rd_readName_60 : decode c_Rd_readName 60 = .ok (.dup, 1) := by decide +kernel
theorem d_Rd_readName_61 : decode c_Rd_readName 61 = .ok (.getfield 19, 3) := by decide +kernel
theorem d_Rd_readName_64 : decode c_Rd_readName 64 = .ok (.iconst 1, 1) := by decide +kernel
theorem d_Rd_readName_65 : decode c_Rd_readName 65 = .ok (.iadd, 1) := by decide +kernel
theorem d_Rd_readName_66 : decode c_Rd_readName 66 = .ok (.putfield 19, 3) := by decide +kernel
theorem d_Rd_readName_69 : decode c_Rd_readName 69 = .ok (.iinc 4 1, 3) := by decide +kernel
theorem d_Rd_readName_72 : decode c_Rd_readName 72 = .ok (.goto (-47), 3) := by decide +kernel
theorem d_Rd_readName_75 : decode c_Rd_readName 75 = .ok (.aload_n 0, 1) := by decide +kernel
theorem d_Rd_readName_76 : decode c_Rd_readName 76 = .ok (.getfield 15, 3) := by decide +kernel
theorem d_Rd_readName_79 : decode c_Rd_readName 79 = .ok (.lload_n 2, 1) := by decide +kernel
theorem d_Rd_readName_80 : decode c_Rd_readName 80 = .ok (.invokevirtual 181, 3) := by decide +kernel
theorem d_Rd_readName_83 : decode c_Rd_readName 83 = .ok (.istore 4, 2) := by decide +kernel
theorem d_Rd_readName_85 : decode c_Rd_readName 85 = .ok (.iload 4, 2) := by decide +kernel
theorem d_Rd_readName_87 : decode c_Rd_readName 87 = .ok (.iconst (-1), 1) := by decide +kernel
theorem d_Rd_readName_88 : decode c_Rd_readName 88 = .ok (.if_icmp .eq 14, 3) := by decide +kernel
theorem d_Rd_readName_91 : decode c_Rd_readName 91 = .ok (.aload_n 0, 1) := by decide +kernel
theorem d_Rd_readName_92 : decode c_Rd_readName 92 = .ok (.getfield 15, 3) := by decide +kernel
theorem d_Rd_readName_95 : decode c_Rd_readName 95 = .ok (.getfield 185, 3) := by decide +kernel
theorem d_Rd_readName_98 : decode c_Rd_readName 98 = .ok (.iload 4, 2) := by decide +kernel
theorem d_Rd_readName_100 : decode c_Rd_readName 100 = .ok (.aaload, 1) := by decide +kernel
theorem d_Rd_readName_101 : decode c_Rd_readName 101 = .ok (.areturn, 1) := by decide +kernel
theorem d_Rd_readName_102 : decode c_Rd_readName 102 = .ok (.aload_n 0, 1) := by decide +kernel
theorem d_Rd_readName_103 : decode c_Rd_readName 103 = .ok (.aload_n 0, 1) := by decide +kernel
theorem d_Rd_readName_104 : decode c_Rd_readName 104 = .ok (.getfield 15, 3) := by decide +kernel
theorem d_Rd_readName_107 : decode c_Rd_readName 107 = .ok (.invokevirtual 189, 3) := by decide +kernel
theorem d_Rd_readName_110 : decode c_Rd_readName 110 = .ok (.iload_n 1, 1) := by decide +kernel
theorem d_Rd_readName_111 : decode c_Rd_readName 111 = .ok (.invokevirtual 148, 3) := by decide +kernel
theorem d_Rd_readName_114 : decode c_Rd_readName 114 = .ok (.aload_n 0, 1) := by decide +kernel
theorem d_Rd_readName_115 : decode c_Rd_readName 115 = .ok (.getfield 15, 3) := by decide +kernel
theorem d_Rd_readName_118 : decode c_Rd_readName 118 = .ok (.lload_n 2, 1) := by decide +kernel
theorem d_Rd_readName_119 : decode c_Rd_readName 119 = .ok (.invokevirtual 192, 3) := by decide +kernel
theorem d_Rd_readName_122 : decode c_Rd_readName 122 = .ok (.areturn, 1) := by decide +kernel
theorem d_Rd_readAskedName_0 : decode c_Rd_readAskedName 0 = .ok (.aload_n 0, 1) := by decide +kernel
theorem d_Rd_readAskedName_1 : decode c_Rd_readAskedName 1 = .ok (.getfield 19, 3) := by decide +kernel
theorem d_Rd_readAskedName_4 : decode c_Rd_readAskedName 4 = .ok (.istore_n 1, 1) := by decide +kernel
theorem d_Rd_readAskedName_5 : decode c_Rd_readAskedName 5 = .ok (.aload_n 0, 1) := by decide +kernel
theorem d_Rd_readAskedName_6 : decode c_Rd_readAskedName 6 = .ok (.invokevirtual 46, 3) := by decide +kernel
theorem d_Rd_readAskedName_9 : decode c_Rd_readAskedName 9 = .ok (.astore_n 2, 1) := by decide +kernel
theorem d_Rd_readAskedName_10 : decode c_Rd_readAskedName 10 = .ok (.aload_n 0, 1) := by decide +kernel
theorem d_Rd_readAskedName_11 : decode c_Rd_readAskedName 11 = .ok (.iconst 4, 1) := by decide +kernel
theorem d_Rd_readAskedName_12 : decode c_Rd_readAskedName 12 = .ok (.iload_n 1, 1) := by decide +kernel
theorem d_Rd_readAskedName_13 : decode c_Rd_readAskedName 13 = .ok (.invokevirtual 97, 3) := by decide +kernel
theorem d_Rd_readAskedName_16 : decode c_Rd_readAskedName 16 = .ok (.astore_n 3, 1) := by decide +kernel
theorem d_Rd_readAskedName_17 : decode c_Rd_readAskedName 17 = .ok (.aload_n 3, 1) := by decide +kernel
theorem d_Rd_readAskedName_18 : decode c_Rd_readAskedName 18 = .ok (.aload_n 2, 1) := by decide +kernel
theorem d_Rd_readAskedName_19 : decode c_Rd_readAskedName 19 = .ok (.putfield 151, 3) := by decide +kernel
theorem d_Rd_readAskedName_22 : decode c_Rd_readAskedName 22 = .ok (.aload_n 3, 1) := by decide +kernel
theorem d_Rd_readAskedName_23 : decode c_Rd_readAskedName 23 = .ok (.areturn, 1) := by decide +kernel
theorem d_Rd_readNumber_0 : decode c_Rd_readNumber 0 = .ok (.iload_n 2, 1) := by decide +kernel
theorem d_Rd_readNumber_1 : decode c_Rd_readNumber 1 = .ok (.bipush 10, 2) := by decide +kernel
theorem d_Rd_readNumber_3 : decode c_Rd_readNumber 3 = .ok (.if_icmp .ne 7, 3) := by decide +kernel
theorem d_Rd_readNumber_6 : decode c_Rd_readNumber 6 = .ok (.iconst 3, 1) := by decide +kernel
theorem d_Rd_readNumber_7 : decode c_Rd_readNumber 7 = .ok (.goto 4, 3) := by decide +kernel
theorem d_Rd_readNumber_10 : decode c_Rd_readNumber 10 = .ok (.iconst 2, 1) := by decide +kernel
theorem d_Rd_readNumber_11 : decode c_Rd_readNumber 11 = .ok (.istore_n 3, 1) := by decide +kernel
theorem d_Rd_readNumber_12 : decode c_Rd_readNumber 12 = .ok (.iconst 0, 1) := by decide +kernel
theorem d_Rd_readNumber_13 : decode c_Rd_readNumber 13 = .ok (.istore 4, 2) := by decide +kernel
theorem d_Rd_readNumber_15 : decode c_Rd_readNumber 15 = .ok (.aload_n 0, 1) := by decide +kernel
theorem d_Rd_readNumber_16 : decode c_Rd_readNumber 16 = .ok (.aload_n 0, 1) := by decide +kernel
theorem d_Rd_readNumber_17 : decode c_Rd_readNumber 17 = .ok (.invokevirtual 54, 3) := by decide +kernel
theorem d_Rd_readNumber_20 : decode c_Rd_readNumber 20 = .ok (.iload_n 2, 1) := by decide +kernel
theorem d_Rd_readNumber_21 : decode c_Rd_readNumber 21 = .ok (.invokestatic 172, 3) := by decide +kernel
theorem d_Rd_readNumber_24 : decode c_Rd_readNumber 24 = .ok (.iconst (-1), 1) := by decide +kernel
theorem d_Rd_readNumber_25 : decode c_Rd_readNumber 25 = .ok (.if_icmp .eq 7, 3) := by decide +kernel
theorem d_Rd_readNumber_28 : decode c_Rd_readNumber 28 = .ok (.iconst 1, 1) := by decide +kernel
theorem d_Rd_readNumber_29 : decode c_Rd_readNumber 29 = .ok (.goto 4, 3) := by decide +kernel
theorem d_Rd_readNumber_32 : decode c_Rd_readNumber 32 = .ok (.iconst 0, 1) := by decide +kernel
theorem d_Rd_readNumber_33 : decode c_Rd_readNumber 33 = .ok (.aload_n 0, 1) := by decide +kernel
theorem d_Rd_readNumber_34 : decode c_Rd_readNumber 34 = .ok (.getfield 19, 3) := by decide +kernel
theorem d_Rd_readNumber_37 : decode c_Rd_readNumber 37 = .ok (.invokevirtual 58, 3) := by decide +kernel
theorem d_Rd_readNumber_40 : decode c_Rd_readNumber 40 = .ok (.iconst 0, 1) := by decide +kernel
theorem d_Rd_readNumber_41 : decode c_Rd_readNumber 41 = .ok (.istore 5, 2) := by decide +kernel
theorem d_Rd_readNumber_43 : decode c_Rd_readNumber 43 = .ok (.iload 5, 2) := by decide +kernel
theorem d_Rd_readNumber_45 : decode c_Rd_readNumber 45 = .ok (.iload_n 3, 1) := by decide +kernel
theorem d_Rd_readNumber_46 : decode c_Rd_readNumber 46 = .ok (.if_icmp .ge 46, 3) := by decide +kernel
theorem d_Rd_readNumber_49 : decode c_Rd_readNumber 49 = .ok (.aload_n 0, 1) := by decide +kernel
theorem d_Rd_readNumber_50 : decode c_Rd_readNumber 50 = .ok (.invokevirtual 54, 3) := by decide +kernel
theorem d_Rd_readNumber_53 : decode c_Rd_readNumber 53 = .ok (.iload_n 2, 1) := by decide +kernel
theorem d_Rd_readNumber_54 : decode c_Rd_readNumber 54 = .ok (.invokestatic 172, 3) := by decide +kernel
theorem d_Rd_readNumber_57 : decode c_Rd_readNumber 57 = .ok (.iconst (-1), 1) := by decide +kernel
theorem d_Rd_readNumber_58 : decode c_Rd_readNumber 58 = .ok (.if_icmp .eq 34, 3) := by decide +kernel
theorem d_Rd_readNumber_61 : decode c_Rd_readNumber 61 = .ok (.iload 4, 2) := by decide +kernel
theorem d_Rd_readNumber_63 : decode c_Rd_readNumber 63 = .ok (.iload_n 2, 1) := by decide +kernel
theorem d_Rd_readNumber_64 : decode c_Rd_readNumber 64 = .ok (.imul, 1) := by decide +kernel
theorem d_Rd_readNumber_65 : decode c_Rd_readNumber 65 = .ok (.aload_n 0, 1) := by decide +kernel
theorem d_Rd_readNumber_66 : decode c_Rd_readNumber 66 = .ok (.invokevirtual 54, 3) := by decide +kernel
theorem d_Rd_readNumber_69 : decode c_Rd_readNumber 69 = .ok (.iload_n 2, 1) := by decide +kernel
theorem d_Rd_readNumber_70 : decode c_Rd_readNumber 70 = .ok (.invokestatic 172, 3) := by decide +kernel
theorem d_Rd_readNumber_73 : decode c_Rd_readNumber 73 = .ok (.iadd, 1) := by decide +kernel
theorem d_Rd_readNumber_74 : decode c_Rd_readNumber 74 = .ok (.istore 4, 2) := by decide +kernel
theorem d_Rd_readNumber_76 : decode c_Rd_readNumber 76 = .ok (.aload_n 0, 1) := by decide +kernel
theorem d_Rd_readNumber_77 : decode c_Rd_readNumber 77 = .ok (.dup, 1) := by decide +kernel
theorem d_Rd_readNumber_78 : decode c_Rd_readNumber 78 = .ok (.getfield 19, 3) := by decide +kernel
theorem d_Rd_readNumber_81 : decode c_Rd_readNumber 81 = .ok (.iconst 1, 1) := by decide +kernel
theorem d_Rd_readNumber_82 : decode c_Rd_readNumber 82 = .ok (.iadd, 1) := by decide +kernel
theorem d_Rd_readNumber_83 : decode c_Rd_readNumber 83 = .ok (.putfield 19, 3) := by decide +kernel
theorem d_Rd_readNumber_86 : decode c_Rd_readNumber 86 = .ok (.iinc 5 1, 3) := by decide +kernel
theorem d_Rd_readNumber_89 : decode c_Rd_readNumber 89 = .ok (.goto (-46), 3) := by decide +kernel
theorem d_Rd_readNumber_92 : decode c_Rd_readNumber 92 = .ok (.aload_n 0, 1) := by decide +kernel
theorem d_Rd_readNumber_93 : decode c_Rd_readNumber 93 = .ok (.iload 4, 2) := by decide +kernel
theorem d_Rd_readNumber_95 : decode c_Rd_readNumber 95 = .ok (.bipush 127, 2) := by decide +kernel
theorem d_Rd_readNumber_97 : decode c_Rd_readNumber 97 = .ok (.if_icmp .gt 7, 3) := by decide +kernel
theorem d_Rd_readNumber_100 : decode c_Rd_readNumber 100 = .ok (.iconst 1, 1) := by decide +kernel
theorem d_Rd_readNumber_101 : decode c_Rd_readNumber 101 = .ok (.goto 4, 3) := by decide +kernel
theorem d_Rd_readNumber_104 : decode c_Rd_readNumber 104 = .ok (.iconst 0, 1) := by decide +kernel
theorem d_Rd_readNumber_105 : decode c_Rd_readNumber 105 = .ok (.iload_n 1, 1) := by decide +kernel
theorem d_Rd_readNumber_106 : decode c_Rd_readNumber 106 = .ok (.invokevirtual 58, 3) := by decide +kernel
theorem d_Rd_readNumber_109 : decode c_Rd_readNumber 109 = .ok (.iload 4, 2) := by decide +kernel
theorem d_Rd_readNumber_111 : decode c_Rd_readNumber 111 = .ok (.ireturn, 1) := by decide +kernel
set_option maxHeartbeats 4000000 in
set_option maxRecDepth 100000 in
theorem m_Rd_readGap (l : Launch) {D : va_G} {cy : Nat → ClassId} {sz n : Nat} {ad : Nat → Nat} {mem : Nat → va_E} {Z : Nat} {f : Nat → Int32} {lim rc ec : Nat} {m0 : Nat → va_E} (hn : 224 ≤ n) (hT : TX cy ad Z f m0) (hRS : RS cy ad lim rc ec m0 mem) : MI l D cy sz n ad y_Rd_readGap c_Rd_readGap 6 (some .boolean) ({ frames := 2, cells := 0, slots := 0, locals := 60 } : Room) mem [.ref (ad 222)] (fun r mem' => RS cy ad lim rc ec m0 mem') := by
  refine Met.ofW (cc := c_Rd_readGap) (maxL := 6) (ret := (some .boolean)) (by decide) rfl ?_
  intro p e s m args below meth c s₁ B hml hv
  obtain ⟨rfl, E, hP, hD⟩ := hv
  have hx := B.exec
  have hb := B.bytes
  have hr := B.returns
  have hlocks := B.notSynchronized
  have Bx : MB p s m [.ref (ad 222)].toArray c c_Rd_readGap "AbnfChart$Reader" D cy := ⟨hx, hb, tb_all (atoms_spec B.pre) E.2.1, findClass_of_methodNamed B.named, E.1⟩
  have hS : va_S (Az sz) s.heap s.heap [] := va_S.rf
  have hl := lv_entry ([.ref (ad 222)]) (n := 6) (Nat.le_of_ble_eq_true rfl)
  rw [lg_entry_eq]
  generalize (lg_sl ([.ref (ad 222)]) ++ List.replicate (6 - (lg_sl ([.ref (ad 222)])).length) Slot.unset).toArray = ls at hl ⊢
  have hl : lv_has ls 6 [(0, .ref (ad 222))] := hl
  obtain ⟨at1, ft2, h9_3⟩ := hRS.2.1
  have h1_4 : mem 1 = .inr (0, [.ref (ad 2), .int (nI Z)]) := (hRS.2.2 1 (by omega)).trans hT.1
  have h2_5 : mem 2 = .inl (cy 0, 240, .inl f) := (hRS.2.2 2 (by omega)).trans hT.2.2
  have h5_6 := hRS.1.2.1
  have hbd12 := hRS.1.1
  obtain ⟨S7, g8, hS_9, h220_10, h221_11⟩ := hRS.1.2.2.2.2.2.2
  refine lv_aload_n Bx.1 Bx.2.1 d_Rd_readGap_0 rfl (lv_at hl 0 rfl) ?_
  refine f_get Bx hP (by omega) h9_3 rfl inRd 2 (by decide) kw_146 rfl rfl d_Rd_readGap_1 ?_
  refine lv_istore_n (lv' := [(1, .int (at1)), (0, .ref (ad 222))]) Bx.1 Bx.2.1 d_Rd_readGap_4 rfl hl (by decide) rfl (fun ls hl => ?_)
  refine lv_iconst (v := 0) Bx.1 Bx.2.1 d_Rd_readGap_5 (by decide) ?_
  refine lv_istore_n (lv' := [(2, .int (0)), (1, .int (at1)), (0, .ref (ad 222))]) Bx.1 Bx.2.1 d_Rd_readGap_6 rfl hl (by decide) rfl (fun ls hl => ?_)
  refine lv_iconst (v := 0) Bx.1 Bx.2.1 d_Rd_readGap_7 (by decide) ?_
  refine lv_istore_n (lv' := [(3, .int (0)), (2, .int (0)), (1, .int (at1)), (0, .ref (ad 222))]) Bx.1 Bx.2.1 d_Rd_readGap_8 rfl hl (by decide) rfl (fun ls hl => ?_)
  have loop13 : ∀ (d : Nat) (mem : Nat → va_E) (ls : Array Slot) (H : Heap) (locs : List Loc) (co : Int32) (k : Int32), ((240 : Int32).toInt - (k).toInt).toNat < d → RS cy ad lim rc ec m0 mem → va_P D vcl (fw n ad mem) H → va_D (Az sz) (fw n ad mem) → va_S (Az sz) s.heap H locs → lv_has ls 6 [(3, .int (k)), (2, .int (co)), (1, .int (at1)), (0, .ref (ad 222))] → W p l e (headSpec (Cond.code y_Rd_readGap c_Rd_readGap 6 (some .boolean) :: tg) ({ frames := 2, cells := 0, slots := 0, locals := 60 } : Room)).room s m [.ref (ad 222)].toArray below meth c H locs 0 0 (MQ below (va_Qi (fun r mem' => RS cy ad lim rc ec m0 mem') (PP D n ad) (Az sz)) [.ref (ad 222)].toArray s 0 0 (Az sz)) (F0 m 9 ls []) := by
    intro d
    induction d with
    | zero => intro mem ls H locs co k hmeas; exact absurd hmeas (Nat.not_lt_zero _)
    | succ d ih =>
      intro mem ls H locs co k hmeas hRS  hP hD hS hl
      have hbd := hRS.1.1
      obtain ⟨at14, ft15, h9_16⟩ := hRS.2.1
      have h1_17 : mem 1 = .inr (0, [.ref (ad 2), .int (nI Z)]) := (hRS.2.2 1 (by omega)).trans hT.1
      have h2_18 : mem 2 = .inl (cy 0, 240, .inl f) := (hRS.2.2 2 (by omega)).trans hT.2.2
      have h5_19 := hRS.1.2.1
      have hbd25 := hRS.1.1
      obtain ⟨S20, g21, hS_22, h220_23, h221_24⟩ := hRS.1.2.2.2.2.2.2
      refine lv_iload_n Bx.1 Bx.2.1 d_Rd_readGap_9 rfl (lv_at hl 0 rfl) ?_
      refine lv_sipush (v := 240) Bx.1 Bx.2.1 d_Rd_readGap_10 (by decide) ?_
      refine lv_icmp_ge Bx.1 Bx.2.1 d_Rd_readGap_13 rfl (fun hk => ?_) (fun hk => ?_)
      · refine lv_aload_n Bx.1 Bx.2.1 d_Rd_readGap_125 rfl (lv_at hl 3 rfl) ?_
        refine f_get Bx hP (by omega) h9_16 rfl inRd 2 (by decide) kw_146 rfl rfl d_Rd_readGap_126 ?_
        refine lv_iload_n Bx.1 Bx.2.1 d_Rd_readGap_129 rfl (lv_at hl 2 rfl) ?_
        refine lv_icmp_le Bx.1 Bx.2.1 d_Rd_readGap_130 rfl (fun h8 => ?_) (fun h8 => ?_)
        · refine lv_iconst (v := 0) Bx.1 Bx.2.1 d_Rd_readGap_137 (by decide) ?_
          exact W.zret (v := 0) hx hb hr rfl (fun t ht hW => ⟨⟨0, mem, rfl, hRS, by show va_P _ _ _ t.heap; rw [ht]; exact hP⟩, hS.F ht⟩) hS.2.2 d_Rd_readGap_138
        · refine lv_iconst (v := 1) Bx.1 Bx.2.1 d_Rd_readGap_133 (by decide) ?_
          refine lv_goto Bx.1 Bx.2.1 d_Rd_readGap_134 rfl ?_
          exact W.zret (v := 1) hx hb hr rfl (fun t ht hW => ⟨⟨1, mem, rfl, hRS, by show va_P _ _ _ t.heap; rw [ht]; exact hP⟩, hS.F ht⟩) hS.2.2 d_Rd_readGap_138
      · refine lv_aload_n Bx.1 Bx.2.1 d_Rd_readGap_16 rfl (lv_at hl 3 rfl) ?_
        refine f_get Bx hP (by omega) h9_16 rfl inRd 2 (by decide) kw_146 rfl rfl d_Rd_readGap_17 ?_
        refine lv_aload_n Bx.1 Bx.2.1 d_Rd_readGap_20 rfl (lv_at hl 3 rfl) ?_
        refine f_get Bx hP (by omega) h9_16 rfl inRd 0 (by decide) kw_144 rfl rfl d_Rd_readGap_21 ?_
        refine f_getN Bx hP (by omega) h1_17 rfl inCh 1 (by decide) kw_33 rfl rfl d_Rd_readGap_24 ?_
        refine lv_icmp_ge Bx.1 Bx.2.1 d_Rd_readGap_27 rfl (fun h8 => ?_) (fun h8 => ?_)
        · refine lv_aload_n Bx.1 Bx.2.1 d_Rd_readGap_125 rfl (lv_at hl 3 rfl) ?_
          refine f_get Bx hP (by omega) h9_16 rfl inRd 2 (by decide) kw_146 rfl rfl d_Rd_readGap_126 ?_
          refine lv_iload_n Bx.1 Bx.2.1 d_Rd_readGap_129 rfl (lv_at hl 2 rfl) ?_
          refine lv_icmp_le Bx.1 Bx.2.1 d_Rd_readGap_130 rfl (fun h8 => ?_) (fun h8 => ?_)
          · refine lv_iconst (v := 0) Bx.1 Bx.2.1 d_Rd_readGap_137 (by decide) ?_
            exact W.zret (v := 0) hx hb hr rfl (fun t ht hW => ⟨⟨0, mem, rfl, hRS, by show va_P _ _ _ t.heap; rw [ht]; exact hP⟩, hS.F ht⟩) hS.2.2 d_Rd_readGap_138
          · refine lv_iconst (v := 1) Bx.1 Bx.2.1 d_Rd_readGap_133 (by decide) ?_
            refine lv_goto Bx.1 Bx.2.1 d_Rd_readGap_134 rfl ?_
            exact W.zret (v := 1) hx hb hr rfl (fun t ht hW => ⟨⟨1, mem, rfl, hRS, by show va_P _ _ _ t.heap; rw [ht]; exact hP⟩, hS.F ht⟩) hS.2.2 d_Rd_readGap_138
        · refine lv_aload_n Bx.1 Bx.2.1 d_Rd_readGap_30 rfl (lv_at hl 3 rfl) ?_
          refine f_callVi (na := 0) (As := []) (rest := []) Bx hml E hP hD hS (by omega) h9_16 rfl (m_Rd_peek l hn hT hRS) kw_353 kw_355 sel_Rd_peek kw_6 kw_356 (by decide +kernel) ⟨rfl, rfl⟩ ⟨Nat.le_of_ble_eq_true rfl, Nat.le_of_ble_eq_true rfl⟩ rfl hl.1 (Nat.le_of_ble_eq_true rfl) d_Rd_readGap_31 ⟨Nat.le_of_ble_eq_true rfl, Nat.le_of_ble_eq_true rfl⟩ (fun r26 mem27 H locs hq hP hS => ?_)
          have hD : va_D (Az sz) (fw n ad mem27) := fw_D hD
          rw [hq] at hP hD
          refine lv_istore (lv' := [(4, .int (r26)), (3, .int (k)), (2, .int (co)), (1, .int (at1)), (0, .ref (ad 222))]) Bx.1 Bx.2.1 d_Rd_readGap_34 hl (by decide) rfl (fun ls hl => ?_)
          refine lv_iload Bx.1 Bx.2.1 d_Rd_readGap_36 (lv_at hl 0 rfl) ?_
          refine lv_bipush (v := 10) Bx.1 Bx.2.1 d_Rd_readGap_38 (by decide) ?_
          refine lv_icmp_ne Bx.1 Bx.2.1 d_Rd_readGap_40 rfl (fun h8 => ?_) (fun h8 => ?_)
          · refine lv_iload Bx.1 Bx.2.1 d_Rd_readGap_83 (lv_at hl 0 rfl) ?_
            refine lv_bipush (v := 59) Bx.1 Bx.2.1 d_Rd_readGap_85 (by decide) ?_
            refine lv_icmp_ne Bx.1 Bx.2.1 d_Rd_readGap_87 rfl (fun h8 => ?_) (fun h8 => ?_)
            · refine lv_iload Bx.1 Bx.2.1 d_Rd_readGap_95 (lv_at hl 0 rfl) ?_
              refine lv_bipush (v := 32) Bx.1 Bx.2.1 d_Rd_readGap_97 (by decide) ?_
              refine lv_icmp_eq Bx.1 Bx.2.1 d_Rd_readGap_99 rfl (fun h8 => ?_) (fun h8 => ?_)
              · refine lv_aload_n Bx.1 Bx.2.1 d_Rd_readGap_109 rfl (lv_at hl 4 rfl) ?_
                refine lv_dup Bx.1 Bx.2.1 d_Rd_readGap_110 rfl ?_
                refine f_get Bx hP (by omega) h9_16 rfl inRd 2 (by decide) kw_146 rfl rfl d_Rd_readGap_111 ?_
                refine lv_iconst (v := 1) Bx.1 Bx.2.1 d_Rd_readGap_114 (by decide) ?_
                refine lv_iadd Bx.1 Bx.2.1 d_Rd_readGap_115 ?_
                refine f_put Bx hP hD hS (by omega) h9_16 rfl inRd tyRd okRd nmRd 2 (by decide) kw_146 rfl rfl rfl rfl (Nat.le_of_ble_eq_true rfl) d_Rd_readGap_116 (fun H locs hP hS => ?_)
                obtain ⟨mem28, e_mem28⟩ : ∃ z, z = va_up mem (222) (.inr (4, [.ref (ad 1), .ref (ad 5), .int (at14 + 1), .int (ft15)])) := ⟨_, rfl⟩
                have hP : va_P D vcl (fw n ad mem28) H := by rw [e_mem28]; exact hP
                have hD : va_D (Az sz) (fw n ad mem28) := fw_D hD
                have h_mem28 : mem28 (222) = .inr (4, [.ref (ad 1), .ref (ad 5), .int (at14 + 1), .int (ft15)]) := by rw [e_mem28, va_up_self]
                have hh29 := (va_up_ne mem (.inr (4, [.ref (ad 1), .ref (ad 5), .int (at14 + 1), .int (ft15)])) (show (1 : Nat) ≠ 222 by first | decide | assumption | omega)).trans h1_17
                rw [← e_mem28] at hh29
                have hh30 := (va_up_ne mem (.inr (4, [.ref (ad 1), .ref (ad 5), .int (at14 + 1), .int (ft15)])) (show (5 : Nat) ≠ 222 by first | decide | assumption | omega)).trans h5_19
                rw [← e_mem28] at hh30
                have hh31 := (va_up_ne mem (.inr (4, [.ref (ad 1), .ref (ad 5), .int (at14 + 1), .int (ft15)])) (show (220 : Nat) ≠ 222 by first | decide | assumption | omega)).trans h220_23
                rw [← e_mem28] at hh31
                have hRS32 : RS cy ad lim rc ec m0 mem28 := by rw [e_mem28]; exact hRS.at222
                refine lv_iinc (lv' := [(3, .int ((k + (1)))), (4, .int (r26)), (2, .int (co)), (1, .int (at1)), (0, .ref (ad 222))]) Bx.1 Bx.2.1 d_Rd_readGap_119 hl (k := 1) rfl rfl (by decide) rfl (fun ls hl => ?_)
                refine lv_goto Bx.1 Bx.2.1 d_Rd_readGap_122 rfl ?_
                exact ih _ _ _ _ _ _ (by have := inc_meas hk; omega) hRS32  hP hD hS (lv_sub hl [0, 2, 3, 4] rfl)
              · refine lv_iload_n Bx.1 Bx.2.1 d_Rd_readGap_102 rfl (lv_at hl 2 rfl) ?_
                refine lv_if_ne Bx.1 Bx.2.1 d_Rd_readGap_103 rfl (fun h8 => ?_) (fun h8 => ?_)
                · refine lv_aload_n Bx.1 Bx.2.1 d_Rd_readGap_109 rfl (lv_at hl 4 rfl) ?_
                  refine lv_dup Bx.1 Bx.2.1 d_Rd_readGap_110 rfl ?_
                  refine f_get Bx hP (by omega) h9_16 rfl inRd 2 (by decide) kw_146 rfl rfl d_Rd_readGap_111 ?_
                  refine lv_iconst (v := 1) Bx.1 Bx.2.1 d_Rd_readGap_114 (by decide) ?_
                  refine lv_iadd Bx.1 Bx.2.1 d_Rd_readGap_115 ?_
                  refine f_put Bx hP hD hS (by omega) h9_16 rfl inRd tyRd okRd nmRd 2 (by decide) kw_146 rfl rfl rfl rfl (Nat.le_of_ble_eq_true rfl) d_Rd_readGap_116 (fun H locs hP hS => ?_)
                  obtain ⟨mem33, e_mem33⟩ : ∃ z, z = va_up mem (222) (.inr (4, [.ref (ad 1), .ref (ad 5), .int (at14 + 1), .int (ft15)])) := ⟨_, rfl⟩
                  have hP : va_P D vcl (fw n ad mem33) H := by rw [e_mem33]; exact hP
                  have hD : va_D (Az sz) (fw n ad mem33) := fw_D hD
                  have h_mem33 : mem33 (222) = .inr (4, [.ref (ad 1), .ref (ad 5), .int (at14 + 1), .int (ft15)]) := by rw [e_mem33, va_up_self]
                  have hh34 := (va_up_ne mem (.inr (4, [.ref (ad 1), .ref (ad 5), .int (at14 + 1), .int (ft15)])) (show (1 : Nat) ≠ 222 by first | decide | assumption | omega)).trans h1_17
                  rw [← e_mem33] at hh34
                  have hh35 := (va_up_ne mem (.inr (4, [.ref (ad 1), .ref (ad 5), .int (at14 + 1), .int (ft15)])) (show (5 : Nat) ≠ 222 by first | decide | assumption | omega)).trans h5_19
                  rw [← e_mem33] at hh35
                  have hh36 := (va_up_ne mem (.inr (4, [.ref (ad 1), .ref (ad 5), .int (at14 + 1), .int (ft15)])) (show (220 : Nat) ≠ 222 by first | decide | assumption | omega)).trans h220_23
                  rw [← e_mem33] at hh36
                  have hRS37 : RS cy ad lim rc ec m0 mem33 := by rw [e_mem33]; exact hRS.at222
                  refine lv_iinc (lv' := [(3, .int ((k + (1)))), (4, .int (r26)), (2, .int (co)), (1, .int (at1)), (0, .ref (ad 222))]) Bx.1 Bx.2.1 d_Rd_readGap_119 hl (k := 1) rfl rfl (by decide) rfl (fun ls hl => ?_)
                  refine lv_goto Bx.1 Bx.2.1 d_Rd_readGap_122 rfl ?_
                  exact ih _ _ _ _ _ _ (by have := inc_meas hk; omega) hRS37  hP hD hS (lv_sub hl [0, 2, 3, 4] rfl)
                · refine lv_goto Bx.1 Bx.2.1 d_Rd_readGap_106 rfl ?_
                  refine lv_aload_n Bx.1 Bx.2.1 d_Rd_readGap_125 rfl (lv_at hl 4 rfl) ?_
                  refine f_get Bx hP (by omega) h9_16 rfl inRd 2 (by decide) kw_146 rfl rfl d_Rd_readGap_126 ?_
                  refine lv_iload_n Bx.1 Bx.2.1 d_Rd_readGap_129 rfl (lv_at hl 3 rfl) ?_
                  refine lv_icmp_le Bx.1 Bx.2.1 d_Rd_readGap_130 rfl (fun h8 => ?_) (fun h8 => ?_)
                  · refine lv_iconst (v := 0) Bx.1 Bx.2.1 d_Rd_readGap_137 (by decide) ?_
                    exact W.zret (v := 0) hx hb hr rfl (fun t ht hW => ⟨⟨0, mem, rfl, hRS, by show va_P _ _ _ t.heap; rw [ht]; exact hP⟩, hS.F ht⟩) hS.2.2 d_Rd_readGap_138
                  · refine lv_iconst (v := 1) Bx.1 Bx.2.1 d_Rd_readGap_133 (by decide) ?_
                    refine lv_goto Bx.1 Bx.2.1 d_Rd_readGap_134 rfl ?_
                    exact W.zret (v := 1) hx hb hr rfl (fun t ht hW => ⟨⟨1, mem, rfl, hRS, by show va_P _ _ _ t.heap; rw [ht]; exact hP⟩, hS.F ht⟩) hS.2.2 d_Rd_readGap_138
            · refine lv_iconst (v := 1) Bx.1 Bx.2.1 d_Rd_readGap_90 (by decide) ?_
              refine lv_istore_n (lv' := [(2, .int (1)), (4, .int (r26)), (3, .int (k)), (1, .int (at1)), (0, .ref (ad 222))]) Bx.1 Bx.2.1 d_Rd_readGap_91 rfl hl (by decide) rfl (fun ls hl => ?_)
              refine lv_goto Bx.1 Bx.2.1 d_Rd_readGap_92 rfl ?_
              refine lv_aload_n Bx.1 Bx.2.1 d_Rd_readGap_109 rfl (lv_at hl 4 rfl) ?_
              refine lv_dup Bx.1 Bx.2.1 d_Rd_readGap_110 rfl ?_
              refine f_get Bx hP (by omega) h9_16 rfl inRd 2 (by decide) kw_146 rfl rfl d_Rd_readGap_111 ?_
              refine lv_iconst (v := 1) Bx.1 Bx.2.1 d_Rd_readGap_114 (by decide) ?_
              refine lv_iadd Bx.1 Bx.2.1 d_Rd_readGap_115 ?_
              refine f_put Bx hP hD hS (by omega) h9_16 rfl inRd tyRd okRd nmRd 2 (by decide) kw_146 rfl rfl rfl rfl (Nat.le_of_ble_eq_true rfl) d_Rd_readGap_116 (fun H locs hP hS => ?_)
              obtain ⟨mem38, e_mem38⟩ : ∃ z, z = va_up mem (222) (.inr (4, [.ref (ad 1), .ref (ad 5), .int (at14 + 1), .int (ft15)])) := ⟨_, rfl⟩
              have hP : va_P D vcl (fw n ad mem38) H := by rw [e_mem38]; exact hP
              have hD : va_D (Az sz) (fw n ad mem38) := fw_D hD
              have h_mem38 : mem38 (222) = .inr (4, [.ref (ad 1), .ref (ad 5), .int (at14 + 1), .int (ft15)]) := by rw [e_mem38, va_up_self]
              have hh39 := (va_up_ne mem (.inr (4, [.ref (ad 1), .ref (ad 5), .int (at14 + 1), .int (ft15)])) (show (1 : Nat) ≠ 222 by first | decide | assumption | omega)).trans h1_17
              rw [← e_mem38] at hh39
              have hh40 := (va_up_ne mem (.inr (4, [.ref (ad 1), .ref (ad 5), .int (at14 + 1), .int (ft15)])) (show (5 : Nat) ≠ 222 by first | decide | assumption | omega)).trans h5_19
              rw [← e_mem38] at hh40
              have hh41 := (va_up_ne mem (.inr (4, [.ref (ad 1), .ref (ad 5), .int (at14 + 1), .int (ft15)])) (show (220 : Nat) ≠ 222 by first | decide | assumption | omega)).trans h220_23
              rw [← e_mem38] at hh41
              have hRS42 : RS cy ad lim rc ec m0 mem38 := by rw [e_mem38]; exact hRS.at222
              refine lv_iinc (lv' := [(3, .int ((k + (1)))), (2, .int (1)), (4, .int (r26)), (1, .int (at1)), (0, .ref (ad 222))]) Bx.1 Bx.2.1 d_Rd_readGap_119 hl (k := 2) rfl rfl (by decide) rfl (fun ls hl => ?_)
              refine lv_goto Bx.1 Bx.2.1 d_Rd_readGap_122 rfl ?_
              exact ih _ _ _ _ _ _ (by have := inc_meas hk; omega) hRS42  hP hD hS (lv_sub hl [0, 1, 3, 4] rfl)
          · refine lv_aload_n Bx.1 Bx.2.1 d_Rd_readGap_43 rfl (lv_at hl 4 rfl) ?_
            refine lv_aload_n Bx.1 Bx.2.1 d_Rd_readGap_44 rfl (lv_at hl 4 rfl) ?_
            refine f_get Bx hP (by omega) h9_16 rfl inRd 2 (by decide) kw_146 rfl rfl d_Rd_readGap_45 ?_
            refine lv_iconst (v := 1) Bx.1 Bx.2.1 d_Rd_readGap_48 (by decide) ?_
            refine lv_iadd Bx.1 Bx.2.1 d_Rd_readGap_49 ?_
            refine f_callVi (na := 1) (As := [.int (at14 + 1)]) (rest := []) Bx hml E hP hD hS (by omega) h9_16 rfl (m_Rd_fullLineFrom l hn hT hRS) kw_337 kw_339 sel_Rd_fullLineFrom kw_6 kw_340 (by decide +kernel) ⟨rfl, rfl⟩ ⟨Nat.le_of_ble_eq_true rfl, Nat.le_of_ble_eq_true rfl⟩ rfl hl.1 (Nat.le_of_ble_eq_true rfl) d_Rd_readGap_50 ⟨Nat.le_of_ble_eq_true rfl, Nat.le_of_ble_eq_true rfl⟩ (fun r43 mem44 H locs hq hP hS => ?_)
            have hD : va_D (Az sz) (fw n ad mem44) := fw_D hD
            rw [hq] at hP hD
            refine lv_istore (lv' := [(5, .int (r43)), (4, .int (r26)), (3, .int (k)), (2, .int (co)), (1, .int (at1)), (0, .ref (ad 222))]) Bx.1 Bx.2.1 d_Rd_readGap_53 hl (by decide) rfl (fun ls hl => ?_)
            refine lv_aload_n Bx.1 Bx.2.1 d_Rd_readGap_55 rfl (lv_at hl 5 rfl) ?_
            refine f_get Bx hP (by omega) h9_16 rfl inRd 0 (by decide) kw_144 rfl rfl d_Rd_readGap_56 ?_
            refine lv_iload Bx.1 Bx.2.1 d_Rd_readGap_59 (lv_at hl 0 rfl) ?_
            refine f_callVi (na := 1) (As := [.int (r43)]) (rest := []) Bx hml E hP hD hS (by omega) h1_17 rfl (m_Ch_codeAt l (by omega) h1_17 (by omega) h2_18 (by rw [nI_toInt (by have := hT.2.1; omega)]; have := hT.2.1; omega)) kw_341 kw_342 kw_343 kw_2 kw_344 (by decide +kernel) ⟨rfl, rfl⟩ ⟨Nat.le_of_ble_eq_true rfl, Nat.le_of_ble_eq_true rfl⟩ rfl hl.1 (Nat.le_of_ble_eq_true rfl) d_Rd_readGap_61 ⟨Nat.le_of_ble_eq_true rfl, Nat.le_of_ble_eq_true rfl⟩ (fun r45 mem46 H locs hq hP hS => ?_)
            have hD : va_D (Az sz) (fw n ad mem46) := fw_D hD
            rw [hq.2] at hP hD
            refine lv_bipush (v := 32) Bx.1 Bx.2.1 d_Rd_readGap_64 (by decide) ?_
            refine lv_icmp_eq Bx.1 Bx.2.1 d_Rd_readGap_66 rfl (fun h8 => ?_) (fun h8 => ?_)
            · refine lv_aload_n Bx.1 Bx.2.1 d_Rd_readGap_72 rfl (lv_at hl 5 rfl) ?_
              refine lv_iload Bx.1 Bx.2.1 d_Rd_readGap_73 (lv_at hl 0 rfl) ?_
              refine f_put Bx hP hD hS (by omega) h9_16 rfl inRd tyRd okRd nmRd 2 (by decide) kw_146 rfl rfl rfl rfl (Nat.le_of_ble_eq_true rfl) d_Rd_readGap_75 (fun H locs hP hS => ?_)
              obtain ⟨mem47, e_mem47⟩ : ∃ z, z = va_up mem (222) (.inr (4, [.ref (ad 1), .ref (ad 5), .int (r43), .int (ft15)])) := ⟨_, rfl⟩
              have hP : va_P D vcl (fw n ad mem47) H := by rw [e_mem47]; exact hP
              have hD : va_D (Az sz) (fw n ad mem47) := fw_D hD
              have h_mem47 : mem47 (222) = .inr (4, [.ref (ad 1), .ref (ad 5), .int (r43), .int (ft15)]) := by rw [e_mem47, va_up_self]
              have hh48 := (va_up_ne mem (.inr (4, [.ref (ad 1), .ref (ad 5), .int (r43), .int (ft15)])) (show (1 : Nat) ≠ 222 by first | decide | assumption | omega)).trans h1_17
              rw [← e_mem47] at hh48
              have hh49 := (va_up_ne mem (.inr (4, [.ref (ad 1), .ref (ad 5), .int (r43), .int (ft15)])) (show (5 : Nat) ≠ 222 by first | decide | assumption | omega)).trans h5_19
              rw [← e_mem47] at hh49
              have hh50 := (va_up_ne mem (.inr (4, [.ref (ad 1), .ref (ad 5), .int (r43), .int (ft15)])) (show (220 : Nat) ≠ 222 by first | decide | assumption | omega)).trans h220_23
              rw [← e_mem47] at hh50
              have hRS51 : RS cy ad lim rc ec m0 mem47 := by rw [e_mem47]; exact hRS.at222
              refine lv_iconst (v := 0) Bx.1 Bx.2.1 d_Rd_readGap_78 (by decide) ?_
              refine lv_istore_n (lv' := [(2, .int (0)), (5, .int (r43)), (4, .int (r26)), (3, .int (k)), (1, .int (at1)), (0, .ref (ad 222))]) Bx.1 Bx.2.1 d_Rd_readGap_79 rfl hl (by decide) rfl (fun ls hl => ?_)
              refine lv_goto Bx.1 Bx.2.1 d_Rd_readGap_80 rfl ?_
              refine lv_aload_n Bx.1 Bx.2.1 d_Rd_readGap_109 rfl (lv_at hl 5 rfl) ?_
              refine lv_dup Bx.1 Bx.2.1 d_Rd_readGap_110 rfl ?_
              refine f_get Bx hP (by omega) h_mem47 rfl inRd 2 (by decide) kw_146 rfl rfl d_Rd_readGap_111 ?_
              refine lv_iconst (v := 1) Bx.1 Bx.2.1 d_Rd_readGap_114 (by decide) ?_
              refine lv_iadd Bx.1 Bx.2.1 d_Rd_readGap_115 ?_
              refine f_put Bx hP hD hS (by omega) h_mem47 rfl inRd tyRd okRd nmRd 2 (by decide) kw_146 rfl rfl rfl rfl (Nat.le_of_ble_eq_true rfl) d_Rd_readGap_116 (fun H locs hP hS => ?_)
              obtain ⟨mem52, e_mem52⟩ : ∃ z, z = va_up mem47 (222) (.inr (4, [.ref (ad 1), .ref (ad 5), .int (r43 + 1), .int (ft15)])) := ⟨_, rfl⟩
              have hP : va_P D vcl (fw n ad mem52) H := by rw [e_mem52]; exact hP
              have hD : va_D (Az sz) (fw n ad mem52) := fw_D hD
              have h_mem52 : mem52 (222) = .inr (4, [.ref (ad 1), .ref (ad 5), .int (r43 + 1), .int (ft15)]) := by rw [e_mem52, va_up_self]
              have hh53 := (va_up_ne mem47 (.inr (4, [.ref (ad 1), .ref (ad 5), .int (r43 + 1), .int (ft15)])) (show (1 : Nat) ≠ 222 by first | decide | assumption | omega)).trans hh48
              rw [← e_mem52] at hh53
              have hh54 := (va_up_ne mem47 (.inr (4, [.ref (ad 1), .ref (ad 5), .int (r43 + 1), .int (ft15)])) (show (5 : Nat) ≠ 222 by first | decide | assumption | omega)).trans hh49
              rw [← e_mem52] at hh54
              have hh55 := (va_up_ne mem47 (.inr (4, [.ref (ad 1), .ref (ad 5), .int (r43 + 1), .int (ft15)])) (show (220 : Nat) ≠ 222 by first | decide | assumption | omega)).trans hh50
              rw [← e_mem52] at hh55
              have hRS56 : RS cy ad lim rc ec m0 mem52 := by rw [e_mem52]; exact hRS51.at222
              refine lv_iinc (lv' := [(3, .int ((k + (1)))), (2, .int (0)), (5, .int (r43)), (4, .int (r26)), (1, .int (at1)), (0, .ref (ad 222))]) Bx.1 Bx.2.1 d_Rd_readGap_119 hl (k := 3) rfl rfl (by decide) rfl (fun ls hl => ?_)
              refine lv_goto Bx.1 Bx.2.1 d_Rd_readGap_122 rfl ?_
              exact ih _ _ _ _ _ _ (by have := inc_meas hk; omega) hRS56  hP hD hS (lv_sub hl [0, 1, 4, 5] rfl)
            · refine lv_goto Bx.1 Bx.2.1 d_Rd_readGap_69 rfl ?_
              refine lv_aload_n Bx.1 Bx.2.1 d_Rd_readGap_125 rfl (lv_at hl 5 rfl) ?_
              refine f_get Bx hP (by omega) h9_16 rfl inRd 2 (by decide) kw_146 rfl rfl d_Rd_readGap_126 ?_
              refine lv_iload_n Bx.1 Bx.2.1 d_Rd_readGap_129 rfl (lv_at hl 4 rfl) ?_
              refine lv_icmp_le Bx.1 Bx.2.1 d_Rd_readGap_130 rfl (fun h8 => ?_) (fun h8 => ?_)
              · refine lv_iconst (v := 0) Bx.1 Bx.2.1 d_Rd_readGap_137 (by decide) ?_
                exact W.zret (v := 0) hx hb hr rfl (fun t ht hW => ⟨⟨0, mem, rfl, hRS, by show va_P _ _ _ t.heap; rw [ht]; exact hP⟩, hS.F ht⟩) hS.2.2 d_Rd_readGap_138
              · refine lv_iconst (v := 1) Bx.1 Bx.2.1 d_Rd_readGap_133 (by decide) ?_
                refine lv_goto Bx.1 Bx.2.1 d_Rd_readGap_134 rfl ?_
                exact W.zret (v := 1) hx hb hr rfl (fun t ht hW => ⟨⟨1, mem, rfl, hRS, by show va_P _ _ _ t.heap; rw [ht]; exact hP⟩, hS.F ht⟩) hS.2.2 d_Rd_readGap_138
  exact loop13 _ _ _ _ _ _ _ (Nat.lt_succ_self _) hRS  hP hD hS (lv_sub hl [0, 1, 2, 3] rfl)
set_option maxHeartbeats 4000000 in
set_option maxRecDepth 100000 in
theorem m_Rd_readName (l : Launch) {D : va_G} {cy : Nat → ClassId} {sz n : Nat} {ad : Nat → Nat} {mem : Nat → va_E} {Z : Nat} {f : Nat → Int32} {lim rc ec : Nat} {m0 : Nat → va_E} (hlt : l.stackTraces = false) (hn : 224 ≤ n) (hT : TX cy ad Z f m0) (hRS : RS cy ad lim rc ec m0 mem) : NXr l D cy sz n ad y_Rd_readName c_Rd_readName 5 (some (.object "AbnfChart$Rule")) ({ frames := 8, cells := 1, slots := 6, locals := 160 } : Room) mem [.ref (ad 222)] (fun r mem' => ∃ i rc' : Nat, r = ad (7 + i) ∧ i < rc' ∧ rc ≤ rc' ∧ RS cy ad lim rc' ec m0 mem') (fun X mem' => (X = cIA ∨ X = cIS) ∧ ∃ rc' ec' : Nat, RS cy ad lim rc' ec' m0 mem') := by
  refine vx_ofW (cc := c_Rd_readName) (maxL := 5) (ret := (some (.object "AbnfChart$Rule"))) (by decide) rfl ?_
  intro p e s m args below meth c s₁ B hml hno hv
  obtain ⟨rfl, E, hP, hD⟩ := hv
  have hx := B.exec
  have hb := B.bytes
  have hr := B.returns
  have hlocks := B.notSynchronized
  have Bx : MB p s m [.ref (ad 222)].toArray c c_Rd_readName "AbnfChart$Reader" D cy := ⟨hx, hb, tb_all (atoms_spec B.pre) E.2.1, findClass_of_methodNamed B.named, E.1⟩
  have hS : va_S (Az sz) s.heap s.heap [] := va_S.rf
  have hl := lv_entry ([.ref (ad 222)]) (n := 5) (Nat.le_of_ble_eq_true rfl)
  rw [lg_entry_eq]
  generalize (lg_sl ([.ref (ad 222)]) ++ List.replicate (5 - (lg_sl ([.ref (ad 222)])).length) Slot.unset).toArray = ls at hl ⊢
  have hl : lv_has ls 5 [(0, .ref (ad 222))] := hl
  obtain ⟨at1, ft2, h9_3⟩ := hRS.2.1
  have h1_4 : mem 1 = .inr (0, [.ref (ad 2), .int (nI Z)]) := (hRS.2.2 1 (by omega)).trans hT.1
  have h2_5 : mem 2 = .inl (cy 0, 240, .inl f) := (hRS.2.2 2 (by omega)).trans hT.2.2
  have h5_6 := hRS.1.2.1
  have hbd12 := hRS.1.1
  obtain ⟨S7, g8, hS_9, h220_10, h221_11⟩ := hRS.1.2.2.2.2.2.2
  refine lv_aload_n Bx.1 Bx.2.1 d_Rd_readName_0 rfl (lv_at hl 0 rfl) ?_
  refine f_get Bx hP (by omega) h9_3 rfl inRd 2 (by decide) kw_146 rfl rfl d_Rd_readName_1 ?_
  refine lv_istore_n (lv' := [(1, .int (at1)), (0, .ref (ad 222))]) Bx.1 Bx.2.1 d_Rd_readName_4 rfl hl (by decide) rfl (fun ls hl => ?_)
  refine lv_lconst (v := 0) Bx.1 Bx.2.1 d_Rd_readName_5 (by decide) ?_
  refine lv_lstore_n (lv' := [(2, .long (0)), (1, .int (at1)), (0, .ref (ad 222))]) Bx.1 Bx.2.1 d_Rd_readName_6 rfl hl (by decide) rfl (fun ls hl => ?_)
  refine lv_aload_n Bx.1 Bx.2.1 d_Rd_readName_7 rfl (lv_at hl 2 rfl) ?_
  refine lv_aload_n Bx.1 Bx.2.1 d_Rd_readName_8 rfl (lv_at hl 2 rfl) ?_
  refine f_callVi (na := 0) (As := []) (rest := [.ref (ad 222)]) Bx hml E hP hD hS (by omega) h9_3 rfl (m_Rd_peek l hn hT hRS) kw_353 kw_355 sel_Rd_peek kw_6 kw_356 (by decide +kernel) ⟨rfl, rfl⟩ ⟨Nat.le_of_ble_eq_true rfl, Nat.le_of_ble_eq_true rfl⟩ rfl hl.1 (Nat.le_of_ble_eq_true rfl) d_Rd_readName_9 ⟨Nat.le_of_ble_eq_true rfl, Nat.le_of_ble_eq_true rfl⟩ (fun r13 mem14 H locs hq hP hS => ?_)
  have hD : va_D (Az sz) (fw n ad mem14) := fw_D hD
  rw [hq] at hP hD
  refine f_callSNi (na := 1) (As := [.int (r13)]) (rest := [.ref (ad 222)]) Bx hml E.2.1 (m_Ab_isLetter l (r13)) kw_357 kw_358 kw_1 kw_359 (by decide +kernel) ⟨rfl, rfl⟩ ⟨Nat.le_of_ble_eq_true rfl, Nat.le_of_ble_eq_true rfl⟩ rfl hl.1 (Nat.le_of_ble_eq_true rfl) d_Rd_readName_12 ⟨Nat.le_of_ble_eq_true rfl, Nat.le_of_ble_eq_true rfl⟩ (fun r16 hs15 => ?_)
  refine lv_aload_n Bx.1 Bx.2.1 d_Rd_readName_15 rfl (lv_at hl 2 rfl) ?_
  refine f_get Bx hP (by omega) h9_3 rfl inRd 2 (by decide) kw_146 rfl rfl d_Rd_readName_16 ?_
  refine f_xVv (na := 2) (As := [.int (r16), .int (at1)]) (rest := []) Bx hml E hP hD hS (by omega) h9_3 rfl (m_Rd_needReadable l hlt hn hT hRS) kw_360 kw_362 sel_Rd_needReadable kw_6 kw_363 (by decide +kernel) ⟨rfl, rfl⟩ ⟨Nat.le_of_ble_eq_true rfl, Nat.le_of_ble_eq_true rfl⟩ rfl hl.1 (Nat.le_of_ble_eq_true rfl) d_Rd_readName_19 ⟨Nat.le_of_ble_eq_true rfl, Nat.le_of_ble_eq_true rfl⟩ (fun X ce q9 memx H locs hx9 hP hS g1 g2 g3 => f_out hlocks hno hP hS g1 g2 g3 ⟨Nat.le_of_ble_eq_true rfl, Nat.le_of_ble_eq_true rfl⟩ hx9) (fun mem18 H locs hq hP hS => ?_)
  have hD : va_D (Az sz) (fw n ad mem18) := fw_D hD
  obtain ⟨hRS19, -, hg20⟩ := hq
  obtain ⟨at21, ft22, h9_23⟩ := hRS19.2.1
  have h1_24 : mem18 1 = .inr (0, [.ref (ad 2), .int (nI Z)]) := (hRS19.2.2 1 (by omega)).trans hT.1
  have h2_25 : mem18 2 = .inl (cy 0, 240, .inl f) := (hRS19.2.2 2 (by omega)).trans hT.2.2
  have h5_26 := hRS19.1.2.1
  have hbd32 := hRS19.1.1
  obtain ⟨S27, g28, hS_29, h220_30, h221_31⟩ := hRS19.1.2.2.2.2.2.2
  refine lv_iconst (v := 0) Bx.1 Bx.2.1 d_Rd_readName_22 (by decide) ?_
  refine lv_istore (lv' := [(4, .int (0)), (2, .long (0)), (1, .int (at1)), (0, .ref (ad 222))]) Bx.1 Bx.2.1 d_Rd_readName_23 hl (by decide) rfl (fun ls hl => ?_)
  have loop33 : ∀ (d : Nat) (mem : Nat → va_E) (ls : Array Slot) (H : Heap) (locs : List Loc) (nm : Int64) (k : Int32), ((6 : Int32).toInt - (k).toInt).toNat < d → RS cy ad lim rc ec m0 mem → va_P D vcl (fw n ad mem) H → va_D (Az sz) (fw n ad mem) → va_S (Az sz) s.heap H locs → lv_has ls 5 [(4, .int (k)), (2, .long (nm)), (1, .int (at1)), (0, .ref (ad 222))] → W p l e (headSpec (Cond.code y_Rd_readName c_Rd_readName 5 (some (.object "AbnfChart$Rule")) :: tg) ({ frames := 8, cells := 1, slots := 6, locals := 160 } : Room)).room s m [.ref (ad 222)].toArray below meth c H locs 0 0 (vx_MQ below (QX (QR (fun r mem' => ∃ i rc' : Nat, r = ad (7 + i) ∧ i < rc' ∧ rc ≤ rc' ∧ RS cy ad lim rc' ec m0 mem') (PP D n ad) (Az sz))) (XQ D sz n ad (fun X mem' => (X = cIA ∨ X = cIS) ∧ ∃ rc' ec' : Nat, RS cy ad lim rc' ec' m0 mem')) [.ref (ad 222)].toArray s 1 6 (Az sz)) (F0 m 25 ls []) := by
    intro d
    induction d with
    | zero => intro mem ls H locs nm k hmeas; exact absurd hmeas (Nat.not_lt_zero _)
    | succ d ih =>
      intro mem ls H locs nm k hmeas hRS  hP hD hS hl
      have hbd := hRS.1.1
      obtain ⟨at34, ft35, h9_36⟩ := hRS.2.1
      have h1_37 : mem 1 = .inr (0, [.ref (ad 2), .int (nI Z)]) := (hRS.2.2 1 (by omega)).trans hT.1
      have h2_38 : mem 2 = .inl (cy 0, 240, .inl f) := (hRS.2.2 2 (by omega)).trans hT.2.2
      have h5_39 := hRS.1.2.1
      have hbd45 := hRS.1.1
      obtain ⟨S40, g41, hS_42, h220_43, h221_44⟩ := hRS.1.2.2.2.2.2.2
      refine lv_iload Bx.1 Bx.2.1 d_Rd_readName_25 (lv_at hl 0 rfl) ?_
      refine lv_bipush (v := 6) Bx.1 Bx.2.1 d_Rd_readName_27 (by decide) ?_
      refine lv_icmp_ge Bx.1 Bx.2.1 d_Rd_readName_29 rfl (fun hk => ?_) (fun hk => ?_)
      · refine lv_aload_n Bx.1 Bx.2.1 d_Rd_readName_75 rfl (lv_at hl 3 rfl) ?_
        refine f_get Bx hP (by omega) h9_36 rfl inRd 1 (by decide) kw_145 rfl rfl d_Rd_readName_76 ?_
        refine lv_lload_n Bx.1 Bx.2.1 d_Rd_readName_79 rfl (lv_at hl 1 rfl) ?_
        refine f_callVi (na := 1) (As := [.long (nm)]) (rest := []) Bx hml E hP hD hS (by omega) h5_39 rfl (m_Gr_find l hn hT hRS) kw_375 kw_376 kw_377 kw_3 kw_378 (by decide +kernel) ⟨rfl, rfl⟩ ⟨Nat.le_of_ble_eq_true rfl, Nat.le_of_ble_eq_true rfl⟩ rfl hl.1 (Nat.le_of_ble_eq_true rfl) d_Rd_readName_80 ⟨Nat.le_of_ble_eq_true rfl, Nat.le_of_ble_eq_true rfl⟩ (fun r46 mem47 H locs hq hP hS => ?_)
        have hD : va_D (Az sz) (fw n ad mem47) := fw_D hD
        obtain ⟨hqe, hfi⟩ := hq
        rw [hqe] at hP hD
        refine lv_istore (lv' := [(4, .int (r46)), (2, .long (nm)), (1, .int (at1)), (0, .ref (ad 222))]) Bx.1 Bx.2.1 d_Rd_readName_83 hl (by decide) rfl (fun ls hl => ?_)
        refine lv_iload Bx.1 Bx.2.1 d_Rd_readName_85 (lv_at hl 0 rfl) ?_
        refine lv_iconst (v := -1) Bx.1 Bx.2.1 d_Rd_readName_87 (by decide) ?_
        refine lv_icmp_eq Bx.1 Bx.2.1 d_Rd_readName_88 rfl (fun h8 => ?_) (fun h8 => ?_)
        · refine lv_aload_n Bx.1 Bx.2.1 d_Rd_readName_102 rfl (lv_at hl 3 rfl) ?_
          refine lv_aload_n Bx.1 Bx.2.1 d_Rd_readName_103 rfl (lv_at hl 3 rfl) ?_
          refine f_get Bx hP (by omega) h9_36 rfl inRd 1 (by decide) kw_145 rfl rfl d_Rd_readName_104 ?_
          refine f_callVi (na := 0) (As := []) (rest := [.ref (ad 222)]) Bx hml E hP hD hS (by omega) h5_39 rfl (m_Gr_hasRoomForRule l hn hT hRS) kw_379 kw_380 kw_381 kw_3 kw_382 (by decide +kernel) ⟨rfl, rfl⟩ ⟨Nat.le_of_ble_eq_true rfl, Nat.le_of_ble_eq_true rfl⟩ rfl hl.1 (Nat.le_of_ble_eq_true rfl) d_Rd_readName_107 ⟨Nat.le_of_ble_eq_true rfl, Nat.le_of_ble_eq_true rfl⟩ (fun r48 mem49 H locs hq hP hS => ?_)
          have hD : va_D (Az sz) (fw n ad mem49) := fw_D hD
          obtain ⟨hqe, hro⟩ := hq
          rw [hqe] at hP hD
          refine lv_iload_n Bx.1 Bx.2.1 d_Rd_readName_110 rfl (lv_at hl 2 rfl) ?_
          refine f_xVv (na := 2) (As := [.int (r48), .int (at1)]) (rest := []) Bx hml E hP hD hS (by omega) h9_36 rfl (m_Rd_needRoom l hlt hn hT hRS) kw_383 kw_385 sel_Rd_needRoom kw_6 kw_386 (by decide +kernel) ⟨rfl, rfl⟩ ⟨Nat.le_of_ble_eq_true rfl, Nat.le_of_ble_eq_true rfl⟩ rfl hl.1 (Nat.le_of_ble_eq_true rfl) d_Rd_readName_111 ⟨Nat.le_of_ble_eq_true rfl, Nat.le_of_ble_eq_true rfl⟩ (fun X ce q9 memx H locs hx9 hP hS g1 g2 g3 => f_out hlocks hno hP hS g1 g2 g3 ⟨Nat.le_of_ble_eq_true rfl, Nat.le_of_ble_eq_true rfl⟩ hx9) (fun mem51 H locs hq hP hS => ?_)
          have hD : va_D (Az sz) (fw n ad mem51) := fw_D hD
          obtain ⟨hRS52, -, hg53⟩ := hq
          obtain ⟨at54, ft55, h9_56⟩ := hRS52.2.1
          have h1_57 : mem51 1 = .inr (0, [.ref (ad 2), .int (nI Z)]) := (hRS52.2.2 1 (by omega)).trans hT.1
          have h2_58 : mem51 2 = .inl (cy 0, 240, .inl f) := (hRS52.2.2 2 (by omega)).trans hT.2.2
          have h5_59 := hRS52.1.2.1
          have hbd65 := hRS52.1.1
          obtain ⟨S60, g61, hS_62, h220_63, h221_64⟩ := hRS52.1.2.2.2.2.2.2
          refine lv_aload_n Bx.1 Bx.2.1 d_Rd_readName_114 rfl (lv_at hl 3 rfl) ?_
          refine f_get Bx hP (by omega) h9_56 rfl inRd 1 (by decide) kw_145 rfl rfl d_Rd_readName_115 ?_
          refine lv_lload_n Bx.1 Bx.2.1 d_Rd_readName_118 rfl (lv_at hl 1 rfl) ?_
          refine f_callVr (na := 1) (As := [.long (nm)]) (rest := []) Bx hml E hP hD hS (by omega) h5_59 rfl (m_Gr_addRule l hn hT hRS52 (hro hg53)) kw_389 kw_390 kw_391 kw_3 kw_392 (by decide +kernel) ⟨rfl, rfl⟩ ⟨Nat.le_of_ble_eq_true rfl, Nat.le_of_ble_eq_true rfl⟩ rfl hl.1 (Nat.le_of_ble_eq_true rfl) d_Rd_readName_119 ⟨Nat.le_of_ble_eq_true rfl, Nat.le_of_ble_eq_true rfl⟩ (fun r66 mem67 H locs hq3 hP hS => ?_)
          have hD : va_D (Az sz) (fw n ad mem67) := fw_D hD
          exact x_aret hx hb hlocks hr (⟨rc, rc + 1, hq3.1, by omega, by omega, hq3.2⟩) hP hS d_Rd_readName_122
        · obtain ⟨i, hi, hre⟩ := hfi.resolve_left h8
          refine lv_aload_n Bx.1 Bx.2.1 d_Rd_readName_91 rfl (lv_at hl 3 rfl) ?_
          refine f_get Bx hP (by omega) h9_36 rfl inRd 1 (by decide) kw_145 rfl rfl d_Rd_readName_92 ?_
          refine f_getN Bx hP (by omega) h5_39 rfl inGr 0 (by decide) kw_115 rfl rfl d_Rd_readName_95 ?_
          refine lv_iload Bx.1 Bx.2.1 d_Rd_readName_98 (lv_at hl 0 rfl) ?_
          refine f_aald (t0 := 5) Bx hP (by omega) hRS.1.2.2.1 rfl i hre (by omega) (by decide) (q := ad (7 + i)) (by unfold rfA; rw [if_pos (by omega), Nat.one_mul]) d_Rd_readName_100 ?_
          exact x_aret hx hb hlocks hr (⟨i, rc, rfl, hi, Nat.le_refl _, hRS⟩) hP hS d_Rd_readName_101
      · refine lv_aload_n Bx.1 Bx.2.1 d_Rd_readName_32 rfl (lv_at hl 3 rfl) ?_
        refine f_callVi (na := 0) (As := []) (rest := []) Bx hml E hP hD hS (by omega) h9_36 rfl (m_Rd_peek l hn hT hRS) kw_353 kw_355 sel_Rd_peek kw_6 kw_356 (by decide +kernel) ⟨rfl, rfl⟩ ⟨Nat.le_of_ble_eq_true rfl, Nat.le_of_ble_eq_true rfl⟩ rfl hl.1 (Nat.le_of_ble_eq_true rfl) d_Rd_readName_33 ⟨Nat.le_of_ble_eq_true rfl, Nat.le_of_ble_eq_true rfl⟩ (fun r68 mem69 H locs hq hP hS => ?_)
        have hD : va_D (Az sz) (fw n ad mem69) := fw_D hD
        rw [hq] at hP hD
        refine f_callSi (na := 1) (As := [.int (r68)]) (rest := []) Bx hml E.2.1 (m_Rd_isNameCode l (r68)) kw_366 kw_367 kw_6 kw_368 (by decide +kernel) ⟨rfl, rfl⟩ ⟨Nat.le_of_ble_eq_true rfl, Nat.le_of_ble_eq_true rfl⟩ rfl hl.1 (Nat.le_of_ble_eq_true rfl) d_Rd_readName_36 ⟨Nat.le_of_ble_eq_true rfl, Nat.le_of_ble_eq_true rfl⟩ (fun r71 hs70 => ?_)
        refine lv_if_eq Bx.1 Bx.2.1 d_Rd_readName_39 rfl (fun h8 => ?_) (fun h8 => ?_)
        · refine lv_aload_n Bx.1 Bx.2.1 d_Rd_readName_75 rfl (lv_at hl 3 rfl) ?_
          refine f_get Bx hP (by omega) h9_36 rfl inRd 1 (by decide) kw_145 rfl rfl d_Rd_readName_76 ?_
          refine lv_lload_n Bx.1 Bx.2.1 d_Rd_readName_79 rfl (lv_at hl 1 rfl) ?_
          refine f_callVi (na := 1) (As := [.long (nm)]) (rest := []) Bx hml E hP hD hS (by omega) h5_39 rfl (m_Gr_find l hn hT hRS) kw_375 kw_376 kw_377 kw_3 kw_378 (by decide +kernel) ⟨rfl, rfl⟩ ⟨Nat.le_of_ble_eq_true rfl, Nat.le_of_ble_eq_true rfl⟩ rfl hl.1 (Nat.le_of_ble_eq_true rfl) d_Rd_readName_80 ⟨Nat.le_of_ble_eq_true rfl, Nat.le_of_ble_eq_true rfl⟩ (fun r72 mem73 H locs hq hP hS => ?_)
          have hD : va_D (Az sz) (fw n ad mem73) := fw_D hD
          obtain ⟨hqe, hfi⟩ := hq
          rw [hqe] at hP hD
          refine lv_istore (lv' := [(4, .int (r72)), (2, .long (nm)), (1, .int (at1)), (0, .ref (ad 222))]) Bx.1 Bx.2.1 d_Rd_readName_83 hl (by decide) rfl (fun ls hl => ?_)
          refine lv_iload Bx.1 Bx.2.1 d_Rd_readName_85 (lv_at hl 0 rfl) ?_
          refine lv_iconst (v := -1) Bx.1 Bx.2.1 d_Rd_readName_87 (by decide) ?_
          refine lv_icmp_eq Bx.1 Bx.2.1 d_Rd_readName_88 rfl (fun h8 => ?_) (fun h8 => ?_)
          · refine lv_aload_n Bx.1 Bx.2.1 d_Rd_readName_102 rfl (lv_at hl 3 rfl) ?_
            refine lv_aload_n Bx.1 Bx.2.1 d_Rd_readName_103 rfl (lv_at hl 3 rfl) ?_
            refine f_get Bx hP (by omega) h9_36 rfl inRd 1 (by decide) kw_145 rfl rfl d_Rd_readName_104 ?_
            refine f_callVi (na := 0) (As := []) (rest := [.ref (ad 222)]) Bx hml E hP hD hS (by omega) h5_39 rfl (m_Gr_hasRoomForRule l hn hT hRS) kw_379 kw_380 kw_381 kw_3 kw_382 (by decide +kernel) ⟨rfl, rfl⟩ ⟨Nat.le_of_ble_eq_true rfl, Nat.le_of_ble_eq_true rfl⟩ rfl hl.1 (Nat.le_of_ble_eq_true rfl) d_Rd_readName_107 ⟨Nat.le_of_ble_eq_true rfl, Nat.le_of_ble_eq_true rfl⟩ (fun r74 mem75 H locs hq hP hS => ?_)
            have hD : va_D (Az sz) (fw n ad mem75) := fw_D hD
            obtain ⟨hqe, hro⟩ := hq
            rw [hqe] at hP hD
            refine lv_iload_n Bx.1 Bx.2.1 d_Rd_readName_110 rfl (lv_at hl 2 rfl) ?_
            refine f_xVv (na := 2) (As := [.int (r74), .int (at1)]) (rest := []) Bx hml E hP hD hS (by omega) h9_36 rfl (m_Rd_needRoom l hlt hn hT hRS) kw_383 kw_385 sel_Rd_needRoom kw_6 kw_386 (by decide +kernel) ⟨rfl, rfl⟩ ⟨Nat.le_of_ble_eq_true rfl, Nat.le_of_ble_eq_true rfl⟩ rfl hl.1 (Nat.le_of_ble_eq_true rfl) d_Rd_readName_111 ⟨Nat.le_of_ble_eq_true rfl, Nat.le_of_ble_eq_true rfl⟩ (fun X ce q9 memx H locs hx9 hP hS g1 g2 g3 => f_out hlocks hno hP hS g1 g2 g3 ⟨Nat.le_of_ble_eq_true rfl, Nat.le_of_ble_eq_true rfl⟩ hx9) (fun mem77 H locs hq hP hS => ?_)
            have hD : va_D (Az sz) (fw n ad mem77) := fw_D hD
            obtain ⟨hRS78, -, hg79⟩ := hq
            obtain ⟨at80, ft81, h9_82⟩ := hRS78.2.1
            have h1_83 : mem77 1 = .inr (0, [.ref (ad 2), .int (nI Z)]) := (hRS78.2.2 1 (by omega)).trans hT.1
            have h2_84 : mem77 2 = .inl (cy 0, 240, .inl f) := (hRS78.2.2 2 (by omega)).trans hT.2.2
            have h5_85 := hRS78.1.2.1
            have hbd91 := hRS78.1.1
            obtain ⟨S86, g87, hS_88, h220_89, h221_90⟩ := hRS78.1.2.2.2.2.2.2
            refine lv_aload_n Bx.1 Bx.2.1 d_Rd_readName_114 rfl (lv_at hl 3 rfl) ?_
            refine f_get Bx hP (by omega) h9_82 rfl inRd 1 (by decide) kw_145 rfl rfl d_Rd_readName_115 ?_
            refine lv_lload_n Bx.1 Bx.2.1 d_Rd_readName_118 rfl (lv_at hl 1 rfl) ?_
            refine f_callVr (na := 1) (As := [.long (nm)]) (rest := []) Bx hml E hP hD hS (by omega) h5_85 rfl (m_Gr_addRule l hn hT hRS78 (hro hg79)) kw_389 kw_390 kw_391 kw_3 kw_392 (by decide +kernel) ⟨rfl, rfl⟩ ⟨Nat.le_of_ble_eq_true rfl, Nat.le_of_ble_eq_true rfl⟩ rfl hl.1 (Nat.le_of_ble_eq_true rfl) d_Rd_readName_119 ⟨Nat.le_of_ble_eq_true rfl, Nat.le_of_ble_eq_true rfl⟩ (fun r92 mem93 H locs hq3 hP hS => ?_)
            have hD : va_D (Az sz) (fw n ad mem93) := fw_D hD
            exact x_aret hx hb hlocks hr (⟨rc, rc + 1, hq3.1, by omega, by omega, hq3.2⟩) hP hS d_Rd_readName_122
          · obtain ⟨i, hi, hre⟩ := hfi.resolve_left h8
            refine lv_aload_n Bx.1 Bx.2.1 d_Rd_readName_91 rfl (lv_at hl 3 rfl) ?_
            refine f_get Bx hP (by omega) h9_36 rfl inRd 1 (by decide) kw_145 rfl rfl d_Rd_readName_92 ?_
            refine f_getN Bx hP (by omega) h5_39 rfl inGr 0 (by decide) kw_115 rfl rfl d_Rd_readName_95 ?_
            refine lv_iload Bx.1 Bx.2.1 d_Rd_readName_98 (lv_at hl 0 rfl) ?_
            refine f_aald (t0 := 5) Bx hP (by omega) hRS.1.2.2.1 rfl i hre (by omega) (by decide) (q := ad (7 + i)) (by unfold rfA; rw [if_pos (by omega), Nat.one_mul]) d_Rd_readName_100 ?_
            exact x_aret hx hb hlocks hr (⟨i, rc, rfl, hi, Nat.le_refl _, hRS⟩) hP hS d_Rd_readName_101
        · refine lv_lload_n Bx.1 Bx.2.1 d_Rd_readName_42 rfl (lv_at hl 1 rfl) ?_
          refine lv_aload_n Bx.1 Bx.2.1 d_Rd_readName_43 rfl (lv_at hl 3 rfl) ?_
          refine f_callVi (na := 0) (As := []) (rest := [.long (nm)]) Bx hml E hP hD hS (by omega) h9_36 rfl (m_Rd_peek l hn hT hRS) kw_353 kw_355 sel_Rd_peek kw_6 kw_356 (by decide +kernel) ⟨rfl, rfl⟩ ⟨Nat.le_of_ble_eq_true rfl, Nat.le_of_ble_eq_true rfl⟩ rfl hl.1 (Nat.le_of_ble_eq_true rfl) d_Rd_readName_44 ⟨Nat.le_of_ble_eq_true rfl, Nat.le_of_ble_eq_true rfl⟩ (fun r94 mem95 H locs hq hP hS => ?_)
          have hD : va_D (Az sz) (fw n ad mem95) := fw_D hD
          rw [hq] at hP hD
          refine f_callSNi (na := 1) (As := [.int (r94)]) (rest := [.long (nm)]) Bx hml E.2.1 (m_Ab_smallOf l (r94)) kw_372 kw_373 kw_1 kw_374 (by decide +kernel) ⟨rfl, rfl⟩ ⟨Nat.le_of_ble_eq_true rfl, Nat.le_of_ble_eq_true rfl⟩ rfl hl.1 (Nat.le_of_ble_eq_true rfl) d_Rd_readName_47 ⟨Nat.le_of_ble_eq_true rfl, Nat.le_of_ble_eq_true rfl⟩ (fun r97 hs96 => ?_)
          refine lv_i2l Bx.1 Bx.2.1 d_Rd_readName_50 rfl ?_
          refine lv_bipush (v := 8) Bx.1 Bx.2.1 d_Rd_readName_51 (by decide) ?_
          refine lv_iload Bx.1 Bx.2.1 d_Rd_readName_53 (lv_at hl 0 rfl) ?_
          refine lv_imul Bx.1 Bx.2.1 d_Rd_readName_55 ?_
          refine lv_lshl Bx.1 Bx.2.1 d_Rd_readName_56 rfl ?_
          refine lv_lor Bx.1 Bx.2.1 d_Rd_readName_57 ?_
          refine lv_lstore_n (lv' := [(2, .long (nm ||| ((r97).toInt64) <<< ((8 * k : Int32).toInt64 &&& 63))), (4, .int (k)), (1, .int (at1)), (0, .ref (ad 222))]) Bx.1 Bx.2.1 d_Rd_readName_58 rfl hl (by decide) rfl (fun ls hl => ?_)
          refine lv_aload_n Bx.1 Bx.2.1 d_Rd_readName_59 rfl (lv_at hl 3 rfl) ?_
          refine lv_dup Bx.1 Bx.2.1 d_Rd_readName_60 rfl ?_
          refine f_get Bx hP (by omega) h9_36 rfl inRd 2 (by decide) kw_146 rfl rfl d_Rd_readName_61 ?_
          refine lv_iconst (v := 1) Bx.1 Bx.2.1 d_Rd_readName_64 (by decide) ?_
          refine lv_iadd Bx.1 Bx.2.1 d_Rd_readName_65 ?_
          refine f_put Bx hP hD hS (by omega) h9_36 rfl inRd tyRd okRd nmRd 2 (by decide) kw_146 rfl rfl rfl rfl (Nat.le_of_ble_eq_true rfl) d_Rd_readName_66 (fun H locs hP hS => ?_)
          obtain ⟨mem98, e_mem98⟩ : ∃ z, z = va_up mem (222) (.inr (4, [.ref (ad 1), .ref (ad 5), .int (at34 + 1), .int (ft35)])) := ⟨_, rfl⟩
          have hP : va_P D vcl (fw n ad mem98) H := by rw [e_mem98]; exact hP
          have hD : va_D (Az sz) (fw n ad mem98) := fw_D hD
          have h_mem98 : mem98 (222) = .inr (4, [.ref (ad 1), .ref (ad 5), .int (at34 + 1), .int (ft35)]) := by rw [e_mem98, va_up_self]
          have hh99 := (va_up_ne mem (.inr (4, [.ref (ad 1), .ref (ad 5), .int (at34 + 1), .int (ft35)])) (show (1 : Nat) ≠ 222 by first | decide | assumption | omega)).trans h1_37
          rw [← e_mem98] at hh99
          have hh100 := (va_up_ne mem (.inr (4, [.ref (ad 1), .ref (ad 5), .int (at34 + 1), .int (ft35)])) (show (5 : Nat) ≠ 222 by first | decide | assumption | omega)).trans h5_39
          rw [← e_mem98] at hh100
          have hh101 := (va_up_ne mem (.inr (4, [.ref (ad 1), .ref (ad 5), .int (at34 + 1), .int (ft35)])) (show (220 : Nat) ≠ 222 by first | decide | assumption | omega)).trans h220_43
          rw [← e_mem98] at hh101
          have hRS102 : RS cy ad lim rc ec m0 mem98 := by rw [e_mem98]; exact hRS.at222
          refine lv_iinc (lv' := [(4, .int ((k + (1)))), (2, .long (nm ||| ((r97).toInt64) <<< ((8 * k : Int32).toInt64 &&& 63))), (1, .int (at1)), (0, .ref (ad 222))]) Bx.1 Bx.2.1 d_Rd_readName_69 hl (k := 1) rfl rfl (by decide) rfl (fun ls hl => ?_)
          refine lv_goto Bx.1 Bx.2.1 d_Rd_readName_72 rfl ?_
          exact ih _ _ _ _ _ _ (by have := inc_meas hk; omega) hRS102  hP hD hS (lv_sub hl [0, 1, 2, 3] rfl)
  exact loop33 _ _ _ _ _ _ _ (Nat.lt_succ_self _) hRS19  hP hD hS (lv_sub hl [0, 1, 2, 3] rfl)
