section RJ
variable {p : Program} {l : Launch} {e : Env} {R : Room} {s : State} {m : MethodId} {args : Array Value} {below : List Frame} {meth : Method} {c : Code} {H : Heap} {locs : List Loc} {cells slots : Nat} {Q : State → Prop}
variable {cc : ByteArray} {pc nL : Nat} {ls : Array Slot} {rest : List Value} {D : va_G} {cy : Nat → ClassId} {own C host : String} {T : u_T} {N ci index sz n j maxL na : Nat} {ad : Nat → Nat} {mem : Nat → va_E} {fs As : List Value} {y : MethodName} {bytes : ByteArray} {ret : Option FieldType} {rm : Room}
theorem f_callSJi {post : Int32 → Prop} {K : Prop} (B : p.tables.exec = Jvm.exec ∧ c.code = cc ∧ (∀ w ∈ TB, w.before args s = true) ∧ s.vm.findClass own = some m.cls ∧ K) (hml : c.maxLocals = nL) (hN : NW s)
    (M : MS l y bytes maxL ret rm As post) (h1 : Cond.methodLink own index y ∈ lw_tbl) (h2 : Cond.static y ∈ lw_tbl) (h4 : Cond.initialized y.cls ∈ lw_tbl) (h5 : Cond.code y bytes maxL ret ∈ lw_tbl)
    (hd : y.cls ≠ "java/lang/invoke/MethodHandle" ∧ y.cls ≠ "java/lang/invoke/VarHandle" ∧ (parseMethodDescriptor y.desc).map (fun d => d.parameters.length) = some na) (hrm : rm.cells = 0 ∧ rm.slots = 0) (hR : rm.frames + 1 ≤ R.frames ∧ 8 + (maxL + 11) + rm.locals ≤ R.locals) (hn : As.length = na) (hsz : ls.size = nL) (hw : (rest.map fun v => v.category).sum ≤ 8) (hdg : decode cc pc = .ok (.invokestatic index, 3)) (hf : cells ≤ R.cells ∧ slots ≤ R.slots)
    (kk : ∀ r : Int32, post r → W p l e R s m args below meth c H locs cells slots Q (F0 m (pc + 3) ls (.int r :: rest))) :
    W p l e R s m args below meth c H locs cells slots Q (F0 m pc ls (As.reverse ++ rest)) := by
  have hr := va_runS (H := H) (locs := locs) (cells := cells) (slots := slots) (g := F0 m pc ls (As.reverse ++ rest)) (As := As) (rest := rest) (e := e) (below := below) (meth := meth) ⟨B.1, B.2.1, hml, B.2.2.2.1, B.2.2.1⟩ M ⟨callB_of na B.2.2.1 (gdC h5 rfl) rfl hrm.1 hrm.2 (B.2.2.1 _ (tb_g h4 rfl)) (B.2.2.1 _ (tb_g h1 rfl)) hd hR, B.2.2.1 _ (tb_g h2 rfl)⟩ ⟨fun a U g mk q => ⟨q.1, q.2.warm (s := U) (U := U.calling g mk a) (State.WarmedH.refl U)⟩, fun U hU hW => ⟨rfl, hN.warm hW⟩⟩ rfl hn hsz rfl (lv_room hw) hdg hf
  intro X hX Y
  obtain ⟨v, st₀, t, T', L, h0, X', hL, e1, -, ⟨r, hv, hp, hh⟩, st⟩ := hr X hX Y
  cases hv
  obtain ⟨t2, a1, b1⟩ := kk r hp T' (by rw [e1, hh, h0]) (Stand.forget X' (fun q h => (hL q h).elim))
  exact ⟨t2, st t2 a1, b1⟩
end RJ
abbrev y_Jn_bitCount : MethodName := ⟨"java/lang/Integer", "bitCount", "(I)I"⟩
abbrev c_Jn_bitCount : ByteArray := prog_14_method_49_code
theorem d_Jn_bitCount_0 : decode c_Jn_bitCount 0 = .ok (.iload_n 0, 1) := by decide +kernel
theorem d_Jn_bitCount_1 : decode c_Jn_bitCount 1 = .ok (.iload_n 0, 1) := by decide +kernel
theorem d_Jn_bitCount_2 : decode c_Jn_bitCount 2 = .ok (.iconst 1, 1) := by decide +kernel
theorem d_Jn_bitCount_3 : decode c_Jn_bitCount 3 = .ok (.iushr, 1) := by decide +kernel
theorem d_Jn_bitCount_4 : decode c_Jn_bitCount 4 = .ok (.ldc_w 265, 3) := by decide +kernel
theorem d_Jn_bitCount_7 : decode c_Jn_bitCount 7 = .ok (.iand, 1) := by decide +kernel
theorem d_Jn_bitCount_8 : decode c_Jn_bitCount 8 = .ok (.isub, 1) := by decide +kernel
theorem d_Jn_bitCount_9 : decode c_Jn_bitCount 9 = .ok (.istore_n 0, 1) := by decide +kernel
theorem d_Jn_bitCount_10 : decode c_Jn_bitCount 10 = .ok (.iload_n 0, 1) := by decide +kernel
theorem d_Jn_bitCount_11 : decode c_Jn_bitCount 11 = .ok (.ldc_w 266, 3) := by decide +kernel
theorem d_Jn_bitCount_14 : decode c_Jn_bitCount 14 = .ok (.iand, 1) := by decide +kernel
theorem d_Jn_bitCount_15 : decode c_Jn_bitCount 15 = .ok (.iload_n 0, 1) := by decide +kernel
theorem d_Jn_bitCount_16 : decode c_Jn_bitCount 16 = .ok (.iconst 2, 1) := by decide +kernel
theorem d_Jn_bitCount_17 : decode c_Jn_bitCount 17 = .ok (.iushr, 1) := by decide +kernel
theorem d_Jn_bitCount_18 : decode c_Jn_bitCount 18 = .ok (.ldc_w 266, 3) := by decide +kernel
theorem d_Jn_bitCount_21 : decode c_Jn_bitCount 21 = .ok (.iand, 1) := by decide +kernel
theorem d_Jn_bitCount_22 : decode c_Jn_bitCount 22 = .ok (.iadd, 1) := by decide +kernel
theorem d_Jn_bitCount_23 : decode c_Jn_bitCount 23 = .ok (.istore_n 0, 1) := by decide +kernel
theorem d_Jn_bitCount_24 : decode c_Jn_bitCount 24 = .ok (.iload_n 0, 1) := by decide +kernel
theorem d_Jn_bitCount_25 : decode c_Jn_bitCount 25 = .ok (.iload_n 0, 1) := by decide +kernel
theorem d_Jn_bitCount_26 : decode c_Jn_bitCount 26 = .ok (.iconst 4, 1) := by decide +kernel
theorem d_Jn_bitCount_27 : decode c_Jn_bitCount 27 = .ok (.iushr, 1) := by decide +kernel
theorem d_Jn_bitCount_28 : decode c_Jn_bitCount 28 = .ok (.iadd, 1) := by decide +kernel
theorem d_Jn_bitCount_29 : decode c_Jn_bitCount 29 = .ok (.ldc_w 267, 3) := by decide +kernel
theorem d_Jn_bitCount_32 : decode c_Jn_bitCount 32 = .ok (.iand, 1) := by decide +kernel
theorem d_Jn_bitCount_33 : decode c_Jn_bitCount 33 = .ok (.istore_n 0, 1) := by decide +kernel
theorem d_Jn_bitCount_34 : decode c_Jn_bitCount 34 = .ok (.iload_n 0, 1) := by decide +kernel
theorem d_Jn_bitCount_35 : decode c_Jn_bitCount 35 = .ok (.iload_n 0, 1) := by decide +kernel
theorem d_Jn_bitCount_36 : decode c_Jn_bitCount 36 = .ok (.bipush 8, 2) := by decide +kernel
theorem d_Jn_bitCount_38 : decode c_Jn_bitCount 38 = .ok (.iushr, 1) := by decide +kernel
theorem d_Jn_bitCount_39 : decode c_Jn_bitCount 39 = .ok (.iadd, 1) := by decide +kernel
theorem d_Jn_bitCount_40 : decode c_Jn_bitCount 40 = .ok (.istore_n 0, 1) := by decide +kernel
theorem d_Jn_bitCount_41 : decode c_Jn_bitCount 41 = .ok (.iload_n 0, 1) := by decide +kernel
theorem d_Jn_bitCount_42 : decode c_Jn_bitCount 42 = .ok (.iload_n 0, 1) := by decide +kernel
theorem d_Jn_bitCount_43 : decode c_Jn_bitCount 43 = .ok (.bipush 16, 2) := by decide +kernel
theorem d_Jn_bitCount_45 : decode c_Jn_bitCount 45 = .ok (.iushr, 1) := by decide +kernel
theorem d_Jn_bitCount_46 : decode c_Jn_bitCount 46 = .ok (.iadd, 1) := by decide +kernel
theorem d_Jn_bitCount_47 : decode c_Jn_bitCount 47 = .ok (.istore_n 0, 1) := by decide +kernel
theorem d_Jn_bitCount_48 : decode c_Jn_bitCount 48 = .ok (.iload_n 0, 1) := by decide +kernel
theorem d_Jn_bitCount_49 : decode c_Jn_bitCount 49 = .ok (.bipush 63, 2) := by decide +kernel
theorem d_Jn_bitCount_51 : decode c_Jn_bitCount 51 = .ok (.iand, 1) := by decide +kernel
theorem d_Jn_bitCount_52 : decode c_Jn_bitCount 52 = .ok (.ireturn, 1) := by decide +kernel
theorem d_Ab_rule_0 : decode c_Ab_rule 0 = .ok (.aload_n 0, 1) := by decide +kernel
theorem d_Ab_rule_1 : decode c_Ab_rule 1 = .ok (.getfield 24, 3) := by decide +kernel
theorem d_Ab_rule_4 : decode c_Ab_rule 4 = .ok (.lload_n 1, 1) := by decide +kernel
theorem d_Ab_rule_5 : decode c_Ab_rule 5 = .ok (.invokevirtual 85, 3) := by decide +kernel
theorem d_Ab_rule_8 : decode c_Ab_rule 8 = .ok (.istore_n 3, 1) := by decide +kernel
theorem d_Ab_rule_9 : decode c_Ab_rule 9 = .ok (.aload_n 0, 1) := by decide +kernel
theorem d_Ab_rule_10 : decode c_Ab_rule 10 = .ok (.iload_n 3, 1) := by decide +kernel
theorem d_Ab_rule_11 : decode c_Ab_rule 11 = .ok (.invokevirtual 89, 3) := by decide +kernel
theorem d_Ab_rule_14 : decode c_Ab_rule 14 = .ok (.iload_n 3, 1) := by decide +kernel
theorem d_Ab_rule_15 : decode c_Ab_rule 15 = .ok (.ireturn, 1) := by decide +kernel
theorem d_Ab_matches_0 : decode c_Ab_matches 0 = .ok (.aload_n 0, 1) := by decide +kernel
theorem d_Ab_matches_1 : decode c_Ab_matches 1 = .ok (.iload_n 1, 1) := by decide +kernel
theorem d_Ab_matches_2 : decode c_Ab_matches 2 = .ok (.invokevirtual 89, 3) := by decide +kernel
theorem d_Ab_matches_5 : decode c_Ab_matches 5 = .ok (.aload_n 0, 1) := by decide +kernel
theorem d_Ab_matches_6 : decode c_Ab_matches 6 = .ok (.iload_n 2, 1) := by decide +kernel
theorem d_Ab_matches_7 : decode c_Ab_matches 7 = .ok (.iload_n 3, 1) := by decide +kernel
theorem d_Ab_matches_8 : decode c_Ab_matches 8 = .ok (.invokevirtual 95, 3) := by decide +kernel
theorem d_Ab_matches_11 : decode c_Ab_matches 11 = .ok (.aload_n 0, 1) := by decide +kernel
theorem d_Ab_matches_12 : decode c_Ab_matches 12 = .ok (.getfield 40, 3) := by decide +kernel
theorem d_Ab_matches_15 : decode c_Ab_matches 15 = .ok (.iload_n 1, 1) := by decide +kernel
theorem d_Ab_matches_16 : decode c_Ab_matches 16 = .ok (.iload_n 2, 1) := by decide +kernel
theorem d_Ab_matches_17 : decode c_Ab_matches 17 = .ok (.invokevirtual 99, 3) := by decide +kernel
theorem d_Ab_matches_20 : decode c_Ab_matches 20 = .ok (.iload_n 3, 1) := by decide +kernel
theorem d_Ab_matches_21 : decode c_Ab_matches 21 = .ok (.ishr, 1) := by decide +kernel
theorem d_Ab_matches_22 : decode c_Ab_matches 22 = .ok (.iconst 1, 1) := by decide +kernel
theorem d_Ab_matches_23 : decode c_Ab_matches 23 = .ok (.iand, 1) := by decide +kernel
theorem d_Ab_matches_24 : decode c_Ab_matches 24 = .ok (.iconst 1, 1) := by decide +kernel
theorem d_Ab_matches_25 : decode c_Ab_matches 25 = .ok (.if_icmp .ne 7, 3) := by decide +kernel
theorem d_Ab_matches_28 : decode c_Ab_matches 28 = .ok (.iconst 1, 1) := by decide +kernel
theorem d_Ab_matches_29 : decode c_Ab_matches 29 = .ok (.goto 4, 3) := by decide +kernel
theorem d_Ab_matches_32 : decode c_Ab_matches 32 = .ok (.iconst 0, 1) := by decide +kernel
theorem d_Ab_matches_33 : decode c_Ab_matches 33 = .ok (.ireturn, 1) := by decide +kernel
theorem d_Ab_longest_0 : decode c_Ab_longest 0 = .ok (.aload_n 0, 1) := by decide +kernel
theorem d_Ab_longest_1 : decode c_Ab_longest 1 = .ok (.iload_n 1, 1) := by decide +kernel
theorem d_Ab_longest_2 : decode c_Ab_longest 2 = .ok (.invokevirtual 89, 3) := by decide +kernel
theorem d_Ab_longest_5 : decode c_Ab_longest 5 = .ok (.aload_n 0, 1) := by decide +kernel
theorem d_Ab_longest_6 : decode c_Ab_longest 6 = .ok (.iload_n 2, 1) := by decide +kernel
theorem d_Ab_longest_7 : decode c_Ab_longest 7 = .ok (.iload_n 2, 1) := by decide +kernel
theorem d_Ab_longest_8 : decode c_Ab_longest 8 = .ok (.invokevirtual 95, 3) := by decide +kernel
theorem d_Ab_longest_11 : decode c_Ab_longest 11 = .ok (.aload_n 0, 1) := by decide +kernel
theorem d_Ab_longest_12 : decode c_Ab_longest 12 = .ok (.getfield 40, 3) := by decide +kernel
theorem d_Ab_longest_15 : decode c_Ab_longest 15 = .ok (.iload_n 1, 1) := by decide +kernel
theorem d_Ab_longest_16 : decode c_Ab_longest 16 = .ok (.iload_n 2, 1) := by decide +kernel
theorem d_Ab_longest_17 : decode c_Ab_longest 17 = .ok (.invokevirtual 99, 3) := by decide +kernel
theorem d_Ab_longest_20 : decode c_Ab_longest 20 = .ok (.istore_n 3, 1) := by decide +kernel
theorem d_Ab_longest_21 : decode c_Ab_longest 21 = .ok (.aload_n 0, 1) := by decide +kernel
theorem d_Ab_longest_22 : decode c_Ab_longest 22 = .ok (.getfield 18, 3) := by decide +kernel
theorem d_Ab_longest_25 : decode c_Ab_longest 25 = .ok (.getfield 65, 3) := by decide +kernel
theorem d_Ab_longest_28 : decode c_Ab_longest 28 = .ok (.istore 4, 2) := by decide +kernel
theorem d_Ab_longest_30 : decode c_Ab_longest 30 = .ok (.iload 4, 2) := by decide +kernel
theorem d_Ab_longest_32 : decode c_Ab_longest 32 = .ok (.iload_n 2, 1) := by decide +kernel
theorem d_Ab_longest_33 : decode c_Ab_longest 33 = .ok (.if_icmp .lt 22, 3) := by decide +kernel
theorem d_Ab_longest_36 : decode c_Ab_longest 36 = .ok (.iload_n 3, 1) := by decide +kernel
theorem d_Ab_longest_37 : decode c_Ab_longest 37 = .ok (.iload 4, 2) := by decide +kernel
theorem d_Ab_longest_39 : decode c_Ab_longest 39 = .ok (.ishr, 1) := by decide +kernel
theorem d_Ab_longest_40 : decode c_Ab_longest 40 = .ok (.iconst 1, 1) := by decide +kernel
theorem d_Ab_longest_41 : decode c_Ab_longest 41 = .ok (.iand, 1) := by decide +kernel
theorem d_Ab_longest_42 : decode c_Ab_longest 42 = .ok (.iconst 1, 1) := by decide +kernel
theorem d_Ab_longest_43 : decode c_Ab_longest 43 = .ok (.if_icmp .ne 6, 3) := by decide +kernel
theorem d_Ab_longest_46 : decode c_Ab_longest 46 = .ok (.iload 4, 2) := by decide +kernel
theorem d_Ab_longest_48 : decode c_Ab_longest 48 = .ok (.ireturn, 1) := by decide +kernel
theorem d_Ab_longest_49 : decode c_Ab_longest 49 = .ok (.iinc 4 (-1), 3) := by decide +kernel
theorem d_Ab_longest_52 : decode c_Ab_longest 52 = .ok (.goto (-22), 3) := by decide +kernel
theorem d_Ab_longest_55 : decode c_Ab_longest 55 = .ok (.iconst (-1), 1) := by decide +kernel
theorem d_Ab_longest_56 : decode c_Ab_longest 56 = .ok (.ireturn, 1) := by decide +kernel
theorem d_Ab_pieces_0 : decode c_Ab_pieces 0 = .ok (.aload_n 0, 1) := by decide +kernel
theorem d_Ab_pieces_1 : decode c_Ab_pieces 1 = .ok (.iload_n 1, 1) := by decide +kernel
theorem d_Ab_pieces_2 : decode c_Ab_pieces 2 = .ok (.invokevirtual 89, 3) := by decide +kernel
theorem d_Ab_pieces_5 : decode c_Ab_pieces 5 = .ok (.iconst 0, 1) := by decide +kernel
theorem d_Ab_pieces_6 : decode c_Ab_pieces 6 = .ok (.istore_n 2, 1) := by decide +kernel
theorem d_Ab_pieces_7 : decode c_Ab_pieces 7 = .ok (.iconst 0, 1) := by decide +kernel
theorem d_Ab_pieces_8 : decode c_Ab_pieces 8 = .ok (.istore_n 3, 1) := by decide +kernel
theorem d_Ab_pieces_9 : decode c_Ab_pieces 9 = .ok (.iload_n 3, 1) := by decide +kernel
theorem d_Ab_pieces_10 : decode c_Ab_pieces 10 = .ok (.aload_n 0, 1) := by decide +kernel
theorem d_Ab_pieces_11 : decode c_Ab_pieces 11 = .ok (.getfield 18, 3) := by decide +kernel
theorem d_Ab_pieces_14 : decode c_Ab_pieces 14 = .ok (.getfield 65, 3) := by decide +kernel
theorem d_Ab_pieces_17 : decode c_Ab_pieces 17 = .ok (.if_icmp .gt 24, 3) := by decide +kernel
theorem d_Ab_pieces_20 : decode c_Ab_pieces 20 = .ok (.iload_n 2, 1) := by decide +kernel
theorem d_Ab_pieces_21 : decode c_Ab_pieces 21 = .ok (.aload_n 0, 1) := by decide +kernel
theorem d_Ab_pieces_22 : decode c_Ab_pieces 22 = .ok (.getfield 40, 3) := by decide +kernel
theorem d_Ab_pieces_25 : decode c_Ab_pieces 25 = .ok (.iload_n 1, 1) := by decide +kernel
theorem d_Ab_pieces_26 : decode c_Ab_pieces 26 = .ok (.iload_n 3, 1) := by decide +kernel
theorem d_Ab_pieces_27 : decode c_Ab_pieces 27 = .ok (.invokevirtual 99, 3) := by decide +kernel
theorem d_Ab_pieces_30 : decode c_Ab_pieces 30 = .ok (.invokestatic 103, 3) := by decide +kernel
theorem d_Ab_pieces_33 : decode c_Ab_pieces 33 = .ok (.iadd, 1) := by decide +kernel
theorem d_Ab_pieces_34 : decode c_Ab_pieces 34 = .ok (.istore_n 2, 1) := by decide +kernel
theorem d_Ab_pieces_35 : decode c_Ab_pieces 35 = .ok (.iinc 3 1, 3) := by decide +kernel
theorem d_Ab_pieces_38 : decode c_Ab_pieces 38 = .ok (.goto (-29), 3) := by decide +kernel
theorem d_Ab_pieces_41 : decode c_Ab_pieces 41 = .ok (.iload_n 2, 1) := by decide +kernel
theorem d_Ab_pieces_42 : decode c_Ab_pieces 42 = .ok (.ireturn, 1) := by decide +kernel
theorem d_Ab_count_0 : decode c_Ab_count 0 = .ok (.iload_n 1, 1) := by decide +kernel
theorem d_Ab_count_1 : decode c_Ab_count 1 = .ok (.tableswitch 51 0 2 #[27, 35, 43], 27) := by decide +kernel
theorem d_Ab_count_28 : decode c_Ab_count 28 = .ok (.aload_n 0, 1) := by decide +kernel
theorem d_Ab_count_29 : decode c_Ab_count 29 = .ok (.getfield 24, 3) := by decide +kernel
theorem d_Ab_count_32 : decode c_Ab_count 32 = .ok (.invokevirtual 79, 3) := by decide +kernel
theorem d_Ab_count_35 : decode c_Ab_count 35 = .ok (.ireturn, 1) := by decide +kernel
theorem d_Ab_count_36 : decode c_Ab_count 36 = .ok (.aload_n 0, 1) := by decide +kernel
theorem d_Ab_count_37 : decode c_Ab_count 37 = .ok (.getfield 24, 3) := by decide +kernel
theorem d_Ab_count_40 : decode c_Ab_count 40 = .ok (.invokevirtual 109, 3) := by decide +kernel
theorem d_Ab_count_43 : decode c_Ab_count 43 = .ok (.ireturn, 1) := by decide +kernel
theorem d_Ab_count_44 : decode c_Ab_count 44 = .ok (.aload_n 0, 1) := by decide +kernel
theorem d_Ab_count_45 : decode c_Ab_count 45 = .ok (.getfield 24, 3) := by decide +kernel
theorem d_Ab_count_48 : decode c_Ab_count 48 = .ok (.invokevirtual 112, 3) := by decide +kernel
theorem d_Ab_count_51 : decode c_Ab_count 51 = .ok (.ireturn, 1) := by decide +kernel
theorem d_Ab_count_52 : decode c_Ab_count 52 = .ok (.new 115, 3) := by decide +kernel
theorem d_Ab_count_55 : decode c_Ab_count 55 = .ok (.dup, 1) := by decide +kernel
theorem d_Ab_count_56 : decode c_Ab_count 56 = .ok (.invokespecial 117, 3) := by decide +kernel
theorem d_Ab_count_59 : decode c_Ab_count 59 = .ok (.athrow, 1) := by decide +kernel
theorem d_Gr_toldTotal_0 : decode c_Gr_toldTotal 0 = .ok (.iconst 0, 1) := by decide +kernel
theorem d_Gr_toldTotal_1 : decode c_Gr_toldTotal 1 = .ok (.istore_n 1, 1) := by decide +kernel
theorem d_Gr_toldTotal_2 : decode c_Gr_toldTotal 2 = .ok (.iconst 0, 1) := by decide +kernel
theorem d_Gr_toldTotal_3 : decode c_Gr_toldTotal 3 = .ok (.istore_n 2, 1) := by decide +kernel
theorem d_Gr_toldTotal_4 : decode c_Gr_toldTotal 4 = .ok (.iload_n 2, 1) := by decide +kernel
theorem d_Gr_toldTotal_5 : decode c_Gr_toldTotal 5 = .ok (.aload_n 0, 1) := by decide +kernel
theorem d_Gr_toldTotal_6 : decode c_Gr_toldTotal 6 = .ok (.invokevirtual 49, 3) := by decide +kernel
theorem d_Gr_toldTotal_9 : decode c_Gr_toldTotal 9 = .ok (.if_icmp .ge 24, 3) := by decide +kernel
theorem d_Gr_toldTotal_12 : decode c_Gr_toldTotal 12 = .ok (.aload_n 0, 1) := by decide +kernel
theorem d_Gr_toldTotal_13 : decode c_Gr_toldTotal 13 = .ok (.getfield 11, 3) := by decide +kernel
theorem d_Gr_toldTotal_16 : decode c_Gr_toldTotal 16 = .ok (.iload_n 2, 1) := by decide +kernel
theorem d_Gr_toldTotal_17 : decode c_Gr_toldTotal 17 = .ok (.aaload, 1) := by decide +kernel
theorem d_Gr_toldTotal_18 : decode c_Gr_toldTotal 18 = .ok (.invokevirtual 52, 3) := by decide +kernel
theorem d_Gr_toldTotal_21 : decode c_Gr_toldTotal 21 = .ok (.ifCond .eq 6, 3) := by decide +kernel
theorem d_Gr_toldTotal_24 : decode c_Gr_toldTotal 24 = .ok (.iinc 1 1, 3) := by decide +kernel
theorem d_Gr_toldTotal_27 : decode c_Gr_toldTotal 27 = .ok (.iinc 2 1, 3) := by decide +kernel
theorem d_Gr_toldTotal_30 : decode c_Gr_toldTotal 30 = .ok (.goto (-26), 3) := by decide +kernel
theorem d_Gr_toldTotal_33 : decode c_Gr_toldTotal 33 = .ok (.iload_n 1, 1) := by decide +kernel
theorem d_Gr_toldTotal_34 : decode c_Gr_toldTotal 34 = .ok (.ireturn, 1) := by decide +kernel
set_option maxHeartbeats 4000000 in
set_option maxRecDepth 100000 in
theorem m_Jn_bitCount (l : Launch) (x : Int32) : MS l y_Jn_bitCount c_Jn_bitCount 1 (some .int) ({ frames := 0, cells := 0, slots := 0, locals := 0 } : Room) [.int (x)] (fun r => True) := by
  refine Met.ofW (cc := c_Jn_bitCount) (maxL := 1) (ret := (some .int)) (by decide) rfl ?_
  intro p e s m args below meth c s₁ B hml hv
  obtain ⟨rfl, hN⟩ := hv
  have hx := B.exec
  have hb := B.bytes
  have hr := B.returns
  have hlocks := B.notSynchronized
  have Bx : p.tables.exec = Jvm.exec ∧ c.code = c_Jn_bitCount ∧ (∀ w ∈ TB, w.before [.int (x)].toArray s = true) ∧ s.vm.findClass "java/lang/Integer" = some m.cls ∧ True := ⟨hx, hb, tb_all (atoms_spec B.pre) hN, findClass_of_methodNamed B.named, trivial⟩
  have hl := lv_entry ([.int (x)]) (n := 1) (Nat.le_of_ble_eq_true rfl)
  rw [lg_entry_eq]
  generalize (lg_sl ([.int (x)]) ++ List.replicate (1 - (lg_sl ([.int (x)])).length) Slot.unset).toArray = ls at hl ⊢
  have hl : lv_has ls 1 [(0, .int (x))] := hl
  refine lv_iload_n Bx.1 Bx.2.1 d_Jn_bitCount_0 rfl (lv_at hl 0 rfl) ?_
  refine lv_iload_n Bx.1 Bx.2.1 d_Jn_bitCount_1 rfl (lv_at hl 0 rfl) ?_
  refine lv_iconst (v := 1) Bx.1 Bx.2.1 d_Jn_bitCount_2 (by decide) ?_
  refine lv_iushr Bx.1 Bx.2.1 d_Jn_bitCount_3 rfl ?_
  refine lv_topi (fun bc1 e_bc1 => ?_)
  refine lv_ldcw Bx.1 Bx.2.1 Bx.2.2.2.1 (Bx.2.2.1 _ (tb_g kw_630 rfl)) d_Jn_bitCount_4 ?_
  refine lv_iand Bx.1 Bx.2.1 d_Jn_bitCount_7 ?_
  refine lv_topi (fun bc2 e_bc2 => ?_)
  refine lv_isub Bx.1 Bx.2.1 d_Jn_bitCount_8 ?_
  refine lv_topi (fun bc3 e_bc3 => ?_)
  refine lv_istore_n (lv' := [(0, .int (bc3))]) Bx.1 Bx.2.1 d_Jn_bitCount_9 rfl hl (by decide) rfl (fun ls hl => ?_)
  refine lv_iload_n Bx.1 Bx.2.1 d_Jn_bitCount_10 rfl (lv_at hl 0 rfl) ?_
  refine lv_ldcw Bx.1 Bx.2.1 Bx.2.2.2.1 (Bx.2.2.1 _ (tb_g kw_631 rfl)) d_Jn_bitCount_11 ?_
  refine lv_iand Bx.1 Bx.2.1 d_Jn_bitCount_14 ?_
  refine lv_topi (fun bc4 e_bc4 => ?_)
  refine lv_iload_n Bx.1 Bx.2.1 d_Jn_bitCount_15 rfl (lv_at hl 0 rfl) ?_
  refine lv_iconst (v := 2) Bx.1 Bx.2.1 d_Jn_bitCount_16 (by decide) ?_
  refine lv_iushr Bx.1 Bx.2.1 d_Jn_bitCount_17 rfl ?_
  refine lv_topi (fun bc5 e_bc5 => ?_)
  refine lv_ldcw Bx.1 Bx.2.1 Bx.2.2.2.1 (Bx.2.2.1 _ (tb_g kw_631 rfl)) d_Jn_bitCount_18 ?_
  refine lv_iand Bx.1 Bx.2.1 d_Jn_bitCount_21 ?_
  refine lv_topi (fun bc6 e_bc6 => ?_)
  refine lv_iadd Bx.1 Bx.2.1 d_Jn_bitCount_22 ?_
  refine lv_topi (fun bc7 e_bc7 => ?_)
  refine lv_istore_n (lv' := [(0, .int (bc7))]) Bx.1 Bx.2.1 d_Jn_bitCount_23 rfl hl (by decide) rfl (fun ls hl => ?_)
  refine lv_iload_n Bx.1 Bx.2.1 d_Jn_bitCount_24 rfl (lv_at hl 0 rfl) ?_
  refine lv_iload_n Bx.1 Bx.2.1 d_Jn_bitCount_25 rfl (lv_at hl 0 rfl) ?_
  refine lv_iconst (v := 4) Bx.1 Bx.2.1 d_Jn_bitCount_26 (by decide) ?_
  refine lv_iushr Bx.1 Bx.2.1 d_Jn_bitCount_27 rfl ?_
  refine lv_topi (fun bc8 e_bc8 => ?_)
  refine lv_iadd Bx.1 Bx.2.1 d_Jn_bitCount_28 ?_
  refine lv_topi (fun bc9 e_bc9 => ?_)
  refine lv_ldcw Bx.1 Bx.2.1 Bx.2.2.2.1 (Bx.2.2.1 _ (tb_g kw_632 rfl)) d_Jn_bitCount_29 ?_
  refine lv_iand Bx.1 Bx.2.1 d_Jn_bitCount_32 ?_
  refine lv_topi (fun bc10 e_bc10 => ?_)
  refine lv_istore_n (lv' := [(0, .int (bc10))]) Bx.1 Bx.2.1 d_Jn_bitCount_33 rfl hl (by decide) rfl (fun ls hl => ?_)
  refine lv_iload_n Bx.1 Bx.2.1 d_Jn_bitCount_34 rfl (lv_at hl 0 rfl) ?_
  refine lv_iload_n Bx.1 Bx.2.1 d_Jn_bitCount_35 rfl (lv_at hl 0 rfl) ?_
  refine lv_bipush (v := 8) Bx.1 Bx.2.1 d_Jn_bitCount_36 (by decide) ?_
  refine lv_iushr Bx.1 Bx.2.1 d_Jn_bitCount_38 rfl ?_
  refine lv_topi (fun bc11 e_bc11 => ?_)
  refine lv_iadd Bx.1 Bx.2.1 d_Jn_bitCount_39 ?_
  refine lv_topi (fun bc12 e_bc12 => ?_)
  refine lv_istore_n (lv' := [(0, .int (bc12))]) Bx.1 Bx.2.1 d_Jn_bitCount_40 rfl hl (by decide) rfl (fun ls hl => ?_)
  refine lv_iload_n Bx.1 Bx.2.1 d_Jn_bitCount_41 rfl (lv_at hl 0 rfl) ?_
  refine lv_iload_n Bx.1 Bx.2.1 d_Jn_bitCount_42 rfl (lv_at hl 0 rfl) ?_
  refine lv_bipush (v := 16) Bx.1 Bx.2.1 d_Jn_bitCount_43 (by decide) ?_
  refine lv_iushr Bx.1 Bx.2.1 d_Jn_bitCount_45 rfl ?_
  refine lv_topi (fun bc13 e_bc13 => ?_)
  refine lv_iadd Bx.1 Bx.2.1 d_Jn_bitCount_46 ?_
  refine lv_topi (fun bc14 e_bc14 => ?_)
  refine lv_istore_n (lv' := [(0, .int (bc14))]) Bx.1 Bx.2.1 d_Jn_bitCount_47 rfl hl (by decide) rfl (fun ls hl => ?_)
  refine lv_iload_n Bx.1 Bx.2.1 d_Jn_bitCount_48 rfl (lv_at hl 0 rfl) ?_
  refine lv_bipush (v := 63) Bx.1 Bx.2.1 d_Jn_bitCount_49 (by decide) ?_
  refine lv_iand Bx.1 Bx.2.1 d_Jn_bitCount_51 ?_
  refine lv_topi (fun bc15 e_bc15 => ?_)
  exact W.iret (v := bc15) hx hb hr (fun t ht hW => ⟨bc15, rfl, trivial, ht⟩) (fun _ h => by cases h) d_Jn_bitCount_52
abbrev abC (ad : Nat → Nat) : va_E := .inr (6, [.ref (ad 1), .ref (ad 3), .ref (ad 5), .ref (ad 222), .ref (ad 223)])
abbrev ctC (ad : Nat → Nat) (fl : Int32) : va_E := .inr (1, [.ref (ad 3), .ref (ad 5), .int fl])
/-- the class's object between calls; Z: its text's length -/
def KI (cy : Nat → ClassId) (ad : Nat → Nat) (Z : Nat) (mem : Nat → va_E) : Prop :=
  mem 0 = abC ad ∧ (∃ f : Nat → Int32, TX cy ad Z f mem) ∧ (∃ I : Nat, IX cy ad I mem) ∧ (∃ (lim rc ec : Nat) (wh : Int32), GI cy ad lim rc ec wh mem) ∧ (∃ a t : Int32, mem 222 = .inr (4, [.ref (ad 1), .ref (ad 5), .int a, .int t])) ∧ ∃ fl : Int32, mem 223 = ctC ad fl
theorem KI.frame {cy : Nat → ClassId} {ad : Nat → Nat} {Z : Nat} {mem mem' : Nat → va_E} (h : KI cy ad Z mem) (e : ∀ i, i < 224 → mem' i = mem i) : KI cy ad Z mem' := by
  obtain ⟨h0, ⟨f, h1, hz, h2⟩, ⟨I, h3, hI, g, h4⟩, ⟨lim, rc, ec, wh, hG⟩, ⟨a, t, h9⟩, fl, hc⟩ := h
  exact ⟨(e 0 (by omega)).trans h0, ⟨f, (e 1 (by omega)).trans h1, hz, (e 2 (by omega)).trans h2⟩, ⟨I, (e 3 (by omega)).trans h3, hI, g, (e 4 (by omega)).trans h4⟩, ⟨lim, rc, ec, wh, hG.frame (fun i _ h => e i (by omega))⟩, ⟨a, t, (e 222 (by omega)).trans h9⟩, fl, (e 223 (by omega)).trans hc⟩
theorem KI.chart {cy : Nat → ClassId} {ad : Nat → Nat} {Z : Nat} {mem mem' : Nat → va_E} (h : KI cy ad Z mem) {lim rc ec : Nat} {wh fl : Int32} (hC : CS cy ad lim rc ec wh fl (va_up mem 223 (ctC ad fl)) mem') : KI cy ad Z mem' ∧ ∀ i, 224 ≤ i ∨ i < 20 → mem' i = mem i := by
  obtain ⟨h0, ⟨f, h1, hz, h2⟩, ⟨I, h3, hI, g, h4⟩, -, ⟨a, t, h9⟩, -⟩ := h
  have e : ∀ i, i ≠ 223 → i < 20 ∨ 222 ≤ i → mem' i = mem i := fun i q q2 => (hC.2.2 i q2).trans (va_up_ne _ _ q)
  exact ⟨⟨(e 0 (by omega) (by omega)).trans h0, ⟨f, (e 1 (by omega) (by omega)).trans h1, hz, (e 2 (by omega) (by omega)).trans h2⟩, ⟨I, (e 3 (by omega) (by omega)).trans h3, hI, g, (e 4 (by omega) (by omega)).trans h4⟩, ⟨lim, rc, ec, wh, hC.1⟩, ⟨a, t, (e 222 (by omega) (by omega)).trans h9⟩, fl, (hC.2.2 223 (by omega)).trans hC.2.1⟩, fun i hi => e i (by omega) (by omega)⟩
theorem rl_ok {k wh : Int32} {rc : Nat} (hb : rc ≤ 12) (h1 : ¬ k < 0) (h2 : k < (if wh = 0 then 0 else nI rc)) : ∃ r0 : Nat, r0 < rc ∧ k = nI r0 := by
  obtain ⟨j, hj, rfl⟩ := nI_of h1
  by_cases q : wh = 0
  · rw [if_pos q] at h2; exact absurd h2 h1
  · rw [if_neg q] at h2; exact ⟨j, (nI_ltI hj (by omega)).mp h2, rfl⟩
theorem pc_ok {i j : Int32} {I : Nat} (hI : I ≤ 24) (h1 : ¬ i < 0) (h2 : ¬ j < i) (h3 : j ≤ nI I) : ∃ i0 : Nat, i0 ≤ I ∧ i = nI i0 := by
  obtain ⟨k, hk, rfl⟩ := nI_of h1
  exact ⟨k, (nI_leI hk (by omega)).mp (Int32.le_trans (Int32.not_lt.mp h2) h3), rfl⟩
theorem m1_lt {k : Nat} (h : k < 2 ^ 31) : (-1 : Int32) < nI k := by
  rw [Int32.lt_iff_toInt_lt, nI_toInt h]
  have : (-1 : Int32).toInt = -1 := by decide
  omega
set_option maxHeartbeats 4000000 in
set_option maxRecDepth 100000 in
theorem m_Ru_isToldG (l : Launch) {D : va_G} {cy : Nat → ClassId} {sz n : Nat} {ad : Nat → Nat} {mem : Nat → va_E} {lim rc ec : Nat} {wh : Int32} {i : Nat} (hn : 224 ≤ n) (hG : GI cy ad lim rc ec wh mem) (hi : i < rc) : MI l D cy sz n ad y_Ru_isTold c_Ru_isTold 1 (some .boolean) ({ frames := 0, cells := 0, slots := 0, locals := 0 } : Room) mem [.ref (ad (7 + i))] (fun r mem' => mem' = mem) := by
  refine Met.ofW (cc := c_Ru_isTold) (maxL := 1) (ret := (some .boolean)) (by decide) rfl ?_
  intro p e s m args below meth c s₁ B hml hv
  obtain ⟨rfl, E, hP, hD⟩ := hv
  have hx := B.exec
  have hb := B.bytes
  have hr := B.returns
  have hlocks := B.notSynchronized
  have Bx : MB p s m [.ref (ad (7 + i))].toArray c c_Ru_isTold "AbnfChart$Rule" D cy := ⟨hx, hb, tb_all (atoms_spec B.pre) E.2.1, findClass_of_methodNamed B.named, E.1⟩
  have hS : va_S (Az sz) s.heap s.heap [] := va_S.rf
  have hl := lv_entry ([.ref (ad (7 + i))]) (n := 1) (Nat.le_of_ble_eq_true rfl)
  rw [lg_entry_eq]
  generalize (lg_sl ([.ref (ad (7 + i))]) ++ List.replicate (1 - (lg_sl ([.ref (ad (7 + i))])).length) Slot.unset).toArray = ls at hl ⊢
  have hl : lv_has ls 1 [(0, .ref (ad (7 + i)))] := hl
  have hbd := hG.1
  obtain ⟨nm9, v9, w9, hru, hro⟩ := hG.2.2.2.2.1 i (by omega)
  refine lv_aload_n Bx.1 Bx.2.1 d_Ru_isTold_0 rfl (lv_at hl 0 rfl) ?_
  refine f_get Bx hP (by omega) hru rfl inRu 1 (by decide) kw_57 rfl rfl d_Ru_isTold_1 ?_
  rcases (hro hi).1 with hv | ⟨j, hj1, hj2, hv⟩
  · rw [hv]
    refine lv_ifnullN Bx.1 Bx.2.1 d_Ru_isTold_4 rfl ?_
    refine lv_iconst (v := 0) Bx.1 Bx.2.1 d_Ru_isTold_11 (by decide) ?_
    exact W.zret (v := 0) hx hb hr rfl (fun t ht hW => ⟨⟨0, mem, rfl, rfl, by show va_P _ _ _ t.heap; rw [ht]; exact hP⟩, hS.F ht⟩) hS.2.2 d_Ru_isTold_12
  · rw [hv]
    refine lv_ifnull Bx.1 Bx.2.1 d_Ru_isTold_4 ?_
    refine lv_iconst (v := 1) Bx.1 Bx.2.1 d_Ru_isTold_7 (by decide) ?_
    refine lv_goto Bx.1 Bx.2.1 d_Ru_isTold_8 rfl ?_
    exact W.zret (v := 1) hx hb hr rfl (fun t ht hW => ⟨⟨1, mem, rfl, rfl, by show va_P _ _ _ t.heap; rw [ht]; exact hP⟩, hS.F ht⟩) hS.2.2 d_Ru_isTold_12
set_option maxHeartbeats 4000000 in
set_option maxRecDepth 100000 in
theorem m_Gr_findG (l : Launch) {D : va_G} {cy : Nat → ClassId} {sz n : Nat} {ad : Nat → Nat} {mem : Nat → va_E} {lim rc ec : Nat} {wh : Int32} {x : Int64} (hn : 224 ≤ n) (hG : GI cy ad lim rc ec wh mem) : MI l D cy sz n ad y_Gr_find c_Gr_find 4 (some .int) ({ frames := 0, cells := 0, slots := 0, locals := 0 } : Room) mem [.ref (ad 5), .long (x)] (fun r mem' => mem' = mem) := by
  refine Met.ofW (cc := c_Gr_find) (maxL := 4) (ret := (some .int)) (by decide) rfl ?_
  intro p e s m args below meth c s₁ B hml hv
  obtain ⟨rfl, E, hP, hD⟩ := hv
  have hx := B.exec
  have hb := B.bytes
  have hr := B.returns
  have hlocks := B.notSynchronized
  have Bx : MB p s m [.ref (ad 5), .long (x)].toArray c c_Gr_find "AbnfChart$Grammar" D cy := ⟨hx, hb, tb_all (atoms_spec B.pre) E.2.1, findClass_of_methodNamed B.named, E.1⟩
  have hS : va_S (Az sz) s.heap s.heap [] := va_S.rf
  have hl := lv_entry ([.ref (ad 5), .long (x)]) (n := 4) (Nat.le_of_ble_eq_true rfl)
  rw [lg_entry_eq]
  generalize (lg_sl ([.ref (ad 5), .long (x)]) ++ List.replicate (4 - (lg_sl ([.ref (ad 5), .long (x)])).length) Slot.unset).toArray = ls at hl ⊢
  have hl : lv_has ls 4 [(0, .ref (ad 5)), (1, .long (x))] := hl
  have hbd := hG.1
  refine lv_iconst (v := 0) Bx.1 Bx.2.1 d_Gr_find_0 (by decide) ?_
  refine lv_istore_n (lv' := [(3, .int (0)), (0, .ref (ad 5)), (1, .long (x))]) Bx.1 Bx.2.1 d_Gr_find_1 rfl hl (by decide) rfl (fun ls hl => ?_)
  have loop1 : ∀ (d2 : Nat) (j : Nat) (ls : Array Slot) (H : Heap) (locs : List Loc), (rc - j < d2) → (j ≤ rc) → (va_P D vcl (fw n ad mem) H) → (va_D (Az sz) (fw n ad mem)) → (va_S (Az sz) s.heap H locs) → (lv_has ls 4 [(3, .int (nI j)), (0, .ref (ad 5)), (1, .long (x))]) → W p l e (headSpec (Cond.code y_Gr_find c_Gr_find 4 (some .int) :: tg) ({ frames := 0, cells := 0, slots := 0, locals := 0 } : Room)).room s m [.ref (ad 5), .long (x)].toArray below meth c H locs 0 0 (MQ below (va_Qi (fun r mem' => mem' = mem) (PP D n ad) (Az sz)) [.ref (ad 5), .long (x)].toArray s 0 0 (Az sz)) (F0 m 2 ls []) := by
    intro d2
    induction d2 with
    | zero => intro j ls H locs hmeas5; exact absurd hmeas5 (Nat.not_lt_zero _)
    | succ d2 ih4 =>
      intro j ls H locs hmeas5 hz3 hP hD hS hl
      refine lv_iload_n Bx.1 Bx.2.1 d_Gr_find_2 rfl (lv_at hl 0 rfl) ?_
      refine lv_aload_n Bx.1 Bx.2.1 d_Gr_find_3 rfl (lv_at hl 1 rfl) ?_
      refine f_get Bx hP (by omega) hG.2.1 rfl inGr 3 (by decide) kw_121 rfl rfl d_Gr_find_4 ?_
      refine lv_icmp_ge Bx.1 Bx.2.1 d_Gr_find_7 rfl (fun hk => ?_) (fun hk => ?_)
      · refine lv_iconst (v := -1) Bx.1 Bx.2.1 d_Gr_find_32 (by decide) ?_
        exact W.iret (v := (-1)) hx hb hr (fun t ht hW => ⟨⟨(-1), mem, rfl, rfl, by show va_P _ _ _ t.heap; rw [ht]; exact hP⟩, hS.F ht⟩) hS.2.2 d_Gr_find_33
      · have hj : j < rc := (nI_ltI (by omega) (by omega)).mp (Int32.not_le.mp hk)
        refine lv_aload_n Bx.1 Bx.2.1 d_Gr_find_10 rfl (lv_at hl 1 rfl) ?_
        refine f_get Bx hP (by omega) hG.2.1 rfl inGr 0 (by decide) kw_113 rfl rfl d_Gr_find_11 ?_
        refine lv_iload_n Bx.1 Bx.2.1 d_Gr_find_14 rfl (lv_at hl 0 rfl) ?_
        refine f_aald (t0 := 5) Bx hP (by omega) hG.2.2.1 rfl j rfl (by omega) (by decide) (q := ad (7 + j)) (by unfold rfA; rw [if_pos (by omega), Nat.one_mul]) d_Gr_find_15 ?_
        obtain ⟨nm9, v9, w9, hru, hro⟩ := hG.2.2.2.2.1 j (by omega)
        refine f_getN Bx hP (by omega) hru rfl inRu 0 (by decide) kw_56 rfl rfl d_Gr_find_16 ?_
        refine lv_lload_n Bx.1 Bx.2.1 d_Gr_find_19 rfl (lv_at hl 2 rfl) ?_
        refine W.lcmp Bx.1 Bx.2.1 d_Gr_find_20 ?_
        refine lv_if_ne Bx.1 Bx.2.1 d_Gr_find_21 rfl (fun h7 => ?_) (fun h7 => ?_)
        · refine lv_iinc (lv' := [(3, .int ((nI j + (1)))), (0, .ref (ad 5)), (1, .long (x))]) Bx.1 Bx.2.1 d_Gr_find_26 hl (k := 0) rfl rfl (by decide) rfl (fun ls hl => ?_)
          refine lv_goto Bx.1 Bx.2.1 d_Gr_find_29 rfl ?_
          exact ih4 (j + 1) _ _ _ (by have := hmeas5; omega) (by omega) hP hD hS (by rw [nI_succ]; exact (lv_sub hl [0, 1, 2] rfl))
        · refine lv_iload_n Bx.1 Bx.2.1 d_Gr_find_24 rfl (lv_at hl 0 rfl) ?_
          exact W.iret (v := nI j) hx hb hr (fun t ht hW => ⟨⟨nI j, mem, rfl, rfl, by show va_P _ _ _ t.heap; rw [ht]; exact hP⟩, hS.F ht⟩) hS.2.2 d_Gr_find_25
  exact loop1 _ (0) _ _ _ (Nat.lt_succ_self _) (by omega) hP hD hS (lv_sub hl [0, 1, 2] rfl)
set_option maxHeartbeats 4000000 in
set_option maxRecDepth 100000 in
theorem m_Gr_toldTotalG (l : Launch) {D : va_G} {cy : Nat → ClassId} {sz n : Nat} {ad : Nat → Nat} {mem : Nat → va_E} {lim rc ec : Nat} {wh : Int32} (hn : 224 ≤ n) (hG : GI cy ad lim rc ec wh mem) : MI l D cy sz n ad y_Gr_toldTotal c_Gr_toldTotal 3 (some .int) ({ frames := 1, cells := 0, slots := 0, locals := 30 } : Room) mem [.ref (ad 5)] (fun r mem' => mem' = mem) := by
  refine Met.ofW (cc := c_Gr_toldTotal) (maxL := 3) (ret := (some .int)) (by decide) rfl ?_
  intro p e s m args below meth c s₁ B hml hv
  obtain ⟨rfl, E, hP, hD⟩ := hv
  have hx := B.exec
  have hb := B.bytes
  have hr := B.returns
  have hlocks := B.notSynchronized
  have Bx : MB p s m [.ref (ad 5)].toArray c c_Gr_toldTotal "AbnfChart$Grammar" D cy := ⟨hx, hb, tb_all (atoms_spec B.pre) E.2.1, findClass_of_methodNamed B.named, E.1⟩
  have hS : va_S (Az sz) s.heap s.heap [] := va_S.rf
  have hl := lv_entry ([.ref (ad 5)]) (n := 3) (Nat.le_of_ble_eq_true rfl)
  rw [lg_entry_eq]
  generalize (lg_sl ([.ref (ad 5)]) ++ List.replicate (3 - (lg_sl ([.ref (ad 5)])).length) Slot.unset).toArray = ls at hl ⊢
  have hl : lv_has ls 3 [(0, .ref (ad 5))] := hl
  have hbd := hG.1
  refine lv_iconst (v := 0) Bx.1 Bx.2.1 d_Gr_toldTotal_0 (by decide) ?_
  refine lv_istore_n (lv' := [(1, .int (0)), (0, .ref (ad 5))]) Bx.1 Bx.2.1 d_Gr_toldTotal_1 rfl hl (by decide) rfl (fun ls hl => ?_)
  refine lv_iconst (v := 0) Bx.1 Bx.2.1 d_Gr_toldTotal_2 (by decide) ?_
  refine lv_istore_n (lv' := [(2, .int (0)), (1, .int (0)), (0, .ref (ad 5))]) Bx.1 Bx.2.1 d_Gr_toldTotal_3 rfl hl (by decide) rfl (fun ls hl => ?_)
  have loop1 : ∀ (d2 : Nat) (j : Nat) (to : Int32) (ls : Array Slot) (H : Heap) (locs : List Loc), (rc - j < d2) → (j ≤ rc) → (va_P D vcl (fw n ad mem) H) → (va_D (Az sz) (fw n ad mem)) → (va_S (Az sz) s.heap H locs) → (lv_has ls 3 [(2, .int (nI j)), (1, .int (to)), (0, .ref (ad 5))]) → W p l e (headSpec (Cond.code y_Gr_toldTotal c_Gr_toldTotal 3 (some .int) :: tg) ({ frames := 1, cells := 0, slots := 0, locals := 30 } : Room)).room s m [.ref (ad 5)].toArray below meth c H locs 0 0 (MQ below (va_Qi (fun r mem' => mem' = mem) (PP D n ad) (Az sz)) [.ref (ad 5)].toArray s 0 0 (Az sz)) (F0 m 4 ls []) := by
    intro d2
    induction d2 with
    | zero => intro j to ls H locs hmeas5; exact absurd hmeas5 (Nat.not_lt_zero _)
    | succ d2 ih4 =>
      intro j to ls H locs hmeas5 hz3 hP hD hS hl
      refine lv_iload_n Bx.1 Bx.2.1 d_Gr_toldTotal_4 rfl (lv_at hl 0 rfl) ?_
      refine lv_aload_n Bx.1 Bx.2.1 d_Gr_toldTotal_5 rfl (lv_at hl 2 rfl) ?_
      refine f_callVi (na := 0) (As := []) (rest := [.int (nI j)]) Bx hml E hP hD hS (by omega) hG.2.1 rfl (m_Gr_ruleTotal l (by omega) hG.2.1) kw_648 kw_499 kw_500 kw_3 kw_501 (by decide +kernel) ⟨rfl, rfl⟩ ⟨Nat.le_of_ble_eq_true rfl, Nat.le_of_ble_eq_true rfl⟩ rfl hl.1 (Nat.le_of_ble_eq_true rfl) d_Gr_toldTotal_6 ⟨Nat.le_of_ble_eq_true rfl, Nat.le_of_ble_eq_true rfl⟩ (fun r6 mem7 H locs hq hP hS => ?_)
      have hD : va_D (Az sz) (fw n ad mem7) := fw_D hD
      obtain ⟨hq0, hq⟩ := hq
      rw [hq] at hP hD
      refine lv_icmp_ge Bx.1 Bx.2.1 d_Gr_toldTotal_9 rfl (fun hk => ?_) (fun hk => ?_)
      · refine lv_iload_n Bx.1 Bx.2.1 d_Gr_toldTotal_33 rfl (lv_at hl 1 rfl) ?_
        exact W.iret (v := to) hx hb hr (fun t ht hW => ⟨⟨to, mem, rfl, rfl, by show va_P _ _ _ t.heap; rw [ht]; exact hP⟩, hS.F ht⟩) hS.2.2 d_Gr_toldTotal_34
      · have hj : j < rc := by
          rw [hq0] at hk
          by_cases q : wh = 0
          · rw [if_pos q] at hk; exact absurd (nI_pos' (by omega)) hk
          · rw [if_neg q] at hk; exact (nI_ltI (by omega) (by omega)).mp (Int32.not_le.mp hk)
        refine lv_aload_n Bx.1 Bx.2.1 d_Gr_toldTotal_12 rfl (lv_at hl 2 rfl) ?_
        refine f_get Bx hP (by omega) hG.2.1 rfl inGr 0 (by decide) kw_113 rfl rfl d_Gr_toldTotal_13 ?_
        refine lv_iload_n Bx.1 Bx.2.1 d_Gr_toldTotal_16 rfl (lv_at hl 0 rfl) ?_
        refine f_aald (t0 := 5) Bx hP (by omega) hG.2.2.1 rfl j rfl (by omega) (by decide) (q := ad (7 + j)) (by unfold rfA; rw [if_pos (by omega), Nat.one_mul]) d_Gr_toldTotal_17 ?_
        obtain ⟨nm9, v9, w9, hru, hro⟩ := hG.2.2.2.2.1 j (by omega)
        refine f_callVi (na := 0) (As := []) (rest := []) Bx hml E hP hD hS (by omega) hru rfl (m_Ru_isToldG l hn hG hj) kw_649 kw_402 kw_403 kw_4 kw_404 (by decide +kernel) ⟨rfl, rfl⟩ ⟨Nat.le_of_ble_eq_true rfl, Nat.le_of_ble_eq_true rfl⟩ rfl hl.1 (Nat.le_of_ble_eq_true rfl) d_Gr_toldTotal_18 ⟨Nat.le_of_ble_eq_true rfl, Nat.le_of_ble_eq_true rfl⟩ (fun r8 mem9 H locs hq hP hS => ?_)
        have hD : va_D (Az sz) (fw n ad mem9) := fw_D hD
        rw [hq] at hP hD
        refine lv_if_eq Bx.1 Bx.2.1 d_Gr_toldTotal_21 rfl (fun h7 => ?_) (fun h7 => ?_)
        · refine lv_iinc (lv' := [(2, .int ((nI j + (1)))), (1, .int (to)), (0, .ref (ad 5))]) Bx.1 Bx.2.1 d_Gr_toldTotal_27 hl (k := 0) rfl rfl (by decide) rfl (fun ls hl => ?_)
          refine lv_goto Bx.1 Bx.2.1 d_Gr_toldTotal_30 rfl ?_
          exact ih4 (j + 1) (to) _ _ _ (by have := hmeas5; omega) (by omega) hP hD hS (by rw [nI_succ]; exact (lv_sub hl [0, 1, 2] rfl))
        · refine lv_iinc (lv' := [(1, .int ((to + (1)))), (2, .int (nI j)), (0, .ref (ad 5))]) Bx.1 Bx.2.1 d_Gr_toldTotal_24 hl (k := 1) rfl rfl (by decide) rfl (fun ls hl => ?_)
          refine lv_iinc (lv' := [(2, .int ((nI j + (1)))), (1, .int ((to + (1)))), (0, .ref (ad 5))]) Bx.1 Bx.2.1 d_Gr_toldTotal_27 hl (k := 1) rfl rfl (by decide) rfl (fun ls hl => ?_)
          refine lv_goto Bx.1 Bx.2.1 d_Gr_toldTotal_30 rfl ?_
          exact ih4 (j + 1) ((to + (1))) _ _ _ (by have := hmeas5; omega) (by omega) hP hD hS (by rw [nI_succ]; exact (lv_sub hl [0, 1, 2] rfl))
  exact loop1 _ (0) (0) _ _ _ (Nat.lt_succ_self _) (by omega) hP hD hS (lv_sub hl [0, 1, 2] rfl)
set_option maxHeartbeats 4000000 in
set_option maxRecDepth 100000 in
theorem m_Ab_checkRuleW (l : Launch) {D : va_G} {cy : Nat → ClassId} {sz n : Nat} {ad : Nat → Nat} {mem : Nat → va_E} {lim rc ec : Nat} {wh : Int32} {k : Int32} (hlt : l.stackTraces = false) (hn : 224 ≤ n) (h0 : mem 0 = abC ad) (hG : GI cy ad lim rc ec wh mem) : NXv l D cy sz n ad y_Ab_checkRule c_Ab_checkRule 2 ({ frames := 6, cells := 1, slots := 6, locals := 90 } : Room) mem [.ref (ad 0), .int (k)] (fun mem' => mem' = mem ∧ ¬ k < 0 ∧ k < (if wh = 0 then 0 else nI rc)) (fun X mem' => X = cNS ∧ mem' = mem) := by
  refine vx_ofW (cc := c_Ab_checkRule) (maxL := 2) (ret := none) (by decide) rfl ?_
  intro p e s m args below meth c s₁ B hml hno hv
  obtain ⟨rfl, E, hP, hD⟩ := hv
  have hx := B.exec
  have hb := B.bytes
  have hr := B.returns
  have hlocks := B.notSynchronized
  have Bx : MB p s m [.ref (ad 0), .int (k)].toArray c c_Ab_checkRule "AbnfChart" D cy := ⟨hx, hb, tb_all (atoms_spec B.pre) E.2.1, findClass_of_methodNamed B.named, E.1⟩
  have hS : va_S (Az sz) s.heap s.heap [] := va_S.rf
  have hl := lv_entry ([.ref (ad 0), .int (k)]) (n := 2) (Nat.le_of_ble_eq_true rfl)
  rw [lg_entry_eq]
  generalize (lg_sl ([.ref (ad 0), .int (k)]) ++ List.replicate (2 - (lg_sl ([.ref (ad 0), .int (k)])).length) Slot.unset).toArray = ls at hl ⊢
  have hl : lv_has ls 2 [(0, .ref (ad 0)), (1, .int (k))] := hl
  have hbd := hG.1
  refine lv_iload_n Bx.1 Bx.2.1 d_Ab_checkRule_0 rfl (lv_at hl 1 rfl) ?_
  refine lv_if_lt Bx.1 Bx.2.1 d_Ab_checkRule_1 rfl (fun h8 => ?_) (fun h8 => ?_)
  · exact f_throw (rest := []) hlt Bx hml hlocks hno E hP hS (by decide +kernel) kw_515 kw_14 at_Ab_NS hl.1 d_Ab_checkRule_15 d_Ab_checkRule_18 d_Ab_checkRule_19 d_Ab_checkRule_22 ⟨Nat.le_of_ble_eq_true rfl, Nat.le_of_ble_eq_true rfl, Nat.le_of_ble_eq_true rfl, Nat.le_of_ble_eq_true rfl⟩ ⟨Nat.le_of_ble_eq_true rfl, Nat.le_of_ble_eq_true rfl⟩ ⟨rfl, rfl⟩
  · refine lv_iload_n Bx.1 Bx.2.1 d_Ab_checkRule_4 rfl (lv_at hl 1 rfl) ?_
    refine lv_aload_n Bx.1 Bx.2.1 d_Ab_checkRule_5 rfl (lv_at hl 0 rfl) ?_
    refine f_get Bx hP (by omega) h0 rfl inAb 2 (by decide) kw_176 rfl rfl d_Ab_checkRule_6 ?_
    refine f_callVi (na := 0) (As := []) (rest := [.int (k)]) Bx hml E hP hD hS (by omega) hG.2.1 rfl (m_Gr_ruleTotal l (by omega) hG.2.1) kw_498 kw_499 kw_500 kw_3 kw_501 (by decide +kernel) ⟨rfl, rfl⟩ ⟨Nat.le_of_ble_eq_true rfl, Nat.le_of_ble_eq_true rfl⟩ rfl hl.1 (Nat.le_of_ble_eq_true rfl) d_Ab_checkRule_9 ⟨Nat.le_of_ble_eq_true rfl, Nat.le_of_ble_eq_true rfl⟩ (fun r1 mem2 H locs hq hP hS => ?_)
    have hD : va_D (Az sz) (fw n ad mem2) := fw_D hD
    obtain ⟨hq0, hq⟩ := hq
    rw [hq] at hP hD
    subst hq0
    refine lv_icmp_lt Bx.1 Bx.2.1 d_Ab_checkRule_12 rfl (fun h7 => ?_) (fun h7 => ?_)
    · exact x_vret hx hb hlocks hr (⟨rfl, h8, h7⟩) hP hS d_Ab_checkRule_23
    · exact f_throw (rest := []) hlt Bx hml hlocks hno E hP hS (by decide +kernel) kw_515 kw_14 at_Ab_NS hl.1 d_Ab_checkRule_15 d_Ab_checkRule_18 d_Ab_checkRule_19 d_Ab_checkRule_22 ⟨Nat.le_of_ble_eq_true rfl, Nat.le_of_ble_eq_true rfl, Nat.le_of_ble_eq_true rfl, Nat.le_of_ble_eq_true rfl⟩ ⟨Nat.le_of_ble_eq_true rfl, Nat.le_of_ble_eq_true rfl⟩ ⟨rfl, rfl⟩
set_option maxHeartbeats 4000000 in
set_option maxRecDepth 100000 in
theorem m_Ab_checkPieceW (l : Launch) {D : va_G} {cy : Nat → ClassId} {sz n : Nat} {ad : Nat → Nat} {mem : Nat → va_E} {I : Nat} {i j : Int32} (hlt : l.stackTraces = false) (hn : 224 ≤ n) (h0 : mem 0 = abC ad) (hI : IX cy ad I mem) : NXv l D cy sz n ad y_Ab_checkPiece c_Ab_checkPiece 3 ({ frames := 6, cells := 1, slots := 6, locals := 90 } : Room) mem [.ref (ad 0), .int (i), .int (j)] (fun mem' => mem' = mem ∧ ¬ i < 0 ∧ ¬ j < i ∧ j ≤ nI I) (fun X mem' => X = cIO ∧ mem' = mem) := by
  refine vx_ofW (cc := c_Ab_checkPiece) (maxL := 3) (ret := none) (by decide) rfl ?_
  intro p e s m args below meth c s₁ B hml hno hv
  obtain ⟨rfl, E, hP, hD⟩ := hv
  have hx := B.exec
  have hb := B.bytes
  have hr := B.returns
  have hlocks := B.notSynchronized
  have Bx : MB p s m [.ref (ad 0), .int (i), .int (j)].toArray c c_Ab_checkPiece "AbnfChart" D cy := ⟨hx, hb, tb_all (atoms_spec B.pre) E.2.1, findClass_of_methodNamed B.named, E.1⟩
  have hS : va_S (Az sz) s.heap s.heap [] := va_S.rf
  have hl := lv_entry ([.ref (ad 0), .int (i), .int (j)]) (n := 3) (Nat.le_of_ble_eq_true rfl)
  rw [lg_entry_eq]
  generalize (lg_sl ([.ref (ad 0), .int (i), .int (j)]) ++ List.replicate (3 - (lg_sl ([.ref (ad 0), .int (i), .int (j)])).length) Slot.unset).toArray = ls at hl ⊢
  have hl : lv_has ls 3 [(0, .ref (ad 0)), (1, .int (i)), (2, .int (j))] := hl
  refine lv_iload_n Bx.1 Bx.2.1 d_Ab_checkPiece_0 rfl (lv_at hl 1 rfl) ?_
  refine lv_if_lt Bx.1 Bx.2.1 d_Ab_checkPiece_1 rfl (fun h8 => ?_) (fun h8 => ?_)
  · exact f_throw (rest := []) hlt Bx hml hlocks hno E hP hS (by decide +kernel) kw_552 kw_15 at_Ab_IO hl.1 d_Ab_checkPiece_20 d_Ab_checkPiece_23 d_Ab_checkPiece_24 d_Ab_checkPiece_27 ⟨Nat.le_of_ble_eq_true rfl, Nat.le_of_ble_eq_true rfl, Nat.le_of_ble_eq_true rfl, Nat.le_of_ble_eq_true rfl⟩ ⟨Nat.le_of_ble_eq_true rfl, Nat.le_of_ble_eq_true rfl⟩ ⟨rfl, rfl⟩
  · refine lv_iload_n Bx.1 Bx.2.1 d_Ab_checkPiece_4 rfl (lv_at hl 2 rfl) ?_
    refine lv_iload_n Bx.1 Bx.2.1 d_Ab_checkPiece_5 rfl (lv_at hl 1 rfl) ?_
    refine lv_icmp_lt Bx.1 Bx.2.1 d_Ab_checkPiece_6 rfl (fun h7 => ?_) (fun h7 => ?_)
    · exact f_throw (rest := []) hlt Bx hml hlocks hno E hP hS (by decide +kernel) kw_552 kw_15 at_Ab_IO hl.1 d_Ab_checkPiece_20 d_Ab_checkPiece_23 d_Ab_checkPiece_24 d_Ab_checkPiece_27 ⟨Nat.le_of_ble_eq_true rfl, Nat.le_of_ble_eq_true rfl, Nat.le_of_ble_eq_true rfl, Nat.le_of_ble_eq_true rfl⟩ ⟨Nat.le_of_ble_eq_true rfl, Nat.le_of_ble_eq_true rfl⟩ ⟨rfl, rfl⟩
    · refine lv_iload_n Bx.1 Bx.2.1 d_Ab_checkPiece_9 rfl (lv_at hl 2 rfl) ?_
      refine lv_aload_n Bx.1 Bx.2.1 d_Ab_checkPiece_10 rfl (lv_at hl 0 rfl) ?_
      refine f_get Bx hP (by omega) h0 rfl inAb 1 (by decide) kw_175 rfl rfl d_Ab_checkPiece_11 ?_
      refine f_getN Bx hP (by omega) hI.1 rfl inCh 1 (by decide) kw_34 rfl rfl d_Ab_checkPiece_14 ?_
      refine lv_icmp_le Bx.1 Bx.2.1 d_Ab_checkPiece_17 rfl (fun h6 => ?_) (fun h6 => ?_)
      · exact x_vret hx hb hlocks hr (⟨rfl, h8, h7, h6⟩) hP hS d_Ab_checkPiece_28
      · exact f_throw (rest := []) hlt Bx hml hlocks hno E hP hS (by decide +kernel) kw_552 kw_15 at_Ab_IO hl.1 d_Ab_checkPiece_20 d_Ab_checkPiece_23 d_Ab_checkPiece_24 d_Ab_checkPiece_27 ⟨Nat.le_of_ble_eq_true rfl, Nat.le_of_ble_eq_true rfl, Nat.le_of_ble_eq_true rfl, Nat.le_of_ble_eq_true rfl⟩ ⟨Nat.le_of_ble_eq_true rfl, Nat.le_of_ble_eq_true rfl⟩ ⟨rfl, rfl⟩
set_option maxHeartbeats 4000000 in
set_option maxRecDepth 100000 in
theorem m_Ab_rule (l : Launch) {D : va_G} {cy : Nat → ClassId} {sz n : Nat} {ad : Nat → Nat} {mem : Nat → va_E} {Z : Nat} {x : Int64} (hlt : l.stackTraces = false) (hn : 224 ≤ n) (hK : KI cy ad Z mem) : NXi l D cy sz n ad y_Ab_rule c_Ab_rule 4 (some .int) ({ frames := 8, cells := 1, slots := 6, locals := 160 } : Room) mem [.ref (ad 0), .long (x)] (fun r mem' => KI cy ad Z mem' ∧ ∀ i, 224 ≤ i ∨ i < 20 → mem' i = mem i) (fun X mem' => X = cNS ∧ mem' = mem) := by
  refine vx_ofW (cc := c_Ab_rule) (maxL := 4) (ret := (some .int)) (by decide) rfl ?_
  intro p e s m args below meth c s₁ B hml hno hv
  obtain ⟨rfl, E, hP, hD⟩ := hv
  have hx := B.exec
  have hb := B.bytes
  have hr := B.returns
  have hlocks := B.notSynchronized
  have Bx : MB p s m [.ref (ad 0), .long (x)].toArray c c_Ab_rule "AbnfChart" D cy := ⟨hx, hb, tb_all (atoms_spec B.pre) E.2.1, findClass_of_methodNamed B.named, E.1⟩
  have hS : va_S (Az sz) s.heap s.heap [] := va_S.rf
  have hl := lv_entry ([.ref (ad 0), .long (x)]) (n := 4) (Nat.le_of_ble_eq_true rfl)
  rw [lg_entry_eq]
  generalize (lg_sl ([.ref (ad 0), .long (x)]) ++ List.replicate (4 - (lg_sl ([.ref (ad 0), .long (x)])).length) Slot.unset).toArray = ls at hl ⊢
  have hl : lv_has ls 4 [(0, .ref (ad 0)), (1, .long (x))] := hl
  obtain ⟨h0, ⟨f, hT⟩, ⟨I, hI⟩, ⟨lim, rc, ec, wh, hG⟩, ⟨a9, t9, h9⟩, fl, hc⟩ := id hK
  have hbd := hG.1
  have hbI := hI.2.1
  refine lv_aload_n Bx.1 Bx.2.1 d_Ab_rule_0 rfl (lv_at hl 0 rfl) ?_
  refine f_get Bx hP (by omega) h0 rfl inAb 2 (by decide) kw_176 rfl rfl d_Ab_rule_1 ?_
  refine lv_lload_n Bx.1 Bx.2.1 d_Ab_rule_4 rfl (lv_at hl 1 rfl) ?_
  refine f_callVi (na := 1) (As := [.long (x)]) (rest := []) Bx hml E hP hD hS (by omega) hG.2.1 rfl (m_Gr_findG l hn hG) kw_510 kw_376 kw_377 kw_3 kw_378 (by decide +kernel) ⟨rfl, rfl⟩ ⟨Nat.le_of_ble_eq_true rfl, Nat.le_of_ble_eq_true rfl⟩ rfl hl.1 (Nat.le_of_ble_eq_true rfl) d_Ab_rule_5 ⟨Nat.le_of_ble_eq_true rfl, Nat.le_of_ble_eq_true rfl⟩ (fun r1 mem2 H locs hq hP hS => ?_)
  have hD : va_D (Az sz) (fw n ad mem2) := fw_D hD
  rw [hq] at hP hD
  refine lv_istore_n (lv' := [(3, .int (r1)), (0, .ref (ad 0)), (1, .long (x))]) Bx.1 Bx.2.1 d_Ab_rule_8 rfl hl (by decide) rfl (fun ls hl => ?_)
  refine lv_aload_n Bx.1 Bx.2.1 d_Ab_rule_9 rfl (lv_at hl 1 rfl) ?_
  refine lv_iload_n Bx.1 Bx.2.1 d_Ab_rule_10 rfl (lv_at hl 0 rfl) ?_
  refine f_xVv (na := 1) (As := [.int (r1)]) (rest := []) Bx hml E hP hD hS (by omega) h0 rfl (m_Ab_checkRuleW l hlt hn h0 hG) kw_511 kw_513 sel_Ab_checkRule kw_1 kw_514 (by decide +kernel) ⟨rfl, rfl⟩ ⟨Nat.le_of_ble_eq_true rfl, Nat.le_of_ble_eq_true rfl⟩ rfl hl.1 (Nat.le_of_ble_eq_true rfl) d_Ab_rule_11 ⟨Nat.le_of_ble_eq_true rfl, Nat.le_of_ble_eq_true rfl⟩ (fun X ce q9 memx H locs hx9 hP hS g1 g2 g3 => f_out hlocks hno hP hS g1 g2 g3 ⟨Nat.le_of_ble_eq_true rfl, Nat.le_of_ble_eq_true rfl⟩ hx9) (fun mem4 H locs hq hP hS => ?_)
  have hD : va_D (Az sz) (fw n ad mem4) := fw_D hD
  obtain ⟨hq, hk1, hk2⟩ := hq
  rw [hq] at hP hD
  refine lv_iload_n Bx.1 Bx.2.1 d_Ab_rule_14 rfl (lv_at hl 0 rfl) ?_
  exact x_iret hx hb hlocks hr (⟨hK, fun _ _ => rfl⟩) hP hS d_Ab_rule_15
set_option maxHeartbeats 4000000 in
set_option maxRecDepth 100000 in
theorem m_Ab_matches (l : Launch) {D : va_G} {cy : Nat → ClassId} {sz n : Nat} {ad : Nat → Nat} {mem : Nat → va_E} {Z : Nat} {i1 i2 i3 : Int32} (hlt : l.stackTraces = false) (hn : 224 ≤ n) (hK : KI cy ad Z mem) : NXi l D cy sz n ad y_Ab_matches c_Ab_matches 4 (some .boolean) ({ frames := 8, cells := 1, slots := 6, locals := 260 } : Room) mem [.ref (ad 0), .int (i1), .int (i2), .int (i3)] (fun r mem' => KI cy ad Z mem' ∧ ∀ i, 224 ≤ i ∨ i < 20 → mem' i = mem i) (fun X mem' => (X = cNS ∨ X = cIO) ∧ mem' = mem) := by
  refine vx_ofW (cc := c_Ab_matches) (maxL := 4) (ret := (some .boolean)) (by decide) rfl ?_
  intro p e s m args below meth c s₁ B hml hno hv
  obtain ⟨rfl, E, hP, hD⟩ := hv
  have hx := B.exec
  have hb := B.bytes
  have hr := B.returns
  have hlocks := B.notSynchronized
  have Bx : MB p s m [.ref (ad 0), .int (i1), .int (i2), .int (i3)].toArray c c_Ab_matches "AbnfChart" D cy := ⟨hx, hb, tb_all (atoms_spec B.pre) E.2.1, findClass_of_methodNamed B.named, E.1⟩
  have hS : va_S (Az sz) s.heap s.heap [] := va_S.rf
  have hl := lv_entry ([.ref (ad 0), .int (i1), .int (i2), .int (i3)]) (n := 4) (Nat.le_of_ble_eq_true rfl)
  rw [lg_entry_eq]
  generalize (lg_sl ([.ref (ad 0), .int (i1), .int (i2), .int (i3)]) ++ List.replicate (4 - (lg_sl ([.ref (ad 0), .int (i1), .int (i2), .int (i3)])).length) Slot.unset).toArray = ls at hl ⊢
  have hl : lv_has ls 4 [(0, .ref (ad 0)), (1, .int (i1)), (2, .int (i2)), (3, .int (i3))] := hl
  obtain ⟨h0, ⟨f, hT⟩, ⟨I, hI⟩, ⟨lim, rc, ec, wh, hG⟩, ⟨a9, t9, h9⟩, fl, hc⟩ := id hK
  have hbd := hG.1
  have hbI := hI.2.1
  refine lv_aload_n Bx.1 Bx.2.1 d_Ab_matches_0 rfl (lv_at hl 0 rfl) ?_
  refine lv_iload_n Bx.1 Bx.2.1 d_Ab_matches_1 rfl (lv_at hl 1 rfl) ?_
  refine f_xVv (na := 1) (As := [.int (i1)]) (rest := []) Bx hml E hP hD hS (by omega) h0 rfl (m_Ab_checkRuleW l hlt hn h0 hG) kw_511 kw_513 sel_Ab_checkRule kw_1 kw_514 (by decide +kernel) ⟨rfl, rfl⟩ ⟨Nat.le_of_ble_eq_true rfl, Nat.le_of_ble_eq_true rfl⟩ rfl hl.1 (Nat.le_of_ble_eq_true rfl) d_Ab_matches_2 ⟨Nat.le_of_ble_eq_true rfl, Nat.le_of_ble_eq_true rfl⟩ (fun X ce q9 memx H locs hx9 hP hS g1 g2 g3 => f_out hlocks hno hP hS g1 g2 g3 ⟨Nat.le_of_ble_eq_true rfl, Nat.le_of_ble_eq_true rfl⟩ ⟨Or.inl hx9.1, hx9.2⟩) (fun mem2 H locs hq hP hS => ?_)
  have hD : va_D (Az sz) (fw n ad mem2) := fw_D hD
  obtain ⟨hq, hk1, hk2⟩ := hq
  rw [hq] at hP hD
  refine lv_aload_n Bx.1 Bx.2.1 d_Ab_matches_5 rfl (lv_at hl 0 rfl) ?_
  refine lv_iload_n Bx.1 Bx.2.1 d_Ab_matches_6 rfl (lv_at hl 2 rfl) ?_
  refine lv_iload_n Bx.1 Bx.2.1 d_Ab_matches_7 rfl (lv_at hl 3 rfl) ?_
  refine f_xVv (na := 2) (As := [.int (i2), .int (i3)]) (rest := []) Bx hml E hP hD hS (by omega) h0 rfl (m_Ab_checkPieceW l hlt hn h0 hI) kw_548 kw_550 sel_Ab_checkPiece kw_1 kw_551 (by decide +kernel) ⟨rfl, rfl⟩ ⟨Nat.le_of_ble_eq_true rfl, Nat.le_of_ble_eq_true rfl⟩ rfl hl.1 (Nat.le_of_ble_eq_true rfl) d_Ab_matches_8 ⟨Nat.le_of_ble_eq_true rfl, Nat.le_of_ble_eq_true rfl⟩ (fun X ce q9 memx H locs hx9 hP hS g1 g2 g3 => f_out hlocks hno hP hS g1 g2 g3 ⟨Nat.le_of_ble_eq_true rfl, Nat.le_of_ble_eq_true rfl⟩ ⟨Or.inr hx9.1, hx9.2⟩) (fun mem4 H locs hq hP hS => ?_)
  have hD : va_D (Az sz) (fw n ad mem4) := fw_D hD
  obtain ⟨hq, hp1, hp2, hp3⟩ := hq
  rw [hq] at hP hD
  obtain ⟨r0, hr0, rfl⟩ := rl_ok hbd.1 hk1 hk2
  obtain ⟨i0, hi0, rfl⟩ := pc_ok hbI hp1 hp2 hp3
  refine lv_aload_n Bx.1 Bx.2.1 d_Ab_matches_11 rfl (lv_at hl 0 rfl) ?_
  refine f_get Bx hP (by omega) h0 rfl inAb 4 (by decide) kw_178 rfl rfl d_Ab_matches_12 ?_
  refine lv_iload_n Bx.1 Bx.2.1 d_Ab_matches_15 rfl (lv_at hl 1 rfl) ?_
  refine lv_iload_n Bx.1 Bx.2.1 d_Ab_matches_16 rfl (lv_at hl 2 rfl) ?_
  refine f_callVi (na := 2) (As := [.int (nI r0), .int (nI i0)]) (rest := []) Bx hml E hP hD hS (by omega) hc rfl (m_Ct_endsOf l hn hI (⟨hG, hc, fun _ _ => rfl⟩ : CS cy ad lim rc ec wh fl mem mem) hi0 hr0) kw_567 kw_568 kw_569 kw_7 kw_570 (by decide +kernel) ⟨rfl, rfl⟩ ⟨Nat.le_of_ble_eq_true rfl, Nat.le_of_ble_eq_true rfl⟩ rfl hl.1 (Nat.le_of_ble_eq_true rfl) d_Ab_matches_17 ⟨Nat.le_of_ble_eq_true rfl, Nat.le_of_ble_eq_true rfl⟩ (fun r5 mem6 H locs hqe hP hS => ?_)
  have hD : va_D (Az sz) (fw n ad mem6) := fw_D hD
  obtain ⟨fl2, hC2⟩ := hqe
  refine lv_iload_n Bx.1 Bx.2.1 d_Ab_matches_20 rfl (lv_at hl 3 rfl) ?_
  refine lv_ishr Bx.1 Bx.2.1 d_Ab_matches_21 ?_
  refine lv_iconst (v := 1) Bx.1 Bx.2.1 d_Ab_matches_22 (by decide) ?_
  refine lv_iand Bx.1 Bx.2.1 d_Ab_matches_23 ?_
  refine lv_iconst (v := 1) Bx.1 Bx.2.1 d_Ab_matches_24 (by decide) ?_
  refine lv_icmp_ne Bx.1 Bx.2.1 d_Ab_matches_25 rfl (fun h8 => ?_) (fun h8 => ?_)
  · refine lv_iconst (v := 0) Bx.1 Bx.2.1 d_Ab_matches_32 (by decide) ?_
    exact x_zret hx hb hlocks hr rfl (hK.chart hC2) hP hS d_Ab_matches_33
  · refine lv_iconst (v := 1) Bx.1 Bx.2.1 d_Ab_matches_28 (by decide) ?_
    refine lv_goto Bx.1 Bx.2.1 d_Ab_matches_29 rfl ?_
    exact x_zret hx hb hlocks hr rfl (hK.chart hC2) hP hS d_Ab_matches_33
set_option maxHeartbeats 4000000 in
set_option maxRecDepth 100000 in
theorem m_Ab_longest (l : Launch) {D : va_G} {cy : Nat → ClassId} {sz n : Nat} {ad : Nat → Nat} {mem : Nat → va_E} {Z : Nat} {i1 i2 : Int32} (hlt : l.stackTraces = false) (hn : 224 ≤ n) (hK : KI cy ad Z mem) : NXi l D cy sz n ad y_Ab_longest c_Ab_longest 5 (some .int) ({ frames := 8, cells := 1, slots := 6, locals := 260 } : Room) mem [.ref (ad 0), .int (i1), .int (i2)] (fun r mem' => KI cy ad Z mem' ∧ ∀ i, 224 ≤ i ∨ i < 20 → mem' i = mem i) (fun X mem' => (X = cNS ∨ X = cIO) ∧ mem' = mem) := by
  refine vx_ofW (cc := c_Ab_longest) (maxL := 5) (ret := (some .int)) (by decide) rfl ?_
  intro p e s m args below meth c s₁ B hml hno hv
  obtain ⟨rfl, E, hP, hD⟩ := hv
  have hx := B.exec
  have hb := B.bytes
  have hr := B.returns
  have hlocks := B.notSynchronized
  have Bx : MB p s m [.ref (ad 0), .int (i1), .int (i2)].toArray c c_Ab_longest "AbnfChart" D cy := ⟨hx, hb, tb_all (atoms_spec B.pre) E.2.1, findClass_of_methodNamed B.named, E.1⟩
  have hS : va_S (Az sz) s.heap s.heap [] := va_S.rf
  have hl := lv_entry ([.ref (ad 0), .int (i1), .int (i2)]) (n := 5) (Nat.le_of_ble_eq_true rfl)
  rw [lg_entry_eq]
  generalize (lg_sl ([.ref (ad 0), .int (i1), .int (i2)]) ++ List.replicate (5 - (lg_sl ([.ref (ad 0), .int (i1), .int (i2)])).length) Slot.unset).toArray = ls at hl ⊢
  have hl : lv_has ls 5 [(0, .ref (ad 0)), (1, .int (i1)), (2, .int (i2))] := hl
  obtain ⟨h0, ⟨f, hT⟩, ⟨I, hI⟩, ⟨lim, rc, ec, wh, hG⟩, ⟨a9, t9, h9⟩, fl, hc⟩ := id hK
  have hbd := hG.1
  have hbI := hI.2.1
  refine lv_aload_n Bx.1 Bx.2.1 d_Ab_longest_0 rfl (lv_at hl 0 rfl) ?_
  refine lv_iload_n Bx.1 Bx.2.1 d_Ab_longest_1 rfl (lv_at hl 1 rfl) ?_
  refine f_xVv (na := 1) (As := [.int (i1)]) (rest := []) Bx hml E hP hD hS (by omega) h0 rfl (m_Ab_checkRuleW l hlt hn h0 hG) kw_511 kw_513 sel_Ab_checkRule kw_1 kw_514 (by decide +kernel) ⟨rfl, rfl⟩ ⟨Nat.le_of_ble_eq_true rfl, Nat.le_of_ble_eq_true rfl⟩ rfl hl.1 (Nat.le_of_ble_eq_true rfl) d_Ab_longest_2 ⟨Nat.le_of_ble_eq_true rfl, Nat.le_of_ble_eq_true rfl⟩ (fun X ce q9 memx H locs hx9 hP hS g1 g2 g3 => f_out hlocks hno hP hS g1 g2 g3 ⟨Nat.le_of_ble_eq_true rfl, Nat.le_of_ble_eq_true rfl⟩ ⟨Or.inl hx9.1, hx9.2⟩) (fun mem2 H locs hq hP hS => ?_)
  have hD : va_D (Az sz) (fw n ad mem2) := fw_D hD
  obtain ⟨hq, hk1, hk2⟩ := hq
  rw [hq] at hP hD
  refine lv_aload_n Bx.1 Bx.2.1 d_Ab_longest_5 rfl (lv_at hl 0 rfl) ?_
  refine lv_iload_n Bx.1 Bx.2.1 d_Ab_longest_6 rfl (lv_at hl 2 rfl) ?_
  refine lv_iload_n Bx.1 Bx.2.1 d_Ab_longest_7 rfl (lv_at hl 2 rfl) ?_
  refine f_xVv (na := 2) (As := [.int (i2), .int (i2)]) (rest := []) Bx hml E hP hD hS (by omega) h0 rfl (m_Ab_checkPieceW l hlt hn h0 hI) kw_548 kw_550 sel_Ab_checkPiece kw_1 kw_551 (by decide +kernel) ⟨rfl, rfl⟩ ⟨Nat.le_of_ble_eq_true rfl, Nat.le_of_ble_eq_true rfl⟩ rfl hl.1 (Nat.le_of_ble_eq_true rfl) d_Ab_longest_8 ⟨Nat.le_of_ble_eq_true rfl, Nat.le_of_ble_eq_true rfl⟩ (fun X ce q9 memx H locs hx9 hP hS g1 g2 g3 => f_out hlocks hno hP hS g1 g2 g3 ⟨Nat.le_of_ble_eq_true rfl, Nat.le_of_ble_eq_true rfl⟩ ⟨Or.inr hx9.1, hx9.2⟩) (fun mem4 H locs hq hP hS => ?_)
  have hD : va_D (Az sz) (fw n ad mem4) := fw_D hD
  obtain ⟨hq, hp1, hp2, hp3⟩ := hq
  rw [hq] at hP hD
  obtain ⟨r0, hr0, rfl⟩ := rl_ok hbd.1 hk1 hk2
  obtain ⟨i0, hi0, rfl⟩ := pc_ok hbI hp1 hp2 hp3
  refine lv_aload_n Bx.1 Bx.2.1 d_Ab_longest_11 rfl (lv_at hl 0 rfl) ?_
  refine f_get Bx hP (by omega) h0 rfl inAb 4 (by decide) kw_178 rfl rfl d_Ab_longest_12 ?_
  refine lv_iload_n Bx.1 Bx.2.1 d_Ab_longest_15 rfl (lv_at hl 1 rfl) ?_
  refine lv_iload_n Bx.1 Bx.2.1 d_Ab_longest_16 rfl (lv_at hl 2 rfl) ?_
  refine f_callVi (na := 2) (As := [.int (nI r0), .int (nI i0)]) (rest := []) Bx hml E hP hD hS (by omega) hc rfl (m_Ct_endsOf l hn hI (⟨hG, hc, fun _ _ => rfl⟩ : CS cy ad lim rc ec wh fl mem mem) hi0 hr0) kw_567 kw_568 kw_569 kw_7 kw_570 (by decide +kernel) ⟨rfl, rfl⟩ ⟨Nat.le_of_ble_eq_true rfl, Nat.le_of_ble_eq_true rfl⟩ rfl hl.1 (Nat.le_of_ble_eq_true rfl) d_Ab_longest_17 ⟨Nat.le_of_ble_eq_true rfl, Nat.le_of_ble_eq_true rfl⟩ (fun r5 mem6 H locs hqe hP hS => ?_)
  have hD : va_D (Az sz) (fw n ad mem6) := fw_D hD
  obtain ⟨fl2, hC2⟩ := hqe
  have e0 : mem6 0 = abC ad := (hC2.2.2 0 (by omega)).trans ((va_up_ne _ _ (by omega)).trans h0)
  have e3 : mem6 3 = .inr (0, [.ref (ad 4), .int (nI I)]) := (hC2.2.2 3 (by omega)).trans ((va_up_ne _ _ (by omega)).trans hI.1)
  refine lv_istore_n (lv' := [(3, .int (r5)), (0, .ref (ad 0)), (1, .int (nI r0)), (2, .int (nI i0))]) Bx.1 Bx.2.1 d_Ab_longest_20 rfl hl (by decide) rfl (fun ls hl => ?_)
  refine lv_aload_n Bx.1 Bx.2.1 d_Ab_longest_21 rfl (lv_at hl 1 rfl) ?_
  refine f_get Bx hP (by omega) e0 rfl inAb 1 (by decide) kw_175 rfl rfl d_Ab_longest_22 ?_
  refine f_getN Bx hP (by omega) e3 rfl inCh 1 (by decide) kw_34 rfl rfl d_Ab_longest_25 ?_
  refine lv_istore (lv' := [(4, .int (nI I)), (3, .int (r5)), (0, .ref (ad 0)), (1, .int (nI r0)), (2, .int (nI i0))]) Bx.1 Bx.2.1 d_Ab_longest_28 hl (by decide) rfl (fun ls hl => ?_)
  have loop7 : ∀ (d8 : Nat) (jj : Nat) (ls : Array Slot) (H : Heap) (locs : List Loc), (jj < d8) → (jj ≤ I + 1) → (va_P D vcl (fw n ad mem6) H) → (va_D (Az sz) (fw n ad mem6)) → (va_S (Az sz) s.heap H locs) → (lv_has ls 5 [(4, .int (nI jj + (-1))), (3, .int (r5)), (0, .ref (ad 0)), (1, .int (nI r0)), (2, .int (nI i0))]) → W p l e (headSpec (Cond.code y_Ab_longest c_Ab_longest 5 (some .int) :: tg) ({ frames := 8, cells := 1, slots := 6, locals := 260 } : Room)).room s m [.ref (ad 0), .int (nI r0), .int (nI i0)].toArray below meth c H locs 0 0 (vx_MQ below (QX (va_Qi (fun r mem' => KI cy ad Z mem' ∧ ∀ i, 224 ≤ i ∨ i < 20 → mem' i = mem i) (PP D n ad) (Az sz))) (XQ D sz n ad (fun X mem' => (X = cNS ∨ X = cIO) ∧ mem' = mem)) [.ref (ad 0), .int (nI r0), .int (nI i0)].toArray s 1 6 (Az sz)) (F0 m 30 ls []) := by
    intro d8
    induction d8 with
    | zero => intro jj ls H locs hmeas11; exact absurd hmeas11 (Nat.not_lt_zero _)
    | succ d8 ih10 =>
      intro jj ls H locs hmeas11 hz9 hP hD hS hl
      refine lv_iload Bx.1 Bx.2.1 d_Ab_longest_30 (lv_at hl 0 rfl) ?_
      refine lv_iload_n Bx.1 Bx.2.1 d_Ab_longest_32 rfl (lv_at hl 4 rfl) ?_
      refine lv_icmp_lt Bx.1 Bx.2.1 d_Ab_longest_33 rfl (fun hk => ?_) (fun hk => ?_)
      · refine lv_iconst (v := -1) Bx.1 Bx.2.1 d_Ab_longest_55 (by decide) ?_
        exact x_iret hx hb hlocks hr (hK.chart hC2) hP hS d_Ab_longest_56
      · obtain ⟨j, rfl⟩ : ∃ j, jj = j + 1 := by
          rcases jj with _ | j
          · exact absurd (by rw [nI_0m1]; exact m1_lt (by omega)) hk
          · exact ⟨j, rfl⟩
        rw [nI_m1] at hl
        refine lv_iload_n Bx.1 Bx.2.1 d_Ab_longest_36 rfl (lv_at hl 1 rfl) ?_
        refine lv_iload Bx.1 Bx.2.1 d_Ab_longest_37 (lv_at hl 0 rfl) ?_
        refine lv_ishr Bx.1 Bx.2.1 d_Ab_longest_39 ?_
        refine lv_iconst (v := 1) Bx.1 Bx.2.1 d_Ab_longest_40 (by decide) ?_
        refine lv_iand Bx.1 Bx.2.1 d_Ab_longest_41 ?_
        refine lv_iconst (v := 1) Bx.1 Bx.2.1 d_Ab_longest_42 (by decide) ?_
        refine lv_icmp_ne Bx.1 Bx.2.1 d_Ab_longest_43 rfl (fun h8 => ?_) (fun h8 => ?_)
        · refine lv_iinc (lv' := [(4, .int ((nI j + (-1)))), (3, .int (r5)), (0, .ref (ad 0)), (1, .int (nI r0)), (2, .int (nI i0))]) Bx.1 Bx.2.1 d_Ab_longest_49 hl (k := 0) rfl rfl (by decide) rfl (fun ls hl => ?_)
          refine lv_goto Bx.1 Bx.2.1 d_Ab_longest_52 rfl ?_
          exact ih10 (j) _ _ _ (by have := hmeas11; omega) (by omega) hP hD hS (lv_sub hl [0, 1, 2, 3, 4] rfl)
        · refine lv_iload Bx.1 Bx.2.1 d_Ab_longest_46 (lv_at hl 0 rfl) ?_
          exact x_iret hx hb hlocks hr (hK.chart hC2) hP hS d_Ab_longest_48
  exact loop7 _ (I + 1) _ _ _ (Nat.lt_succ_self _) (Nat.le_refl _) hP hD hS (by rw [nI_m1]; exact (lv_sub hl [0, 1, 2, 3, 4] rfl))
set_option maxHeartbeats 4000000 in
set_option maxRecDepth 100000 in
theorem m_Ab_pieces (l : Launch) {D : va_G} {cy : Nat → ClassId} {sz n : Nat} {ad : Nat → Nat} {mem : Nat → va_E} {Z : Nat} {i1 : Int32} (hlt : l.stackTraces = false) (hn : 224 ≤ n) (hK : KI cy ad Z mem) : NXi l D cy sz n ad y_Ab_pieces c_Ab_pieces 4 (some .int) ({ frames := 8, cells := 1, slots := 6, locals := 260 } : Room) mem [.ref (ad 0), .int (i1)] (fun r mem' => KI cy ad Z mem' ∧ ∀ i, 224 ≤ i ∨ i < 20 → mem' i = mem i) (fun X mem' => X = cNS ∧ mem' = mem) := by
  refine vx_ofW (cc := c_Ab_pieces) (maxL := 4) (ret := (some .int)) (by decide) rfl ?_
  intro p e s m args below meth c s₁ B hml hno hv
  obtain ⟨rfl, E, hP, hD⟩ := hv
  have hx := B.exec
  have hb := B.bytes
  have hr := B.returns
  have hlocks := B.notSynchronized
  have Bx : MB p s m [.ref (ad 0), .int (i1)].toArray c c_Ab_pieces "AbnfChart" D cy := ⟨hx, hb, tb_all (atoms_spec B.pre) E.2.1, findClass_of_methodNamed B.named, E.1⟩
  have hS : va_S (Az sz) s.heap s.heap [] := va_S.rf
  have hl := lv_entry ([.ref (ad 0), .int (i1)]) (n := 4) (Nat.le_of_ble_eq_true rfl)
  rw [lg_entry_eq]
  generalize (lg_sl ([.ref (ad 0), .int (i1)]) ++ List.replicate (4 - (lg_sl ([.ref (ad 0), .int (i1)])).length) Slot.unset).toArray = ls at hl ⊢
  have hl : lv_has ls 4 [(0, .ref (ad 0)), (1, .int (i1))] := hl
  obtain ⟨h0, ⟨f, hT⟩, ⟨I, hI⟩, ⟨lim, rc, ec, wh, hG⟩, ⟨a9, t9, h9⟩, fl, hc⟩ := id hK
  have hbd := hG.1
  have hbI := hI.2.1
  refine lv_aload_n Bx.1 Bx.2.1 d_Ab_pieces_0 rfl (lv_at hl 0 rfl) ?_
  refine lv_iload_n Bx.1 Bx.2.1 d_Ab_pieces_1 rfl (lv_at hl 1 rfl) ?_
  refine f_xVv (na := 1) (As := [.int (i1)]) (rest := []) Bx hml E hP hD hS (by omega) h0 rfl (m_Ab_checkRuleW l hlt hn h0 hG) kw_511 kw_513 sel_Ab_checkRule kw_1 kw_514 (by decide +kernel) ⟨rfl, rfl⟩ ⟨Nat.le_of_ble_eq_true rfl, Nat.le_of_ble_eq_true rfl⟩ rfl hl.1 (Nat.le_of_ble_eq_true rfl) d_Ab_pieces_2 ⟨Nat.le_of_ble_eq_true rfl, Nat.le_of_ble_eq_true rfl⟩ (fun X ce q9 memx H locs hx9 hP hS g1 g2 g3 => f_out hlocks hno hP hS g1 g2 g3 ⟨Nat.le_of_ble_eq_true rfl, Nat.le_of_ble_eq_true rfl⟩ hx9) (fun mem2 H locs hq hP hS => ?_)
  have hD : va_D (Az sz) (fw n ad mem2) := fw_D hD
  obtain ⟨hq, hk1, hk2⟩ := hq
  rw [hq] at hP hD
  obtain ⟨r0, hr0, rfl⟩ := rl_ok hbd.1 hk1 hk2
  refine lv_iconst (v := 0) Bx.1 Bx.2.1 d_Ab_pieces_5 (by decide) ?_
  refine lv_istore_n (lv' := [(2, .int (0)), (0, .ref (ad 0)), (1, .int (nI r0))]) Bx.1 Bx.2.1 d_Ab_pieces_6 rfl hl (by decide) rfl (fun ls hl => ?_)
  refine lv_iconst (v := 0) Bx.1 Bx.2.1 d_Ab_pieces_7 (by decide) ?_
  refine lv_istore_n (lv' := [(3, .int (0)), (2, .int (0)), (0, .ref (ad 0)), (1, .int (nI r0))]) Bx.1 Bx.2.1 d_Ab_pieces_8 rfl hl (by decide) rfl (fun ls hl => ?_)
  have loop3 : ∀ (d4 : Nat) (mem9 : Nat → va_E) (k : Nat) (to : Int32) (ls : Array Slot) (H : Heap) (locs : List Loc), (I + 1 - k < d4) → (k ≤ I + 1) → (∃ fl3 : Int32, CS cy ad lim rc ec wh fl3 (va_up mem 223 (ctC ad fl3)) mem9) → (va_P D vcl (fw n ad mem9) H) → (va_D (Az sz) (fw n ad mem9)) → (va_S (Az sz) s.heap H locs) → (lv_has ls 4 [(3, .int (nI k)), (2, .int (to)), (0, .ref (ad 0)), (1, .int (nI r0))]) → W p l e (headSpec (Cond.code y_Ab_pieces c_Ab_pieces 4 (some .int) :: tg) ({ frames := 8, cells := 1, slots := 6, locals := 260 } : Room)).room s m [.ref (ad 0), .int (nI r0)].toArray below meth c H locs 0 0 (vx_MQ below (QX (va_Qi (fun r mem' => KI cy ad Z mem' ∧ ∀ i, 224 ≤ i ∨ i < 20 → mem' i = mem i) (PP D n ad) (Az sz))) (XQ D sz n ad (fun X mem' => X = cNS ∧ mem' = mem)) [.ref (ad 0), .int (nI r0)].toArray s 1 6 (Az sz)) (F0 m 9 ls []) := by
    intro d4
    induction d4 with
    | zero => intro mem9 k to ls H locs hmeas8; exact absurd hmeas8 (Nat.not_lt_zero _)
    | succ d4 ih7 =>
      intro mem9 k to ls H locs hmeas8 hz5 hz6 hP hD hS hl
      obtain ⟨fl3, hC3⟩ := hz6
      have e0 : mem9 0 = abC ad := (hC3.2.2 0 (by omega)).trans ((va_up_ne _ _ (by omega)).trans h0)
      have e3 : mem9 3 = .inr (0, [.ref (ad 4), .int (nI I)]) := (hC3.2.2 3 (by omega)).trans ((va_up_ne _ _ (by omega)).trans hI.1)
      have e223 : mem9 223 = ctC ad fl3 := (hC3.2.2 223 (by omega)).trans hC3.2.1
      have hI3 : IX cy ad I (va_up mem 223 (ctC ad fl3)) := ⟨(va_up_ne _ _ (by omega)).trans hI.1, hI.2.1, hI.2.2.elim (fun g q => ⟨g, (va_up_ne _ _ (by omega)).trans q⟩)⟩
      refine lv_iload_n Bx.1 Bx.2.1 d_Ab_pieces_9 rfl (lv_at hl 0 rfl) ?_
      refine lv_aload_n Bx.1 Bx.2.1 d_Ab_pieces_10 rfl (lv_at hl 2 rfl) ?_
      refine f_get Bx hP (by omega) e0 rfl inAb 1 (by decide) kw_175 rfl rfl d_Ab_pieces_11 ?_
      refine f_getN Bx hP (by omega) e3 rfl inCh 1 (by decide) kw_34 rfl rfl d_Ab_pieces_14 ?_
      refine lv_icmp_gt Bx.1 Bx.2.1 d_Ab_pieces_17 rfl (fun hk => ?_) (fun hk => ?_)
      · refine lv_iload_n Bx.1 Bx.2.1 d_Ab_pieces_41 rfl (lv_at hl 1 rfl) ?_
        exact x_iret hx hb hlocks hr (hK.chart hC3) hP hS d_Ab_pieces_42
      · have hi0 : k ≤ I := by rcases Nat.lt_or_ge I k with q | q; exact absurd ((nI_ltI (by omega) (by omega)).mpr q) hk; exact q
        refine lv_iload_n Bx.1 Bx.2.1 d_Ab_pieces_20 rfl (lv_at hl 1 rfl) ?_
        refine lv_aload_n Bx.1 Bx.2.1 d_Ab_pieces_21 rfl (lv_at hl 2 rfl) ?_
        refine f_get Bx hP (by omega) e0 rfl inAb 4 (by decide) kw_178 rfl rfl d_Ab_pieces_22 ?_
        refine lv_iload_n Bx.1 Bx.2.1 d_Ab_pieces_25 rfl (lv_at hl 3 rfl) ?_
        refine lv_iload_n Bx.1 Bx.2.1 d_Ab_pieces_26 rfl (lv_at hl 0 rfl) ?_
        refine f_callVi (na := 2) (As := [.int (nI r0), .int (nI k)]) (rest := [.int (to)]) Bx hml E hP hD hS (by omega) e223 rfl (m_Ct_endsOf l hn hI3 hC3 hi0 hr0) kw_567 kw_568 kw_569 kw_7 kw_570 (by decide +kernel) ⟨rfl, rfl⟩ ⟨Nat.le_of_ble_eq_true rfl, Nat.le_of_ble_eq_true rfl⟩ rfl hl.1 (Nat.le_of_ble_eq_true rfl) d_Ab_pieces_27 ⟨Nat.le_of_ble_eq_true rfl, Nat.le_of_ble_eq_true rfl⟩ (fun r9 mem10 H locs hqe hP hS => ?_)
        have hD : va_D (Az sz) (fw n ad mem10) := fw_D hD
        obtain ⟨fl2, hC2⟩ := hqe
        rw [up_up] at hC2
        refine f_callSJi (na := 1) (As := [.int (r9)]) (rest := [.int (to)]) Bx hml E.2.1 (m_Jn_bitCount l _) kw_627 kw_628 kw_16 kw_629 (by decide +kernel) ⟨rfl, rfl⟩ ⟨Nat.le_of_ble_eq_true rfl, Nat.le_of_ble_eq_true rfl⟩ rfl hl.1 (Nat.le_of_ble_eq_true rfl) d_Ab_pieces_30 ⟨Nat.le_of_ble_eq_true rfl, Nat.le_of_ble_eq_true rfl⟩ (fun r12 hs11 => ?_)
        refine lv_iadd Bx.1 Bx.2.1 d_Ab_pieces_33 ?_
        refine lv_istore_n (lv' := [(2, .int (to + r12)), (3, .int (nI k)), (0, .ref (ad 0)), (1, .int (nI r0))]) Bx.1 Bx.2.1 d_Ab_pieces_34 rfl hl (by decide) rfl (fun ls hl => ?_)
        refine lv_iinc (lv' := [(3, .int ((nI k + (1)))), (2, .int (to + r12)), (0, .ref (ad 0)), (1, .int (nI r0))]) Bx.1 Bx.2.1 d_Ab_pieces_35 hl (k := 1) rfl rfl (by decide) rfl (fun ls hl => ?_)
        refine lv_goto Bx.1 Bx.2.1 d_Ab_pieces_38 rfl ?_
        exact ih7 mem10 (k + 1) (to + r12) _ _ _ (by have := hmeas8; omega) (by omega) (⟨fl2, hC2⟩) hP hD hS (by rw [nI_succ]; exact (lv_sub hl [0, 1, 2, 3] rfl))
  exact loop3 _ mem (0) (0) _ _ _ (Nat.lt_succ_self _) (by omega) (⟨fl, by rw [up_id mem hc]; exact ⟨hG, hc, fun _ _ => rfl⟩⟩) hP hD hS (lv_sub hl [0, 1, 2, 3] rfl)
set_option maxHeartbeats 4000000 in
set_option maxRecDepth 100000 in
theorem m_Ab_count (l : Launch) {D : va_G} {cy : Nat → ClassId} {sz n : Nat} {ad : Nat → Nat} {mem : Nat → va_E} {Z : Nat} {k : Int32} (hlt : l.stackTraces = false) (hn : 224 ≤ n) (hK : KI cy ad Z mem) : NXi l D cy sz n ad y_Ab_count c_Ab_count 2 (some .int) ({ frames := 6, cells := 1, slots := 6, locals := 90 } : Room) mem [.ref (ad 0), .int (k)] (fun r mem' => KI cy ad Z mem' ∧ ∀ i, 224 ≤ i ∨ i < 20 → mem' i = mem i) (fun X mem' => X = cIO ∧ mem' = mem) := by
  refine vx_ofW (cc := c_Ab_count) (maxL := 2) (ret := (some .int)) (by decide) rfl ?_
  intro p e s m args below meth c s₁ B hml hno hv
  obtain ⟨rfl, E, hP, hD⟩ := hv
  have hx := B.exec
  have hb := B.bytes
  have hr := B.returns
  have hlocks := B.notSynchronized
  have Bx : MB p s m [.ref (ad 0), .int (k)].toArray c c_Ab_count "AbnfChart" D cy := ⟨hx, hb, tb_all (atoms_spec B.pre) E.2.1, findClass_of_methodNamed B.named, E.1⟩
  have hS : va_S (Az sz) s.heap s.heap [] := va_S.rf
  have hl := lv_entry ([.ref (ad 0), .int (k)]) (n := 2) (Nat.le_of_ble_eq_true rfl)
  rw [lg_entry_eq]
  generalize (lg_sl ([.ref (ad 0), .int (k)]) ++ List.replicate (2 - (lg_sl ([.ref (ad 0), .int (k)])).length) Slot.unset).toArray = ls at hl ⊢
  have hl : lv_has ls 2 [(0, .ref (ad 0)), (1, .int (k))] := hl
  obtain ⟨h0, ⟨f, hT⟩, ⟨I, hI⟩, ⟨lim, rc, ec, wh, hG⟩, ⟨a9, t9, h9⟩, fl, hc⟩ := id hK
  have hbd := hG.1
  have hbI := hI.2.1
  refine lv_iload_n Bx.1 Bx.2.1 d_Ab_count_0 rfl (lv_at hl 1 rfl) ?_
  by_cases hk0 : k = 0
  · subst hk0
    refine lv_tableIn Bx.1 Bx.2.1 d_Ab_count_1 (by decide) (by decide) (off := 27) (by decide) (tgt := 28) rfl ?_
    refine lv_aload_n Bx.1 Bx.2.1 d_Ab_count_28 rfl (lv_at hl 0 rfl) ?_
    refine f_get Bx hP (by omega) h0 rfl inAb 2 (by decide) kw_176 rfl rfl d_Ab_count_29 ?_
    refine f_callVi (na := 0) (As := []) (rest := []) Bx hml E hP hD hS (by omega) hG.2.1 rfl (m_Gr_ruleTotal l (by omega) hG.2.1) kw_498 kw_499 kw_500 kw_3 kw_501 (by decide +kernel) ⟨rfl, rfl⟩ ⟨Nat.le_of_ble_eq_true rfl, Nat.le_of_ble_eq_true rfl⟩ rfl hl.1 (Nat.le_of_ble_eq_true rfl) d_Ab_count_32 ⟨Nat.le_of_ble_eq_true rfl, Nat.le_of_ble_eq_true rfl⟩ (fun r1 mem2 H locs hq hP hS => ?_)
    have hD : va_D (Az sz) (fw n ad mem2) := fw_D hD
    rw [hq.2] at hP hD
    exact x_iret hx hb hlocks hr (⟨hK, fun _ _ => rfl⟩) hP hS d_Ab_count_35
  by_cases hk1 : k = 1
  · subst hk1
    refine lv_tableIn Bx.1 Bx.2.1 d_Ab_count_1 (by decide) (by decide) (off := 35) (by decide) (tgt := 36) rfl ?_
    refine lv_aload_n Bx.1 Bx.2.1 d_Ab_count_36 rfl (lv_at hl 0 rfl) ?_
    refine f_get Bx hP (by omega) h0 rfl inAb 2 (by decide) kw_176 rfl rfl d_Ab_count_37 ?_
    refine f_callVi (na := 0) (As := []) (rest := []) Bx hml E hP hD hS (by omega) hG.2.1 rfl (m_Gr_elementTotal l (by omega) hG.2.1) kw_640 kw_641 kw_642 kw_3 kw_643 (by decide +kernel) ⟨rfl, rfl⟩ ⟨Nat.le_of_ble_eq_true rfl, Nat.le_of_ble_eq_true rfl⟩ rfl hl.1 (Nat.le_of_ble_eq_true rfl) d_Ab_count_40 ⟨Nat.le_of_ble_eq_true rfl, Nat.le_of_ble_eq_true rfl⟩ (fun r3 mem4 H locs hq hP hS => ?_)
    have hD : va_D (Az sz) (fw n ad mem4) := fw_D hD
    rw [hq.2] at hP hD
    exact x_iret hx hb hlocks hr (⟨hK, fun _ _ => rfl⟩) hP hS d_Ab_count_43
  by_cases hk2 : k = 2
  · subst hk2
    refine lv_tableIn Bx.1 Bx.2.1 d_Ab_count_1 (by decide) (by decide) (off := 43) (by decide) (tgt := 44) rfl ?_
    refine lv_aload_n Bx.1 Bx.2.1 d_Ab_count_44 rfl (lv_at hl 0 rfl) ?_
    refine f_get Bx hP (by omega) h0 rfl inAb 2 (by decide) kw_176 rfl rfl d_Ab_count_45 ?_
    refine f_callVi (na := 0) (As := []) (rest := []) Bx hml E hP hD hS (by omega) hG.2.1 rfl (m_Gr_toldTotalG l hn hG) kw_644 kw_645 kw_646 kw_3 kw_647 (by decide +kernel) ⟨rfl, rfl⟩ ⟨Nat.le_of_ble_eq_true rfl, Nat.le_of_ble_eq_true rfl⟩ rfl hl.1 (Nat.le_of_ble_eq_true rfl) d_Ab_count_48 ⟨Nat.le_of_ble_eq_true rfl, Nat.le_of_ble_eq_true rfl⟩ (fun r5 mem6 H locs hq hP hS => ?_)
    have hD : va_D (Az sz) (fw n ad mem6) := fw_D hD
    rw [hq] at hP hD
    exact x_iret hx hb hlocks hr (⟨hK, fun _ _ => rfl⟩) hP hS d_Ab_count_51
  have hko : k.toInt < 0 ∨ 2 < k.toInt := by
    have q0 := lv_neT hk0 (a := 0) (by decide)
    have q1 := lv_neT hk1 (a := 1) (by decide)
    have q2 := lv_neT hk2 (a := 2) (by decide)
    omega
  refine lv_tableOut Bx.1 Bx.2.1 d_Ab_count_1 hko (tgt := 52) rfl ?_
  exact f_throw (rest := []) hlt Bx hml hlocks hno E hP hS (by decide +kernel) kw_552 kw_15 at_Ab_IO hl.1 d_Ab_count_52 d_Ab_count_55 d_Ab_count_56 d_Ab_count_59 ⟨Nat.le_of_ble_eq_true rfl, Nat.le_of_ble_eq_true rfl, Nat.le_of_ble_eq_true rfl, Nat.le_of_ble_eq_true rfl⟩ ⟨Nat.le_of_ble_eq_true rfl, Nat.le_of_ble_eq_true rfl⟩ ⟨rfl, rfl⟩
