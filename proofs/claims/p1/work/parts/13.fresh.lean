theorem d_Gr_begin_0 : decode c_Gr_begin 0 = .ok (.aload_n 0, 1) := by decide +kernel
theorem d_Gr_begin_1 : decode c_Gr_begin 1 = .ok (.getfield 30, 3) := by decide +kernel
theorem d_Gr_begin_4 : decode c_Gr_begin 4 = .ok (.invokevirtual 45, 3) := by decide +kernel
theorem d_Gr_begin_7 : decode c_Gr_begin 7 = .ok (.pop, 1) := by decide +kernel
theorem d_Gr_begin_8 : decode c_Gr_begin 8 = .ok (.aload_n 0, 1) := by decide +kernel
theorem d_Gr_begin_9 : decode c_Gr_begin 9 = .ok (.iconst 0, 1) := by decide +kernel
theorem d_Gr_begin_10 : decode c_Gr_begin 10 = .ok (.putfield 34, 3) := by decide +kernel
theorem d_Gr_begin_13 : decode c_Gr_begin 13 = .ok (.aload_n 0, 1) := by decide +kernel
theorem d_Gr_begin_14 : decode c_Gr_begin 14 = .ok (.iconst 0, 1) := by decide +kernel
theorem d_Gr_begin_15 : decode c_Gr_begin 15 = .ok (.putfield 38, 3) := by decide +kernel
theorem d_Gr_begin_18 : decode c_Gr_begin 18 = .ok (.aload_n 0, 1) := by decide +kernel
theorem d_Gr_begin_19 : decode c_Gr_begin 19 = .ok (.iconst 0, 1) := by decide +kernel
theorem d_Gr_begin_20 : decode c_Gr_begin 20 = .ok (.putfield 41, 3) := by decide +kernel
theorem d_Gr_begin_23 : decode c_Gr_begin 23 = .ok (.return_, 1) := by decide +kernel
theorem d_Gr_find_0 : decode c_Gr_find 0 = .ok (.iconst 0, 1) := by decide +kernel
theorem d_Gr_find_1 : decode c_Gr_find 1 = .ok (.istore_n 3, 1) := by decide +kernel
theorem d_Gr_find_2 : decode c_Gr_find 2 = .ok (.iload_n 3, 1) := by decide +kernel
theorem d_Gr_find_3 : decode c_Gr_find 3 = .ok (.aload_n 0, 1) := by decide +kernel
theorem d_Gr_find_4 : decode c_Gr_find 4 = .ok (.getfield 34, 3) := by decide +kernel
theorem d_Gr_find_7 : decode c_Gr_find 7 = .ok (.if_icmp .ge 25, 3) := by decide +kernel
theorem d_Gr_find_10 : decode c_Gr_find 10 = .ok (.aload_n 0, 1) := by decide +kernel
theorem d_Gr_find_11 : decode c_Gr_find 11 = .ok (.getfield 11, 3) := by decide +kernel
theorem d_Gr_find_14 : decode c_Gr_find 14 = .ok (.iload_n 3, 1) := by decide +kernel
theorem d_Gr_find_15 : decode c_Gr_find 15 = .ok (.aaload, 1) := by decide +kernel
theorem d_Gr_find_16 : decode c_Gr_find 16 = .ok (.getfield 56, 3) := by decide +kernel
theorem d_Gr_find_19 : decode c_Gr_find 19 = .ok (.lload_n 1, 1) := by decide +kernel
theorem d_Gr_find_20 : decode c_Gr_find 20 = .ok (.lcmp, 1) := by decide +kernel
theorem d_Gr_find_21 : decode c_Gr_find 21 = .ok (.ifCond .ne 5, 3) := by decide +kernel
theorem d_Gr_find_24 : decode c_Gr_find 24 = .ok (.iload_n 3, 1) := by decide +kernel
theorem d_Gr_find_25 : decode c_Gr_find 25 = .ok (.ireturn, 1) := by decide +kernel
theorem d_Gr_find_26 : decode c_Gr_find 26 = .ok (.iinc 3 1, 3) := by decide +kernel
theorem d_Gr_find_29 : decode c_Gr_find 29 = .ok (.goto (-27), 3) := by decide +kernel
theorem d_Gr_find_32 : decode c_Gr_find 32 = .ok (.iconst (-1), 1) := by decide +kernel
theorem d_Gr_find_33 : decode c_Gr_find 33 = .ok (.ireturn, 1) := by decide +kernel
theorem d_Gr_toldTotal_0 : decode c_Gr_toldTotal 0 = .ok (.iconst 0, 1) := by decide +kernel
theorem d_Gr_toldTotal_1 : decode c_Gr_toldTotal 1 = .ok (.istore_n 1, 1) := by decide +kernel
theorem d_Gr_toldTotal_2 : decode c_Gr_toldTotal 2 = .ok (.iconst 0, 1) := by decide +kernel
theorem d_Gr_toldTotal_3 : decode c_Gr_toldTotal 3 = .ok (.istore_n 2, 1) := by decide +kernel
theorem d_Gr_toldTotal_4 : decode c_Gr_toldTotal 4 = .ok (.iload_n 2, 1) := by decide +kernel
theorem d_Gr_toldTotal_5 : decode c_Gr_toldTotal 5 = .ok (.aload_n 0, 1) := by decide +kernel
theorem d_Gr_toldTotal_6 : decode c_Gr_toldTotal 6 = .ok (.invokevirtual 49, 3) := by decide +kernel
theorem d_Gr_toldTotal_9 : decode c_Gr_toldTotal 9 = .ok (.if_icmp .ge 24, 3) := by decide +kernel
theorem d_Gr_toldTotal_12 : decode c_Gr_toldTotal 12 = .ok (.aload_n 0, 1) := by decide +kernel
theorem d_Gr_toldTotal_13 : decode c_Gr_toldTotal 13 = .ok (.getfield 11, 3) := by decide +kernel
theorem d_Gr_toldTotal_16 : decode c_Gr_toldTotal 16 = .ok (.iload_n 2, 1) := by decide +kernel
theorem d_Gr_toldTotal_17 : decode c_Gr_toldTotal 17 = .ok (.aaload, 1) := by decide +kernel
theorem d_Gr_toldTotal_18 : decode c_Gr_toldTotal 18 = .ok (.invokevirtual 52, 3) := by decide +kernel
theorem d_Gr_toldTotal_21 : decode c_Gr_toldTotal 21 = .ok (.ifCond .eq 6, 3) := by decide +kernel
theorem d_Gr_toldTotal_24 : decode c_Gr_toldTotal 24 = .ok (.iinc 1 1, 3) := by decide +kernel
theorem d_Gr_toldTotal_27 : decode c_Gr_toldTotal 27 = .ok (.iinc 2 1, 3) := by decide +kernel
theorem d_Gr_toldTotal_30 : decode c_Gr_toldTotal 30 = .ok (.goto (-26), 3) := by decide +kernel
theorem d_Gr_toldTotal_33 : decode c_Gr_toldTotal 33 = .ok (.iload_n 1, 1) := by decide +kernel
theorem d_Gr_toldTotal_34 : decode c_Gr_toldTotal 34 = .ok (.ireturn, 1) := by decide +kernel
theorem d_Ab_rule_0 : decode c_Ab_rule 0 = .ok (.aload_n 0, 1) := by decide +kernel
theorem d_Ab_rule_1 : decode c_Ab_rule 1 = .ok (.getfield 24, 3) := by decide +kernel
theorem d_Ab_rule_4 : decode c_Ab_rule 4 = .ok (.lload_n 1, 1) := by decide +kernel
theorem d_Ab_rule_5 : decode c_Ab_rule 5 = .ok (.invokevirtual 85, 3) := by decide +kernel
theorem d_Ab_rule_8 : decode c_Ab_rule 8 = .ok (.istore_n 3, 1) := by decide +kernel
theorem d_Ab_rule_9 : decode c_Ab_rule 9 = .ok (.aload_n 0, 1) := by decide +kernel
theorem d_Ab_rule_10 : decode c_Ab_rule 10 = .ok (.iload_n 3, 1) := by decide +kernel
theorem d_Ab_rule_11 : decode c_Ab_rule 11 = .ok (.invokevirtual 89, 3) := by decide +kernel
theorem d_Ab_rule_14 : decode c_Ab_rule 14 = .ok (.iload_n 3, 1) := by decide +kernel
theorem d_Ab_rule_15 : decode c_Ab_rule 15 = .ok (.ireturn, 1) := by decide +kernel
theorem d_Ab_count_0 : decode c_Ab_count 0 = .ok (.iload_n 1, 1) := by decide +kernel
theorem d_Ab_count_1 : decode c_Ab_count 1 = .ok (.tableswitch 51 0 2 #[27, 35, 43], 27) := by decide +kernel
theorem d_Ab_count_28 : decode c_Ab_count 28 = .ok (.aload_n 0, 1) := by decide +kernel
theorem d_Ab_count_29 : decode c_Ab_count 29 = .ok (.getfield 24, 3) := by decide +kernel
theorem d_Ab_count_32 : decode c_Ab_count 32 = .ok (.invokevirtual 79, 3) := by decide +kernel
theorem d_Ab_count_35 : decode c_Ab_count 35 = .ok (.ireturn, 1) := by decide +kernel
theorem d_Ab_count_36 : decode c_Ab_count 36 = .ok (.aload_n 0, 1) := by decide +kernel
theorem d_Ab_count_37 : decode c_Ab_count 37 = .ok (.getfield 24, 3) := by decide +kernel
theorem d_Ab_count_40 : decode c_Ab_count 40 = .ok (.invokevirtual 109, 3) := by decide +kernel
theorem d_Ab_count_43 : decode c_Ab_count 43 = .ok (.ireturn, 1) := by decide +kernel
theorem d_Ab_count_44 : decode c_Ab_count 44 = .ok (.aload_n 0, 1) := by decide +kernel
theorem d_Ab_count_45 : decode c_Ab_count 45 = .ok (.getfield 24, 3) := by decide +kernel
theorem d_Ab_count_48 : decode c_Ab_count 48 = .ok (.invokevirtual 112, 3) := by decide +kernel
theorem d_Ab_count_51 : decode c_Ab_count 51 = .ok (.ireturn, 1) := by decide +kernel
theorem d_Ab_count_52 : decode c_Ab_count 52 = .ok (.new 115, 3) := by decide +kernel
theorem d_Ab_count_55 : decode c_Ab_count 55 = .ok (.dup, 1) := by decide +kernel
theorem d_Ab_count_56 : decode c_Ab_count 56 = .ok (.invokespecial 117, 3) := by decide +kernel
theorem d_Ab_count_59 : decode c_Ab_count 59 = .ok (.athrow, 1) := by decide +kernel
theorem d_Ab_matches_0 : decode c_Ab_matches 0 = .ok (.aload_n 0, 1) := by decide +kernel
theorem d_Ab_matches_1 : decode c_Ab_matches 1 = .ok (.iload_n 1, 1) := by decide +kernel
theorem d_Ab_matches_2 : decode c_Ab_matches 2 = .ok (.invokevirtual 89, 3) := by decide +kernel
theorem d_Ab_matches_5 : decode c_Ab_matches 5 = .ok (.aload_n 0, 1) := by decide +kernel
theorem d_Ab_matches_6 : decode c_Ab_matches 6 = .ok (.iload_n 2, 1) := by decide +kernel
theorem d_Ab_matches_7 : decode c_Ab_matches 7 = .ok (.iload_n 3, 1) := by decide +kernel
theorem d_Ab_matches_8 : decode c_Ab_matches 8 = .ok (.invokevirtual 95, 3) := by decide +kernel
theorem d_Ab_matches_11 : decode c_Ab_matches 11 = .ok (.aload_n 0, 1) := by decide +kernel
theorem d_Ab_matches_12 : decode c_Ab_matches 12 = .ok (.getfield 40, 3) := by decide +kernel
theorem d_Ab_matches_15 : decode c_Ab_matches 15 = .ok (.iload_n 1, 1) := by decide +kernel
theorem d_Ab_matches_16 : decode c_Ab_matches 16 = .ok (.iload_n 2, 1) := by decide +kernel
theorem d_Ab_matches_17 : decode c_Ab_matches 17 = .ok (.invokevirtual 99, 3) := by decide +kernel
theorem d_Ab_matches_20 : decode c_Ab_matches 20 = .ok (.iload_n 3, 1) := by decide +kernel
theorem d_Ab_matches_21 : decode c_Ab_matches 21 = .ok (.ishr, 1) := by decide +kernel
theorem d_Ab_matches_22 : decode c_Ab_matches 22 = .ok (.iconst 1, 1) := by decide +kernel
theorem d_Ab_matches_23 : decode c_Ab_matches 23 = .ok (.iand, 1) := by decide +kernel
theorem d_Ab_matches_24 : decode c_Ab_matches 24 = .ok (.iconst 1, 1) := by decide +kernel
theorem d_Ab_matches_25 : decode c_Ab_matches 25 = .ok (.if_icmp .ne 7, 3) := by decide +kernel
theorem d_Ab_matches_28 : decode c_Ab_matches 28 = .ok (.iconst 1, 1) := by decide +kernel
theorem d_Ab_matches_29 : decode c_Ab_matches 29 = .ok (.goto 4, 3) := by decide +kernel
theorem d_Ab_matches_32 : decode c_Ab_matches 32 = .ok (.iconst 0, 1) := by decide +kernel
theorem d_Ab_matches_33 : decode c_Ab_matches 33 = .ok (.ireturn, 1) := by decide +kernel
theorem d_Ab_longest_0 : decode c_Ab_longest 0 = .ok (.aload_n 0, 1) := by decide +kernel
theorem d_Ab_longest_1 : decode c_Ab_longest 1 = .ok (.iload_n 1, 1) := by decide +kernel
theorem d_Ab_longest_2 : decode c_Ab_longest 2 = .ok (.invokevirtual 89, 3) := by decide +kernel
theorem d_Ab_longest_5 : decode c_Ab_longest 5 = .ok (.aload_n 0, 1) := by decide +kernel
theorem d_Ab_longest_6 : decode c_Ab_longest 6 = .ok (.iload_n 2, 1) := by decide +kernel
theorem d_Ab_longest_7 : decode c_Ab_longest 7 = .ok (.iload_n 2, 1) := by decide +kernel
theorem d_Ab_longest_8 : decode c_Ab_longest 8 = .ok (.invokevirtual 95, 3) := by decide +kernel
theorem d_Ab_longest_11 : decode c_Ab_longest 11 = .ok (.aload_n 0, 1) := by decide +kernel
theorem d_Ab_longest_12 : decode c_Ab_longest 12 = .ok (.getfield 40, 3) := by decide +kernel
theorem d_Ab_longest_15 : decode c_Ab_longest 15 = .ok (.iload_n 1, 1) := by decide +kernel
theorem d_Ab_longest_16 : decode c_Ab_longest 16 = .ok (.iload_n 2, 1) := by decide +kernel
theorem d_Ab_longest_17 : decode c_Ab_longest 17 = .ok (.invokevirtual 99, 3) := by decide +kernel
theorem d_Ab_longest_20 : decode c_Ab_longest 20 = .ok (.istore_n 3, 1) := by decide +kernel
theorem d_Ab_longest_21 : decode c_Ab_longest 21 = .ok (.aload_n 0, 1) := by decide +kernel
theorem d_Ab_longest_22 : decode c_Ab_longest 22 = .ok (.getfield 18, 3) := by decide +kernel
theorem d_Ab_longest_25 : decode c_Ab_longest 25 = .ok (.getfield 65, 3) := by decide +kernel
theorem d_Ab_longest_28 : decode c_Ab_longest 28 = .ok (.istore 4, 2) := by decide +kernel
theorem d_Ab_longest_30 : decode c_Ab_longest 30 = .ok (.iload 4, 2) := by decide +kernel
theorem d_Ab_longest_32 : decode c_Ab_longest 32 = .ok (.iload_n 2, 1) := by decide +kernel
theorem d_Ab_longest_33 : decode c_Ab_longest 33 = .ok (.if_icmp .lt 22, 3) := by decide +kernel
theorem d_Ab_longest_36 : decode c_Ab_longest 36 = .ok (.iload_n 3, 1) := by decide +kernel
theorem d_Ab_longest_37 : decode c_Ab_longest 37 = .ok (.iload 4, 2) := by decide +kernel
theorem d_Ab_longest_39 : decode c_Ab_longest 39 = .ok (.ishr, 1) := by decide +kernel
theorem d_Ab_longest_40 : decode c_Ab_longest 40 = .ok (.iconst 1, 1) := by decide +kernel
theorem d_Ab_longest_41 : decode c_Ab_longest 41 = .ok (.iand, 1) := by decide +kernel
theorem d_Ab_longest_42 : decode c_Ab_longest 42 = .ok (.iconst 1, 1) := by decide +kernel
theorem d_Ab_longest_43 : decode c_Ab_longest 43 = .ok (.if_icmp .ne 6, 3) := by decide +kernel
theorem d_Ab_longest_46 : decode c_Ab_longest 46 = .ok (.iload 4, 2) := by decide +kernel
theorem d_Ab_longest_48 : decode c_Ab_longest 48 = .ok (.ireturn, 1) := by decide +kernel
theorem d_Ab_longest_49 : decode c_Ab_longest 49 = .ok (.iinc 4 (-1), 3) := by decide +kernel
theorem d_Ab_longest_52 : decode c_Ab_longest 52 = .ok (.goto (-22), 3) := by decide +kernel
theorem d_Ab_longest_55 : decode c_Ab_longest 55 = .ok (.iconst (-1), 1) := by decide +kernel
theorem d_Ab_longest_56 : decode c_Ab_longest 56 = .ok (.ireturn, 1) := by decide +kernel
theorem d_Ab_pieces_0 : decode c_Ab_pieces 0 = .ok (.aload_n 0, 1) := by decide +kernel
theorem d_Ab_pieces_1 : decode c_Ab_pieces 1 = .ok (.iload_n 1, 1) := by decide +kernel
theorem d_Ab_pieces_2 : decode c_Ab_pieces 2 = .ok (.invokevirtual 89, 3) := by decide +kernel
theorem d_Ab_pieces_5 : decode c_Ab_pieces 5 = .ok (.iconst 0, 1) := by decide +kernel
theorem d_Ab_pieces_6 : decode c_Ab_pieces 6 = .ok (.istore_n 2, 1) := by decide +kernel
theorem d_Ab_pieces_7 : decode c_Ab_pieces 7 = .ok (.iconst 0, 1) := by decide +kernel
theorem d_Ab_pieces_8 : decode c_Ab_pieces 8 = .ok (.istore_n 3, 1) := by decide +kernel
theorem d_Ab_pieces_9 : decode c_Ab_pieces 9 = .ok (.iload_n 3, 1) := by decide +kernel
theorem d_Ab_pieces_10 : decode c_Ab_pieces 10 = .ok (.aload_n 0, 1) := by decide +kernel
theorem d_Ab_pieces_11 : decode c_Ab_pieces 11 = .ok (.getfield 18, 3) := by decide +kernel
theorem d_Ab_pieces_14 : decode c_Ab_pieces 14 = .ok (.getfield 65, 3) := by decide +kernel
theorem d_Ab_pieces_17 : decode c_Ab_pieces 17 = .ok (.if_icmp .gt 24, 3) := by decide +kernel
theorem d_Ab_pieces_20 : decode c_Ab_pieces 20 = .ok (.iload_n 2, 1) := by decide +kernel
theorem d_Ab_pieces_21 : decode c_Ab_pieces 21 = .ok (.aload_n 0, 1) := by decide +kernel
theorem d_Ab_pieces_22 : decode c_Ab_pieces 22 = .ok (.getfield 40, 3) := by decide +kernel
theorem d_Ab_pieces_25 : decode c_Ab_pieces 25 = .ok (.iload_n 1, 1) := by decide +kernel
theorem d_Ab_pieces_26 : decode c_Ab_pieces 26 = .ok (.iload_n 3, 1) := by decide +kernel
theorem d_Ab_pieces_27 : decode c_Ab_pieces 27 = .ok (.invokevirtual 99, 3) := by decide +kernel
theorem d_Ab_pieces_30 : decode c_Ab_pieces 30 = .ok (.invokestatic 103, 3) := by decide +kernel
theorem d_Ab_pieces_33 : decode c_Ab_pieces 33 = .ok (.iadd, 1) := by decide +kernel
theorem d_Ab_pieces_34 : decode c_Ab_pieces 34 = .ok (.istore_n 2, 1) := by decide +kernel
theorem d_Ab_pieces_35 : decode c_Ab_pieces 35 = .ok (.iinc 3 1, 3) := by decide +kernel
theorem d_Ab_pieces_38 : decode c_Ab_pieces 38 = .ok (.goto (-29), 3) := by decide +kernel
theorem d_Ab_pieces_41 : decode c_Ab_pieces 41 = .ok (.iload_n 2, 1) := by decide +kernel
theorem d_Ab_pieces_42 : decode c_Ab_pieces 42 = .ok (.ireturn, 1) := by decide +kernel
theorem d_Rd_peek_0 : decode c_Rd_peek 0 = .ok (.aload_n 0, 1) := by decide +kernel
theorem d_Rd_peek_1 : decode c_Rd_peek 1 = .ok (.getfield 9, 3) := by decide +kernel
theorem d_Rd_peek_4 : decode c_Rd_peek 4 = .ok (.aload_n 0, 1) := by decide +kernel
theorem d_Rd_peek_5 : decode c_Rd_peek 5 = .ok (.getfield 19, 3) := by decide +kernel
theorem d_Rd_peek_8 : decode c_Rd_peek 8 = .ok (.invokevirtual 132, 3) := by decide +kernel
theorem d_Rd_peek_11 : decode c_Rd_peek 11 = .ok (.ireturn, 1) := by decide +kernel
theorem d_Rd_needReadable_0 : decode c_Rd_needReadable 0 = .ok (.iload_n 1, 1) := by decide +kernel
theorem d_Rd_needReadable_1 : decode c_Rd_needReadable 1 = .ok (.ifCond .ne 16, 3) := by decide +kernel
theorem d_Rd_needReadable_4 : decode c_Rd_needReadable 4 = .ok (.aload_n 0, 1) := by decide +kernel
theorem d_Rd_needReadable_5 : decode c_Rd_needReadable 5 = .ok (.iload_n 2, 1) := by decide +kernel
theorem d_Rd_needReadable_6 : decode c_Rd_needReadable 6 = .ok (.putfield 23, 3) := by decide +kernel
theorem d_Rd_needReadable_9 : decode c_Rd_needReadable 9 = .ok (.new 201, 3) := by decide +kernel
theorem d_Rd_needReadable_12 : decode c_Rd_needReadable 12 = .ok (.dup, 1) := by decide +kernel
theorem d_Rd_needReadable_13 : decode c_Rd_needReadable 13 = .ok (.invokespecial 203, 3) := by decide +kernel
theorem d_Rd_needReadable_16 : decode c_Rd_needReadable 16 = .ok (.athrow, 1) := by decide +kernel
theorem d_Rd_needReadable_17 : decode c_Rd_needReadable 17 = .ok (.return_, 1) := by decide +kernel
theorem d_Rd_fullLineFrom_0 : decode c_Rd_fullLineFrom 0 = .ok (.iload_n 1, 1) := by decide +kernel
theorem d_Rd_fullLineFrom_1 : decode c_Rd_fullLineFrom 1 = .ok (.istore_n 2, 1) := by decide +kernel
theorem d_Rd_fullLineFrom_2 : decode c_Rd_fullLineFrom 2 = .ok (.iconst 0, 1) := by decide +kernel
theorem d_Rd_fullLineFrom_3 : decode c_Rd_fullLineFrom 3 = .ok (.istore_n 3, 1) := by decide +kernel
theorem d_Rd_fullLineFrom_4 : decode c_Rd_fullLineFrom 4 = .ok (.iload_n 1, 1) := by decide +kernel
theorem d_Rd_fullLineFrom_5 : decode c_Rd_fullLineFrom 5 = .ok (.istore 4, 2) := by decide +kernel
theorem d_Rd_fullLineFrom_7 : decode c_Rd_fullLineFrom 7 = .ok (.iload 4, 2) := by decide +kernel
theorem d_Rd_fullLineFrom_9 : decode c_Rd_fullLineFrom 9 = .ok (.aload_n 0, 1) := by decide +kernel
theorem d_Rd_fullLineFrom_10 : decode c_Rd_fullLineFrom 10 = .ok (.getfield 9, 3) := by decide +kernel
theorem d_Rd_fullLineFrom_13 : decode c_Rd_fullLineFrom 13 = .ok (.getfield 38, 3) := by decide +kernel
theorem d_Rd_fullLineFrom_16 : decode c_Rd_fullLineFrom 16 = .ok (.if_icmp .ge 62, 3) := by decide +kernel
theorem d_Rd_fullLineFrom_19 : decode c_Rd_fullLineFrom 19 = .ok (.aload_n 0, 1) := by decide +kernel
theorem d_Rd_fullLineFrom_20 : decode c_Rd_fullLineFrom 20 = .ok (.getfield 9, 3) := by decide +kernel
theorem d_Rd_fullLineFrom_23 : decode c_Rd_fullLineFrom 23 = .ok (.iload 4, 2) := by decide +kernel
theorem d_Rd_fullLineFrom_25 : decode c_Rd_fullLineFrom 25 = .ok (.invokevirtual 132, 3) := by decide +kernel
theorem d_Rd_fullLineFrom_28 : decode c_Rd_fullLineFrom 28 = .ok (.istore 5, 2) := by decide +kernel
theorem d_Rd_fullLineFrom_30 : decode c_Rd_fullLineFrom 30 = .ok (.iload 5, 2) := by decide +kernel
theorem d_Rd_fullLineFrom_32 : decode c_Rd_fullLineFrom 32 = .ok (.bipush 10, 2) := by decide +kernel
theorem d_Rd_fullLineFrom_34 : decode c_Rd_fullLineFrom 34 = .ok (.if_icmp .ne 13, 3) := by decide +kernel
theorem d_Rd_fullLineFrom_37 : decode c_Rd_fullLineFrom 37 = .ok (.iload 4, 2) := by decide +kernel
theorem d_Rd_fullLineFrom_39 : decode c_Rd_fullLineFrom 39 = .ok (.iconst 1, 1) := by decide +kernel
theorem d_Rd_fullLineFrom_40 : decode c_Rd_fullLineFrom 40 = .ok (.iadd, 1) := by decide +kernel
theorem d_Rd_fullLineFrom_41 : decode c_Rd_fullLineFrom 41 = .ok (.istore_n 2, 1) := by decide +kernel
theorem d_Rd_fullLineFrom_42 : decode c_Rd_fullLineFrom 42 = .ok (.iconst 0, 1) := by decide +kernel
theorem d_Rd_fullLineFrom_43 : decode c_Rd_fullLineFrom 43 = .ok (.istore_n 3, 1) := by decide +kernel
theorem d_Rd_fullLineFrom_44 : decode c_Rd_fullLineFrom 44 = .ok (.goto 28, 3) := by decide +kernel
theorem d_Rd_fullLineFrom_47 : decode c_Rd_fullLineFrom 47 = .ok (.iload 5, 2) := by decide +kernel
theorem d_Rd_fullLineFrom_49 : decode c_Rd_fullLineFrom 49 = .ok (.bipush 59, 2) := by decide +kernel
theorem d_Rd_fullLineFrom_51 : decode c_Rd_fullLineFrom 51 = .ok (.if_icmp .ne 8, 3) := by decide +kernel
theorem d_Rd_fullLineFrom_54 : decode c_Rd_fullLineFrom 54 = .ok (.iconst 1, 1) := by decide +kernel
theorem d_Rd_fullLineFrom_55 : decode c_Rd_fullLineFrom 55 = .ok (.istore_n 3, 1) := by decide +kernel
theorem d_Rd_fullLineFrom_56 : decode c_Rd_fullLineFrom 56 = .ok (.goto 16, 3) := by decide +kernel
theorem d_Rd_fullLineFrom_59 : decode c_Rd_fullLineFrom 59 = .ok (.iload 5, 2) := by decide +kernel
theorem d_Rd_fullLineFrom_61 : decode c_Rd_fullLineFrom 61 = .ok (.bipush 32, 2) := by decide +kernel
theorem d_Rd_fullLineFrom_63 : decode c_Rd_fullLineFrom 63 = .ok (.if_icmp .eq 9, 3) := by decide +kernel
theorem d_Rd_fullLineFrom_66 : decode c_Rd_fullLineFrom 66 = .ok (.iload_n 3, 1) := by decide +kernel
theorem d_Rd_fullLineFrom_67 : decode c_Rd_fullLineFrom 67 = .ok (.ifCond .ne 5, 3) := by decide +kernel
theorem d_Rd_fullLineFrom_70 : decode c_Rd_fullLineFrom 70 = .ok (.iload_n 2, 1) := by decide +kernel
theorem d_Rd_fullLineFrom_71 : decode c_Rd_fullLineFrom 71 = .ok (.ireturn, 1) := by decide +kernel
theorem d_Rd_fullLineFrom_72 : decode c_Rd_fullLineFrom 72 = .ok (.iinc 4 1, 3) := by decide +kernel
theorem d_Rd_fullLineFrom_75 : decode c_Rd_fullLineFrom 75 = .ok (.goto (-68), 3) := by decide +kernel
theorem d_Rd_fullLineFrom_78 : decode c_Rd_fullLineFrom 78 = .ok (.aload_n 0, 1) := by decide +kernel
theorem d_Rd_fullLineFrom_79 : decode c_Rd_fullLineFrom 79 = .ok (.getfield 9, 3) := by decide +kernel
theorem d_Rd_fullLineFrom_82 : decode c_Rd_fullLineFrom 82 = .ok (.getfield 38, 3) := by decide +kernel
theorem d_Rd_fullLineFrom_85 : decode c_Rd_fullLineFrom 85 = .ok (.ireturn, 1) := by decide +kernel
theorem d_Rd_readName_0 : decode c_Rd_readName 0 = .ok (.aload_n 0, 1) := by decide +kernel
theorem d_Rd_readName_1 : decode c_Rd_readName 1 = .ok (.getfield 19, 3) := by decide +kernel
theorem d_Rd_readName_4 : decode c_Rd_readName 4 = .ok (.istore_n 1, 1) := by decide +kernel
theorem d_Rd_readName_5 : decode c_Rd_readName 5 = .ok (.lconst 0, 1) := by decide +kernel
theorem d_Rd_readName_6 : decode c_Rd_readName 6 = .ok (.lstore_n 2, 1) := by decide +kernel
theorem d_Rd_readName_7 : decode c_Rd_readName 7 = .ok (.aload_n 0, 1) := by decide +kernel
theorem d_Rd_readName_8 : decode c_Rd_readName 8 = .ok (.aload_n 0, 1) := by decide +kernel
theorem d_Rd_readName_9 : decode c_Rd_readName 9 = .ok (.invokevirtual 54, 3) := by decide +kernel
theorem d_Rd_readName_12 : decode c_Rd_readName 12 = .ok (.invokestatic 175, 3) := by decide +kernel
theorem d_Rd_readName_15 : decode c_Rd_readName 15 = .ok (.aload_n 0, 1) := by decide +kernel
theorem d_Rd_readName_16 : decode c_Rd_readName 16 = .ok (.getfield 19, 3) := by decide +kernel
theorem d_Rd_readName_19 : decode c_Rd_readName 19 = .ok (.invokevirtual 58, 3) := by decide +kernel
theorem d_Rd_readName_22 : decode c_Rd_readName 22 = .ok (.iconst 0, 1) := by decide +kernel
theorem d_Rd_readName_23 : decode c_Rd_readName 23 = .ok (.istore 4, 2) := by decide +kernel
theorem d_Rd_readName_25 : decode c_Rd_readName 25 = .ok (.iload 4, 2) := by decide +kernel
theorem d_Rd_readName_27 : decode c_Rd_readName 27 = .ok (.bipush 6, 2) := by decide +kernel
theorem d_Rd_readName_29 : decode c_Rd_readName 29 = .ok (.if_icmp .ge 46, 3) := by decide +kernel
theorem d_Rd_readName_32 : decode c_Rd_readName 32 = .ok (.aload_n 0, 1) := by decide +kernel
theorem d_Rd_readName_33 : decode c_Rd_readName 33 = .ok (.invokevirtual 54, 3) := by decide +kernel
theorem d_Rd_readName_36 : decode c_Rd_readName 36 = .ok (.invokestatic 178, 3) := by decide +kernel
theorem d_Rd_readName_39 : decode c_Rd_readName 39 = .ok (.ifCond .eq 36, 3) := by decide +kernel
theorem d_Rd_readName_42 : decode c_Rd_readName 42 = .ok (.lload_n 2, 1) := by decide +kernel
theorem d_Rd_readName_43 : decode c_Rd_readName 43 = .ok (.aload_n 0, 1) := by decide +kernel
theorem d_Rd_readName_44 : decode c_Rd_readName 44 = .ok (.invokevirtual 54, 3) := by decide +kernel
theorem d_Rd_readName_47 : decode c_Rd_readName 47 = .ok (.invokestatic 135, 3) := by decide +kernel
theorem d_Rd_readName_50 : decode c_Rd_readName 50 = .ok (.i2l, 1) := by decide +kernel
theorem d_Rd_readName_51 : decode c_Rd_readName 51 = .ok (.bipush 8, 2) := by decide +kernel
theorem d_Rd_readName_53 : decode c_Rd_readName 53 = .ok (.iload 4, 2) := by decide +kernel
theorem d_Rd_readName_55 : decode c_Rd_readName 55 = .ok (.imul, 1) := by decide +kernel
theorem d_Rd_readName_56 : decode c_Rd_readName 56 = .ok (.lshl, 1) := by decide +kernel
theorem d_Rd_readName_57 : decode c_Rd_readName 57 = .ok (.lor, 1) := by decide +kernel
theorem d_Rd_readName_58 : decode c_Rd_readName 58 = .ok (.lstore_n 2, 1) := by decide +kernel
theorem d_Rd_readName_59 : decode c_Rd_readName 59 = .ok (.aload_n 0, 1) := by decide +kernel
theorem d_Rd_readName_60 : decode c_Rd_readName 60 = .ok (.dup, 1) := by decide +kernel
theorem d_Rd_readName_61 : decode c_Rd_readName 61 = .ok (.getfield 19, 3) := by decide +kernel
theorem d_Rd_readName_64 : decode c_Rd_readName 64 = .ok (.iconst 1, 1) := by decide +kernel
theorem d_Rd_readName_65 : decode c_Rd_readName 65 = .ok (.iadd, 1) := by decide +kernel
theorem d_Rd_readName_66 : decode c_Rd_readName 66 = .ok (.putfield 19, 3) := by decide +kernel
theorem d_Rd_readName_69 : decode c_Rd_readName 69 = .ok (.iinc 4 1, 3) := by decide +kernel
theorem d_Rd_readName_72 : decode c_Rd_readName 72 = .ok (.goto (-47), 3) := by decide +kernel
theorem d_Rd_readName_75 : decode c_Rd_readName 75 = .ok (.aload_n 0, 1) := by decide +kernel
theorem d_Rd_readName_76 : decode c_Rd_readName 76 = .ok (.getfield 15, 3) := by decide +kernel
theorem d_Rd_readName_79 : decode c_Rd_readName 79 = .ok (.lload_n 2, 1) := by decide +kernel
theorem d_Rd_readName_80 : decode c_Rd_readName 80 = .ok (.invokevirtual 181, 3) := by decide +kernel
theorem d_Rd_readName_83 : decode c_Rd_readName 83 = .ok (.istore 4, 2) := by decide +kernel
theorem d_Rd_readName_85 : decode c_Rd_readName 85 = .ok (.iload 4, 2) := by decide +kernel
theorem d_Rd_readName_87 : decode c_Rd_readName 87 = .ok (.iconst (-1), 1) := by decide +kernel
theorem d_Rd_readName_88 : decode c_Rd_readName 88 = .ok (.if_icmp .eq 14, 3) := by decide +kernel
theorem d_Rd_readName_91 : decode c_Rd_readName 91 = .ok (.aload_n 0, 1) := by decide +kernel
theorem d_Rd_readName_92 : decode c_Rd_readName 92 = .ok (.getfield 15, 3) := by decide +kernel
theorem d_Rd_readName_95 : decode c_Rd_readName 95 = .ok (.getfield 185, 3) := by decide +kernel
theorem d_Rd_readName_98 : decode c_Rd_readName 98 = .ok (.iload 4, 2) := by decide +kernel
theorem d_Rd_readName_100 : decode c_Rd_readName 100 = .ok (.aaload, 1) := by decide +kernel
theorem d_Rd_readName_101 : decode c_Rd_readName 101 = .ok (.areturn, 1) := by decide +kernel
theorem d_Rd_readName_102 : decode c_Rd_readName 102 = .ok (.aload_n 0, 1) := by decide +kernel
theorem d_Rd_readName_103 : decode c_Rd_readName 103 = .ok (.aload_n 0, 1) := by decide +kernel
theorem d_Rd_readName_104 : decode c_Rd_readName 104 = .ok (.getfield 15, 3) := by decide +kernel
theorem d_Rd_readName_107 : decode c_Rd_readName 107 = .ok (.invokevirtual 189, 3) := by decide +kernel
theorem d_Rd_readName_110 : decode c_Rd_readName 110 = .ok (.iload_n 1, 1) := by decide +kernel
theorem d_Rd_readName_111 : decode c_Rd_readName 111 = .ok (.invokevirtual 148, 3) := by decide +kernel
theorem d_Rd_readName_114 : decode c_Rd_readName 114 = .ok (.aload_n 0, 1) := by decide +kernel
theorem d_Rd_readName_115 : decode c_Rd_readName 115 = .ok (.getfield 15, 3) := by decide +kernel
theorem d_Rd_readName_118 : decode c_Rd_readName 118 = .ok (.lload_n 2, 1) := by decide +kernel
theorem d_Rd_readName_119 : decode c_Rd_readName 119 = .ok (.invokevirtual 192, 3) := by decide +kernel
theorem d_Rd_readName_122 : decode c_Rd_readName 122 = .ok (.areturn, 1) := by decide +kernel
theorem d_Rd_readRule_0 : decode c_Rd_readRule 0 = .ok (.aload_n 0, 1) := by decide +kernel
theorem d_Rd_readRule_1 : decode c_Rd_readRule 1 = .ok (.getfield 19, 3) := by decide +kernel
theorem d_Rd_readRule_4 : decode c_Rd_readRule 4 = .ok (.istore_n 1, 1) := by decide +kernel
theorem d_Rd_readRule_5 : decode c_Rd_readRule 5 = .ok (.aload_n 0, 1) := by decide +kernel
theorem d_Rd_readRule_6 : decode c_Rd_readRule 6 = .ok (.invokevirtual 46, 3) := by decide +kernel
theorem d_Rd_readRule_9 : decode c_Rd_readRule 9 = .ok (.astore_n 2, 1) := by decide +kernel
theorem d_Rd_readRule_10 : decode c_Rd_readRule 10 = .ok (.aload_n 0, 1) := by decide +kernel
theorem d_Rd_readRule_11 : decode c_Rd_readRule 11 = .ok (.invokevirtual 50, 3) := by decide +kernel
theorem d_Rd_readRule_14 : decode c_Rd_readRule 14 = .ok (.pop, 1) := by decide +kernel
theorem d_Rd_readRule_15 : decode c_Rd_readRule 15 = .ok (.aload_n 0, 1) := by decide +kernel
theorem d_Rd_readRule_16 : decode c_Rd_readRule 16 = .ok (.aload_n 0, 1) := by decide +kernel
theorem d_Rd_readRule_17 : decode c_Rd_readRule 17 = .ok (.invokevirtual 54, 3) := by decide +kernel
theorem d_Rd_readRule_20 : decode c_Rd_readRule 20 = .ok (.bipush 61, 2) := by decide +kernel
theorem d_Rd_readRule_22 : decode c_Rd_readRule 22 = .ok (.if_icmp .ne 7, 3) := by decide +kernel
theorem d_Rd_readRule_25 : decode c_Rd_readRule 25 = .ok (.iconst 1, 1) := by decide +kernel
theorem d_Rd_readRule_26 : decode c_Rd_readRule 26 = .ok (.goto 4, 3) := by decide +kernel
theorem d_Rd_readRule_29 : decode c_Rd_readRule 29 = .ok (.iconst 0, 1) := by decide +kernel
theorem d_Rd_readRule_30 : decode c_Rd_readRule 30 = .ok (.aload_n 0, 1) := by decide +kernel
theorem d_Rd_readRule_31 : decode c_Rd_readRule 31 = .ok (.getfield 19, 3) := by decide +kernel
theorem d_Rd_readRule_34 : decode c_Rd_readRule 34 = .ok (.invokevirtual 58, 3) := by decide +kernel
theorem d_Rd_readRule_37 : decode c_Rd_readRule 37 = .ok (.aload_n 0, 1) := by decide +kernel
theorem d_Rd_readRule_38 : decode c_Rd_readRule 38 = .ok (.dup, 1) := by decide +kernel
theorem d_Rd_readRule_39 : decode c_Rd_readRule 39 = .ok (.getfield 19, 3) := by decide +kernel
theorem d_Rd_readRule_42 : decode c_Rd_readRule 42 = .ok (.iconst 1, 1) := by decide +kernel
theorem d_Rd_readRule_43 : decode c_Rd_readRule 43 = .ok (.iadd, 1) := by decide +kernel
theorem d_Rd_readRule_44 : decode c_Rd_readRule 44 = .ok (.putfield 19, 3) := by decide +kernel
theorem d_Rd_readRule_47 : decode c_Rd_readRule 47 = .ok (.aload_n 0, 1) := by decide +kernel
theorem d_Rd_readRule_48 : decode c_Rd_readRule 48 = .ok (.invokevirtual 54, 3) := by decide +kernel
theorem d_Rd_readRule_51 : decode c_Rd_readRule 51 = .ok (.bipush 47, 2) := by decide +kernel
theorem d_Rd_readRule_53 : decode c_Rd_readRule 53 = .ok (.if_icmp .ne 7, 3) := by decide +kernel
theorem d_Rd_readRule_56 : decode c_Rd_readRule 56 = .ok (.iconst 1, 1) := by decide +kernel
theorem d_Rd_readRule_57 : decode c_Rd_readRule 57 = .ok (.goto 4, 3) := by decide +kernel
theorem d_Rd_readRule_60 : decode c_Rd_readRule 60 = .ok (.iconst 0, 1) := by decide +kernel
theorem d_Rd_readRule_61 : decode c_Rd_readRule 61 = .ok (.istore_n 3, 1) := by decide +kernel
theorem d_Rd_readRule_62 : decode c_Rd_readRule 62 = .ok (.iload_n 3, 1) := by decide +kernel
theorem d_Rd_readRule_63 : decode c_Rd_readRule 63 = .ok (.ifCond .eq 13, 3) := by decide +kernel
theorem d_Rd_readRule_66 : decode c_Rd_readRule 66 = .ok (.aload_n 0, 1) := by decide +kernel
theorem d_Rd_readRule_67 : decode c_Rd_readRule 67 = .ok (.dup, 1) := by decide +kernel
theorem d_Rd_readRule_68 : decode c_Rd_readRule 68 = .ok (.getfield 19, 3) := by decide +kernel
theorem d_Rd_readRule_71 : decode c_Rd_readRule 71 = .ok (.iconst 1, 1) := by decide +kernel
theorem d_Rd_readRule_72 : decode c_Rd_readRule 72 = .ok (.iadd, 1) := by decide +kernel
theorem d_Rd_readRule_73 : decode c_Rd_readRule 73 = .ok (.putfield 19, 3) := by decide +kernel
theorem d_Rd_readRule_76 : decode c_Rd_readRule 76 = .ok (.aload_n 0, 1) := by decide +kernel
theorem d_Rd_readRule_77 : decode c_Rd_readRule 77 = .ok (.aload_n 2, 1) := by decide +kernel
theorem d_Rd_readRule_78 : decode c_Rd_readRule 78 = .ok (.invokevirtual 62, 3) := by decide +kernel
theorem d_Rd_readRule_81 : decode c_Rd_readRule 81 = .ok (.iload_n 3, 1) := by decide +kernel
theorem d_Rd_readRule_82 : decode c_Rd_readRule 82 = .ok (.if_icmp .ne 7, 3) := by decide +kernel
theorem d_Rd_readRule_85 : decode c_Rd_readRule 85 = .ok (.iconst 1, 1) := by decide +kernel
theorem d_Rd_readRule_86 : decode c_Rd_readRule 86 = .ok (.goto 4, 3) := by decide +kernel
theorem d_Rd_readRule_89 : decode c_Rd_readRule 89 = .ok (.iconst 0, 1) := by decide +kernel
theorem d_Rd_readRule_90 : decode c_Rd_readRule 90 = .ok (.iload_n 1, 1) := by decide +kernel
theorem d_Rd_readRule_91 : decode c_Rd_readRule 91 = .ok (.invokevirtual 58, 3) := by decide +kernel
theorem d_Rd_readRule_94 : decode c_Rd_readRule 94 = .ok (.aload_n 0, 1) := by decide +kernel
theorem d_Rd_readRule_95 : decode c_Rd_readRule 95 = .ok (.invokevirtual 50, 3) := by decide +kernel
theorem d_Rd_readRule_98 : decode c_Rd_readRule 98 = .ok (.pop, 1) := by decide +kernel
theorem d_Rd_readRule_99 : decode c_Rd_readRule 99 = .ok (.aload_n 2, 1) := by decide +kernel
theorem d_Rd_readRule_100 : decode c_Rd_readRule 100 = .ok (.aload_n 0, 1) := by decide +kernel
theorem d_Rd_readRule_101 : decode c_Rd_readRule 101 = .ok (.iconst 0, 1) := by decide +kernel
theorem d_Rd_readRule_102 : decode c_Rd_readRule 102 = .ok (.invokevirtual 67, 3) := by decide +kernel
theorem d_Rd_readRule_105 : decode c_Rd_readRule 105 = .ok (.invokevirtual 71, 3) := by decide +kernel
theorem d_Rd_readRule_108 : decode c_Rd_readRule 108 = .ok (.aload_n 0, 1) := by decide +kernel
theorem d_Rd_readRule_109 : decode c_Rd_readRule 109 = .ok (.aload_n 0, 1) := by decide +kernel
theorem d_Rd_readRule_110 : decode c_Rd_readRule 110 = .ok (.invokevirtual 54, 3) := by decide +kernel
theorem d_Rd_readRule_113 : decode c_Rd_readRule 113 = .ok (.iconst (-1), 1) := by decide +kernel
theorem d_Rd_readRule_114 : decode c_Rd_readRule 114 = .ok (.if_icmp .eq 12, 3) := by decide +kernel
theorem d_Rd_readRule_117 : decode c_Rd_readRule 117 = .ok (.aload_n 0, 1) := by decide +kernel
theorem d_Rd_readRule_118 : decode c_Rd_readRule 118 = .ok (.invokevirtual 54, 3) := by decide +kernel
theorem d_Rd_readRule_121 : decode c_Rd_readRule 121 = .ok (.bipush 10, 2) := by decide +kernel
theorem d_Rd_readRule_123 : decode c_Rd_readRule 123 = .ok (.if_icmp .ne 7, 3) := by decide +kernel
theorem d_Rd_readRule_126 : decode c_Rd_readRule 126 = .ok (.iconst 1, 1) := by decide +kernel
theorem d_Rd_readRule_127 : decode c_Rd_readRule 127 = .ok (.goto 4, 3) := by decide +kernel
theorem d_Rd_readRule_130 : decode c_Rd_readRule 130 = .ok (.iconst 0, 1) := by decide +kernel
theorem d_Rd_readRule_131 : decode c_Rd_readRule 131 = .ok (.aload_n 0, 1) := by decide +kernel
theorem d_Rd_readRule_132 : decode c_Rd_readRule 132 = .ok (.getfield 19, 3) := by decide +kernel
theorem d_Rd_readRule_135 : decode c_Rd_readRule 135 = .ok (.invokevirtual 58, 3) := by decide +kernel
theorem d_Rd_readRule_138 : decode c_Rd_readRule 138 = .ok (.aload_n 0, 1) := by decide +kernel
theorem d_Rd_readRule_139 : decode c_Rd_readRule 139 = .ok (.aload_n 0, 1) := by decide +kernel
theorem d_Rd_readRule_140 : decode c_Rd_readRule 140 = .ok (.aload_n 0, 1) := by decide +kernel
theorem d_Rd_readRule_141 : decode c_Rd_readRule 141 = .ok (.getfield 19, 3) := by decide +kernel
theorem d_Rd_readRule_144 : decode c_Rd_readRule 144 = .ok (.iconst 1, 1) := by decide +kernel
theorem d_Rd_readRule_145 : decode c_Rd_readRule 145 = .ok (.iadd, 1) := by decide +kernel
theorem d_Rd_readRule_146 : decode c_Rd_readRule 146 = .ok (.invokevirtual 31, 3) := by decide +kernel
theorem d_Rd_readRule_149 : decode c_Rd_readRule 149 = .ok (.putfield 19, 3) := by decide +kernel
theorem d_Rd_readRule_152 : decode c_Rd_readRule 152 = .ok (.return_, 1) := by decide +kernel
theorem d_Rd_readGrammar_0 : decode c_Rd_readGrammar 0 = .ok (.aload_n 0, 1) := by decide +kernel
theorem d_Rd_readGrammar_1 : decode c_Rd_readGrammar 1 = .ok (.getfield 15, 3) := by decide +kernel
theorem d_Rd_readGrammar_4 : decode c_Rd_readGrammar 4 = .ok (.invokevirtual 26, 3) := by decide +kernel
theorem d_Rd_readGrammar_7 : decode c_Rd_readGrammar 7 = .ok (.aload_n 0, 1) := by decide +kernel
theorem d_Rd_readGrammar_8 : decode c_Rd_readGrammar 8 = .ok (.iconst (-1), 1) := by decide +kernel
theorem d_Rd_readGrammar_9 : decode c_Rd_readGrammar 9 = .ok (.putfield 23, 3) := by decide +kernel
theorem d_Rd_readGrammar_12 : decode c_Rd_readGrammar 12 = .ok (.aload_n 0, 1) := by decide +kernel
theorem d_Rd_readGrammar_13 : decode c_Rd_readGrammar 13 = .ok (.aload_n 0, 1) := by decide +kernel
theorem d_Rd_readGrammar_14 : decode c_Rd_readGrammar 14 = .ok (.iconst 0, 1) := by decide +kernel
theorem d_Rd_readGrammar_15 : decode c_Rd_readGrammar 15 = .ok (.invokevirtual 31, 3) := by decide +kernel
theorem d_Rd_readGrammar_18 : decode c_Rd_readGrammar 18 = .ok (.putfield 19, 3) := by decide +kernel
theorem d_Rd_readGrammar_21 : decode c_Rd_readGrammar 21 = .ok (.aload_n 0, 1) := by decide +kernel
theorem d_Rd_readGrammar_22 : decode c_Rd_readGrammar 22 = .ok (.invokevirtual 35, 3) := by decide +kernel
theorem d_Rd_readGrammar_25 : decode c_Rd_readGrammar 25 = .ok (.iconst 0, 1) := by decide +kernel
theorem d_Rd_readGrammar_26 : decode c_Rd_readGrammar 26 = .ok (.istore_n 1, 1) := by decide +kernel
theorem d_Rd_readGrammar_27 : decode c_Rd_readGrammar 27 = .ok (.iload_n 1, 1) := by decide +kernel
theorem d_Rd_readGrammar_28 : decode c_Rd_readGrammar 28 = .ok (.sipush 240, 3) := by decide +kernel
theorem d_Rd_readGrammar_31 : decode c_Rd_readGrammar 31 = .ok (.if_icmp .ge 27, 3) := by decide +kernel
theorem d_Rd_readGrammar_34 : decode c_Rd_readGrammar 34 = .ok (.aload_n 0, 1) := by decide +kernel
theorem d_Rd_readGrammar_35 : decode c_Rd_readGrammar 35 = .ok (.getfield 19, 3) := by decide +kernel
theorem d_Rd_readGrammar_38 : decode c_Rd_readGrammar 38 = .ok (.aload_n 0, 1) := by decide +kernel
theorem d_Rd_readGrammar_39 : decode c_Rd_readGrammar 39 = .ok (.getfield 9, 3) := by decide +kernel
theorem d_Rd_readGrammar_42 : decode c_Rd_readGrammar 42 = .ok (.getfield 38, 3) := by decide +kernel
theorem d_Rd_readGrammar_45 : decode c_Rd_readGrammar 45 = .ok (.if_icmp .ge 13, 3) := by decide +kernel
theorem d_Rd_readGrammar_48 : decode c_Rd_readGrammar 48 = .ok (.aload_n 0, 1) := by decide +kernel
theorem d_Rd_readGrammar_49 : decode c_Rd_readGrammar 49 = .ok (.invokevirtual 35, 3) := by decide +kernel
theorem d_Rd_readGrammar_52 : decode c_Rd_readGrammar 52 = .ok (.iinc 1 1, 3) := by decide +kernel
theorem d_Rd_readGrammar_55 : decode c_Rd_readGrammar 55 = .ok (.goto (-28), 3) := by decide +kernel
theorem d_Rd_readGrammar_58 : decode c_Rd_readGrammar 58 = .ok (.aload_n 0, 1) := by decide +kernel
theorem d_Rd_readGrammar_59 : decode c_Rd_readGrammar 59 = .ok (.getfield 15, 3) := by decide +kernel
theorem d_Rd_readGrammar_62 : decode c_Rd_readGrammar 62 = .ok (.invokevirtual 43, 3) := by decide +kernel
theorem d_Rd_readGrammar_65 : decode c_Rd_readGrammar 65 = .ok (.return_, 1) := by decide +kernel
theorem d_Ab_read_0 : decode c_Ab_read 0 = .ok (.aload_n 0, 1) := by decide +kernel
theorem d_Ab_read_1 : decode c_Ab_read 1 = .ok (.getfield 40, 3) := by decide +kernel
theorem d_Ab_read_4 : decode c_Ab_read 4 = .ok (.invokevirtual 73, 3) := by decide +kernel
theorem d_Ab_read_7 : decode c_Ab_read 7 = .ok (.aload_n 0, 1) := by decide +kernel
theorem d_Ab_read_8 : decode c_Ab_read 8 = .ok (.getfield 33, 3) := by decide +kernel
theorem d_Ab_read_11 : decode c_Ab_read 11 = .ok (.invokevirtual 76, 3) := by decide +kernel
theorem d_Ab_read_14 : decode c_Ab_read 14 = .ok (.aload_n 0, 1) := by decide +kernel
theorem d_Ab_read_15 : decode c_Ab_read 15 = .ok (.getfield 24, 3) := by decide +kernel
theorem d_Ab_read_18 : decode c_Ab_read 18 = .ok (.invokevirtual 79, 3) := by decide +kernel
theorem d_Ab_read_21 : decode c_Ab_read 21 = .ok (.ireturn, 1) := by decide +kernel
set_option maxHeartbeats 4000000 in
set_option maxRecDepth 100000 in
theorem m_Gr_begin (l : Launch) {D : va_G} {cy : Nat → ClassId} {sz n : Nat} {ad : Nat → Nat} {mem : Nat → va_E} {a b q : Value} {rc ec wh z : Int32} (hn : 224 ≤ n) (h5 : mem 5 = .inr (3, [a, b, .ref (ad 220), .int rc, .int ec, .int wh])) (h6 : mem 220 = .inr (0, [q, .int z])) : MV l D cy sz n ad y_Gr_begin c_Gr_begin 1 ({ frames := 1, cells := 0, slots := 0, locals := 30 } : Room) mem [.ref (ad 5)] (fun mem' => mem' = va_up (va_up mem 220 (.inr (0, [q, .int 0]))) 5 (.inr (3, [a, b, .ref (ad 220), .int 0, .int 0, .int 0]))) := by
  refine Met.ofW (cc := c_Gr_begin) (maxL := 1) (ret := none) (by decide) rfl ?_
  intro p e s m args below meth c s₁ B hml hv
  obtain ⟨rfl, E, hP, hD⟩ := hv
  have hx := B.exec
  have hb := B.bytes
  have hr := B.returns
  have hlocks := B.notSynchronized
  have Bx : MB p s m [.ref (ad 5)].toArray c c_Gr_begin "AbnfChart$Grammar" D cy := ⟨hx, hb, tb_all (atoms_spec B.pre) E.2.1, findClass_of_methodNamed B.named, E.1⟩
  have hS : va_S (Az sz) s.heap s.heap [] := va_S.rf
  have hl := lv_entry ([.ref (ad 5)]) (n := 1) (Nat.le_of_ble_eq_true rfl)
  rw [lg_entry_eq]
  generalize (lg_sl ([.ref (ad 5)]) ++ List.replicate (1 - (lg_sl ([.ref (ad 5)])).length) Slot.unset).toArray = ls at hl ⊢
  have hl : lv_has ls 1 [(0, .ref (ad 5))] := hl
  refine lv_aload_n Bx.1 Bx.2.1 d_Gr_begin_0 rfl (lv_at hl 0 rfl) ?_
  refine f_get Bx hP (by omega) h5 rfl inGr 2 (by decide) kw_118 rfl rfl d_Gr_begin_1 ?_
  refine f_callVi (na := 0) (As := []) (rest := []) Bx hml E hP hD hS (by omega) h6 rfl (m_Ch_empty l (by omega) h6) kw_336 kw_195 kw_196 kw_2 kw_197 (by decide +kernel) ⟨rfl, rfl⟩ ⟨Nat.le_of_ble_eq_true rfl, Nat.le_of_ble_eq_true rfl⟩ rfl hl.1 (Nat.le_of_ble_eq_true rfl) d_Gr_begin_4 ⟨Nat.le_of_ble_eq_true rfl, Nat.le_of_ble_eq_true rfl⟩ (fun r1 mem2 H locs hq hP hS => ?_)
  have hD : va_D (Az sz) (fw n ad mem2) := fw_D hD
  obtain ⟨-, hq⟩ := hq
  have hh3 : mem2 (5) = .inr (3, [a, b, .ref (ad 220), .int (rc), .int (ec), .int (wh)]) := by rw [hq]; (try unfold chM); rw [va_up_ne _ _ (by first | decide | assumption | omega)]; exact h5
  refine lv_pop Bx.1 Bx.2.1 d_Gr_begin_7 rfl ?_
  refine lv_aload_n Bx.1 Bx.2.1 d_Gr_begin_8 rfl (lv_at hl 0 rfl) ?_
  refine lv_iconst (v := 0) Bx.1 Bx.2.1 d_Gr_begin_9 (by decide) ?_
  refine f_put Bx hP hD hS (by omega) hh3 rfl inGr tyGr okGr nmGr 3 (by decide) kw_121 rfl rfl rfl rfl (Nat.le_of_ble_eq_true rfl) d_Gr_begin_10 (fun H locs hP hS => ?_)
  obtain ⟨mem4, e_mem4⟩ : ∃ z, z = va_up mem2 (5) (.inr (3, [a, b, .ref (ad 220), .int (0), .int (ec), .int (wh)])) := ⟨_, rfl⟩
  have hP : va_P D vcl (fw n ad mem4) H := by rw [e_mem4]; exact hP
  have hD : va_D (Az sz) (fw n ad mem4) := fw_D hD
  have h_mem4 : mem4 (5) = .inr (3, [a, b, .ref (ad 220), .int (0), .int (ec), .int (wh)]) := by rw [e_mem4, va_up_self]
  refine lv_aload_n Bx.1 Bx.2.1 d_Gr_begin_13 rfl (lv_at hl 0 rfl) ?_
  refine lv_iconst (v := 0) Bx.1 Bx.2.1 d_Gr_begin_14 (by decide) ?_
  refine f_put Bx hP hD hS (by omega) h_mem4 rfl inGr tyGr okGr nmGr 4 (by decide) kw_122 rfl rfl rfl rfl (Nat.le_of_ble_eq_true rfl) d_Gr_begin_15 (fun H locs hP hS => ?_)
  obtain ⟨mem5, e_mem5⟩ : ∃ z, z = va_up mem4 (5) (.inr (3, [a, b, .ref (ad 220), .int (0), .int (0), .int (wh)])) := ⟨_, rfl⟩
  have hP : va_P D vcl (fw n ad mem5) H := by rw [e_mem5]; exact hP
  have hD : va_D (Az sz) (fw n ad mem5) := fw_D hD
  have h_mem5 : mem5 (5) = .inr (3, [a, b, .ref (ad 220), .int (0), .int (0), .int (wh)]) := by rw [e_mem5, va_up_self]
  refine lv_aload_n Bx.1 Bx.2.1 d_Gr_begin_18 rfl (lv_at hl 0 rfl) ?_
  refine lv_iconst (v := 0) Bx.1 Bx.2.1 d_Gr_begin_19 (by decide) ?_
  refine f_put Bx hP hD hS (by omega) h_mem5 rfl inGr tyGr okGr nmGr 5 (by decide) kw_124 rfl rfl rfl rfl (Nat.le_of_ble_eq_true rfl) d_Gr_begin_20 (fun H locs hP hS => ?_)
  obtain ⟨mem6, e_mem6⟩ : ∃ z, z = va_up mem5 (5) (.inr (3, [a, b, .ref (ad 220), .int (0), .int (0), .int (0)])) := ⟨_, rfl⟩
  have hP : va_P D vcl (fw n ad mem6) H := by rw [e_mem6]; exact hP
  have hD : va_D (Az sz) (fw n ad mem6) := fw_D hD
  have h_mem6 : mem6 (5) = .inr (3, [a, b, .ref (ad 220), .int (0), .int (0), .int (0)]) := by rw [e_mem6, va_up_self]
  exact W.vret hx hb hr (fun t ht hW => ⟨⟨mem6, rfl, by rw [e_mem6, e_mem5, e_mem4, up_up, up_up, hq], by show va_P _ _ _ t.heap; rw [ht]; exact hP⟩, hS.F ht⟩) hS.2.2 d_Gr_begin_23
set_option maxHeartbeats 4000000 in
set_option maxRecDepth 100000 in
theorem m_Gr_find0 (l : Launch) {D : va_G} {cy : Nat → ClassId} {sz n : Nat} {ad : Nat → Nat} {mem : Nat → va_E} {a b d : Value} {ec wh : Int32} {x : Int64} (hn : 224 ≤ n) (h5 : mem 5 = .inr (3, [a, b, d, .int 0, .int ec, .int wh])) : MI l D cy sz n ad y_Gr_find c_Gr_find 4 (some .int) ({ frames := 0, cells := 0, slots := 0, locals := 0 } : Room) mem [.ref (ad 5), .long (x)] (fun r mem' => r = -1 ∧ mem' = mem) := by
  refine Met.ofW (cc := c_Gr_find) (maxL := 4) (ret := (some .int)) (by decide) rfl ?_
  intro p e s m args below meth c s₁ B hml hv
  obtain ⟨rfl, E, hP, hD⟩ := hv
  have hx := B.exec
  have hb := B.bytes
  have hr := B.returns
  have hlocks := B.notSynchronized
  have Bx : MB p s m [.ref (ad 5), .long (x)].toArray c c_Gr_find "AbnfChart$Grammar" D cy := ⟨hx, hb, tb_all (atoms_spec B.pre) E.2.1, findClass_of_methodNamed B.named, E.1⟩
  have hS : va_S (Az sz) s.heap s.heap [] := va_S.rf
  have hl := lv_entry ([.ref (ad 5), .long (x)]) (n := 4) (Nat.le_of_ble_eq_true rfl)
  rw [lg_entry_eq]
  generalize (lg_sl ([.ref (ad 5), .long (x)]) ++ List.replicate (4 - (lg_sl ([.ref (ad 5), .long (x)])).length) Slot.unset).toArray = ls at hl ⊢
  have hl : lv_has ls 4 [(0, .ref (ad 5)), (1, .long (x))] := hl
  refine lv_iconst (v := 0) Bx.1 Bx.2.1 d_Gr_find_0 (by decide) ?_
  refine lv_istore_n (lv' := [(3, .int (0)), (0, .ref (ad 5)), (1, .long (x))]) Bx.1 Bx.2.1 d_Gr_find_1 rfl hl (by decide) rfl (fun ls hl => ?_)
  refine lv_iload_n Bx.1 Bx.2.1 d_Gr_find_2 rfl (lv_at hl 0 rfl) ?_
  refine lv_aload_n Bx.1 Bx.2.1 d_Gr_find_3 rfl (lv_at hl 1 rfl) ?_
  refine f_get Bx hP (by omega) h5 rfl inGr 3 (by decide) kw_121 rfl rfl d_Gr_find_4 ?_
  refine lv_icmp_ge Bx.1 Bx.2.1 d_Gr_find_7 rfl (fun h => ?_) (fun h => ?_)
  · refine lv_iconst (v := -1) Bx.1 Bx.2.1 d_Gr_find_32 (by decide) ?_
    exact W.iret (v := (-1)) hx hb hr (fun t ht hW => ⟨⟨(-1), mem, rfl, ⟨rfl, rfl⟩, by show va_P _ _ _ t.heap; rw [ht]; exact hP⟩, hS.F ht⟩) hS.2.2 d_Gr_find_33
  · exact absurd (by decide) h
set_option maxHeartbeats 4000000 in
set_option maxRecDepth 100000 in
theorem m_Gr_toldTotal0 (l : Launch) {D : va_G} {cy : Nat → ClassId} {sz n : Nat} {ad : Nat → Nat} {mem : Nat → va_E} {a b d : Value} {rc ec : Int32} (hn : 224 ≤ n) (h5 : mem 5 = .inr (3, [a, b, d, .int rc, .int ec, .int 0])) : MI l D cy sz n ad y_Gr_toldTotal c_Gr_toldTotal 3 (some .int) ({ frames := 1, cells := 0, slots := 0, locals := 30 } : Room) mem [.ref (ad 5)] (fun r mem' => r = 0 ∧ mem' = mem) := by
  refine Met.ofW (cc := c_Gr_toldTotal) (maxL := 3) (ret := (some .int)) (by decide) rfl ?_
  intro p e s m args below meth c s₁ B hml hv
  obtain ⟨rfl, E, hP, hD⟩ := hv
  have hx := B.exec
  have hb := B.bytes
  have hr := B.returns
  have hlocks := B.notSynchronized
  have Bx : MB p s m [.ref (ad 5)].toArray c c_Gr_toldTotal "AbnfChart$Grammar" D cy := ⟨hx, hb, tb_all (atoms_spec B.pre) E.2.1, findClass_of_methodNamed B.named, E.1⟩
  have hS : va_S (Az sz) s.heap s.heap [] := va_S.rf
  have hl := lv_entry ([.ref (ad 5)]) (n := 3) (Nat.le_of_ble_eq_true rfl)
  rw [lg_entry_eq]
  generalize (lg_sl ([.ref (ad 5)]) ++ List.replicate (3 - (lg_sl ([.ref (ad 5)])).length) Slot.unset).toArray = ls at hl ⊢
  have hl : lv_has ls 3 [(0, .ref (ad 5))] := hl
  refine lv_iconst (v := 0) Bx.1 Bx.2.1 d_Gr_toldTotal_0 (by decide) ?_
  refine lv_istore_n (lv' := [(1, .int (0)), (0, .ref (ad 5))]) Bx.1 Bx.2.1 d_Gr_toldTotal_1 rfl hl (by decide) rfl (fun ls hl => ?_)
  refine lv_iconst (v := 0) Bx.1 Bx.2.1 d_Gr_toldTotal_2 (by decide) ?_
  refine lv_istore_n (lv' := [(2, .int (0)), (1, .int (0)), (0, .ref (ad 5))]) Bx.1 Bx.2.1 d_Gr_toldTotal_3 rfl hl (by decide) rfl (fun ls hl => ?_)
  refine lv_iload_n Bx.1 Bx.2.1 d_Gr_toldTotal_4 rfl (lv_at hl 0 rfl) ?_
  refine lv_aload_n Bx.1 Bx.2.1 d_Gr_toldTotal_5 rfl (lv_at hl 2 rfl) ?_
  refine f_callVi (na := 0) (As := []) (rest := [.int (0)]) Bx hml E hP hD hS (by omega) h5 rfl (m_Gr_ruleTotal l (by omega) h5) kw_648 kw_499 kw_500 kw_3 kw_501 (by decide +kernel) ⟨rfl, rfl⟩ ⟨Nat.le_of_ble_eq_true rfl, Nat.le_of_ble_eq_true rfl⟩ rfl hl.1 (Nat.le_of_ble_eq_true rfl) d_Gr_toldTotal_6 ⟨Nat.le_of_ble_eq_true rfl, Nat.le_of_ble_eq_true rfl⟩ (fun r1 mem2 H locs hq hP hS => ?_)
  obtain ⟨hr1, mem2e⟩ := hq
  rw [mem2e] at hP
  rw [if_pos rfl] at hr1
  subst hr1
  refine lv_icmp_ge Bx.1 Bx.2.1 d_Gr_toldTotal_9 rfl (fun h => ?_) (fun h => ?_)
  · refine lv_iload_n Bx.1 Bx.2.1 d_Gr_toldTotal_33 rfl (lv_at hl 1 rfl) ?_
    exact W.iret (v := 0) hx hb hr (fun t ht hW => ⟨⟨0, mem, rfl, ⟨rfl, rfl⟩, by show va_P _ _ _ t.heap; rw [ht]; exact hP⟩, hS.F ht⟩) hS.2.2 d_Gr_toldTotal_34
  · exact absurd (by decide) h
set_option maxHeartbeats 4000000 in
set_option maxRecDepth 100000 in
theorem m_Ab_rule0 (l : Launch) {D : va_G} {cy : Nat → ClassId} {sz n : Nat} {ad : Nat → Nat} {mem : Nat → va_E} {a b d : Value} {x : Int64} (hlt : l.stackTraces = false) (hn : 224 ≤ n) (h0 : mem 0 = .inr (6, [.ref (ad 1), .ref (ad 3), .ref (ad 5), .ref (ad 222), .ref (ad 223)])) (h5 : mem 5 = .inr (3, [a, b, d, .int 0, .int 0, .int 0])) : MXi l D cy sz n ad y_Ab_rule c_Ab_rule 4 (some .int) ({ frames := 8, cells := 1, slots := 6, locals := 160 } : Room) mem [.ref (ad 0), .long (x)] (fun r mem' => False) (fun X mem' => X = cNS ∧ mem' = mem) := by
  refine vx_ofW (cc := c_Ab_rule) (maxL := 4) (ret := (some .int)) (by decide) rfl ?_
  intro p e s m args below meth c s₁ B hml hno hv
  obtain ⟨rfl, E, hP, hD⟩ := hv
  have hx := B.exec
  have hb := B.bytes
  have hr := B.returns
  have hlocks := B.notSynchronized
  have Bx : MB p s m [.ref (ad 0), .long (x)].toArray c c_Ab_rule "AbnfChart" D cy := ⟨hx, hb, tb_all (atoms_spec B.pre) E.2.1, findClass_of_methodNamed B.named, E.1⟩
  have hS : va_S (Az sz) s.heap s.heap [] := va_S.rf
  have hl := lv_entry ([.ref (ad 0), .long (x)]) (n := 4) (Nat.le_of_ble_eq_true rfl)
  rw [lg_entry_eq]
  generalize (lg_sl ([.ref (ad 0), .long (x)]) ++ List.replicate (4 - (lg_sl ([.ref (ad 0), .long (x)])).length) Slot.unset).toArray = ls at hl ⊢
  have hl : lv_has ls 4 [(0, .ref (ad 0)), (1, .long (x))] := hl
  refine lv_aload_n Bx.1 Bx.2.1 d_Ab_rule_0 rfl (lv_at hl 0 rfl) ?_
  refine f_get Bx hP (by omega) h0 rfl inAb 2 (by decide) kw_176 rfl rfl d_Ab_rule_1 ?_
  refine lv_lload_n Bx.1 Bx.2.1 d_Ab_rule_4 rfl (lv_at hl 1 rfl) ?_
  refine f_callVi (na := 1) (As := [.long (x)]) (rest := []) Bx hml E hP hD hS (by omega) h5 rfl (m_Gr_find0 l hn h5) kw_510 kw_376 kw_377 kw_3 kw_378 (by decide +kernel) ⟨rfl, rfl⟩ ⟨Nat.le_of_ble_eq_true rfl, Nat.le_of_ble_eq_true rfl⟩ rfl hl.1 (Nat.le_of_ble_eq_true rfl) d_Ab_rule_5 ⟨Nat.le_of_ble_eq_true rfl, Nat.le_of_ble_eq_true rfl⟩ (fun r1 mem2 H locs hq hP hS => ?_)
  obtain ⟨hr1, mem2e⟩ := hq
  rw [mem2e] at hP
  subst hr1
  refine lv_istore_n (lv' := [(3, .int ((-1))), (0, .ref (ad 0)), (1, .long (x))]) Bx.1 Bx.2.1 d_Ab_rule_8 rfl hl (by decide) rfl (fun ls hl => ?_)
  refine lv_aload_n Bx.1 Bx.2.1 d_Ab_rule_9 rfl (lv_at hl 1 rfl) ?_
  refine lv_iload_n Bx.1 Bx.2.1 d_Ab_rule_10 rfl (lv_at hl 0 rfl) ?_
  refine f_callVXv (na := 1) (As := [.int ((-1))]) (rest := []) Bx hml E hP hD hS (by omega) h0 rfl (m_Ab_checkRule l hlt hn h0 h5) kw_511 kw_513 sel_Ab_checkRule kw_1 kw_514 (by decide +kernel) ⟨rfl, rfl⟩ ⟨Nat.le_of_ble_eq_true rfl, Nat.le_of_ble_eq_true rfl⟩ rfl hl.1 (Nat.le_of_ble_eq_true rfl) d_Ab_rule_11 ⟨Nat.le_of_ble_eq_true rfl, Nat.le_of_ble_eq_true rfl⟩ (fun X ce q9 memx H locs hx hP hS g1 g2 g3 => f_out hlocks hno hP hS g1 g2 g3 ⟨Nat.le_of_ble_eq_true rfl, Nat.le_of_ble_eq_true rfl⟩ ⟨hx.1, hx.2.1⟩) (fun mem4 H locs hq hP hS => ?_)
  have hD : va_D (Az sz) (fw n ad mem4) := fw_D hD
  exact absurd hq.2.1 (by decide)
set_option maxHeartbeats 4000000 in
set_option maxRecDepth 100000 in
theorem m_Ab_matches0 (l : Launch) {D : va_G} {cy : Nat → ClassId} {sz n : Nat} {ad : Nat → Nat} {mem : Nat → va_E} {a b d : Value} {i1 i2 i3 : Int32} (hlt : l.stackTraces = false) (hn : 224 ≤ n) (h0 : mem 0 = .inr (6, [.ref (ad 1), .ref (ad 3), .ref (ad 5), .ref (ad 222), .ref (ad 223)])) (h5 : mem 5 = .inr (3, [a, b, d, .int 0, .int 0, .int 0])) : MXi l D cy sz n ad y_Ab_matches c_Ab_matches 4 (some .boolean) ({ frames := 8, cells := 1, slots := 6, locals := 160 } : Room) mem [.ref (ad 0), .int (i1), .int (i2), .int (i3)] (fun r mem' => False) (fun X mem' => X = cNS ∧ mem' = mem) := by
  refine vx_ofW (cc := c_Ab_matches) (maxL := 4) (ret := (some .boolean)) (by decide) rfl ?_
  intro p e s m args below meth c s₁ B hml hno hv
  obtain ⟨rfl, E, hP, hD⟩ := hv
  have hx := B.exec
  have hb := B.bytes
  have hr := B.returns
  have hlocks := B.notSynchronized
  have Bx : MB p s m [.ref (ad 0), .int (i1), .int (i2), .int (i3)].toArray c c_Ab_matches "AbnfChart" D cy := ⟨hx, hb, tb_all (atoms_spec B.pre) E.2.1, findClass_of_methodNamed B.named, E.1⟩
  have hS : va_S (Az sz) s.heap s.heap [] := va_S.rf
  have hl := lv_entry ([.ref (ad 0), .int (i1), .int (i2), .int (i3)]) (n := 4) (Nat.le_of_ble_eq_true rfl)
  rw [lg_entry_eq]
  generalize (lg_sl ([.ref (ad 0), .int (i1), .int (i2), .int (i3)]) ++ List.replicate (4 - (lg_sl ([.ref (ad 0), .int (i1), .int (i2), .int (i3)])).length) Slot.unset).toArray = ls at hl ⊢
  have hl : lv_has ls 4 [(0, .ref (ad 0)), (1, .int (i1)), (2, .int (i2)), (3, .int (i3))] := hl
  refine lv_aload_n Bx.1 Bx.2.1 d_Ab_matches_0 rfl (lv_at hl 0 rfl) ?_
  refine lv_iload_n Bx.1 Bx.2.1 d_Ab_matches_1 rfl (lv_at hl 1 rfl) ?_
  refine f_callVXv (na := 1) (As := [.int (i1)]) (rest := []) Bx hml E hP hD hS (by omega) h0 rfl (m_Ab_checkRule l hlt hn h0 h5) kw_511 kw_513 sel_Ab_checkRule kw_1 kw_514 (by decide +kernel) ⟨rfl, rfl⟩ ⟨Nat.le_of_ble_eq_true rfl, Nat.le_of_ble_eq_true rfl⟩ rfl hl.1 (Nat.le_of_ble_eq_true rfl) d_Ab_matches_2 ⟨Nat.le_of_ble_eq_true rfl, Nat.le_of_ble_eq_true rfl⟩ (fun X ce q9 memx H locs hx hP hS g1 g2 g3 => f_out hlocks hno hP hS g1 g2 g3 ⟨Nat.le_of_ble_eq_true rfl, Nat.le_of_ble_eq_true rfl⟩ ⟨hx.1, hx.2.1⟩) (fun mem2 H locs hq hP hS => ?_)
  have hD : va_D (Az sz) (fw n ad mem2) := fw_D hD
  exact absurd hq.2.2 (by rw [if_pos rfl]; exact hq.2.1)
set_option maxHeartbeats 4000000 in
set_option maxRecDepth 100000 in
theorem m_Ab_longest0 (l : Launch) {D : va_G} {cy : Nat → ClassId} {sz n : Nat} {ad : Nat → Nat} {mem : Nat → va_E} {a b d : Value} {i1 i2 : Int32} (hlt : l.stackTraces = false) (hn : 224 ≤ n) (h0 : mem 0 = .inr (6, [.ref (ad 1), .ref (ad 3), .ref (ad 5), .ref (ad 222), .ref (ad 223)])) (h5 : mem 5 = .inr (3, [a, b, d, .int 0, .int 0, .int 0])) : MXi l D cy sz n ad y_Ab_longest c_Ab_longest 5 (some .int) ({ frames := 8, cells := 1, slots := 6, locals := 160 } : Room) mem [.ref (ad 0), .int (i1), .int (i2)] (fun r mem' => False) (fun X mem' => X = cNS ∧ mem' = mem) := by
  refine vx_ofW (cc := c_Ab_longest) (maxL := 5) (ret := (some .int)) (by decide) rfl ?_
  intro p e s m args below meth c s₁ B hml hno hv
  obtain ⟨rfl, E, hP, hD⟩ := hv
  have hx := B.exec
  have hb := B.bytes
  have hr := B.returns
  have hlocks := B.notSynchronized
  have Bx : MB p s m [.ref (ad 0), .int (i1), .int (i2)].toArray c c_Ab_longest "AbnfChart" D cy := ⟨hx, hb, tb_all (atoms_spec B.pre) E.2.1, findClass_of_methodNamed B.named, E.1⟩
  have hS : va_S (Az sz) s.heap s.heap [] := va_S.rf
  have hl := lv_entry ([.ref (ad 0), .int (i1), .int (i2)]) (n := 5) (Nat.le_of_ble_eq_true rfl)
  rw [lg_entry_eq]
  generalize (lg_sl ([.ref (ad 0), .int (i1), .int (i2)]) ++ List.replicate (5 - (lg_sl ([.ref (ad 0), .int (i1), .int (i2)])).length) Slot.unset).toArray = ls at hl ⊢
  have hl : lv_has ls 5 [(0, .ref (ad 0)), (1, .int (i1)), (2, .int (i2))] := hl
  refine lv_aload_n Bx.1 Bx.2.1 d_Ab_longest_0 rfl (lv_at hl 0 rfl) ?_
  refine lv_iload_n Bx.1 Bx.2.1 d_Ab_longest_1 rfl (lv_at hl 1 rfl) ?_
  refine f_callVXv (na := 1) (As := [.int (i1)]) (rest := []) Bx hml E hP hD hS (by omega) h0 rfl (m_Ab_checkRule l hlt hn h0 h5) kw_511 kw_513 sel_Ab_checkRule kw_1 kw_514 (by decide +kernel) ⟨rfl, rfl⟩ ⟨Nat.le_of_ble_eq_true rfl, Nat.le_of_ble_eq_true rfl⟩ rfl hl.1 (Nat.le_of_ble_eq_true rfl) d_Ab_longest_2 ⟨Nat.le_of_ble_eq_true rfl, Nat.le_of_ble_eq_true rfl⟩ (fun X ce q9 memx H locs hx hP hS g1 g2 g3 => f_out hlocks hno hP hS g1 g2 g3 ⟨Nat.le_of_ble_eq_true rfl, Nat.le_of_ble_eq_true rfl⟩ ⟨hx.1, hx.2.1⟩) (fun mem2 H locs hq hP hS => ?_)
  have hD : va_D (Az sz) (fw n ad mem2) := fw_D hD
  exact absurd hq.2.2 (by rw [if_pos rfl]; exact hq.2.1)
set_option maxHeartbeats 4000000 in
set_option maxRecDepth 100000 in
theorem m_Ab_pieces0 (l : Launch) {D : va_G} {cy : Nat → ClassId} {sz n : Nat} {ad : Nat → Nat} {mem : Nat → va_E} {a b d : Value} {i1 : Int32} (hlt : l.stackTraces = false) (hn : 224 ≤ n) (h0 : mem 0 = .inr (6, [.ref (ad 1), .ref (ad 3), .ref (ad 5), .ref (ad 222), .ref (ad 223)])) (h5 : mem 5 = .inr (3, [a, b, d, .int 0, .int 0, .int 0])) : MXi l D cy sz n ad y_Ab_pieces c_Ab_pieces 4 (some .int) ({ frames := 8, cells := 1, slots := 6, locals := 160 } : Room) mem [.ref (ad 0), .int (i1)] (fun r mem' => False) (fun X mem' => X = cNS ∧ mem' = mem) := by
  refine vx_ofW (cc := c_Ab_pieces) (maxL := 4) (ret := (some .int)) (by decide) rfl ?_
  intro p e s m args below meth c s₁ B hml hno hv
  obtain ⟨rfl, E, hP, hD⟩ := hv
  have hx := B.exec
  have hb := B.bytes
  have hr := B.returns
  have hlocks := B.notSynchronized
  have Bx : MB p s m [.ref (ad 0), .int (i1)].toArray c c_Ab_pieces "AbnfChart" D cy := ⟨hx, hb, tb_all (atoms_spec B.pre) E.2.1, findClass_of_methodNamed B.named, E.1⟩
  have hS : va_S (Az sz) s.heap s.heap [] := va_S.rf
  have hl := lv_entry ([.ref (ad 0), .int (i1)]) (n := 4) (Nat.le_of_ble_eq_true rfl)
  rw [lg_entry_eq]
  generalize (lg_sl ([.ref (ad 0), .int (i1)]) ++ List.replicate (4 - (lg_sl ([.ref (ad 0), .int (i1)])).length) Slot.unset).toArray = ls at hl ⊢
  have hl : lv_has ls 4 [(0, .ref (ad 0)), (1, .int (i1))] := hl
  refine lv_aload_n Bx.1 Bx.2.1 d_Ab_pieces_0 rfl (lv_at hl 0 rfl) ?_
  refine lv_iload_n Bx.1 Bx.2.1 d_Ab_pieces_1 rfl (lv_at hl 1 rfl) ?_
  refine f_callVXv (na := 1) (As := [.int (i1)]) (rest := []) Bx hml E hP hD hS (by omega) h0 rfl (m_Ab_checkRule l hlt hn h0 h5) kw_511 kw_513 sel_Ab_checkRule kw_1 kw_514 (by decide +kernel) ⟨rfl, rfl⟩ ⟨Nat.le_of_ble_eq_true rfl, Nat.le_of_ble_eq_true rfl⟩ rfl hl.1 (Nat.le_of_ble_eq_true rfl) d_Ab_pieces_2 ⟨Nat.le_of_ble_eq_true rfl, Nat.le_of_ble_eq_true rfl⟩ (fun X ce q9 memx H locs hx hP hS g1 g2 g3 => f_out hlocks hno hP hS g1 g2 g3 ⟨Nat.le_of_ble_eq_true rfl, Nat.le_of_ble_eq_true rfl⟩ ⟨hx.1, hx.2.1⟩) (fun mem2 H locs hq hP hS => ?_)
  have hD : va_D (Az sz) (fw n ad mem2) := fw_D hD
  exact absurd hq.2.2 (by rw [if_pos rfl]; exact hq.2.1)
set_option maxHeartbeats 4000000 in
set_option maxRecDepth 100000 in
theorem m_Ab_count0 (l : Launch) {D : va_G} {cy : Nat → ClassId} {sz n : Nat} {ad : Nat → Nat} {mem : Nat → va_E} {a b d : Value} {k : Int32} (hlt : l.stackTraces = false) (hn : 224 ≤ n) (h0 : mem 0 = .inr (6, [.ref (ad 1), .ref (ad 3), .ref (ad 5), .ref (ad 222), .ref (ad 223)])) (h5 : mem 5 = .inr (3, [a, b, d, .int 0, .int 0, .int 0])) : MXi l D cy sz n ad y_Ab_count c_Ab_count 2 (some .int) ({ frames := 6, cells := 1, slots := 6, locals := 90 } : Room) mem [.ref (ad 0), .int (k)] (fun r mem' => r = 0 ∧ mem' = mem ∧ (k = 0 ∨ k = 1 ∨ k = 2)) (fun X mem' => X = cIO ∧ mem' = mem ∧ k ≠ 0 ∧ k ≠ 1 ∧ k ≠ 2) := by
  refine vx_ofW (cc := c_Ab_count) (maxL := 2) (ret := (some .int)) (by decide) rfl ?_
  intro p e s m args below meth c s₁ B hml hno hv
  obtain ⟨rfl, E, hP, hD⟩ := hv
  have hx := B.exec
  have hb := B.bytes
  have hr := B.returns
  have hlocks := B.notSynchronized
  have Bx : MB p s m [.ref (ad 0), .int (k)].toArray c c_Ab_count "AbnfChart" D cy := ⟨hx, hb, tb_all (atoms_spec B.pre) E.2.1, findClass_of_methodNamed B.named, E.1⟩
  have hS : va_S (Az sz) s.heap s.heap [] := va_S.rf
  have hl := lv_entry ([.ref (ad 0), .int (k)]) (n := 2) (Nat.le_of_ble_eq_true rfl)
  rw [lg_entry_eq]
  generalize (lg_sl ([.ref (ad 0), .int (k)]) ++ List.replicate (2 - (lg_sl ([.ref (ad 0), .int (k)])).length) Slot.unset).toArray = ls at hl ⊢
  have hl : lv_has ls 2 [(0, .ref (ad 0)), (1, .int (k))] := hl
  refine lv_iload_n Bx.1 Bx.2.1 d_Ab_count_0 rfl (lv_at hl 1 rfl) ?_
  by_cases hk0 : k = 0
  · subst hk0
    refine lv_tableIn Bx.1 Bx.2.1 d_Ab_count_1 (by decide) (by decide) (off := 27) (by decide) (tgt := 28) rfl ?_
    refine lv_aload_n Bx.1 Bx.2.1 d_Ab_count_28 rfl (lv_at hl 0 rfl) ?_
    refine f_get Bx hP (by omega) h0 rfl inAb 2 (by decide) kw_176 rfl rfl d_Ab_count_29 ?_
    refine f_callVi (na := 0) (As := []) (rest := []) Bx hml E hP hD hS (by omega) h5 rfl (m_Gr_ruleTotal l (by omega) h5) kw_498 kw_499 kw_500 kw_3 kw_501 (by decide +kernel) ⟨rfl, rfl⟩ ⟨Nat.le_of_ble_eq_true rfl, Nat.le_of_ble_eq_true rfl⟩ rfl hl.1 (Nat.le_of_ble_eq_true rfl) d_Ab_count_32 ⟨Nat.le_of_ble_eq_true rfl, Nat.le_of_ble_eq_true rfl⟩ (fun r1 mem2 H locs hq hP hS => ?_)
    obtain ⟨hr1, mem2e⟩ := hq
    rw [mem2e] at hP
    try rw [if_pos rfl] at hr1
    subst hr1
    refine vx_ret (W.widen (k := 1) (n := 6) (by decide) (by decide) ?_)
    exact W.iret (v := 0) hx hb hr (fun t ht hW => ⟨⟨0, mem, rfl, ⟨rfl, rfl, by decide⟩, by show va_P _ _ _ t.heap; rw [ht]; exact hP⟩, hS.F ht⟩) hS.2.2 d_Ab_count_35
  by_cases hk1 : k = 1
  · subst hk1
    refine lv_tableIn Bx.1 Bx.2.1 d_Ab_count_1 (by decide) (by decide) (off := 35) (by decide) (tgt := 36) rfl ?_
    refine lv_aload_n Bx.1 Bx.2.1 d_Ab_count_36 rfl (lv_at hl 0 rfl) ?_
    refine f_get Bx hP (by omega) h0 rfl inAb 2 (by decide) kw_176 rfl rfl d_Ab_count_37 ?_
    refine f_callVi (na := 0) (As := []) (rest := []) Bx hml E hP hD hS (by omega) h5 rfl (m_Gr_elementTotal l (by omega) h5) kw_640 kw_641 kw_642 kw_3 kw_643 (by decide +kernel) ⟨rfl, rfl⟩ ⟨Nat.le_of_ble_eq_true rfl, Nat.le_of_ble_eq_true rfl⟩ rfl hl.1 (Nat.le_of_ble_eq_true rfl) d_Ab_count_40 ⟨Nat.le_of_ble_eq_true rfl, Nat.le_of_ble_eq_true rfl⟩ (fun r3 mem4 H locs hq hP hS => ?_)
    obtain ⟨hr1, mem4e⟩ := hq
    rw [mem4e] at hP
    try rw [if_pos rfl] at hr1
    subst hr1
    refine vx_ret (W.widen (k := 1) (n := 6) (by decide) (by decide) ?_)
    exact W.iret (v := 0) hx hb hr (fun t ht hW => ⟨⟨0, mem, rfl, ⟨rfl, rfl, by decide⟩, by show va_P _ _ _ t.heap; rw [ht]; exact hP⟩, hS.F ht⟩) hS.2.2 d_Ab_count_43
  by_cases hk2 : k = 2
  · subst hk2
    refine lv_tableIn Bx.1 Bx.2.1 d_Ab_count_1 (by decide) (by decide) (off := 43) (by decide) (tgt := 44) rfl ?_
    refine lv_aload_n Bx.1 Bx.2.1 d_Ab_count_44 rfl (lv_at hl 0 rfl) ?_
    refine f_get Bx hP (by omega) h0 rfl inAb 2 (by decide) kw_176 rfl rfl d_Ab_count_45 ?_
    refine f_callVi (na := 0) (As := []) (rest := []) Bx hml E hP hD hS (by omega) h5 rfl (m_Gr_toldTotal0 l hn h5) kw_644 kw_645 kw_646 kw_3 kw_647 (by decide +kernel) ⟨rfl, rfl⟩ ⟨Nat.le_of_ble_eq_true rfl, Nat.le_of_ble_eq_true rfl⟩ rfl hl.1 (Nat.le_of_ble_eq_true rfl) d_Ab_count_48 ⟨Nat.le_of_ble_eq_true rfl, Nat.le_of_ble_eq_true rfl⟩ (fun r5 mem6 H locs hq hP hS => ?_)
    obtain ⟨hr1, mem6e⟩ := hq
    rw [mem6e] at hP
    try rw [if_pos rfl] at hr1
    subst hr1
    refine vx_ret (W.widen (k := 1) (n := 6) (by decide) (by decide) ?_)
    exact W.iret (v := 0) hx hb hr (fun t ht hW => ⟨⟨0, mem, rfl, ⟨rfl, rfl, by decide⟩, by show va_P _ _ _ t.heap; rw [ht]; exact hP⟩, hS.F ht⟩) hS.2.2 d_Ab_count_51
  have hko : k.toInt < 0 ∨ 2 < k.toInt := by
    have q0 := lv_neT hk0 (a := 0) (by decide)
    have q1 := lv_neT hk1 (a := 1) (by decide)
    have q2 := lv_neT hk2 (a := 2) (by decide)
    omega
  refine lv_tableOut Bx.1 Bx.2.1 d_Ab_count_1 hko (tgt := 52) rfl ?_
  exact f_throw (rest := []) hlt Bx hml hlocks hno E hP hS (by decide +kernel) kw_552 kw_15 at_Ab_IO hl.1 d_Ab_count_52 d_Ab_count_55 d_Ab_count_56 d_Ab_count_59 ⟨Nat.le_of_ble_eq_true rfl, Nat.le_of_ble_eq_true rfl, Nat.le_of_ble_eq_true rfl, Nat.le_of_ble_eq_true rfl⟩ ⟨Nat.le_of_ble_eq_true rfl, Nat.le_of_ble_eq_true rfl⟩ ⟨rfl, rfl, hk0, hk1, hk2⟩
set_option maxHeartbeats 4000000 in
set_option maxRecDepth 100000 in
theorem m_Rd_peek (l : Launch) {D : va_G} {cy : Nat → ClassId} {sz n : Nat} {ad : Nat → Nat} {mem : Nat → va_E} {z at0 ft : Int32} {f : Nat → Int32} (hn : 224 ≤ n) (h9 : mem 222 = .inr (4, [.ref (ad 1), .ref (ad 5), .int at0, .int ft])) (h1 : mem 1 = .inr (0, [.ref (ad 2), .int z])) (h2 : mem 2 = .inl (cy 0, 240, .inl f)) (hz : z.toInt ≤ (240 : Nat)) : MI l D cy sz n ad y_Rd_peek c_Rd_peek 1 (some .int) ({ frames := 1, cells := 0, slots := 0, locals := 30 } : Room) mem [.ref (ad 222)] (fun r mem' => r = (if at0 < 0 ∨ z ≤ at0 then -1 else f at0.toNatClampNeg) ∧ mem' = mem) := by
  refine Met.ofW (cc := c_Rd_peek) (maxL := 1) (ret := (some .int)) (by decide) rfl ?_
  intro p e s m args below meth c s₁ B hml hv
  obtain ⟨rfl, E, hP, hD⟩ := hv
  have hx := B.exec
  have hb := B.bytes
  have hr := B.returns
  have hlocks := B.notSynchronized
  have Bx : MB p s m [.ref (ad 222)].toArray c c_Rd_peek "AbnfChart$Reader" D cy := ⟨hx, hb, tb_all (atoms_spec B.pre) E.2.1, findClass_of_methodNamed B.named, E.1⟩
  have hS : va_S (Az sz) s.heap s.heap [] := va_S.rf
  have hl := lv_entry ([.ref (ad 222)]) (n := 1) (Nat.le_of_ble_eq_true rfl)
  rw [lg_entry_eq]
  generalize (lg_sl ([.ref (ad 222)]) ++ List.replicate (1 - (lg_sl ([.ref (ad 222)])).length) Slot.unset).toArray = ls at hl ⊢
  have hl : lv_has ls 1 [(0, .ref (ad 222))] := hl
  refine lv_aload_n Bx.1 Bx.2.1 d_Rd_peek_0 rfl (lv_at hl 0 rfl) ?_
  refine f_get Bx hP (by omega) h9 rfl inRd 0 (by decide) kw_144 rfl rfl d_Rd_peek_1 ?_
  refine lv_aload_n Bx.1 Bx.2.1 d_Rd_peek_4 rfl (lv_at hl 0 rfl) ?_
  refine f_get Bx hP (by omega) h9 rfl inRd 2 (by decide) kw_146 rfl rfl d_Rd_peek_5 ?_
  refine f_callVi (na := 1) (As := [.int (at0)]) (rest := []) Bx hml E hP hD hS (by omega) h1 rfl (m_Ch_codeAt l (by omega) h1 (by omega) h2 hz) kw_341 kw_342 kw_343 kw_2 kw_344 (by decide +kernel) ⟨rfl, rfl⟩ ⟨Nat.le_of_ble_eq_true rfl, Nat.le_of_ble_eq_true rfl⟩ rfl hl.1 (Nat.le_of_ble_eq_true rfl) d_Rd_peek_8 ⟨Nat.le_of_ble_eq_true rfl, Nat.le_of_ble_eq_true rfl⟩ (fun r1 mem2 H locs hq hP hS => ?_)
  have hD : va_D (Az sz) (fw n ad mem2) := fw_D hD
  exact W.iret (v := r1) hx hb hr (fun t ht hW => ⟨⟨r1, mem2, rfl, hq, by show va_P _ _ _ t.heap; rw [ht]; exact hP⟩, hS.F ht⟩) hS.2.2 d_Rd_peek_11
set_option maxHeartbeats 4000000 in
set_option maxRecDepth 100000 in
theorem m_Rd_needReadable (l : Launch) {D : va_G} {cy : Nat → ClassId} {sz n : Nat} {ad : Nat → Nat} {mem : Nat → va_E} {a b : Value} {at0 ft g k : Int32} (hlt : l.stackTraces = false) (hn : 224 ≤ n) (h9 : mem 222 = .inr (4, [a, b, .int at0, .int ft])) : MXv l D cy sz n ad y_Rd_needReadable c_Rd_needReadable 3 ({ frames := 6, cells := 1, slots := 6, locals := 90 } : Room) mem [.ref (ad 222), .int (g), .int (k)] (fun mem' => mem' = mem ∧ g ≠ 0) (fun X mem' => X = cIA ∧ g = 0 ∧ mem' = va_up mem 222 (.inr (4, [a, b, .int at0, .int k]))) := by
  refine vx_ofW (cc := c_Rd_needReadable) (maxL := 3) (ret := none) (by decide) rfl ?_
  intro p e s m args below meth c s₁ B hml hno hv
  obtain ⟨rfl, E, hP, hD⟩ := hv
  have hx := B.exec
  have hb := B.bytes
  have hr := B.returns
  have hlocks := B.notSynchronized
  have Bx : MB p s m [.ref (ad 222), .int (g), .int (k)].toArray c c_Rd_needReadable "AbnfChart$Reader" D cy := ⟨hx, hb, tb_all (atoms_spec B.pre) E.2.1, findClass_of_methodNamed B.named, E.1⟩
  have hS : va_S (Az sz) s.heap s.heap [] := va_S.rf
  have hl := lv_entry ([.ref (ad 222), .int (g), .int (k)]) (n := 3) (Nat.le_of_ble_eq_true rfl)
  rw [lg_entry_eq]
  generalize (lg_sl ([.ref (ad 222), .int (g), .int (k)]) ++ List.replicate (3 - (lg_sl ([.ref (ad 222), .int (g), .int (k)])).length) Slot.unset).toArray = ls at hl ⊢
  have hl : lv_has ls 3 [(0, .ref (ad 222)), (1, .int (g)), (2, .int (k))] := hl
  refine lv_iload_n Bx.1 Bx.2.1 d_Rd_needReadable_0 rfl (lv_at hl 1 rfl) ?_
  refine lv_if_ne Bx.1 Bx.2.1 d_Rd_needReadable_1 rfl (fun h => ?_) (fun h => ?_)
  · refine vx_ret (W.widen (k := 1) (n := 6) (by decide) (by decide) ?_)
    exact W.vret hx hb hr (fun t ht hW => ⟨⟨mem, rfl, ⟨rfl, h⟩, by show va_P _ _ _ t.heap; rw [ht]; exact hP⟩, hS.F ht⟩) hS.2.2 d_Rd_needReadable_17
  · refine lv_aload_n Bx.1 Bx.2.1 d_Rd_needReadable_4 rfl (lv_at hl 0 rfl) ?_
    refine lv_iload_n Bx.1 Bx.2.1 d_Rd_needReadable_5 rfl (lv_at hl 2 rfl) ?_
    refine f_put Bx hP hD hS (by omega) h9 rfl inRd tyRd okRd nmRd 3 (by decide) kw_147 rfl rfl rfl rfl (Nat.le_of_ble_eq_true rfl) d_Rd_needReadable_6 (fun H locs hP hS => ?_)
    obtain ⟨mem1, e_mem1⟩ : ∃ z, z = va_up mem (222) (.inr (4, [a, b, .int (at0), .int (k)])) := ⟨_, rfl⟩
    have hP : va_P D vcl (fw n ad mem1) H := by rw [e_mem1]; exact hP
    have hD : va_D (Az sz) (fw n ad mem1) := fw_D hD
    have h_mem1 : mem1 (222) = .inr (4, [a, b, .int (at0), .int (k)]) := by rw [e_mem1, va_up_self]
    exact f_throw (rest := []) hlt Bx hml hlocks hno E hP hS (by decide +kernel) kw_364 kw_12 at_Rd_IA hl.1 d_Rd_needReadable_9 d_Rd_needReadable_12 d_Rd_needReadable_13 d_Rd_needReadable_16 ⟨Nat.le_of_ble_eq_true rfl, Nat.le_of_ble_eq_true rfl, Nat.le_of_ble_eq_true rfl, Nat.le_of_ble_eq_true rfl⟩ ⟨Nat.le_of_ble_eq_true rfl, Nat.le_of_ble_eq_true rfl⟩ ⟨rfl, h, e_mem1⟩
def isL (c : Int32) : Bool := (decide (¬ c < 97) && decide (¬ 122 < c)) || (decide (¬ c < 65) && decide (¬ 90 < c))
set_option maxHeartbeats 4000000 in
set_option maxRecDepth 100000 in
theorem m_Ab_isLetter (l : Launch) (x : Int32) : MS l y_Ab_isLetter c_Ab_isLetter 1 (some .boolean) ({ frames := 0, cells := 0, slots := 0, locals := 0 } : Room) [.int (x)] (fun r => r = if isL x then 1 else 0) := by
  refine Met.ofW (cc := c_Ab_isLetter) (maxL := 1) (ret := (some .boolean)) (by decide) rfl ?_
  intro p e s m args below meth c s₁ B hml hv
  obtain ⟨rfl, hN⟩ := hv
  have hx := B.exec
  have hb := B.bytes
  have hr := B.returns
  have hlocks := B.notSynchronized
  have Bx : p.tables.exec = Jvm.exec ∧ c.code = c_Ab_isLetter ∧ (∀ w ∈ TB, w.before [.int (x)].toArray s = true) ∧ s.vm.findClass "AbnfChart" = some m.cls ∧ True := ⟨hx, hb, tb_all (atoms_spec B.pre) hN, findClass_of_methodNamed B.named, trivial⟩
  have hl := lv_entry ([.int (x)]) (n := 1) (Nat.le_of_ble_eq_true rfl)
  rw [lg_entry_eq]
  generalize (lg_sl ([.int (x)]) ++ List.replicate (1 - (lg_sl ([.int (x)])).length) Slot.unset).toArray = ls at hl ⊢
  have hl : lv_has ls 1 [(0, .int (x))] := hl
  refine lv_iload_n Bx.1 Bx.2.1 d_Ab_isLetter_0 rfl (lv_at hl 0 rfl) ?_
  refine lv_bipush (v := 97) Bx.1 Bx.2.1 d_Ab_isLetter_1 (by decide) ?_
  refine lv_icmp_lt Bx.1 Bx.2.1 d_Ab_isLetter_3 rfl (fun h1 => ?_) (fun h1 => ?_)
  · refine lv_iload_n Bx.1 Bx.2.1 d_Ab_isLetter_12 rfl (lv_at hl 0 rfl) ?_
    refine lv_bipush (v := 65) Bx.1 Bx.2.1 d_Ab_isLetter_13 (by decide) ?_
    refine lv_icmp_lt Bx.1 Bx.2.1 d_Ab_isLetter_15 rfl (fun h3 => ?_) (fun h3 => ?_)
    · refine lv_iconst (v := 0) Bx.1 Bx.2.1 d_Ab_isLetter_28 (by decide) ?_
      exact W.zret (v := 0) hx hb hr rfl (fun t ht hW => ⟨0, rfl, by simp [isL, h1, h3], ht⟩) (fun _ h => by cases h) d_Ab_isLetter_29
    · refine lv_iload_n Bx.1 Bx.2.1 d_Ab_isLetter_18 rfl (lv_at hl 0 rfl) ?_
      refine lv_bipush (v := 90) Bx.1 Bx.2.1 d_Ab_isLetter_19 (by decide) ?_
      refine lv_icmp_gt Bx.1 Bx.2.1 d_Ab_isLetter_21 rfl (fun h4 => ?_) (fun h4 => ?_)
      · refine lv_iconst (v := 0) Bx.1 Bx.2.1 d_Ab_isLetter_28 (by decide) ?_
        exact W.zret (v := 0) hx hb hr rfl (fun t ht hW => ⟨0, rfl, by simp [isL, h1, h3, h4], ht⟩) (fun _ h => by cases h) d_Ab_isLetter_29
      · refine lv_iconst (v := 1) Bx.1 Bx.2.1 d_Ab_isLetter_24 (by decide) ?_
        refine lv_goto Bx.1 Bx.2.1 d_Ab_isLetter_25 rfl ?_
        exact W.zret (v := 1) hx hb hr rfl (fun t ht hW => ⟨1, rfl, by simp [isL, h1, h3, h4], ht⟩) (fun _ h => by cases h) d_Ab_isLetter_29
  · refine lv_iload_n Bx.1 Bx.2.1 d_Ab_isLetter_6 rfl (lv_at hl 0 rfl) ?_
    refine lv_bipush (v := 122) Bx.1 Bx.2.1 d_Ab_isLetter_7 (by decide) ?_
    refine lv_icmp_le Bx.1 Bx.2.1 d_Ab_isLetter_9 rfl (fun h2 => ?_) (fun h2 => ?_)
    · refine lv_iconst (v := 1) Bx.1 Bx.2.1 d_Ab_isLetter_24 (by decide) ?_
      refine lv_goto Bx.1 Bx.2.1 d_Ab_isLetter_25 rfl ?_
      exact W.zret (v := 1) hx hb hr rfl (fun t ht hW => ⟨1, rfl, by simp [isL, h1, h2], ht⟩) (fun _ h => by cases h) d_Ab_isLetter_29
    · refine lv_iload_n Bx.1 Bx.2.1 d_Ab_isLetter_12 rfl (lv_at hl 0 rfl) ?_
      refine lv_bipush (v := 65) Bx.1 Bx.2.1 d_Ab_isLetter_13 (by decide) ?_
      refine lv_icmp_lt Bx.1 Bx.2.1 d_Ab_isLetter_15 rfl (fun h3 => ?_) (fun h3 => ?_)
      · refine lv_iconst (v := 0) Bx.1 Bx.2.1 d_Ab_isLetter_28 (by decide) ?_
        exact W.zret (v := 0) hx hb hr rfl (fun t ht hW => ⟨0, rfl, by simp [isL, h1, h2, h3], ht⟩) (fun _ h => by cases h) d_Ab_isLetter_29
      · refine lv_iload_n Bx.1 Bx.2.1 d_Ab_isLetter_18 rfl (lv_at hl 0 rfl) ?_
        refine lv_bipush (v := 90) Bx.1 Bx.2.1 d_Ab_isLetter_19 (by decide) ?_
        refine lv_icmp_gt Bx.1 Bx.2.1 d_Ab_isLetter_21 rfl (fun h4 => ?_) (fun h4 => ?_)
        · refine lv_iconst (v := 0) Bx.1 Bx.2.1 d_Ab_isLetter_28 (by decide) ?_
          exact W.zret (v := 0) hx hb hr rfl (fun t ht hW => ⟨0, rfl, by simp [isL, h1, h2, h3, h4], ht⟩) (fun _ h => by cases h) d_Ab_isLetter_29
        · refine lv_iconst (v := 1) Bx.1 Bx.2.1 d_Ab_isLetter_24 (by decide) ?_
          refine lv_goto Bx.1 Bx.2.1 d_Ab_isLetter_25 rfl ?_
          exact W.zret (v := 1) hx hb hr rfl (fun t ht hW => ⟨1, rfl, by simp [isL, h1, h2, h3, h4], ht⟩) (fun _ h => by cases h) d_Ab_isLetter_29
set_option maxHeartbeats 4000000 in
set_option maxRecDepth 100000 in
theorem m_Rd_fullLineFrom0 (l : Launch) {D : va_G} {cy : Nat → ClassId} {sz n : Nat} {ad : Nat → Nat} {mem : Nat → va_E} {at0 ft : Int32} {f : Nat → Int32} (hn : 224 ≤ n) (h9 : mem 222 = .inr (4, [.ref (ad 1), .ref (ad 5), .int at0, .int ft])) (h1 : mem 1 = .inr (0, [.ref (ad 2), .int 0])) (h2 : mem 2 = .inl (cy 0, 240, .inl f)) : MI l D cy sz n ad y_Rd_fullLineFrom c_Rd_fullLineFrom 6 (some .int) ({ frames := 1, cells := 0, slots := 0, locals := 30 } : Room) mem [.ref (ad 222), .int (0)] (fun r mem' => r = 0 ∧ mem' = mem) := by
  refine Met.ofW (cc := c_Rd_fullLineFrom) (maxL := 6) (ret := (some .int)) (by decide) rfl ?_
  intro p e s m args below meth c s₁ B hml hv
  obtain ⟨rfl, E, hP, hD⟩ := hv
  have hx := B.exec
  have hb := B.bytes
  have hr := B.returns
  have hlocks := B.notSynchronized
  have Bx : MB p s m [.ref (ad 222), .int (0)].toArray c c_Rd_fullLineFrom "AbnfChart$Reader" D cy := ⟨hx, hb, tb_all (atoms_spec B.pre) E.2.1, findClass_of_methodNamed B.named, E.1⟩
  have hS : va_S (Az sz) s.heap s.heap [] := va_S.rf
  have hl := lv_entry ([.ref (ad 222), .int (0)]) (n := 6) (Nat.le_of_ble_eq_true rfl)
  rw [lg_entry_eq]
  generalize (lg_sl ([.ref (ad 222), .int (0)]) ++ List.replicate (6 - (lg_sl ([.ref (ad 222), .int (0)])).length) Slot.unset).toArray = ls at hl ⊢
  have hl : lv_has ls 6 [(0, .ref (ad 222)), (1, .int (0))] := hl
  refine lv_iload_n Bx.1 Bx.2.1 d_Rd_fullLineFrom_0 rfl (lv_at hl 1 rfl) ?_
  refine lv_istore_n (lv' := [(2, .int (0)), (0, .ref (ad 222)), (1, .int (0))]) Bx.1 Bx.2.1 d_Rd_fullLineFrom_1 rfl hl (by decide) rfl (fun ls hl => ?_)
  refine lv_iconst (v := 0) Bx.1 Bx.2.1 d_Rd_fullLineFrom_2 (by decide) ?_
  refine lv_istore_n (lv' := [(3, .int (0)), (2, .int (0)), (0, .ref (ad 222)), (1, .int (0))]) Bx.1 Bx.2.1 d_Rd_fullLineFrom_3 rfl hl (by decide) rfl (fun ls hl => ?_)
  refine lv_iload_n Bx.1 Bx.2.1 d_Rd_fullLineFrom_4 rfl (lv_at hl 3 rfl) ?_
  refine lv_istore (lv' := [(4, .int (0)), (3, .int (0)), (2, .int (0)), (0, .ref (ad 222)), (1, .int (0))]) Bx.1 Bx.2.1 d_Rd_fullLineFrom_5 hl (by decide) rfl (fun ls hl => ?_)
  refine lv_iload Bx.1 Bx.2.1 d_Rd_fullLineFrom_7 (lv_at hl 0 rfl) ?_
  refine lv_aload_n Bx.1 Bx.2.1 d_Rd_fullLineFrom_9 rfl (lv_at hl 3 rfl) ?_
  refine f_get Bx hP (by omega) h9 rfl inRd 0 (by decide) kw_144 rfl rfl d_Rd_fullLineFrom_10 ?_
  refine f_getN Bx hP (by omega) h1 rfl inCh 1 (by decide) kw_33 rfl rfl d_Rd_fullLineFrom_13 ?_
  refine lv_icmp_ge Bx.1 Bx.2.1 d_Rd_fullLineFrom_16 rfl (fun h => ?_) (fun h => ?_)
  · refine lv_aload_n Bx.1 Bx.2.1 d_Rd_fullLineFrom_78 rfl (lv_at hl 3 rfl) ?_
    refine f_get Bx hP (by omega) h9 rfl inRd 0 (by decide) kw_144 rfl rfl d_Rd_fullLineFrom_79 ?_
    refine f_getN Bx hP (by omega) h1 rfl inCh 1 (by decide) kw_33 rfl rfl d_Rd_fullLineFrom_82 ?_
    exact W.iret (v := 0) hx hb hr (fun t ht hW => ⟨⟨0, mem, rfl, ⟨rfl, rfl⟩, by show va_P _ _ _ t.heap; rw [ht]; exact hP⟩, hS.F ht⟩) hS.2.2 d_Rd_fullLineFrom_85
  · exact absurd (by decide) h
/-- a method that throws, whatever it would answer -/
abbrev MXt (l : Launch) (D : va_G) (cy : Nat → ClassId) (sz n : Nat) (ad : Nat → Nat) (y : MethodName) (bytes : ByteArray) (maxL : Nat) (ret : Option FieldType) (rm : Room) (mem : Nat → va_E) (av : List Value) (px : String → (Nat → va_E) → Prop) : Prop :=
  vx_Met l y (.code y bytes maxL ret :: tg) rm (va_Pc av (PR D cy sz n ad mem)) (va_Qi (fun _ (_ : Nat → va_E) => False) (PP D n ad) (Az sz)) (XQ D sz n ad px) 1 6 (Az sz)
set_option maxHeartbeats 4000000 in
set_option maxRecDepth 100000 in
theorem m_Rd_readName0 (l : Launch) {D : va_G} {cy : Nat → ClassId} {sz n : Nat} {ad : Nat → Nat} {mem : Nat → va_E} {ft : Int32} {f : Nat → Int32} (hlt : l.stackTraces = false) (hn : 224 ≤ n) (h9 : mem 222 = .inr (4, [.ref (ad 1), .ref (ad 5), .int 0, .int ft])) (h1 : mem 1 = .inr (0, [.ref (ad 2), .int 0])) (h2 : mem 2 = .inl (cy 0, 240, .inl f)) : MXi l D cy sz n ad y_Rd_readName c_Rd_readName 5 (some (.object "AbnfChart$Rule")) ({ frames := 8, cells := 1, slots := 6, locals := 160 } : Room) mem [.ref (ad 222)] (fun r mem' => False) (fun X mem' => X = cIA ∧ ∀ i, 224 ≤ i → mem' i = mem i) := by
  refine vx_ofW (cc := c_Rd_readName) (maxL := 5) (ret := (some (.object "AbnfChart$Rule"))) (by decide) rfl ?_
  intro p e s m args below meth c s₁ B hml hno hv
  obtain ⟨rfl, E, hP, hD⟩ := hv
  have hx := B.exec
  have hb := B.bytes
  have hr := B.returns
  have hlocks := B.notSynchronized
  have Bx : MB p s m [.ref (ad 222)].toArray c c_Rd_readName "AbnfChart$Reader" D cy := ⟨hx, hb, tb_all (atoms_spec B.pre) E.2.1, findClass_of_methodNamed B.named, E.1⟩
  have hS : va_S (Az sz) s.heap s.heap [] := va_S.rf
  have hl := lv_entry ([.ref (ad 222)]) (n := 5) (Nat.le_of_ble_eq_true rfl)
  rw [lg_entry_eq]
  generalize (lg_sl ([.ref (ad 222)]) ++ List.replicate (5 - (lg_sl ([.ref (ad 222)])).length) Slot.unset).toArray = ls at hl ⊢
  have hl : lv_has ls 5 [(0, .ref (ad 222))] := hl
  refine lv_aload_n Bx.1 Bx.2.1 d_Rd_readName_0 rfl (lv_at hl 0 rfl) ?_
  refine f_get Bx hP (by omega) h9 rfl inRd 2 (by decide) kw_146 rfl rfl d_Rd_readName_1 ?_
  refine lv_istore_n (lv' := [(1, .int (0)), (0, .ref (ad 222))]) Bx.1 Bx.2.1 d_Rd_readName_4 rfl hl (by decide) rfl (fun ls hl => ?_)
  refine lv_lconst (v := 0) Bx.1 Bx.2.1 d_Rd_readName_5 (by decide) ?_
  refine lv_lstore_n (lv' := [(2, .long (0)), (1, .int (0)), (0, .ref (ad 222))]) Bx.1 Bx.2.1 d_Rd_readName_6 rfl hl (by decide) rfl (fun ls hl => ?_)
  refine lv_aload_n Bx.1 Bx.2.1 d_Rd_readName_7 rfl (lv_at hl 2 rfl) ?_
  refine lv_aload_n Bx.1 Bx.2.1 d_Rd_readName_8 rfl (lv_at hl 2 rfl) ?_
  refine f_callVi (na := 0) (As := []) (rest := [.ref (ad 222)]) Bx hml E hP hD hS (by omega) h9 rfl (m_Rd_peek l hn h9 h1 h2 (by decide)) kw_353 kw_355 sel_Rd_peek kw_6 kw_356 (by decide +kernel) ⟨rfl, rfl⟩ ⟨Nat.le_of_ble_eq_true rfl, Nat.le_of_ble_eq_true rfl⟩ rfl hl.1 (Nat.le_of_ble_eq_true rfl) d_Rd_readName_9 ⟨Nat.le_of_ble_eq_true rfl, Nat.le_of_ble_eq_true rfl⟩ (fun r1 mem2 H locs hq hP hS => ?_)
  obtain ⟨hr1, mem2e⟩ := hq
  rw [mem2e] at hP
  rw [if_pos (Or.inr (by decide))] at hr1
  subst hr1
  refine f_callSNi (na := 1) (As := [.int ((-1))]) (rest := [.ref (ad 222)]) Bx hml E.2.1 (m_Ab_isLetter l (-1)) kw_357 kw_358 kw_1 kw_359 (by decide +kernel) ⟨rfl, rfl⟩ ⟨Nat.le_of_ble_eq_true rfl, Nat.le_of_ble_eq_true rfl⟩ rfl hl.1 (Nat.le_of_ble_eq_true rfl) d_Rd_readName_12 ⟨Nat.le_of_ble_eq_true rfl, Nat.le_of_ble_eq_true rfl⟩ (fun r3 hr2 => ?_)
  subst hr2
  refine lv_aload_n Bx.1 Bx.2.1 d_Rd_readName_15 rfl (lv_at hl 2 rfl) ?_
  refine f_get Bx hP (by omega) h9 rfl inRd 2 (by decide) kw_146 rfl rfl d_Rd_readName_16 ?_
  refine f_callVXv (na := 2) (As := [.int (if isL (-1) then 1 else 0), .int (0)]) (rest := []) Bx hml E hP hD hS (by omega) h9 rfl (m_Rd_needReadable l hlt hn h9) kw_360 kw_362 sel_Rd_needReadable kw_6 kw_363 (by decide +kernel) ⟨rfl, rfl⟩ ⟨Nat.le_of_ble_eq_true rfl, Nat.le_of_ble_eq_true rfl⟩ rfl hl.1 (Nat.le_of_ble_eq_true rfl) d_Rd_readName_19 ⟨Nat.le_of_ble_eq_true rfl, Nat.le_of_ble_eq_true rfl⟩ (fun X ce q9 memx H locs hx hP hS g1 g2 g3 => f_out hlocks hno hP hS g1 g2 g3 ⟨Nat.le_of_ble_eq_true rfl, Nat.le_of_ble_eq_true rfl⟩ ⟨hx.1, fun i hi => by rw [hx.2.2, va_up_ne _ _ (by omega)]⟩) (fun mem5 H locs hq hP hS => ?_)
  have hD : va_D (Az sz) (fw n ad mem5) := fw_D hD
  exact absurd (by decide) hq.2
set_option maxHeartbeats 4000000 in
set_option maxRecDepth 100000 in
theorem m_Rd_readRule0 (l : Launch) {D : va_G} {cy : Nat → ClassId} {sz n : Nat} {ad : Nat → Nat} {mem : Nat → va_E} {ft : Int32} {f : Nat → Int32} (hlt : l.stackTraces = false) (hn : 224 ≤ n) (h9 : mem 222 = .inr (4, [.ref (ad 1), .ref (ad 5), .int 0, .int ft])) (h1 : mem 1 = .inr (0, [.ref (ad 2), .int 0])) (h2 : mem 2 = .inl (cy 0, 240, .inl f)) : MXv l D cy sz n ad y_Rd_readRule c_Rd_readRule 4 ({ frames := 10, cells := 1, slots := 6, locals := 240 } : Room) mem [.ref (ad 222)] (fun mem' => False) (fun X mem' => X = cIA ∧ ∀ i, 224 ≤ i → mem' i = mem i) := by
  refine vx_ofW (cc := c_Rd_readRule) (maxL := 4) (ret := none) (by decide) rfl ?_
  intro p e s m args below meth c s₁ B hml hno hv
  obtain ⟨rfl, E, hP, hD⟩ := hv
  have hx := B.exec
  have hb := B.bytes
  have hr := B.returns
  have hlocks := B.notSynchronized
  have Bx : MB p s m [.ref (ad 222)].toArray c c_Rd_readRule "AbnfChart$Reader" D cy := ⟨hx, hb, tb_all (atoms_spec B.pre) E.2.1, findClass_of_methodNamed B.named, E.1⟩
  have hS : va_S (Az sz) s.heap s.heap [] := va_S.rf
  have hl := lv_entry ([.ref (ad 222)]) (n := 4) (Nat.le_of_ble_eq_true rfl)
  rw [lg_entry_eq]
  generalize (lg_sl ([.ref (ad 222)]) ++ List.replicate (4 - (lg_sl ([.ref (ad 222)])).length) Slot.unset).toArray = ls at hl ⊢
  have hl : lv_has ls 4 [(0, .ref (ad 222))] := hl
  refine lv_aload_n Bx.1 Bx.2.1 d_Rd_readRule_0 rfl (lv_at hl 0 rfl) ?_
  refine f_get Bx hP (by omega) h9 rfl inRd 2 (by decide) kw_146 rfl rfl d_Rd_readRule_1 ?_
  refine lv_istore_n (lv' := [(1, .int (0)), (0, .ref (ad 222))]) Bx.1 Bx.2.1 d_Rd_readRule_4 rfl hl (by decide) rfl (fun ls hl => ?_)
  refine lv_aload_n Bx.1 Bx.2.1 d_Rd_readRule_5 rfl (lv_at hl 1 rfl) ?_
  refine f_callVXi (na := 0) (As := []) (rest := []) Bx hml E hP hD hS (by omega) h9 rfl (m_Rd_readName0 l hlt hn h9 h1 h2) kw_349 kw_351 sel_Rd_readName kw_6 kw_352 (by decide +kernel) ⟨rfl, rfl⟩ ⟨Nat.le_of_ble_eq_true rfl, Nat.le_of_ble_eq_true rfl⟩ rfl hl.1 (Nat.le_of_ble_eq_true rfl) d_Rd_readRule_6 ⟨Nat.le_of_ble_eq_true rfl, Nat.le_of_ble_eq_true rfl⟩ (fun X ce q9 memx H locs hx hP hS g1 g2 g3 => f_out hlocks hno hP hS g1 g2 g3 ⟨Nat.le_of_ble_eq_true rfl, Nat.le_of_ble_eq_true rfl⟩ hx) (fun r1 mem2 H locs hq hP hS => ?_)
  have hD : va_D (Az sz) (fw n ad mem2) := fw_D hD
  exact hq.elim
set_option maxHeartbeats 4000000 in
set_option maxRecDepth 100000 in
theorem m_Rd_readGrammar0 (l : Launch) {D : va_G} {cy : Nat → ClassId} {sz n : Nat} {ad : Nat → Nat} {mem : Nat → va_E} {a b q : Value} {at0 ft rc ec wh z : Int32} {f : Nat → Int32} (hlt : l.stackTraces = false) (hn : 224 ≤ n) (h9 : mem 222 = .inr (4, [.ref (ad 1), .ref (ad 5), .int at0, .int ft])) (h1 : mem 1 = .inr (0, [.ref (ad 2), .int 0])) (h2 : mem 2 = .inl (cy 0, 240, .inl f)) (h5 : mem 5 = .inr (3, [a, b, .ref (ad 220), .int rc, .int ec, .int wh])) (h6 : mem 220 = .inr (0, [q, .int z])) : MXv l D cy sz n ad y_Rd_readGrammar c_Rd_readGrammar 2 ({ frames := 12, cells := 1, slots := 6, locals := 320 } : Room) mem [.ref (ad 222)] (fun mem' => False) (fun X mem' => X = cIA ∧ ∀ i, 224 ≤ i → mem' i = mem i) := by
  refine vx_ofW (cc := c_Rd_readGrammar) (maxL := 2) (ret := none) (by decide) rfl ?_
  intro p e s m args below meth c s₁ B hml hno hv
  obtain ⟨rfl, E, hP, hD⟩ := hv
  have hx := B.exec
  have hb := B.bytes
  have hr := B.returns
  have hlocks := B.notSynchronized
  have Bx : MB p s m [.ref (ad 222)].toArray c c_Rd_readGrammar "AbnfChart$Reader" D cy := ⟨hx, hb, tb_all (atoms_spec B.pre) E.2.1, findClass_of_methodNamed B.named, E.1⟩
  have hS : va_S (Az sz) s.heap s.heap [] := va_S.rf
  have hl := lv_entry ([.ref (ad 222)]) (n := 2) (Nat.le_of_ble_eq_true rfl)
  rw [lg_entry_eq]
  generalize (lg_sl ([.ref (ad 222)]) ++ List.replicate (2 - (lg_sl ([.ref (ad 222)])).length) Slot.unset).toArray = ls at hl ⊢
  have hl : lv_has ls 2 [(0, .ref (ad 222))] := hl
  refine lv_aload_n Bx.1 Bx.2.1 d_Rd_readGrammar_0 rfl (lv_at hl 0 rfl) ?_
  refine f_get Bx hP (by omega) h9 rfl inRd 1 (by decide) kw_145 rfl rfl d_Rd_readGrammar_1 ?_
  refine f_callVv (na := 0) (As := []) (rest := []) Bx hml E hP hD hS (by omega) h5 rfl (m_Gr_begin l hn h5 h6) kw_332 kw_333 kw_334 kw_3 kw_335 (by decide +kernel) ⟨rfl, rfl⟩ ⟨Nat.le_of_ble_eq_true rfl, Nat.le_of_ble_eq_true rfl⟩ rfl hl.1 (Nat.le_of_ble_eq_true rfl) d_Rd_readGrammar_4 ⟨Nat.le_of_ble_eq_true rfl, Nat.le_of_ble_eq_true rfl⟩ (fun mem2 H locs hqb hP hS => ?_)
  have hD : va_D (Az sz) (fw n ad mem2) := fw_D hD
  have h2b : mem2 2 = .inl (cy 0, 240, .inl f) := by rw [hqb, va_up_ne _ _ (by decide), va_up_ne _ _ (by decide)]; exact h2
  have hh3 : mem2 (222) = .inr (4, [.ref (ad 1), .ref (ad 5), .int (at0), .int (ft)]) := by rw [hqb]; (try unfold chM); rw [va_up_ne _ _ (by first | decide | assumption | omega), va_up_ne _ _ (by first | decide | assumption | omega)]; exact h9
  have hh4 : mem2 (1) = .inr (0, [.ref (ad 2), .int (0)]) := by rw [hqb]; (try unfold chM); rw [va_up_ne _ _ (by first | decide | assumption | omega), va_up_ne _ _ (by first | decide | assumption | omega)]; exact h1
  refine lv_aload_n Bx.1 Bx.2.1 d_Rd_readGrammar_7 rfl (lv_at hl 0 rfl) ?_
  refine lv_iconst (v := -1) Bx.1 Bx.2.1 d_Rd_readGrammar_8 (by decide) ?_
  refine f_put Bx hP hD hS (by omega) hh3 rfl inRd tyRd okRd nmRd 3 (by decide) kw_147 rfl rfl rfl rfl (Nat.le_of_ble_eq_true rfl) d_Rd_readGrammar_9 (fun H locs hP hS => ?_)
  obtain ⟨mem5, e_mem5⟩ : ∃ z, z = va_up mem2 (222) (.inr (4, [.ref (ad 1), .ref (ad 5), .int (at0), .int ((-1))])) := ⟨_, rfl⟩
  have hP : va_P D vcl (fw n ad mem5) H := by rw [e_mem5]; exact hP
  have hD : va_D (Az sz) (fw n ad mem5) := fw_D hD
  have h_mem5 : mem5 (222) = .inr (4, [.ref (ad 1), .ref (ad 5), .int (at0), .int ((-1))]) := by rw [e_mem5, va_up_self]
  have hh6 := (va_up_ne mem2 (.inr (4, [.ref (ad 1), .ref (ad 5), .int (at0), .int ((-1))])) (show (1 : Nat) ≠ 222 by first | decide | assumption | omega)).trans hh4
  rw [← e_mem5] at hh6
  have h2c : mem5 2 = .inl (cy 0, 240, .inl f) := by rw [e_mem5, va_up_ne _ _ (by decide)]; exact h2b
  refine lv_aload_n Bx.1 Bx.2.1 d_Rd_readGrammar_12 rfl (lv_at hl 0 rfl) ?_
  refine lv_aload_n Bx.1 Bx.2.1 d_Rd_readGrammar_13 rfl (lv_at hl 0 rfl) ?_
  refine lv_iconst (v := 0) Bx.1 Bx.2.1 d_Rd_readGrammar_14 (by decide) ?_
  refine f_callVi (na := 1) (As := [.int (0)]) (rest := [.ref (ad 222)]) Bx hml E hP hD hS (by omega) h_mem5 rfl (m_Rd_fullLineFrom0 l hn h_mem5 hh6 h2c) kw_337 kw_339 sel_Rd_fullLineFrom kw_6 kw_340 (by decide +kernel) ⟨rfl, rfl⟩ ⟨Nat.le_of_ble_eq_true rfl, Nat.le_of_ble_eq_true rfl⟩ rfl hl.1 (Nat.le_of_ble_eq_true rfl) d_Rd_readGrammar_15 ⟨Nat.le_of_ble_eq_true rfl, Nat.le_of_ble_eq_true rfl⟩ (fun r7 mem8 H locs hq hP hS => ?_)
  obtain ⟨hr1, mem8e⟩ := hq
  rw [mem8e] at hP
  subst hr1
  refine f_put Bx hP hD hS (by omega) h_mem5 rfl inRd tyRd okRd nmRd 2 (by decide) kw_146 rfl rfl rfl rfl (Nat.le_of_ble_eq_true rfl) d_Rd_readGrammar_18 (fun H locs hP hS => ?_)
  obtain ⟨mem9, e_mem9⟩ : ∃ z, z = va_up mem5 (222) (.inr (4, [.ref (ad 1), .ref (ad 5), .int (0), .int ((-1))])) := ⟨_, rfl⟩
  have hP : va_P D vcl (fw n ad mem9) H := by rw [e_mem9]; exact hP
  have hD : va_D (Az sz) (fw n ad mem9) := fw_D hD
  have h_mem9 : mem9 (222) = .inr (4, [.ref (ad 1), .ref (ad 5), .int (0), .int ((-1))]) := by rw [e_mem9, va_up_self]
  have hh10 := (va_up_ne mem5 (.inr (4, [.ref (ad 1), .ref (ad 5), .int (0), .int ((-1))])) (show (1 : Nat) ≠ 222 by first | decide | assumption | omega)).trans hh6
  rw [← e_mem9] at hh10
  have h2d : mem9 2 = .inl (cy 0, 240, .inl f) := by rw [e_mem9, va_up_ne _ _ (by decide)]; exact h2c
  refine lv_aload_n Bx.1 Bx.2.1 d_Rd_readGrammar_21 rfl (lv_at hl 0 rfl) ?_
  refine f_callVXv (na := 0) (As := []) (rest := []) Bx hml E hP hD hS (by omega) h_mem9 rfl (m_Rd_readRule0 l hlt hn h_mem9 hh10 h2d) kw_345 kw_347 sel_Rd_readRule kw_6 kw_348 (by decide +kernel) ⟨rfl, rfl⟩ ⟨Nat.le_of_ble_eq_true rfl, Nat.le_of_ble_eq_true rfl⟩ rfl hl.1 (Nat.le_of_ble_eq_true rfl) d_Rd_readGrammar_22 ⟨Nat.le_of_ble_eq_true rfl, Nat.le_of_ble_eq_true rfl⟩ (fun X ce q9 memx H locs hx hP hS g1 g2 g3 => f_out hlocks hno hP hS g1 g2 g3 ⟨Nat.le_of_ble_eq_true rfl, Nat.le_of_ble_eq_true rfl⟩ ⟨hx.1, fun i hi => by rw [hx.2 i hi, e_mem9, va_up_ne _ _ (by omega), e_mem5, va_up_ne _ _ (by omega), hqb, va_up_ne _ _ (by omega), va_up_ne _ _ (by omega)]⟩) (fun mem12 H locs hq hP hS => ?_)
  have hD : va_D (Az sz) (fw n ad mem12) := fw_D hD
  exact hq.elim
set_option maxHeartbeats 4000000 in
set_option maxRecDepth 100000 in
theorem m_Ab_read0 (l : Launch) {D : va_G} {cy : Nat → ClassId} {sz n : Nat} {ad : Nat → Nat} {mem : Nat → va_E} {a b q c1 c2 : Value} {at0 ft rc ec wh z fl : Int32} {f : Nat → Int32} (hlt : l.stackTraces = false) (hn : 224 ≤ n) (h0 : mem 0 = .inr (6, [.ref (ad 1), .ref (ad 3), .ref (ad 5), .ref (ad 222), .ref (ad 223)])) (h9 : mem 222 = .inr (4, [.ref (ad 1), .ref (ad 5), .int at0, .int ft])) (h1 : mem 1 = .inr (0, [.ref (ad 2), .int 0])) (h2 : mem 2 = .inl (cy 0, 240, .inl f)) (h5 : mem 5 = .inr (3, [a, b, .ref (ad 220), .int rc, .int ec, .int wh])) (h6 : mem 220 = .inr (0, [q, .int z])) (hc : mem 223 = .inr (1, [c1, c2, .int fl])) : MXi l D cy sz n ad y_Ab_read c_Ab_read 1 (some .int) ({ frames := 14, cells := 1, slots := 6, locals := 400 } : Room) mem [.ref (ad 0)] (fun r mem' => False) (fun X mem' => X = cIA ∧ ∀ i, 224 ≤ i → mem' i = mem i) := by
  refine vx_ofW (cc := c_Ab_read) (maxL := 1) (ret := (some .int)) (by decide) rfl ?_
  intro p e s m args below meth c s₁ B hml hno hv
  obtain ⟨rfl, E, hP, hD⟩ := hv
  have hx := B.exec
  have hb := B.bytes
  have hr := B.returns
  have hlocks := B.notSynchronized
  have Bx : MB p s m [.ref (ad 0)].toArray c c_Ab_read "AbnfChart" D cy := ⟨hx, hb, tb_all (atoms_spec B.pre) E.2.1, findClass_of_methodNamed B.named, E.1⟩
  have hS : va_S (Az sz) s.heap s.heap [] := va_S.rf
  have hl := lv_entry ([.ref (ad 0)]) (n := 1) (Nat.le_of_ble_eq_true rfl)
  rw [lg_entry_eq]
  generalize (lg_sl ([.ref (ad 0)]) ++ List.replicate (1 - (lg_sl ([.ref (ad 0)])).length) Slot.unset).toArray = ls at hl ⊢
  have hl : lv_has ls 1 [(0, .ref (ad 0))] := hl
  refine lv_aload_n Bx.1 Bx.2.1 d_Ab_read_0 rfl (lv_at hl 0 rfl) ?_
  refine f_get Bx hP (by omega) h0 rfl inAb 4 (by decide) kw_178 rfl rfl d_Ab_read_1 ?_
  refine f_callVv (na := 0) (As := []) (rest := []) Bx hml E hP hD hS (by omega) hc rfl (m_Ct_forget l (by omega) hc) kw_206 kw_207 kw_208 kw_7 kw_209 (by decide +kernel) ⟨rfl, rfl⟩ ⟨Nat.le_of_ble_eq_true rfl, Nat.le_of_ble_eq_true rfl⟩ rfl hl.1 (Nat.le_of_ble_eq_true rfl) d_Ab_read_4 ⟨Nat.le_of_ble_eq_true rfl, Nat.le_of_ble_eq_true rfl⟩ (fun mem2 H locs hq hP hS => ?_)
  have hD : va_D (Az sz) (fw n ad mem2) := fw_D hD
  have h2b : mem2 2 = .inl (cy 0, 240, .inl f) := by rw [hq, va_up_ne _ _ (by decide)]; exact h2
  have hh3 : mem2 (0) = .inr (6, [.ref (ad 1), .ref (ad 3), .ref (ad 5), .ref (ad 222), .ref (ad 223)]) := by rw [hq]; (try unfold chM); rw [va_up_ne _ _ (by first | decide | assumption | omega)]; exact h0
  have hh4 : mem2 (222) = .inr (4, [.ref (ad 1), .ref (ad 5), .int (at0), .int (ft)]) := by rw [hq]; (try unfold chM); rw [va_up_ne _ _ (by first | decide | assumption | omega)]; exact h9
  have hh5 : mem2 (1) = .inr (0, [.ref (ad 2), .int (0)]) := by rw [hq]; (try unfold chM); rw [va_up_ne _ _ (by first | decide | assumption | omega)]; exact h1
  have hh6 : mem2 (5) = .inr (3, [a, b, .ref (ad 220), .int (rc), .int (ec), .int (wh)]) := by rw [hq]; (try unfold chM); rw [va_up_ne _ _ (by first | decide | assumption | omega)]; exact h5
  have hh7 : mem2 (220) = .inr (0, [q, .int (z)]) := by rw [hq]; (try unfold chM); rw [va_up_ne _ _ (by first | decide | assumption | omega)]; exact h6
  refine lv_aload_n Bx.1 Bx.2.1 d_Ab_read_7 rfl (lv_at hl 0 rfl) ?_
  refine f_get Bx hP (by omega) hh3 rfl inAb 3 (by decide) kw_177 rfl rfl d_Ab_read_8 ?_
  refine f_callVXv (na := 0) (As := []) (rest := []) Bx hml E hP hD hS (by omega) hh4 rfl (m_Rd_readGrammar0 l hlt hn hh4 hh5 h2b hh6 hh7) kw_328 kw_329 kw_330 kw_6 kw_331 (by decide +kernel) ⟨rfl, rfl⟩ ⟨Nat.le_of_ble_eq_true rfl, Nat.le_of_ble_eq_true rfl⟩ rfl hl.1 (Nat.le_of_ble_eq_true rfl) d_Ab_read_11 ⟨Nat.le_of_ble_eq_true rfl, Nat.le_of_ble_eq_true rfl⟩ (fun X ce q9 memx H locs hx hP hS g1 g2 g3 => f_out hlocks hno hP hS g1 g2 g3 ⟨Nat.le_of_ble_eq_true rfl, Nat.le_of_ble_eq_true rfl⟩ ⟨hx.1, fun i hi => by rw [hx.2 i hi, hq, va_up_ne _ _ (by omega)]⟩) (fun mem9 H locs hq2 hP hS => ?_)
  have hD : va_D (Az sz) (fw n ad mem9) := fw_D hD
  exact hq2.elim
