theorem d_Mo_give_0 : decode c_Mo_give 0 = .ok (.aload_n 0, 1) := by decide +kernel
theorem d_Mo_give_1 : decode c_Mo_give 1 = .ok (.iconst 0, 1) := by decide +kernel
theorem d_Mo_give_2 : decode c_Mo_give 2 = .ok (.putfield 71, 3) := by decide +kernel
theorem d_Mo_give_5 : decode c_Mo_give 5 = .ok (.iload_n 3, 1) := by decide +kernel
theorem d_Mo_give_6 : decode c_Mo_give 6 = .ok (.iconst 1, 1) := by decide +kernel
theorem d_Mo_give_7 : decode c_Mo_give 7 = .ok (.bipush 8, 2) := by decide +kernel
theorem d_Mo_give_9 : decode c_Mo_give 9 = .ok (.invokestatic 74, 3) := by decide +kernel
theorem d_Mo_give_12 : decode c_Mo_give 12 = .ok (.ifCond .ne 9, 3) := by decide +kernel
theorem d_Mo_give_15 : decode c_Mo_give 15 = .ok (.aload_n 0, 1) := by decide +kernel
theorem d_Mo_give_16 : decode c_Mo_give 16 = .ok (.iconst 1, 1) := by decide +kernel
theorem d_Mo_give_17 : decode c_Mo_give 17 = .ok (.invokevirtual 78, 3) := by decide +kernel
theorem d_Mo_give_20 : decode c_Mo_give 20 = .ok (.ireturn, 1) := by decide +kernel
theorem d_Mo_give_21 : decode c_Mo_give 21 = .ok (.iconst 1, 1) := by decide +kernel
theorem d_Mo_give_22 : decode c_Mo_give 22 = .ok (.istore 4, 2) := by decide +kernel
theorem d_Mo_give_24 : decode c_Mo_give 24 = .ok (.iconst 0, 1) := by decide +kernel
theorem d_Mo_give_25 : decode c_Mo_give 25 = .ok (.istore 5, 2) := by decide +kernel
theorem d_Mo_give_27 : decode c_Mo_give 27 = .ok (.iload 5, 2) := by decide +kernel
theorem d_Mo_give_29 : decode c_Mo_give 29 = .ok (.iload_n 3, 1) := by decide +kernel
theorem d_Mo_give_30 : decode c_Mo_give 30 = .ok (.if_icmp .ge 39, 3) := by decide +kernel
theorem d_Mo_give_33 : decode c_Mo_give 33 = .ok (.iload 4, 2) := by decide +kernel
theorem d_Mo_give_35 : decode c_Mo_give 35 = .ok (.ifCond .eq 25, 3) := by decide +kernel
theorem d_Mo_give_38 : decode c_Mo_give 38 = .ok (.lload_n 1, 1) := by decide +kernel
theorem d_Mo_give_39 : decode c_Mo_give 39 = .ok (.bipush 8, 2) := by decide +kernel
theorem d_Mo_give_41 : decode c_Mo_give 41 = .ok (.iload 5, 2) := by decide +kernel
theorem d_Mo_give_43 : decode c_Mo_give 43 = .ok (.imul, 1) := by decide +kernel
theorem d_Mo_give_44 : decode c_Mo_give 44 = .ok (.lshr, 1) := by decide +kernel
theorem d_Mo_give_45 : decode c_Mo_give 45 = .ok (.ldc2_w 82, 3) := by decide +kernel
theorem d_Mo_give_48 : decode c_Mo_give 48 = .ok (.land, 1) := by decide +kernel
theorem d_Mo_give_49 : decode c_Mo_give 49 = .ok (.ldc2_w 183, 3) := by decide +kernel
theorem d_Mo_give_52 : decode c_Mo_give 52 = .ok (.lcmp, 1) := by decide +kernel
theorem d_Mo_give_53 : decode c_Mo_give 53 = .ok (.ifCond .ge 7, 3) := by decide +kernel
theorem d_Mo_give_56 : decode c_Mo_give 56 = .ok (.iconst 1, 1) := by decide +kernel
theorem d_Mo_give_57 : decode c_Mo_give 57 = .ok (.goto 4, 3) := by decide +kernel
theorem d_Mo_give_60 : decode c_Mo_give 60 = .ok (.iconst 0, 1) := by decide +kernel
theorem d_Mo_give_61 : decode c_Mo_give 61 = .ok (.istore 4, 2) := by decide +kernel
theorem d_Mo_give_63 : decode c_Mo_give 63 = .ok (.iinc 5 1, 3) := by decide +kernel
theorem d_Mo_give_66 : decode c_Mo_give 66 = .ok (.goto (-39), 3) := by decide +kernel
theorem d_Mo_give_69 : decode c_Mo_give 69 = .ok (.iload 4, 2) := by decide +kernel
theorem d_Mo_give_71 : decode c_Mo_give 71 = .ok (.ifCond .ne 9, 3) := by decide +kernel
theorem d_Mo_give_74 : decode c_Mo_give 74 = .ok (.aload_n 0, 1) := by decide +kernel
theorem d_Mo_give_75 : decode c_Mo_give 75 = .ok (.iconst 1, 1) := by decide +kernel
theorem d_Mo_give_76 : decode c_Mo_give 76 = .ok (.invokevirtual 78, 3) := by decide +kernel
theorem d_Mo_give_79 : decode c_Mo_give 79 = .ok (.ireturn, 1) := by decide +kernel
theorem d_Mo_give_80 : decode c_Mo_give 80 = .ok (.aload_n 0, 1) := by decide +kernel
theorem d_Mo_give_81 : decode c_Mo_give 81 = .ok (.getfield 185, 3) := by decide +kernel
theorem d_Mo_give_84 : decode c_Mo_give 84 = .ok (.iload_n 3, 1) := by decide +kernel
theorem d_Mo_give_85 : decode c_Mo_give 85 = .ok (.iadd, 1) := by decide +kernel
theorem d_Mo_give_86 : decode c_Mo_give 86 = .ok (.bipush 24, 2) := by decide +kernel
theorem d_Mo_give_88 : decode c_Mo_give 88 = .ok (.if_icmp .le 9, 3) := by decide +kernel
theorem d_Mo_give_91 : decode c_Mo_give 91 = .ok (.aload_n 0, 1) := by decide +kernel
theorem d_Mo_give_92 : decode c_Mo_give 92 = .ok (.iconst 2, 1) := by decide +kernel
theorem d_Mo_give_93 : decode c_Mo_give 93 = .ok (.invokevirtual 78, 3) := by decide +kernel
theorem d_Mo_give_96 : decode c_Mo_give 96 = .ok (.ireturn, 1) := by decide +kernel
theorem d_Mo_give_97 : decode c_Mo_give 97 = .ok (.iconst 0, 1) := by decide +kernel
theorem d_Mo_give_98 : decode c_Mo_give 98 = .ok (.istore 5, 2) := by decide +kernel
theorem d_Mo_give_100 : decode c_Mo_give 100 = .ok (.iload 5, 2) := by decide +kernel
theorem d_Mo_give_102 : decode c_Mo_give 102 = .ok (.iload_n 3, 1) := by decide +kernel
theorem d_Mo_give_103 : decode c_Mo_give 103 = .ok (.if_icmp .ge 33, 3) := by decide +kernel
theorem d_Mo_give_106 : decode c_Mo_give 106 = .ok (.aload_n 0, 1) := by decide +kernel
theorem d_Mo_give_107 : decode c_Mo_give 107 = .ok (.getfield 61, 3) := by decide +kernel
theorem d_Mo_give_110 : decode c_Mo_give 110 = .ok (.aload_n 0, 1) := by decide +kernel
theorem d_Mo_give_111 : decode c_Mo_give 111 = .ok (.getfield 185, 3) := by decide +kernel
theorem d_Mo_give_114 : decode c_Mo_give 114 = .ok (.iload 5, 2) := by decide +kernel
theorem d_Mo_give_116 : decode c_Mo_give 116 = .ok (.iadd, 1) := by decide +kernel
theorem d_Mo_give_117 : decode c_Mo_give 117 = .ok (.lload_n 1, 1) := by decide +kernel
theorem d_Mo_give_118 : decode c_Mo_give 118 = .ok (.bipush 8, 2) := by decide +kernel
theorem d_Mo_give_120 : decode c_Mo_give 120 = .ok (.iload 5, 2) := by decide +kernel
theorem d_Mo_give_122 : decode c_Mo_give 122 = .ok (.imul, 1) := by decide +kernel
theorem d_Mo_give_123 : decode c_Mo_give 123 = .ok (.lshr, 1) := by decide +kernel
theorem d_Mo_give_124 : decode c_Mo_give 124 = .ok (.ldc2_w 82, 3) := by decide +kernel
theorem d_Mo_give_127 : decode c_Mo_give 127 = .ok (.land, 1) := by decide +kernel
theorem d_Mo_give_128 : decode c_Mo_give 128 = .ok (.l2i, 1) := by decide +kernel
theorem d_Mo_give_129 : decode c_Mo_give 129 = .ok (.iastore, 1) := by decide +kernel
theorem d_Mo_give_130 : decode c_Mo_give 130 = .ok (.iinc 5 1, 3) := by decide +kernel
theorem d_Mo_give_133 : decode c_Mo_give 133 = .ok (.goto (-33), 3) := by decide +kernel
theorem d_Mo_give_136 : decode c_Mo_give 136 = .ok (.aload_n 0, 1) := by decide +kernel
theorem d_Mo_give_137 : decode c_Mo_give 137 = .ok (.dup, 1) := by decide +kernel
theorem d_Mo_give_138 : decode c_Mo_give 138 = .ok (.getfield 185, 3) := by decide +kernel
theorem d_Mo_give_141 : decode c_Mo_give 141 = .ok (.iload_n 3, 1) := by decide +kernel
theorem d_Mo_give_142 : decode c_Mo_give 142 = .ok (.iadd, 1) := by decide +kernel
theorem d_Mo_give_143 : decode c_Mo_give 143 = .ok (.putfield 185, 3) := by decide +kernel
theorem d_Mo_give_146 : decode c_Mo_give 146 = .ok (.aload_n 0, 1) := by decide +kernel
theorem d_Mo_give_147 : decode c_Mo_give 147 = .ok (.iconst 1, 1) := by decide +kernel
theorem d_Mo_give_148 : decode c_Mo_give 148 = .ok (.putfield 64, 3) := by decide +kernel
theorem d_Mo_give_151 : decode c_Mo_give 151 = .ok (.aload_n 0, 1) := by decide +kernel
theorem d_Mo_give_152 : decode c_Mo_give 152 = .ok (.getfield 185, 3) := by decide +kernel
theorem d_Mo_give_155 : decode c_Mo_give 155 = .ok (.ireturn, 1) := by decide +kernel
theorem d_Mo_rule_0 : decode c_Mo_rule 0 = .ok (.aload_n 0, 1) := by decide +kernel
theorem d_Mo_rule_1 : decode c_Mo_rule 1 = .ok (.iconst 0, 1) := by decide +kernel
theorem d_Mo_rule_2 : decode c_Mo_rule 2 = .ok (.putfield 71, 3) := by decide +kernel
theorem d_Mo_rule_5 : decode c_Mo_rule 5 = .ok (.iconst 0, 1) := by decide +kernel
theorem d_Mo_rule_6 : decode c_Mo_rule 6 = .ok (.istore_n 3, 1) := by decide +kernel
theorem d_Mo_rule_7 : decode c_Mo_rule 7 = .ok (.iload_n 3, 1) := by decide +kernel
theorem d_Mo_rule_8 : decode c_Mo_rule 8 = .ok (.aload_n 0, 1) := by decide +kernel
theorem d_Mo_rule_9 : decode c_Mo_rule 9 = .ok (.getfield 120, 3) := by decide +kernel
theorem d_Mo_rule_12 : decode c_Mo_rule 12 = .ok (.if_icmp .ge 22, 3) := by decide +kernel
theorem d_Mo_rule_15 : decode c_Mo_rule 15 = .ok (.aload_n 0, 1) := by decide +kernel
theorem d_Mo_rule_16 : decode c_Mo_rule 16 = .ok (.getfield 17, 3) := by decide +kernel
theorem d_Mo_rule_19 : decode c_Mo_rule 19 = .ok (.iload_n 3, 1) := by decide +kernel
theorem d_Mo_rule_20 : decode c_Mo_rule 20 = .ok (.laload, 1) := by decide +kernel
theorem d_Mo_rule_21 : decode c_Mo_rule 21 = .ok (.lload_n 1, 1) := by decide +kernel
theorem d_Mo_rule_22 : decode c_Mo_rule 22 = .ok (.lcmp, 1) := by decide +kernel
theorem d_Mo_rule_23 : decode c_Mo_rule 23 = .ok (.ifCond .ne 5, 3) := by decide +kernel
theorem d_Mo_rule_26 : decode c_Mo_rule 26 = .ok (.iload_n 3, 1) := by decide +kernel
theorem d_Mo_rule_27 : decode c_Mo_rule 27 = .ok (.ireturn, 1) := by decide +kernel
theorem d_Mo_rule_28 : decode c_Mo_rule 28 = .ok (.iinc 3 1, 3) := by decide +kernel
theorem d_Mo_rule_31 : decode c_Mo_rule 31 = .ok (.goto (-24), 3) := by decide +kernel
theorem d_Mo_rule_34 : decode c_Mo_rule 34 = .ok (.aload_n 0, 1) := by decide +kernel
theorem d_Mo_rule_35 : decode c_Mo_rule 35 = .ok (.iconst 1, 1) := by decide +kernel
theorem d_Mo_rule_36 : decode c_Mo_rule 36 = .ok (.invokevirtual 78, 3) := by decide +kernel
theorem d_Mo_rule_39 : decode c_Mo_rule 39 = .ok (.ireturn, 1) := by decide +kernel
theorem d_Mo_count_0 : decode c_Mo_count 0 = .ok (.aload_n 0, 1) := by decide +kernel
theorem d_Mo_count_1 : decode c_Mo_count 1 = .ok (.iconst 0, 1) := by decide +kernel
theorem d_Mo_count_2 : decode c_Mo_count 2 = .ok (.putfield 71, 3) := by decide +kernel
theorem d_Mo_count_5 : decode c_Mo_count 5 = .ok (.iload_n 1, 1) := by decide +kernel
theorem d_Mo_count_6 : decode c_Mo_count 6 = .ok (.iconst 0, 1) := by decide +kernel
theorem d_Mo_count_7 : decode c_Mo_count 7 = .ok (.iconst 2, 1) := by decide +kernel
theorem d_Mo_count_8 : decode c_Mo_count 8 = .ok (.invokestatic 74, 3) := by decide +kernel
theorem d_Mo_count_11 : decode c_Mo_count 11 = .ok (.ifCond .ne 9, 3) := by decide +kernel
theorem d_Mo_count_14 : decode c_Mo_count 14 = .ok (.aload_n 0, 1) := by decide +kernel
theorem d_Mo_count_15 : decode c_Mo_count 15 = .ok (.iconst 1, 1) := by decide +kernel
theorem d_Mo_count_16 : decode c_Mo_count 16 = .ok (.invokevirtual 78, 3) := by decide +kernel
theorem d_Mo_count_19 : decode c_Mo_count 19 = .ok (.ireturn, 1) := by decide +kernel
theorem d_Mo_count_20 : decode c_Mo_count 20 = .ok (.iconst 0, 1) := by decide +kernel
theorem d_Mo_count_21 : decode c_Mo_count 21 = .ok (.istore_n 2, 1) := by decide +kernel
theorem d_Mo_count_22 : decode c_Mo_count 22 = .ok (.iconst 0, 1) := by decide +kernel
theorem d_Mo_count_23 : decode c_Mo_count 23 = .ok (.istore_n 3, 1) := by decide +kernel
theorem d_Mo_count_24 : decode c_Mo_count 24 = .ok (.iload_n 3, 1) := by decide +kernel
theorem d_Mo_count_25 : decode c_Mo_count 25 = .ok (.aload_n 0, 1) := by decide +kernel
theorem d_Mo_count_26 : decode c_Mo_count 26 = .ok (.getfield 120, 3) := by decide +kernel
theorem d_Mo_count_29 : decode c_Mo_count 29 = .ok (.if_icmp .ge 26, 3) := by decide +kernel
theorem d_Mo_count_32 : decode c_Mo_count 32 = .ok (.iload_n 2, 1) := by decide +kernel
theorem d_Mo_count_33 : decode c_Mo_count 33 = .ok (.aload_n 0, 1) := by decide +kernel
theorem d_Mo_count_34 : decode c_Mo_count 34 = .ok (.getfield 21, 3) := by decide +kernel
theorem d_Mo_count_37 : decode c_Mo_count 37 = .ok (.iload_n 3, 1) := by decide +kernel
theorem d_Mo_count_38 : decode c_Mo_count 38 = .ok (.iaload, 1) := by decide +kernel
theorem d_Mo_count_39 : decode c_Mo_count 39 = .ok (.ifCond .lt 7, 3) := by decide +kernel
theorem d_Mo_count_42 : decode c_Mo_count 42 = .ok (.iconst 1, 1) := by decide +kernel
theorem d_Mo_count_43 : decode c_Mo_count 43 = .ok (.goto 4, 3) := by decide +kernel
theorem d_Mo_count_46 : decode c_Mo_count 46 = .ok (.iconst 0, 1) := by decide +kernel
theorem d_Mo_count_47 : decode c_Mo_count 47 = .ok (.iadd, 1) := by decide +kernel
theorem d_Mo_count_48 : decode c_Mo_count 48 = .ok (.istore_n 2, 1) := by decide +kernel
theorem d_Mo_count_49 : decode c_Mo_count 49 = .ok (.iinc 3 1, 3) := by decide +kernel
theorem d_Mo_count_52 : decode c_Mo_count 52 = .ok (.goto (-28), 3) := by decide +kernel
theorem d_Mo_count_55 : decode c_Mo_count 55 = .ok (.iload_n 1, 1) := by decide +kernel
theorem d_Mo_count_56 : decode c_Mo_count 56 = .ok (.ifCond .ne 10, 3) := by decide +kernel
theorem d_Mo_count_59 : decode c_Mo_count 59 = .ok (.aload_n 0, 1) := by decide +kernel
theorem d_Mo_count_60 : decode c_Mo_count 60 = .ok (.getfield 120, 3) := by decide +kernel
theorem d_Mo_count_63 : decode c_Mo_count 63 = .ok (.goto 16, 3) := by decide +kernel
theorem d_Mo_count_66 : decode c_Mo_count 66 = .ok (.iload_n 1, 1) := by decide +kernel
theorem d_Mo_count_67 : decode c_Mo_count 67 = .ok (.iconst 1, 1) := by decide +kernel
theorem d_Mo_count_68 : decode c_Mo_count 68 = .ok (.if_icmp .ne 10, 3) := by decide +kernel
theorem d_Mo_count_71 : decode c_Mo_count 71 = .ok (.aload_n 0, 1) := by decide +kernel
theorem d_Mo_count_72 : decode c_Mo_count 72 = .ok (.getfield 110, 3) := by decide +kernel
theorem d_Mo_count_75 : decode c_Mo_count 75 = .ok (.goto 4, 3) := by decide +kernel
theorem d_Mo_count_78 : decode c_Mo_count 78 = .ok (.iload_n 2, 1) := by decide +kernel
theorem d_Mo_count_79 : decode c_Mo_count 79 = .ok (.ireturn, 1) := by decide +kernel
theorem d_Mo_matches_0 : decode c_Mo_matches 0 = .ok (.aload_n 0, 1) := by decide +kernel
theorem d_Mo_matches_1 : decode c_Mo_matches 1 = .ok (.iconst 0, 1) := by decide +kernel
theorem d_Mo_matches_2 : decode c_Mo_matches 2 = .ok (.putfield 71, 3) := by decide +kernel
theorem d_Mo_matches_5 : decode c_Mo_matches 5 = .ok (.iload_n 1, 1) := by decide +kernel
theorem d_Mo_matches_6 : decode c_Mo_matches 6 = .ok (.iconst 0, 1) := by decide +kernel
theorem d_Mo_matches_7 : decode c_Mo_matches 7 = .ok (.aload_n 0, 1) := by decide +kernel
theorem d_Mo_matches_8 : decode c_Mo_matches 8 = .ok (.getfield 120, 3) := by decide +kernel
theorem d_Mo_matches_11 : decode c_Mo_matches 11 = .ok (.iconst 1, 1) := by decide +kernel
theorem d_Mo_matches_12 : decode c_Mo_matches 12 = .ok (.isub, 1) := by decide +kernel
theorem d_Mo_matches_13 : decode c_Mo_matches 13 = .ok (.invokestatic 74, 3) := by decide +kernel
theorem d_Mo_matches_16 : decode c_Mo_matches 16 = .ok (.ifCond .ne 17, 3) := by decide +kernel
theorem d_Mo_matches_19 : decode c_Mo_matches 19 = .ok (.aload_n 0, 1) := by decide +kernel
theorem d_Mo_matches_20 : decode c_Mo_matches 20 = .ok (.iconst 1, 1) := by decide +kernel
theorem d_Mo_matches_21 : decode c_Mo_matches 21 = .ok (.invokevirtual 78, 3) := by decide +kernel
theorem d_Mo_matches_24 : decode c_Mo_matches 24 = .ok (.ifCond .le 7, 3) := by decide +kernel
theorem d_Mo_matches_27 : decode c_Mo_matches 27 = .ok (.iconst 1, 1) := by decide +kernel
theorem d_Mo_matches_28 : decode c_Mo_matches 28 = .ok (.goto 4, 3) := by decide +kernel
theorem d_Mo_matches_31 : decode c_Mo_matches 31 = .ok (.iconst 0, 1) := by decide +kernel
theorem d_Mo_matches_32 : decode c_Mo_matches 32 = .ok (.ireturn, 1) := by decide +kernel
theorem d_Mo_matches_33 : decode c_Mo_matches 33 = .ok (.iload_n 2, 1) := by decide +kernel
theorem d_Mo_matches_34 : decode c_Mo_matches 34 = .ok (.ifCond .lt 16, 3) := by decide +kernel
theorem d_Mo_matches_37 : decode c_Mo_matches 37 = .ok (.iload_n 3, 1) := by decide +kernel
theorem d_Mo_matches_38 : decode c_Mo_matches 38 = .ok (.iload_n 2, 1) := by decide +kernel
theorem d_Mo_matches_39 : decode c_Mo_matches 39 = .ok (.if_icmp .lt 11, 3) := by decide +kernel
theorem d_Mo_matches_42 : decode c_Mo_matches 42 = .ok (.iload_n 3, 1) := by decide +kernel
theorem d_Mo_matches_43 : decode c_Mo_matches 43 = .ok (.aload_n 0, 1) := by decide +kernel
theorem d_Mo_matches_44 : decode c_Mo_matches 44 = .ok (.getfield 185, 3) := by decide +kernel
theorem d_Mo_matches_47 : decode c_Mo_matches 47 = .ok (.if_icmp .le 17, 3) := by decide +kernel
theorem d_Mo_matches_50 : decode c_Mo_matches 50 = .ok (.aload_n 0, 1) := by decide +kernel
theorem d_Mo_matches_51 : decode c_Mo_matches 51 = .ok (.iconst 2, 1) := by decide +kernel
theorem d_Mo_matches_52 : decode c_Mo_matches 52 = .ok (.invokevirtual 78, 3) := by decide +kernel
theorem d_Mo_matches_55 : decode c_Mo_matches 55 = .ok (.ifCond .le 7, 3) := by decide +kernel
theorem d_Mo_matches_58 : decode c_Mo_matches 58 = .ok (.iconst 1, 1) := by decide +kernel
theorem d_Mo_matches_59 : decode c_Mo_matches 59 = .ok (.goto 4, 3) := by decide +kernel
theorem d_Mo_matches_62 : decode c_Mo_matches 62 = .ok (.iconst 0, 1) := by decide +kernel
theorem d_Mo_matches_63 : decode c_Mo_matches 63 = .ok (.ireturn, 1) := by decide +kernel
theorem d_Mo_matches_64 : decode c_Mo_matches 64 = .ok (.aload_n 0, 1) := by decide +kernel
theorem d_Mo_matches_65 : decode c_Mo_matches 65 = .ok (.iload_n 1, 1) := by decide +kernel
theorem d_Mo_matches_66 : decode c_Mo_matches 66 = .ok (.iload_n 2, 1) := by decide +kernel
theorem d_Mo_matches_67 : decode c_Mo_matches 67 = .ok (.invokevirtual 204, 3) := by decide +kernel
theorem d_Mo_matches_70 : decode c_Mo_matches 70 = .ok (.iload_n 3, 1) := by decide +kernel
theorem d_Mo_matches_71 : decode c_Mo_matches 71 = .ok (.ishr, 1) := by decide +kernel
theorem d_Mo_matches_72 : decode c_Mo_matches 72 = .ok (.iconst 1, 1) := by decide +kernel
theorem d_Mo_matches_73 : decode c_Mo_matches 73 = .ok (.iand, 1) := by decide +kernel
theorem d_Mo_matches_74 : decode c_Mo_matches 74 = .ok (.iconst 1, 1) := by decide +kernel
theorem d_Mo_matches_75 : decode c_Mo_matches 75 = .ok (.if_icmp .ne 7, 3) := by decide +kernel
theorem d_Mo_matches_78 : decode c_Mo_matches 78 = .ok (.iconst 1, 1) := by decide +kernel
theorem d_Mo_matches_79 : decode c_Mo_matches 79 = .ok (.goto 4, 3) := by decide +kernel
theorem d_Mo_matches_82 : decode c_Mo_matches 82 = .ok (.iconst 0, 1) := by decide +kernel
theorem d_Mo_matches_83 : decode c_Mo_matches 83 = .ok (.ireturn, 1) := by decide +kernel
theorem d_Mo_longest_0 : decode c_Mo_longest 0 = .ok (.aload_n 0, 1) := by decide +kernel
theorem d_Mo_longest_1 : decode c_Mo_longest 1 = .ok (.iconst 0, 1) := by decide +kernel
theorem d_Mo_longest_2 : decode c_Mo_longest 2 = .ok (.putfield 71, 3) := by decide +kernel
theorem d_Mo_longest_5 : decode c_Mo_longest 5 = .ok (.iload_n 1, 1) := by decide +kernel
theorem d_Mo_longest_6 : decode c_Mo_longest 6 = .ok (.iconst 0, 1) := by decide +kernel
theorem d_Mo_longest_7 : decode c_Mo_longest 7 = .ok (.aload_n 0, 1) := by decide +kernel
theorem d_Mo_longest_8 : decode c_Mo_longest 8 = .ok (.getfield 120, 3) := by decide +kernel
theorem d_Mo_longest_11 : decode c_Mo_longest 11 = .ok (.iconst 1, 1) := by decide +kernel
theorem d_Mo_longest_12 : decode c_Mo_longest 12 = .ok (.isub, 1) := by decide +kernel
theorem d_Mo_longest_13 : decode c_Mo_longest 13 = .ok (.invokestatic 74, 3) := by decide +kernel
theorem d_Mo_longest_16 : decode c_Mo_longest 16 = .ok (.ifCond .ne 9, 3) := by decide +kernel
theorem d_Mo_longest_19 : decode c_Mo_longest 19 = .ok (.aload_n 0, 1) := by decide +kernel
theorem d_Mo_longest_20 : decode c_Mo_longest 20 = .ok (.iconst 1, 1) := by decide +kernel
theorem d_Mo_longest_21 : decode c_Mo_longest 21 = .ok (.invokevirtual 78, 3) := by decide +kernel
theorem d_Mo_longest_24 : decode c_Mo_longest 24 = .ok (.ireturn, 1) := by decide +kernel
theorem d_Mo_longest_25 : decode c_Mo_longest 25 = .ok (.iload_n 2, 1) := by decide +kernel
theorem d_Mo_longest_26 : decode c_Mo_longest 26 = .ok (.iconst 0, 1) := by decide +kernel
theorem d_Mo_longest_27 : decode c_Mo_longest 27 = .ok (.aload_n 0, 1) := by decide +kernel
theorem d_Mo_longest_28 : decode c_Mo_longest 28 = .ok (.getfield 185, 3) := by decide +kernel
theorem d_Mo_longest_31 : decode c_Mo_longest 31 = .ok (.invokestatic 74, 3) := by decide +kernel
theorem d_Mo_longest_34 : decode c_Mo_longest 34 = .ok (.ifCond .ne 9, 3) := by decide +kernel
theorem d_Mo_longest_37 : decode c_Mo_longest 37 = .ok (.aload_n 0, 1) := by decide +kernel
theorem d_Mo_longest_38 : decode c_Mo_longest 38 = .ok (.iconst 2, 1) := by decide +kernel
theorem d_Mo_longest_39 : decode c_Mo_longest 39 = .ok (.invokevirtual 78, 3) := by decide +kernel
theorem d_Mo_longest_42 : decode c_Mo_longest 42 = .ok (.ireturn, 1) := by decide +kernel
theorem d_Mo_longest_43 : decode c_Mo_longest 43 = .ok (.iconst (-1), 1) := by decide +kernel
theorem d_Mo_longest_44 : decode c_Mo_longest 44 = .ok (.istore_n 3, 1) := by decide +kernel
theorem d_Mo_longest_45 : decode c_Mo_longest 45 = .ok (.iload_n 2, 1) := by decide +kernel
theorem d_Mo_longest_46 : decode c_Mo_longest 46 = .ok (.istore 4, 2) := by decide +kernel
theorem d_Mo_longest_48 : decode c_Mo_longest 48 = .ok (.iload 4, 2) := by decide +kernel
theorem d_Mo_longest_50 : decode c_Mo_longest 50 = .ok (.aload_n 0, 1) := by decide +kernel
theorem d_Mo_longest_51 : decode c_Mo_longest 51 = .ok (.getfield 185, 3) := by decide +kernel
theorem d_Mo_longest_54 : decode c_Mo_longest 54 = .ok (.if_icmp .gt 31, 3) := by decide +kernel
theorem d_Mo_longest_57 : decode c_Mo_longest 57 = .ok (.aload_n 0, 1) := by decide +kernel
theorem d_Mo_longest_58 : decode c_Mo_longest 58 = .ok (.iload_n 1, 1) := by decide +kernel
theorem d_Mo_longest_59 : decode c_Mo_longest 59 = .ok (.iload_n 2, 1) := by decide +kernel
theorem d_Mo_longest_60 : decode c_Mo_longest 60 = .ok (.invokevirtual 204, 3) := by decide +kernel
theorem d_Mo_longest_63 : decode c_Mo_longest 63 = .ok (.iload 4, 2) := by decide +kernel
theorem d_Mo_longest_65 : decode c_Mo_longest 65 = .ok (.ishr, 1) := by decide +kernel
theorem d_Mo_longest_66 : decode c_Mo_longest 66 = .ok (.iconst 1, 1) := by decide +kernel
theorem d_Mo_longest_67 : decode c_Mo_longest 67 = .ok (.iand, 1) := by decide +kernel
theorem d_Mo_longest_68 : decode c_Mo_longest 68 = .ok (.iconst 1, 1) := by decide +kernel
theorem d_Mo_longest_69 : decode c_Mo_longest 69 = .ok (.if_icmp .ne 8, 3) := by decide +kernel
theorem d_Mo_longest_72 : decode c_Mo_longest 72 = .ok (.iload 4, 2) := by decide +kernel
theorem d_Mo_longest_74 : decode c_Mo_longest 74 = .ok (.goto 4, 3) := by decide +kernel
theorem d_Mo_longest_77 : decode c_Mo_longest 77 = .ok (.iload_n 3, 1) := by decide +kernel
theorem d_Mo_longest_78 : decode c_Mo_longest 78 = .ok (.istore_n 3, 1) := by decide +kernel
theorem d_Mo_longest_79 : decode c_Mo_longest 79 = .ok (.iinc 4 1, 3) := by decide +kernel
theorem d_Mo_longest_82 : decode c_Mo_longest 82 = .ok (.goto (-34), 3) := by decide +kernel
theorem d_Mo_longest_85 : decode c_Mo_longest 85 = .ok (.iload_n 3, 1) := by decide +kernel
theorem d_Mo_longest_86 : decode c_Mo_longest 86 = .ok (.ireturn, 1) := by decide +kernel
theorem d_Mo_pieces_0 : decode c_Mo_pieces 0 = .ok (.aload_n 0, 1) := by decide +kernel
theorem d_Mo_pieces_1 : decode c_Mo_pieces 1 = .ok (.iconst 0, 1) := by decide +kernel
theorem d_Mo_pieces_2 : decode c_Mo_pieces 2 = .ok (.putfield 71, 3) := by decide +kernel
theorem d_Mo_pieces_5 : decode c_Mo_pieces 5 = .ok (.iload_n 1, 1) := by decide +kernel
theorem d_Mo_pieces_6 : decode c_Mo_pieces 6 = .ok (.iconst 0, 1) := by decide +kernel
theorem d_Mo_pieces_7 : decode c_Mo_pieces 7 = .ok (.aload_n 0, 1) := by decide +kernel
theorem d_Mo_pieces_8 : decode c_Mo_pieces 8 = .ok (.getfield 120, 3) := by decide +kernel
theorem d_Mo_pieces_11 : decode c_Mo_pieces 11 = .ok (.iconst 1, 1) := by decide +kernel
theorem d_Mo_pieces_12 : decode c_Mo_pieces 12 = .ok (.isub, 1) := by decide +kernel
theorem d_Mo_pieces_13 : decode c_Mo_pieces 13 = .ok (.invokestatic 74, 3) := by decide +kernel
theorem d_Mo_pieces_16 : decode c_Mo_pieces 16 = .ok (.ifCond .ne 9, 3) := by decide +kernel
theorem d_Mo_pieces_19 : decode c_Mo_pieces 19 = .ok (.aload_n 0, 1) := by decide +kernel
theorem d_Mo_pieces_20 : decode c_Mo_pieces 20 = .ok (.iconst 1, 1) := by decide +kernel
theorem d_Mo_pieces_21 : decode c_Mo_pieces 21 = .ok (.invokevirtual 78, 3) := by decide +kernel
theorem d_Mo_pieces_24 : decode c_Mo_pieces 24 = .ok (.ireturn, 1) := by decide +kernel
theorem d_Mo_pieces_25 : decode c_Mo_pieces 25 = .ok (.iconst 0, 1) := by decide +kernel
theorem d_Mo_pieces_26 : decode c_Mo_pieces 26 = .ok (.istore_n 2, 1) := by decide +kernel
theorem d_Mo_pieces_27 : decode c_Mo_pieces 27 = .ok (.iconst 0, 1) := by decide +kernel
theorem d_Mo_pieces_28 : decode c_Mo_pieces 28 = .ok (.istore_n 3, 1) := by decide +kernel
theorem d_Mo_pieces_29 : decode c_Mo_pieces 29 = .ok (.iload_n 3, 1) := by decide +kernel
theorem d_Mo_pieces_30 : decode c_Mo_pieces 30 = .ok (.aload_n 0, 1) := by decide +kernel
theorem d_Mo_pieces_31 : decode c_Mo_pieces 31 = .ok (.getfield 185, 3) := by decide +kernel
theorem d_Mo_pieces_34 : decode c_Mo_pieces 34 = .ok (.if_icmp .gt 41, 3) := by decide +kernel
theorem d_Mo_pieces_37 : decode c_Mo_pieces 37 = .ok (.iload_n 3, 1) := by decide +kernel
theorem d_Mo_pieces_38 : decode c_Mo_pieces 38 = .ok (.istore 4, 2) := by decide +kernel
theorem d_Mo_pieces_40 : decode c_Mo_pieces 40 = .ok (.iload 4, 2) := by decide +kernel
theorem d_Mo_pieces_42 : decode c_Mo_pieces 42 = .ok (.aload_n 0, 1) := by decide +kernel
theorem d_Mo_pieces_43 : decode c_Mo_pieces 43 = .ok (.getfield 185, 3) := by decide +kernel
theorem d_Mo_pieces_46 : decode c_Mo_pieces 46 = .ok (.if_icmp .gt 23, 3) := by decide +kernel
theorem d_Mo_pieces_49 : decode c_Mo_pieces 49 = .ok (.iload_n 2, 1) := by decide +kernel
theorem d_Mo_pieces_50 : decode c_Mo_pieces 50 = .ok (.aload_n 0, 1) := by decide +kernel
theorem d_Mo_pieces_51 : decode c_Mo_pieces 51 = .ok (.iload_n 1, 1) := by decide +kernel
theorem d_Mo_pieces_52 : decode c_Mo_pieces 52 = .ok (.iload_n 3, 1) := by decide +kernel
theorem d_Mo_pieces_53 : decode c_Mo_pieces 53 = .ok (.invokevirtual 204, 3) := by decide +kernel
theorem d_Mo_pieces_56 : decode c_Mo_pieces 56 = .ok (.iload 4, 2) := by decide +kernel
theorem d_Mo_pieces_58 : decode c_Mo_pieces 58 = .ok (.ishr, 1) := by decide +kernel
theorem d_Mo_pieces_59 : decode c_Mo_pieces 59 = .ok (.iconst 1, 1) := by decide +kernel
theorem d_Mo_pieces_60 : decode c_Mo_pieces 60 = .ok (.iand, 1) := by decide +kernel
theorem d_Mo_pieces_61 : decode c_Mo_pieces 61 = .ok (.iadd, 1) := by decide +kernel
theorem d_Mo_pieces_62 : decode c_Mo_pieces 62 = .ok (.istore_n 2, 1) := by decide +kernel
theorem d_Mo_pieces_63 : decode c_Mo_pieces 63 = .ok (.iinc 4 1, 3) := by decide +kernel
theorem d_Mo_pieces_66 : decode c_Mo_pieces 66 = .ok (.goto (-26), 3) := by decide +kernel
theorem d_Mo_pieces_69 : decode c_Mo_pieces 69 = .ok (.iinc 3 1, 3) := by decide +kernel
theorem d_Mo_pieces_72 : decode c_Mo_pieces 72 = .ok (.goto (-43), 3) := by decide +kernel
theorem d_Mo_pieces_75 : decode c_Mo_pieces 75 = .ok (.iload_n 2, 1) := by decide +kernel
theorem d_Mo_pieces_76 : decode c_Mo_pieces 76 = .ok (.ireturn, 1) := by decide +kernel
theorem d_Mo_here_0 : decode c_Mo_here 0 = .ok (.aload_n 0, 1) := by decide +kernel
theorem d_Mo_here_1 : decode c_Mo_here 1 = .ok (.getfield 87, 3) := by decide +kernel
theorem d_Mo_here_4 : decode c_Mo_here 4 = .ok (.aload_n 0, 1) := by decide +kernel
theorem d_Mo_here_5 : decode c_Mo_here 5 = .ok (.getfield 84, 3) := by decide +kernel
theorem d_Mo_here_8 : decode c_Mo_here 8 = .ok (.if_icmp .ge 15, 3) := by decide +kernel
theorem d_Mo_here_11 : decode c_Mo_here 11 = .ok (.aload_n 0, 1) := by decide +kernel
theorem d_Mo_here_12 : decode c_Mo_here 12 = .ok (.getfield 7, 3) := by decide +kernel
theorem d_Mo_here_15 : decode c_Mo_here 15 = .ok (.aload_n 0, 1) := by decide +kernel
theorem d_Mo_here_16 : decode c_Mo_here 16 = .ok (.getfield 87, 3) := by decide +kernel
theorem d_Mo_here_19 : decode c_Mo_here 19 = .ok (.iaload, 1) := by decide +kernel
theorem d_Mo_here_20 : decode c_Mo_here 20 = .ok (.goto 4, 3) := by decide +kernel
theorem d_Mo_here_23 : decode c_Mo_here 23 = .ok (.iconst (-1), 1) := by decide +kernel
theorem d_Mo_here_24 : decode c_Mo_here 24 = .ok (.ireturn, 1) := by decide +kernel
theorem d_Mo_letter_0 : decode c_Mo_letter 0 = .ok (.iload_n 0, 1) := by decide +kernel
theorem d_Mo_letter_1 : decode c_Mo_letter 1 = .ok (.bipush 97, 2) := by decide +kernel
theorem d_Mo_letter_3 : decode c_Mo_letter 3 = .ok (.bipush 122, 2) := by decide +kernel
theorem d_Mo_letter_5 : decode c_Mo_letter 5 = .ok (.invokestatic 74, 3) := by decide +kernel
theorem d_Mo_letter_8 : decode c_Mo_letter 8 = .ok (.ifCond .ne 14, 3) := by decide +kernel
theorem d_Mo_letter_11 : decode c_Mo_letter 11 = .ok (.iload_n 0, 1) := by decide +kernel
theorem d_Mo_letter_12 : decode c_Mo_letter 12 = .ok (.bipush 65, 2) := by decide +kernel
theorem d_Mo_letter_14 : decode c_Mo_letter 14 = .ok (.bipush 90, 2) := by decide +kernel
theorem d_Mo_letter_16 : decode c_Mo_letter 16 = .ok (.invokestatic 74, 3) := by decide +kernel
theorem d_Mo_letter_19 : decode c_Mo_letter 19 = .ok (.ifCond .eq 7, 3) := by decide +kernel
theorem d_Mo_letter_22 : decode c_Mo_letter 22 = .ok (.iconst 1, 1) := by decide +kernel
theorem d_Mo_letter_23 : decode c_Mo_letter 23 = .ok (.goto 4, 3) := by decide +kernel
theorem d_Mo_letter_26 : decode c_Mo_letter 26 = .ok (.iconst 0, 1) := by decide +kernel
theorem d_Mo_letter_27 : decode c_Mo_letter 27 = .ok (.ireturn, 1) := by decide +kernel
theorem d_Mo_wrong_0 : decode c_Mo_wrong 0 = .ok (.aload_n 0, 1) := by decide +kernel
theorem d_Mo_wrong_1 : decode c_Mo_wrong 1 = .ok (.getfield 90, 3) := by decide +kernel
theorem d_Mo_wrong_4 : decode c_Mo_wrong 4 = .ok (.ifCond .ne 13, 3) := by decide +kernel
theorem d_Mo_wrong_7 : decode c_Mo_wrong 7 = .ok (.aload_n 0, 1) := by decide +kernel
theorem d_Mo_wrong_8 : decode c_Mo_wrong 8 = .ok (.iload_n 1, 1) := by decide +kernel
theorem d_Mo_wrong_9 : decode c_Mo_wrong 9 = .ok (.putfield 90, 3) := by decide +kernel
theorem d_Mo_wrong_12 : decode c_Mo_wrong 12 = .ok (.aload_n 0, 1) := by decide +kernel
theorem d_Mo_wrong_13 : decode c_Mo_wrong 13 = .ok (.iload_n 2, 1) := by decide +kernel
theorem d_Mo_wrong_14 : decode c_Mo_wrong 14 = .ok (.putfield 13, 3) := by decide +kernel
theorem d_Mo_wrong_17 : decode c_Mo_wrong 17 = .ok (.return_, 1) := by decide +kernel
theorem d_Mo_line_0 : decode c_Mo_line 0 = .ok (.iload_n 1, 1) := by decide +kernel
theorem d_Mo_line_1 : decode c_Mo_line 1 = .ok (.istore_n 2, 1) := by decide +kernel
theorem d_Mo_line_2 : decode c_Mo_line 2 = .ok (.iload_n 2, 1) := by decide +kernel
theorem d_Mo_line_3 : decode c_Mo_line 3 = .ok (.aload_n 0, 1) := by decide +kernel
theorem d_Mo_line_4 : decode c_Mo_line 4 = .ok (.getfield 84, 3) := by decide +kernel
theorem d_Mo_line_7 : decode c_Mo_line 7 = .ok (.if_icmp .ge 52, 3) := by decide +kernel
theorem d_Mo_line_10 : decode c_Mo_line 10 = .ok (.aload_n 0, 1) := by decide +kernel
theorem d_Mo_line_11 : decode c_Mo_line 11 = .ok (.iload_n 2, 1) := by decide +kernel
theorem d_Mo_line_12 : decode c_Mo_line 12 = .ok (.invokevirtual 93, 3) := by decide +kernel
theorem d_Mo_line_15 : decode c_Mo_line 15 = .ok (.istore_n 3, 1) := by decide +kernel
theorem d_Mo_line_16 : decode c_Mo_line 16 = .ok (.iload_n 3, 1) := by decide +kernel
theorem d_Mo_line_17 : decode c_Mo_line 17 = .ok (.aload_n 0, 1) := by decide +kernel
theorem d_Mo_line_18 : decode c_Mo_line 18 = .ok (.getfield 84, 3) := by decide +kernel
theorem d_Mo_line_21 : decode c_Mo_line 21 = .ok (.if_icmp .ge 16, 3) := by decide +kernel
theorem d_Mo_line_24 : decode c_Mo_line 24 = .ok (.aload_n 0, 1) := by decide +kernel
theorem d_Mo_line_25 : decode c_Mo_line 25 = .ok (.getfield 7, 3) := by decide +kernel
theorem d_Mo_line_28 : decode c_Mo_line 28 = .ok (.iload_n 3, 1) := by decide +kernel
theorem d_Mo_line_29 : decode c_Mo_line 29 = .ok (.iaload, 1) := by decide +kernel
theorem d_Mo_line_30 : decode c_Mo_line 30 = .ok (.bipush 10, 2) := by decide +kernel
theorem d_Mo_line_32 : decode c_Mo_line 32 = .ok (.if_icmp .eq 5, 3) := by decide +kernel
theorem d_Mo_line_35 : decode c_Mo_line 35 = .ok (.iload_n 2, 1) := by decide +kernel
theorem d_Mo_line_36 : decode c_Mo_line 36 = .ok (.ireturn, 1) := by decide +kernel
theorem d_Mo_line_37 : decode c_Mo_line 37 = .ok (.iload_n 3, 1) := by decide +kernel
theorem d_Mo_line_38 : decode c_Mo_line 38 = .ok (.aload_n 0, 1) := by decide +kernel
theorem d_Mo_line_39 : decode c_Mo_line 39 = .ok (.getfield 84, 3) := by decide +kernel
theorem d_Mo_line_42 : decode c_Mo_line 42 = .ok (.if_icmp .ge 9, 3) := by decide +kernel
theorem d_Mo_line_45 : decode c_Mo_line 45 = .ok (.iload_n 3, 1) := by decide +kernel
theorem d_Mo_line_46 : decode c_Mo_line 46 = .ok (.iconst 1, 1) := by decide +kernel
theorem d_Mo_line_47 : decode c_Mo_line 47 = .ok (.iadd, 1) := by decide +kernel
theorem d_Mo_line_48 : decode c_Mo_line 48 = .ok (.goto 7, 3) := by decide +kernel
theorem d_Mo_line_51 : decode c_Mo_line 51 = .ok (.aload_n 0, 1) := by decide +kernel
theorem d_Mo_line_52 : decode c_Mo_line 52 = .ok (.getfield 84, 3) := by decide +kernel
theorem d_Mo_line_55 : decode c_Mo_line 55 = .ok (.istore_n 2, 1) := by decide +kernel
theorem d_Mo_line_56 : decode c_Mo_line 56 = .ok (.goto (-54), 3) := by decide +kernel
theorem d_Mo_line_59 : decode c_Mo_line 59 = .ok (.aload_n 0, 1) := by decide +kernel
theorem d_Mo_line_60 : decode c_Mo_line 60 = .ok (.getfield 84, 3) := by decide +kernel
theorem d_Mo_line_63 : decode c_Mo_line 63 = .ok (.ireturn, 1) := by decide +kernel
theorem d_Mo_read_0 : decode c_Mo_read 0 = .ok (.aload_n 0, 1) := by decide +kernel
theorem d_Mo_read_1 : decode c_Mo_read 1 = .ok (.iconst 0, 1) := by decide +kernel
theorem d_Mo_read_2 : decode c_Mo_read 2 = .ok (.putfield 71, 3) := by decide +kernel
theorem d_Mo_read_5 : decode c_Mo_read 5 = .ok (.aload_n 0, 1) := by decide +kernel
theorem d_Mo_read_6 : decode c_Mo_read 6 = .ok (.iconst 0, 1) := by decide +kernel
theorem d_Mo_read_7 : decode c_Mo_read 7 = .ok (.putfield 90, 3) := by decide +kernel
theorem d_Mo_read_10 : decode c_Mo_read 10 = .ok (.aload_n 0, 1) := by decide +kernel
theorem d_Mo_read_11 : decode c_Mo_read 11 = .ok (.iconst (-1), 1) := by decide +kernel
theorem d_Mo_read_12 : decode c_Mo_read 12 = .ok (.putfield 13, 3) := by decide +kernel
theorem d_Mo_read_15 : decode c_Mo_read 15 = .ok (.aload_n 0, 1) := by decide +kernel
theorem d_Mo_read_16 : decode c_Mo_read 16 = .ok (.iconst 0, 1) := by decide +kernel
theorem d_Mo_read_17 : decode c_Mo_read 17 = .ok (.putfield 120, 3) := by decide +kernel
theorem d_Mo_read_20 : decode c_Mo_read 20 = .ok (.aload_n 0, 1) := by decide +kernel
theorem d_Mo_read_21 : decode c_Mo_read 21 = .ok (.iconst 0, 1) := by decide +kernel
theorem d_Mo_read_22 : decode c_Mo_read 22 = .ok (.putfield 110, 3) := by decide +kernel
theorem d_Mo_read_25 : decode c_Mo_read 25 = .ok (.aload_n 0, 1) := by decide +kernel
theorem d_Mo_read_26 : decode c_Mo_read 26 = .ok (.iconst 0, 1) := by decide +kernel
theorem d_Mo_read_27 : decode c_Mo_read 27 = .ok (.putfield 165, 3) := by decide +kernel
theorem d_Mo_read_30 : decode c_Mo_read 30 = .ok (.aload_n 0, 1) := by decide +kernel
theorem d_Mo_read_31 : decode c_Mo_read 31 = .ok (.iconst 1, 1) := by decide +kernel
theorem d_Mo_read_32 : decode c_Mo_read 32 = .ok (.putfield 64, 3) := by decide +kernel
theorem d_Mo_read_35 : decode c_Mo_read 35 = .ok (.aload_n 0, 1) := by decide +kernel
theorem d_Mo_read_36 : decode c_Mo_read 36 = .ok (.iconst 0, 1) := by decide +kernel
theorem d_Mo_read_37 : decode c_Mo_read 37 = .ok (.putfield 142, 3) := by decide +kernel
theorem d_Mo_read_40 : decode c_Mo_read 40 = .ok (.aload_n 0, 1) := by decide +kernel
theorem d_Mo_read_41 : decode c_Mo_read 41 = .ok (.aload_n 0, 1) := by decide +kernel
theorem d_Mo_read_42 : decode c_Mo_read 42 = .ok (.iconst 0, 1) := by decide +kernel
theorem d_Mo_read_43 : decode c_Mo_read 43 = .ok (.invokevirtual 100, 3) := by decide +kernel
theorem d_Mo_read_46 : decode c_Mo_read 46 = .ok (.putfield 87, 3) := by decide +kernel
theorem d_Mo_read_49 : decode c_Mo_read 49 = .ok (.iconst 1, 1) := by decide +kernel
theorem d_Mo_read_50 : decode c_Mo_read 50 = .ok (.istore_n 1, 1) := by decide +kernel
theorem d_Mo_read_51 : decode c_Mo_read 51 = .ok (.iload_n 1, 1) := by decide +kernel
theorem d_Mo_read_52 : decode c_Mo_read 52 = .ok (.ifCond .eq 98, 3) := by decide +kernel
theorem d_Mo_read_55 : decode c_Mo_read 55 = .ok (.aload_n 0, 1) := by decide +kernel
theorem d_Mo_read_56 : decode c_Mo_read 56 = .ok (.getfield 90, 3) := by decide +kernel
theorem d_Mo_read_59 : decode c_Mo_read 59 = .ok (.ifCond .ne 91, 3) := by decide +kernel
theorem d_Mo_read_62 : decode c_Mo_read 62 = .ok (.aload_n 0, 1) := by decide +kernel
theorem d_Mo_read_63 : decode c_Mo_read 63 = .ok (.invokevirtual 96, 3) := by decide +kernel
theorem d_Mo_read_66 : decode c_Mo_read 66 = .ok (.invokestatic 103, 3) := by decide +kernel
theorem d_Mo_read_69 : decode c_Mo_read 69 = .ok (.ifCond .eq 10, 3) := by decide +kernel
theorem d_Mo_read_72 : decode c_Mo_read 72 = .ok (.aload_n 0, 1) := by decide +kernel
theorem d_Mo_read_73 : decode c_Mo_read 73 = .ok (.invokevirtual 180, 3) := by decide +kernel
theorem d_Mo_read_76 : decode c_Mo_read 76 = .ok (.goto 12, 3) := by decide +kernel
theorem d_Mo_read_79 : decode c_Mo_read 79 = .ok (.aload_n 0, 1) := by decide +kernel
theorem d_Mo_read_80 : decode c_Mo_read 80 = .ok (.iconst 1, 1) := by decide +kernel
theorem d_Mo_read_81 : decode c_Mo_read 81 = .ok (.aload_n 0, 1) := by decide +kernel
theorem d_Mo_read_82 : decode c_Mo_read 82 = .ok (.getfield 87, 3) := by decide +kernel
theorem d_Mo_read_85 : decode c_Mo_read 85 = .ok (.invokevirtual 113, 3) := by decide +kernel
theorem d_Mo_read_88 : decode c_Mo_read 88 = .ok (.aload_n 0, 1) := by decide +kernel
theorem d_Mo_read_89 : decode c_Mo_read 89 = .ok (.getfield 90, 3) := by decide +kernel
theorem d_Mo_read_92 : decode c_Mo_read 92 = .ok (.ifCond .ne 35, 3) := by decide +kernel
theorem d_Mo_read_95 : decode c_Mo_read 95 = .ok (.aload_n 0, 1) := by decide +kernel
theorem d_Mo_read_96 : decode c_Mo_read 96 = .ok (.getfield 87, 3) := by decide +kernel
theorem d_Mo_read_99 : decode c_Mo_read 99 = .ok (.aload_n 0, 1) := by decide +kernel
theorem d_Mo_read_100 : decode c_Mo_read 100 = .ok (.getfield 84, 3) := by decide +kernel
theorem d_Mo_read_103 : decode c_Mo_read 103 = .ok (.if_icmp .ge 24, 3) := by decide +kernel
theorem d_Mo_read_106 : decode c_Mo_read 106 = .ok (.aload_n 0, 1) := by decide +kernel
theorem d_Mo_read_107 : decode c_Mo_read 107 = .ok (.aload_n 0, 1) := by decide +kernel
theorem d_Mo_read_108 : decode c_Mo_read 108 = .ok (.getfield 87, 3) := by decide +kernel
theorem d_Mo_read_111 : decode c_Mo_read 111 = .ok (.iconst 1, 1) := by decide +kernel
theorem d_Mo_read_112 : decode c_Mo_read 112 = .ok (.iadd, 1) := by decide +kernel
theorem d_Mo_read_113 : decode c_Mo_read 113 = .ok (.invokevirtual 100, 3) := by decide +kernel
theorem d_Mo_read_116 : decode c_Mo_read 116 = .ok (.aload_n 0, 1) := by decide +kernel
theorem d_Mo_read_117 : decode c_Mo_read 117 = .ok (.getfield 84, 3) := by decide +kernel
theorem d_Mo_read_120 : decode c_Mo_read 120 = .ok (.if_icmp .ge 7, 3) := by decide +kernel
theorem d_Mo_read_123 : decode c_Mo_read 123 = .ok (.iconst 1, 1) := by decide +kernel
theorem d_Mo_read_124 : decode c_Mo_read 124 = .ok (.goto 4, 3) := by decide +kernel
theorem d_Mo_read_127 : decode c_Mo_read 127 = .ok (.iconst 0, 1) := by decide +kernel
theorem d_Mo_read_128 : decode c_Mo_read 128 = .ok (.istore_n 1, 1) := by decide +kernel
theorem d_Mo_read_129 : decode c_Mo_read 129 = .ok (.iload_n 1, 1) := by decide +kernel
theorem d_Mo_read_130 : decode c_Mo_read 130 = .ok (.ifCond .eq (-79), 3) := by decide +kernel
theorem d_Mo_read_133 : decode c_Mo_read 133 = .ok (.aload_n 0, 1) := by decide +kernel
theorem d_Mo_read_134 : decode c_Mo_read 134 = .ok (.aload_n 0, 1) := by decide +kernel
theorem d_Mo_read_135 : decode c_Mo_read 135 = .ok (.aload_n 0, 1) := by decide +kernel
theorem d_Mo_read_136 : decode c_Mo_read 136 = .ok (.getfield 87, 3) := by decide +kernel
theorem d_Mo_read_139 : decode c_Mo_read 139 = .ok (.iconst 1, 1) := by decide +kernel
theorem d_Mo_read_140 : decode c_Mo_read 140 = .ok (.iadd, 1) := by decide +kernel
theorem d_Mo_read_141 : decode c_Mo_read 141 = .ok (.invokevirtual 100, 3) := by decide +kernel
theorem d_Mo_read_144 : decode c_Mo_read 144 = .ok (.putfield 87, 3) := by decide +kernel
theorem d_Mo_read_147 : decode c_Mo_read 147 = .ok (.goto (-96), 3) := by decide +kernel
theorem d_Mo_read_150 : decode c_Mo_read 150 = .ok (.aload_n 0, 1) := by decide +kernel
theorem d_Mo_read_151 : decode c_Mo_read 151 = .ok (.getfield 90, 3) := by decide +kernel
theorem d_Mo_read_154 : decode c_Mo_read 154 = .ok (.ifCond .ne 8, 3) := by decide +kernel
theorem d_Mo_read_157 : decode c_Mo_read 157 = .ok (.aload_n 0, 1) := by decide +kernel
theorem d_Mo_read_158 : decode c_Mo_read 158 = .ok (.getfield 120, 3) := by decide +kernel
theorem d_Mo_read_161 : decode c_Mo_read 161 = .ok (.ireturn, 1) := by decide +kernel
theorem d_Mo_read_162 : decode c_Mo_read 162 = .ok (.aload_n 0, 1) := by decide +kernel
theorem d_Mo_read_163 : decode c_Mo_read 163 = .ok (.iconst 0, 1) := by decide +kernel
theorem d_Mo_read_164 : decode c_Mo_read 164 = .ok (.putfield 120, 3) := by decide +kernel
theorem d_Mo_read_167 : decode c_Mo_read 167 = .ok (.aload_n 0, 1) := by decide +kernel
theorem d_Mo_read_168 : decode c_Mo_read 168 = .ok (.iconst 0, 1) := by decide +kernel
theorem d_Mo_read_169 : decode c_Mo_read 169 = .ok (.putfield 110, 3) := by decide +kernel
theorem d_Mo_read_172 : decode c_Mo_read 172 = .ok (.aload_n 0, 1) := by decide +kernel
theorem d_Mo_read_173 : decode c_Mo_read 173 = .ok (.aload_n 0, 1) := by decide +kernel
theorem d_Mo_read_174 : decode c_Mo_read 174 = .ok (.getfield 90, 3) := by decide +kernel
theorem d_Mo_read_177 : decode c_Mo_read 177 = .ok (.invokevirtual 78, 3) := by decide +kernel
theorem d_Mo_read_180 : decode c_Mo_read 180 = .ok (.ireturn, 1) := by decide +kernel
theorem and255 (w : Int64) : ∃ m : Nat, m < 256 ∧ w &&& 255 = lN m := by
  refine ⟨(w &&& 255).toBitVec.toNat, ?_, ?_⟩
  · show (w.toBitVec &&& (255 : Int64).toBitVec).toNat < 256
    rw [BitVec.toNat_and]
    exact Nat.lt_of_le_of_lt Nat.and_le_right (by decide)
  · apply Int64.toBitVec_inj.mp
    show _ = BitVec.ofNat 64 _
    rw [BitVec.ofNat_toNat, BitVec.setWidth_eq]
theorem sh_l : ∀ k, k < 8 → ((8 * nI k).toInt64 &&& 63).toBitVec.smod 64 = BitVec.ofNat 64 (8 * k) := by decide +kernel
theorem sh_u : ∀ k, k < 8 → ((8 * nI k).toInt64.toUInt64 &&& Int64.toUInt64 63).toBitVec % 64 = BitVec.ofNat 64 (8 * k) := by decide +kernel
theorem b255 : ∀ j, j < 64 → (255#64).getLsbD j = decide (j < 8) := by decide +kernel
theorem bm_by (x : Int64) {i : Nat} (h : i < 8) : bm8 x (nI i) = by8 x (nI i) := by
  unfold bm8 by8
  congr 1
  apply Int64.toBitVec_inj.mp
  show (x >>> ((8 * nI i).toInt64 &&& 63)).toBitVec &&& 255#64 = (x.toUInt64 >>> ((8 * nI i).toInt64.toUInt64 &&& Int64.toUInt64 63)).toBitVec &&& 255#64
  rw [Int64.toBitVec_shiftRight, UInt64.toBitVec_shiftRight, sh_l i h, sh_u i h]
  apply BitVec.eq_of_getLsbD_eq
  intro j hj
  rw [BitVec.getLsbD_and, BitVec.getLsbD_and, b255 j hj]
  by_cases h8 : j < 8
  · have e1 : (BitVec.ofNat 64 (8 * i)).toNat = 8 * i := by rw [BitVec.toNat_ofNat]; omega
    rw [BitVec.sshiftRight', e1, BitVec.getLsbD_sshiftRight, BitVec.ushiftRight_eq', BitVec.getLsbD_ushiftRight, e1, if_pos (by omega)]
    have : x.toUInt64.toBitVec = x.toBitVec := rfl
    simp [this, h8, hj]
  · simp [h8]
theorem no_rule (i : Int32) {j : Int32} (hR : j = 0) : i < 0 ∨ j - 1 < i := by
  subst hR
  by_cases q : i < 0
  · exact Or.inl q
  · refine Or.inr ?_
    rw [Int32.lt_iff_toInt_lt] at q ⊢
    have e0 : (0 : Int32).toInt = 0 := by decide
    have e1 : (0 - 1 : Int32).toInt = -1 := by decide
    omega
theorem cmp128 (w : Int64) : (¬ lg_cmp (w &&& 255) 128 < 0 → okI (w &&& 255).toInt32 = false) ∧ (lg_cmp (w &&& 255) 128 < 0 → okI (w &&& 255).toInt32 = true) := by
  obtain ⟨m, hm, e⟩ := and255 w
  rw [e, lN_i]
  have h1 : (128 : Int64) = lN 128 := rfl
  have h2 : okI (nI m) = decide (m ≤ 127) := by
    unfold okI
    rw [show (127 : Int32) = nI 127 from rfl]
    exact decide_eq_decide.mpr (nI_leI (by omega) (by decide))
  rw [h2, h1]
  unfold lg_cmp
  by_cases q : 128 < m
  · rw [if_pos ((lN_lt (by decide) (by omega)).mpr q)]
    exact ⟨fun _ => by simp; omega, fun z => absurd z (by decide)⟩
  · rw [if_neg (fun z => q ((lN_lt (by decide) (by omega)).mp z))]
    by_cases q2 : m = 128
    · subst q2
      rw [if_pos rfl]
      exact ⟨fun _ => by decide, fun z => absurd z (by decide)⟩
    · rw [if_neg (fun z => q2 ((lN_eq (by omega) (by decide)).mp z))]
      exact ⟨fun z => absurd (by decide) z, fun _ => by simp; omega⟩
set_option maxHeartbeats 4000000 in
set_option maxRecDepth 100000 in
theorem m_Mo_give (l : Launch) {D : va_G} {cy : Nat → ClassId} {sz n : Nat} {ad : Nat → Nat} {mem : Nat → va_E} {J : Nat → Int32} {Z : Nat} {f : Nat → Int32} {x : Int64} {k : Int32} (hn : 242 ≤ n) (h4 : mem 224 = moC ad J) (hJ : J 24 = nI Z) (hZ : Z ≤ 24) (h5 : mem 240 = .inl (cy 1, 24, .inl f)) : MI l D cy sz n ad y_Mo_give c_Mo_give 6 (some .int) ({ frames := 1, cells := 0, slots := 0, locals := 30 } : Room) mem [.ref (ad 224), .long (x), .int (k)] (fun r mem' => ((k < 1 ∨ 8 < k) ∧ r = 0 ∧ ∃ J' : Nat → Int32, mem' = va_up mem 224 (moC ad J') ∧ J1 J J' 1) ∨ ∃ M : Nat, k = nI M ∧ 1 ≤ M ∧ M ≤ 8 ∧ ((allB (fun i => okI (bm8 x (nI i))) M = false ∧ r = 0 ∧ ∃ J' : Nat → Int32, mem' = va_up mem 224 (moC ad J') ∧ J1 J J' 1) ∨ (allB (fun i => okI (bm8 x (nI i))) M = true ∧ 24 < Z + M ∧ r = 0 ∧ ∃ J' : Nat → Int32, mem' = va_up mem 224 (moC ad J') ∧ J1 J J' 2) ∨ (allB (fun i => okI (bm8 x (nI i))) M = true ∧ Z + M ≤ 24 ∧ r = nI (Z + M) ∧ ∃ J' : Nat → Int32, mem' = va_up (va_up mem 240 (.inl (cy 1, 24, .inl (apM f Z x M)))) 224 (moC ad J') ∧ J' 0 = 0 ∧ J' 24 = nI (Z + M) ∧ J' 26 = 1 ∧ ∀ i, i ≠ 0 → i ≠ 24 → i ≠ 26 → J' i = J i))) := by
  refine Met.ofW (cc := c_Mo_give) (maxL := 6) (ret := (some .int)) (by decide) rfl ?_
  intro p e s m args below meth c s₁ B hml hv
  obtain ⟨rfl, E, hP, hD⟩ := hv
  have hx := B.exec
  have hb := B.bytes
  have hr := B.returns
  have hlocks := B.notSynchronized
  have Bx : MB p s m [.ref (ad 224), .long (x), .int (k)].toArray c c_Mo_give "AbnfChartModel" D cy := ⟨hx, hb, tb_all (atoms_spec B.pre) E.2.1, findClass_of_methodNamed B.named, E.1⟩
  have hS : va_S (Az sz) s.heap s.heap [] := va_S.rf
  have hl := lv_entry ([.ref (ad 224), .long (x), .int (k)]) (n := 6) (Nat.le_of_ble_eq_true rfl)
  rw [lg_entry_eq]
  generalize (lg_sl ([.ref (ad 224), .long (x), .int (k)]) ++ List.replicate (6 - (lg_sl ([.ref (ad 224), .long (x), .int (k)])).length) Slot.unset).toArray = ls at hl ⊢
  have hl : lv_has ls 6 [(0, .ref (ad 224)), (1, .long (x)), (3, .int (k))] := hl
  refine lv_aload_n Bx.1 Bx.2.1 d_Mo_give_0 rfl (lv_at hl 0 rfl) ?_
  refine lv_iconst (v := 0) Bx.1 Bx.2.1 d_Mo_give_1 (by decide) ?_
  refine f_put Bx hP hD hS (by omega) h4 rfl inMo tyMo okMo nmMo 0 (by decide) kw_656 rfl rfl rfl rfl (Nat.le_of_ble_eq_true rfl) d_Mo_give_2 (fun H locs hP hS => ?_)
  obtain ⟨mem1, e_mem1⟩ : ∃ z, z = va_up mem (224) (.inr (7, [.int (0), .int (J 1), .ref (ad 225), .int (J 3), .int (J 4), .ref (ad 226), .ref (ad 227), .int (J 7), .ref (ad 228), .ref (ad 229), .ref (ad 230), .ref (ad 231), .ref (ad 232), .ref (ad 233), .int (J 14), .ref (ad 234), .int (J 16), .int (J 17), .int (J 18), .ref (ad 235), .ref (ad 236), .ref (ad 237), .ref (ad 238), .ref (ad 239), .int (J 24), .ref (ad 240), .int (J 26), .ref (ad 241), .int (J 28)])) := ⟨_, rfl⟩
  have hP : va_P D vcl (fw n ad mem1) H := by rw [e_mem1]; exact hP
  have hD : va_D (Az sz) (fw n ad mem1) := fw_D hD
  have h_mem1 : mem1 (224) = .inr (7, [.int (0), .int (J 1), .ref (ad 225), .int (J 3), .int (J 4), .ref (ad 226), .ref (ad 227), .int (J 7), .ref (ad 228), .ref (ad 229), .ref (ad 230), .ref (ad 231), .ref (ad 232), .ref (ad 233), .int (J 14), .ref (ad 234), .int (J 16), .int (J 17), .int (J 18), .ref (ad 235), .ref (ad 236), .ref (ad 237), .ref (ad 238), .ref (ad 239), .int (J 24), .ref (ad 240), .int (J 26), .ref (ad 241), .int (J 28)]) := by rw [e_mem1, va_up_self]
  have hJ0 : mem1 224 = moC ad (va_up J 0 0) := h_mem1
  have h51 : mem1 240 = .inl (cy 1, 24, .inl f) := by rw [e_mem1, va_up_ne _ _ (by decide)]; exact h5
  refine lv_iload_n Bx.1 Bx.2.1 d_Mo_give_5 rfl (lv_at hl 2 rfl) ?_
  refine lv_iconst (v := 1) Bx.1 Bx.2.1 d_Mo_give_6 (by decide) ?_
  refine lv_bipush (v := 8) Bx.1 Bx.2.1 d_Mo_give_7 (by decide) ?_
  refine f_callSi (na := 3) (As := [.int (k), .int (1), .int (8)]) (rest := []) Bx hml E.2.1 (m_Mo_within l k 1 8) kw_754 kw_755 kw_8 kw_756 (by decide +kernel) ⟨rfl, rfl⟩ ⟨Nat.le_of_ble_eq_true rfl, Nat.le_of_ble_eq_true rfl⟩ rfl hl.1 (Nat.le_of_ble_eq_true rfl) d_Mo_give_9 ⟨Nat.le_of_ble_eq_true rfl, Nat.le_of_ble_eq_true rfl⟩ (fun r2 hr1 => ?_)
  subst hr1
  refine lv_if_ne Bx.1 Bx.2.1 d_Mo_give_12 rfl (fun h => ?_) (fun h => ?_)
  · obtain ⟨N, hN1, hN8, rfl⟩ := bc_ok h
    refine lv_iconst (v := 1) Bx.1 Bx.2.1 d_Mo_give_21 (by decide) ?_
    refine lv_istore (lv' := [(4, .int (1)), (0, .ref (ad 224)), (1, .long (x)), (3, .int (nI N))]) Bx.1 Bx.2.1 d_Mo_give_22 hl (by decide) rfl (fun ls hl => ?_)
    refine lv_iconst (v := 0) Bx.1 Bx.2.1 d_Mo_give_24 (by decide) ?_
    refine lv_istore (lv' := [(5, .int (0)), (4, .int (1)), (0, .ref (ad 224)), (1, .long (x)), (3, .int (nI N))]) Bx.1 Bx.2.1 d_Mo_give_25 hl (by decide) rfl (fun ls hl => ?_)
    have loop2 : ∀ (d k : Nat) (ls : Array Slot) (H : Heap) (locs : List Loc), k + d = N → allB (fun i => okI (bm8 x (nI i))) N = true → Z + N ≤ 24 → lv_has ls 6 [(5, .int (nI k)), (0, .ref (ad 224)), (1, .long (x)), (3, .int (nI N))] → va_P D vcl (fw n ad (va_up mem1 240 (.inl (cy 1, 24, .inl (apM f Z x k))))) H → va_S (Az sz) s.heap H locs → W p l e (headSpec (Cond.code y_Mo_give c_Mo_give 6 (some .int) :: tg) ({ frames := 1, cells := 0, slots := 0, locals := 30 } : Room)).room s m [.ref (ad 224), .long (x), .int (nI N)].toArray below meth c H locs 0 0 (MQ below (va_Qi (fun r mem' => (((nI N) < 1 ∨ 8 < (nI N)) ∧ r = 0 ∧ ∃ J' : Nat → Int32, mem' = va_up mem 224 (moC ad J') ∧ J1 J J' 1) ∨ ∃ M : Nat, (nI N) = nI M ∧ 1 ≤ M ∧ M ≤ 8 ∧ ((allB (fun i => okI (bm8 x (nI i))) M = false ∧ r = 0 ∧ ∃ J' : Nat → Int32, mem' = va_up mem 224 (moC ad J') ∧ J1 J J' 1) ∨ (allB (fun i => okI (bm8 x (nI i))) M = true ∧ 24 < Z + M ∧ r = 0 ∧ ∃ J' : Nat → Int32, mem' = va_up mem 224 (moC ad J') ∧ J1 J J' 2) ∨ (allB (fun i => okI (bm8 x (nI i))) M = true ∧ Z + M ≤ 24 ∧ r = nI (Z + M) ∧ ∃ J' : Nat → Int32, mem' = va_up (va_up mem 240 (.inl (cy 1, 24, .inl (apM f Z x M)))) 224 (moC ad J') ∧ J' 0 = 0 ∧ J' 24 = nI (Z + M) ∧ J' 26 = 1 ∧ ∀ i, i ≠ 0 → i ≠ 24 → i ≠ 26 → J' i = J i))) (PP D n ad) (Az sz)) [.ref (ad 224), .long (x), .int (nI N)].toArray s 0 0 (Az sz)) (F0 m 100 ls []) := by
      intro d
      induction d with
      | zero =>
        intro k ls H locs hk ha hroom hl hP hS
        obtain rfl : k = N := by omega
        have hD : va_D (Az sz) (fw n ad (va_up mem1 240 (.inl (cy 1, 24, .inl (apM f Z x k))))) := fw_D hD
        have h4k : (va_up mem1 240 (.inl (cy 1, 24, .inl (apM f Z x k)))) 224 = moC ad (va_up J 0 0) := by rw [va_up_ne _ _ (by decide)]; exact hJ0
        have h5k : (va_up mem1 240 (.inl (cy 1, 24, .inl (apM f Z x k)))) 240 = .inl (cy 1, 24, .inl (apM f Z x k)) := va_up_self _ _ _
        refine lv_iload Bx.1 Bx.2.1 d_Mo_give_100 (lv_at hl 0 rfl) ?_
        refine lv_iload_n Bx.1 Bx.2.1 d_Mo_give_102 rfl (lv_at hl 3 rfl) ?_
        refine lv_icmp_ge Bx.1 Bx.2.1 d_Mo_give_103 rfl (fun h => ?_) (fun h => ?_)
        · refine lv_aload_n Bx.1 Bx.2.1 d_Mo_give_136 rfl (lv_at hl 1 rfl) ?_
          refine lv_dup Bx.1 Bx.2.1 d_Mo_give_137 rfl ?_
          refine f_get Bx hP (by omega) h4k rfl inMo 24 (by decide) kw_680 rfl rfl d_Mo_give_138 ?_
          refine lv_iload_n Bx.1 Bx.2.1 d_Mo_give_141 rfl (lv_at hl 3 rfl) ?_
          refine lv_iadd Bx.1 Bx.2.1 d_Mo_give_142 ?_
          rw [show (va_up J 0 0) 24 = nI Z from hJ, nI_add]
          refine f_put Bx hP hD hS (by omega) h4k rfl inMo tyMo okMo nmMo 24 (by decide) kw_680 rfl rfl rfl rfl (Nat.le_of_ble_eq_true rfl) d_Mo_give_143 (fun H locs hP hS => ?_)
          obtain ⟨mem3, e_mem3⟩ : ∃ z, z = va_up (va_up mem1 240 (.inl (cy 1, 24, .inl (apM f Z x k)))) (224) (.inr (7, [.int (0), .int (J 1), .ref (ad 225), .int (J 3), .int (J 4), .ref (ad 226), .ref (ad 227), .int (J 7), .ref (ad 228), .ref (ad 229), .ref (ad 230), .ref (ad 231), .ref (ad 232), .ref (ad 233), .int (J 14), .ref (ad 234), .int (J 16), .int (J 17), .int (J 18), .ref (ad 235), .ref (ad 236), .ref (ad 237), .ref (ad 238), .ref (ad 239), .int (nI (Z + k)), .ref (ad 240), .int (J 26), .ref (ad 241), .int (J 28)])) := ⟨_, rfl⟩
          have hP : va_P D vcl (fw n ad mem3) H := by rw [e_mem3]; exact hP
          have hD : va_D (Az sz) (fw n ad mem3) := fw_D hD
          have h_mem3 : mem3 (224) = .inr (7, [.int (0), .int (J 1), .ref (ad 225), .int (J 3), .int (J 4), .ref (ad 226), .ref (ad 227), .int (J 7), .ref (ad 228), .ref (ad 229), .ref (ad 230), .ref (ad 231), .ref (ad 232), .ref (ad 233), .int (J 14), .ref (ad 234), .int (J 16), .int (J 17), .int (J 18), .ref (ad 235), .ref (ad 236), .ref (ad 237), .ref (ad 238), .ref (ad 239), .int (nI (Z + k)), .ref (ad 240), .int (J 26), .ref (ad 241), .int (J 28)]) := by rw [e_mem3, va_up_self]
          refine lv_aload_n Bx.1 Bx.2.1 d_Mo_give_146 rfl (lv_at hl 1 rfl) ?_
          refine lv_iconst (v := 1) Bx.1 Bx.2.1 d_Mo_give_147 (by decide) ?_
          refine f_put Bx hP hD hS (by omega) h_mem3 rfl inMo tyMo okMo nmMo 26 (by decide) kw_682 rfl rfl rfl rfl (Nat.le_of_ble_eq_true rfl) d_Mo_give_148 (fun H locs hP hS => ?_)
          obtain ⟨mem4, e_mem4⟩ : ∃ z, z = va_up mem3 (224) (.inr (7, [.int (0), .int (J 1), .ref (ad 225), .int (J 3), .int (J 4), .ref (ad 226), .ref (ad 227), .int (J 7), .ref (ad 228), .ref (ad 229), .ref (ad 230), .ref (ad 231), .ref (ad 232), .ref (ad 233), .int (J 14), .ref (ad 234), .int (J 16), .int (J 17), .int (J 18), .ref (ad 235), .ref (ad 236), .ref (ad 237), .ref (ad 238), .ref (ad 239), .int (nI (Z + k)), .ref (ad 240), .int (1), .ref (ad 241), .int (J 28)])) := ⟨_, rfl⟩
          have hP : va_P D vcl (fw n ad mem4) H := by rw [e_mem4]; exact hP
          have hD : va_D (Az sz) (fw n ad mem4) := fw_D hD
          have h_mem4 : mem4 (224) = .inr (7, [.int (0), .int (J 1), .ref (ad 225), .int (J 3), .int (J 4), .ref (ad 226), .ref (ad 227), .int (J 7), .ref (ad 228), .ref (ad 229), .ref (ad 230), .ref (ad 231), .ref (ad 232), .ref (ad 233), .int (J 14), .ref (ad 234), .int (J 16), .int (J 17), .int (J 18), .ref (ad 235), .ref (ad 236), .ref (ad 237), .ref (ad 238), .ref (ad 239), .int (nI (Z + k)), .ref (ad 240), .int (1), .ref (ad 241), .int (J 28)]) := by rw [e_mem4, va_up_self]
          refine lv_aload_n Bx.1 Bx.2.1 d_Mo_give_151 rfl (lv_at hl 1 rfl) ?_
          refine f_get Bx hP (by omega) h_mem4 rfl inMo 24 (by decide) kw_680 rfl rfl d_Mo_give_152 ?_
          exact W.iret (v := nI (Z + k)) hx hb hr (fun t ht hW => ⟨⟨nI (Z + k), mem4, rfl, Or.inr ⟨k, rfl, hN1, hN8, Or.inr (Or.inr ⟨ha, hroom, rfl, ⟨(va_up (va_up (va_up J 0 0) 24 (nI (Z + k))) 26 1), by rw [e_mem4, e_mem3, up_up, e_mem1, up_sw mem _ _ (show (224 : Nat) ≠ 240 by decide), up_up]; rfl, rfl, rfl, rfl, fun i a b c => by rw [va_up_ne _ _ c, va_up_ne _ _ b, va_up_ne _ _ a]⟩⟩)⟩, by show va_P _ _ _ t.heap; rw [ht]; exact hP⟩, hS.F ht⟩) hS.2.2 d_Mo_give_155
        · exact absurd (nI_le (Nat.le_refl k) (by omega)) h
      | succ d ih =>
        intro k ls H locs hk ha hroom hl hP hS
        have hD : va_D (Az sz) (fw n ad (va_up mem1 240 (.inl (cy 1, 24, .inl (apM f Z x k))))) := fw_D hD
        have h4k : (va_up mem1 240 (.inl (cy 1, 24, .inl (apM f Z x k)))) 224 = moC ad (va_up J 0 0) := by rw [va_up_ne _ _ (by decide)]; exact hJ0
        have h5k : (va_up mem1 240 (.inl (cy 1, 24, .inl (apM f Z x k)))) 240 = .inl (cy 1, 24, .inl (apM f Z x k)) := va_up_self _ _ _
        refine lv_iload Bx.1 Bx.2.1 d_Mo_give_100 (lv_at hl 0 rfl) ?_
        refine lv_iload_n Bx.1 Bx.2.1 d_Mo_give_102 rfl (lv_at hl 3 rfl) ?_
        refine lv_icmp_ge Bx.1 Bx.2.1 d_Mo_give_103 rfl (fun h => ?_) (fun h => ?_)
        · exact absurd h (nI_ge (by omega) (by omega))
        · refine lv_aload_n Bx.1 Bx.2.1 d_Mo_give_106 rfl (lv_at hl 1 rfl) ?_
          refine f_get Bx hP (by omega) h4k rfl inMo 25 (by decide) kw_681 rfl rfl d_Mo_give_107 ?_
          refine lv_aload_n Bx.1 Bx.2.1 d_Mo_give_110 rfl (lv_at hl 1 rfl) ?_
          refine f_get Bx hP (by omega) h4k rfl inMo 24 (by decide) kw_680 rfl rfl d_Mo_give_111 ?_
          refine lv_iload Bx.1 Bx.2.1 d_Mo_give_114 (lv_at hl 0 rfl) ?_
          refine lv_iadd Bx.1 Bx.2.1 d_Mo_give_116 ?_
          rw [show (va_up J 0 0) 24 = nI Z from hJ, nI_add]
          refine lv_lload_n Bx.1 Bx.2.1 d_Mo_give_117 rfl (lv_at hl 2 rfl) ?_
          refine lv_bipush (v := 8) Bx.1 Bx.2.1 d_Mo_give_118 (by decide) ?_
          refine lv_iload Bx.1 Bx.2.1 d_Mo_give_120 (lv_at hl 0 rfl) ?_
          refine lv_imul Bx.1 Bx.2.1 d_Mo_give_122 ?_
          refine lv_lshr Bx.1 Bx.2.1 d_Mo_give_123 rfl ?_
          refine lv_ldc2 Bx.1 Bx.2.1 Bx.2.2.2.1 (Bx.2.2.1 _ (tb_g kw_761 rfl)) d_Mo_give_124 ?_
          refine lv_land Bx.1 Bx.2.1 d_Mo_give_127 ?_
          refine lv_l2i Bx.1 Bx.2.1 d_Mo_give_128 rfl ?_
          refine f_iast (x := bm8 x (nI k)) (i := nI (Z + k)) Bx hP hD hS (by omega) h5k (vp_in_nI (by omega) (by decide)) d_Mo_give_129 (fun H locs hP hS => ?_)
          rw [nI_clamp (by omega), apM_s, up_up] at hP
          refine lv_iinc (lv' := [(5, .int ((nI k + (1)))), (0, .ref (ad 224)), (1, .long (x)), (3, .int (nI N))]) Bx.1 Bx.2.1 d_Mo_give_130 hl (k := 0) rfl rfl (by decide) rfl (fun ls hl => ?_)
          refine lv_goto Bx.1 Bx.2.1 d_Mo_give_133 rfl ?_
          exact ih (k + 1) ls H locs (by omega) ha hroom (by rw [nI_succ]; exact (lv_sub hl [0, 1, 2, 3] rfl)) hP hS
    have tail : ∀ ls : Array Slot, lv_has ls 6 [(4, .int (if allB (fun i => okI (bm8 x (nI i))) N then 1 else 0)), (0, .ref (ad 224)), (1, .long (x)), (3, .int (nI N))] → W p l e (headSpec (Cond.code y_Mo_give c_Mo_give 6 (some .int) :: tg) ({ frames := 1, cells := 0, slots := 0, locals := 30 } : Room)).room s m [.ref (ad 224), .long (x), .int (nI N)].toArray below meth c H locs 0 0 (MQ below (va_Qi (fun r mem' => (((nI N) < 1 ∨ 8 < (nI N)) ∧ r = 0 ∧ ∃ J' : Nat → Int32, mem' = va_up mem 224 (moC ad J') ∧ J1 J J' 1) ∨ ∃ M : Nat, (nI N) = nI M ∧ 1 ≤ M ∧ M ≤ 8 ∧ ((allB (fun i => okI (bm8 x (nI i))) M = false ∧ r = 0 ∧ ∃ J' : Nat → Int32, mem' = va_up mem 224 (moC ad J') ∧ J1 J J' 1) ∨ (allB (fun i => okI (bm8 x (nI i))) M = true ∧ 24 < Z + M ∧ r = 0 ∧ ∃ J' : Nat → Int32, mem' = va_up mem 224 (moC ad J') ∧ J1 J J' 2) ∨ (allB (fun i => okI (bm8 x (nI i))) M = true ∧ Z + M ≤ 24 ∧ r = nI (Z + M) ∧ ∃ J' : Nat → Int32, mem' = va_up (va_up mem 240 (.inl (cy 1, 24, .inl (apM f Z x M)))) 224 (moC ad J') ∧ J' 0 = 0 ∧ J' 24 = nI (Z + M) ∧ J' 26 = 1 ∧ ∀ i, i ≠ 0 → i ≠ 24 → i ≠ 26 → J' i = J i))) (PP D n ad) (Az sz)) [.ref (ad 224), .long (x), .int (nI N)].toArray s 0 0 (Az sz)) (F0 m 69 ls []) := by
      intro ls hl
      refine lv_iload Bx.1 Bx.2.1 d_Mo_give_69 (lv_at hl 0 rfl) ?_
      refine lv_if_ne Bx.1 Bx.2.1 d_Mo_give_71 rfl (fun h2 => ?_) (fun h2 => ?_)
      · have ha := if01n h2
        refine lv_aload_n Bx.1 Bx.2.1 d_Mo_give_80 rfl (lv_at hl 1 rfl) ?_
        refine f_get Bx hP (by omega) hJ0 rfl inMo 24 (by decide) kw_680 rfl rfl d_Mo_give_81 ?_
        refine lv_iload_n Bx.1 Bx.2.1 d_Mo_give_84 rfl (lv_at hl 3 rfl) ?_
        refine lv_iadd Bx.1 Bx.2.1 d_Mo_give_85 ?_
        refine lv_bipush (v := 24) Bx.1 Bx.2.1 d_Mo_give_86 (by decide) ?_
        refine lv_icmp_le Bx.1 Bx.2.1 d_Mo_give_88 rfl (fun h3 => ?_) (fun h3 => ?_)
        · have hroom : Z + N ≤ 24 := by rw [show (va_up J 0 0) 24 = nI Z from hJ, nI_add, show (24 : Int32) = nI 24 from rfl, nI_leI (by omega) (by decide)] at h3; exact h3
          refine lv_iconst (v := 0) Bx.1 Bx.2.1 d_Mo_give_97 (by decide) ?_
          refine lv_istore (lv' := [(5, .int (0)), (4, .int (if allB (fun i => okI (bm8 x (nI i))) N then 1 else 0)), (0, .ref (ad 224)), (1, .long (x)), (3, .int (nI N))]) Bx.1 Bx.2.1 d_Mo_give_98 hl (by decide) rfl (fun ls hl => ?_)
          exact loop2 N 0 ls _ _ (by omega) ha hroom (lv_sub hl [0, 2, 3, 4] rfl) (by rw [apM_0, up_id mem1 h51]; exact hP) hS
        · have hroom : 24 < Z + N := by rw [show (va_up J 0 0) 24 = nI Z from hJ, nI_add, show (24 : Int32) = nI 24 from rfl, nI_leI (by omega) (by decide)] at h3; omega
          refine lv_aload_n Bx.1 Bx.2.1 d_Mo_give_91 rfl (lv_at hl 1 rfl) ?_
          refine lv_iconst (v := 2) Bx.1 Bx.2.1 d_Mo_give_92 (by decide) ?_
          refine f_callVi (na := 1) (As := [.int (2)]) (rest := []) Bx hml E hP hD hS (by omega) hJ0 rfl (m_Mo_fail l hn hJ0) kw_757 kw_759 sel_Mo_fail kw_8 kw_760 (by decide +kernel) ⟨rfl, rfl⟩ ⟨Nat.le_of_ble_eq_true rfl, Nat.le_of_ble_eq_true rfl⟩ rfl hl.1 (Nat.le_of_ble_eq_true rfl) d_Mo_give_93 ⟨Nat.le_of_ble_eq_true rfl, Nat.le_of_ble_eq_true rfl⟩ (fun r5 mem6 H locs hq hP hS => ?_)
          have hD : va_D (Az sz) (fw n ad mem6) := fw_D hD
          obtain ⟨hq0, hq⟩ := hq
          subst hq0
          exact W.iret (v := 0) hx hb hr (fun t ht hW => ⟨⟨0, mem6, rfl, Or.inr ⟨N, rfl, hN1, hN8, Or.inr (Or.inl ⟨ha, hroom, rfl, ⟨va_up (va_up J 0 0) 0 2, by rw [hq, e_mem1, up_up], va_up_self _ _ _, fun i hi => by rw [va_up_ne _ _ hi, va_up_ne _ _ hi]⟩⟩)⟩, by show va_P _ _ _ t.heap; rw [ht]; exact hP⟩, hS.F ht⟩) hS.2.2 d_Mo_give_96
      · refine lv_aload_n Bx.1 Bx.2.1 d_Mo_give_74 rfl (lv_at hl 1 rfl) ?_
        refine lv_iconst (v := 1) Bx.1 Bx.2.1 d_Mo_give_75 (by decide) ?_
        refine f_callVi (na := 1) (As := [.int (1)]) (rest := []) Bx hml E hP hD hS (by omega) hJ0 rfl (m_Mo_fail l hn hJ0) kw_757 kw_759 sel_Mo_fail kw_8 kw_760 (by decide +kernel) ⟨rfl, rfl⟩ ⟨Nat.le_of_ble_eq_true rfl, Nat.le_of_ble_eq_true rfl⟩ rfl hl.1 (Nat.le_of_ble_eq_true rfl) d_Mo_give_76 ⟨Nat.le_of_ble_eq_true rfl, Nat.le_of_ble_eq_true rfl⟩ (fun r7 mem8 H locs hq hP hS => ?_)
        have hD : va_D (Az sz) (fw n ad mem8) := fw_D hD
        obtain ⟨hq0, hq⟩ := hq
        subst hq0
        exact W.iret (v := 0) hx hb hr (fun t ht hW => ⟨⟨0, mem8, rfl, Or.inr ⟨N, rfl, hN1, hN8, Or.inl ⟨if01z h2, rfl, ⟨va_up (va_up J 0 0) 0 1, by rw [hq, e_mem1, up_up], va_up_self _ _ _, fun i hi => by rw [va_up_ne _ _ hi, va_up_ne _ _ hi]⟩⟩⟩, by show va_P _ _ _ t.heap; rw [ht]; exact hP⟩, hS.F ht⟩) hS.2.2 d_Mo_give_79
    have loop1 : ∀ (d k : Nat) (ls : Array Slot), k + d = N → lv_has ls 6 [(5, .int (nI k)), (4, .int (if allB (fun i => okI (bm8 x (nI i))) k then 1 else 0)), (0, .ref (ad 224)), (1, .long (x)), (3, .int (nI N))] → W p l e (headSpec (Cond.code y_Mo_give c_Mo_give 6 (some .int) :: tg) ({ frames := 1, cells := 0, slots := 0, locals := 30 } : Room)).room s m [.ref (ad 224), .long (x), .int (nI N)].toArray below meth c H locs 0 0 (MQ below (va_Qi (fun r mem' => (((nI N) < 1 ∨ 8 < (nI N)) ∧ r = 0 ∧ ∃ J' : Nat → Int32, mem' = va_up mem 224 (moC ad J') ∧ J1 J J' 1) ∨ ∃ M : Nat, (nI N) = nI M ∧ 1 ≤ M ∧ M ≤ 8 ∧ ((allB (fun i => okI (bm8 x (nI i))) M = false ∧ r = 0 ∧ ∃ J' : Nat → Int32, mem' = va_up mem 224 (moC ad J') ∧ J1 J J' 1) ∨ (allB (fun i => okI (bm8 x (nI i))) M = true ∧ 24 < Z + M ∧ r = 0 ∧ ∃ J' : Nat → Int32, mem' = va_up mem 224 (moC ad J') ∧ J1 J J' 2) ∨ (allB (fun i => okI (bm8 x (nI i))) M = true ∧ Z + M ≤ 24 ∧ r = nI (Z + M) ∧ ∃ J' : Nat → Int32, mem' = va_up (va_up mem 240 (.inl (cy 1, 24, .inl (apM f Z x M)))) 224 (moC ad J') ∧ J' 0 = 0 ∧ J' 24 = nI (Z + M) ∧ J' 26 = 1 ∧ ∀ i, i ≠ 0 → i ≠ 24 → i ≠ 26 → J' i = J i))) (PP D n ad) (Az sz)) [.ref (ad 224), .long (x), .int (nI N)].toArray s 0 0 (Az sz)) (F0 m 27 ls []) := by
      intro d
      induction d with
      | zero =>
        intro k ls hk hl
        obtain rfl : k = N := by omega
        refine lv_iload Bx.1 Bx.2.1 d_Mo_give_27 (lv_at hl 0 rfl) ?_
        refine lv_iload_n Bx.1 Bx.2.1 d_Mo_give_29 rfl (lv_at hl 4 rfl) ?_
        refine lv_icmp_ge Bx.1 Bx.2.1 d_Mo_give_30 rfl (fun h => ?_) (fun h => ?_)
        · exact tail ls (lv_sub hl [1, 2, 3, 4] rfl)
        · exact absurd (nI_le (Nat.le_refl k) (by omega)) h
      | succ d ih =>
        intro k ls hk hl
        refine lv_iload Bx.1 Bx.2.1 d_Mo_give_27 (lv_at hl 0 rfl) ?_
        refine lv_iload_n Bx.1 Bx.2.1 d_Mo_give_29 rfl (lv_at hl 4 rfl) ?_
        refine lv_icmp_ge Bx.1 Bx.2.1 d_Mo_give_30 rfl (fun h => ?_) (fun h => ?_)
        · exact absurd h (nI_ge (by omega) (by omega))
        · refine lv_iload Bx.1 Bx.2.1 d_Mo_give_33 (lv_at hl 1 rfl) ?_
          refine lv_if_eq Bx.1 Bx.2.1 d_Mo_give_35 rfl (fun h1 => ?_) (fun h1 => ?_)
          · have hg := if01z h1
            refine lv_iconst (v := 0) Bx.1 Bx.2.1 d_Mo_give_60 (by decide) ?_
            refine lv_istore (lv' := [(4, .int (0)), (5, .int (nI k)), (0, .ref (ad 224)), (1, .long (x)), (3, .int (nI N))]) Bx.1 Bx.2.1 d_Mo_give_61 hl (by decide) rfl (fun ls hl => ?_)
            refine lv_iinc (lv' := [(5, .int ((nI k + (1)))), (4, .int (0)), (0, .ref (ad 224)), (1, .long (x)), (3, .int (nI N))]) Bx.1 Bx.2.1 d_Mo_give_63 hl (k := 1) rfl rfl (by decide) rfl (fun ls hl => ?_)
            refine lv_goto Bx.1 Bx.2.1 d_Mo_give_66 rfl ?_
            exact ih (k + 1) ls (by omega) (by rw [nI_succ, show allB (fun i => okI (bm8 x (nI i))) (k + 1) = false from by simp only [allB, hg, Bool.false_and]]; exact (lv_sub hl [0, 1, 2, 3, 4] rfl))
          · have hg := if01n h1
            refine lv_lload_n Bx.1 Bx.2.1 d_Mo_give_38 rfl (lv_at hl 3 rfl) ?_
            refine lv_bipush (v := 8) Bx.1 Bx.2.1 d_Mo_give_39 (by decide) ?_
            refine lv_iload Bx.1 Bx.2.1 d_Mo_give_41 (lv_at hl 0 rfl) ?_
            refine lv_imul Bx.1 Bx.2.1 d_Mo_give_43 ?_
            refine lv_lshr Bx.1 Bx.2.1 d_Mo_give_44 rfl ?_
            refine lv_ldc2 Bx.1 Bx.2.1 Bx.2.2.2.1 (Bx.2.2.1 _ (tb_g kw_761 rfl)) d_Mo_give_45 ?_
            refine lv_land Bx.1 Bx.2.1 d_Mo_give_48 ?_
            refine lv_ldc2 Bx.1 Bx.2.1 Bx.2.2.2.1 (Bx.2.2.1 _ (tb_g kw_869 rfl)) d_Mo_give_49 ?_
            refine W.lcmp Bx.1 Bx.2.1 d_Mo_give_52 ?_
            refine lv_if_ge Bx.1 Bx.2.1 d_Mo_give_53 rfl (fun h2 => ?_) (fun h2 => ?_)
            · have hc3 : okI (bm8 x (nI k)) = false := (cmp128 _).1 (Int32.not_lt.mpr h2)
              refine lv_iconst (v := 0) Bx.1 Bx.2.1 d_Mo_give_60 (by decide) ?_
              refine lv_istore (lv' := [(4, .int (0)), (5, .int (nI k)), (0, .ref (ad 224)), (1, .long (x)), (3, .int (nI N))]) Bx.1 Bx.2.1 d_Mo_give_61 hl (by decide) rfl (fun ls hl => ?_)
              refine lv_iinc (lv' := [(5, .int ((nI k + (1)))), (4, .int (0)), (0, .ref (ad 224)), (1, .long (x)), (3, .int (nI N))]) Bx.1 Bx.2.1 d_Mo_give_63 hl (k := 1) rfl rfl (by decide) rfl (fun ls hl => ?_)
              refine lv_goto Bx.1 Bx.2.1 d_Mo_give_66 rfl ?_
              exact ih (k + 1) ls (by omega) (by rw [nI_succ, show allB (fun i => okI (bm8 x (nI i))) (k + 1) = false from by simp only [allB, hc3, Bool.and_false]]; exact (lv_sub hl [0, 1, 2, 3, 4] rfl))
            · have hc3 : okI (bm8 x (nI k)) = true := (cmp128 _).2 (Int32.not_le.mp h2)
              refine lv_iconst (v := 1) Bx.1 Bx.2.1 d_Mo_give_56 (by decide) ?_
              refine lv_goto Bx.1 Bx.2.1 d_Mo_give_57 rfl ?_
              refine lv_istore (lv' := [(4, .int (1)), (5, .int (nI k)), (0, .ref (ad 224)), (1, .long (x)), (3, .int (nI N))]) Bx.1 Bx.2.1 d_Mo_give_61 hl (by decide) rfl (fun ls hl => ?_)
              refine lv_iinc (lv' := [(5, .int ((nI k + (1)))), (4, .int (1)), (0, .ref (ad 224)), (1, .long (x)), (3, .int (nI N))]) Bx.1 Bx.2.1 d_Mo_give_63 hl (k := 1) rfl rfl (by decide) rfl (fun ls hl => ?_)
              refine lv_goto Bx.1 Bx.2.1 d_Mo_give_66 rfl ?_
              exact ih (k + 1) ls (by omega) (by rw [nI_succ, show allB (fun i => okI (bm8 x (nI i))) (k + 1) = true from allB_yes hg hc3]; exact (lv_sub hl [0, 1, 2, 3, 4] rfl))
    exact loop1 N 0 ls (by omega) (lv_sub hl [0, 1, 2, 3, 4] rfl)
  · refine lv_aload_n Bx.1 Bx.2.1 d_Mo_give_15 rfl (lv_at hl 0 rfl) ?_
    refine lv_iconst (v := 1) Bx.1 Bx.2.1 d_Mo_give_16 (by decide) ?_
    refine f_callVi (na := 1) (As := [.int (1)]) (rest := []) Bx hml E hP hD hS (by omega) h_mem1 rfl (m_Mo_fail l hn hJ0) kw_757 kw_759 sel_Mo_fail kw_8 kw_760 (by decide +kernel) ⟨rfl, rfl⟩ ⟨Nat.le_of_ble_eq_true rfl, Nat.le_of_ble_eq_true rfl⟩ rfl hl.1 (Nat.le_of_ble_eq_true rfl) d_Mo_give_17 ⟨Nat.le_of_ble_eq_true rfl, Nat.le_of_ble_eq_true rfl⟩ (fun r9 mem10 H locs hq hP hS => ?_)
    have hD : va_D (Az sz) (fw n ad mem10) := fw_D hD
    obtain ⟨hq0, hq⟩ := hq
    subst hq0
    exact W.iret (v := 0) hx hb hr (fun t ht hW => ⟨⟨0, mem10, rfl, Or.inl ⟨bc_no h, rfl, ⟨va_up (va_up J 0 0) 0 1, by rw [hq, e_mem1, up_up], va_up_self _ _ _, fun i hi => by rw [va_up_ne _ _ hi, va_up_ne _ _ hi]⟩⟩, by show va_P _ _ _ t.heap; rw [ht]; exact hP⟩, hS.F ht⟩) hS.2.2 d_Mo_give_20
set_option maxHeartbeats 4000000 in
set_option maxRecDepth 100000 in
theorem m_Mo_rule0 (l : Launch) {D : va_G} {cy : Nat → ClassId} {sz n : Nat} {ad : Nat → Nat} {mem : Nat → va_E} {J : Nat → Int32} {x : Int64} (hn : 242 ≤ n) (h4 : mem 224 = moC ad J) (hR : J 4 = 0) : MI l D cy sz n ad y_Mo_rule c_Mo_rule 4 (some .int) ({ frames := 1, cells := 0, slots := 0, locals := 30 } : Room) mem [.ref (ad 224), .long (x)] (fun r mem' => r = 0 ∧ ∃ J' : Nat → Int32, mem' = va_up mem 224 (moC ad J') ∧ J1 J J' 1) := by
  refine Met.ofW (cc := c_Mo_rule) (maxL := 4) (ret := (some .int)) (by decide) rfl ?_
  intro p e s m args below meth c s₁ B hml hv
  obtain ⟨rfl, E, hP, hD⟩ := hv
  have hx := B.exec
  have hb := B.bytes
  have hr := B.returns
  have hlocks := B.notSynchronized
  have Bx : MB p s m [.ref (ad 224), .long (x)].toArray c c_Mo_rule "AbnfChartModel" D cy := ⟨hx, hb, tb_all (atoms_spec B.pre) E.2.1, findClass_of_methodNamed B.named, E.1⟩
  have hS : va_S (Az sz) s.heap s.heap [] := va_S.rf
  have hl := lv_entry ([.ref (ad 224), .long (x)]) (n := 4) (Nat.le_of_ble_eq_true rfl)
  rw [lg_entry_eq]
  generalize (lg_sl ([.ref (ad 224), .long (x)]) ++ List.replicate (4 - (lg_sl ([.ref (ad 224), .long (x)])).length) Slot.unset).toArray = ls at hl ⊢
  have hl : lv_has ls 4 [(0, .ref (ad 224)), (1, .long (x))] := hl
  refine lv_aload_n Bx.1 Bx.2.1 d_Mo_rule_0 rfl (lv_at hl 0 rfl) ?_
  refine lv_iconst (v := 0) Bx.1 Bx.2.1 d_Mo_rule_1 (by decide) ?_
  refine f_put Bx hP hD hS (by omega) h4 rfl inMo tyMo okMo nmMo 0 (by decide) kw_656 rfl rfl rfl rfl (Nat.le_of_ble_eq_true rfl) d_Mo_rule_2 (fun H locs hP hS => ?_)
  obtain ⟨mem1, e_mem1⟩ : ∃ z, z = va_up mem (224) (.inr (7, [.int (0), .int (J 1), .ref (ad 225), .int (J 3), .int (J 4), .ref (ad 226), .ref (ad 227), .int (J 7), .ref (ad 228), .ref (ad 229), .ref (ad 230), .ref (ad 231), .ref (ad 232), .ref (ad 233), .int (J 14), .ref (ad 234), .int (J 16), .int (J 17), .int (J 18), .ref (ad 235), .ref (ad 236), .ref (ad 237), .ref (ad 238), .ref (ad 239), .int (J 24), .ref (ad 240), .int (J 26), .ref (ad 241), .int (J 28)])) := ⟨_, rfl⟩
  have hP : va_P D vcl (fw n ad mem1) H := by rw [e_mem1]; exact hP
  have hD : va_D (Az sz) (fw n ad mem1) := fw_D hD
  have h_mem1 : mem1 (224) = .inr (7, [.int (0), .int (J 1), .ref (ad 225), .int (J 3), .int (J 4), .ref (ad 226), .ref (ad 227), .int (J 7), .ref (ad 228), .ref (ad 229), .ref (ad 230), .ref (ad 231), .ref (ad 232), .ref (ad 233), .int (J 14), .ref (ad 234), .int (J 16), .int (J 17), .int (J 18), .ref (ad 235), .ref (ad 236), .ref (ad 237), .ref (ad 238), .ref (ad 239), .int (J 24), .ref (ad 240), .int (J 26), .ref (ad 241), .int (J 28)]) := by rw [e_mem1, va_up_self]
  have hJ0 : mem1 224 = moC ad (va_up J 0 0) := h_mem1
  refine lv_iconst (v := 0) Bx.1 Bx.2.1 d_Mo_rule_5 (by decide) ?_
  refine lv_istore_n (lv' := [(3, .int (0)), (0, .ref (ad 224)), (1, .long (x))]) Bx.1 Bx.2.1 d_Mo_rule_6 rfl hl (by decide) rfl (fun ls hl => ?_)
  refine lv_iload_n Bx.1 Bx.2.1 d_Mo_rule_7 rfl (lv_at hl 0 rfl) ?_
  refine lv_aload_n Bx.1 Bx.2.1 d_Mo_rule_8 rfl (lv_at hl 1 rfl) ?_
  refine f_get Bx hP (by omega) h_mem1 rfl inMo 4 (by decide) kw_660 rfl rfl d_Mo_rule_9 ?_
  refine lv_icmp_ge Bx.1 Bx.2.1 d_Mo_rule_12 rfl (fun h => ?_) (fun h => ?_)
  · refine lv_aload_n Bx.1 Bx.2.1 d_Mo_rule_34 rfl (lv_at hl 1 rfl) ?_
    refine lv_iconst (v := 1) Bx.1 Bx.2.1 d_Mo_rule_35 (by decide) ?_
    refine f_callVi (na := 1) (As := [.int (1)]) (rest := []) Bx hml E hP hD hS (by omega) h_mem1 rfl (m_Mo_fail l hn (J := (va_up J 0 0)) hJ0) kw_757 kw_759 sel_Mo_fail kw_8 kw_760 (by decide +kernel) ⟨rfl, rfl⟩ ⟨Nat.le_of_ble_eq_true rfl, Nat.le_of_ble_eq_true rfl⟩ rfl hl.1 (Nat.le_of_ble_eq_true rfl) d_Mo_rule_36 ⟨Nat.le_of_ble_eq_true rfl, Nat.le_of_ble_eq_true rfl⟩ (fun r2 mem3 H locs hq hP hS => ?_)
    have hD : va_D (Az sz) (fw n ad mem3) := fw_D hD
    obtain ⟨hq0, hq⟩ := hq
    subst hq0
    exact W.iret (v := 0) hx hb hr (fun t ht hW => ⟨⟨0, mem3, rfl, ⟨rfl, ⟨va_up (va_up J 0 0) 0 1, by rw [hq, e_mem1, up_up], va_up_self _ _ _, fun i hi => by rw [va_up_ne _ _ hi, va_up_ne _ _ hi]⟩⟩, by show va_P _ _ _ t.heap; rw [ht]; exact hP⟩, hS.F ht⟩) hS.2.2 d_Mo_rule_39
  · exact absurd (by rw [hR]; decide) h
set_option maxHeartbeats 4000000 in
set_option maxRecDepth 100000 in
theorem m_Mo_matches0 (l : Launch) {D : va_G} {cy : Nat → ClassId} {sz n : Nat} {ad : Nat → Nat} {mem : Nat → va_E} {J : Nat → Int32} {i1 i2 i3 : Int32} (hn : 242 ≤ n) (h4 : mem 224 = moC ad J) (hR : J 4 = 0) : MI l D cy sz n ad y_Mo_matches c_Mo_matches 4 (some .boolean) ({ frames := 1, cells := 0, slots := 0, locals := 30 } : Room) mem [.ref (ad 224), .int (i1), .int (i2), .int (i3)] (fun r mem' => r = 0 ∧ ∃ J' : Nat → Int32, mem' = va_up mem 224 (moC ad J') ∧ J1 J J' 1) := by
  refine Met.ofW (cc := c_Mo_matches) (maxL := 4) (ret := (some .boolean)) (by decide) rfl ?_
  intro p e s m args below meth c s₁ B hml hv
  obtain ⟨rfl, E, hP, hD⟩ := hv
  have hx := B.exec
  have hb := B.bytes
  have hr := B.returns
  have hlocks := B.notSynchronized
  have Bx : MB p s m [.ref (ad 224), .int (i1), .int (i2), .int (i3)].toArray c c_Mo_matches "AbnfChartModel" D cy := ⟨hx, hb, tb_all (atoms_spec B.pre) E.2.1, findClass_of_methodNamed B.named, E.1⟩
  have hS : va_S (Az sz) s.heap s.heap [] := va_S.rf
  have hl := lv_entry ([.ref (ad 224), .int (i1), .int (i2), .int (i3)]) (n := 4) (Nat.le_of_ble_eq_true rfl)
  rw [lg_entry_eq]
  generalize (lg_sl ([.ref (ad 224), .int (i1), .int (i2), .int (i3)]) ++ List.replicate (4 - (lg_sl ([.ref (ad 224), .int (i1), .int (i2), .int (i3)])).length) Slot.unset).toArray = ls at hl ⊢
  have hl : lv_has ls 4 [(0, .ref (ad 224)), (1, .int (i1)), (2, .int (i2)), (3, .int (i3))] := hl
  refine lv_aload_n Bx.1 Bx.2.1 d_Mo_matches_0 rfl (lv_at hl 0 rfl) ?_
  refine lv_iconst (v := 0) Bx.1 Bx.2.1 d_Mo_matches_1 (by decide) ?_
  refine f_put Bx hP hD hS (by omega) h4 rfl inMo tyMo okMo nmMo 0 (by decide) kw_656 rfl rfl rfl rfl (Nat.le_of_ble_eq_true rfl) d_Mo_matches_2 (fun H locs hP hS => ?_)
  obtain ⟨mem1, e_mem1⟩ : ∃ z, z = va_up mem (224) (.inr (7, [.int (0), .int (J 1), .ref (ad 225), .int (J 3), .int (J 4), .ref (ad 226), .ref (ad 227), .int (J 7), .ref (ad 228), .ref (ad 229), .ref (ad 230), .ref (ad 231), .ref (ad 232), .ref (ad 233), .int (J 14), .ref (ad 234), .int (J 16), .int (J 17), .int (J 18), .ref (ad 235), .ref (ad 236), .ref (ad 237), .ref (ad 238), .ref (ad 239), .int (J 24), .ref (ad 240), .int (J 26), .ref (ad 241), .int (J 28)])) := ⟨_, rfl⟩
  have hP : va_P D vcl (fw n ad mem1) H := by rw [e_mem1]; exact hP
  have hD : va_D (Az sz) (fw n ad mem1) := fw_D hD
  have h_mem1 : mem1 (224) = .inr (7, [.int (0), .int (J 1), .ref (ad 225), .int (J 3), .int (J 4), .ref (ad 226), .ref (ad 227), .int (J 7), .ref (ad 228), .ref (ad 229), .ref (ad 230), .ref (ad 231), .ref (ad 232), .ref (ad 233), .int (J 14), .ref (ad 234), .int (J 16), .int (J 17), .int (J 18), .ref (ad 235), .ref (ad 236), .ref (ad 237), .ref (ad 238), .ref (ad 239), .int (J 24), .ref (ad 240), .int (J 26), .ref (ad 241), .int (J 28)]) := by rw [e_mem1, va_up_self]
  have hJ0 : mem1 224 = moC ad (va_up J 0 0) := h_mem1
  refine lv_iload_n Bx.1 Bx.2.1 d_Mo_matches_5 rfl (lv_at hl 1 rfl) ?_
  refine lv_iconst (v := 0) Bx.1 Bx.2.1 d_Mo_matches_6 (by decide) ?_
  refine lv_aload_n Bx.1 Bx.2.1 d_Mo_matches_7 rfl (lv_at hl 0 rfl) ?_
  refine f_get Bx hP (by omega) h_mem1 rfl inMo 4 (by decide) kw_660 rfl rfl d_Mo_matches_8 ?_
  refine lv_iconst (v := 1) Bx.1 Bx.2.1 d_Mo_matches_11 (by decide) ?_
  refine lv_isub Bx.1 Bx.2.1 d_Mo_matches_12 ?_
  refine f_callSi (na := 3) (As := [.int (i1), .int (0), .int (J 4 - 1)]) (rest := []) Bx hml E.2.1 (m_Mo_within l i1 0 (J 4 - 1)) kw_754 kw_755 kw_8 kw_756 (by decide +kernel) ⟨rfl, rfl⟩ ⟨Nat.le_of_ble_eq_true rfl, Nat.le_of_ble_eq_true rfl⟩ rfl hl.1 (Nat.le_of_ble_eq_true rfl) d_Mo_matches_13 ⟨Nat.le_of_ble_eq_true rfl, Nat.le_of_ble_eq_true rfl⟩ (fun r2 hr1 => ?_)
  subst hr1
  refine lv_if_ne Bx.1 Bx.2.1 d_Mo_matches_16 rfl (fun h => ?_) (fun h => ?_)
  · exact absurd (if_pos (no_rule i1 hR)) h
  · refine lv_aload_n Bx.1 Bx.2.1 d_Mo_matches_19 rfl (lv_at hl 0 rfl) ?_
    refine lv_iconst (v := 1) Bx.1 Bx.2.1 d_Mo_matches_20 (by decide) ?_
    refine f_callVi (na := 1) (As := [.int (1)]) (rest := []) Bx hml E hP hD hS (by omega) h_mem1 rfl (m_Mo_fail l hn (J := (va_up J 0 0)) hJ0) kw_757 kw_759 sel_Mo_fail kw_8 kw_760 (by decide +kernel) ⟨rfl, rfl⟩ ⟨Nat.le_of_ble_eq_true rfl, Nat.le_of_ble_eq_true rfl⟩ rfl hl.1 (Nat.le_of_ble_eq_true rfl) d_Mo_matches_21 ⟨Nat.le_of_ble_eq_true rfl, Nat.le_of_ble_eq_true rfl⟩ (fun r3 mem4 H locs hq hP hS => ?_)
    have hD : va_D (Az sz) (fw n ad mem4) := fw_D hD
    obtain ⟨hq0, hq⟩ := hq
    subst hq0
    refine lv_if_le Bx.1 Bx.2.1 d_Mo_matches_24 rfl (fun h2 => ?_) (fun h2 => ?_)
    · refine lv_iconst (v := 0) Bx.1 Bx.2.1 d_Mo_matches_31 (by decide) ?_
      exact W.zret (v := 0) hx hb hr rfl (fun t ht hW => ⟨⟨0, mem4, rfl, ⟨rfl, ⟨va_up (va_up J 0 0) 0 1, by rw [hq, e_mem1, up_up], va_up_self _ _ _, fun i hi => by rw [va_up_ne _ _ hi, va_up_ne _ _ hi]⟩⟩, by show va_P _ _ _ t.heap; rw [ht]; exact hP⟩, hS.F ht⟩) hS.2.2 d_Mo_matches_32
    · exact absurd (by decide) h2
set_option maxHeartbeats 4000000 in
set_option maxRecDepth 100000 in
theorem m_Mo_longest0 (l : Launch) {D : va_G} {cy : Nat → ClassId} {sz n : Nat} {ad : Nat → Nat} {mem : Nat → va_E} {J : Nat → Int32} {i1 i2 : Int32} (hn : 242 ≤ n) (h4 : mem 224 = moC ad J) (hR : J 4 = 0) : MI l D cy sz n ad y_Mo_longest c_Mo_longest 5 (some .int) ({ frames := 1, cells := 0, slots := 0, locals := 30 } : Room) mem [.ref (ad 224), .int (i1), .int (i2)] (fun r mem' => r = 0 ∧ ∃ J' : Nat → Int32, mem' = va_up mem 224 (moC ad J') ∧ J1 J J' 1) := by
  refine Met.ofW (cc := c_Mo_longest) (maxL := 5) (ret := (some .int)) (by decide) rfl ?_
  intro p e s m args below meth c s₁ B hml hv
  obtain ⟨rfl, E, hP, hD⟩ := hv
  have hx := B.exec
  have hb := B.bytes
  have hr := B.returns
  have hlocks := B.notSynchronized
  have Bx : MB p s m [.ref (ad 224), .int (i1), .int (i2)].toArray c c_Mo_longest "AbnfChartModel" D cy := ⟨hx, hb, tb_all (atoms_spec B.pre) E.2.1, findClass_of_methodNamed B.named, E.1⟩
  have hS : va_S (Az sz) s.heap s.heap [] := va_S.rf
  have hl := lv_entry ([.ref (ad 224), .int (i1), .int (i2)]) (n := 5) (Nat.le_of_ble_eq_true rfl)
  rw [lg_entry_eq]
  generalize (lg_sl ([.ref (ad 224), .int (i1), .int (i2)]) ++ List.replicate (5 - (lg_sl ([.ref (ad 224), .int (i1), .int (i2)])).length) Slot.unset).toArray = ls at hl ⊢
  have hl : lv_has ls 5 [(0, .ref (ad 224)), (1, .int (i1)), (2, .int (i2))] := hl
  refine lv_aload_n Bx.1 Bx.2.1 d_Mo_longest_0 rfl (lv_at hl 0 rfl) ?_
  refine lv_iconst (v := 0) Bx.1 Bx.2.1 d_Mo_longest_1 (by decide) ?_
  refine f_put Bx hP hD hS (by omega) h4 rfl inMo tyMo okMo nmMo 0 (by decide) kw_656 rfl rfl rfl rfl (Nat.le_of_ble_eq_true rfl) d_Mo_longest_2 (fun H locs hP hS => ?_)
  obtain ⟨mem1, e_mem1⟩ : ∃ z, z = va_up mem (224) (.inr (7, [.int (0), .int (J 1), .ref (ad 225), .int (J 3), .int (J 4), .ref (ad 226), .ref (ad 227), .int (J 7), .ref (ad 228), .ref (ad 229), .ref (ad 230), .ref (ad 231), .ref (ad 232), .ref (ad 233), .int (J 14), .ref (ad 234), .int (J 16), .int (J 17), .int (J 18), .ref (ad 235), .ref (ad 236), .ref (ad 237), .ref (ad 238), .ref (ad 239), .int (J 24), .ref (ad 240), .int (J 26), .ref (ad 241), .int (J 28)])) := ⟨_, rfl⟩
  have hP : va_P D vcl (fw n ad mem1) H := by rw [e_mem1]; exact hP
  have hD : va_D (Az sz) (fw n ad mem1) := fw_D hD
  have h_mem1 : mem1 (224) = .inr (7, [.int (0), .int (J 1), .ref (ad 225), .int (J 3), .int (J 4), .ref (ad 226), .ref (ad 227), .int (J 7), .ref (ad 228), .ref (ad 229), .ref (ad 230), .ref (ad 231), .ref (ad 232), .ref (ad 233), .int (J 14), .ref (ad 234), .int (J 16), .int (J 17), .int (J 18), .ref (ad 235), .ref (ad 236), .ref (ad 237), .ref (ad 238), .ref (ad 239), .int (J 24), .ref (ad 240), .int (J 26), .ref (ad 241), .int (J 28)]) := by rw [e_mem1, va_up_self]
  have hJ0 : mem1 224 = moC ad (va_up J 0 0) := h_mem1
  refine lv_iload_n Bx.1 Bx.2.1 d_Mo_longest_5 rfl (lv_at hl 1 rfl) ?_
  refine lv_iconst (v := 0) Bx.1 Bx.2.1 d_Mo_longest_6 (by decide) ?_
  refine lv_aload_n Bx.1 Bx.2.1 d_Mo_longest_7 rfl (lv_at hl 0 rfl) ?_
  refine f_get Bx hP (by omega) h_mem1 rfl inMo 4 (by decide) kw_660 rfl rfl d_Mo_longest_8 ?_
  refine lv_iconst (v := 1) Bx.1 Bx.2.1 d_Mo_longest_11 (by decide) ?_
  refine lv_isub Bx.1 Bx.2.1 d_Mo_longest_12 ?_
  refine f_callSi (na := 3) (As := [.int (i1), .int (0), .int (J 4 - 1)]) (rest := []) Bx hml E.2.1 (m_Mo_within l i1 0 (J 4 - 1)) kw_754 kw_755 kw_8 kw_756 (by decide +kernel) ⟨rfl, rfl⟩ ⟨Nat.le_of_ble_eq_true rfl, Nat.le_of_ble_eq_true rfl⟩ rfl hl.1 (Nat.le_of_ble_eq_true rfl) d_Mo_longest_13 ⟨Nat.le_of_ble_eq_true rfl, Nat.le_of_ble_eq_true rfl⟩ (fun r2 hr1 => ?_)
  subst hr1
  refine lv_if_ne Bx.1 Bx.2.1 d_Mo_longest_16 rfl (fun h => ?_) (fun h => ?_)
  · exact absurd (if_pos (no_rule i1 hR)) h
  · refine lv_aload_n Bx.1 Bx.2.1 d_Mo_longest_19 rfl (lv_at hl 0 rfl) ?_
    refine lv_iconst (v := 1) Bx.1 Bx.2.1 d_Mo_longest_20 (by decide) ?_
    refine f_callVi (na := 1) (As := [.int (1)]) (rest := []) Bx hml E hP hD hS (by omega) h_mem1 rfl (m_Mo_fail l hn (J := (va_up J 0 0)) hJ0) kw_757 kw_759 sel_Mo_fail kw_8 kw_760 (by decide +kernel) ⟨rfl, rfl⟩ ⟨Nat.le_of_ble_eq_true rfl, Nat.le_of_ble_eq_true rfl⟩ rfl hl.1 (Nat.le_of_ble_eq_true rfl) d_Mo_longest_21 ⟨Nat.le_of_ble_eq_true rfl, Nat.le_of_ble_eq_true rfl⟩ (fun r3 mem4 H locs hq hP hS => ?_)
    have hD : va_D (Az sz) (fw n ad mem4) := fw_D hD
    obtain ⟨hq0, hq⟩ := hq
    subst hq0
    exact W.iret (v := 0) hx hb hr (fun t ht hW => ⟨⟨0, mem4, rfl, ⟨rfl, ⟨va_up (va_up J 0 0) 0 1, by rw [hq, e_mem1, up_up], va_up_self _ _ _, fun i hi => by rw [va_up_ne _ _ hi, va_up_ne _ _ hi]⟩⟩, by show va_P _ _ _ t.heap; rw [ht]; exact hP⟩, hS.F ht⟩) hS.2.2 d_Mo_longest_24
set_option maxHeartbeats 4000000 in
set_option maxRecDepth 100000 in
theorem m_Mo_pieces0 (l : Launch) {D : va_G} {cy : Nat → ClassId} {sz n : Nat} {ad : Nat → Nat} {mem : Nat → va_E} {J : Nat → Int32} {i1 : Int32} (hn : 242 ≤ n) (h4 : mem 224 = moC ad J) (hR : J 4 = 0) : MI l D cy sz n ad y_Mo_pieces c_Mo_pieces 5 (some .int) ({ frames := 1, cells := 0, slots := 0, locals := 30 } : Room) mem [.ref (ad 224), .int (i1)] (fun r mem' => r = 0 ∧ ∃ J' : Nat → Int32, mem' = va_up mem 224 (moC ad J') ∧ J1 J J' 1) := by
  refine Met.ofW (cc := c_Mo_pieces) (maxL := 5) (ret := (some .int)) (by decide) rfl ?_
  intro p e s m args below meth c s₁ B hml hv
  obtain ⟨rfl, E, hP, hD⟩ := hv
  have hx := B.exec
  have hb := B.bytes
  have hr := B.returns
  have hlocks := B.notSynchronized
  have Bx : MB p s m [.ref (ad 224), .int (i1)].toArray c c_Mo_pieces "AbnfChartModel" D cy := ⟨hx, hb, tb_all (atoms_spec B.pre) E.2.1, findClass_of_methodNamed B.named, E.1⟩
  have hS : va_S (Az sz) s.heap s.heap [] := va_S.rf
  have hl := lv_entry ([.ref (ad 224), .int (i1)]) (n := 5) (Nat.le_of_ble_eq_true rfl)
  rw [lg_entry_eq]
  generalize (lg_sl ([.ref (ad 224), .int (i1)]) ++ List.replicate (5 - (lg_sl ([.ref (ad 224), .int (i1)])).length) Slot.unset).toArray = ls at hl ⊢
  have hl : lv_has ls 5 [(0, .ref (ad 224)), (1, .int (i1))] := hl
  refine lv_aload_n Bx.1 Bx.2.1 d_Mo_pieces_0 rfl (lv_at hl 0 rfl) ?_
  refine lv_iconst (v := 0) Bx.1 Bx.2.1 d_Mo_pieces_1 (by decide) ?_
  refine f_put Bx hP hD hS (by omega) h4 rfl inMo tyMo okMo nmMo 0 (by decide) kw_656 rfl rfl rfl rfl (Nat.le_of_ble_eq_true rfl) d_Mo_pieces_2 (fun H locs hP hS => ?_)
  obtain ⟨mem1, e_mem1⟩ : ∃ z, z = va_up mem (224) (.inr (7, [.int (0), .int (J 1), .ref (ad 225), .int (J 3), .int (J 4), .ref (ad 226), .ref (ad 227), .int (J 7), .ref (ad 228), .ref (ad 229), .ref (ad 230), .ref (ad 231), .ref (ad 232), .ref (ad 233), .int (J 14), .ref (ad 234), .int (J 16), .int (J 17), .int (J 18), .ref (ad 235), .ref (ad 236), .ref (ad 237), .ref (ad 238), .ref (ad 239), .int (J 24), .ref (ad 240), .int (J 26), .ref (ad 241), .int (J 28)])) := ⟨_, rfl⟩
  have hP : va_P D vcl (fw n ad mem1) H := by rw [e_mem1]; exact hP
  have hD : va_D (Az sz) (fw n ad mem1) := fw_D hD
  have h_mem1 : mem1 (224) = .inr (7, [.int (0), .int (J 1), .ref (ad 225), .int (J 3), .int (J 4), .ref (ad 226), .ref (ad 227), .int (J 7), .ref (ad 228), .ref (ad 229), .ref (ad 230), .ref (ad 231), .ref (ad 232), .ref (ad 233), .int (J 14), .ref (ad 234), .int (J 16), .int (J 17), .int (J 18), .ref (ad 235), .ref (ad 236), .ref (ad 237), .ref (ad 238), .ref (ad 239), .int (J 24), .ref (ad 240), .int (J 26), .ref (ad 241), .int (J 28)]) := by rw [e_mem1, va_up_self]
  have hJ0 : mem1 224 = moC ad (va_up J 0 0) := h_mem1
  refine lv_iload_n Bx.1 Bx.2.1 d_Mo_pieces_5 rfl (lv_at hl 1 rfl) ?_
  refine lv_iconst (v := 0) Bx.1 Bx.2.1 d_Mo_pieces_6 (by decide) ?_
  refine lv_aload_n Bx.1 Bx.2.1 d_Mo_pieces_7 rfl (lv_at hl 0 rfl) ?_
  refine f_get Bx hP (by omega) h_mem1 rfl inMo 4 (by decide) kw_660 rfl rfl d_Mo_pieces_8 ?_
  refine lv_iconst (v := 1) Bx.1 Bx.2.1 d_Mo_pieces_11 (by decide) ?_
  refine lv_isub Bx.1 Bx.2.1 d_Mo_pieces_12 ?_
  refine f_callSi (na := 3) (As := [.int (i1), .int (0), .int (J 4 - 1)]) (rest := []) Bx hml E.2.1 (m_Mo_within l i1 0 (J 4 - 1)) kw_754 kw_755 kw_8 kw_756 (by decide +kernel) ⟨rfl, rfl⟩ ⟨Nat.le_of_ble_eq_true rfl, Nat.le_of_ble_eq_true rfl⟩ rfl hl.1 (Nat.le_of_ble_eq_true rfl) d_Mo_pieces_13 ⟨Nat.le_of_ble_eq_true rfl, Nat.le_of_ble_eq_true rfl⟩ (fun r2 hr1 => ?_)
  subst hr1
  refine lv_if_ne Bx.1 Bx.2.1 d_Mo_pieces_16 rfl (fun h => ?_) (fun h => ?_)
  · exact absurd (if_pos (no_rule i1 hR)) h
  · refine lv_aload_n Bx.1 Bx.2.1 d_Mo_pieces_19 rfl (lv_at hl 0 rfl) ?_
    refine lv_iconst (v := 1) Bx.1 Bx.2.1 d_Mo_pieces_20 (by decide) ?_
    refine f_callVi (na := 1) (As := [.int (1)]) (rest := []) Bx hml E hP hD hS (by omega) h_mem1 rfl (m_Mo_fail l hn (J := (va_up J 0 0)) hJ0) kw_757 kw_759 sel_Mo_fail kw_8 kw_760 (by decide +kernel) ⟨rfl, rfl⟩ ⟨Nat.le_of_ble_eq_true rfl, Nat.le_of_ble_eq_true rfl⟩ rfl hl.1 (Nat.le_of_ble_eq_true rfl) d_Mo_pieces_21 ⟨Nat.le_of_ble_eq_true rfl, Nat.le_of_ble_eq_true rfl⟩ (fun r3 mem4 H locs hq hP hS => ?_)
    have hD : va_D (Az sz) (fw n ad mem4) := fw_D hD
    obtain ⟨hq0, hq⟩ := hq
    subst hq0
    exact W.iret (v := 0) hx hb hr (fun t ht hW => ⟨⟨0, mem4, rfl, ⟨rfl, ⟨va_up (va_up J 0 0) 0 1, by rw [hq, e_mem1, up_up], va_up_self _ _ _, fun i hi => by rw [va_up_ne _ _ hi, va_up_ne _ _ hi]⟩⟩, by show va_P _ _ _ t.heap; rw [ht]; exact hP⟩, hS.F ht⟩) hS.2.2 d_Mo_pieces_24
set_option maxHeartbeats 4000000 in
set_option maxRecDepth 100000 in
theorem m_Mo_count0 (l : Launch) {D : va_G} {cy : Nat → ClassId} {sz n : Nat} {ad : Nat → Nat} {mem : Nat → va_E} {J : Nat → Int32} {k : Int32} (hn : 242 ≤ n) (h4 : mem 224 = moC ad J) (hR : J 4 = 0) (hE : J 7 = 0) : MI l D cy sz n ad y_Mo_count c_Mo_count 4 (some .int) ({ frames := 1, cells := 0, slots := 0, locals := 30 } : Room) mem [.ref (ad 224), .int (k)] (fun r mem' => r = 0 ∧ ∃ J' : Nat → Int32, mem' = va_up mem 224 (moC ad J') ∧ J1 J J' (if k < 0 ∨ 2 < k then 1 else 0)) := by
  refine Met.ofW (cc := c_Mo_count) (maxL := 4) (ret := (some .int)) (by decide) rfl ?_
  intro p e s m args below meth c s₁ B hml hv
  obtain ⟨rfl, E, hP, hD⟩ := hv
  have hx := B.exec
  have hb := B.bytes
  have hr := B.returns
  have hlocks := B.notSynchronized
  have Bx : MB p s m [.ref (ad 224), .int (k)].toArray c c_Mo_count "AbnfChartModel" D cy := ⟨hx, hb, tb_all (atoms_spec B.pre) E.2.1, findClass_of_methodNamed B.named, E.1⟩
  have hS : va_S (Az sz) s.heap s.heap [] := va_S.rf
  have hl := lv_entry ([.ref (ad 224), .int (k)]) (n := 4) (Nat.le_of_ble_eq_true rfl)
  rw [lg_entry_eq]
  generalize (lg_sl ([.ref (ad 224), .int (k)]) ++ List.replicate (4 - (lg_sl ([.ref (ad 224), .int (k)])).length) Slot.unset).toArray = ls at hl ⊢
  have hl : lv_has ls 4 [(0, .ref (ad 224)), (1, .int (k))] := hl
  refine lv_aload_n Bx.1 Bx.2.1 d_Mo_count_0 rfl (lv_at hl 0 rfl) ?_
  refine lv_iconst (v := 0) Bx.1 Bx.2.1 d_Mo_count_1 (by decide) ?_
  refine f_put Bx hP hD hS (by omega) h4 rfl inMo tyMo okMo nmMo 0 (by decide) kw_656 rfl rfl rfl rfl (Nat.le_of_ble_eq_true rfl) d_Mo_count_2 (fun H locs hP hS => ?_)
  obtain ⟨mem1, e_mem1⟩ : ∃ z, z = va_up mem (224) (.inr (7, [.int (0), .int (J 1), .ref (ad 225), .int (J 3), .int (J 4), .ref (ad 226), .ref (ad 227), .int (J 7), .ref (ad 228), .ref (ad 229), .ref (ad 230), .ref (ad 231), .ref (ad 232), .ref (ad 233), .int (J 14), .ref (ad 234), .int (J 16), .int (J 17), .int (J 18), .ref (ad 235), .ref (ad 236), .ref (ad 237), .ref (ad 238), .ref (ad 239), .int (J 24), .ref (ad 240), .int (J 26), .ref (ad 241), .int (J 28)])) := ⟨_, rfl⟩
  have hP : va_P D vcl (fw n ad mem1) H := by rw [e_mem1]; exact hP
  have hD : va_D (Az sz) (fw n ad mem1) := fw_D hD
  have h_mem1 : mem1 (224) = .inr (7, [.int (0), .int (J 1), .ref (ad 225), .int (J 3), .int (J 4), .ref (ad 226), .ref (ad 227), .int (J 7), .ref (ad 228), .ref (ad 229), .ref (ad 230), .ref (ad 231), .ref (ad 232), .ref (ad 233), .int (J 14), .ref (ad 234), .int (J 16), .int (J 17), .int (J 18), .ref (ad 235), .ref (ad 236), .ref (ad 237), .ref (ad 238), .ref (ad 239), .int (J 24), .ref (ad 240), .int (J 26), .ref (ad 241), .int (J 28)]) := by rw [e_mem1, va_up_self]
  have hJ0 : mem1 224 = moC ad (va_up J 0 0) := h_mem1
  refine lv_iload_n Bx.1 Bx.2.1 d_Mo_count_5 rfl (lv_at hl 1 rfl) ?_
  refine lv_iconst (v := 0) Bx.1 Bx.2.1 d_Mo_count_6 (by decide) ?_
  refine lv_iconst (v := 2) Bx.1 Bx.2.1 d_Mo_count_7 (by decide) ?_
  refine f_callSi (na := 3) (As := [.int (k), .int (0), .int (2)]) (rest := []) Bx hml E.2.1 (m_Mo_within l k 0 2) kw_754 kw_755 kw_8 kw_756 (by decide +kernel) ⟨rfl, rfl⟩ ⟨Nat.le_of_ble_eq_true rfl, Nat.le_of_ble_eq_true rfl⟩ rfl hl.1 (Nat.le_of_ble_eq_true rfl) d_Mo_count_8 ⟨Nat.le_of_ble_eq_true rfl, Nat.le_of_ble_eq_true rfl⟩ (fun r2 hr1 => ?_)
  subst hr1
  refine lv_if_ne Bx.1 Bx.2.1 d_Mo_count_11 rfl (fun h => ?_) (fun h => ?_)
  · have hk : ¬ (k < 0 ∨ 2 < k) := fun q => h (if_pos q)
    refine lv_iconst (v := 0) Bx.1 Bx.2.1 d_Mo_count_20 (by decide) ?_
    refine lv_istore_n (lv' := [(2, .int (0)), (0, .ref (ad 224)), (1, .int (k))]) Bx.1 Bx.2.1 d_Mo_count_21 rfl hl (by decide) rfl (fun ls hl => ?_)
    refine lv_iconst (v := 0) Bx.1 Bx.2.1 d_Mo_count_22 (by decide) ?_
    refine lv_istore_n (lv' := [(3, .int (0)), (2, .int (0)), (0, .ref (ad 224)), (1, .int (k))]) Bx.1 Bx.2.1 d_Mo_count_23 rfl hl (by decide) rfl (fun ls hl => ?_)
    refine lv_iload_n Bx.1 Bx.2.1 d_Mo_count_24 rfl (lv_at hl 0 rfl) ?_
    refine lv_aload_n Bx.1 Bx.2.1 d_Mo_count_25 rfl (lv_at hl 2 rfl) ?_
    refine f_get Bx hP (by omega) h_mem1 rfl inMo 4 (by decide) kw_660 rfl rfl d_Mo_count_26 ?_
    refine lv_icmp_ge Bx.1 Bx.2.1 d_Mo_count_29 rfl (fun h2 => ?_) (fun h2 => ?_)
    · refine lv_iload_n Bx.1 Bx.2.1 d_Mo_count_55 rfl (lv_at hl 3 rfl) ?_
      refine lv_if_ne Bx.1 Bx.2.1 d_Mo_count_56 rfl (fun h3 => ?_) (fun h3 => ?_)
      · refine lv_iload_n Bx.1 Bx.2.1 d_Mo_count_66 rfl (lv_at hl 3 rfl) ?_
        refine lv_iconst (v := 1) Bx.1 Bx.2.1 d_Mo_count_67 (by decide) ?_
        refine lv_icmp_ne Bx.1 Bx.2.1 d_Mo_count_68 rfl (fun h4 => ?_) (fun h4 => ?_)
        · refine lv_iload_n Bx.1 Bx.2.1 d_Mo_count_78 rfl (lv_at hl 1 rfl) ?_
          exact W.iret (v := 0) hx hb hr (fun t ht hW => ⟨⟨0, mem1, rfl, ⟨rfl, va_up J 0 0, by rw [e_mem1]; rfl, by rw [if_neg hk]; rfl, fun i hi => va_up_ne _ _ hi⟩, by show va_P _ _ _ t.heap; rw [ht]; exact hP⟩, hS.F ht⟩) hS.2.2 d_Mo_count_79
        · refine lv_aload_n Bx.1 Bx.2.1 d_Mo_count_71 rfl (lv_at hl 2 rfl) ?_
          refine f_get Bx hP (by omega) h_mem1 rfl inMo 7 (by decide) kw_663 rfl rfl d_Mo_count_72 ?_
          refine lv_goto Bx.1 Bx.2.1 d_Mo_count_75 rfl ?_
          rw [hE]
          exact W.iret (v := 0) hx hb hr (fun t ht hW => ⟨⟨0, mem1, rfl, ⟨rfl, va_up J 0 0, by rw [e_mem1]; rfl, by rw [if_neg hk]; rfl, fun i hi => va_up_ne _ _ hi⟩, by show va_P _ _ _ t.heap; rw [ht]; exact hP⟩, hS.F ht⟩) hS.2.2 d_Mo_count_79
      · refine lv_aload_n Bx.1 Bx.2.1 d_Mo_count_59 rfl (lv_at hl 2 rfl) ?_
        refine f_get Bx hP (by omega) h_mem1 rfl inMo 4 (by decide) kw_660 rfl rfl d_Mo_count_60 ?_
        refine lv_goto Bx.1 Bx.2.1 d_Mo_count_63 rfl ?_
        rw [hR]
        exact W.iret (v := 0) hx hb hr (fun t ht hW => ⟨⟨0, mem1, rfl, ⟨rfl, va_up J 0 0, by rw [e_mem1]; rfl, by rw [if_neg hk]; rfl, fun i hi => va_up_ne _ _ hi⟩, by show va_P _ _ _ t.heap; rw [ht]; exact hP⟩, hS.F ht⟩) hS.2.2 d_Mo_count_79
    · exact absurd (by rw [hR]; decide) h2
  · have hk : k < 0 ∨ 2 < k := by
      by_cases q : k < 0 ∨ 2 < k
      · exact q
      · rw [if_neg q] at h; exact absurd h (by decide)
    refine lv_aload_n Bx.1 Bx.2.1 d_Mo_count_14 rfl (lv_at hl 0 rfl) ?_
    refine lv_iconst (v := 1) Bx.1 Bx.2.1 d_Mo_count_15 (by decide) ?_
    refine f_callVi (na := 1) (As := [.int (1)]) (rest := []) Bx hml E hP hD hS (by omega) h_mem1 rfl (m_Mo_fail l hn (J := (va_up J 0 0)) hJ0) kw_757 kw_759 sel_Mo_fail kw_8 kw_760 (by decide +kernel) ⟨rfl, rfl⟩ ⟨Nat.le_of_ble_eq_true rfl, Nat.le_of_ble_eq_true rfl⟩ rfl hl.1 (Nat.le_of_ble_eq_true rfl) d_Mo_count_16 ⟨Nat.le_of_ble_eq_true rfl, Nat.le_of_ble_eq_true rfl⟩ (fun r3 mem4 H locs hq hP hS => ?_)
    have hD : va_D (Az sz) (fw n ad mem4) := fw_D hD
    obtain ⟨hq0, hq⟩ := hq
    subst hq0
    exact W.iret (v := 0) hx hb hr (fun t ht hW => ⟨⟨0, mem4, rfl, ⟨rfl, ⟨va_up (va_up J 0 0) 0 1, by rw [hq, e_mem1, up_up], by rw [if_pos hk]; exact va_up_self _ _ _, fun i hi => by rw [va_up_ne _ _ hi, va_up_ne _ _ hi]⟩⟩, by show va_P _ _ _ t.heap; rw [ht]; exact hP⟩, hS.F ht⟩) hS.2.2 d_Mo_count_19
