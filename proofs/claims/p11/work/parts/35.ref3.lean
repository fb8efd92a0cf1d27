theorem d_Mo_number_0 : decode c_Mo_number 0 = .ok (.iconst 0, 1) := by decide +kernel
theorem d_Mo_number_1 : decode c_Mo_number 1 = .ok (.istore_n 3, 1) := by decide +kernel
theorem d_Mo_number_2 : decode c_Mo_number 2 = .ok (.iconst 0, 1) := by decide +kernel
theorem d_Mo_number_3 : decode c_Mo_number 3 = .ok (.istore 4, 2) := by decide +kernel
theorem d_Mo_number_5 : decode c_Mo_number 5 = .ok (.iload 4, 2) := by decide +kernel
theorem d_Mo_number_7 : decode c_Mo_number 7 = .ok (.iload_n 1, 1) := by decide +kernel
theorem d_Mo_number_8 : decode c_Mo_number 8 = .ok (.bipush 10, 2) := by decide +kernel
theorem d_Mo_number_10 : decode c_Mo_number 10 = .ok (.if_icmp .ne 7, 3) := by decide +kernel
theorem d_Mo_number_13 : decode c_Mo_number 13 = .ok (.iconst 3, 1) := by decide +kernel
theorem d_Mo_number_14 : decode c_Mo_number 14 = .ok (.goto 4, 3) := by decide +kernel
theorem d_Mo_number_17 : decode c_Mo_number 17 = .ok (.iconst 2, 1) := by decide +kernel
theorem d_Mo_number_18 : decode c_Mo_number 18 = .ok (.if_icmp .ge 43, 3) := by decide +kernel
theorem d_Mo_number_21 : decode c_Mo_number 21 = .ok (.aload_n 0, 1) := by decide +kernel
theorem d_Mo_number_22 : decode c_Mo_number 22 = .ok (.invokevirtual 96, 3) := by decide +kernel
theorem d_Mo_number_25 : decode c_Mo_number 25 = .ok (.iload_n 1, 1) := by decide +kernel
theorem d_Mo_number_26 : decode c_Mo_number 26 = .ok (.invokestatic 168, 3) := by decide +kernel
theorem d_Mo_number_29 : decode c_Mo_number 29 = .ok (.ifCond .lt 32, 3) := by decide +kernel
theorem d_Mo_number_32 : decode c_Mo_number 32 = .ok (.iload_n 1, 1) := by decide +kernel
theorem d_Mo_number_33 : decode c_Mo_number 33 = .ok (.iload_n 3, 1) := by decide +kernel
theorem d_Mo_number_34 : decode c_Mo_number 34 = .ok (.imul, 1) := by decide +kernel
theorem d_Mo_number_35 : decode c_Mo_number 35 = .ok (.aload_n 0, 1) := by decide +kernel
theorem d_Mo_number_36 : decode c_Mo_number 36 = .ok (.invokevirtual 96, 3) := by decide +kernel
theorem d_Mo_number_39 : decode c_Mo_number 39 = .ok (.iload_n 1, 1) := by decide +kernel
theorem d_Mo_number_40 : decode c_Mo_number 40 = .ok (.invokestatic 168, 3) := by decide +kernel
theorem d_Mo_number_43 : decode c_Mo_number 43 = .ok (.iadd, 1) := by decide +kernel
theorem d_Mo_number_44 : decode c_Mo_number 44 = .ok (.istore_n 3, 1) := by decide +kernel
theorem d_Mo_number_45 : decode c_Mo_number 45 = .ok (.iinc 4 1, 3) := by decide +kernel
theorem d_Mo_number_48 : decode c_Mo_number 48 = .ok (.aload_n 0, 1) := by decide +kernel
theorem d_Mo_number_49 : decode c_Mo_number 49 = .ok (.dup, 1) := by decide +kernel
theorem d_Mo_number_50 : decode c_Mo_number 50 = .ok (.getfield 87, 3) := by decide +kernel
theorem d_Mo_number_53 : decode c_Mo_number 53 = .ok (.iconst 1, 1) := by decide +kernel
theorem d_Mo_number_54 : decode c_Mo_number 54 = .ok (.iadd, 1) := by decide +kernel
theorem d_Mo_number_55 : decode c_Mo_number 55 = .ok (.putfield 87, 3) := by decide +kernel
theorem d_Mo_number_58 : decode c_Mo_number 58 = .ok (.goto (-53), 3) := by decide +kernel
theorem d_Mo_number_61 : decode c_Mo_number 61 = .ok (.iload 4, 2) := by decide +kernel
theorem d_Mo_number_63 : decode c_Mo_number 63 = .ok (.ifCond .ne 12, 3) := by decide +kernel
theorem d_Mo_number_66 : decode c_Mo_number 66 = .ok (.aload_n 0, 1) := by decide +kernel
theorem d_Mo_number_67 : decode c_Mo_number 67 = .ok (.iconst 1, 1) := by decide +kernel
theorem d_Mo_number_68 : decode c_Mo_number 68 = .ok (.aload_n 0, 1) := by decide +kernel
theorem d_Mo_number_69 : decode c_Mo_number 69 = .ok (.getfield 87, 3) := by decide +kernel
theorem d_Mo_number_72 : decode c_Mo_number 72 = .ok (.invokevirtual 113, 3) := by decide +kernel
theorem d_Mo_number_75 : decode c_Mo_number 75 = .ok (.iload_n 3, 1) := by decide +kernel
theorem d_Mo_number_76 : decode c_Mo_number 76 = .ok (.bipush 127, 2) := by decide +kernel
theorem d_Mo_number_78 : decode c_Mo_number 78 = .ok (.if_icmp .le 9, 3) := by decide +kernel
theorem d_Mo_number_81 : decode c_Mo_number 81 = .ok (.aload_n 0, 1) := by decide +kernel
theorem d_Mo_number_82 : decode c_Mo_number 82 = .ok (.iconst 1, 1) := by decide +kernel
theorem d_Mo_number_83 : decode c_Mo_number 83 = .ok (.iload_n 2, 1) := by decide +kernel
theorem d_Mo_number_84 : decode c_Mo_number 84 = .ok (.invokevirtual 113, 3) := by decide +kernel
theorem d_Mo_number_87 : decode c_Mo_number 87 = .ok (.iload_n 3, 1) := by decide +kernel
theorem d_Mo_number_88 : decode c_Mo_number 88 = .ok (.ireturn, 1) := by decide +kernel
theorem d_Mo_string_0 : decode c_Mo_string 0 = .ok (.aload_n 0, 1) := by decide +kernel
theorem d_Mo_string_1 : decode c_Mo_string 1 = .ok (.dup, 1) := by decide +kernel
theorem d_Mo_string_2 : decode c_Mo_string 2 = .ok (.getfield 87, 3) := by decide +kernel
theorem d_Mo_string_5 : decode c_Mo_string 5 = .ok (.iconst 1, 1) := by decide +kernel
theorem d_Mo_string_6 : decode c_Mo_string 6 = .ok (.iadd, 1) := by decide +kernel
theorem d_Mo_string_7 : decode c_Mo_string 7 = .ok (.putfield 87, 3) := by decide +kernel
theorem d_Mo_string_10 : decode c_Mo_string 10 = .ok (.aload_n 0, 1) := by decide +kernel
theorem d_Mo_string_11 : decode c_Mo_string 11 = .ok (.getfield 27, 3) := by decide +kernel
theorem d_Mo_string_14 : decode c_Mo_string 14 = .ok (.iload_n 1, 1) := by decide +kernel
theorem d_Mo_string_15 : decode c_Mo_string 15 = .ok (.aload_n 0, 1) := by decide +kernel
theorem d_Mo_string_16 : decode c_Mo_string 16 = .ok (.getfield 165, 3) := by decide +kernel
theorem d_Mo_string_19 : decode c_Mo_string 19 = .ok (.iastore, 1) := by decide +kernel
theorem d_Mo_string_20 : decode c_Mo_string 20 = .ok (.iconst 0, 1) := by decide +kernel
theorem d_Mo_string_21 : decode c_Mo_string 21 = .ok (.istore_n 2, 1) := by decide +kernel
theorem d_Mo_string_22 : decode c_Mo_string 22 = .ok (.iload_n 2, 1) := by decide +kernel
theorem d_Mo_string_23 : decode c_Mo_string 23 = .ok (.bipush 12, 2) := by decide +kernel
theorem d_Mo_string_25 : decode c_Mo_string 25 = .ok (.if_icmp .ge 65, 3) := by decide +kernel
theorem d_Mo_string_28 : decode c_Mo_string 28 = .ok (.aload_n 0, 1) := by decide +kernel
theorem d_Mo_string_29 : decode c_Mo_string 29 = .ok (.invokevirtual 96, 3) := by decide +kernel
theorem d_Mo_string_32 : decode c_Mo_string 32 = .ok (.bipush 32, 2) := by decide +kernel
theorem d_Mo_string_34 : decode c_Mo_string 34 = .ok (.bipush 126, 2) := by decide +kernel
theorem d_Mo_string_36 : decode c_Mo_string 36 = .ok (.invokestatic 74, 3) := by decide +kernel
theorem d_Mo_string_39 : decode c_Mo_string 39 = .ok (.ifCond .eq 51, 3) := by decide +kernel
theorem d_Mo_string_42 : decode c_Mo_string 42 = .ok (.aload_n 0, 1) := by decide +kernel
theorem d_Mo_string_43 : decode c_Mo_string 43 = .ok (.invokevirtual 96, 3) := by decide +kernel
theorem d_Mo_string_46 : decode c_Mo_string 46 = .ok (.bipush 34, 2) := by decide +kernel
theorem d_Mo_string_48 : decode c_Mo_string 48 = .ok (.if_icmp .eq 42, 3) := by decide +kernel
theorem d_Mo_string_51 : decode c_Mo_string 51 = .ok (.aload_n 0, 1) := by decide +kernel
theorem d_Mo_string_52 : decode c_Mo_string 52 = .ok (.getfield 43, 3) := by decide +kernel
theorem d_Mo_string_55 : decode c_Mo_string 55 = .ok (.aload_n 0, 1) := by decide +kernel
theorem d_Mo_string_56 : decode c_Mo_string 56 = .ok (.getfield 165, 3) := by decide +kernel
theorem d_Mo_string_59 : decode c_Mo_string 59 = .ok (.aload_n 0, 1) := by decide +kernel
theorem d_Mo_string_60 : decode c_Mo_string 60 = .ok (.invokevirtual 96, 3) := by decide +kernel
theorem d_Mo_string_63 : decode c_Mo_string 63 = .ok (.iastore, 1) := by decide +kernel
theorem d_Mo_string_64 : decode c_Mo_string 64 = .ok (.aload_n 0, 1) := by decide +kernel
theorem d_Mo_string_65 : decode c_Mo_string 65 = .ok (.dup, 1) := by decide +kernel
theorem d_Mo_string_66 : decode c_Mo_string 66 = .ok (.getfield 165, 3) := by decide +kernel
theorem d_Mo_string_69 : decode c_Mo_string 69 = .ok (.iconst 1, 1) := by decide +kernel
theorem d_Mo_string_70 : decode c_Mo_string 70 = .ok (.iadd, 1) := by decide +kernel
theorem d_Mo_string_71 : decode c_Mo_string 71 = .ok (.putfield 165, 3) := by decide +kernel
theorem d_Mo_string_74 : decode c_Mo_string 74 = .ok (.iinc 2 1, 3) := by decide +kernel
theorem d_Mo_string_77 : decode c_Mo_string 77 = .ok (.aload_n 0, 1) := by decide +kernel
theorem d_Mo_string_78 : decode c_Mo_string 78 = .ok (.dup, 1) := by decide +kernel
theorem d_Mo_string_79 : decode c_Mo_string 79 = .ok (.getfield 87, 3) := by decide +kernel
theorem d_Mo_string_82 : decode c_Mo_string 82 = .ok (.iconst 1, 1) := by decide +kernel
theorem d_Mo_string_83 : decode c_Mo_string 83 = .ok (.iadd, 1) := by decide +kernel
theorem d_Mo_string_84 : decode c_Mo_string 84 = .ok (.putfield 87, 3) := by decide +kernel
theorem d_Mo_string_87 : decode c_Mo_string 87 = .ok (.goto (-65), 3) := by decide +kernel
theorem d_Mo_string_90 : decode c_Mo_string 90 = .ok (.aload_n 0, 1) := by decide +kernel
theorem d_Mo_string_91 : decode c_Mo_string 91 = .ok (.getfield 30, 3) := by decide +kernel
theorem d_Mo_string_94 : decode c_Mo_string 94 = .ok (.iload_n 1, 1) := by decide +kernel
theorem d_Mo_string_95 : decode c_Mo_string 95 = .ok (.iload_n 2, 1) := by decide +kernel
theorem d_Mo_string_96 : decode c_Mo_string 96 = .ok (.iastore, 1) := by decide +kernel
theorem d_Mo_string_97 : decode c_Mo_string 97 = .ok (.aload_n 0, 1) := by decide +kernel
theorem d_Mo_string_98 : decode c_Mo_string 98 = .ok (.invokevirtual 96, 3) := by decide +kernel
theorem d_Mo_string_101 : decode c_Mo_string 101 = .ok (.bipush 34, 2) := by decide +kernel
theorem d_Mo_string_103 : decode c_Mo_string 103 = .ok (.if_icmp .eq 12, 3) := by decide +kernel
theorem d_Mo_string_106 : decode c_Mo_string 106 = .ok (.aload_n 0, 1) := by decide +kernel
theorem d_Mo_string_107 : decode c_Mo_string 107 = .ok (.iconst 1, 1) := by decide +kernel
theorem d_Mo_string_108 : decode c_Mo_string 108 = .ok (.aload_n 0, 1) := by decide +kernel
theorem d_Mo_string_109 : decode c_Mo_string 109 = .ok (.getfield 87, 3) := by decide +kernel
theorem d_Mo_string_112 : decode c_Mo_string 112 = .ok (.invokevirtual 113, 3) := by decide +kernel
theorem d_Mo_string_115 : decode c_Mo_string 115 = .ok (.aload_n 0, 1) := by decide +kernel
theorem d_Mo_string_116 : decode c_Mo_string 116 = .ok (.dup, 1) := by decide +kernel
theorem d_Mo_string_117 : decode c_Mo_string 117 = .ok (.getfield 87, 3) := by decide +kernel
theorem d_Mo_string_120 : decode c_Mo_string 120 = .ok (.iconst 1, 1) := by decide +kernel
theorem d_Mo_string_121 : decode c_Mo_string 121 = .ok (.iadd, 1) := by decide +kernel
theorem d_Mo_string_122 : decode c_Mo_string 122 = .ok (.putfield 87, 3) := by decide +kernel
theorem d_Mo_string_125 : decode c_Mo_string 125 = .ok (.aload_n 0, 1) := by decide +kernel
theorem d_Mo_string_126 : decode c_Mo_string 126 = .ok (.getfield 90, 3) := by decide +kernel
theorem d_Mo_string_129 : decode c_Mo_string 129 = .ok (.ifCond .ne 8, 3) := by decide +kernel
theorem d_Mo_string_132 : decode c_Mo_string 132 = .ok (.aload_n 0, 1) := by decide +kernel
theorem d_Mo_string_133 : decode c_Mo_string 133 = .ok (.iload_n 1, 1) := by decide +kernel
theorem d_Mo_string_134 : decode c_Mo_string 134 = .ok (.invokevirtual 151, 3) := by decide +kernel
theorem d_Mo_string_137 : decode c_Mo_string 137 = .ok (.return_, 1) := by decide +kernel
theorem d_Mo_numbers_0 : decode c_Mo_numbers 0 = .ok (.aload_n 0, 1) := by decide +kernel
theorem d_Mo_numbers_1 : decode c_Mo_numbers 1 = .ok (.iload_n 3, 1) := by decide +kernel
theorem d_Mo_numbers_2 : decode c_Mo_numbers 2 = .ok (.iload_n 2, 1) := by decide +kernel
theorem d_Mo_numbers_3 : decode c_Mo_numbers 3 = .ok (.invokevirtual 171, 3) := by decide +kernel
theorem d_Mo_numbers_6 : decode c_Mo_numbers 6 = .ok (.istore 4, 2) := by decide +kernel
theorem d_Mo_numbers_8 : decode c_Mo_numbers 8 = .ok (.aload_n 0, 1) := by decide +kernel
theorem d_Mo_numbers_9 : decode c_Mo_numbers 9 = .ok (.getfield 27, 3) := by decide +kernel
theorem d_Mo_numbers_12 : decode c_Mo_numbers 12 = .ok (.iload_n 1, 1) := by decide +kernel
theorem d_Mo_numbers_13 : decode c_Mo_numbers 13 = .ok (.aload_n 0, 1) := by decide +kernel
theorem d_Mo_numbers_14 : decode c_Mo_numbers 14 = .ok (.getfield 165, 3) := by decide +kernel
theorem d_Mo_numbers_17 : decode c_Mo_numbers 17 = .ok (.iastore, 1) := by decide +kernel
theorem d_Mo_numbers_18 : decode c_Mo_numbers 18 = .ok (.aload_n 0, 1) := by decide +kernel
theorem d_Mo_numbers_19 : decode c_Mo_numbers 19 = .ok (.getfield 30, 3) := by decide +kernel
theorem d_Mo_numbers_22 : decode c_Mo_numbers 22 = .ok (.iload_n 1, 1) := by decide +kernel
theorem d_Mo_numbers_23 : decode c_Mo_numbers 23 = .ok (.iconst 1, 1) := by decide +kernel
theorem d_Mo_numbers_24 : decode c_Mo_numbers 24 = .ok (.iastore, 1) := by decide +kernel
theorem d_Mo_numbers_25 : decode c_Mo_numbers 25 = .ok (.aload_n 0, 1) := by decide +kernel
theorem d_Mo_numbers_26 : decode c_Mo_numbers 26 = .ok (.getfield 43, 3) := by decide +kernel
theorem d_Mo_numbers_29 : decode c_Mo_numbers 29 = .ok (.aload_n 0, 1) := by decide +kernel
theorem d_Mo_numbers_30 : decode c_Mo_numbers 30 = .ok (.getfield 165, 3) := by decide +kernel
theorem d_Mo_numbers_33 : decode c_Mo_numbers 33 = .ok (.iload 4, 2) := by decide +kernel
theorem d_Mo_numbers_35 : decode c_Mo_numbers 35 = .ok (.iastore, 1) := by decide +kernel
theorem d_Mo_numbers_36 : decode c_Mo_numbers 36 = .ok (.aload_n 0, 1) := by decide +kernel
theorem d_Mo_numbers_37 : decode c_Mo_numbers 37 = .ok (.dup, 1) := by decide +kernel
theorem d_Mo_numbers_38 : decode c_Mo_numbers 38 = .ok (.getfield 165, 3) := by decide +kernel
theorem d_Mo_numbers_41 : decode c_Mo_numbers 41 = .ok (.iconst 1, 1) := by decide +kernel
theorem d_Mo_numbers_42 : decode c_Mo_numbers 42 = .ok (.iadd, 1) := by decide +kernel
theorem d_Mo_numbers_43 : decode c_Mo_numbers 43 = .ok (.putfield 165, 3) := by decide +kernel
theorem d_Mo_numbers_46 : decode c_Mo_numbers 46 = .ok (.aload_n 0, 1) := by decide +kernel
theorem d_Mo_numbers_47 : decode c_Mo_numbers 47 = .ok (.getfield 90, 3) := by decide +kernel
theorem d_Mo_numbers_50 : decode c_Mo_numbers 50 = .ok (.ifCond .ne 66, 3) := by decide +kernel
theorem d_Mo_numbers_53 : decode c_Mo_numbers 53 = .ok (.aload_n 0, 1) := by decide +kernel
theorem d_Mo_numbers_54 : decode c_Mo_numbers 54 = .ok (.invokevirtual 96, 3) := by decide +kernel
theorem d_Mo_numbers_57 : decode c_Mo_numbers 57 = .ok (.bipush 45, 2) := by decide +kernel
theorem d_Mo_numbers_59 : decode c_Mo_numbers 59 = .ok (.if_icmp .ne 57, 3) := by decide +kernel
theorem d_Mo_numbers_62 : decode c_Mo_numbers 62 = .ok (.aload_n 0, 1) := by decide +kernel
theorem d_Mo_numbers_63 : decode c_Mo_numbers 63 = .ok (.dup, 1) := by decide +kernel
theorem d_Mo_numbers_64 : decode c_Mo_numbers 64 = .ok (.getfield 87, 3) := by decide +kernel
theorem d_Mo_numbers_67 : decode c_Mo_numbers 67 = .ok (.iconst 1, 1) := by decide +kernel
theorem d_Mo_numbers_68 : decode c_Mo_numbers 68 = .ok (.iadd, 1) := by decide +kernel
theorem d_Mo_numbers_69 : decode c_Mo_numbers 69 = .ok (.putfield 87, 3) := by decide +kernel
theorem d_Mo_numbers_72 : decode c_Mo_numbers 72 = .ok (.aload_n 0, 1) := by decide +kernel
theorem d_Mo_numbers_73 : decode c_Mo_numbers 73 = .ok (.iload_n 3, 1) := by decide +kernel
theorem d_Mo_numbers_74 : decode c_Mo_numbers 74 = .ok (.iload_n 2, 1) := by decide +kernel
theorem d_Mo_numbers_75 : decode c_Mo_numbers 75 = .ok (.invokevirtual 171, 3) := by decide +kernel
theorem d_Mo_numbers_78 : decode c_Mo_numbers 78 = .ok (.istore 5, 2) := by decide +kernel
theorem d_Mo_numbers_80 : decode c_Mo_numbers 80 = .ok (.iload 4, 2) := by decide +kernel
theorem d_Mo_numbers_82 : decode c_Mo_numbers 82 = .ok (.iload 5, 2) := by decide +kernel
theorem d_Mo_numbers_84 : decode c_Mo_numbers 84 = .ok (.if_icmp .le 9, 3) := by decide +kernel
theorem d_Mo_numbers_87 : decode c_Mo_numbers 87 = .ok (.aload_n 0, 1) := by decide +kernel
theorem d_Mo_numbers_88 : decode c_Mo_numbers 88 = .ok (.iconst 1, 1) := by decide +kernel
theorem d_Mo_numbers_89 : decode c_Mo_numbers 89 = .ok (.iload_n 2, 1) := by decide +kernel
theorem d_Mo_numbers_90 : decode c_Mo_numbers 90 = .ok (.invokevirtual 113, 3) := by decide +kernel
theorem d_Mo_numbers_93 : decode c_Mo_numbers 93 = .ok (.aload_n 0, 1) := by decide +kernel
theorem d_Mo_numbers_94 : decode c_Mo_numbers 94 = .ok (.getfield 24, 3) := by decide +kernel
theorem d_Mo_numbers_97 : decode c_Mo_numbers 97 = .ok (.iload_n 1, 1) := by decide +kernel
theorem d_Mo_numbers_98 : decode c_Mo_numbers 98 = .ok (.iconst 5, 1) := by decide +kernel
theorem d_Mo_numbers_99 : decode c_Mo_numbers 99 = .ok (.iastore, 1) := by decide +kernel
theorem d_Mo_numbers_100 : decode c_Mo_numbers 100 = .ok (.aload_n 0, 1) := by decide +kernel
theorem d_Mo_numbers_101 : decode c_Mo_numbers 101 = .ok (.getfield 27, 3) := by decide +kernel
theorem d_Mo_numbers_104 : decode c_Mo_numbers 104 = .ok (.iload_n 1, 1) := by decide +kernel
theorem d_Mo_numbers_105 : decode c_Mo_numbers 105 = .ok (.iload 4, 2) := by decide +kernel
theorem d_Mo_numbers_107 : decode c_Mo_numbers 107 = .ok (.iastore, 1) := by decide +kernel
theorem d_Mo_numbers_108 : decode c_Mo_numbers 108 = .ok (.aload_n 0, 1) := by decide +kernel
theorem d_Mo_numbers_109 : decode c_Mo_numbers 109 = .ok (.getfield 30, 3) := by decide +kernel
theorem d_Mo_numbers_112 : decode c_Mo_numbers 112 = .ok (.iload_n 1, 1) := by decide +kernel
theorem d_Mo_numbers_113 : decode c_Mo_numbers 113 = .ok (.iload 5, 2) := by decide +kernel
theorem d_Mo_numbers_115 : decode c_Mo_numbers 115 = .ok (.iastore, 1) := by decide +kernel
theorem d_Mo_numbers_116 : decode c_Mo_numbers 116 = .ok (.aload_n 0, 1) := by decide +kernel
theorem d_Mo_numbers_117 : decode c_Mo_numbers 117 = .ok (.getfield 90, 3) := by decide +kernel
theorem d_Mo_numbers_120 : decode c_Mo_numbers 120 = .ok (.ifCond .ne 80, 3) := by decide +kernel
theorem d_Mo_numbers_123 : decode c_Mo_numbers 123 = .ok (.aload_n 0, 1) := by decide +kernel
theorem d_Mo_numbers_124 : decode c_Mo_numbers 124 = .ok (.getfield 24, 3) := by decide +kernel
theorem d_Mo_numbers_127 : decode c_Mo_numbers 127 = .ok (.iload_n 1, 1) := by decide +kernel
theorem d_Mo_numbers_128 : decode c_Mo_numbers 128 = .ok (.iaload, 1) := by decide +kernel
theorem d_Mo_numbers_129 : decode c_Mo_numbers 129 = .ok (.iconst 4, 1) := by decide +kernel
theorem d_Mo_numbers_130 : decode c_Mo_numbers 130 = .ok (.if_icmp .ne 70, 3) := by decide +kernel
theorem d_Mo_numbers_133 : decode c_Mo_numbers 133 = .ok (.aload_n 0, 1) := by decide +kernel
theorem d_Mo_numbers_134 : decode c_Mo_numbers 134 = .ok (.invokevirtual 96, 3) := by decide +kernel
theorem d_Mo_numbers_137 : decode c_Mo_numbers 137 = .ok (.bipush 46, 2) := by decide +kernel
theorem d_Mo_numbers_139 : decode c_Mo_numbers 139 = .ok (.if_icmp .ne 61, 3) := by decide +kernel
theorem d_Mo_numbers_142 : decode c_Mo_numbers 142 = .ok (.aload_n 0, 1) := by decide +kernel
theorem d_Mo_numbers_143 : decode c_Mo_numbers 143 = .ok (.getfield 30, 3) := by decide +kernel
theorem d_Mo_numbers_146 : decode c_Mo_numbers 146 = .ok (.iload_n 1, 1) := by decide +kernel
theorem d_Mo_numbers_147 : decode c_Mo_numbers 147 = .ok (.iaload, 1) := by decide +kernel
theorem d_Mo_numbers_148 : decode c_Mo_numbers 148 = .ok (.iconst 4, 1) := by decide +kernel
theorem d_Mo_numbers_149 : decode c_Mo_numbers 149 = .ok (.if_icmp .ge 51, 3) := by decide +kernel
theorem d_Mo_numbers_152 : decode c_Mo_numbers 152 = .ok (.aload_n 0, 1) := by decide +kernel
theorem d_Mo_numbers_153 : decode c_Mo_numbers 153 = .ok (.dup, 1) := by decide +kernel
theorem d_Mo_numbers_154 : decode c_Mo_numbers 154 = .ok (.getfield 87, 3) := by decide +kernel
theorem d_Mo_numbers_157 : decode c_Mo_numbers 157 = .ok (.iconst 1, 1) := by decide +kernel
theorem d_Mo_numbers_158 : decode c_Mo_numbers 158 = .ok (.iadd, 1) := by decide +kernel
theorem d_Mo_numbers_159 : decode c_Mo_numbers 159 = .ok (.putfield 87, 3) := by decide +kernel
theorem d_Mo_numbers_162 : decode c_Mo_numbers 162 = .ok (.aload_n 0, 1) := by decide +kernel
theorem d_Mo_numbers_163 : decode c_Mo_numbers 163 = .ok (.getfield 43, 3) := by decide +kernel
theorem d_Mo_numbers_166 : decode c_Mo_numbers 166 = .ok (.aload_n 0, 1) := by decide +kernel
theorem d_Mo_numbers_167 : decode c_Mo_numbers 167 = .ok (.getfield 165, 3) := by decide +kernel
theorem d_Mo_numbers_170 : decode c_Mo_numbers 170 = .ok (.aload_n 0, 1) := by decide +kernel
theorem d_Mo_numbers_171 : decode c_Mo_numbers 171 = .ok (.iload_n 3, 1) := by decide +kernel
theorem d_Mo_numbers_172 : decode c_Mo_numbers 172 = .ok (.iload_n 2, 1) := by decide +kernel
theorem d_Mo_numbers_173 : decode c_Mo_numbers 173 = .ok (.invokevirtual 171, 3) := by decide +kernel
theorem d_Mo_numbers_176 : decode c_Mo_numbers 176 = .ok (.iastore, 1) := by decide +kernel
theorem d_Mo_numbers_177 : decode c_Mo_numbers 177 = .ok (.aload_n 0, 1) := by decide +kernel
theorem d_Mo_numbers_178 : decode c_Mo_numbers 178 = .ok (.dup, 1) := by decide +kernel
theorem d_Mo_numbers_179 : decode c_Mo_numbers 179 = .ok (.getfield 165, 3) := by decide +kernel
theorem d_Mo_numbers_182 : decode c_Mo_numbers 182 = .ok (.iconst 1, 1) := by decide +kernel
theorem d_Mo_numbers_183 : decode c_Mo_numbers 183 = .ok (.iadd, 1) := by decide +kernel
theorem d_Mo_numbers_184 : decode c_Mo_numbers 184 = .ok (.putfield 165, 3) := by decide +kernel
theorem d_Mo_numbers_187 : decode c_Mo_numbers 187 = .ok (.aload_n 0, 1) := by decide +kernel
theorem d_Mo_numbers_188 : decode c_Mo_numbers 188 = .ok (.getfield 30, 3) := by decide +kernel
theorem d_Mo_numbers_191 : decode c_Mo_numbers 191 = .ok (.iload_n 1, 1) := by decide +kernel
theorem d_Mo_numbers_192 : decode c_Mo_numbers 192 = .ok (.dup2, 1) := by decide +kernel
theorem d_Mo_numbers_193 : decode c_Mo_numbers 193 = .ok (.iaload, 1) := by decide +kernel
theorem d_Mo_numbers_194 : decode c_Mo_numbers 194 = .ok (.iconst 1, 1) := by decide +kernel
theorem d_Mo_numbers_195 : decode c_Mo_numbers 195 = .ok (.iadd, 1) := by decide +kernel
theorem d_Mo_numbers_196 : decode c_Mo_numbers 196 = .ok (.iastore, 1) := by decide +kernel
theorem d_Mo_numbers_197 : decode c_Mo_numbers 197 = .ok (.goto (-81), 3) := by decide +kernel
theorem d_Mo_numbers_200 : decode c_Mo_numbers 200 = .ok (.aload_n 0, 1) := by decide +kernel
theorem d_Mo_numbers_201 : decode c_Mo_numbers 201 = .ok (.getfield 90, 3) := by decide +kernel
theorem d_Mo_numbers_204 : decode c_Mo_numbers 204 = .ok (.ifCond .ne 8, 3) := by decide +kernel
theorem d_Mo_numbers_207 : decode c_Mo_numbers 207 = .ok (.aload_n 0, 1) := by decide +kernel
theorem d_Mo_numbers_208 : decode c_Mo_numbers 208 = .ok (.iload_n 1, 1) := by decide +kernel
theorem d_Mo_numbers_209 : decode c_Mo_numbers 209 = .ok (.invokevirtual 151, 3) := by decide +kernel
theorem d_Mo_numbers_212 : decode c_Mo_numbers 212 = .ok (.return_, 1) := by decide +kernel
def BAD (L G : Nat) (T : Nat → Int32) (J : Nat → Int32) (A : Nat → Nat → Int32) : Prop := J 1 = nI L ∧ J 24 = nI G ∧ A 225 = T ∧ b12 (J 17) ∧ ∃ a, a ≤ 250 ∧ J 16 = nI a
def Num (L G a u R E f : Nat) (J : Nat → Int32) : Prop := J 1 = nI L ∧ J 24 = nI G ∧ J 16 = nI a ∧ J 17 = 0 ∧ J 14 = nI u ∧ J 4 = nI R ∧ J 7 = nI E ∧ J 18 = nI (f + 1)
def Bnd (L a u R E f : Nat) : Prop := L ≤ 240 ∧ a ≤ L ∧ u ≤ a ∧ R ≤ 12 ∧ E ≤ 100 ∧ f ≤ 6
def St (L G : Nat) (T : Nat → Int32) (a : Nat) (J : Nat → Int32) (A : Nat → Nat → Int32) : Prop := ∃ (u R E f : Nat) (c s t : Nat → Nat), Num L G a u R E f J ∧ Bnd L a u R E f ∧ A 225 = T ∧ (J 28 = 0 ∨ J 28 = 1) ∧ Inv R E u f (J 28 = 0) c s t A (fun _ => False) ∧ A 239 f = -1
def Res (L G : Nat) (T : Nat → Int32) (a : Nat) (J : Nat → Int32) (A : Nat → Nat → Int32) : Prop := BAD L G T J A ∨ ∃ a', a < a' ∧ St L G T a' J A
theorem Inv.qT {R E u f : Nat} {q : Prop} {c s t : Nat → Nat} {A : Nat → Nat → Int32} {X : Nat → Prop} (h : Inv R E u f True c s t A X) : Inv R E u f q c s t A X :=
  ⟨h.1, h.2.1, h.2.2.1, h.2.2.2.1, fun g hg => ⟨(h.2.2.2.2 g hg).1, (h.2.2.2.2 g hg).2.1, (h.2.2.2.2 g hg).2.2.1, fun _ => (h.2.2.2.2 g hg).2.2.2.1 (Or.inr trivial), (h.2.2.2.2 g hg).2.2.2.2⟩⟩
theorem Inv.qF {R E u f : Nat} {q : Prop} {c s t : Nat → Nat} {A : Nat → Nat → Int32} {X : Nat → Prop} (hq : ¬ q) (h : Inv R E u f False c s t A X) : Inv R E u f q c s t A X :=
  ⟨h.1, h.2.1, h.2.2.1, h.2.2.2.1, fun g hg => ⟨(h.2.2.2.2 g hg).1, (h.2.2.2.2 g hg).2.1, (h.2.2.2.2 g hg).2.2.1, fun w => (h.2.2.2.2 g hg).2.2.2.1 (w.elim Or.inl (fun z => absurd z hq)), (h.2.2.2.2 g hg).2.2.2.2⟩⟩
theorem Inv.mono {R E u u' f : Nat} {q : Prop} {c s t : Nat → Nat} {A : Nat → Nat → Int32} {X : Nat → Prop} (h : Inv R E u f q c s t A X) (hu : u ≤ u') : Inv R E u' f q c s t A X :=
  ⟨h.1, h.2.1, fun k hk => ⟨(h.2.2.1 k hk).1, fun z => by obtain ⟨o, t, a, b, d⟩ := (h.2.2.1 k hk).2 z; exact ⟨o, t, a, b, by omega⟩⟩, h.2.2.2.1, h.2.2.2.2⟩
theorem wi_ne {x : Int32} (h : ¬ (if x < 32 ∨ 126 < x then (0 : Int32) else 1) = 0) : x ≠ -1 := by
  rintro rfl
  exact h (by decide)
set_option maxHeartbeats 4000000 in
set_option maxRecDepth 100000 in
theorem m_Mo_placed (l : Launch) {D : va_G} {cy : Nat → ClassId} {sz n : Nat} {ad : Nat → Nat} {mem : Nat → va_E} {J : Nat → Int32} {A : Nat → Nat → Int32} {nm : Nat → Int64} {m0 : Nat → va_E} {Ec R u f e9 : Nat} {fc fs ft : Nat → Nat} (hn : 242 ≤ n) (hM : MW cy ad J A nm m0 mem) (hop : J 18 = nI (f + 1)) (hf : f ≤ 6) (hEb : Ec ≤ 100) (hI : Inv R Ec u f True fc fs ft A (fun _ => False)) (he : e9 < Ec) (hse : fs f < e9) (hrr : A 239 f = -1 ∨ ∃ r, A 239 f = nI r ∧ fs f < r ∧ r < e9) (hC : CL e9 A) : MV l D cy sz n ad y_Mo_placed c_Mo_placed 3 ({ frames := 1, cells := 0, slots := 0, locals := 30 } : Room) mem [.ref (ad 224), .int (nI e9)] (fun mem' => ∃ A', MW cy ad J A' nm m0 mem' ∧ Inv R Ec u f True fc fs ft A' (fun _ => False) ∧ A' 239 f = -1 ∧ ∀ j, j ≠ 232 → j ≠ 233 → j ≠ 239 → A' j = A j) := by
  refine Met.ofW (cc := c_Mo_placed) (maxL := 3) (ret := none) (by decide) rfl ?_
  intro p e s m args below meth c s₁ B hml hv
  obtain ⟨rfl, E, hP, hD⟩ := hv
  have hx := B.exec
  have hb := B.bytes
  have hr := B.returns
  have hlocks := B.notSynchronized
  have Bx : MB p s m [.ref (ad 224), .int (nI e9)].toArray c c_Mo_placed "AbnfChartModel" D cy := ⟨hx, hb, tb_all (atoms_spec B.pre) E.2.1, findClass_of_methodNamed B.named, E.1⟩
  have hS : va_S (Az sz) s.heap s.heap [] := va_S.rf
  have hl := lv_entry ([.ref (ad 224), .int (nI e9)]) (n := 3) (Nat.le_of_ble_eq_true rfl)
  rw [lg_entry_eq]
  generalize (lg_sl ([.ref (ad 224), .int (nI e9)]) ++ List.replicate (3 - (lg_sl ([.ref (ad 224), .int (nI e9)])).length) Slot.unset).toArray = ls at hl ⊢
  have hl : lv_has ls 3 [(0, .ref (ad 224)), (1, .int (nI e9))] := hl
  have hfr := (hI.2.2.2.2 f (Nat.le_refl _)).2.2.2.1 (Or.inr trivial)
  refine lv_aload_n Bx.1 Bx.2.1 d_Mo_placed_0 rfl (lv_at hl 0 rfl) ?_
  refine f_get Bx hP (by omega) hM.1 rfl inMo 18 (by decide) kw_674 rfl rfl d_Mo_placed_1 ?_
  rw [hop]
  refine lv_iconst (v := 1) Bx.1 Bx.2.1 d_Mo_placed_4 (by decide) ?_
  refine lv_isub Bx.1 Bx.2.1 d_Mo_placed_5 ?_
  rw [show nI (f + 1) - 1 = nI (f) from nI_pred (f)]
  refine lv_istore_n (lv' := [(2, .int (nI (f))), (0, .ref (ad 224)), (1, .int (nI e9))]) Bx.1 Bx.2.1 d_Mo_placed_6 rfl hl (by decide) rfl (fun ls hl => ?_)
  refine lv_aload_n Bx.1 Bx.2.1 d_Mo_placed_7 rfl (lv_at hl 1 rfl) ?_
  refine f_get Bx hP (by omega) hM.1 rfl inMo 23 (by decide) kw_679 rfl rfl d_Mo_placed_8 ?_
  refine lv_iload_n Bx.1 Bx.2.1 d_Mo_placed_11 rfl (lv_at hl 0 rfl) ?_
  refine f_iald Bx hP (by omega) (show mem 239 = .inl (cy 1, 8, .inl (A 239)) from hM.2.2.1 239 (by decide) (by decide) (by decide)) (vp_in_nI (n := f) (by omega) (by decide)) d_Mo_placed_12 ?_
  rw [nI_clamp (n := f) (by omega)]
  rcases hrr with hv | ⟨r, hv, hr1, hr2⟩
  · rw [hv]
    refine lv_if_lt Bx.1 Bx.2.1 d_Mo_placed_13 rfl (fun hb1 => ?_) (fun hb1 => ?_)
    · refine lv_aload_n Bx.1 Bx.2.1 d_Mo_placed_30 rfl (lv_at hl 1 rfl) ?_
      refine lv_aload_n Bx.1 Bx.2.1 d_Mo_placed_31 rfl (lv_at hl 1 rfl) ?_
      refine f_get Bx hP (by omega) hM.1 rfl inMo 22 (by decide) kw_678 rfl rfl d_Mo_placed_32 ?_
      refine lv_iload_n Bx.1 Bx.2.1 d_Mo_placed_35 rfl (lv_at hl 0 rfl) ?_
      refine f_iald Bx hP (by omega) (show mem 238 = .inl (cy 1, 8, .inl (A 238)) from hM.2.2.1 238 (by decide) (by decide) (by decide)) (vp_in_nI (n := f) (by omega) (by decide)) d_Mo_placed_36 ?_
      rw [nI_clamp (n := f) (by omega)]
      rw [hfr.1]
      refine lv_iload_n Bx.1 Bx.2.1 d_Mo_placed_37 rfl (lv_at hl 2 rfl) ?_
      refine f_callVv (na := 2) (As := [.int (nI (fs f)), .int (nI e9)]) (rest := []) Bx hml E hP hD hS (by omega) hM.1 rfl (m_Mo_append l hn hM hEb hse he hI.1 hC) kw_822 kw_824 sel_Mo_append kw_8 kw_825 (by decide +kernel) ⟨rfl, rfl⟩ ⟨Nat.le_of_ble_eq_true rfl, Nat.le_of_ble_eq_true rfl⟩ rfl hl.1 (Nat.le_of_ble_eq_true rfl) d_Mo_placed_38 ⟨Nat.le_of_ble_eq_true rfl, Nat.le_of_ble_eq_true rfl⟩ (fun mem3 H locs hq hP hS => ?_)
      have hD : va_D (Az sz) (fw n ad mem3) := fw_D hD
      obtain ⟨A4, hW5, hap6⟩ := hq
      refine lv_aload_n Bx.1 Bx.2.1 d_Mo_placed_41 rfl (lv_at hl 1 rfl) ?_
      refine f_get Bx hP (by omega) hW5.1 rfl inMo 23 (by decide) kw_679 rfl rfl d_Mo_placed_42 ?_
      refine lv_iload_n Bx.1 Bx.2.1 d_Mo_placed_45 rfl (lv_at hl 0 rfl) ?_
      refine lv_iconst (v := -1) Bx.1 Bx.2.1 d_Mo_placed_46 (by decide) ?_
      refine f_iast (x := (-1)) (i := nI (f)) Bx hP hD hS (by omega) (show mem3 239 = .inl (cy 1, 8, .inl (A4 239)) from hW5.2.2.1 239 (by decide) (by decide) (by decide)) (vp_in_nI (n := f) (by omega) (by decide)) d_Mo_placed_47 (fun H locs hP hS => ?_)
      rw [nI_clamp (n := f) (by omega)] at hP
      obtain ⟨A7, eA7⟩ : ∃ z, z = va_up A4 239 (upd (A4 239) (f) ((-1))) := ⟨_, rfl⟩
      obtain ⟨mem8, e_mem8⟩ : ∃ z, z = va_up mem3 239 (.inl (cy 1, 8, .inl (upd (A4 239) (f) ((-1))))) := ⟨_, rfl⟩
      have hP : va_P D vcl (fw n ad mem8) H := by rw [e_mem8]; exact hP
      have hD : va_D (Az sz) (fw n ad mem8) := fw_D hD
      have hW9 : MW cy ad J A7 nm m0 mem8 := by rw [e_mem8, eA7]; exact hW5.upA (j := 239) (by decide) (by decide) (by decide) (Or.inl (by decide))
      obtain ⟨hinv, h39⟩ := hI.place hEb hap6 he (by omega) (hfr.2.1) (v := -1) (Or.inl rfl) (X' := fun _ => False) (fun k _ z => z.elim) (fun r hr z => absurd (hv.symm.trans z).symm (nI_m (by omega))) eA7
      have hjj : ∀ j, j ≠ 232 → j ≠ 233 → j ≠ 239 → A7 j = A j := fun j q1 q2 q3 => by
        obtain ⟨_, _, _, k3, _⟩ := hap6.at
        rw [eA7, va_up_ne _ _ q3, k3 j q1 q2]
      exact W.vret hx hb hr (fun t ht hW => ⟨⟨mem8, rfl, ⟨A7, hW9, hinv, h39, hjj⟩, by show va_P _ _ _ t.heap; rw [ht]; exact hP⟩, hS.F ht⟩) hS.2.2 d_Mo_placed_48
    · exact absurd hb1 (by decide)
  · rw [hv]
    refine lv_if_lt Bx.1 Bx.2.1 d_Mo_placed_13 rfl (fun hb10 => ?_) (fun hb10 => ?_)
    · exact absurd hb10 (by first | exact nI_pos (by omega) | exact fun q9 => q9 (nI_pos' (by omega)))
    · refine lv_aload_n Bx.1 Bx.2.1 d_Mo_placed_16 rfl (lv_at hl 1 rfl) ?_
      refine lv_aload_n Bx.1 Bx.2.1 d_Mo_placed_17 rfl (lv_at hl 1 rfl) ?_
      refine f_get Bx hP (by omega) hM.1 rfl inMo 23 (by decide) kw_679 rfl rfl d_Mo_placed_18 ?_
      refine lv_iload_n Bx.1 Bx.2.1 d_Mo_placed_21 rfl (lv_at hl 0 rfl) ?_
      refine f_iald Bx hP (by omega) (show mem 239 = .inl (cy 1, 8, .inl (A 239)) from hM.2.2.1 239 (by decide) (by decide) (by decide)) (vp_in_nI (n := f) (by omega) (by decide)) d_Mo_placed_22 ?_
      rw [nI_clamp (n := f) (by omega)]
      rw [hv]
      refine lv_iload_n Bx.1 Bx.2.1 d_Mo_placed_23 rfl (lv_at hl 2 rfl) ?_
      refine f_callVv (na := 2) (As := [.int (nI r), .int (nI e9)]) (rest := []) Bx hml E hP hD hS (by omega) hM.1 rfl (m_Mo_append l hn hM hEb (show r < e9 by omega) he hI.1 hC) kw_822 kw_824 sel_Mo_append kw_8 kw_825 (by decide +kernel) ⟨rfl, rfl⟩ ⟨Nat.le_of_ble_eq_true rfl, Nat.le_of_ble_eq_true rfl⟩ rfl hl.1 (Nat.le_of_ble_eq_true rfl) d_Mo_placed_24 ⟨Nat.le_of_ble_eq_true rfl, Nat.le_of_ble_eq_true rfl⟩ (fun mem12 H locs hq hP hS => ?_)
      have hD : va_D (Az sz) (fw n ad mem12) := fw_D hD
      obtain ⟨A13, hW14, hap15⟩ := hq
      refine lv_goto Bx.1 Bx.2.1 d_Mo_placed_27 rfl ?_
      refine lv_aload_n Bx.1 Bx.2.1 d_Mo_placed_41 rfl (lv_at hl 1 rfl) ?_
      refine f_get Bx hP (by omega) hW14.1 rfl inMo 23 (by decide) kw_679 rfl rfl d_Mo_placed_42 ?_
      refine lv_iload_n Bx.1 Bx.2.1 d_Mo_placed_45 rfl (lv_at hl 0 rfl) ?_
      refine lv_iconst (v := -1) Bx.1 Bx.2.1 d_Mo_placed_46 (by decide) ?_
      refine f_iast (x := (-1)) (i := nI (f)) Bx hP hD hS (by omega) (show mem12 239 = .inl (cy 1, 8, .inl (A13 239)) from hW14.2.2.1 239 (by decide) (by decide) (by decide)) (vp_in_nI (n := f) (by omega) (by decide)) d_Mo_placed_47 (fun H locs hP hS => ?_)
      rw [nI_clamp (n := f) (by omega)] at hP
      obtain ⟨A16, eA16⟩ : ∃ z, z = va_up A13 239 (upd (A13 239) (f) ((-1))) := ⟨_, rfl⟩
      obtain ⟨mem17, e_mem17⟩ : ∃ z, z = va_up mem12 239 (.inl (cy 1, 8, .inl (upd (A13 239) (f) ((-1))))) := ⟨_, rfl⟩
      have hP : va_P D vcl (fw n ad mem17) H := by rw [e_mem17]; exact hP
      have hD : va_D (Az sz) (fw n ad mem17) := fw_D hD
      have hW18 : MW cy ad J A16 nm m0 mem17 := by rw [e_mem17, eA16]; exact hW14.upA (j := 239) (by decide) (by decide) (by decide) (Or.inl (by decide))
      obtain ⟨hinv, h39⟩ := hI.place hEb hap15 he (by omega) (by omega) (v := -1) (Or.inl rfl) (X' := fun _ => False) (fun k _ z => z.elim) (fun r2 hr z => (nI_eq (by omega) (by omega)).mp (z.symm.trans hv)) eA16
      have hjj : ∀ j, j ≠ 232 → j ≠ 233 → j ≠ 239 → A16 j = A j := fun j q1 q2 q3 => by
        obtain ⟨_, _, _, k3, _⟩ := hap15.at
        rw [eA16, va_up_ne _ _ q3, k3 j q1 q2]
      exact W.vret hx hb hr (fun t ht hW => ⟨⟨mem17, rfl, ⟨A16, hW18, hinv, h39, hjj⟩, by show va_P _ _ _ t.heap; rw [ht]; exact hP⟩, hS.F ht⟩) hS.2.2 d_Mo_placed_48
set_option maxHeartbeats 4000000 in
set_option maxRecDepth 100000 in
theorem m_Mo_number (l : Launch) {D : va_G} {cy : Nat → ClassId} {sz n : Nat} {ad : Nat → Nat} {mem : Nat → va_E} {J : Nat → Int32} {A : Nat → Nat → Int32} {nm : Nat → Int64} {m0 : Nat → va_E} {L a : Nat} {ba fro : Int32} (hn : 242 ≤ n) (hM : MW cy ad J A nm m0 mem) (h1 : J 1 = nI L) (hL : L ≤ 240) (ha : J 16 = nI a) (haL : a ≤ L) (h17 : J 17 = 0) : MI l D cy sz n ad y_Mo_number c_Mo_number 5 (some .int) ({ frames := 3, cells := 0, slots := 0, locals := 90 } : Room) mem [.ref (ad 224), .int (ba), .int (fro)] (fun r mem' => ∃ J' a', MW cy ad J' A nm m0 mem' ∧ a ≤ a' ∧ a' ≤ L ∧ J' 16 = nI a' ∧ (∀ i, i ≠ 16 → i ≠ 17 → i ≠ 3 → J' i = J i) ∧ (b12 (J' 17) ∨ (J' 17 = 0 ∧ a < a'))) := by
  refine Met.ofW (cc := c_Mo_number) (maxL := 5) (ret := (some .int)) (by decide) rfl ?_
  intro p e s m args below meth c s₁ B hml hv
  obtain ⟨rfl, E, hP, hD⟩ := hv
  have hx := B.exec
  have hb := B.bytes
  have hr := B.returns
  have hlocks := B.notSynchronized
  have Bx : MB p s m [.ref (ad 224), .int (ba), .int (fro)].toArray c c_Mo_number "AbnfChartModel" D cy := ⟨hx, hb, tb_all (atoms_spec B.pre) E.2.1, findClass_of_methodNamed B.named, E.1⟩
  have hS : va_S (Az sz) s.heap s.heap [] := va_S.rf
  have hl := lv_entry ([.ref (ad 224), .int (ba), .int (fro)]) (n := 5) (Nat.le_of_ble_eq_true rfl)
  rw [lg_entry_eq]
  generalize (lg_sl ([.ref (ad 224), .int (ba), .int (fro)]) ++ List.replicate (5 - (lg_sl ([.ref (ad 224), .int (ba), .int (fro)])).length) Slot.unset).toArray = ls at hl ⊢
  have hl : lv_has ls 5 [(0, .ref (ad 224)), (1, .int (ba)), (2, .int (fro))] := hl
  refine lv_iconst (v := 0) Bx.1 Bx.2.1 d_Mo_number_0 (by decide) ?_
  refine lv_istore_n (lv' := [(3, .int (0)), (0, .ref (ad 224)), (1, .int (ba)), (2, .int (fro))]) Bx.1 Bx.2.1 d_Mo_number_1 rfl hl (by decide) rfl (fun ls hl => ?_)
  refine lv_iconst (v := 0) Bx.1 Bx.2.1 d_Mo_number_2 (by decide) ?_
  refine lv_istore (lv' := [(4, .int (0)), (3, .int (0)), (0, .ref (ad 224)), (1, .int (ba)), (2, .int (fro))]) Bx.1 Bx.2.1 d_Mo_number_3 hl (by decide) rfl (fun ls hl => ?_)
  have loop1 : ∀ (d2 : Nat) (mem9 : Nat → va_E) (J9 : Nat → Int32) (a1 : Nat) (k : Nat) (v : Int32) (ls : Array Slot) (H : Heap) (locs : List Loc), (3 - k < d2) → (J9 = va_up J 16 (nI a1) ∧ J9 1 = nI L ∧ J9 16 = nI a1 ∧ J9 17 = 0) → (MW cy ad J9 A nm m0 mem9) → (a1 = a + k ∧ a1 ≤ L ∧ k ≤ 3) → (va_P D vcl (fw n ad mem9) H) → (va_D (Az sz) (fw n ad mem9)) → (va_S (Az sz) s.heap H locs) → (lv_has ls 5 [(4, .int (nI k)), (3, .int (v)), (0, .ref (ad 224)), (1, .int (ba)), (2, .int (fro))]) → W p l e (headSpec (Cond.code y_Mo_number c_Mo_number 5 (some .int) :: tg) ({ frames := 3, cells := 0, slots := 0, locals := 90 } : Room)).room s m [.ref (ad 224), .int (ba), .int (fro)].toArray below meth c H locs 0 0 (MQ below (va_Qi (fun r mem' => ∃ J' a', MW cy ad J' A nm m0 mem' ∧ a ≤ a' ∧ a' ≤ L ∧ J' 16 = nI a' ∧ (∀ i, i ≠ 16 → i ≠ 17 → i ≠ 3 → J' i = J i) ∧ (b12 (J' 17) ∨ (J' 17 = 0 ∧ a < a'))) (PP D n ad) (Az sz)) [.ref (ad 224), .int (ba), .int (fro)].toArray s 0 0 (Az sz)) (F0 m 5 ls []) := by
    intro d2
    induction d2 with
    | zero => intro mem9 J9 a1 k v ls H locs hmeas7; exact absurd hmeas7 (Nat.not_lt_zero _)
    | succ d2 ih6 =>
      intro mem9 J9 a1 k v ls H locs hmeas7 hz3 hz4 hz5 hP hD hS hl
      obtain ⟨eJ9, g1, g16, g17⟩ := hz3
      refine lv_iload Bx.1 Bx.2.1 d_Mo_number_5 (lv_at hl 0 rfl) ?_
      refine lv_iload_n Bx.1 Bx.2.1 d_Mo_number_7 rfl (lv_at hl 3 rfl) ?_
      refine lv_bipush (v := 10) Bx.1 Bx.2.1 d_Mo_number_8 (by decide) ?_
      refine lv_icmp_ne Bx.1 Bx.2.1 d_Mo_number_10 rfl (fun hb8 => ?_) (fun hb8 => ?_)
      · refine lv_iconst (v := 2) Bx.1 Bx.2.1 d_Mo_number_17 (by decide) ?_
        refine lv_icmp_ge Bx.1 Bx.2.1 d_Mo_number_18 rfl (fun hb9 => ?_) (fun hb9 => ?_)
        · have hN10 : 2 ≤ k := (nI_leI (by omega) (by omega)).mp (show nI (2) ≤ nI (k) from hb9)
          refine lv_iload Bx.1 Bx.2.1 d_Mo_number_61 (lv_at hl 0 rfl) ?_
          refine lv_if_ne Bx.1 Bx.2.1 d_Mo_number_63 rfl (fun hb11 => ?_) (fun hb11 => ?_)
          · have hN12 : ¬ k = 0 := fun q9 => hb11 (show nI (k) = nI (0) from (nI_eq (by omega) (by omega)).mpr q9)
            refine lv_iload_n Bx.1 Bx.2.1 d_Mo_number_75 rfl (lv_at hl 1 rfl) ?_
            refine lv_bipush (v := 127) Bx.1 Bx.2.1 d_Mo_number_76 (by decide) ?_
            refine lv_icmp_le Bx.1 Bx.2.1 d_Mo_number_78 rfl (fun hb13 => ?_) (fun hb13 => ?_)
            · refine lv_iload_n Bx.1 Bx.2.1 d_Mo_number_87 rfl (lv_at hl 1 rfl) ?_
              exact W.iret (v := v) hx hb hr (fun t ht hW => ⟨⟨v, mem9, rfl, ⟨J9, a1, hz4, by omega, by omega, g16, fun i q1 q2 q3 => by rw [eJ9, va_up_ne _ _ q1], Or.inr ⟨g17, by omega⟩⟩, by show va_P _ _ _ t.heap; rw [ht]; exact hP⟩, hS.F ht⟩) hS.2.2 d_Mo_number_88
            · refine lv_aload_n Bx.1 Bx.2.1 d_Mo_number_81 rfl (lv_at hl 2 rfl) ?_
              refine lv_iconst (v := 1) Bx.1 Bx.2.1 d_Mo_number_82 (by decide) ?_
              refine lv_iload_n Bx.1 Bx.2.1 d_Mo_number_83 rfl (lv_at hl 4 rfl) ?_
              refine f_callVv (na := 2) (As := [.int (1), .int (fro)]) (rest := []) Bx hml E hP hD hS (by omega) hz4.1 rfl (m_Mo_wrong l hn hz4 (Or.inl g17) (by first | exact Or.inl rfl | exact Or.inr rfl)) kw_799 kw_801 sel_Mo_wrong kw_8 kw_802 (by decide +kernel) ⟨rfl, rfl⟩ ⟨Nat.le_of_ble_eq_true rfl, Nat.le_of_ble_eq_true rfl⟩ rfl hl.1 (Nat.le_of_ble_eq_true rfl) d_Mo_number_84 ⟨Nat.le_of_ble_eq_true rfl, Nat.le_of_ble_eq_true rfl⟩ (fun mem15 H locs hq hP hS => ?_)
              have hD : va_D (Az sz) (fw n ad mem15) := fw_D hD
              obtain ⟨J16, hW17, hwr18⟩ := hq
              have kk19 : J16 1 = nI L := (show J16 1 = J9 1 from hwr18.2 1 (by decide) (by decide)).trans g1
              have kk20 : J16 16 = nI a1 := (show J16 16 = J9 16 from hwr18.2 16 (by decide) (by decide)).trans g16
              refine lv_iload_n Bx.1 Bx.2.1 d_Mo_number_87 rfl (lv_at hl 1 rfl) ?_
              exact W.iret (v := v) hx hb hr (fun t ht hW => ⟨⟨v, mem15, rfl, ⟨J16, a1, hW17, by omega, by omega, kk20, fun i q1 q2 q3 => by rw [hwr18.2 i q2 q3, eJ9, va_up_ne _ _ q1], Or.inl hwr18.1⟩, by show va_P _ _ _ t.heap; rw [ht]; exact hP⟩, hS.F ht⟩) hS.2.2 d_Mo_number_88
          · have hN21 : k = 0 := (nI_eq (by omega) (by omega)).mp (show nI (k) = nI (0) from hb11)
            refine lv_aload_n Bx.1 Bx.2.1 d_Mo_number_66 rfl (lv_at hl 2 rfl) ?_
            refine lv_iconst (v := 1) Bx.1 Bx.2.1 d_Mo_number_67 (by decide) ?_
            refine lv_aload_n Bx.1 Bx.2.1 d_Mo_number_68 rfl (lv_at hl 2 rfl) ?_
            refine f_get Bx hP (by omega) hz4.1 rfl inMo 16 (by decide) kw_672 rfl rfl d_Mo_number_69 ?_
            rw [g16]
            refine f_callVv (na := 2) (As := [.int (1), .int (nI a1)]) (rest := []) Bx hml E hP hD hS (by omega) hz4.1 rfl (m_Mo_wrong l hn hz4 (Or.inl g17) (by first | exact Or.inl rfl | exact Or.inr rfl)) kw_799 kw_801 sel_Mo_wrong kw_8 kw_802 (by decide +kernel) ⟨rfl, rfl⟩ ⟨Nat.le_of_ble_eq_true rfl, Nat.le_of_ble_eq_true rfl⟩ rfl hl.1 (Nat.le_of_ble_eq_true rfl) d_Mo_number_72 ⟨Nat.le_of_ble_eq_true rfl, Nat.le_of_ble_eq_true rfl⟩ (fun mem23 H locs hq hP hS => ?_)
            have hD : va_D (Az sz) (fw n ad mem23) := fw_D hD
            obtain ⟨J24, hW25, hwr26⟩ := hq
            have kk27 : J24 1 = nI L := (show J24 1 = J9 1 from hwr26.2 1 (by decide) (by decide)).trans g1
            have kk28 : J24 16 = nI a1 := (show J24 16 = J9 16 from hwr26.2 16 (by decide) (by decide)).trans g16
            refine lv_iload_n Bx.1 Bx.2.1 d_Mo_number_75 rfl (lv_at hl 1 rfl) ?_
            refine lv_bipush (v := 127) Bx.1 Bx.2.1 d_Mo_number_76 (by decide) ?_
            refine lv_icmp_le Bx.1 Bx.2.1 d_Mo_number_78 rfl (fun hb29 => ?_) (fun hb29 => ?_)
            · refine lv_iload_n Bx.1 Bx.2.1 d_Mo_number_87 rfl (lv_at hl 1 rfl) ?_
              exact W.iret (v := v) hx hb hr (fun t ht hW => ⟨⟨v, mem23, rfl, ⟨J24, a1, hW25, by omega, by omega, kk28, fun i q1 q2 q3 => by rw [hwr26.2 i q2 q3, eJ9, va_up_ne _ _ q1], Or.inl hwr26.1⟩, by show va_P _ _ _ t.heap; rw [ht]; exact hP⟩, hS.F ht⟩) hS.2.2 d_Mo_number_88
            · refine lv_aload_n Bx.1 Bx.2.1 d_Mo_number_81 rfl (lv_at hl 2 rfl) ?_
              refine lv_iconst (v := 1) Bx.1 Bx.2.1 d_Mo_number_82 (by decide) ?_
              refine lv_iload_n Bx.1 Bx.2.1 d_Mo_number_83 rfl (lv_at hl 4 rfl) ?_
              refine f_callVv (na := 2) (As := [.int (1), .int (fro)]) (rest := []) Bx hml E hP hD hS (by omega) hW25.1 rfl (m_Mo_wrong l hn hW25 (Or.inr hwr26.1) (by first | exact Or.inl rfl | exact Or.inr rfl)) kw_799 kw_801 sel_Mo_wrong kw_8 kw_802 (by decide +kernel) ⟨rfl, rfl⟩ ⟨Nat.le_of_ble_eq_true rfl, Nat.le_of_ble_eq_true rfl⟩ rfl hl.1 (Nat.le_of_ble_eq_true rfl) d_Mo_number_84 ⟨Nat.le_of_ble_eq_true rfl, Nat.le_of_ble_eq_true rfl⟩ (fun mem31 H locs hq hP hS => ?_)
              have hD : va_D (Az sz) (fw n ad mem31) := fw_D hD
              obtain ⟨J32, hW33, hwr34⟩ := hq
              have kk35 : J32 1 = nI L := (show J32 1 = J24 1 from hwr34.2 1 (by decide) (by decide)).trans kk27
              have kk36 : J32 16 = nI a1 := (show J32 16 = J24 16 from hwr34.2 16 (by decide) (by decide)).trans kk28
              refine lv_iload_n Bx.1 Bx.2.1 d_Mo_number_87 rfl (lv_at hl 1 rfl) ?_
              exact W.iret (v := v) hx hb hr (fun t ht hW => ⟨⟨v, mem31, rfl, ⟨J32, a1, hW33, by omega, by omega, kk36, fun i q1 q2 q3 => by rw [hwr34.2 i q2 q3, hwr26.2 i q2 q3, eJ9, va_up_ne _ _ q1], Or.inl hwr34.1⟩, by show va_P _ _ _ t.heap; rw [ht]; exact hP⟩, hS.F ht⟩) hS.2.2 d_Mo_number_88
        · have hN37 : ¬ 2 ≤ k := fun q9 => hb9 (show nI (2) ≤ nI (k) from (nI_leI (by omega) (by omega)).mpr q9)
          refine lv_aload_n Bx.1 Bx.2.1 d_Mo_number_21 rfl (lv_at hl 2 rfl) ?_
          refine f_callVi (na := 0) (As := []) (rest := []) Bx hml E hP hD hS (by omega) hz4.1 rfl (m_Mo_here l hn hz4 g1 hL g16 (by omega)) kw_778 kw_780 sel_Mo_here kw_8 kw_781 (by decide +kernel) ⟨rfl, rfl⟩ ⟨Nat.le_of_ble_eq_true rfl, Nat.le_of_ble_eq_true rfl⟩ rfl hl.1 (Nat.le_of_ble_eq_true rfl) d_Mo_number_22 ⟨Nat.le_of_ble_eq_true rfl, Nat.le_of_ble_eq_true rfl⟩ (fun r38 mem39 H locs hq hP hS => ?_)
          have hD : va_D (Az sz) (fw n ad mem39) := fw_D hD
          obtain ⟨hre, hq⟩ := hq
          rw [hq] at hP hD
          subst hre
          refine lv_iload_n Bx.1 Bx.2.1 d_Mo_number_25 rfl (lv_at hl 3 rfl) ?_
          refine f_callSi (na := 2) (As := [.int (hereF L (A 225) (a1)), .int (ba)]) (rest := []) Bx hml E.2.1 (m_Mo_figure l (hereF L (A 225) (a1)) (ba)) kw_850 kw_851 kw_8 kw_852 (by decide +kernel) ⟨rfl, rfl⟩ ⟨Nat.le_of_ble_eq_true rfl, Nat.le_of_ble_eq_true rfl⟩ rfl hl.1 (Nat.le_of_ble_eq_true rfl) d_Mo_number_26 ⟨Nat.le_of_ble_eq_true rfl, Nat.le_of_ble_eq_true rfl⟩ (fun r41 hs40 => ?_)
          refine lv_if_lt Bx.1 Bx.2.1 d_Mo_number_29 rfl (fun hb42 => ?_) (fun hb42 => ?_)
          · refine lv_iload Bx.1 Bx.2.1 d_Mo_number_61 (lv_at hl 0 rfl) ?_
            refine lv_if_ne Bx.1 Bx.2.1 d_Mo_number_63 rfl (fun hb43 => ?_) (fun hb43 => ?_)
            · have hN44 : ¬ k = 0 := fun q9 => hb43 (show nI (k) = nI (0) from (nI_eq (by omega) (by omega)).mpr q9)
              refine lv_iload_n Bx.1 Bx.2.1 d_Mo_number_75 rfl (lv_at hl 1 rfl) ?_
              refine lv_bipush (v := 127) Bx.1 Bx.2.1 d_Mo_number_76 (by decide) ?_
              refine lv_icmp_le Bx.1 Bx.2.1 d_Mo_number_78 rfl (fun hb45 => ?_) (fun hb45 => ?_)
              · refine lv_iload_n Bx.1 Bx.2.1 d_Mo_number_87 rfl (lv_at hl 1 rfl) ?_
                exact W.iret (v := v) hx hb hr (fun t ht hW => ⟨⟨v, mem9, rfl, ⟨J9, a1, hz4, by omega, by omega, g16, fun i q1 q2 q3 => by rw [eJ9, va_up_ne _ _ q1], Or.inr ⟨g17, by omega⟩⟩, by show va_P _ _ _ t.heap; rw [ht]; exact hP⟩, hS.F ht⟩) hS.2.2 d_Mo_number_88
              · refine lv_aload_n Bx.1 Bx.2.1 d_Mo_number_81 rfl (lv_at hl 2 rfl) ?_
                refine lv_iconst (v := 1) Bx.1 Bx.2.1 d_Mo_number_82 (by decide) ?_
                refine lv_iload_n Bx.1 Bx.2.1 d_Mo_number_83 rfl (lv_at hl 4 rfl) ?_
                refine f_callVv (na := 2) (As := [.int (1), .int (fro)]) (rest := []) Bx hml E hP hD hS (by omega) hz4.1 rfl (m_Mo_wrong l hn hz4 (Or.inl g17) (by first | exact Or.inl rfl | exact Or.inr rfl)) kw_799 kw_801 sel_Mo_wrong kw_8 kw_802 (by decide +kernel) ⟨rfl, rfl⟩ ⟨Nat.le_of_ble_eq_true rfl, Nat.le_of_ble_eq_true rfl⟩ rfl hl.1 (Nat.le_of_ble_eq_true rfl) d_Mo_number_84 ⟨Nat.le_of_ble_eq_true rfl, Nat.le_of_ble_eq_true rfl⟩ (fun mem47 H locs hq hP hS => ?_)
                have hD : va_D (Az sz) (fw n ad mem47) := fw_D hD
                obtain ⟨J48, hW49, hwr50⟩ := hq
                have kk51 : J48 1 = nI L := (show J48 1 = J9 1 from hwr50.2 1 (by decide) (by decide)).trans g1
                have kk52 : J48 16 = nI a1 := (show J48 16 = J9 16 from hwr50.2 16 (by decide) (by decide)).trans g16
                refine lv_iload_n Bx.1 Bx.2.1 d_Mo_number_87 rfl (lv_at hl 1 rfl) ?_
                exact W.iret (v := v) hx hb hr (fun t ht hW => ⟨⟨v, mem47, rfl, ⟨J48, a1, hW49, by omega, by omega, kk52, fun i q1 q2 q3 => by rw [hwr50.2 i q2 q3, eJ9, va_up_ne _ _ q1], Or.inl hwr50.1⟩, by show va_P _ _ _ t.heap; rw [ht]; exact hP⟩, hS.F ht⟩) hS.2.2 d_Mo_number_88
            · have hN53 : k = 0 := (nI_eq (by omega) (by omega)).mp (show nI (k) = nI (0) from hb43)
              refine lv_aload_n Bx.1 Bx.2.1 d_Mo_number_66 rfl (lv_at hl 2 rfl) ?_
              refine lv_iconst (v := 1) Bx.1 Bx.2.1 d_Mo_number_67 (by decide) ?_
              refine lv_aload_n Bx.1 Bx.2.1 d_Mo_number_68 rfl (lv_at hl 2 rfl) ?_
              refine f_get Bx hP (by omega) hz4.1 rfl inMo 16 (by decide) kw_672 rfl rfl d_Mo_number_69 ?_
              rw [g16]
              refine f_callVv (na := 2) (As := [.int (1), .int (nI a1)]) (rest := []) Bx hml E hP hD hS (by omega) hz4.1 rfl (m_Mo_wrong l hn hz4 (Or.inl g17) (by first | exact Or.inl rfl | exact Or.inr rfl)) kw_799 kw_801 sel_Mo_wrong kw_8 kw_802 (by decide +kernel) ⟨rfl, rfl⟩ ⟨Nat.le_of_ble_eq_true rfl, Nat.le_of_ble_eq_true rfl⟩ rfl hl.1 (Nat.le_of_ble_eq_true rfl) d_Mo_number_72 ⟨Nat.le_of_ble_eq_true rfl, Nat.le_of_ble_eq_true rfl⟩ (fun mem55 H locs hq hP hS => ?_)
              have hD : va_D (Az sz) (fw n ad mem55) := fw_D hD
              obtain ⟨J56, hW57, hwr58⟩ := hq
              have kk59 : J56 1 = nI L := (show J56 1 = J9 1 from hwr58.2 1 (by decide) (by decide)).trans g1
              have kk60 : J56 16 = nI a1 := (show J56 16 = J9 16 from hwr58.2 16 (by decide) (by decide)).trans g16
              refine lv_iload_n Bx.1 Bx.2.1 d_Mo_number_75 rfl (lv_at hl 1 rfl) ?_
              refine lv_bipush (v := 127) Bx.1 Bx.2.1 d_Mo_number_76 (by decide) ?_
              refine lv_icmp_le Bx.1 Bx.2.1 d_Mo_number_78 rfl (fun hb61 => ?_) (fun hb61 => ?_)
              · refine lv_iload_n Bx.1 Bx.2.1 d_Mo_number_87 rfl (lv_at hl 1 rfl) ?_
                exact W.iret (v := v) hx hb hr (fun t ht hW => ⟨⟨v, mem55, rfl, ⟨J56, a1, hW57, by omega, by omega, kk60, fun i q1 q2 q3 => by rw [hwr58.2 i q2 q3, eJ9, va_up_ne _ _ q1], Or.inl hwr58.1⟩, by show va_P _ _ _ t.heap; rw [ht]; exact hP⟩, hS.F ht⟩) hS.2.2 d_Mo_number_88
              · refine lv_aload_n Bx.1 Bx.2.1 d_Mo_number_81 rfl (lv_at hl 2 rfl) ?_
                refine lv_iconst (v := 1) Bx.1 Bx.2.1 d_Mo_number_82 (by decide) ?_
                refine lv_iload_n Bx.1 Bx.2.1 d_Mo_number_83 rfl (lv_at hl 4 rfl) ?_
                refine f_callVv (na := 2) (As := [.int (1), .int (fro)]) (rest := []) Bx hml E hP hD hS (by omega) hW57.1 rfl (m_Mo_wrong l hn hW57 (Or.inr hwr58.1) (by first | exact Or.inl rfl | exact Or.inr rfl)) kw_799 kw_801 sel_Mo_wrong kw_8 kw_802 (by decide +kernel) ⟨rfl, rfl⟩ ⟨Nat.le_of_ble_eq_true rfl, Nat.le_of_ble_eq_true rfl⟩ rfl hl.1 (Nat.le_of_ble_eq_true rfl) d_Mo_number_84 ⟨Nat.le_of_ble_eq_true rfl, Nat.le_of_ble_eq_true rfl⟩ (fun mem63 H locs hq hP hS => ?_)
                have hD : va_D (Az sz) (fw n ad mem63) := fw_D hD
                obtain ⟨J64, hW65, hwr66⟩ := hq
                have kk67 : J64 1 = nI L := (show J64 1 = J56 1 from hwr66.2 1 (by decide) (by decide)).trans kk59
                have kk68 : J64 16 = nI a1 := (show J64 16 = J56 16 from hwr66.2 16 (by decide) (by decide)).trans kk60
                refine lv_iload_n Bx.1 Bx.2.1 d_Mo_number_87 rfl (lv_at hl 1 rfl) ?_
                exact W.iret (v := v) hx hb hr (fun t ht hW => ⟨⟨v, mem63, rfl, ⟨J64, a1, hW65, by omega, by omega, kk68, fun i q1 q2 q3 => by rw [hwr66.2 i q2 q3, hwr58.2 i q2 q3, eJ9, va_up_ne _ _ q1], Or.inl hwr66.1⟩, by show va_P _ _ _ t.heap; rw [ht]; exact hP⟩, hS.F ht⟩) hS.2.2 d_Mo_number_88
          · have hlt9 : a1 < L := hereF_lt (fun q9 => hb42 (hs40 q9))
            refine lv_iload_n Bx.1 Bx.2.1 d_Mo_number_32 rfl (lv_at hl 3 rfl) ?_
            refine lv_iload_n Bx.1 Bx.2.1 d_Mo_number_33 rfl (lv_at hl 1 rfl) ?_
            refine lv_imul Bx.1 Bx.2.1 d_Mo_number_34 ?_
            refine lv_aload_n Bx.1 Bx.2.1 d_Mo_number_35 rfl (lv_at hl 2 rfl) ?_
            refine f_callVi (na := 0) (As := []) (rest := [.int (ba * v)]) Bx hml E hP hD hS (by omega) hz4.1 rfl (m_Mo_here l hn hz4 g1 hL g16 (by omega)) kw_778 kw_780 sel_Mo_here kw_8 kw_781 (by decide +kernel) ⟨rfl, rfl⟩ ⟨Nat.le_of_ble_eq_true rfl, Nat.le_of_ble_eq_true rfl⟩ rfl hl.1 (Nat.le_of_ble_eq_true rfl) d_Mo_number_36 ⟨Nat.le_of_ble_eq_true rfl, Nat.le_of_ble_eq_true rfl⟩ (fun r69 mem70 H locs hq hP hS => ?_)
            have hD : va_D (Az sz) (fw n ad mem70) := fw_D hD
            obtain ⟨hre, hq⟩ := hq
            rw [hq] at hP hD
            subst hre
            refine lv_iload_n Bx.1 Bx.2.1 d_Mo_number_39 rfl (lv_at hl 3 rfl) ?_
            refine f_callSi (na := 2) (As := [.int (hereF L (A 225) (a1)), .int (ba)]) (rest := [.int (ba * v)]) Bx hml E.2.1 (m_Mo_figure l (hereF L (A 225) (a1)) (ba)) kw_850 kw_851 kw_8 kw_852 (by decide +kernel) ⟨rfl, rfl⟩ ⟨Nat.le_of_ble_eq_true rfl, Nat.le_of_ble_eq_true rfl⟩ rfl hl.1 (Nat.le_of_ble_eq_true rfl) d_Mo_number_40 ⟨Nat.le_of_ble_eq_true rfl, Nat.le_of_ble_eq_true rfl⟩ (fun r72 hs71 => ?_)
            refine lv_iadd Bx.1 Bx.2.1 d_Mo_number_43 ?_
            refine lv_istore_n (lv' := [(3, .int (ba * v + r72)), (4, .int (nI k)), (0, .ref (ad 224)), (1, .int (ba)), (2, .int (fro))]) Bx.1 Bx.2.1 d_Mo_number_44 rfl hl (by decide) rfl (fun ls hl => ?_)
            refine lv_iinc (lv' := [(4, .int ((nI k + (1)))), (3, .int (ba * v + r72)), (0, .ref (ad 224)), (1, .int (ba)), (2, .int (fro))]) Bx.1 Bx.2.1 d_Mo_number_45 hl (k := 1) rfl rfl (by decide) rfl (fun ls hl => ?_)
            rw [show (nI k + (1) : Int32) = nI (k + 1) from nI_1 (k)] at hl
            refine lv_aload_n Bx.1 Bx.2.1 d_Mo_number_48 rfl (lv_at hl 2 rfl) ?_
            refine lv_dup Bx.1 Bx.2.1 d_Mo_number_49 rfl ?_
            refine f_get Bx hP (by omega) hz4.1 rfl inMo 16 (by decide) kw_672 rfl rfl d_Mo_number_50 ?_
            rw [g16]
            refine lv_iconst (v := 1) Bx.1 Bx.2.1 d_Mo_number_53 (by decide) ?_
            refine lv_iadd Bx.1 Bx.2.1 d_Mo_number_54 ?_
            rw [show nI a1 + 1 = nI (a1 + 1) from nI_add (a1) (1)]
            refine f_put Bx hP hD hS (by omega) hz4.1 rfl inMo tyMo okMo nmMo 16 (by decide) kw_672 rfl rfl rfl rfl (Nat.le_of_ble_eq_true rfl) d_Mo_number_55 (fun H locs hP hS => ?_)
            obtain ⟨J73, eJ73⟩ : ∃ z, z = va_up J9 16 (nI (a1 + 1)) := ⟨_, rfl⟩
            obtain ⟨mem74, e_mem74⟩ : ∃ z, z = va_up mem9 224 (moC ad J73) := ⟨_, rfl⟩
            have hP : va_P D vcl (fw n ad mem74) H := by rw [e_mem74, eJ73]; exact hP
            have hD : va_D (Az sz) (fw n ad mem74) := fw_D hD
            have hW75 : MW cy ad J73 A nm m0 mem74 := by rw [e_mem74]; exact hz4.upJ (by rw [eJ73]; exact va_up_ne _ _ (by decide))
            have kk76 : J73 1 = nI L := by rw [eJ73]; exact g1
            have kk77 : J73 17 = 0 := by rw [eJ73]; exact g17
            have kk78 : J73 16 = nI (a1 + 1) := by rw [eJ73, va_up_self]
            refine lv_goto Bx.1 Bx.2.1 d_Mo_number_58 rfl ?_
            have hJe : J73 = va_up J 16 (nI (a1 + 1)) := by rw [eJ73, eJ9, up_up]
            exact ih6 mem74 (J73) (a1 + 1) (k + 1) (ba * v + r72) _ _ _ (by have := hmeas7; omega) (⟨hJe, kk76, kk78, kk77⟩) (hW75) (⟨by omega, by omega, by omega⟩) hP hD hS (lv_sub hl [0, 1, 2, 3, 4] rfl)
      · refine lv_iconst (v := 3) Bx.1 Bx.2.1 d_Mo_number_13 (by decide) ?_
        refine lv_goto Bx.1 Bx.2.1 d_Mo_number_14 rfl ?_
        refine lv_icmp_ge Bx.1 Bx.2.1 d_Mo_number_18 rfl (fun hb79 => ?_) (fun hb79 => ?_)
        · have hN80 : 3 ≤ k := (nI_leI (by omega) (by omega)).mp (show nI (3) ≤ nI (k) from hb79)
          refine lv_iload Bx.1 Bx.2.1 d_Mo_number_61 (lv_at hl 0 rfl) ?_
          refine lv_if_ne Bx.1 Bx.2.1 d_Mo_number_63 rfl (fun hb81 => ?_) (fun hb81 => ?_)
          · have hN82 : ¬ k = 0 := fun q9 => hb81 (show nI (k) = nI (0) from (nI_eq (by omega) (by omega)).mpr q9)
            refine lv_iload_n Bx.1 Bx.2.1 d_Mo_number_75 rfl (lv_at hl 1 rfl) ?_
            refine lv_bipush (v := 127) Bx.1 Bx.2.1 d_Mo_number_76 (by decide) ?_
            refine lv_icmp_le Bx.1 Bx.2.1 d_Mo_number_78 rfl (fun hb83 => ?_) (fun hb83 => ?_)
            · refine lv_iload_n Bx.1 Bx.2.1 d_Mo_number_87 rfl (lv_at hl 1 rfl) ?_
              exact W.iret (v := v) hx hb hr (fun t ht hW => ⟨⟨v, mem9, rfl, ⟨J9, a1, hz4, by omega, by omega, g16, fun i q1 q2 q3 => by rw [eJ9, va_up_ne _ _ q1], Or.inr ⟨g17, by omega⟩⟩, by show va_P _ _ _ t.heap; rw [ht]; exact hP⟩, hS.F ht⟩) hS.2.2 d_Mo_number_88
            · refine lv_aload_n Bx.1 Bx.2.1 d_Mo_number_81 rfl (lv_at hl 2 rfl) ?_
              refine lv_iconst (v := 1) Bx.1 Bx.2.1 d_Mo_number_82 (by decide) ?_
              refine lv_iload_n Bx.1 Bx.2.1 d_Mo_number_83 rfl (lv_at hl 4 rfl) ?_
              refine f_callVv (na := 2) (As := [.int (1), .int (fro)]) (rest := []) Bx hml E hP hD hS (by omega) hz4.1 rfl (m_Mo_wrong l hn hz4 (Or.inl g17) (by first | exact Or.inl rfl | exact Or.inr rfl)) kw_799 kw_801 sel_Mo_wrong kw_8 kw_802 (by decide +kernel) ⟨rfl, rfl⟩ ⟨Nat.le_of_ble_eq_true rfl, Nat.le_of_ble_eq_true rfl⟩ rfl hl.1 (Nat.le_of_ble_eq_true rfl) d_Mo_number_84 ⟨Nat.le_of_ble_eq_true rfl, Nat.le_of_ble_eq_true rfl⟩ (fun mem85 H locs hq hP hS => ?_)
              have hD : va_D (Az sz) (fw n ad mem85) := fw_D hD
              obtain ⟨J86, hW87, hwr88⟩ := hq
              have kk89 : J86 1 = nI L := (show J86 1 = J9 1 from hwr88.2 1 (by decide) (by decide)).trans g1
              have kk90 : J86 16 = nI a1 := (show J86 16 = J9 16 from hwr88.2 16 (by decide) (by decide)).trans g16
              refine lv_iload_n Bx.1 Bx.2.1 d_Mo_number_87 rfl (lv_at hl 1 rfl) ?_
              exact W.iret (v := v) hx hb hr (fun t ht hW => ⟨⟨v, mem85, rfl, ⟨J86, a1, hW87, by omega, by omega, kk90, fun i q1 q2 q3 => by rw [hwr88.2 i q2 q3, eJ9, va_up_ne _ _ q1], Or.inl hwr88.1⟩, by show va_P _ _ _ t.heap; rw [ht]; exact hP⟩, hS.F ht⟩) hS.2.2 d_Mo_number_88
          · have hN91 : k = 0 := (nI_eq (by omega) (by omega)).mp (show nI (k) = nI (0) from hb81)
            refine lv_aload_n Bx.1 Bx.2.1 d_Mo_number_66 rfl (lv_at hl 2 rfl) ?_
            refine lv_iconst (v := 1) Bx.1 Bx.2.1 d_Mo_number_67 (by decide) ?_
            refine lv_aload_n Bx.1 Bx.2.1 d_Mo_number_68 rfl (lv_at hl 2 rfl) ?_
            refine f_get Bx hP (by omega) hz4.1 rfl inMo 16 (by decide) kw_672 rfl rfl d_Mo_number_69 ?_
            rw [g16]
            refine f_callVv (na := 2) (As := [.int (1), .int (nI a1)]) (rest := []) Bx hml E hP hD hS (by omega) hz4.1 rfl (m_Mo_wrong l hn hz4 (Or.inl g17) (by first | exact Or.inl rfl | exact Or.inr rfl)) kw_799 kw_801 sel_Mo_wrong kw_8 kw_802 (by decide +kernel) ⟨rfl, rfl⟩ ⟨Nat.le_of_ble_eq_true rfl, Nat.le_of_ble_eq_true rfl⟩ rfl hl.1 (Nat.le_of_ble_eq_true rfl) d_Mo_number_72 ⟨Nat.le_of_ble_eq_true rfl, Nat.le_of_ble_eq_true rfl⟩ (fun mem93 H locs hq hP hS => ?_)
            have hD : va_D (Az sz) (fw n ad mem93) := fw_D hD
            obtain ⟨J94, hW95, hwr96⟩ := hq
            have kk97 : J94 1 = nI L := (show J94 1 = J9 1 from hwr96.2 1 (by decide) (by decide)).trans g1
            have kk98 : J94 16 = nI a1 := (show J94 16 = J9 16 from hwr96.2 16 (by decide) (by decide)).trans g16
            refine lv_iload_n Bx.1 Bx.2.1 d_Mo_number_75 rfl (lv_at hl 1 rfl) ?_
            refine lv_bipush (v := 127) Bx.1 Bx.2.1 d_Mo_number_76 (by decide) ?_
            refine lv_icmp_le Bx.1 Bx.2.1 d_Mo_number_78 rfl (fun hb99 => ?_) (fun hb99 => ?_)
            · refine lv_iload_n Bx.1 Bx.2.1 d_Mo_number_87 rfl (lv_at hl 1 rfl) ?_
              exact W.iret (v := v) hx hb hr (fun t ht hW => ⟨⟨v, mem93, rfl, ⟨J94, a1, hW95, by omega, by omega, kk98, fun i q1 q2 q3 => by rw [hwr96.2 i q2 q3, eJ9, va_up_ne _ _ q1], Or.inl hwr96.1⟩, by show va_P _ _ _ t.heap; rw [ht]; exact hP⟩, hS.F ht⟩) hS.2.2 d_Mo_number_88
            · refine lv_aload_n Bx.1 Bx.2.1 d_Mo_number_81 rfl (lv_at hl 2 rfl) ?_
              refine lv_iconst (v := 1) Bx.1 Bx.2.1 d_Mo_number_82 (by decide) ?_
              refine lv_iload_n Bx.1 Bx.2.1 d_Mo_number_83 rfl (lv_at hl 4 rfl) ?_
              refine f_callVv (na := 2) (As := [.int (1), .int (fro)]) (rest := []) Bx hml E hP hD hS (by omega) hW95.1 rfl (m_Mo_wrong l hn hW95 (Or.inr hwr96.1) (by first | exact Or.inl rfl | exact Or.inr rfl)) kw_799 kw_801 sel_Mo_wrong kw_8 kw_802 (by decide +kernel) ⟨rfl, rfl⟩ ⟨Nat.le_of_ble_eq_true rfl, Nat.le_of_ble_eq_true rfl⟩ rfl hl.1 (Nat.le_of_ble_eq_true rfl) d_Mo_number_84 ⟨Nat.le_of_ble_eq_true rfl, Nat.le_of_ble_eq_true rfl⟩ (fun mem101 H locs hq hP hS => ?_)
              have hD : va_D (Az sz) (fw n ad mem101) := fw_D hD
              obtain ⟨J102, hW103, hwr104⟩ := hq
              have kk105 : J102 1 = nI L := (show J102 1 = J94 1 from hwr104.2 1 (by decide) (by decide)).trans kk97
              have kk106 : J102 16 = nI a1 := (show J102 16 = J94 16 from hwr104.2 16 (by decide) (by decide)).trans kk98
              refine lv_iload_n Bx.1 Bx.2.1 d_Mo_number_87 rfl (lv_at hl 1 rfl) ?_
              exact W.iret (v := v) hx hb hr (fun t ht hW => ⟨⟨v, mem101, rfl, ⟨J102, a1, hW103, by omega, by omega, kk106, fun i q1 q2 q3 => by rw [hwr104.2 i q2 q3, hwr96.2 i q2 q3, eJ9, va_up_ne _ _ q1], Or.inl hwr104.1⟩, by show va_P _ _ _ t.heap; rw [ht]; exact hP⟩, hS.F ht⟩) hS.2.2 d_Mo_number_88
        · have hN107 : ¬ 3 ≤ k := fun q9 => hb79 (show nI (3) ≤ nI (k) from (nI_leI (by omega) (by omega)).mpr q9)
          refine lv_aload_n Bx.1 Bx.2.1 d_Mo_number_21 rfl (lv_at hl 2 rfl) ?_
          refine f_callVi (na := 0) (As := []) (rest := []) Bx hml E hP hD hS (by omega) hz4.1 rfl (m_Mo_here l hn hz4 g1 hL g16 (by omega)) kw_778 kw_780 sel_Mo_here kw_8 kw_781 (by decide +kernel) ⟨rfl, rfl⟩ ⟨Nat.le_of_ble_eq_true rfl, Nat.le_of_ble_eq_true rfl⟩ rfl hl.1 (Nat.le_of_ble_eq_true rfl) d_Mo_number_22 ⟨Nat.le_of_ble_eq_true rfl, Nat.le_of_ble_eq_true rfl⟩ (fun r108 mem109 H locs hq hP hS => ?_)
          have hD : va_D (Az sz) (fw n ad mem109) := fw_D hD
          obtain ⟨hre, hq⟩ := hq
          rw [hq] at hP hD
          subst hre
          refine lv_iload_n Bx.1 Bx.2.1 d_Mo_number_25 rfl (lv_at hl 3 rfl) ?_
          refine f_callSi (na := 2) (As := [.int (hereF L (A 225) (a1)), .int (ba)]) (rest := []) Bx hml E.2.1 (m_Mo_figure l (hereF L (A 225) (a1)) (ba)) kw_850 kw_851 kw_8 kw_852 (by decide +kernel) ⟨rfl, rfl⟩ ⟨Nat.le_of_ble_eq_true rfl, Nat.le_of_ble_eq_true rfl⟩ rfl hl.1 (Nat.le_of_ble_eq_true rfl) d_Mo_number_26 ⟨Nat.le_of_ble_eq_true rfl, Nat.le_of_ble_eq_true rfl⟩ (fun r111 hs110 => ?_)
          refine lv_if_lt Bx.1 Bx.2.1 d_Mo_number_29 rfl (fun hb112 => ?_) (fun hb112 => ?_)
          · refine lv_iload Bx.1 Bx.2.1 d_Mo_number_61 (lv_at hl 0 rfl) ?_
            refine lv_if_ne Bx.1 Bx.2.1 d_Mo_number_63 rfl (fun hb113 => ?_) (fun hb113 => ?_)
            · have hN114 : ¬ k = 0 := fun q9 => hb113 (show nI (k) = nI (0) from (nI_eq (by omega) (by omega)).mpr q9)
              refine lv_iload_n Bx.1 Bx.2.1 d_Mo_number_75 rfl (lv_at hl 1 rfl) ?_
              refine lv_bipush (v := 127) Bx.1 Bx.2.1 d_Mo_number_76 (by decide) ?_
              refine lv_icmp_le Bx.1 Bx.2.1 d_Mo_number_78 rfl (fun hb115 => ?_) (fun hb115 => ?_)
              · refine lv_iload_n Bx.1 Bx.2.1 d_Mo_number_87 rfl (lv_at hl 1 rfl) ?_
                exact W.iret (v := v) hx hb hr (fun t ht hW => ⟨⟨v, mem9, rfl, ⟨J9, a1, hz4, by omega, by omega, g16, fun i q1 q2 q3 => by rw [eJ9, va_up_ne _ _ q1], Or.inr ⟨g17, by omega⟩⟩, by show va_P _ _ _ t.heap; rw [ht]; exact hP⟩, hS.F ht⟩) hS.2.2 d_Mo_number_88
              · refine lv_aload_n Bx.1 Bx.2.1 d_Mo_number_81 rfl (lv_at hl 2 rfl) ?_
                refine lv_iconst (v := 1) Bx.1 Bx.2.1 d_Mo_number_82 (by decide) ?_
                refine lv_iload_n Bx.1 Bx.2.1 d_Mo_number_83 rfl (lv_at hl 4 rfl) ?_
                refine f_callVv (na := 2) (As := [.int (1), .int (fro)]) (rest := []) Bx hml E hP hD hS (by omega) hz4.1 rfl (m_Mo_wrong l hn hz4 (Or.inl g17) (by first | exact Or.inl rfl | exact Or.inr rfl)) kw_799 kw_801 sel_Mo_wrong kw_8 kw_802 (by decide +kernel) ⟨rfl, rfl⟩ ⟨Nat.le_of_ble_eq_true rfl, Nat.le_of_ble_eq_true rfl⟩ rfl hl.1 (Nat.le_of_ble_eq_true rfl) d_Mo_number_84 ⟨Nat.le_of_ble_eq_true rfl, Nat.le_of_ble_eq_true rfl⟩ (fun mem117 H locs hq hP hS => ?_)
                have hD : va_D (Az sz) (fw n ad mem117) := fw_D hD
                obtain ⟨J118, hW119, hwr120⟩ := hq
                have kk121 : J118 1 = nI L := (show J118 1 = J9 1 from hwr120.2 1 (by decide) (by decide)).trans g1
                have kk122 : J118 16 = nI a1 := (show J118 16 = J9 16 from hwr120.2 16 (by decide) (by decide)).trans g16
                refine lv_iload_n Bx.1 Bx.2.1 d_Mo_number_87 rfl (lv_at hl 1 rfl) ?_
                exact W.iret (v := v) hx hb hr (fun t ht hW => ⟨⟨v, mem117, rfl, ⟨J118, a1, hW119, by omega, by omega, kk122, fun i q1 q2 q3 => by rw [hwr120.2 i q2 q3, eJ9, va_up_ne _ _ q1], Or.inl hwr120.1⟩, by show va_P _ _ _ t.heap; rw [ht]; exact hP⟩, hS.F ht⟩) hS.2.2 d_Mo_number_88
            · have hN123 : k = 0 := (nI_eq (by omega) (by omega)).mp (show nI (k) = nI (0) from hb113)
              refine lv_aload_n Bx.1 Bx.2.1 d_Mo_number_66 rfl (lv_at hl 2 rfl) ?_
              refine lv_iconst (v := 1) Bx.1 Bx.2.1 d_Mo_number_67 (by decide) ?_
              refine lv_aload_n Bx.1 Bx.2.1 d_Mo_number_68 rfl (lv_at hl 2 rfl) ?_
              refine f_get Bx hP (by omega) hz4.1 rfl inMo 16 (by decide) kw_672 rfl rfl d_Mo_number_69 ?_
              rw [g16]
              refine f_callVv (na := 2) (As := [.int (1), .int (nI a1)]) (rest := []) Bx hml E hP hD hS (by omega) hz4.1 rfl (m_Mo_wrong l hn hz4 (Or.inl g17) (by first | exact Or.inl rfl | exact Or.inr rfl)) kw_799 kw_801 sel_Mo_wrong kw_8 kw_802 (by decide +kernel) ⟨rfl, rfl⟩ ⟨Nat.le_of_ble_eq_true rfl, Nat.le_of_ble_eq_true rfl⟩ rfl hl.1 (Nat.le_of_ble_eq_true rfl) d_Mo_number_72 ⟨Nat.le_of_ble_eq_true rfl, Nat.le_of_ble_eq_true rfl⟩ (fun mem125 H locs hq hP hS => ?_)
              have hD : va_D (Az sz) (fw n ad mem125) := fw_D hD
              obtain ⟨J126, hW127, hwr128⟩ := hq
              have kk129 : J126 1 = nI L := (show J126 1 = J9 1 from hwr128.2 1 (by decide) (by decide)).trans g1
              have kk130 : J126 16 = nI a1 := (show J126 16 = J9 16 from hwr128.2 16 (by decide) (by decide)).trans g16
              refine lv_iload_n Bx.1 Bx.2.1 d_Mo_number_75 rfl (lv_at hl 1 rfl) ?_
              refine lv_bipush (v := 127) Bx.1 Bx.2.1 d_Mo_number_76 (by decide) ?_
              refine lv_icmp_le Bx.1 Bx.2.1 d_Mo_number_78 rfl (fun hb131 => ?_) (fun hb131 => ?_)
              · refine lv_iload_n Bx.1 Bx.2.1 d_Mo_number_87 rfl (lv_at hl 1 rfl) ?_
                exact W.iret (v := v) hx hb hr (fun t ht hW => ⟨⟨v, mem125, rfl, ⟨J126, a1, hW127, by omega, by omega, kk130, fun i q1 q2 q3 => by rw [hwr128.2 i q2 q3, eJ9, va_up_ne _ _ q1], Or.inl hwr128.1⟩, by show va_P _ _ _ t.heap; rw [ht]; exact hP⟩, hS.F ht⟩) hS.2.2 d_Mo_number_88
              · refine lv_aload_n Bx.1 Bx.2.1 d_Mo_number_81 rfl (lv_at hl 2 rfl) ?_
                refine lv_iconst (v := 1) Bx.1 Bx.2.1 d_Mo_number_82 (by decide) ?_
                refine lv_iload_n Bx.1 Bx.2.1 d_Mo_number_83 rfl (lv_at hl 4 rfl) ?_
                refine f_callVv (na := 2) (As := [.int (1), .int (fro)]) (rest := []) Bx hml E hP hD hS (by omega) hW127.1 rfl (m_Mo_wrong l hn hW127 (Or.inr hwr128.1) (by first | exact Or.inl rfl | exact Or.inr rfl)) kw_799 kw_801 sel_Mo_wrong kw_8 kw_802 (by decide +kernel) ⟨rfl, rfl⟩ ⟨Nat.le_of_ble_eq_true rfl, Nat.le_of_ble_eq_true rfl⟩ rfl hl.1 (Nat.le_of_ble_eq_true rfl) d_Mo_number_84 ⟨Nat.le_of_ble_eq_true rfl, Nat.le_of_ble_eq_true rfl⟩ (fun mem133 H locs hq hP hS => ?_)
                have hD : va_D (Az sz) (fw n ad mem133) := fw_D hD
                obtain ⟨J134, hW135, hwr136⟩ := hq
                have kk137 : J134 1 = nI L := (show J134 1 = J126 1 from hwr136.2 1 (by decide) (by decide)).trans kk129
                have kk138 : J134 16 = nI a1 := (show J134 16 = J126 16 from hwr136.2 16 (by decide) (by decide)).trans kk130
                refine lv_iload_n Bx.1 Bx.2.1 d_Mo_number_87 rfl (lv_at hl 1 rfl) ?_
                exact W.iret (v := v) hx hb hr (fun t ht hW => ⟨⟨v, mem133, rfl, ⟨J134, a1, hW135, by omega, by omega, kk138, fun i q1 q2 q3 => by rw [hwr136.2 i q2 q3, hwr128.2 i q2 q3, eJ9, va_up_ne _ _ q1], Or.inl hwr136.1⟩, by show va_P _ _ _ t.heap; rw [ht]; exact hP⟩, hS.F ht⟩) hS.2.2 d_Mo_number_88
          · have hlt9 : a1 < L := hereF_lt (fun q9 => hb112 (hs110 q9))
            refine lv_iload_n Bx.1 Bx.2.1 d_Mo_number_32 rfl (lv_at hl 3 rfl) ?_
            refine lv_iload_n Bx.1 Bx.2.1 d_Mo_number_33 rfl (lv_at hl 1 rfl) ?_
            refine lv_imul Bx.1 Bx.2.1 d_Mo_number_34 ?_
            refine lv_aload_n Bx.1 Bx.2.1 d_Mo_number_35 rfl (lv_at hl 2 rfl) ?_
            refine f_callVi (na := 0) (As := []) (rest := [.int (ba * v)]) Bx hml E hP hD hS (by omega) hz4.1 rfl (m_Mo_here l hn hz4 g1 hL g16 (by omega)) kw_778 kw_780 sel_Mo_here kw_8 kw_781 (by decide +kernel) ⟨rfl, rfl⟩ ⟨Nat.le_of_ble_eq_true rfl, Nat.le_of_ble_eq_true rfl⟩ rfl hl.1 (Nat.le_of_ble_eq_true rfl) d_Mo_number_36 ⟨Nat.le_of_ble_eq_true rfl, Nat.le_of_ble_eq_true rfl⟩ (fun r139 mem140 H locs hq hP hS => ?_)
            have hD : va_D (Az sz) (fw n ad mem140) := fw_D hD
            obtain ⟨hre, hq⟩ := hq
            rw [hq] at hP hD
            subst hre
            refine lv_iload_n Bx.1 Bx.2.1 d_Mo_number_39 rfl (lv_at hl 3 rfl) ?_
            refine f_callSi (na := 2) (As := [.int (hereF L (A 225) (a1)), .int (ba)]) (rest := [.int (ba * v)]) Bx hml E.2.1 (m_Mo_figure l (hereF L (A 225) (a1)) (ba)) kw_850 kw_851 kw_8 kw_852 (by decide +kernel) ⟨rfl, rfl⟩ ⟨Nat.le_of_ble_eq_true rfl, Nat.le_of_ble_eq_true rfl⟩ rfl hl.1 (Nat.le_of_ble_eq_true rfl) d_Mo_number_40 ⟨Nat.le_of_ble_eq_true rfl, Nat.le_of_ble_eq_true rfl⟩ (fun r142 hs141 => ?_)
            refine lv_iadd Bx.1 Bx.2.1 d_Mo_number_43 ?_
            refine lv_istore_n (lv' := [(3, .int (ba * v + r142)), (4, .int (nI k)), (0, .ref (ad 224)), (1, .int (ba)), (2, .int (fro))]) Bx.1 Bx.2.1 d_Mo_number_44 rfl hl (by decide) rfl (fun ls hl => ?_)
            refine lv_iinc (lv' := [(4, .int ((nI k + (1)))), (3, .int (ba * v + r142)), (0, .ref (ad 224)), (1, .int (ba)), (2, .int (fro))]) Bx.1 Bx.2.1 d_Mo_number_45 hl (k := 1) rfl rfl (by decide) rfl (fun ls hl => ?_)
            rw [show (nI k + (1) : Int32) = nI (k + 1) from nI_1 (k)] at hl
            refine lv_aload_n Bx.1 Bx.2.1 d_Mo_number_48 rfl (lv_at hl 2 rfl) ?_
            refine lv_dup Bx.1 Bx.2.1 d_Mo_number_49 rfl ?_
            refine f_get Bx hP (by omega) hz4.1 rfl inMo 16 (by decide) kw_672 rfl rfl d_Mo_number_50 ?_
            rw [g16]
            refine lv_iconst (v := 1) Bx.1 Bx.2.1 d_Mo_number_53 (by decide) ?_
            refine lv_iadd Bx.1 Bx.2.1 d_Mo_number_54 ?_
            rw [show nI a1 + 1 = nI (a1 + 1) from nI_add (a1) (1)]
            refine f_put Bx hP hD hS (by omega) hz4.1 rfl inMo tyMo okMo nmMo 16 (by decide) kw_672 rfl rfl rfl rfl (Nat.le_of_ble_eq_true rfl) d_Mo_number_55 (fun H locs hP hS => ?_)
            obtain ⟨J143, eJ143⟩ : ∃ z, z = va_up J9 16 (nI (a1 + 1)) := ⟨_, rfl⟩
            obtain ⟨mem144, e_mem144⟩ : ∃ z, z = va_up mem9 224 (moC ad J143) := ⟨_, rfl⟩
            have hP : va_P D vcl (fw n ad mem144) H := by rw [e_mem144, eJ143]; exact hP
            have hD : va_D (Az sz) (fw n ad mem144) := fw_D hD
            have hW145 : MW cy ad J143 A nm m0 mem144 := by rw [e_mem144]; exact hz4.upJ (by rw [eJ143]; exact va_up_ne _ _ (by decide))
            have kk146 : J143 1 = nI L := by rw [eJ143]; exact g1
            have kk147 : J143 17 = 0 := by rw [eJ143]; exact g17
            have kk148 : J143 16 = nI (a1 + 1) := by rw [eJ143, va_up_self]
            refine lv_goto Bx.1 Bx.2.1 d_Mo_number_58 rfl ?_
            have hJe : J143 = va_up J 16 (nI (a1 + 1)) := by rw [eJ143, eJ9, up_up]
            exact ih6 mem144 (J143) (a1 + 1) (k + 1) (ba * v + r142) _ _ _ (by have := hmeas7; omega) (⟨hJe, kk146, kk148, kk147⟩) (hW145) (⟨by omega, by omega, by omega⟩) hP hD hS (lv_sub hl [0, 1, 2, 3, 4] rfl)
  exact loop1 _ mem (J) (a) (0) (0) _ _ _ (Nat.lt_succ_self _) (⟨by rw [up_id J ha], h1, ha, h17⟩) (hM) (⟨by omega, by omega, by omega⟩) hP hD hS (lv_sub hl [0, 1, 2, 3, 4] rfl)
set_option maxHeartbeats 4000000 in
set_option maxRecDepth 100000 in
theorem m_Mo_string (l : Launch) {D : va_G} {cy : Nat → ClassId} {sz n : Nat} {ad : Nat → Nat} {mem : Nat → va_E} {J : Nat → Int32} {A : Nat → Nat → Int32} {nm : Nat → Int64} {m0 : Nat → va_E} {L G a u R f : Nat} {T : Nat → Int32} {fc fs ft : Nat → Nat} {e9 : Nat} (hn : 242 ≤ n) (hM : MW cy ad J A nm m0 mem) (hNm : Num L G a u R (e9 + 1) f J) (hBd : L ≤ 240 ∧ a ≤ L ∧ u ≤ a ∧ R ≤ 12 ∧ f ≤ 6) (hEb : e9 + 1 ≤ 100) (hT : A 225 = T) (hp : J 28 = 0) (hI : Inv R (e9 + 1) u f True fc fs ft A (fun _ => False)) (h4 : A 228 e9 = 4) (hC : CL e9 A) (hse : fs f < e9) (hrr : A 239 f = -1 ∨ ∃ r, A 239 f = nI r ∧ fs f < r ∧ r < e9) (hla : a < L) : MV l D cy sz n ad y_Mo_string c_Mo_string 3 ({ frames := 3, cells := 0, slots := 0, locals := 90 } : Room) mem [.ref (ad 224), .int (nI e9)] (fun mem' => ∃ J' A' nm', MW cy ad J' A' nm' m0 mem' ∧ Res L G T a J' A') := by
  refine Met.ofW (cc := c_Mo_string) (maxL := 3) (ret := none) (by decide) rfl ?_
  intro p e s m args below meth c s₁ B hml hv
  obtain ⟨rfl, E, hP, hD⟩ := hv
  have hx := B.exec
  have hb := B.bytes
  have hr := B.returns
  have hlocks := B.notSynchronized
  have Bx : MB p s m [.ref (ad 224), .int (nI e9)].toArray c c_Mo_string "AbnfChartModel" D cy := ⟨hx, hb, tb_all (atoms_spec B.pre) E.2.1, findClass_of_methodNamed B.named, E.1⟩
  have hS : va_S (Az sz) s.heap s.heap [] := va_S.rf
  have hl := lv_entry ([.ref (ad 224), .int (nI e9)]) (n := 3) (Nat.le_of_ble_eq_true rfl)
  rw [lg_entry_eq]
  generalize (lg_sl ([.ref (ad 224), .int (nI e9)]) ++ List.replicate (3 - (lg_sl ([.ref (ad 224), .int (nI e9)])).length) Slot.unset).toArray = ls at hl ⊢
  have hl : lv_has ls 3 [(0, .ref (ad 224)), (1, .int (nI e9))] := hl
  obtain ⟨hL, haL, huA, hRb, hfb⟩ := hBd
  obtain ⟨g1, g2, g3, g4, g5, g6, g7, g8⟩ := hNm
  refine lv_aload_n Bx.1 Bx.2.1 d_Mo_string_0 rfl (lv_at hl 0 rfl) ?_
  refine lv_dup Bx.1 Bx.2.1 d_Mo_string_1 rfl ?_
  refine f_get Bx hP (by omega) hM.1 rfl inMo 16 (by decide) kw_672 rfl rfl d_Mo_string_2 ?_
  rw [g3]
  refine lv_iconst (v := 1) Bx.1 Bx.2.1 d_Mo_string_5 (by decide) ?_
  refine lv_iadd Bx.1 Bx.2.1 d_Mo_string_6 ?_
  rw [show nI a + 1 = nI (a + 1) from nI_add (a) (1)]
  refine f_put Bx hP hD hS (by omega) hM.1 rfl inMo tyMo okMo nmMo 16 (by decide) kw_672 rfl rfl rfl rfl (Nat.le_of_ble_eq_true rfl) d_Mo_string_7 (fun H locs hP hS => ?_)
  obtain ⟨J9, eJ9⟩ : ∃ z, z = va_up J 16 (nI (a + 1)) := ⟨_, rfl⟩
  obtain ⟨mem10, e_mem10⟩ : ∃ z, z = va_up mem 224 (moC ad J9) := ⟨_, rfl⟩
  have hP : va_P D vcl (fw n ad mem10) H := by rw [e_mem10, eJ9]; exact hP
  have hD : va_D (Az sz) (fw n ad mem10) := fw_D hD
  have hW11 : MW cy ad J9 A nm m0 mem10 := by rw [e_mem10]; exact hM.upJ (by rw [eJ9]; exact va_up_ne _ _ (by decide))
  have kk12 : J9 1 = nI L := by rw [eJ9]; exact g1
  have kk13 : J9 24 = nI G := by rw [eJ9]; exact g2
  have kk14 : J9 17 = 0 := by rw [eJ9]; exact g4
  have kk15 : J9 14 = nI u := by rw [eJ9]; exact g5
  have kk16 : J9 4 = nI R := by rw [eJ9]; exact g6
  have kk17 : J9 7 = nI (e9 + 1) := by rw [eJ9]; exact g7
  have kk18 : J9 18 = nI (f + 1) := by rw [eJ9]; exact g8
  have kk19 : J9 28 = 0 := by rw [eJ9]; exact hp
  have kk20 : J9 16 = nI (a + 1) := by rw [eJ9, va_up_self]
  refine lv_aload_n Bx.1 Bx.2.1 d_Mo_string_10 rfl (lv_at hl 0 rfl) ?_
  refine f_get Bx hP (by omega) hW11.1 rfl inMo 9 (by decide) kw_665 rfl rfl d_Mo_string_11 ?_
  refine lv_iload_n Bx.1 Bx.2.1 d_Mo_string_14 rfl (lv_at hl 1 rfl) ?_
  refine lv_aload_n Bx.1 Bx.2.1 d_Mo_string_15 rfl (lv_at hl 0 rfl) ?_
  refine f_get Bx hP (by omega) hW11.1 rfl inMo 14 (by decide) kw_670 rfl rfl d_Mo_string_16 ?_
  rw [kk15]
  refine f_iast (x := nI u) (i := nI (e9)) Bx hP hD hS (by omega) (show mem10 229 = .inl (cy 1, 100, .inl (A 229)) from hW11.2.2.1 229 (by decide) (by decide) (by decide)) (vp_in_nI (n := e9) (by omega) (by decide)) d_Mo_string_19 (fun H locs hP hS => ?_)
  rw [nI_clamp (n := e9) (by omega)] at hP
  obtain ⟨A21, eA21⟩ : ∃ z, z = va_up A 229 (upd (A 229) (e9) (nI u)) := ⟨_, rfl⟩
  obtain ⟨mem22, e_mem22⟩ : ∃ z, z = va_up mem10 229 (.inl (cy 1, 100, .inl (upd (A 229) (e9) (nI u)))) := ⟨_, rfl⟩
  have hP : va_P D vcl (fw n ad mem22) H := by rw [e_mem22]; exact hP
  have hD : va_D (Az sz) (fw n ad mem22) := fw_D hD
  have hW23 : MW cy ad J9 A21 nm m0 mem22 := by rw [e_mem22, eA21]; exact hW11.upA (j := 229) (by decide) (by decide) (by decide) (Or.inl (by decide))
  have tT24 : A21 225 = T := by rw [eA21]; exact hT
  refine lv_iconst (v := 0) Bx.1 Bx.2.1 d_Mo_string_20 (by decide) ?_
  refine lv_istore_n (lv' := [(2, .int (0)), (0, .ref (ad 224)), (1, .int (nI e9))]) Bx.1 Bx.2.1 d_Mo_string_21 rfl hl (by decide) rfl (fun ls hl => ?_)
  have hn16 : J9 16 = nI (a + 1 + 0) := kk20
  have loop25 : ∀ (d26 : Nat) (mem9 : Nat → va_E) (J9 : Nat → Int32) (A9 : Nat → Nat → Int32) (k : Nat) (ls : Array Slot) (H : Heap) (locs : List Loc), (12 - k < d26) → (Num L G (a + 1 + k) (u + k) R (e9 + 1) f J9 ∧ J9 28 = 0) → (MW cy ad J9 A9 nm m0 mem9) → (∀ j, j ≠ 234 → A9 j = A21 j) → (a + 1 + k ≤ L ∧ k ≤ 12) → (va_P D vcl (fw n ad mem9) H) → (va_D (Az sz) (fw n ad mem9)) → (va_S (Az sz) s.heap H locs) → (lv_has ls 3 [(2, .int (nI k)), (0, .ref (ad 224)), (1, .int (nI e9))]) → W p l e (headSpec (Cond.code y_Mo_string c_Mo_string 3 none :: tg) ({ frames := 3, cells := 0, slots := 0, locals := 90 } : Room)).room s m [.ref (ad 224), .int (nI e9)].toArray below meth c H locs 0 0 (MQ below (va_Qv (fun mem' => ∃ J' A' nm', MW cy ad J' A' nm' m0 mem' ∧ Res L G T a J' A') (PP D n ad) (Az sz)) [.ref (ad 224), .int (nI e9)].toArray s 0 0 (Az sz)) (F0 m 22 ls []) := by
    intro d26
    induction d26 with
    | zero => intro mem9 J9 A9 k ls H locs hmeas32; exact absurd hmeas32 (Nat.not_lt_zero _)
    | succ d26 ih31 =>
      intro mem9 J9 A9 k ls H locs hmeas32 hz27 hz28 hz29 hz30 hP hD hS hl
      obtain ⟨g33, g34, g35, g36, g37, g38, g39, g40⟩ := hz27.1
      have tT41 : A9 225 = T := (hz29 225 (by decide)).trans tT24
      refine lv_iload_n Bx.1 Bx.2.1 d_Mo_string_22 rfl (lv_at hl 0 rfl) ?_
      refine lv_bipush (v := 12) Bx.1 Bx.2.1 d_Mo_string_23 (by decide) ?_
      refine lv_icmp_ge Bx.1 Bx.2.1 d_Mo_string_25 rfl (fun hb42 => ?_) (fun hb42 => ?_)
      · have hN43 : 12 ≤ k := (nI_leI (by omega) (by omega)).mp (show nI (12) ≤ nI (k) from hb42)
        refine lv_aload_n Bx.1 Bx.2.1 d_Mo_string_90 rfl (lv_at hl 1 rfl) ?_
        refine f_get Bx hP (by omega) hz28.1 rfl inMo 10 (by decide) kw_666 rfl rfl d_Mo_string_91 ?_
        refine lv_iload_n Bx.1 Bx.2.1 d_Mo_string_94 rfl (lv_at hl 2 rfl) ?_
        refine lv_iload_n Bx.1 Bx.2.1 d_Mo_string_95 rfl (lv_at hl 0 rfl) ?_
        refine f_iast (x := nI k) (i := nI (e9)) Bx hP hD hS (by omega) (show mem9 230 = .inl (cy 1, 100, .inl (A9 230)) from hz28.2.2.1 230 (by decide) (by decide) (by decide)) (vp_in_nI (n := e9) (by omega) (by decide)) d_Mo_string_96 (fun H locs hP hS => ?_)
        rw [nI_clamp (n := e9) (by omega)] at hP
        obtain ⟨A44, eA44⟩ : ∃ z, z = va_up A9 230 (upd (A9 230) (e9) (nI k)) := ⟨_, rfl⟩
        obtain ⟨mem45, e_mem45⟩ : ∃ z, z = va_up mem9 230 (.inl (cy 1, 100, .inl (upd (A9 230) (e9) (nI k)))) := ⟨_, rfl⟩
        have hP : va_P D vcl (fw n ad mem45) H := by rw [e_mem45]; exact hP
        have hD : va_D (Az sz) (fw n ad mem45) := fw_D hD
        have hW46 : MW cy ad J9 A44 nm m0 mem45 := by rw [e_mem45, eA44]; exact hz28.upA (j := 230) (by decide) (by decide) (by decide) (Or.inl (by decide))
        have tT47 : A44 225 = T := by rw [eA44]; exact tT41
        refine lv_aload_n Bx.1 Bx.2.1 d_Mo_string_97 rfl (lv_at hl 1 rfl) ?_
        refine f_callVi (na := 0) (As := []) (rest := []) Bx hml E hP hD hS (by omega) hW46.1 rfl (m_Mo_here l hn hW46 g33 hL g35 (by omega)) kw_778 kw_780 sel_Mo_here kw_8 kw_781 (by decide +kernel) ⟨rfl, rfl⟩ ⟨Nat.le_of_ble_eq_true rfl, Nat.le_of_ble_eq_true rfl⟩ rfl hl.1 (Nat.le_of_ble_eq_true rfl) d_Mo_string_98 ⟨Nat.le_of_ble_eq_true rfl, Nat.le_of_ble_eq_true rfl⟩ (fun r48 mem49 H locs hq hP hS => ?_)
        have hD : va_D (Az sz) (fw n ad mem49) := fw_D hD
        obtain ⟨hre, hq⟩ := hq
        rw [hq] at hP hD
        subst hre
        rw [show hereF L (A44 225) (a + 1 + k) = hereF L T (a + 1 + k) by rw [tT47]]
        refine lv_bipush (v := 34) Bx.1 Bx.2.1 d_Mo_string_101 (by decide) ?_
        refine lv_icmp_eq Bx.1 Bx.2.1 d_Mo_string_103 rfl (fun hb50 => ?_) (fun hb50 => ?_)
        · have hlt51 := hereF_lt (by rw [hb50]; decide)
          refine lv_aload_n Bx.1 Bx.2.1 d_Mo_string_115 rfl (lv_at hl 1 rfl) ?_
          refine lv_dup Bx.1 Bx.2.1 d_Mo_string_116 rfl ?_
          refine f_get Bx hP (by omega) hW46.1 rfl inMo 16 (by decide) kw_672 rfl rfl d_Mo_string_117 ?_
          rw [g35]
          refine lv_iconst (v := 1) Bx.1 Bx.2.1 d_Mo_string_120 (by decide) ?_
          refine lv_iadd Bx.1 Bx.2.1 d_Mo_string_121 ?_
          rw [show nI (a + 1 + k) + 1 = nI (a + 1 + k + 1) from nI_add (a + 1 + k) (1)]
          refine f_put Bx hP hD hS (by omega) hW46.1 rfl inMo tyMo okMo nmMo 16 (by decide) kw_672 rfl rfl rfl rfl (Nat.le_of_ble_eq_true rfl) d_Mo_string_122 (fun H locs hP hS => ?_)
          obtain ⟨J52, eJ52⟩ : ∃ z, z = va_up J9 16 (nI (a + 1 + k + 1)) := ⟨_, rfl⟩
          obtain ⟨mem53, e_mem53⟩ : ∃ z, z = va_up mem45 224 (moC ad J52) := ⟨_, rfl⟩
          have hP : va_P D vcl (fw n ad mem53) H := by rw [e_mem53, eJ52]; exact hP
          have hD : va_D (Az sz) (fw n ad mem53) := fw_D hD
          have hW54 : MW cy ad J52 A44 nm m0 mem53 := by rw [e_mem53]; exact hW46.upJ (by rw [eJ52]; exact va_up_ne _ _ (by decide))
          have kk55 : J52 1 = nI L := by rw [eJ52]; exact g33
          have kk56 : J52 24 = nI G := by rw [eJ52]; exact g34
          have kk57 : J52 17 = 0 := by rw [eJ52]; exact g36
          have kk58 : J52 14 = nI (u + k) := by rw [eJ52]; exact g37
          have kk59 : J52 4 = nI R := by rw [eJ52]; exact g38
          have kk60 : J52 7 = nI (e9 + 1) := by rw [eJ52]; exact g39
          have kk61 : J52 18 = nI (f + 1) := by rw [eJ52]; exact g40
          have kk62 : J52 28 = 0 := by rw [eJ52]; exact hz27.2
          have kk63 : J52 16 = nI (a + 1 + k + 1) := by rw [eJ52, va_up_self]
          refine lv_aload_n Bx.1 Bx.2.1 d_Mo_string_125 rfl (lv_at hl 1 rfl) ?_
          refine f_get Bx hP (by omega) hW54.1 rfl inMo 17 (by decide) kw_673 rfl rfl d_Mo_string_126 ?_
          rw [kk57]
          refine lv_if_ne Bx.1 Bx.2.1 d_Mo_string_129 rfl (fun hb64 => ?_) (fun hb64 => ?_)
          · exact absurd hb64 (by decide)
          · refine lv_aload_n Bx.1 Bx.2.1 d_Mo_string_132 rfl (lv_at hl 1 rfl) ?_
            refine lv_iload_n Bx.1 Bx.2.1 d_Mo_string_133 rfl (lv_at hl 2 rfl) ?_
            have hno := hI.note (A' := A44) (e := e9) (u' := u + k) (by omega) (fun j q8 q9 q0 q1 q4 => by simp [eA44, hz29, eA21, va_up, q0, q9, q4]) (fun i hi => by simp [eA44, hz29, eA21, va_up, upd, hi]) (Or.inl (by simp [eA44, hz29, eA21, va_up])) (by simp [eA44, hz29, eA21, va_up, h4]) (fun _ => ⟨u, k, by simp [eA44, hz29, eA21, va_up, upd], by simp [eA44, hz29, eA21, va_up, upd], by omega⟩)
            have hrr2 : A44 239 f = -1 ∨ ∃ r, A44 239 f = nI r ∧ fs f < r ∧ r < e9 := by simp only [eA44, va_up, hz29 239 (by decide), eA21]; exact hrr
            have hC2 : CL e9 A44 := fun i hi => by simp only [eA44, va_up, hz29 232 (by decide), hz29 233 (by decide), eA21]; exact hC i hi
            refine f_callVv (na := 1) (As := [.int (nI e9)]) (rest := []) Bx hml E hP hD hS (by omega) hW54.1 rfl (m_Mo_placed l hn hW54 kk61 (by omega) (by omega) hno (by omega) hse hrr2 hC2) kw_834 kw_836 sel_Mo_placed kw_8 kw_837 (by decide +kernel) ⟨rfl, rfl⟩ ⟨Nat.le_of_ble_eq_true rfl, Nat.le_of_ble_eq_true rfl⟩ rfl hl.1 (Nat.le_of_ble_eq_true rfl) d_Mo_string_134 ⟨Nat.le_of_ble_eq_true rfl, Nat.le_of_ble_eq_true rfl⟩ (fun mem66 H locs hq hP hS => ?_)
            have hD : va_D (Az sz) (fw n ad mem66) := fw_D hD
            obtain ⟨A67, hW68, hinv69, h3970, hj71⟩ := hq
            have tT72 : A67 225 = T := (hj71 225 (by decide) (by decide) (by decide)).trans tT47
            exact W.vret hx hb hr (fun t ht hW => ⟨⟨mem66, rfl, ⟨J52, A67, nm, hW68, Or.inr ⟨a + 1 + k + 1, by omega, u + k, R, e9 + 1, f, fc, fs, ft, ⟨kk55, kk56, kk63, kk57, kk58, kk59, kk60, kk61⟩, ⟨by omega, by omega, by omega, by omega, by omega, by omega⟩, tT72, Or.inl kk62, hinv69.qT, h3970⟩⟩, by show va_P _ _ _ t.heap; rw [ht]; exact hP⟩, hS.F ht⟩) hS.2.2 d_Mo_string_137
        · refine lv_aload_n Bx.1 Bx.2.1 d_Mo_string_106 rfl (lv_at hl 1 rfl) ?_
          refine lv_iconst (v := 1) Bx.1 Bx.2.1 d_Mo_string_107 (by decide) ?_
          refine lv_aload_n Bx.1 Bx.2.1 d_Mo_string_108 rfl (lv_at hl 1 rfl) ?_
          refine f_get Bx hP (by omega) hW46.1 rfl inMo 16 (by decide) kw_672 rfl rfl d_Mo_string_109 ?_
          rw [g35]
          refine f_callVv (na := 2) (As := [.int (1), .int (nI (a + 1 + k))]) (rest := []) Bx hml E hP hD hS (by omega) hW46.1 rfl (m_Mo_wrong l hn hW46 (Or.inl g36) (by first | exact Or.inl rfl | exact Or.inr rfl)) kw_799 kw_801 sel_Mo_wrong kw_8 kw_802 (by decide +kernel) ⟨rfl, rfl⟩ ⟨Nat.le_of_ble_eq_true rfl, Nat.le_of_ble_eq_true rfl⟩ rfl hl.1 (Nat.le_of_ble_eq_true rfl) d_Mo_string_112 ⟨Nat.le_of_ble_eq_true rfl, Nat.le_of_ble_eq_true rfl⟩ (fun mem74 H locs hq hP hS => ?_)
          have hD : va_D (Az sz) (fw n ad mem74) := fw_D hD
          obtain ⟨J75, hW76, hwr77⟩ := hq
          have kk78 : J75 1 = nI L := (show J75 1 = J9 1 from hwr77.2 1 (by decide) (by decide)).trans g33
          have kk79 : J75 24 = nI G := (show J75 24 = J9 24 from hwr77.2 24 (by decide) (by decide)).trans g34
          have kk80 : J75 16 = nI (a + 1 + k) := (show J75 16 = J9 16 from hwr77.2 16 (by decide) (by decide)).trans g35
          have kk81 : J75 14 = nI (u + k) := (show J75 14 = J9 14 from hwr77.2 14 (by decide) (by decide)).trans g37
          have kk82 : J75 4 = nI R := (show J75 4 = J9 4 from hwr77.2 4 (by decide) (by decide)).trans g38
          have kk83 : J75 7 = nI (e9 + 1) := (show J75 7 = J9 7 from hwr77.2 7 (by decide) (by decide)).trans g39
          have kk84 : J75 18 = nI (f + 1) := (show J75 18 = J9 18 from hwr77.2 18 (by decide) (by decide)).trans g40
          have kk85 : J75 28 = 0 := (show J75 28 = J9 28 from hwr77.2 28 (by decide) (by decide)).trans hz27.2
          refine lv_aload_n Bx.1 Bx.2.1 d_Mo_string_115 rfl (lv_at hl 1 rfl) ?_
          refine lv_dup Bx.1 Bx.2.1 d_Mo_string_116 rfl ?_
          refine f_get Bx hP (by omega) hW76.1 rfl inMo 16 (by decide) kw_672 rfl rfl d_Mo_string_117 ?_
          rw [kk80]
          refine lv_iconst (v := 1) Bx.1 Bx.2.1 d_Mo_string_120 (by decide) ?_
          refine lv_iadd Bx.1 Bx.2.1 d_Mo_string_121 ?_
          rw [show nI (a + 1 + k) + 1 = nI (a + 1 + k + 1) from nI_add (a + 1 + k) (1)]
          refine f_put Bx hP hD hS (by omega) hW76.1 rfl inMo tyMo okMo nmMo 16 (by decide) kw_672 rfl rfl rfl rfl (Nat.le_of_ble_eq_true rfl) d_Mo_string_122 (fun H locs hP hS => ?_)
          obtain ⟨J86, eJ86⟩ : ∃ z, z = va_up J75 16 (nI (a + 1 + k + 1)) := ⟨_, rfl⟩
          obtain ⟨mem87, e_mem87⟩ : ∃ z, z = va_up mem74 224 (moC ad J86) := ⟨_, rfl⟩
          have hP : va_P D vcl (fw n ad mem87) H := by rw [e_mem87, eJ86]; exact hP
          have hD : va_D (Az sz) (fw n ad mem87) := fw_D hD
          have hW88 : MW cy ad J86 A44 nm m0 mem87 := by rw [e_mem87]; exact hW76.upJ (by rw [eJ86]; exact va_up_ne _ _ (by decide))
          have kk89 : J86 1 = nI L := by rw [eJ86]; exact kk78
          have kk90 : J86 24 = nI G := by rw [eJ86]; exact kk79
          have kk91 : J86 14 = nI (u + k) := by rw [eJ86]; exact kk81
          have kk92 : J86 4 = nI R := by rw [eJ86]; exact kk82
          have kk93 : J86 7 = nI (e9 + 1) := by rw [eJ86]; exact kk83
          have kk94 : J86 18 = nI (f + 1) := by rw [eJ86]; exact kk84
          have kk95 : J86 28 = 0 := by rw [eJ86]; exact kk85
          have kk96 : J86 16 = nI (a + 1 + k + 1) := by rw [eJ86, va_up_self]
          have bd97 : b12 (J86 17) := by rw [eJ86]; exact hwr77.1
          refine lv_aload_n Bx.1 Bx.2.1 d_Mo_string_125 rfl (lv_at hl 1 rfl) ?_
          refine f_get Bx hP (by omega) hW88.1 rfl inMo 17 (by decide) kw_673 rfl rfl d_Mo_string_126 ?_
          refine lv_if_ne Bx.1 Bx.2.1 d_Mo_string_129 rfl (fun hb98 => ?_) (fun hb98 => ?_)
          · exact W.vret hx hb hr (fun t ht hW => ⟨⟨mem87, rfl, ⟨J86, A44, nm, hW88, Or.inl ⟨kk89, kk90, tT47, bd97, _, by omega, kk96⟩⟩, by show va_P _ _ _ t.heap; rw [ht]; exact hP⟩, hS.F ht⟩) hS.2.2 d_Mo_string_137
          · exact absurd hb98 bd97.ne
      · have hN99 : ¬ 12 ≤ k := fun q9 => hb42 (show nI (12) ≤ nI (k) from (nI_leI (by omega) (by omega)).mpr q9)
        refine lv_aload_n Bx.1 Bx.2.1 d_Mo_string_28 rfl (lv_at hl 1 rfl) ?_
        refine f_callVi (na := 0) (As := []) (rest := []) Bx hml E hP hD hS (by omega) hz28.1 rfl (m_Mo_here l hn hz28 g33 hL g35 (by omega)) kw_778 kw_780 sel_Mo_here kw_8 kw_781 (by decide +kernel) ⟨rfl, rfl⟩ ⟨Nat.le_of_ble_eq_true rfl, Nat.le_of_ble_eq_true rfl⟩ rfl hl.1 (Nat.le_of_ble_eq_true rfl) d_Mo_string_29 ⟨Nat.le_of_ble_eq_true rfl, Nat.le_of_ble_eq_true rfl⟩ (fun r100 mem101 H locs hq hP hS => ?_)
        have hD : va_D (Az sz) (fw n ad mem101) := fw_D hD
        obtain ⟨hre, hq⟩ := hq
        rw [hq] at hP hD
        subst hre
        rw [show hereF L (A9 225) (a + 1 + k) = hereF L T (a + 1 + k) by rw [tT41]]
        refine lv_bipush (v := 32) Bx.1 Bx.2.1 d_Mo_string_32 (by decide) ?_
        refine lv_bipush (v := 126) Bx.1 Bx.2.1 d_Mo_string_34 (by decide) ?_
        refine f_callSi (na := 3) (As := [.int (hereF L T (a + 1 + k)), .int (32), .int (126)]) (rest := []) Bx hml E.2.1 (m_Mo_within l (hereF L T (a + 1 + k)) (32) (126)) kw_754 kw_755 kw_8 kw_756 (by decide +kernel) ⟨rfl, rfl⟩ ⟨Nat.le_of_ble_eq_true rfl, Nat.le_of_ble_eq_true rfl⟩ rfl hl.1 (Nat.le_of_ble_eq_true rfl) d_Mo_string_36 ⟨Nat.le_of_ble_eq_true rfl, Nat.le_of_ble_eq_true rfl⟩ (fun r103 hs102 => ?_)
        subst hs102
        refine lv_if_eq Bx.1 Bx.2.1 d_Mo_string_39 rfl (fun hb104 => ?_) (fun hb104 => ?_)
        · refine lv_aload_n Bx.1 Bx.2.1 d_Mo_string_90 rfl (lv_at hl 1 rfl) ?_
          refine f_get Bx hP (by omega) hz28.1 rfl inMo 10 (by decide) kw_666 rfl rfl d_Mo_string_91 ?_
          refine lv_iload_n Bx.1 Bx.2.1 d_Mo_string_94 rfl (lv_at hl 2 rfl) ?_
          refine lv_iload_n Bx.1 Bx.2.1 d_Mo_string_95 rfl (lv_at hl 0 rfl) ?_
          refine f_iast (x := nI k) (i := nI (e9)) Bx hP hD hS (by omega) (show mem9 230 = .inl (cy 1, 100, .inl (A9 230)) from hz28.2.2.1 230 (by decide) (by decide) (by decide)) (vp_in_nI (n := e9) (by omega) (by decide)) d_Mo_string_96 (fun H locs hP hS => ?_)
          rw [nI_clamp (n := e9) (by omega)] at hP
          obtain ⟨A105, eA105⟩ : ∃ z, z = va_up A9 230 (upd (A9 230) (e9) (nI k)) := ⟨_, rfl⟩
          obtain ⟨mem106, e_mem106⟩ : ∃ z, z = va_up mem9 230 (.inl (cy 1, 100, .inl (upd (A9 230) (e9) (nI k)))) := ⟨_, rfl⟩
          have hP : va_P D vcl (fw n ad mem106) H := by rw [e_mem106]; exact hP
          have hD : va_D (Az sz) (fw n ad mem106) := fw_D hD
          have hW107 : MW cy ad J9 A105 nm m0 mem106 := by rw [e_mem106, eA105]; exact hz28.upA (j := 230) (by decide) (by decide) (by decide) (Or.inl (by decide))
          have tT108 : A105 225 = T := by rw [eA105]; exact tT41
          refine lv_aload_n Bx.1 Bx.2.1 d_Mo_string_97 rfl (lv_at hl 1 rfl) ?_
          refine f_callVi (na := 0) (As := []) (rest := []) Bx hml E hP hD hS (by omega) hW107.1 rfl (m_Mo_here l hn hW107 g33 hL g35 (by omega)) kw_778 kw_780 sel_Mo_here kw_8 kw_781 (by decide +kernel) ⟨rfl, rfl⟩ ⟨Nat.le_of_ble_eq_true rfl, Nat.le_of_ble_eq_true rfl⟩ rfl hl.1 (Nat.le_of_ble_eq_true rfl) d_Mo_string_98 ⟨Nat.le_of_ble_eq_true rfl, Nat.le_of_ble_eq_true rfl⟩ (fun r109 mem110 H locs hq hP hS => ?_)
          have hD : va_D (Az sz) (fw n ad mem110) := fw_D hD
          obtain ⟨hre, hq⟩ := hq
          rw [hq] at hP hD
          subst hre
          rw [show hereF L (A105 225) (a + 1 + k) = hereF L T (a + 1 + k) by rw [tT108]]
          refine lv_bipush (v := 34) Bx.1 Bx.2.1 d_Mo_string_101 (by decide) ?_
          refine lv_icmp_eq Bx.1 Bx.2.1 d_Mo_string_103 rfl (fun hb111 => ?_) (fun hb111 => ?_)
          · have hlt112 := hereF_lt (by rw [hb111]; decide)
            refine lv_aload_n Bx.1 Bx.2.1 d_Mo_string_115 rfl (lv_at hl 1 rfl) ?_
            refine lv_dup Bx.1 Bx.2.1 d_Mo_string_116 rfl ?_
            refine f_get Bx hP (by omega) hW107.1 rfl inMo 16 (by decide) kw_672 rfl rfl d_Mo_string_117 ?_
            rw [g35]
            refine lv_iconst (v := 1) Bx.1 Bx.2.1 d_Mo_string_120 (by decide) ?_
            refine lv_iadd Bx.1 Bx.2.1 d_Mo_string_121 ?_
            rw [show nI (a + 1 + k) + 1 = nI (a + 1 + k + 1) from nI_add (a + 1 + k) (1)]
            refine f_put Bx hP hD hS (by omega) hW107.1 rfl inMo tyMo okMo nmMo 16 (by decide) kw_672 rfl rfl rfl rfl (Nat.le_of_ble_eq_true rfl) d_Mo_string_122 (fun H locs hP hS => ?_)
            obtain ⟨J113, eJ113⟩ : ∃ z, z = va_up J9 16 (nI (a + 1 + k + 1)) := ⟨_, rfl⟩
            obtain ⟨mem114, e_mem114⟩ : ∃ z, z = va_up mem106 224 (moC ad J113) := ⟨_, rfl⟩
            have hP : va_P D vcl (fw n ad mem114) H := by rw [e_mem114, eJ113]; exact hP
            have hD : va_D (Az sz) (fw n ad mem114) := fw_D hD
            have hW115 : MW cy ad J113 A105 nm m0 mem114 := by rw [e_mem114]; exact hW107.upJ (by rw [eJ113]; exact va_up_ne _ _ (by decide))
            have kk116 : J113 1 = nI L := by rw [eJ113]; exact g33
            have kk117 : J113 24 = nI G := by rw [eJ113]; exact g34
            have kk118 : J113 17 = 0 := by rw [eJ113]; exact g36
            have kk119 : J113 14 = nI (u + k) := by rw [eJ113]; exact g37
            have kk120 : J113 4 = nI R := by rw [eJ113]; exact g38
            have kk121 : J113 7 = nI (e9 + 1) := by rw [eJ113]; exact g39
            have kk122 : J113 18 = nI (f + 1) := by rw [eJ113]; exact g40
            have kk123 : J113 28 = 0 := by rw [eJ113]; exact hz27.2
            have kk124 : J113 16 = nI (a + 1 + k + 1) := by rw [eJ113, va_up_self]
            refine lv_aload_n Bx.1 Bx.2.1 d_Mo_string_125 rfl (lv_at hl 1 rfl) ?_
            refine f_get Bx hP (by omega) hW115.1 rfl inMo 17 (by decide) kw_673 rfl rfl d_Mo_string_126 ?_
            rw [kk118]
            refine lv_if_ne Bx.1 Bx.2.1 d_Mo_string_129 rfl (fun hb125 => ?_) (fun hb125 => ?_)
            · exact absurd hb125 (by decide)
            · refine lv_aload_n Bx.1 Bx.2.1 d_Mo_string_132 rfl (lv_at hl 1 rfl) ?_
              refine lv_iload_n Bx.1 Bx.2.1 d_Mo_string_133 rfl (lv_at hl 2 rfl) ?_
              have hno := hI.note (A' := A105) (e := e9) (u' := u + k) (by omega) (fun j q8 q9 q0 q1 q4 => by simp [eA105, hz29, eA21, va_up, q0, q9, q4]) (fun i hi => by simp [eA105, hz29, eA21, va_up, upd, hi]) (Or.inl (by simp [eA105, hz29, eA21, va_up])) (by simp [eA105, hz29, eA21, va_up, h4]) (fun _ => ⟨u, k, by simp [eA105, hz29, eA21, va_up, upd], by simp [eA105, hz29, eA21, va_up, upd], by omega⟩)
              have hrr2 : A105 239 f = -1 ∨ ∃ r, A105 239 f = nI r ∧ fs f < r ∧ r < e9 := by simp only [eA105, va_up, hz29 239 (by decide), eA21]; exact hrr
              have hC2 : CL e9 A105 := fun i hi => by simp only [eA105, va_up, hz29 232 (by decide), hz29 233 (by decide), eA21]; exact hC i hi
              refine f_callVv (na := 1) (As := [.int (nI e9)]) (rest := []) Bx hml E hP hD hS (by omega) hW115.1 rfl (m_Mo_placed l hn hW115 kk122 (by omega) (by omega) hno (by omega) hse hrr2 hC2) kw_834 kw_836 sel_Mo_placed kw_8 kw_837 (by decide +kernel) ⟨rfl, rfl⟩ ⟨Nat.le_of_ble_eq_true rfl, Nat.le_of_ble_eq_true rfl⟩ rfl hl.1 (Nat.le_of_ble_eq_true rfl) d_Mo_string_134 ⟨Nat.le_of_ble_eq_true rfl, Nat.le_of_ble_eq_true rfl⟩ (fun mem127 H locs hq hP hS => ?_)
              have hD : va_D (Az sz) (fw n ad mem127) := fw_D hD
              obtain ⟨A128, hW129, hinv130, h39131, hj132⟩ := hq
              have tT133 : A128 225 = T := (hj132 225 (by decide) (by decide) (by decide)).trans tT108
              exact W.vret hx hb hr (fun t ht hW => ⟨⟨mem127, rfl, ⟨J113, A128, nm, hW129, Or.inr ⟨a + 1 + k + 1, by omega, u + k, R, e9 + 1, f, fc, fs, ft, ⟨kk116, kk117, kk124, kk118, kk119, kk120, kk121, kk122⟩, ⟨by omega, by omega, by omega, by omega, by omega, by omega⟩, tT133, Or.inl kk123, hinv130.qT, h39131⟩⟩, by show va_P _ _ _ t.heap; rw [ht]; exact hP⟩, hS.F ht⟩) hS.2.2 d_Mo_string_137
          · refine lv_aload_n Bx.1 Bx.2.1 d_Mo_string_106 rfl (lv_at hl 1 rfl) ?_
            refine lv_iconst (v := 1) Bx.1 Bx.2.1 d_Mo_string_107 (by decide) ?_
            refine lv_aload_n Bx.1 Bx.2.1 d_Mo_string_108 rfl (lv_at hl 1 rfl) ?_
            refine f_get Bx hP (by omega) hW107.1 rfl inMo 16 (by decide) kw_672 rfl rfl d_Mo_string_109 ?_
            rw [g35]
            refine f_callVv (na := 2) (As := [.int (1), .int (nI (a + 1 + k))]) (rest := []) Bx hml E hP hD hS (by omega) hW107.1 rfl (m_Mo_wrong l hn hW107 (Or.inl g36) (by first | exact Or.inl rfl | exact Or.inr rfl)) kw_799 kw_801 sel_Mo_wrong kw_8 kw_802 (by decide +kernel) ⟨rfl, rfl⟩ ⟨Nat.le_of_ble_eq_true rfl, Nat.le_of_ble_eq_true rfl⟩ rfl hl.1 (Nat.le_of_ble_eq_true rfl) d_Mo_string_112 ⟨Nat.le_of_ble_eq_true rfl, Nat.le_of_ble_eq_true rfl⟩ (fun mem135 H locs hq hP hS => ?_)
            have hD : va_D (Az sz) (fw n ad mem135) := fw_D hD
            obtain ⟨J136, hW137, hwr138⟩ := hq
            have kk139 : J136 1 = nI L := (show J136 1 = J9 1 from hwr138.2 1 (by decide) (by decide)).trans g33
            have kk140 : J136 24 = nI G := (show J136 24 = J9 24 from hwr138.2 24 (by decide) (by decide)).trans g34
            have kk141 : J136 16 = nI (a + 1 + k) := (show J136 16 = J9 16 from hwr138.2 16 (by decide) (by decide)).trans g35
            have kk142 : J136 14 = nI (u + k) := (show J136 14 = J9 14 from hwr138.2 14 (by decide) (by decide)).trans g37
            have kk143 : J136 4 = nI R := (show J136 4 = J9 4 from hwr138.2 4 (by decide) (by decide)).trans g38
            have kk144 : J136 7 = nI (e9 + 1) := (show J136 7 = J9 7 from hwr138.2 7 (by decide) (by decide)).trans g39
            have kk145 : J136 18 = nI (f + 1) := (show J136 18 = J9 18 from hwr138.2 18 (by decide) (by decide)).trans g40
            have kk146 : J136 28 = 0 := (show J136 28 = J9 28 from hwr138.2 28 (by decide) (by decide)).trans hz27.2
            refine lv_aload_n Bx.1 Bx.2.1 d_Mo_string_115 rfl (lv_at hl 1 rfl) ?_
            refine lv_dup Bx.1 Bx.2.1 d_Mo_string_116 rfl ?_
            refine f_get Bx hP (by omega) hW137.1 rfl inMo 16 (by decide) kw_672 rfl rfl d_Mo_string_117 ?_
            rw [kk141]
            refine lv_iconst (v := 1) Bx.1 Bx.2.1 d_Mo_string_120 (by decide) ?_
            refine lv_iadd Bx.1 Bx.2.1 d_Mo_string_121 ?_
            rw [show nI (a + 1 + k) + 1 = nI (a + 1 + k + 1) from nI_add (a + 1 + k) (1)]
            refine f_put Bx hP hD hS (by omega) hW137.1 rfl inMo tyMo okMo nmMo 16 (by decide) kw_672 rfl rfl rfl rfl (Nat.le_of_ble_eq_true rfl) d_Mo_string_122 (fun H locs hP hS => ?_)
            obtain ⟨J147, eJ147⟩ : ∃ z, z = va_up J136 16 (nI (a + 1 + k + 1)) := ⟨_, rfl⟩
            obtain ⟨mem148, e_mem148⟩ : ∃ z, z = va_up mem135 224 (moC ad J147) := ⟨_, rfl⟩
            have hP : va_P D vcl (fw n ad mem148) H := by rw [e_mem148, eJ147]; exact hP
            have hD : va_D (Az sz) (fw n ad mem148) := fw_D hD
            have hW149 : MW cy ad J147 A105 nm m0 mem148 := by rw [e_mem148]; exact hW137.upJ (by rw [eJ147]; exact va_up_ne _ _ (by decide))
            have kk150 : J147 1 = nI L := by rw [eJ147]; exact kk139
            have kk151 : J147 24 = nI G := by rw [eJ147]; exact kk140
            have kk152 : J147 14 = nI (u + k) := by rw [eJ147]; exact kk142
            have kk153 : J147 4 = nI R := by rw [eJ147]; exact kk143
            have kk154 : J147 7 = nI (e9 + 1) := by rw [eJ147]; exact kk144
            have kk155 : J147 18 = nI (f + 1) := by rw [eJ147]; exact kk145
            have kk156 : J147 28 = 0 := by rw [eJ147]; exact kk146
            have kk157 : J147 16 = nI (a + 1 + k + 1) := by rw [eJ147, va_up_self]
            have bd158 : b12 (J147 17) := by rw [eJ147]; exact hwr138.1
            refine lv_aload_n Bx.1 Bx.2.1 d_Mo_string_125 rfl (lv_at hl 1 rfl) ?_
            refine f_get Bx hP (by omega) hW149.1 rfl inMo 17 (by decide) kw_673 rfl rfl d_Mo_string_126 ?_
            refine lv_if_ne Bx.1 Bx.2.1 d_Mo_string_129 rfl (fun hb159 => ?_) (fun hb159 => ?_)
            · exact W.vret hx hb hr (fun t ht hW => ⟨⟨mem148, rfl, ⟨J147, A105, nm, hW149, Or.inl ⟨kk150, kk151, tT108, bd158, _, by omega, kk157⟩⟩, by show va_P _ _ _ t.heap; rw [ht]; exact hP⟩, hS.F ht⟩) hS.2.2 d_Mo_string_137
            · exact absurd hb159 bd158.ne
        · have hlt9 : a + 1 + k < L := hereF_lt (wi_ne hb104)
          refine lv_aload_n Bx.1 Bx.2.1 d_Mo_string_42 rfl (lv_at hl 1 rfl) ?_
          refine f_callVi (na := 0) (As := []) (rest := []) Bx hml E hP hD hS (by omega) hz28.1 rfl (m_Mo_here l hn hz28 g33 hL g35 (by omega)) kw_778 kw_780 sel_Mo_here kw_8 kw_781 (by decide +kernel) ⟨rfl, rfl⟩ ⟨Nat.le_of_ble_eq_true rfl, Nat.le_of_ble_eq_true rfl⟩ rfl hl.1 (Nat.le_of_ble_eq_true rfl) d_Mo_string_43 ⟨Nat.le_of_ble_eq_true rfl, Nat.le_of_ble_eq_true rfl⟩ (fun r160 mem161 H locs hq hP hS => ?_)
          have hD : va_D (Az sz) (fw n ad mem161) := fw_D hD
          obtain ⟨hre, hq⟩ := hq
          rw [hq] at hP hD
          subst hre
          rw [show hereF L (A9 225) (a + 1 + k) = hereF L T (a + 1 + k) by rw [tT41]]
          refine lv_bipush (v := 34) Bx.1 Bx.2.1 d_Mo_string_46 (by decide) ?_
          refine lv_icmp_eq Bx.1 Bx.2.1 d_Mo_string_48 rfl (fun hb162 => ?_) (fun hb162 => ?_)
          · have hlt163 := hereF_lt (by rw [hb162]; decide)
            refine lv_aload_n Bx.1 Bx.2.1 d_Mo_string_90 rfl (lv_at hl 1 rfl) ?_
            refine f_get Bx hP (by omega) hz28.1 rfl inMo 10 (by decide) kw_666 rfl rfl d_Mo_string_91 ?_
            refine lv_iload_n Bx.1 Bx.2.1 d_Mo_string_94 rfl (lv_at hl 2 rfl) ?_
            refine lv_iload_n Bx.1 Bx.2.1 d_Mo_string_95 rfl (lv_at hl 0 rfl) ?_
            refine f_iast (x := nI k) (i := nI (e9)) Bx hP hD hS (by omega) (show mem9 230 = .inl (cy 1, 100, .inl (A9 230)) from hz28.2.2.1 230 (by decide) (by decide) (by decide)) (vp_in_nI (n := e9) (by omega) (by decide)) d_Mo_string_96 (fun H locs hP hS => ?_)
            rw [nI_clamp (n := e9) (by omega)] at hP
            obtain ⟨A164, eA164⟩ : ∃ z, z = va_up A9 230 (upd (A9 230) (e9) (nI k)) := ⟨_, rfl⟩
            obtain ⟨mem165, e_mem165⟩ : ∃ z, z = va_up mem9 230 (.inl (cy 1, 100, .inl (upd (A9 230) (e9) (nI k)))) := ⟨_, rfl⟩
            have hP : va_P D vcl (fw n ad mem165) H := by rw [e_mem165]; exact hP
            have hD : va_D (Az sz) (fw n ad mem165) := fw_D hD
            have hW166 : MW cy ad J9 A164 nm m0 mem165 := by rw [e_mem165, eA164]; exact hz28.upA (j := 230) (by decide) (by decide) (by decide) (Or.inl (by decide))
            have tT167 : A164 225 = T := by rw [eA164]; exact tT41
            refine lv_aload_n Bx.1 Bx.2.1 d_Mo_string_97 rfl (lv_at hl 1 rfl) ?_
            refine f_callVi (na := 0) (As := []) (rest := []) Bx hml E hP hD hS (by omega) hW166.1 rfl (m_Mo_here l hn hW166 g33 hL g35 (by omega)) kw_778 kw_780 sel_Mo_here kw_8 kw_781 (by decide +kernel) ⟨rfl, rfl⟩ ⟨Nat.le_of_ble_eq_true rfl, Nat.le_of_ble_eq_true rfl⟩ rfl hl.1 (Nat.le_of_ble_eq_true rfl) d_Mo_string_98 ⟨Nat.le_of_ble_eq_true rfl, Nat.le_of_ble_eq_true rfl⟩ (fun r168 mem169 H locs hq hP hS => ?_)
            have hD : va_D (Az sz) (fw n ad mem169) := fw_D hD
            obtain ⟨hre, hq⟩ := hq
            rw [hq] at hP hD
            subst hre
            rw [show hereF L (A164 225) (a + 1 + k) = hereF L T (a + 1 + k) by rw [tT167]]
            refine lv_bipush (v := 34) Bx.1 Bx.2.1 d_Mo_string_101 (by decide) ?_
            refine lv_icmp_eq Bx.1 Bx.2.1 d_Mo_string_103 rfl (fun hb170 => ?_) (fun hb170 => ?_)
            · have hlt171 := hereF_lt (by rw [hb170]; decide)
              refine lv_aload_n Bx.1 Bx.2.1 d_Mo_string_115 rfl (lv_at hl 1 rfl) ?_
              refine lv_dup Bx.1 Bx.2.1 d_Mo_string_116 rfl ?_
              refine f_get Bx hP (by omega) hW166.1 rfl inMo 16 (by decide) kw_672 rfl rfl d_Mo_string_117 ?_
              rw [g35]
              refine lv_iconst (v := 1) Bx.1 Bx.2.1 d_Mo_string_120 (by decide) ?_
              refine lv_iadd Bx.1 Bx.2.1 d_Mo_string_121 ?_
              rw [show nI (a + 1 + k) + 1 = nI (a + 1 + k + 1) from nI_add (a + 1 + k) (1)]
              refine f_put Bx hP hD hS (by omega) hW166.1 rfl inMo tyMo okMo nmMo 16 (by decide) kw_672 rfl rfl rfl rfl (Nat.le_of_ble_eq_true rfl) d_Mo_string_122 (fun H locs hP hS => ?_)
              obtain ⟨J172, eJ172⟩ : ∃ z, z = va_up J9 16 (nI (a + 1 + k + 1)) := ⟨_, rfl⟩
              obtain ⟨mem173, e_mem173⟩ : ∃ z, z = va_up mem165 224 (moC ad J172) := ⟨_, rfl⟩
              have hP : va_P D vcl (fw n ad mem173) H := by rw [e_mem173, eJ172]; exact hP
              have hD : va_D (Az sz) (fw n ad mem173) := fw_D hD
              have hW174 : MW cy ad J172 A164 nm m0 mem173 := by rw [e_mem173]; exact hW166.upJ (by rw [eJ172]; exact va_up_ne _ _ (by decide))
              have kk175 : J172 1 = nI L := by rw [eJ172]; exact g33
              have kk176 : J172 24 = nI G := by rw [eJ172]; exact g34
              have kk177 : J172 17 = 0 := by rw [eJ172]; exact g36
              have kk178 : J172 14 = nI (u + k) := by rw [eJ172]; exact g37
              have kk179 : J172 4 = nI R := by rw [eJ172]; exact g38
              have kk180 : J172 7 = nI (e9 + 1) := by rw [eJ172]; exact g39
              have kk181 : J172 18 = nI (f + 1) := by rw [eJ172]; exact g40
              have kk182 : J172 28 = 0 := by rw [eJ172]; exact hz27.2
              have kk183 : J172 16 = nI (a + 1 + k + 1) := by rw [eJ172, va_up_self]
              refine lv_aload_n Bx.1 Bx.2.1 d_Mo_string_125 rfl (lv_at hl 1 rfl) ?_
              refine f_get Bx hP (by omega) hW174.1 rfl inMo 17 (by decide) kw_673 rfl rfl d_Mo_string_126 ?_
              rw [kk177]
              refine lv_if_ne Bx.1 Bx.2.1 d_Mo_string_129 rfl (fun hb184 => ?_) (fun hb184 => ?_)
              · exact absurd hb184 (by decide)
              · refine lv_aload_n Bx.1 Bx.2.1 d_Mo_string_132 rfl (lv_at hl 1 rfl) ?_
                refine lv_iload_n Bx.1 Bx.2.1 d_Mo_string_133 rfl (lv_at hl 2 rfl) ?_
                have hno := hI.note (A' := A164) (e := e9) (u' := u + k) (by omega) (fun j q8 q9 q0 q1 q4 => by simp [eA164, hz29, eA21, va_up, q0, q9, q4]) (fun i hi => by simp [eA164, hz29, eA21, va_up, upd, hi]) (Or.inl (by simp [eA164, hz29, eA21, va_up])) (by simp [eA164, hz29, eA21, va_up, h4]) (fun _ => ⟨u, k, by simp [eA164, hz29, eA21, va_up, upd], by simp [eA164, hz29, eA21, va_up, upd], by omega⟩)
                have hrr2 : A164 239 f = -1 ∨ ∃ r, A164 239 f = nI r ∧ fs f < r ∧ r < e9 := by simp only [eA164, va_up, hz29 239 (by decide), eA21]; exact hrr
                have hC2 : CL e9 A164 := fun i hi => by simp only [eA164, va_up, hz29 232 (by decide), hz29 233 (by decide), eA21]; exact hC i hi
                refine f_callVv (na := 1) (As := [.int (nI e9)]) (rest := []) Bx hml E hP hD hS (by omega) hW174.1 rfl (m_Mo_placed l hn hW174 kk181 (by omega) (by omega) hno (by omega) hse hrr2 hC2) kw_834 kw_836 sel_Mo_placed kw_8 kw_837 (by decide +kernel) ⟨rfl, rfl⟩ ⟨Nat.le_of_ble_eq_true rfl, Nat.le_of_ble_eq_true rfl⟩ rfl hl.1 (Nat.le_of_ble_eq_true rfl) d_Mo_string_134 ⟨Nat.le_of_ble_eq_true rfl, Nat.le_of_ble_eq_true rfl⟩ (fun mem186 H locs hq hP hS => ?_)
                have hD : va_D (Az sz) (fw n ad mem186) := fw_D hD
                obtain ⟨A187, hW188, hinv189, h39190, hj191⟩ := hq
                have tT192 : A187 225 = T := (hj191 225 (by decide) (by decide) (by decide)).trans tT167
                exact W.vret hx hb hr (fun t ht hW => ⟨⟨mem186, rfl, ⟨J172, A187, nm, hW188, Or.inr ⟨a + 1 + k + 1, by omega, u + k, R, e9 + 1, f, fc, fs, ft, ⟨kk175, kk176, kk183, kk177, kk178, kk179, kk180, kk181⟩, ⟨by omega, by omega, by omega, by omega, by omega, by omega⟩, tT192, Or.inl kk182, hinv189.qT, h39190⟩⟩, by show va_P _ _ _ t.heap; rw [ht]; exact hP⟩, hS.F ht⟩) hS.2.2 d_Mo_string_137
            · refine lv_aload_n Bx.1 Bx.2.1 d_Mo_string_106 rfl (lv_at hl 1 rfl) ?_
              refine lv_iconst (v := 1) Bx.1 Bx.2.1 d_Mo_string_107 (by decide) ?_
              refine lv_aload_n Bx.1 Bx.2.1 d_Mo_string_108 rfl (lv_at hl 1 rfl) ?_
              refine f_get Bx hP (by omega) hW166.1 rfl inMo 16 (by decide) kw_672 rfl rfl d_Mo_string_109 ?_
              rw [g35]
              refine f_callVv (na := 2) (As := [.int (1), .int (nI (a + 1 + k))]) (rest := []) Bx hml E hP hD hS (by omega) hW166.1 rfl (m_Mo_wrong l hn hW166 (Or.inl g36) (by first | exact Or.inl rfl | exact Or.inr rfl)) kw_799 kw_801 sel_Mo_wrong kw_8 kw_802 (by decide +kernel) ⟨rfl, rfl⟩ ⟨Nat.le_of_ble_eq_true rfl, Nat.le_of_ble_eq_true rfl⟩ rfl hl.1 (Nat.le_of_ble_eq_true rfl) d_Mo_string_112 ⟨Nat.le_of_ble_eq_true rfl, Nat.le_of_ble_eq_true rfl⟩ (fun mem194 H locs hq hP hS => ?_)
              have hD : va_D (Az sz) (fw n ad mem194) := fw_D hD
              obtain ⟨J195, hW196, hwr197⟩ := hq
              have kk198 : J195 1 = nI L := (show J195 1 = J9 1 from hwr197.2 1 (by decide) (by decide)).trans g33
              have kk199 : J195 24 = nI G := (show J195 24 = J9 24 from hwr197.2 24 (by decide) (by decide)).trans g34
              have kk200 : J195 16 = nI (a + 1 + k) := (show J195 16 = J9 16 from hwr197.2 16 (by decide) (by decide)).trans g35
              have kk201 : J195 14 = nI (u + k) := (show J195 14 = J9 14 from hwr197.2 14 (by decide) (by decide)).trans g37
              have kk202 : J195 4 = nI R := (show J195 4 = J9 4 from hwr197.2 4 (by decide) (by decide)).trans g38
              have kk203 : J195 7 = nI (e9 + 1) := (show J195 7 = J9 7 from hwr197.2 7 (by decide) (by decide)).trans g39
              have kk204 : J195 18 = nI (f + 1) := (show J195 18 = J9 18 from hwr197.2 18 (by decide) (by decide)).trans g40
              have kk205 : J195 28 = 0 := (show J195 28 = J9 28 from hwr197.2 28 (by decide) (by decide)).trans hz27.2
              refine lv_aload_n Bx.1 Bx.2.1 d_Mo_string_115 rfl (lv_at hl 1 rfl) ?_
              refine lv_dup Bx.1 Bx.2.1 d_Mo_string_116 rfl ?_
              refine f_get Bx hP (by omega) hW196.1 rfl inMo 16 (by decide) kw_672 rfl rfl d_Mo_string_117 ?_
              rw [kk200]
              refine lv_iconst (v := 1) Bx.1 Bx.2.1 d_Mo_string_120 (by decide) ?_
              refine lv_iadd Bx.1 Bx.2.1 d_Mo_string_121 ?_
              rw [show nI (a + 1 + k) + 1 = nI (a + 1 + k + 1) from nI_add (a + 1 + k) (1)]
              refine f_put Bx hP hD hS (by omega) hW196.1 rfl inMo tyMo okMo nmMo 16 (by decide) kw_672 rfl rfl rfl rfl (Nat.le_of_ble_eq_true rfl) d_Mo_string_122 (fun H locs hP hS => ?_)
              obtain ⟨J206, eJ206⟩ : ∃ z, z = va_up J195 16 (nI (a + 1 + k + 1)) := ⟨_, rfl⟩
              obtain ⟨mem207, e_mem207⟩ : ∃ z, z = va_up mem194 224 (moC ad J206) := ⟨_, rfl⟩
              have hP : va_P D vcl (fw n ad mem207) H := by rw [e_mem207, eJ206]; exact hP
              have hD : va_D (Az sz) (fw n ad mem207) := fw_D hD
              have hW208 : MW cy ad J206 A164 nm m0 mem207 := by rw [e_mem207]; exact hW196.upJ (by rw [eJ206]; exact va_up_ne _ _ (by decide))
              have kk209 : J206 1 = nI L := by rw [eJ206]; exact kk198
              have kk210 : J206 24 = nI G := by rw [eJ206]; exact kk199
              have kk211 : J206 14 = nI (u + k) := by rw [eJ206]; exact kk201
              have kk212 : J206 4 = nI R := by rw [eJ206]; exact kk202
              have kk213 : J206 7 = nI (e9 + 1) := by rw [eJ206]; exact kk203
              have kk214 : J206 18 = nI (f + 1) := by rw [eJ206]; exact kk204
              have kk215 : J206 28 = 0 := by rw [eJ206]; exact kk205
              have kk216 : J206 16 = nI (a + 1 + k + 1) := by rw [eJ206, va_up_self]
              have bd217 : b12 (J206 17) := by rw [eJ206]; exact hwr197.1
              refine lv_aload_n Bx.1 Bx.2.1 d_Mo_string_125 rfl (lv_at hl 1 rfl) ?_
              refine f_get Bx hP (by omega) hW208.1 rfl inMo 17 (by decide) kw_673 rfl rfl d_Mo_string_126 ?_
              refine lv_if_ne Bx.1 Bx.2.1 d_Mo_string_129 rfl (fun hb218 => ?_) (fun hb218 => ?_)
              · exact W.vret hx hb hr (fun t ht hW => ⟨⟨mem207, rfl, ⟨J206, A164, nm, hW208, Or.inl ⟨kk209, kk210, tT167, bd217, _, by omega, kk216⟩⟩, by show va_P _ _ _ t.heap; rw [ht]; exact hP⟩, hS.F ht⟩) hS.2.2 d_Mo_string_137
              · exact absurd hb218 bd217.ne
          · refine lv_aload_n Bx.1 Bx.2.1 d_Mo_string_51 rfl (lv_at hl 1 rfl) ?_
            refine f_get Bx hP (by omega) hz28.1 rfl inMo 15 (by decide) kw_671 rfl rfl d_Mo_string_52 ?_
            refine lv_aload_n Bx.1 Bx.2.1 d_Mo_string_55 rfl (lv_at hl 1 rfl) ?_
            refine f_get Bx hP (by omega) hz28.1 rfl inMo 14 (by decide) kw_670 rfl rfl d_Mo_string_56 ?_
            rw [g37]
            refine lv_aload_n Bx.1 Bx.2.1 d_Mo_string_59 rfl (lv_at hl 1 rfl) ?_
            refine f_callVi (na := 0) (As := []) (rest := [.int (nI (u + k)), .ref (ad 234)]) Bx hml E hP hD hS (by omega) hz28.1 rfl (m_Mo_here l hn hz28 g33 hL g35 (by omega)) kw_778 kw_780 sel_Mo_here kw_8 kw_781 (by decide +kernel) ⟨rfl, rfl⟩ ⟨Nat.le_of_ble_eq_true rfl, Nat.le_of_ble_eq_true rfl⟩ rfl hl.1 (Nat.le_of_ble_eq_true rfl) d_Mo_string_60 ⟨Nat.le_of_ble_eq_true rfl, Nat.le_of_ble_eq_true rfl⟩ (fun r219 mem220 H locs hq hP hS => ?_)
            have hD : va_D (Az sz) (fw n ad mem220) := fw_D hD
            obtain ⟨hre, hq⟩ := hq
            rw [hq] at hP hD
            subst hre
            rw [show hereF L (A9 225) (a + 1 + k) = hereF L T (a + 1 + k) by rw [tT41]]
            refine f_iast (x := hereF L T (a + 1 + k)) (i := nI (u + k)) Bx hP hD hS (by omega) (show mem9 234 = .inl (cy 1, 400, .inl (A9 234)) from hz28.2.2.1 234 (by decide) (by decide) (by decide)) (vp_in_nI (n := u + k) (by omega) (by decide)) d_Mo_string_63 (fun H locs hP hS => ?_)
            rw [nI_clamp (n := u + k) (by omega)] at hP
            obtain ⟨A221, eA221⟩ : ∃ z, z = va_up A9 234 (upd (A9 234) (u + k) (hereF L T (a + 1 + k))) := ⟨_, rfl⟩
            obtain ⟨mem222, e_mem222⟩ : ∃ z, z = va_up mem9 234 (.inl (cy 1, 400, .inl (upd (A9 234) (u + k) (hereF L T (a + 1 + k))))) := ⟨_, rfl⟩
            have hP : va_P D vcl (fw n ad mem222) H := by rw [e_mem222]; exact hP
            have hD : va_D (Az sz) (fw n ad mem222) := fw_D hD
            have hW223 : MW cy ad J9 A221 nm m0 mem222 := by rw [e_mem222, eA221]; exact hz28.upA (j := 234) (by decide) (by decide) (by decide) (Or.inl (by decide))
            have tT224 : A221 225 = T := by rw [eA221]; exact tT41
            refine lv_aload_n Bx.1 Bx.2.1 d_Mo_string_64 rfl (lv_at hl 1 rfl) ?_
            refine lv_dup Bx.1 Bx.2.1 d_Mo_string_65 rfl ?_
            refine f_get Bx hP (by omega) hW223.1 rfl inMo 14 (by decide) kw_670 rfl rfl d_Mo_string_66 ?_
            rw [g37]
            refine lv_iconst (v := 1) Bx.1 Bx.2.1 d_Mo_string_69 (by decide) ?_
            refine lv_iadd Bx.1 Bx.2.1 d_Mo_string_70 ?_
            rw [show nI (u + k) + 1 = nI (u + k + 1) from nI_add (u + k) (1)]
            refine f_put Bx hP hD hS (by omega) hW223.1 rfl inMo tyMo okMo nmMo 14 (by decide) kw_670 rfl rfl rfl rfl (Nat.le_of_ble_eq_true rfl) d_Mo_string_71 (fun H locs hP hS => ?_)
            obtain ⟨J225, eJ225⟩ : ∃ z, z = va_up J9 14 (nI (u + k + 1)) := ⟨_, rfl⟩
            obtain ⟨mem226, e_mem226⟩ : ∃ z, z = va_up mem222 224 (moC ad J225) := ⟨_, rfl⟩
            have hP : va_P D vcl (fw n ad mem226) H := by rw [e_mem226, eJ225]; exact hP
            have hD : va_D (Az sz) (fw n ad mem226) := fw_D hD
            have hW227 : MW cy ad J225 A221 nm m0 mem226 := by rw [e_mem226]; exact hW223.upJ (by rw [eJ225]; exact va_up_ne _ _ (by decide))
            have kk228 : J225 1 = nI L := by rw [eJ225]; exact g33
            have kk229 : J225 24 = nI G := by rw [eJ225]; exact g34
            have kk230 : J225 16 = nI (a + 1 + k) := by rw [eJ225]; exact g35
            have kk231 : J225 17 = 0 := by rw [eJ225]; exact g36
            have kk232 : J225 4 = nI R := by rw [eJ225]; exact g38
            have kk233 : J225 7 = nI (e9 + 1) := by rw [eJ225]; exact g39
            have kk234 : J225 18 = nI (f + 1) := by rw [eJ225]; exact g40
            have kk235 : J225 28 = 0 := by rw [eJ225]; exact hz27.2
            have kk236 : J225 14 = nI (u + k + 1) := by rw [eJ225, va_up_self]
            refine lv_iinc (lv' := [(2, .int ((nI k + (1)))), (0, .ref (ad 224)), (1, .int (nI e9))]) Bx.1 Bx.2.1 d_Mo_string_74 hl (k := 0) rfl rfl (by decide) rfl (fun ls hl => ?_)
            rw [show (nI k + (1) : Int32) = nI (k + 1) from nI_1 (k)] at hl
            refine lv_aload_n Bx.1 Bx.2.1 d_Mo_string_77 rfl (lv_at hl 1 rfl) ?_
            refine lv_dup Bx.1 Bx.2.1 d_Mo_string_78 rfl ?_
            refine f_get Bx hP (by omega) hW227.1 rfl inMo 16 (by decide) kw_672 rfl rfl d_Mo_string_79 ?_
            rw [kk230]
            refine lv_iconst (v := 1) Bx.1 Bx.2.1 d_Mo_string_82 (by decide) ?_
            refine lv_iadd Bx.1 Bx.2.1 d_Mo_string_83 ?_
            rw [show nI (a + 1 + k) + 1 = nI (a + 1 + k + 1) from nI_add (a + 1 + k) (1)]
            refine f_put Bx hP hD hS (by omega) hW227.1 rfl inMo tyMo okMo nmMo 16 (by decide) kw_672 rfl rfl rfl rfl (Nat.le_of_ble_eq_true rfl) d_Mo_string_84 (fun H locs hP hS => ?_)
            obtain ⟨J237, eJ237⟩ : ∃ z, z = va_up J225 16 (nI (a + 1 + k + 1)) := ⟨_, rfl⟩
            obtain ⟨mem238, e_mem238⟩ : ∃ z, z = va_up mem226 224 (moC ad J237) := ⟨_, rfl⟩
            have hP : va_P D vcl (fw n ad mem238) H := by rw [e_mem238, eJ237]; exact hP
            have hD : va_D (Az sz) (fw n ad mem238) := fw_D hD
            have hW239 : MW cy ad J237 A221 nm m0 mem238 := by rw [e_mem238]; exact hW227.upJ (by rw [eJ237]; exact va_up_ne _ _ (by decide))
            have kk240 : J237 1 = nI L := by rw [eJ237]; exact kk228
            have kk241 : J237 24 = nI G := by rw [eJ237]; exact kk229
            have kk242 : J237 17 = 0 := by rw [eJ237]; exact kk231
            have kk243 : J237 4 = nI R := by rw [eJ237]; exact kk232
            have kk244 : J237 7 = nI (e9 + 1) := by rw [eJ237]; exact kk233
            have kk245 : J237 18 = nI (f + 1) := by rw [eJ237]; exact kk234
            have kk246 : J237 28 = 0 := by rw [eJ237]; exact kk235
            have kk247 : J237 14 = nI (u + k + 1) := by rw [eJ237]; exact kk236
            have kk248 : J237 16 = nI (a + 1 + k + 1) := by rw [eJ237, va_up_self]
            refine lv_goto Bx.1 Bx.2.1 d_Mo_string_87 rfl ?_
            have hje : ∀ j, j ≠ 234 → A221 j = A21 j := fun j hj => by rw [eA221, va_up_ne _ _ hj]; exact hz29 j hj
            have hn16 : J237 16 = nI (a + 1 + (k + 1)) := kk248
            have hn14 : J237 14 = nI (u + (k + 1)) := kk247
            exact ih31 mem238 (J237) (A221) (k + 1) _ _ _ (by have := hmeas32; omega) (⟨⟨kk240, kk241, hn16, kk242, hn14, kk243, kk244, kk245⟩, kk246⟩) (hW239) (hje) (⟨by omega, by omega⟩) hP hD hS (lv_sub hl [0, 1, 2] rfl)
  exact loop25 _ mem22 (J9) (A21) (0) _ _ _ (Nat.lt_succ_self _) (⟨⟨kk12, kk13, hn16, kk14, kk15, kk16, kk17, kk18⟩, kk19⟩) (hW23) (fun _ _ => rfl) (⟨by omega, by omega⟩) hP hD hS (lv_sub hl [0, 1, 2] rfl)
