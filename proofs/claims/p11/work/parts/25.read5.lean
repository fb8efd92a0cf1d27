theorem d_Rd_readString_0 : decode c_Rd_readString 0 = .ok (.aload_n 0, 1) := by decide +kernel
theorem d_Rd_readString_1 : decode c_Rd_readString 1 = .ok (.iload_n 2, 1) := by decide +kernel
theorem d_Rd_readString_2 : decode c_Rd_readString 2 = .ok (.iload_n 1, 1) := by decide +kernel
theorem d_Rd_readString_3 : decode c_Rd_readString 3 = .ok (.invokevirtual 97, 3) := by decide +kernel
theorem d_Rd_readString_6 : decode c_Rd_readString 6 = .ok (.astore_n 3, 1) := by decide +kernel
theorem d_Rd_readString_7 : decode c_Rd_readString 7 = .ok (.aload_n 0, 1) := by decide +kernel
theorem d_Rd_readString_8 : decode c_Rd_readString 8 = .ok (.dup, 1) := by decide +kernel
theorem d_Rd_readString_9 : decode c_Rd_readString 9 = .ok (.getfield 19, 3) := by decide +kernel
theorem d_Rd_readString_12 : decode c_Rd_readString 12 = .ok (.iconst 1, 1) := by decide +kernel
theorem d_Rd_readString_13 : decode c_Rd_readString 13 = .ok (.iadd, 1) := by decide +kernel
theorem d_Rd_readString_14 : decode c_Rd_readString 14 = .ok (.putfield 19, 3) := by decide +kernel
theorem d_Rd_readString_17 : decode c_Rd_readString 17 = .ok (.aload_n 3, 1) := by decide +kernel
theorem d_Rd_readString_18 : decode c_Rd_readString 18 = .ok (.aload_n 0, 1) := by decide +kernel
theorem d_Rd_readString_19 : decode c_Rd_readString 19 = .ok (.getfield 15, 3) := by decide +kernel
theorem d_Rd_readString_22 : decode c_Rd_readString 22 = .ok (.getfield 155, 3) := by decide +kernel
theorem d_Rd_readString_25 : decode c_Rd_readString 25 = .ok (.getfield 38, 3) := by decide +kernel
theorem d_Rd_readString_28 : decode c_Rd_readString 28 = .ok (.putfield 113, 3) := by decide +kernel
theorem d_Rd_readString_31 : decode c_Rd_readString 31 = .ok (.iconst 0, 1) := by decide +kernel
theorem d_Rd_readString_32 : decode c_Rd_readString 32 = .ok (.istore 4, 2) := by decide +kernel
theorem d_Rd_readString_34 : decode c_Rd_readString 34 = .ok (.iload 4, 2) := by decide +kernel
theorem d_Rd_readString_36 : decode c_Rd_readString 36 = .ok (.bipush 12, 2) := by decide +kernel
theorem d_Rd_readString_38 : decode c_Rd_readString 38 = .ok (.if_icmp .ge 43, 3) := by decide +kernel
theorem d_Rd_readString_41 : decode c_Rd_readString 41 = .ok (.aload_n 0, 1) := by decide +kernel
theorem d_Rd_readString_42 : decode c_Rd_readString 42 = .ok (.invokevirtual 54, 3) := by decide +kernel
theorem d_Rd_readString_45 : decode c_Rd_readString 45 = .ok (.invokestatic 158, 3) := by decide +kernel
theorem d_Rd_readString_48 : decode c_Rd_readString 48 = .ok (.ifCond .eq 33, 3) := by decide +kernel
theorem d_Rd_readString_51 : decode c_Rd_readString 51 = .ok (.aload_n 0, 1) := by decide +kernel
theorem d_Rd_readString_52 : decode c_Rd_readString 52 = .ok (.getfield 15, 3) := by decide +kernel
theorem d_Rd_readString_55 : decode c_Rd_readString 55 = .ok (.getfield 155, 3) := by decide +kernel
theorem d_Rd_readString_58 : decode c_Rd_readString 58 = .ok (.aload_n 0, 1) := by decide +kernel
theorem d_Rd_readString_59 : decode c_Rd_readString 59 = .ok (.invokevirtual 54, 3) := by decide +kernel
theorem d_Rd_readString_62 : decode c_Rd_readString 62 = .ok (.invokevirtual 161, 3) := by decide +kernel
theorem d_Rd_readString_65 : decode c_Rd_readString 65 = .ok (.aload_n 0, 1) := by decide +kernel
theorem d_Rd_readString_66 : decode c_Rd_readString 66 = .ok (.dup, 1) := by decide +kernel
theorem d_Rd_readString_67 : decode c_Rd_readString 67 = .ok (.getfield 19, 3) := by decide +kernel
theorem d_Rd_readString_70 : decode c_Rd_readString 70 = .ok (.iconst 1, 1) := by decide +kernel
theorem d_Rd_readString_71 : decode c_Rd_readString 71 = .ok (.iadd, 1) := by decide +kernel
theorem d_Rd_readString_72 : decode c_Rd_readString 72 = .ok (.putfield 19, 3) := by decide +kernel
theorem d_Rd_readString_75 : decode c_Rd_readString 75 = .ok (.iinc 4 1, 3) := by decide +kernel
theorem d_Rd_readString_78 : decode c_Rd_readString 78 = .ok (.goto (-44), 3) := by decide +kernel
theorem d_Rd_readString_81 : decode c_Rd_readString 81 = .ok (.aload_n 3, 1) := by decide +kernel
theorem d_Rd_readString_82 : decode c_Rd_readString 82 = .ok (.aload_n 0, 1) := by decide +kernel
theorem d_Rd_readString_83 : decode c_Rd_readString 83 = .ok (.getfield 15, 3) := by decide +kernel
theorem d_Rd_readString_86 : decode c_Rd_readString 86 = .ok (.getfield 155, 3) := by decide +kernel
theorem d_Rd_readString_89 : decode c_Rd_readString 89 = .ok (.getfield 38, 3) := by decide +kernel
theorem d_Rd_readString_92 : decode c_Rd_readString 92 = .ok (.putfield 116, 3) := by decide +kernel
theorem d_Rd_readString_95 : decode c_Rd_readString 95 = .ok (.aload_n 0, 1) := by decide +kernel
theorem d_Rd_readString_96 : decode c_Rd_readString 96 = .ok (.aload_n 0, 1) := by decide +kernel
theorem d_Rd_readString_97 : decode c_Rd_readString 97 = .ok (.invokevirtual 54, 3) := by decide +kernel
theorem d_Rd_readString_100 : decode c_Rd_readString 100 = .ok (.bipush 34, 2) := by decide +kernel
theorem d_Rd_readString_102 : decode c_Rd_readString 102 = .ok (.if_icmp .ne 7, 3) := by decide +kernel
theorem d_Rd_readString_105 : decode c_Rd_readString 105 = .ok (.iconst 1, 1) := by decide +kernel
theorem d_Rd_readString_106 : decode c_Rd_readString 106 = .ok (.goto 4, 3) := by decide +kernel
theorem d_Rd_readString_109 : decode c_Rd_readString 109 = .ok (.iconst 0, 1) := by decide +kernel
theorem d_Rd_readString_110 : decode c_Rd_readString 110 = .ok (.aload_n 0, 1) := by decide +kernel
theorem d_Rd_readString_111 : decode c_Rd_readString 111 = .ok (.getfield 19, 3) := by decide +kernel
theorem d_Rd_readString_114 : decode c_Rd_readString 114 = .ok (.invokevirtual 58, 3) := by decide +kernel
theorem d_Rd_readString_117 : decode c_Rd_readString 117 = .ok (.aload_n 0, 1) := by decide +kernel
theorem d_Rd_readString_118 : decode c_Rd_readString 118 = .ok (.dup, 1) := by decide +kernel
theorem d_Rd_readString_119 : decode c_Rd_readString 119 = .ok (.getfield 19, 3) := by decide +kernel
theorem d_Rd_readString_122 : decode c_Rd_readString 122 = .ok (.iconst 1, 1) := by decide +kernel
theorem d_Rd_readString_123 : decode c_Rd_readString 123 = .ok (.iadd, 1) := by decide +kernel
theorem d_Rd_readString_124 : decode c_Rd_readString 124 = .ok (.putfield 19, 3) := by decide +kernel
theorem d_Rd_readString_127 : decode c_Rd_readString 127 = .ok (.aload_n 3, 1) := by decide +kernel
theorem d_Rd_readString_128 : decode c_Rd_readString 128 = .ok (.areturn, 1) := by decide +kernel
theorem d_Rd_readExactString_0 : decode c_Rd_readExactString 0 = .ok (.aload_n 0, 1) := by decide +kernel
theorem d_Rd_readExactString_1 : decode c_Rd_readExactString 1 = .ok (.getfield 19, 3) := by decide +kernel
theorem d_Rd_readExactString_4 : decode c_Rd_readExactString 4 = .ok (.istore_n 1, 1) := by decide +kernel
theorem d_Rd_readExactString_5 : decode c_Rd_readExactString 5 = .ok (.aload_n 0, 1) := by decide +kernel
theorem d_Rd_readExactString_6 : decode c_Rd_readExactString 6 = .ok (.dup, 1) := by decide +kernel
theorem d_Rd_readExactString_7 : decode c_Rd_readExactString 7 = .ok (.getfield 19, 3) := by decide +kernel
theorem d_Rd_readExactString_10 : decode c_Rd_readExactString 10 = .ok (.iconst 2, 1) := by decide +kernel
theorem d_Rd_readExactString_11 : decode c_Rd_readExactString 11 = .ok (.iadd, 1) := by decide +kernel
theorem d_Rd_readExactString_12 : decode c_Rd_readExactString 12 = .ok (.putfield 19, 3) := by decide +kernel
theorem d_Rd_readExactString_15 : decode c_Rd_readExactString 15 = .ok (.aload_n 0, 1) := by decide +kernel
theorem d_Rd_readExactString_16 : decode c_Rd_readExactString 16 = .ok (.aload_n 0, 1) := by decide +kernel
theorem d_Rd_readExactString_17 : decode c_Rd_readExactString 17 = .ok (.invokevirtual 54, 3) := by decide +kernel
theorem d_Rd_readExactString_20 : decode c_Rd_readExactString 20 = .ok (.bipush 34, 2) := by decide +kernel
theorem d_Rd_readExactString_22 : decode c_Rd_readExactString 22 = .ok (.if_icmp .ne 7, 3) := by decide +kernel
theorem d_Rd_readExactString_25 : decode c_Rd_readExactString 25 = .ok (.iconst 1, 1) := by decide +kernel
theorem d_Rd_readExactString_26 : decode c_Rd_readExactString 26 = .ok (.goto 4, 3) := by decide +kernel
theorem d_Rd_readExactString_29 : decode c_Rd_readExactString 29 = .ok (.iconst 0, 1) := by decide +kernel
theorem d_Rd_readExactString_30 : decode c_Rd_readExactString 30 = .ok (.aload_n 0, 1) := by decide +kernel
theorem d_Rd_readExactString_31 : decode c_Rd_readExactString 31 = .ok (.getfield 19, 3) := by decide +kernel
theorem d_Rd_readExactString_34 : decode c_Rd_readExactString 34 = .ok (.invokevirtual 58, 3) := by decide +kernel
theorem d_Rd_readExactString_37 : decode c_Rd_readExactString 37 = .ok (.aload_n 0, 1) := by decide +kernel
theorem d_Rd_readExactString_38 : decode c_Rd_readExactString 38 = .ok (.iload_n 1, 1) := by decide +kernel
theorem d_Rd_readExactString_39 : decode c_Rd_readExactString 39 = .ok (.bipush 6, 2) := by decide +kernel
theorem d_Rd_readExactString_41 : decode c_Rd_readExactString 41 = .ok (.invokevirtual 129, 3) := by decide +kernel
theorem d_Rd_readExactString_44 : decode c_Rd_readExactString 44 = .ok (.areturn, 1) := by decide +kernel
theorem d_Rd_readValue_0 : decode c_Rd_readValue 0 = .ok (.aload_n 0, 1) := by decide +kernel
theorem d_Rd_readValue_1 : decode c_Rd_readValue 1 = .ok (.getfield 19, 3) := by decide +kernel
theorem d_Rd_readValue_4 : decode c_Rd_readValue 4 = .ok (.istore_n 1, 1) := by decide +kernel
theorem d_Rd_readValue_5 : decode c_Rd_readValue 5 = .ok (.aload_n 0, 1) := by decide +kernel
theorem d_Rd_readValue_6 : decode c_Rd_readValue 6 = .ok (.dup, 1) := by decide +kernel
theorem d_Rd_readValue_7 : decode c_Rd_readValue 7 = .ok (.getfield 19, 3) := by decide +kernel
theorem d_Rd_readValue_10 : decode c_Rd_readValue 10 = .ok (.iconst 1, 1) := by decide +kernel
theorem d_Rd_readValue_11 : decode c_Rd_readValue 11 = .ok (.iadd, 1) := by decide +kernel
theorem d_Rd_readValue_12 : decode c_Rd_readValue 12 = .ok (.putfield 19, 3) := by decide +kernel
theorem d_Rd_readValue_15 : decode c_Rd_readValue 15 = .ok (.aload_n 0, 1) := by decide +kernel
theorem d_Rd_readValue_16 : decode c_Rd_readValue 16 = .ok (.invokevirtual 54, 3) := by decide +kernel
theorem d_Rd_readValue_19 : decode c_Rd_readValue 19 = .ok (.invokestatic 135, 3) := by decide +kernel
theorem d_Rd_readValue_22 : decode c_Rd_readValue 22 = .ok (.istore_n 2, 1) := by decide +kernel
theorem d_Rd_readValue_23 : decode c_Rd_readValue 23 = .ok (.aload_n 0, 1) := by decide +kernel
theorem d_Rd_readValue_24 : decode c_Rd_readValue 24 = .ok (.iload_n 2, 1) := by decide +kernel
theorem d_Rd_readValue_25 : decode c_Rd_readValue 25 = .ok (.bipush 100, 2) := by decide +kernel
theorem d_Rd_readValue_27 : decode c_Rd_readValue 27 = .ok (.if_icmp .eq 9, 3) := by decide +kernel
theorem d_Rd_readValue_30 : decode c_Rd_readValue 30 = .ok (.iload_n 2, 1) := by decide +kernel
theorem d_Rd_readValue_31 : decode c_Rd_readValue 31 = .ok (.bipush 120, 2) := by decide +kernel
theorem d_Rd_readValue_33 : decode c_Rd_readValue 33 = .ok (.if_icmp .ne 7, 3) := by decide +kernel
theorem d_Rd_readValue_36 : decode c_Rd_readValue 36 = .ok (.iconst 1, 1) := by decide +kernel
theorem d_Rd_readValue_37 : decode c_Rd_readValue 37 = .ok (.goto 4, 3) := by decide +kernel
theorem d_Rd_readValue_40 : decode c_Rd_readValue 40 = .ok (.iconst 0, 1) := by decide +kernel
theorem d_Rd_readValue_41 : decode c_Rd_readValue 41 = .ok (.aload_n 0, 1) := by decide +kernel
theorem d_Rd_readValue_42 : decode c_Rd_readValue 42 = .ok (.getfield 19, 3) := by decide +kernel
theorem d_Rd_readValue_45 : decode c_Rd_readValue 45 = .ok (.invokevirtual 58, 3) := by decide +kernel
theorem d_Rd_readValue_48 : decode c_Rd_readValue 48 = .ok (.aload_n 0, 1) := by decide +kernel
theorem d_Rd_readValue_49 : decode c_Rd_readValue 49 = .ok (.dup, 1) := by decide +kernel
theorem d_Rd_readValue_50 : decode c_Rd_readValue 50 = .ok (.getfield 19, 3) := by decide +kernel
theorem d_Rd_readValue_53 : decode c_Rd_readValue 53 = .ok (.iconst 1, 1) := by decide +kernel
theorem d_Rd_readValue_54 : decode c_Rd_readValue 54 = .ok (.iadd, 1) := by decide +kernel
theorem d_Rd_readValue_55 : decode c_Rd_readValue 55 = .ok (.putfield 19, 3) := by decide +kernel
theorem d_Rd_readValue_58 : decode c_Rd_readValue 58 = .ok (.iload_n 2, 1) := by decide +kernel
theorem d_Rd_readValue_59 : decode c_Rd_readValue 59 = .ok (.bipush 100, 2) := by decide +kernel
theorem d_Rd_readValue_61 : decode c_Rd_readValue 61 = .ok (.if_icmp .ne 8, 3) := by decide +kernel
theorem d_Rd_readValue_64 : decode c_Rd_readValue 64 = .ok (.bipush 10, 2) := by decide +kernel
theorem d_Rd_readValue_66 : decode c_Rd_readValue 66 = .ok (.goto 5, 3) := by decide +kernel
theorem d_Rd_readValue_69 : decode c_Rd_readValue 69 = .ok (.bipush 16, 2) := by decide +kernel
theorem d_Rd_readValue_71 : decode c_Rd_readValue 71 = .ok (.istore_n 3, 1) := by decide +kernel
theorem d_Rd_readValue_72 : decode c_Rd_readValue 72 = .ok (.aload_n 0, 1) := by decide +kernel
theorem d_Rd_readValue_73 : decode c_Rd_readValue 73 = .ok (.bipush 7, 2) := by decide +kernel
theorem d_Rd_readValue_75 : decode c_Rd_readValue 75 = .ok (.iload_n 1, 1) := by decide +kernel
theorem d_Rd_readValue_76 : decode c_Rd_readValue 76 = .ok (.invokevirtual 97, 3) := by decide +kernel
theorem d_Rd_readValue_79 : decode c_Rd_readValue 79 = .ok (.astore 4, 2) := by decide +kernel
theorem d_Rd_readValue_81 : decode c_Rd_readValue 81 = .ok (.aload_n 0, 1) := by decide +kernel
theorem d_Rd_readValue_82 : decode c_Rd_readValue 82 = .ok (.iload_n 1, 1) := by decide +kernel
theorem d_Rd_readValue_83 : decode c_Rd_readValue 83 = .ok (.iload_n 3, 1) := by decide +kernel
theorem d_Rd_readValue_84 : decode c_Rd_readValue 84 = .ok (.invokevirtual 165, 3) := by decide +kernel
theorem d_Rd_readValue_87 : decode c_Rd_readValue 87 = .ok (.istore 5, 2) := by decide +kernel
theorem d_Rd_readValue_89 : decode c_Rd_readValue 89 = .ok (.aload_n 0, 1) := by decide +kernel
theorem d_Rd_readValue_90 : decode c_Rd_readValue 90 = .ok (.invokevirtual 54, 3) := by decide +kernel
theorem d_Rd_readValue_93 : decode c_Rd_readValue 93 = .ok (.bipush 45, 2) := by decide +kernel
theorem d_Rd_readValue_95 : decode c_Rd_readValue 95 = .ok (.if_icmp .ne 57, 3) := by decide +kernel
theorem d_Rd_readValue_98 : decode c_Rd_readValue 98 = .ok (.aload_n 0, 1) := by decide +kernel
theorem d_Rd_readValue_99 : decode c_Rd_readValue 99 = .ok (.dup, 1) := by decide +kernel
theorem d_Rd_readValue_100 : decode c_Rd_readValue 100 = .ok (.getfield 19, 3) := by decide +kernel
theorem d_Rd_readValue_103 : decode c_Rd_readValue 103 = .ok (.iconst 1, 1) := by decide +kernel
theorem d_Rd_readValue_104 : decode c_Rd_readValue 104 = .ok (.iadd, 1) := by decide +kernel
theorem d_Rd_readValue_105 : decode c_Rd_readValue 105 = .ok (.putfield 19, 3) := by decide +kernel
theorem d_Rd_readValue_108 : decode c_Rd_readValue 108 = .ok (.aload 4, 2) := by decide +kernel
theorem d_Rd_readValue_110 : decode c_Rd_readValue 110 = .ok (.iload 5, 2) := by decide +kernel
theorem d_Rd_readValue_112 : decode c_Rd_readValue 112 = .ok (.putfield 113, 3) := by decide +kernel
theorem d_Rd_readValue_115 : decode c_Rd_readValue 115 = .ok (.aload 4, 2) := by decide +kernel
theorem d_Rd_readValue_117 : decode c_Rd_readValue 117 = .ok (.aload_n 0, 1) := by decide +kernel
theorem d_Rd_readValue_118 : decode c_Rd_readValue 118 = .ok (.iload_n 1, 1) := by decide +kernel
theorem d_Rd_readValue_119 : decode c_Rd_readValue 119 = .ok (.iload_n 3, 1) := by decide +kernel
theorem d_Rd_readValue_120 : decode c_Rd_readValue 120 = .ok (.invokevirtual 165, 3) := by decide +kernel
theorem d_Rd_readValue_123 : decode c_Rd_readValue 123 = .ok (.putfield 116, 3) := by decide +kernel
theorem d_Rd_readValue_126 : decode c_Rd_readValue 126 = .ok (.aload_n 0, 1) := by decide +kernel
theorem d_Rd_readValue_127 : decode c_Rd_readValue 127 = .ok (.aload 4, 2) := by decide +kernel
theorem d_Rd_readValue_129 : decode c_Rd_readValue 129 = .ok (.getfield 113, 3) := by decide +kernel
theorem d_Rd_readValue_132 : decode c_Rd_readValue 132 = .ok (.aload 4, 2) := by decide +kernel
theorem d_Rd_readValue_134 : decode c_Rd_readValue 134 = .ok (.getfield 116, 3) := by decide +kernel
theorem d_Rd_readValue_137 : decode c_Rd_readValue 137 = .ok (.if_icmp .gt 7, 3) := by decide +kernel
theorem d_Rd_readValue_140 : decode c_Rd_readValue 140 = .ok (.iconst 1, 1) := by decide +kernel
theorem d_Rd_readValue_141 : decode c_Rd_readValue 141 = .ok (.goto 4, 3) := by decide +kernel
theorem d_Rd_readValue_144 : decode c_Rd_readValue 144 = .ok (.iconst 0, 1) := by decide +kernel
theorem d_Rd_readValue_145 : decode c_Rd_readValue 145 = .ok (.iload_n 1, 1) := by decide +kernel
theorem d_Rd_readValue_146 : decode c_Rd_readValue 146 = .ok (.invokevirtual 58, 3) := by decide +kernel
theorem d_Rd_readValue_149 : decode c_Rd_readValue 149 = .ok (.aload 4, 2) := by decide +kernel
theorem d_Rd_readValue_151 : decode c_Rd_readValue 151 = .ok (.areturn, 1) := by decide +kernel
theorem d_Rd_readValue_152 : decode c_Rd_readValue 152 = .ok (.aload 4, 2) := by decide +kernel
theorem d_Rd_readValue_154 : decode c_Rd_readValue 154 = .ok (.bipush 6, 2) := by decide +kernel
theorem d_Rd_readValue_156 : decode c_Rd_readValue 156 = .ok (.putfield 169, 3) := by decide +kernel
theorem d_Rd_readValue_159 : decode c_Rd_readValue 159 = .ok (.aload 4, 2) := by decide +kernel
theorem d_Rd_readValue_161 : decode c_Rd_readValue 161 = .ok (.aload_n 0, 1) := by decide +kernel
theorem d_Rd_readValue_162 : decode c_Rd_readValue 162 = .ok (.getfield 15, 3) := by decide +kernel
theorem d_Rd_readValue_165 : decode c_Rd_readValue 165 = .ok (.getfield 155, 3) := by decide +kernel
theorem d_Rd_readValue_168 : decode c_Rd_readValue 168 = .ok (.getfield 38, 3) := by decide +kernel
theorem d_Rd_readValue_171 : decode c_Rd_readValue 171 = .ok (.putfield 113, 3) := by decide +kernel
theorem d_Rd_readValue_174 : decode c_Rd_readValue 174 = .ok (.aload_n 0, 1) := by decide +kernel
theorem d_Rd_readValue_175 : decode c_Rd_readValue 175 = .ok (.getfield 15, 3) := by decide +kernel
theorem d_Rd_readValue_178 : decode c_Rd_readValue 178 = .ok (.getfield 155, 3) := by decide +kernel
theorem d_Rd_readValue_181 : decode c_Rd_readValue 181 = .ok (.iload 5, 2) := by decide +kernel
theorem d_Rd_readValue_183 : decode c_Rd_readValue 183 = .ok (.invokevirtual 161, 3) := by decide +kernel
theorem d_Rd_readValue_186 : decode c_Rd_readValue 186 = .ok (.iconst 0, 1) := by decide +kernel
theorem d_Rd_readValue_187 : decode c_Rd_readValue 187 = .ok (.istore 6, 2) := by decide +kernel
theorem d_Rd_readValue_189 : decode c_Rd_readValue 189 = .ok (.iload 6, 2) := by decide +kernel
theorem d_Rd_readValue_191 : decode c_Rd_readValue 191 = .ok (.iconst 3, 1) := by decide +kernel
theorem d_Rd_readValue_192 : decode c_Rd_readValue 192 = .ok (.if_icmp .ge 44, 3) := by decide +kernel
theorem d_Rd_readValue_195 : decode c_Rd_readValue 195 = .ok (.aload_n 0, 1) := by decide +kernel
theorem d_Rd_readValue_196 : decode c_Rd_readValue 196 = .ok (.invokevirtual 54, 3) := by decide +kernel
theorem d_Rd_readValue_199 : decode c_Rd_readValue 199 = .ok (.bipush 46, 2) := by decide +kernel
theorem d_Rd_readValue_201 : decode c_Rd_readValue 201 = .ok (.if_icmp .ne 35, 3) := by decide +kernel
theorem d_Rd_readValue_204 : decode c_Rd_readValue 204 = .ok (.aload_n 0, 1) := by decide +kernel
theorem d_Rd_readValue_205 : decode c_Rd_readValue 205 = .ok (.dup, 1) := by decide +kernel
theorem d_Rd_readValue_206 : decode c_Rd_readValue 206 = .ok (.getfield 19, 3) := by decide +kernel
theorem d_Rd_readValue_209 : decode c_Rd_readValue 209 = .ok (.iconst 1, 1) := by decide +kernel
theorem d_Rd_readValue_210 : decode c_Rd_readValue 210 = .ok (.iadd, 1) := by decide +kernel
theorem d_Rd_readValue_211 : decode c_Rd_readValue 211 = .ok (.putfield 19, 3) := by decide +kernel
theorem d_Rd_readValue_214 : decode c_Rd_readValue 214 = .ok (.aload_n 0, 1) := by decide +kernel
theorem d_Rd_readValue_215 : decode c_Rd_readValue 215 = .ok (.getfield 15, 3) := by decide +kernel
theorem d_Rd_readValue_218 : decode c_Rd_readValue 218 = .ok (.getfield 155, 3) := by decide +kernel
theorem d_Rd_readValue_221 : decode c_Rd_readValue 221 = .ok (.aload_n 0, 1) := by decide +kernel
theorem d_Rd_readValue_222 : decode c_Rd_readValue 222 = .ok (.iload_n 1, 1) := by decide +kernel
theorem d_Rd_readValue_223 : decode c_Rd_readValue 223 = .ok (.iload_n 3, 1) := by decide +kernel
theorem d_Rd_readValue_224 : decode c_Rd_readValue 224 = .ok (.invokevirtual 165, 3) := by decide +kernel
theorem d_Rd_readValue_227 : decode c_Rd_readValue 227 = .ok (.invokevirtual 161, 3) := by decide +kernel
theorem d_Rd_readValue_230 : decode c_Rd_readValue 230 = .ok (.iinc 6 1, 3) := by decide +kernel
theorem d_Rd_readValue_233 : decode c_Rd_readValue 233 = .ok (.goto (-44), 3) := by decide +kernel
theorem d_Rd_readValue_236 : decode c_Rd_readValue 236 = .ok (.aload 4, 2) := by decide +kernel
theorem d_Rd_readValue_238 : decode c_Rd_readValue 238 = .ok (.aload_n 0, 1) := by decide +kernel
theorem d_Rd_readValue_239 : decode c_Rd_readValue 239 = .ok (.getfield 15, 3) := by decide +kernel
theorem d_Rd_readValue_242 : decode c_Rd_readValue 242 = .ok (.getfield 155, 3) := by decide +kernel
theorem d_Rd_readValue_245 : decode c_Rd_readValue 245 = .ok (.getfield 38, 3) := by decide +kernel
theorem d_Rd_readValue_248 : decode c_Rd_readValue 248 = .ok (.putfield 116, 3) := by decide +kernel
theorem d_Rd_readValue_251 : decode c_Rd_readValue 251 = .ok (.aload 4, 2) := by decide +kernel
theorem d_Rd_readValue_253 : decode c_Rd_readValue 253 = .ok (.areturn, 1) := by decide +kernel
set_option maxHeartbeats 4000000 in
set_option maxRecDepth 100000 in
theorem m_Ch_appendW (l : Launch) {D : va_G} {cy : Nat → ClassId} {sz n : Nat} {ad : Nat → Nat} {mem : Nat → va_E} {Z : Nat} {f : Nat → Int32} {lim rc ec : Nat} {m0 : Nat → va_E} {x : Int32} (hn : 224 ≤ n) (hT : TX cy ad Z f m0) (hRS : RS cy ad lim rc ec m0 mem) : MV l D cy sz n ad y_Ch_append c_Ch_append 2 ({ frames := 0, cells := 0, slots := 0, locals := 0 } : Room) mem [.ref (ad 220), .int (x)] (fun mem' => RS cy ad lim rc ec m0 mem') := by
  refine Met.ofW (cc := c_Ch_append) (maxL := 2) (ret := none) (by decide) rfl ?_
  intro p e s m args below meth c s₁ B hml hv
  obtain ⟨rfl, E, hP, hD⟩ := hv
  have hx := B.exec
  have hb := B.bytes
  have hr := B.returns
  have hlocks := B.notSynchronized
  have Bx : MB p s m [.ref (ad 220), .int (x)].toArray c c_Ch_append "AbnfChart$Characters" D cy := ⟨hx, hb, tb_all (atoms_spec B.pre) E.2.1, findClass_of_methodNamed B.named, E.1⟩
  have hS : va_S (Az sz) s.heap s.heap [] := va_S.rf
  have hl := lv_entry ([.ref (ad 220), .int (x)]) (n := 2) (Nat.le_of_ble_eq_true rfl)
  rw [lg_entry_eq]
  generalize (lg_sl ([.ref (ad 220), .int (x)]) ++ List.replicate (2 - (lg_sl ([.ref (ad 220), .int (x)])).length) Slot.unset).toArray = ls at hl ⊢
  have hl : lv_has ls 2 [(0, .ref (ad 220)), (1, .int (x))] := hl
  obtain ⟨at1, ft2, h9_3⟩ := hRS.2.1
  have h1_4 : mem 1 = .inr (0, [.ref (ad 2), .int (nI Z)]) := (hRS.2.2 1 (by omega)).trans hT.1
  have h2_5 : mem 2 = .inl (cy 0, 240, .inl f) := (hRS.2.2 2 (by omega)).trans hT.2.2
  have h5_6 := hRS.1.2.1
  have hbd12 := hRS.1.1
  obtain ⟨S7, g8, hS_9, h220_10, h221_11⟩ := hRS.1.2.2.2.2.2.2
  refine lv_aload_n Bx.1 Bx.2.1 d_Ch_append_0 rfl (lv_at hl 0 rfl) ?_
  refine f_get Bx hP (by omega) h220_10 rfl inCh 1 (by decide) kw_32 rfl rfl d_Ch_append_1 ?_
  refine lv_aload_n Bx.1 Bx.2.1 d_Ch_append_4 rfl (lv_at hl 0 rfl) ?_
  refine f_get Bx hP (by omega) h220_10 rfl inCh 0 (by decide) kw_31 rfl rfl d_Ch_append_5 ?_
  refine f_alen (t0 := 0) Bx hP (by omega) h221_11 rfl (v := nI 240) rfl d_Ch_append_8 ?_
  refine lv_icmp_ge Bx.1 Bx.2.1 d_Ch_append_9 rfl (fun h => ?_) (fun h => ?_)
  · exact W.vret hx hb hr (fun t ht hW => ⟨⟨mem, rfl, hRS, by show va_P _ _ _ t.heap; rw [ht]; exact hP⟩, hS.F ht⟩) hS.2.2 d_Ch_append_33
  · have hroom : S7 < 240 := by
      rcases Nat.lt_or_ge S7 240 with q | q
      · exact q
      · exact absurd (nI_le (a := 240) q (by omega)) h
    refine lv_aload_n Bx.1 Bx.2.1 d_Ch_append_12 rfl (lv_at hl 0 rfl) ?_
    refine f_get Bx hP (by omega) h220_10 rfl inCh 0 (by decide) kw_31 rfl rfl d_Ch_append_13 ?_
    refine lv_aload_n Bx.1 Bx.2.1 d_Ch_append_16 rfl (lv_at hl 0 rfl) ?_
    refine f_get Bx hP (by omega) h220_10 rfl inCh 1 (by decide) kw_32 rfl rfl d_Ch_append_17 ?_
    refine lv_iload_n Bx.1 Bx.2.1 d_Ch_append_20 rfl (lv_at hl 1 rfl) ?_
    refine lv_i2c Bx.1 Bx.2.1 d_Ch_append_21 rfl ?_
    refine f_cast (x := ((x).toUInt32 % 65536).toInt32) (i := nI S7) Bx hP hD hS (by omega) h221_11 (vp_in_nI hroom (by decide)) d_Ch_append_22 (fun H locs hP hS => ?_)
    obtain ⟨g2, hg2⟩ : ∃ z : Nat → Int32, z = upd g8 (nI S7).toNatClampNeg (vp_nar .char (cN x)) := ⟨_, rfl⟩
    rw [show (x.toUInt32 % 65536).toInt32 = cN x from rfl, ← hg2] at hP
    obtain ⟨mem13, e_mem13⟩ : ∃ z, z = va_up mem (221) ((.inl (cy 0, 240, .inl g2))) := ⟨_, rfl⟩
    have hP : va_P D vcl (fw n ad mem13) H := by rw [e_mem13]; exact hP
    have hD : va_D (Az sz) (fw n ad mem13) := fw_D hD
    have h_mem13 : mem13 (221) = (.inl (cy 0, 240, .inl g2)) := by rw [e_mem13, va_up_self]
    have hh14 := (va_up_ne mem ((.inl (cy 0, 240, .inl g2))) (show (222 : Nat) ≠ 221 by first | decide | assumption | omega)).trans h9_3
    rw [← e_mem13] at hh14
    have hh15 := (va_up_ne mem ((.inl (cy 0, 240, .inl g2))) (show (1 : Nat) ≠ 221 by first | decide | assumption | omega)).trans h1_4
    rw [← e_mem13] at hh15
    have hh16 := (va_up_ne mem ((.inl (cy 0, 240, .inl g2))) (show (5 : Nat) ≠ 221 by first | decide | assumption | omega)).trans h5_6
    rw [← e_mem13] at hh16
    have hh17 := (va_up_ne mem ((.inl (cy 0, 240, .inl g2))) (show (220 : Nat) ≠ 221 by first | decide | assumption | omega)).trans h220_10
    rw [← e_mem13] at hh17
    have hRS18 : RS cy ad lim rc ec m0 mem13 := by rw [e_mem13]; exact hRS.mk (by omega) hRS.1.up221
    refine lv_aload_n Bx.1 Bx.2.1 d_Ch_append_23 rfl (lv_at hl 0 rfl) ?_
    refine lv_dup Bx.1 Bx.2.1 d_Ch_append_24 rfl ?_
    refine f_get Bx hP (by omega) hh17 rfl inCh 1 (by decide) kw_32 rfl rfl d_Ch_append_25 ?_
    refine lv_iconst (v := 1) Bx.1 Bx.2.1 d_Ch_append_28 (by decide) ?_
    refine lv_iadd Bx.1 Bx.2.1 d_Ch_append_29 ?_
    rw [nI_1]
    refine f_put Bx hP hD hS (by omega) hh17 rfl inCh tyCh okCh nmCh 1 (by decide) kw_32 rfl rfl rfl rfl (Nat.le_of_ble_eq_true rfl) d_Ch_append_30 (fun H locs hP hS => ?_)
    obtain ⟨mem19, e_mem19⟩ : ∃ z, z = va_up mem13 (220) (.inr (0, [.ref (ad 221), .int (nI (S7 + 1))])) := ⟨_, rfl⟩
    have hP : va_P D vcl (fw n ad mem19) H := by rw [e_mem19]; exact hP
    have hD : va_D (Az sz) (fw n ad mem19) := fw_D hD
    have h_mem19 : mem19 (220) = .inr (0, [.ref (ad 221), .int (nI (S7 + 1))]) := by rw [e_mem19, va_up_self]
    have hh20 := (va_up_ne mem13 (.inr (0, [.ref (ad 221), .int (nI (S7 + 1))])) (show (222 : Nat) ≠ 220 by first | decide | assumption | omega)).trans hh14
    rw [← e_mem19] at hh20
    have hh21 := (va_up_ne mem13 (.inr (0, [.ref (ad 221), .int (nI (S7 + 1))])) (show (1 : Nat) ≠ 220 by first | decide | assumption | omega)).trans hh15
    rw [← e_mem19] at hh21
    have hh22 := (va_up_ne mem13 (.inr (0, [.ref (ad 221), .int (nI (S7 + 1))])) (show (5 : Nat) ≠ 220 by first | decide | assumption | omega)).trans hh16
    rw [← e_mem19] at hh22
    exact W.vret hx hb hr (fun t ht hW => ⟨⟨mem19, rfl, by rw [e_mem19]; exact hRS18.mk (by omega) (hRS18.1.up220 (by omega)), by show va_P _ _ _ t.heap; rw [ht]; exact hP⟩, hS.F ht⟩) hS.2.2 d_Ch_append_33
set_option maxHeartbeats 4000000 in
set_option maxRecDepth 100000 in
theorem m_Rd_readAskedName (l : Launch) {D : va_G} {cy : Nat → ClassId} {sz n : Nat} {ad : Nat → Nat} {mem : Nat → va_E} {Z : Nat} {f : Nat → Int32} {lim rc ec : Nat} {m0 : Nat → va_E} (hlt : l.stackTraces = false) (hn : 224 ≤ n) (hT : TX cy ad Z f m0) (hRS : RS cy ad lim rc ec m0 mem) : NXr l D cy sz n ad y_Rd_readAskedName c_Rd_readAskedName 4 (some (.object "AbnfChart$Element")) ({ frames := 10, cells := 1, slots := 6, locals := 220 } : Room) mem [.ref (ad 222)] (fun r mem' => ∃ k rc' ec' : Nat, r = ad (20 + 2 * k) ∧ ec ≤ k ∧ k < ec' ∧ rc ≤ rc' ∧ RS cy ad lim rc' ec' m0 mem') (fun X mem' => (X = cIA ∨ X = cIS) ∧ ∃ rc' ec' : Nat, RS cy ad lim rc' ec' m0 mem') := by
  refine vx_ofW (cc := c_Rd_readAskedName) (maxL := 4) (ret := (some (.object "AbnfChart$Element"))) (by decide) rfl ?_
  intro p e s m args below meth c s₁ B hml hno hv
  obtain ⟨rfl, E, hP, hD⟩ := hv
  have hx := B.exec
  have hb := B.bytes
  have hr := B.returns
  have hlocks := B.notSynchronized
  have Bx : MB p s m [.ref (ad 222)].toArray c c_Rd_readAskedName "AbnfChart$Reader" D cy := ⟨hx, hb, tb_all (atoms_spec B.pre) E.2.1, findClass_of_methodNamed B.named, E.1⟩
  have hS : va_S (Az sz) s.heap s.heap [] := va_S.rf
  have hl := lv_entry ([.ref (ad 222)]) (n := 4) (Nat.le_of_ble_eq_true rfl)
  rw [lg_entry_eq]
  generalize (lg_sl ([.ref (ad 222)]) ++ List.replicate (4 - (lg_sl ([.ref (ad 222)])).length) Slot.unset).toArray = ls at hl ⊢
  have hl : lv_has ls 4 [(0, .ref (ad 222))] := hl
  obtain ⟨at1, ft2, h9_3⟩ := hRS.2.1
  have h1_4 : mem 1 = .inr (0, [.ref (ad 2), .int (nI Z)]) := (hRS.2.2 1 (by omega)).trans hT.1
  have h2_5 : mem 2 = .inl (cy 0, 240, .inl f) := (hRS.2.2 2 (by omega)).trans hT.2.2
  have h5_6 := hRS.1.2.1
  have hbd12 := hRS.1.1
  obtain ⟨S7, g8, hS_9, h220_10, h221_11⟩ := hRS.1.2.2.2.2.2.2
  refine lv_aload_n Bx.1 Bx.2.1 d_Rd_readAskedName_0 rfl (lv_at hl 0 rfl) ?_
  refine f_get Bx hP (by omega) h9_3 rfl inRd 2 (by decide) kw_146 rfl rfl d_Rd_readAskedName_1 ?_
  refine lv_istore_n (lv' := [(1, .int (at1)), (0, .ref (ad 222))]) Bx.1 Bx.2.1 d_Rd_readAskedName_4 rfl hl (by decide) rfl (fun ls hl => ?_)
  refine lv_aload_n Bx.1 Bx.2.1 d_Rd_readAskedName_5 rfl (lv_at hl 1 rfl) ?_
  refine f_xVr (na := 0) (As := []) (rest := []) Bx hml E hP hD hS (by omega) h9_3 rfl (m_Rd_readName l hlt hn hT hRS) kw_349 kw_351 sel_Rd_readName kw_6 kw_352 (by decide +kernel) ⟨rfl, rfl⟩ ⟨Nat.le_of_ble_eq_true rfl, Nat.le_of_ble_eq_true rfl⟩ rfl hl.1 (Nat.le_of_ble_eq_true rfl) d_Rd_readAskedName_6 ⟨Nat.le_of_ble_eq_true rfl, Nat.le_of_ble_eq_true rfl⟩ (fun X ce q9 memx H locs hx9 hP hS g1 g2 g3 => f_out hlocks hno hP hS g1 g2 g3 ⟨Nat.le_of_ble_eq_true rfl, Nat.le_of_ble_eq_true rfl⟩ hx9) (fun r13 mem14 H locs hq hP hS => ?_)
  have hD : va_D (Az sz) (fw n ad mem14) := fw_D hD
  obtain ⟨i, rc1, hr9, hi, hrc1, hRSn⟩ := hq
  subst hr9
  obtain ⟨at15, ft16, h9_17⟩ := hRSn.2.1
  have h1_18 : mem14 1 = .inr (0, [.ref (ad 2), .int (nI Z)]) := (hRSn.2.2 1 (by omega)).trans hT.1
  have h2_19 : mem14 2 = .inl (cy 0, 240, .inl f) := (hRSn.2.2 2 (by omega)).trans hT.2.2
  have h5_20 := hRSn.1.2.1
  have hbd26 := hRSn.1.1
  obtain ⟨S21, g22, hS_23, h220_24, h221_25⟩ := hRSn.1.2.2.2.2.2.2
  refine lv_astore_n (lv' := [(2, .ref (ad (7 + i))), (1, .int (at1)), (0, .ref (ad 222))]) Bx.1 Bx.2.1 d_Rd_readAskedName_9 rfl hl (by decide) rfl (fun ls hl => ?_)
  refine lv_aload_n Bx.1 Bx.2.1 d_Rd_readAskedName_10 rfl (lv_at hl 2 rfl) ?_
  refine lv_iconst (v := 4) Bx.1 Bx.2.1 d_Rd_readAskedName_11 (by decide) ?_
  refine lv_iload_n Bx.1 Bx.2.1 d_Rd_readAskedName_12 rfl (lv_at hl 1 rfl) ?_
  refine f_xVr (na := 2) (As := [.int (4), .int (at1)]) (rest := []) Bx hml E hP hD hS (by omega) h9_17 rfl (m_Rd_addElement l hlt hn hT hRSn) kw_419 kw_421 sel_Rd_addElement kw_6 kw_422 (by decide +kernel) ⟨rfl, rfl⟩ ⟨Nat.le_of_ble_eq_true rfl, Nat.le_of_ble_eq_true rfl⟩ rfl hl.1 (Nat.le_of_ble_eq_true rfl) d_Rd_readAskedName_13 ⟨Nat.le_of_ble_eq_true rfl, Nat.le_of_ble_eq_true rfl⟩ (fun X ce q9 memx H locs hx9 hP hS g1 g2 g3 => f_out hlocks hno hP hS g1 g2 g3 ⟨Nat.le_of_ble_eq_true rfl, Nat.le_of_ble_eq_true rfl⟩ hx9) (fun r27 mem28 H locs hq hP hS => ?_)
  have hD : va_D (Az sz) (fw n ad mem28) := fw_D hD
  obtain ⟨hr931, hec30, hRS29⟩ := hq
  subst hr931
  obtain ⟨at32, ft33, h9_34⟩ := hRS29.2.1
  have h1_35 : mem28 1 = .inr (0, [.ref (ad 2), .int (nI Z)]) := (hRS29.2.2 1 (by omega)).trans hT.1
  have h2_36 : mem28 2 = .inl (cy 0, 240, .inl f) := (hRS29.2.2 2 (by omega)).trans hT.2.2
  have h5_37 := hRS29.1.2.1
  have hbd43 := hRS29.1.1
  obtain ⟨S38, g39, hS_40, h220_41, h221_42⟩ := hRS29.1.2.2.2.2.2.2
  obtain ⟨k44, lo45, hi46, as47, pa48, ne49, he_50, ho_51⟩ := (hRS29.1.2.2.2.2.2.1 ec (by omega)).1
  refine lv_astore_n (lv' := [(3, .ref (ad (20 + 2 * ec))), (2, .ref (ad (7 + i))), (1, .int (at1)), (0, .ref (ad 222))]) Bx.1 Bx.2.1 d_Rd_readAskedName_16 rfl hl (by decide) rfl (fun ls hl => ?_)
  refine lv_aload_n Bx.1 Bx.2.1 d_Rd_readAskedName_17 rfl (lv_at hl 0 rfl) ?_
  refine lv_aload_n Bx.1 Bx.2.1 d_Rd_readAskedName_18 rfl (lv_at hl 1 rfl) ?_
  refine f_putN Bx hP hD hS (by omega) he_50 rfl inEl tyEl okEl nmEl 3 (by decide) kw_85 rfl rfl rfl rfl (Nat.le_of_ble_eq_true rfl) d_Rd_readAskedName_19 (fun H locs hP hS => ?_)
  obtain ⟨mem52, e_mem52⟩ : ∃ z, z = va_up mem28 ((20 + 2 * ec)) (.inr (2, [.int (k44), .int (lo45), .int (hi46), .ref (ad (7 + i)), pa48, ne49, .ref (ad (21 + 2 * ec))])) := ⟨_, rfl⟩
  have hP : va_P D vcl (fw n ad mem52) H := by rw [e_mem52]; exact hP
  have hD : va_D (Az sz) (fw n ad mem52) := fw_D hD
  have h_mem52 : mem52 ((20 + 2 * ec)) = .inr (2, [.int (k44), .int (lo45), .int (hi46), .ref (ad (7 + i)), pa48, ne49, .ref (ad (21 + 2 * ec))]) := by rw [e_mem52, va_up_self]
  have hh53 := (va_up_ne mem28 (.inr (2, [.int (k44), .int (lo45), .int (hi46), .ref (ad (7 + i)), pa48, ne49, .ref (ad (21 + 2 * ec))])) (show (222 : Nat) ≠ (20 + 2 * ec) by first | decide | assumption | omega)).trans h9_34
  rw [← e_mem52] at hh53
  have hh54 := (va_up_ne mem28 (.inr (2, [.int (k44), .int (lo45), .int (hi46), .ref (ad (7 + i)), pa48, ne49, .ref (ad (21 + 2 * ec))])) (show (1 : Nat) ≠ (20 + 2 * ec) by first | decide | assumption | omega)).trans h1_35
  rw [← e_mem52] at hh54
  have hh55 := (va_up_ne mem28 (.inr (2, [.int (k44), .int (lo45), .int (hi46), .ref (ad (7 + i)), pa48, ne49, .ref (ad (21 + 2 * ec))])) (show (5 : Nat) ≠ (20 + 2 * ec) by first | decide | assumption | omega)).trans h5_37
  rw [← e_mem52] at hh55
  have hh56 := (va_up_ne mem28 (.inr (2, [.int (k44), .int (lo45), .int (hi46), .ref (ad (7 + i)), pa48, ne49, .ref (ad (21 + 2 * ec))])) (show (220 : Nat) ≠ (20 + 2 * ec) by first | decide | assumption | omega)).trans h220_41
  rw [← e_mem52] at hh56
  have hRS57 : RS cy ad lim rc1 (ec + 1) m0 mem52 := by rw [e_mem52]; exact hRS29.mk (by omega) (hRS29.1.upEl (by omega) (fun q9 => ⟨Or.inr ⟨i, by omega, rfl⟩, (ho_51 q9).2⟩))
  refine lv_aload_n Bx.1 Bx.2.1 d_Rd_readAskedName_22 rfl (lv_at hl 0 rfl) ?_
  exact x_aret hx hb hlocks hr (⟨ec, rc1, (ec + 1), rfl, by omega, by omega, by omega, hRS57⟩) hP hS d_Rd_readAskedName_23
set_option maxHeartbeats 4000000 in
set_option maxRecDepth 100000 in
theorem m_Rd_readRepeat (l : Launch) {D : va_G} {cy : Nat → ClassId} {sz n : Nat} {ad : Nat → Nat} {mem : Nat → va_E} {Z : Nat} {f : Nat → Int32} {lim rc ec : Nat} {m0 : Nat → va_E} {k : Nat} (hlt : l.stackTraces = false) (hn : 224 ≤ n) (hT : TX cy ad Z f m0) (hRS : RS cy ad lim rc ec m0 mem) (hk : k < ec) : NXv l D cy sz n ad y_Rd_readRepeat c_Rd_readRepeat 4 ({ frames := 8, cells := 1, slots := 6, locals := 160 } : Room) mem [.ref (ad 222), .ref (ad (20 + 2 * k))] (fun mem' => RS cy ad lim rc ec m0 mem') (fun X mem' => (X = cIA ∨ X = cIS) ∧ ∃ rc' ec' : Nat, RS cy ad lim rc' ec' m0 mem') := by
  refine vx_ofW (cc := c_Rd_readRepeat) (maxL := 4) (ret := none) (by decide) rfl ?_
  intro p e s m args below meth c s₁ B hml hno hv
  obtain ⟨rfl, E, hP, hD⟩ := hv
  have hx := B.exec
  have hb := B.bytes
  have hr := B.returns
  have hlocks := B.notSynchronized
  have Bx : MB p s m [.ref (ad 222), .ref (ad (20 + 2 * k))].toArray c c_Rd_readRepeat "AbnfChart$Reader" D cy := ⟨hx, hb, tb_all (atoms_spec B.pre) E.2.1, findClass_of_methodNamed B.named, E.1⟩
  have hS : va_S (Az sz) s.heap s.heap [] := va_S.rf
  have hl := lv_entry ([.ref (ad 222), .ref (ad (20 + 2 * k))]) (n := 4) (Nat.le_of_ble_eq_true rfl)
  rw [lg_entry_eq]
  generalize (lg_sl ([.ref (ad 222), .ref (ad (20 + 2 * k))]) ++ List.replicate (4 - (lg_sl ([.ref (ad 222), .ref (ad (20 + 2 * k))])).length) Slot.unset).toArray = ls at hl ⊢
  have hl : lv_has ls 4 [(0, .ref (ad 222)), (1, .ref (ad (20 + 2 * k)))] := hl
  obtain ⟨at1, ft2, h9_3⟩ := hRS.2.1
  have h1_4 : mem 1 = .inr (0, [.ref (ad 2), .int (nI Z)]) := (hRS.2.2 1 (by omega)).trans hT.1
  have h2_5 : mem 2 = .inl (cy 0, 240, .inl f) := (hRS.2.2 2 (by omega)).trans hT.2.2
  have h5_6 := hRS.1.2.1
  have hbd12 := hRS.1.1
  obtain ⟨S7, g8, hS_9, h220_10, h221_11⟩ := hRS.1.2.2.2.2.2.2
  obtain ⟨k13, lo14, hi15, as16, pa17, ne18, he_19, ho_20⟩ := (hRS.1.2.2.2.2.2.1 k (by omega)).1
  refine lv_aload_n Bx.1 Bx.2.1 d_Rd_readRepeat_0 rfl (lv_at hl 0 rfl) ?_
  refine f_get Bx hP (by omega) h9_3 rfl inRd 2 (by decide) kw_146 rfl rfl d_Rd_readRepeat_1 ?_
  refine lv_istore_n (lv' := [(2, .int (at1)), (0, .ref (ad 222)), (1, .ref (ad (20 + 2 * k)))]) Bx.1 Bx.2.1 d_Rd_readRepeat_4 rfl hl (by decide) rfl (fun ls hl => ?_)
  refine lv_aload_n Bx.1 Bx.2.1 d_Rd_readRepeat_5 rfl (lv_at hl 1 rfl) ?_
  refine f_callVi (na := 0) (As := []) (rest := []) Bx hml E hP hD hS (by omega) h9_3 rfl (m_Rd_readDigit l hn hT hRS) kw_486 kw_488 sel_Rd_readDigit kw_6 kw_489 (by decide +kernel) ⟨rfl, rfl⟩ ⟨Nat.le_of_ble_eq_true rfl, Nat.le_of_ble_eq_true rfl⟩ rfl hl.1 (Nat.le_of_ble_eq_true rfl) d_Rd_readRepeat_6 ⟨Nat.le_of_ble_eq_true rfl, Nat.le_of_ble_eq_true rfl⟩ (fun r22 mem23 H locs hRS21 hP hS => ?_)
  have hD : va_D (Az sz) (fw n ad mem23) := fw_D hD
  obtain ⟨at24, ft25, h9_26⟩ := hRS21.2.1
  have h1_27 : mem23 1 = .inr (0, [.ref (ad 2), .int (nI Z)]) := (hRS21.2.2 1 (by omega)).trans hT.1
  have h2_28 : mem23 2 = .inl (cy 0, 240, .inl f) := (hRS21.2.2 2 (by omega)).trans hT.2.2
  have h5_29 := hRS21.1.2.1
  have hbd35 := hRS21.1.1
  obtain ⟨S30, g31, hS_32, h220_33, h221_34⟩ := hRS21.1.2.2.2.2.2.2
  obtain ⟨k36, lo37, hi38, as39, pa40, ne41, he_42, ho_43⟩ := (hRS21.1.2.2.2.2.2.1 k (by omega)).1
  refine lv_istore_n (lv' := [(3, .int (r22)), (2, .int (at1)), (0, .ref (ad 222)), (1, .ref (ad (20 + 2 * k)))]) Bx.1 Bx.2.1 d_Rd_readRepeat_9 rfl hl (by decide) rfl (fun ls hl => ?_)
  refine lv_aload_n Bx.1 Bx.2.1 d_Rd_readRepeat_10 rfl (lv_at hl 2 rfl) ?_
  refine f_callVi (na := 0) (As := []) (rest := []) Bx hml E hP hD hS (by omega) h9_26 rfl (m_Rd_peek l hn hT hRS21) kw_353 kw_355 sel_Rd_peek kw_6 kw_356 (by decide +kernel) ⟨rfl, rfl⟩ ⟨Nat.le_of_ble_eq_true rfl, Nat.le_of_ble_eq_true rfl⟩ rfl hl.1 (Nat.le_of_ble_eq_true rfl) d_Rd_readRepeat_11 ⟨Nat.le_of_ble_eq_true rfl, Nat.le_of_ble_eq_true rfl⟩ (fun r44 mem45 H locs hq hP hS => ?_)
  have hD : va_D (Az sz) (fw n ad mem45) := fw_D hD
  rw [hq] at hP hD
  refine lv_bipush (v := 42) Bx.1 Bx.2.1 d_Rd_readRepeat_14 (by decide) ?_
  refine lv_icmp_ne Bx.1 Bx.2.1 d_Rd_readRepeat_16 rfl (fun h8 => ?_) (fun h8 => ?_)
  · refine lv_aload_n Bx.1 Bx.2.1 d_Rd_readRepeat_54 rfl (lv_at hl 3 rfl) ?_
    refine lv_iload_n Bx.1 Bx.2.1 d_Rd_readRepeat_55 rfl (lv_at hl 0 rfl) ?_
    refine f_putN Bx hP hD hS (by omega) he_42 rfl inEl tyEl okEl nmEl 1 (by decide) kw_79 rfl rfl rfl rfl (Nat.le_of_ble_eq_true rfl) d_Rd_readRepeat_56 (fun H locs hP hS => ?_)
    obtain ⟨mem46, e_mem46⟩ : ∃ z, z = va_up mem23 ((20 + 2 * k)) (.inr (2, [.int (k36), .int (r22), .int (hi38), as39, pa40, ne41, .ref (ad (21 + 2 * k))])) := ⟨_, rfl⟩
    have hP : va_P D vcl (fw n ad mem46) H := by rw [e_mem46]; exact hP
    have hD : va_D (Az sz) (fw n ad mem46) := fw_D hD
    have h_mem46 : mem46 ((20 + 2 * k)) = .inr (2, [.int (k36), .int (r22), .int (hi38), as39, pa40, ne41, .ref (ad (21 + 2 * k))]) := by rw [e_mem46, va_up_self]
    have hh47 := (va_up_ne mem23 (.inr (2, [.int (k36), .int (r22), .int (hi38), as39, pa40, ne41, .ref (ad (21 + 2 * k))])) (show (222 : Nat) ≠ (20 + 2 * k) by first | decide | assumption | omega)).trans h9_26
    rw [← e_mem46] at hh47
    have hh48 := (va_up_ne mem23 (.inr (2, [.int (k36), .int (r22), .int (hi38), as39, pa40, ne41, .ref (ad (21 + 2 * k))])) (show (1 : Nat) ≠ (20 + 2 * k) by first | decide | assumption | omega)).trans h1_27
    rw [← e_mem46] at hh48
    have hh49 := (va_up_ne mem23 (.inr (2, [.int (k36), .int (r22), .int (hi38), as39, pa40, ne41, .ref (ad (21 + 2 * k))])) (show (5 : Nat) ≠ (20 + 2 * k) by first | decide | assumption | omega)).trans h5_29
    rw [← e_mem46] at hh49
    have hh50 := (va_up_ne mem23 (.inr (2, [.int (k36), .int (r22), .int (hi38), as39, pa40, ne41, .ref (ad (21 + 2 * k))])) (show (220 : Nat) ≠ (20 + 2 * k) by first | decide | assumption | omega)).trans h220_33
    rw [← e_mem46] at hh50
    have hRS51 : RS cy ad lim rc ec m0 mem46 := by rw [e_mem46]; exact hRS21.mk (by omega) (hRS21.1.upEl (by omega) ho_43)
    refine lv_aload_n Bx.1 Bx.2.1 d_Rd_readRepeat_59 rfl (lv_at hl 3 rfl) ?_
    refine lv_iload_n Bx.1 Bx.2.1 d_Rd_readRepeat_60 rfl (lv_at hl 0 rfl) ?_
    refine f_putN Bx hP hD hS (by omega) h_mem46 rfl inEl tyEl okEl nmEl 2 (by decide) kw_82 rfl rfl rfl rfl (Nat.le_of_ble_eq_true rfl) d_Rd_readRepeat_61 (fun H locs hP hS => ?_)
    obtain ⟨mem52, e_mem52⟩ : ∃ z, z = va_up mem46 ((20 + 2 * k)) (.inr (2, [.int (k36), .int (r22), .int (r22), as39, pa40, ne41, .ref (ad (21 + 2 * k))])) := ⟨_, rfl⟩
    have hP : va_P D vcl (fw n ad mem52) H := by rw [e_mem52]; exact hP
    have hD : va_D (Az sz) (fw n ad mem52) := fw_D hD
    have h_mem52 : mem52 ((20 + 2 * k)) = .inr (2, [.int (k36), .int (r22), .int (r22), as39, pa40, ne41, .ref (ad (21 + 2 * k))]) := by rw [e_mem52, va_up_self]
    have hh53 := (va_up_ne mem46 (.inr (2, [.int (k36), .int (r22), .int (r22), as39, pa40, ne41, .ref (ad (21 + 2 * k))])) (show (222 : Nat) ≠ (20 + 2 * k) by first | decide | assumption | omega)).trans hh47
    rw [← e_mem52] at hh53
    have hh54 := (va_up_ne mem46 (.inr (2, [.int (k36), .int (r22), .int (r22), as39, pa40, ne41, .ref (ad (21 + 2 * k))])) (show (1 : Nat) ≠ (20 + 2 * k) by first | decide | assumption | omega)).trans hh48
    rw [← e_mem52] at hh54
    have hh55 := (va_up_ne mem46 (.inr (2, [.int (k36), .int (r22), .int (r22), as39, pa40, ne41, .ref (ad (21 + 2 * k))])) (show (5 : Nat) ≠ (20 + 2 * k) by first | decide | assumption | omega)).trans hh49
    rw [← e_mem52] at hh55
    have hh56 := (va_up_ne mem46 (.inr (2, [.int (k36), .int (r22), .int (r22), as39, pa40, ne41, .ref (ad (21 + 2 * k))])) (show (220 : Nat) ≠ (20 + 2 * k) by first | decide | assumption | omega)).trans hh50
    rw [← e_mem52] at hh56
    have hRS57 : RS cy ad lim rc ec m0 mem52 := by rw [e_mem52]; exact hRS51.mk (by omega) (hRS51.1.upEl (by omega) ho_43)
    refine lv_aload_n Bx.1 Bx.2.1 d_Rd_readRepeat_64 rfl (lv_at hl 2 rfl) ?_
    refine lv_aload_n Bx.1 Bx.2.1 d_Rd_readRepeat_65 rfl (lv_at hl 3 rfl) ?_
    refine f_getN Bx hP (by omega) h_mem52 rfl inEl 2 (by decide) kw_82 rfl rfl d_Rd_readRepeat_66 ?_
    refine lv_iconst (v := -1) Bx.1 Bx.2.1 d_Rd_readRepeat_69 (by decide) ?_
    refine lv_icmp_eq Bx.1 Bx.2.1 d_Rd_readRepeat_70 rfl (fun h8 => ?_) (fun h8 => ?_)
    · refine lv_iconst (v := 1) Bx.1 Bx.2.1 d_Rd_readRepeat_84 (by decide) ?_
      refine lv_goto Bx.1 Bx.2.1 d_Rd_readRepeat_85 rfl ?_
      refine lv_iload_n Bx.1 Bx.2.1 d_Rd_readRepeat_89 rfl (lv_at hl 1 rfl) ?_
      refine f_xVv (na := 2) (As := [.int (1), .int (at1)]) (rest := []) Bx hml E hP hD hS (by omega) hh53 rfl (m_Rd_needReadable l hlt hn hT hRS57) kw_360 kw_362 sel_Rd_needReadable kw_6 kw_363 (by decide +kernel) ⟨rfl, rfl⟩ ⟨Nat.le_of_ble_eq_true rfl, Nat.le_of_ble_eq_true rfl⟩ rfl hl.1 (Nat.le_of_ble_eq_true rfl) d_Rd_readRepeat_90 ⟨Nat.le_of_ble_eq_true rfl, Nat.le_of_ble_eq_true rfl⟩ (fun X ce q9 memx H locs hx9 hP hS g1 g2 g3 => f_out hlocks hno hP hS g1 g2 g3 ⟨Nat.le_of_ble_eq_true rfl, Nat.le_of_ble_eq_true rfl⟩ hx9) (fun mem59 H locs hq hP hS => ?_)
      have hD : va_D (Az sz) (fw n ad mem59) := fw_D hD
      obtain ⟨hRS60, -, hg61⟩ := hq
      obtain ⟨at62, ft63, h9_64⟩ := hRS60.2.1
      have h1_65 : mem59 1 = .inr (0, [.ref (ad 2), .int (nI Z)]) := (hRS60.2.2 1 (by omega)).trans hT.1
      have h2_66 : mem59 2 = .inl (cy 0, 240, .inl f) := (hRS60.2.2 2 (by omega)).trans hT.2.2
      have h5_67 := hRS60.1.2.1
      have hbd73 := hRS60.1.1
      obtain ⟨S68, g69, hS_70, h220_71, h221_72⟩ := hRS60.1.2.2.2.2.2.2
      obtain ⟨k74, lo75, hi76, as77, pa78, ne79, he_80, ho_81⟩ := (hRS60.1.2.2.2.2.2.1 k (by omega)).1
      exact x_vret hx hb hlocks hr (hRS60) hP hS d_Rd_readRepeat_93
    · refine lv_aload_n Bx.1 Bx.2.1 d_Rd_readRepeat_73 rfl (lv_at hl 3 rfl) ?_
      refine f_getN Bx hP (by omega) h_mem52 rfl inEl 1 (by decide) kw_79 rfl rfl d_Rd_readRepeat_74 ?_
      refine lv_aload_n Bx.1 Bx.2.1 d_Rd_readRepeat_77 rfl (lv_at hl 3 rfl) ?_
      refine f_getN Bx hP (by omega) h_mem52 rfl inEl 2 (by decide) kw_82 rfl rfl d_Rd_readRepeat_78 ?_
      refine lv_icmp_gt Bx.1 Bx.2.1 d_Rd_readRepeat_81 rfl (fun h8 => ?_) (fun h8 => ?_)
      · refine lv_iconst (v := 0) Bx.1 Bx.2.1 d_Rd_readRepeat_88 (by decide) ?_
        refine lv_iload_n Bx.1 Bx.2.1 d_Rd_readRepeat_89 rfl (lv_at hl 1 rfl) ?_
        refine f_xVv (na := 2) (As := [.int (0), .int (at1)]) (rest := []) Bx hml E hP hD hS (by omega) hh53 rfl (m_Rd_needReadable l hlt hn hT hRS57) kw_360 kw_362 sel_Rd_needReadable kw_6 kw_363 (by decide +kernel) ⟨rfl, rfl⟩ ⟨Nat.le_of_ble_eq_true rfl, Nat.le_of_ble_eq_true rfl⟩ rfl hl.1 (Nat.le_of_ble_eq_true rfl) d_Rd_readRepeat_90 ⟨Nat.le_of_ble_eq_true rfl, Nat.le_of_ble_eq_true rfl⟩ (fun X ce q9 memx H locs hx9 hP hS g1 g2 g3 => f_out hlocks hno hP hS g1 g2 g3 ⟨Nat.le_of_ble_eq_true rfl, Nat.le_of_ble_eq_true rfl⟩ hx9) (fun mem83 H locs hq hP hS => ?_)
        have hD : va_D (Az sz) (fw n ad mem83) := fw_D hD
        obtain ⟨hRS84, -, hg85⟩ := hq
        obtain ⟨at86, ft87, h9_88⟩ := hRS84.2.1
        have h1_89 : mem83 1 = .inr (0, [.ref (ad 2), .int (nI Z)]) := (hRS84.2.2 1 (by omega)).trans hT.1
        have h2_90 : mem83 2 = .inl (cy 0, 240, .inl f) := (hRS84.2.2 2 (by omega)).trans hT.2.2
        have h5_91 := hRS84.1.2.1
        have hbd97 := hRS84.1.1
        obtain ⟨S92, g93, hS_94, h220_95, h221_96⟩ := hRS84.1.2.2.2.2.2.2
        obtain ⟨k98, lo99, hi100, as101, pa102, ne103, he_104, ho_105⟩ := (hRS84.1.2.2.2.2.2.1 k (by omega)).1
        exact x_vret hx hb hlocks hr (hRS84) hP hS d_Rd_readRepeat_93
      · refine lv_iconst (v := 1) Bx.1 Bx.2.1 d_Rd_readRepeat_84 (by decide) ?_
        refine lv_goto Bx.1 Bx.2.1 d_Rd_readRepeat_85 rfl ?_
        refine lv_iload_n Bx.1 Bx.2.1 d_Rd_readRepeat_89 rfl (lv_at hl 1 rfl) ?_
        refine f_xVv (na := 2) (As := [.int (1), .int (at1)]) (rest := []) Bx hml E hP hD hS (by omega) hh53 rfl (m_Rd_needReadable l hlt hn hT hRS57) kw_360 kw_362 sel_Rd_needReadable kw_6 kw_363 (by decide +kernel) ⟨rfl, rfl⟩ ⟨Nat.le_of_ble_eq_true rfl, Nat.le_of_ble_eq_true rfl⟩ rfl hl.1 (Nat.le_of_ble_eq_true rfl) d_Rd_readRepeat_90 ⟨Nat.le_of_ble_eq_true rfl, Nat.le_of_ble_eq_true rfl⟩ (fun X ce q9 memx H locs hx9 hP hS g1 g2 g3 => f_out hlocks hno hP hS g1 g2 g3 ⟨Nat.le_of_ble_eq_true rfl, Nat.le_of_ble_eq_true rfl⟩ hx9) (fun mem107 H locs hq hP hS => ?_)
        have hD : va_D (Az sz) (fw n ad mem107) := fw_D hD
        obtain ⟨hRS108, -, hg109⟩ := hq
        obtain ⟨at110, ft111, h9_112⟩ := hRS108.2.1
        have h1_113 : mem107 1 = .inr (0, [.ref (ad 2), .int (nI Z)]) := (hRS108.2.2 1 (by omega)).trans hT.1
        have h2_114 : mem107 2 = .inl (cy 0, 240, .inl f) := (hRS108.2.2 2 (by omega)).trans hT.2.2
        have h5_115 := hRS108.1.2.1
        have hbd121 := hRS108.1.1
        obtain ⟨S116, g117, hS_118, h220_119, h221_120⟩ := hRS108.1.2.2.2.2.2.2
        obtain ⟨k122, lo123, hi124, as125, pa126, ne127, he_128, ho_129⟩ := (hRS108.1.2.2.2.2.2.1 k (by omega)).1
        exact x_vret hx hb hlocks hr (hRS108) hP hS d_Rd_readRepeat_93
  · refine lv_aload_n Bx.1 Bx.2.1 d_Rd_readRepeat_19 rfl (lv_at hl 2 rfl) ?_
    refine lv_dup Bx.1 Bx.2.1 d_Rd_readRepeat_20 rfl ?_
    refine f_get Bx hP (by omega) h9_26 rfl inRd 2 (by decide) kw_146 rfl rfl d_Rd_readRepeat_21 ?_
    refine lv_iconst (v := 1) Bx.1 Bx.2.1 d_Rd_readRepeat_24 (by decide) ?_
    refine lv_iadd Bx.1 Bx.2.1 d_Rd_readRepeat_25 ?_
    refine f_put Bx hP hD hS (by omega) h9_26 rfl inRd tyRd okRd nmRd 2 (by decide) kw_146 rfl rfl rfl rfl (Nat.le_of_ble_eq_true rfl) d_Rd_readRepeat_26 (fun H locs hP hS => ?_)
    obtain ⟨mem130, e_mem130⟩ : ∃ z, z = va_up mem23 (222) (.inr (4, [.ref (ad 1), .ref (ad 5), .int (at24 + 1), .int (ft25)])) := ⟨_, rfl⟩
    have hP : va_P D vcl (fw n ad mem130) H := by rw [e_mem130]; exact hP
    have hD : va_D (Az sz) (fw n ad mem130) := fw_D hD
    have h_mem130 : mem130 (222) = .inr (4, [.ref (ad 1), .ref (ad 5), .int (at24 + 1), .int (ft25)]) := by rw [e_mem130, va_up_self]
    have hh131 := (va_up_ne mem23 (.inr (4, [.ref (ad 1), .ref (ad 5), .int (at24 + 1), .int (ft25)])) (show (1 : Nat) ≠ 222 by first | decide | assumption | omega)).trans h1_27
    rw [← e_mem130] at hh131
    have hh132 := (va_up_ne mem23 (.inr (4, [.ref (ad 1), .ref (ad 5), .int (at24 + 1), .int (ft25)])) (show (5 : Nat) ≠ 222 by first | decide | assumption | omega)).trans h5_29
    rw [← e_mem130] at hh132
    have hh133 := (va_up_ne mem23 (.inr (4, [.ref (ad 1), .ref (ad 5), .int (at24 + 1), .int (ft25)])) (show (220 : Nat) ≠ 222 by first | decide | assumption | omega)).trans h220_33
    rw [← e_mem130] at hh133
    have hh134 := (va_up_ne mem23 (.inr (4, [.ref (ad 1), .ref (ad 5), .int (at24 + 1), .int (ft25)])) (show ((20 + 2 * k) : Nat) ≠ 222 by first | decide | assumption | omega)).trans he_42
    rw [← e_mem130] at hh134
    have hRS135 : RS cy ad lim rc ec m0 mem130 := by rw [e_mem130]; exact hRS21.at222
    refine lv_aload_n Bx.1 Bx.2.1 d_Rd_readRepeat_29 rfl (lv_at hl 3 rfl) ?_
    refine lv_iload_n Bx.1 Bx.2.1 d_Rd_readRepeat_30 rfl (lv_at hl 0 rfl) ?_
    refine lv_iconst (v := -1) Bx.1 Bx.2.1 d_Rd_readRepeat_31 (by decide) ?_
    refine lv_icmp_ne Bx.1 Bx.2.1 d_Rd_readRepeat_32 rfl (fun h8 => ?_) (fun h8 => ?_)
    · refine lv_iload_n Bx.1 Bx.2.1 d_Rd_readRepeat_39 rfl (lv_at hl 0 rfl) ?_
      refine f_putN Bx hP hD hS (by omega) hh134 rfl inEl tyEl okEl nmEl 1 (by decide) kw_79 rfl rfl rfl rfl (Nat.le_of_ble_eq_true rfl) d_Rd_readRepeat_40 (fun H locs hP hS => ?_)
      obtain ⟨mem136, e_mem136⟩ : ∃ z, z = va_up mem130 ((20 + 2 * k)) (.inr (2, [.int (k36), .int (r22), .int (hi38), as39, pa40, ne41, .ref (ad (21 + 2 * k))])) := ⟨_, rfl⟩
      have hP : va_P D vcl (fw n ad mem136) H := by rw [e_mem136]; exact hP
      have hD : va_D (Az sz) (fw n ad mem136) := fw_D hD
      have h_mem136 : mem136 ((20 + 2 * k)) = .inr (2, [.int (k36), .int (r22), .int (hi38), as39, pa40, ne41, .ref (ad (21 + 2 * k))]) := by rw [e_mem136, va_up_self]
      have hh137 := (va_up_ne mem130 (.inr (2, [.int (k36), .int (r22), .int (hi38), as39, pa40, ne41, .ref (ad (21 + 2 * k))])) (show (222 : Nat) ≠ (20 + 2 * k) by first | decide | assumption | omega)).trans h_mem130
      rw [← e_mem136] at hh137
      have hh138 := (va_up_ne mem130 (.inr (2, [.int (k36), .int (r22), .int (hi38), as39, pa40, ne41, .ref (ad (21 + 2 * k))])) (show (1 : Nat) ≠ (20 + 2 * k) by first | decide | assumption | omega)).trans hh131
      rw [← e_mem136] at hh138
      have hh139 := (va_up_ne mem130 (.inr (2, [.int (k36), .int (r22), .int (hi38), as39, pa40, ne41, .ref (ad (21 + 2 * k))])) (show (5 : Nat) ≠ (20 + 2 * k) by first | decide | assumption | omega)).trans hh132
      rw [← e_mem136] at hh139
      have hh140 := (va_up_ne mem130 (.inr (2, [.int (k36), .int (r22), .int (hi38), as39, pa40, ne41, .ref (ad (21 + 2 * k))])) (show (220 : Nat) ≠ (20 + 2 * k) by first | decide | assumption | omega)).trans hh133
      rw [← e_mem136] at hh140
      have hRS141 : RS cy ad lim rc ec m0 mem136 := by rw [e_mem136]; exact hRS135.mk (by omega) (hRS135.1.upEl (by omega) ho_43)
      refine lv_aload_n Bx.1 Bx.2.1 d_Rd_readRepeat_43 rfl (lv_at hl 3 rfl) ?_
      refine lv_aload_n Bx.1 Bx.2.1 d_Rd_readRepeat_44 rfl (lv_at hl 2 rfl) ?_
      refine f_callVi (na := 0) (As := []) (rest := [.ref (ad (20 + 2 * k))]) Bx hml E hP hD hS (by omega) hh137 rfl (m_Rd_readDigit l hn hT hRS141) kw_486 kw_488 sel_Rd_readDigit kw_6 kw_489 (by decide +kernel) ⟨rfl, rfl⟩ ⟨Nat.le_of_ble_eq_true rfl, Nat.le_of_ble_eq_true rfl⟩ rfl hl.1 (Nat.le_of_ble_eq_true rfl) d_Rd_readRepeat_45 ⟨Nat.le_of_ble_eq_true rfl, Nat.le_of_ble_eq_true rfl⟩ (fun r143 mem144 H locs hRS142 hP hS => ?_)
      have hD : va_D (Az sz) (fw n ad mem144) := fw_D hD
      obtain ⟨at145, ft146, h9_147⟩ := hRS142.2.1
      have h1_148 : mem144 1 = .inr (0, [.ref (ad 2), .int (nI Z)]) := (hRS142.2.2 1 (by omega)).trans hT.1
      have h2_149 : mem144 2 = .inl (cy 0, 240, .inl f) := (hRS142.2.2 2 (by omega)).trans hT.2.2
      have h5_150 := hRS142.1.2.1
      have hbd156 := hRS142.1.1
      obtain ⟨S151, g152, hS_153, h220_154, h221_155⟩ := hRS142.1.2.2.2.2.2.2
      obtain ⟨k157, lo158, hi159, as160, pa161, ne162, he_163, ho_164⟩ := (hRS142.1.2.2.2.2.2.1 k (by omega)).1
      refine f_putN Bx hP hD hS (by omega) he_163 rfl inEl tyEl okEl nmEl 2 (by decide) kw_82 rfl rfl rfl rfl (Nat.le_of_ble_eq_true rfl) d_Rd_readRepeat_48 (fun H locs hP hS => ?_)
      obtain ⟨mem165, e_mem165⟩ : ∃ z, z = va_up mem144 ((20 + 2 * k)) (.inr (2, [.int (k157), .int (lo158), .int (r143), as160, pa161, ne162, .ref (ad (21 + 2 * k))])) := ⟨_, rfl⟩
      have hP : va_P D vcl (fw n ad mem165) H := by rw [e_mem165]; exact hP
      have hD : va_D (Az sz) (fw n ad mem165) := fw_D hD
      have h_mem165 : mem165 ((20 + 2 * k)) = .inr (2, [.int (k157), .int (lo158), .int (r143), as160, pa161, ne162, .ref (ad (21 + 2 * k))]) := by rw [e_mem165, va_up_self]
      have hh166 := (va_up_ne mem144 (.inr (2, [.int (k157), .int (lo158), .int (r143), as160, pa161, ne162, .ref (ad (21 + 2 * k))])) (show (222 : Nat) ≠ (20 + 2 * k) by first | decide | assumption | omega)).trans h9_147
      rw [← e_mem165] at hh166
      have hh167 := (va_up_ne mem144 (.inr (2, [.int (k157), .int (lo158), .int (r143), as160, pa161, ne162, .ref (ad (21 + 2 * k))])) (show (1 : Nat) ≠ (20 + 2 * k) by first | decide | assumption | omega)).trans h1_148
      rw [← e_mem165] at hh167
      have hh168 := (va_up_ne mem144 (.inr (2, [.int (k157), .int (lo158), .int (r143), as160, pa161, ne162, .ref (ad (21 + 2 * k))])) (show (5 : Nat) ≠ (20 + 2 * k) by first | decide | assumption | omega)).trans h5_150
      rw [← e_mem165] at hh168
      have hh169 := (va_up_ne mem144 (.inr (2, [.int (k157), .int (lo158), .int (r143), as160, pa161, ne162, .ref (ad (21 + 2 * k))])) (show (220 : Nat) ≠ (20 + 2 * k) by first | decide | assumption | omega)).trans h220_154
      rw [← e_mem165] at hh169
      have hRS170 : RS cy ad lim rc ec m0 mem165 := by rw [e_mem165]; exact hRS142.mk (by omega) (hRS142.1.upEl (by omega) ho_164)
      refine lv_goto Bx.1 Bx.2.1 d_Rd_readRepeat_51 rfl ?_
      refine lv_aload_n Bx.1 Bx.2.1 d_Rd_readRepeat_64 rfl (lv_at hl 2 rfl) ?_
      refine lv_aload_n Bx.1 Bx.2.1 d_Rd_readRepeat_65 rfl (lv_at hl 3 rfl) ?_
      refine f_getN Bx hP (by omega) h_mem165 rfl inEl 2 (by decide) kw_82 rfl rfl d_Rd_readRepeat_66 ?_
      refine lv_iconst (v := -1) Bx.1 Bx.2.1 d_Rd_readRepeat_69 (by decide) ?_
      refine lv_icmp_eq Bx.1 Bx.2.1 d_Rd_readRepeat_70 rfl (fun h8 => ?_) (fun h8 => ?_)
      · refine lv_iconst (v := 1) Bx.1 Bx.2.1 d_Rd_readRepeat_84 (by decide) ?_
        refine lv_goto Bx.1 Bx.2.1 d_Rd_readRepeat_85 rfl ?_
        refine lv_iload_n Bx.1 Bx.2.1 d_Rd_readRepeat_89 rfl (lv_at hl 1 rfl) ?_
        refine f_xVv (na := 2) (As := [.int (1), .int (at1)]) (rest := []) Bx hml E hP hD hS (by omega) hh166 rfl (m_Rd_needReadable l hlt hn hT hRS170) kw_360 kw_362 sel_Rd_needReadable kw_6 kw_363 (by decide +kernel) ⟨rfl, rfl⟩ ⟨Nat.le_of_ble_eq_true rfl, Nat.le_of_ble_eq_true rfl⟩ rfl hl.1 (Nat.le_of_ble_eq_true rfl) d_Rd_readRepeat_90 ⟨Nat.le_of_ble_eq_true rfl, Nat.le_of_ble_eq_true rfl⟩ (fun X ce q9 memx H locs hx9 hP hS g1 g2 g3 => f_out hlocks hno hP hS g1 g2 g3 ⟨Nat.le_of_ble_eq_true rfl, Nat.le_of_ble_eq_true rfl⟩ hx9) (fun mem172 H locs hq hP hS => ?_)
        have hD : va_D (Az sz) (fw n ad mem172) := fw_D hD
        obtain ⟨hRS173, -, hg174⟩ := hq
        obtain ⟨at175, ft176, h9_177⟩ := hRS173.2.1
        have h1_178 : mem172 1 = .inr (0, [.ref (ad 2), .int (nI Z)]) := (hRS173.2.2 1 (by omega)).trans hT.1
        have h2_179 : mem172 2 = .inl (cy 0, 240, .inl f) := (hRS173.2.2 2 (by omega)).trans hT.2.2
        have h5_180 := hRS173.1.2.1
        have hbd186 := hRS173.1.1
        obtain ⟨S181, g182, hS_183, h220_184, h221_185⟩ := hRS173.1.2.2.2.2.2.2
        obtain ⟨k187, lo188, hi189, as190, pa191, ne192, he_193, ho_194⟩ := (hRS173.1.2.2.2.2.2.1 k (by omega)).1
        exact x_vret hx hb hlocks hr (hRS173) hP hS d_Rd_readRepeat_93
      · refine lv_aload_n Bx.1 Bx.2.1 d_Rd_readRepeat_73 rfl (lv_at hl 3 rfl) ?_
        refine f_getN Bx hP (by omega) h_mem165 rfl inEl 1 (by decide) kw_79 rfl rfl d_Rd_readRepeat_74 ?_
        refine lv_aload_n Bx.1 Bx.2.1 d_Rd_readRepeat_77 rfl (lv_at hl 3 rfl) ?_
        refine f_getN Bx hP (by omega) h_mem165 rfl inEl 2 (by decide) kw_82 rfl rfl d_Rd_readRepeat_78 ?_
        refine lv_icmp_gt Bx.1 Bx.2.1 d_Rd_readRepeat_81 rfl (fun h8 => ?_) (fun h8 => ?_)
        · refine lv_iconst (v := 0) Bx.1 Bx.2.1 d_Rd_readRepeat_88 (by decide) ?_
          refine lv_iload_n Bx.1 Bx.2.1 d_Rd_readRepeat_89 rfl (lv_at hl 1 rfl) ?_
          refine f_xVv (na := 2) (As := [.int (0), .int (at1)]) (rest := []) Bx hml E hP hD hS (by omega) hh166 rfl (m_Rd_needReadable l hlt hn hT hRS170) kw_360 kw_362 sel_Rd_needReadable kw_6 kw_363 (by decide +kernel) ⟨rfl, rfl⟩ ⟨Nat.le_of_ble_eq_true rfl, Nat.le_of_ble_eq_true rfl⟩ rfl hl.1 (Nat.le_of_ble_eq_true rfl) d_Rd_readRepeat_90 ⟨Nat.le_of_ble_eq_true rfl, Nat.le_of_ble_eq_true rfl⟩ (fun X ce q9 memx H locs hx9 hP hS g1 g2 g3 => f_out hlocks hno hP hS g1 g2 g3 ⟨Nat.le_of_ble_eq_true rfl, Nat.le_of_ble_eq_true rfl⟩ hx9) (fun mem196 H locs hq hP hS => ?_)
          have hD : va_D (Az sz) (fw n ad mem196) := fw_D hD
          obtain ⟨hRS197, -, hg198⟩ := hq
          obtain ⟨at199, ft200, h9_201⟩ := hRS197.2.1
          have h1_202 : mem196 1 = .inr (0, [.ref (ad 2), .int (nI Z)]) := (hRS197.2.2 1 (by omega)).trans hT.1
          have h2_203 : mem196 2 = .inl (cy 0, 240, .inl f) := (hRS197.2.2 2 (by omega)).trans hT.2.2
          have h5_204 := hRS197.1.2.1
          have hbd210 := hRS197.1.1
          obtain ⟨S205, g206, hS_207, h220_208, h221_209⟩ := hRS197.1.2.2.2.2.2.2
          obtain ⟨k211, lo212, hi213, as214, pa215, ne216, he_217, ho_218⟩ := (hRS197.1.2.2.2.2.2.1 k (by omega)).1
          exact x_vret hx hb hlocks hr (hRS197) hP hS d_Rd_readRepeat_93
        · refine lv_iconst (v := 1) Bx.1 Bx.2.1 d_Rd_readRepeat_84 (by decide) ?_
          refine lv_goto Bx.1 Bx.2.1 d_Rd_readRepeat_85 rfl ?_
          refine lv_iload_n Bx.1 Bx.2.1 d_Rd_readRepeat_89 rfl (lv_at hl 1 rfl) ?_
          refine f_xVv (na := 2) (As := [.int (1), .int (at1)]) (rest := []) Bx hml E hP hD hS (by omega) hh166 rfl (m_Rd_needReadable l hlt hn hT hRS170) kw_360 kw_362 sel_Rd_needReadable kw_6 kw_363 (by decide +kernel) ⟨rfl, rfl⟩ ⟨Nat.le_of_ble_eq_true rfl, Nat.le_of_ble_eq_true rfl⟩ rfl hl.1 (Nat.le_of_ble_eq_true rfl) d_Rd_readRepeat_90 ⟨Nat.le_of_ble_eq_true rfl, Nat.le_of_ble_eq_true rfl⟩ (fun X ce q9 memx H locs hx9 hP hS g1 g2 g3 => f_out hlocks hno hP hS g1 g2 g3 ⟨Nat.le_of_ble_eq_true rfl, Nat.le_of_ble_eq_true rfl⟩ hx9) (fun mem220 H locs hq hP hS => ?_)
          have hD : va_D (Az sz) (fw n ad mem220) := fw_D hD
          obtain ⟨hRS221, -, hg222⟩ := hq
          obtain ⟨at223, ft224, h9_225⟩ := hRS221.2.1
          have h1_226 : mem220 1 = .inr (0, [.ref (ad 2), .int (nI Z)]) := (hRS221.2.2 1 (by omega)).trans hT.1
          have h2_227 : mem220 2 = .inl (cy 0, 240, .inl f) := (hRS221.2.2 2 (by omega)).trans hT.2.2
          have h5_228 := hRS221.1.2.1
          have hbd234 := hRS221.1.1
          obtain ⟨S229, g230, hS_231, h220_232, h221_233⟩ := hRS221.1.2.2.2.2.2.2
          obtain ⟨k235, lo236, hi237, as238, pa239, ne240, he_241, ho_242⟩ := (hRS221.1.2.2.2.2.2.1 k (by omega)).1
          exact x_vret hx hb hlocks hr (hRS221) hP hS d_Rd_readRepeat_93
    · refine lv_iconst (v := 0) Bx.1 Bx.2.1 d_Rd_readRepeat_35 (by decide) ?_
      refine lv_goto Bx.1 Bx.2.1 d_Rd_readRepeat_36 rfl ?_
      refine f_putN Bx hP hD hS (by omega) hh134 rfl inEl tyEl okEl nmEl 1 (by decide) kw_79 rfl rfl rfl rfl (Nat.le_of_ble_eq_true rfl) d_Rd_readRepeat_40 (fun H locs hP hS => ?_)
      obtain ⟨mem243, e_mem243⟩ : ∃ z, z = va_up mem130 ((20 + 2 * k)) (.inr (2, [.int (k36), .int (0), .int (hi38), as39, pa40, ne41, .ref (ad (21 + 2 * k))])) := ⟨_, rfl⟩
      have hP : va_P D vcl (fw n ad mem243) H := by rw [e_mem243]; exact hP
      have hD : va_D (Az sz) (fw n ad mem243) := fw_D hD
      have h_mem243 : mem243 ((20 + 2 * k)) = .inr (2, [.int (k36), .int (0), .int (hi38), as39, pa40, ne41, .ref (ad (21 + 2 * k))]) := by rw [e_mem243, va_up_self]
      have hh244 := (va_up_ne mem130 (.inr (2, [.int (k36), .int (0), .int (hi38), as39, pa40, ne41, .ref (ad (21 + 2 * k))])) (show (222 : Nat) ≠ (20 + 2 * k) by first | decide | assumption | omega)).trans h_mem130
      rw [← e_mem243] at hh244
      have hh245 := (va_up_ne mem130 (.inr (2, [.int (k36), .int (0), .int (hi38), as39, pa40, ne41, .ref (ad (21 + 2 * k))])) (show (1 : Nat) ≠ (20 + 2 * k) by first | decide | assumption | omega)).trans hh131
      rw [← e_mem243] at hh245
      have hh246 := (va_up_ne mem130 (.inr (2, [.int (k36), .int (0), .int (hi38), as39, pa40, ne41, .ref (ad (21 + 2 * k))])) (show (5 : Nat) ≠ (20 + 2 * k) by first | decide | assumption | omega)).trans hh132
      rw [← e_mem243] at hh246
      have hh247 := (va_up_ne mem130 (.inr (2, [.int (k36), .int (0), .int (hi38), as39, pa40, ne41, .ref (ad (21 + 2 * k))])) (show (220 : Nat) ≠ (20 + 2 * k) by first | decide | assumption | omega)).trans hh133
      rw [← e_mem243] at hh247
      have hRS248 : RS cy ad lim rc ec m0 mem243 := by rw [e_mem243]; exact hRS135.mk (by omega) (hRS135.1.upEl (by omega) ho_43)
      refine lv_aload_n Bx.1 Bx.2.1 d_Rd_readRepeat_43 rfl (lv_at hl 3 rfl) ?_
      refine lv_aload_n Bx.1 Bx.2.1 d_Rd_readRepeat_44 rfl (lv_at hl 2 rfl) ?_
      refine f_callVi (na := 0) (As := []) (rest := [.ref (ad (20 + 2 * k))]) Bx hml E hP hD hS (by omega) hh244 rfl (m_Rd_readDigit l hn hT hRS248) kw_486 kw_488 sel_Rd_readDigit kw_6 kw_489 (by decide +kernel) ⟨rfl, rfl⟩ ⟨Nat.le_of_ble_eq_true rfl, Nat.le_of_ble_eq_true rfl⟩ rfl hl.1 (Nat.le_of_ble_eq_true rfl) d_Rd_readRepeat_45 ⟨Nat.le_of_ble_eq_true rfl, Nat.le_of_ble_eq_true rfl⟩ (fun r250 mem251 H locs hRS249 hP hS => ?_)
      have hD : va_D (Az sz) (fw n ad mem251) := fw_D hD
      obtain ⟨at252, ft253, h9_254⟩ := hRS249.2.1
      have h1_255 : mem251 1 = .inr (0, [.ref (ad 2), .int (nI Z)]) := (hRS249.2.2 1 (by omega)).trans hT.1
      have h2_256 : mem251 2 = .inl (cy 0, 240, .inl f) := (hRS249.2.2 2 (by omega)).trans hT.2.2
      have h5_257 := hRS249.1.2.1
      have hbd263 := hRS249.1.1
      obtain ⟨S258, g259, hS_260, h220_261, h221_262⟩ := hRS249.1.2.2.2.2.2.2
      obtain ⟨k264, lo265, hi266, as267, pa268, ne269, he_270, ho_271⟩ := (hRS249.1.2.2.2.2.2.1 k (by omega)).1
      refine f_putN Bx hP hD hS (by omega) he_270 rfl inEl tyEl okEl nmEl 2 (by decide) kw_82 rfl rfl rfl rfl (Nat.le_of_ble_eq_true rfl) d_Rd_readRepeat_48 (fun H locs hP hS => ?_)
      obtain ⟨mem272, e_mem272⟩ : ∃ z, z = va_up mem251 ((20 + 2 * k)) (.inr (2, [.int (k264), .int (lo265), .int (r250), as267, pa268, ne269, .ref (ad (21 + 2 * k))])) := ⟨_, rfl⟩
      have hP : va_P D vcl (fw n ad mem272) H := by rw [e_mem272]; exact hP
      have hD : va_D (Az sz) (fw n ad mem272) := fw_D hD
      have h_mem272 : mem272 ((20 + 2 * k)) = .inr (2, [.int (k264), .int (lo265), .int (r250), as267, pa268, ne269, .ref (ad (21 + 2 * k))]) := by rw [e_mem272, va_up_self]
      have hh273 := (va_up_ne mem251 (.inr (2, [.int (k264), .int (lo265), .int (r250), as267, pa268, ne269, .ref (ad (21 + 2 * k))])) (show (222 : Nat) ≠ (20 + 2 * k) by first | decide | assumption | omega)).trans h9_254
      rw [← e_mem272] at hh273
      have hh274 := (va_up_ne mem251 (.inr (2, [.int (k264), .int (lo265), .int (r250), as267, pa268, ne269, .ref (ad (21 + 2 * k))])) (show (1 : Nat) ≠ (20 + 2 * k) by first | decide | assumption | omega)).trans h1_255
      rw [← e_mem272] at hh274
      have hh275 := (va_up_ne mem251 (.inr (2, [.int (k264), .int (lo265), .int (r250), as267, pa268, ne269, .ref (ad (21 + 2 * k))])) (show (5 : Nat) ≠ (20 + 2 * k) by first | decide | assumption | omega)).trans h5_257
      rw [← e_mem272] at hh275
      have hh276 := (va_up_ne mem251 (.inr (2, [.int (k264), .int (lo265), .int (r250), as267, pa268, ne269, .ref (ad (21 + 2 * k))])) (show (220 : Nat) ≠ (20 + 2 * k) by first | decide | assumption | omega)).trans h220_261
      rw [← e_mem272] at hh276
      have hRS277 : RS cy ad lim rc ec m0 mem272 := by rw [e_mem272]; exact hRS249.mk (by omega) (hRS249.1.upEl (by omega) ho_271)
      refine lv_goto Bx.1 Bx.2.1 d_Rd_readRepeat_51 rfl ?_
      refine lv_aload_n Bx.1 Bx.2.1 d_Rd_readRepeat_64 rfl (lv_at hl 2 rfl) ?_
      refine lv_aload_n Bx.1 Bx.2.1 d_Rd_readRepeat_65 rfl (lv_at hl 3 rfl) ?_
      refine f_getN Bx hP (by omega) h_mem272 rfl inEl 2 (by decide) kw_82 rfl rfl d_Rd_readRepeat_66 ?_
      refine lv_iconst (v := -1) Bx.1 Bx.2.1 d_Rd_readRepeat_69 (by decide) ?_
      refine lv_icmp_eq Bx.1 Bx.2.1 d_Rd_readRepeat_70 rfl (fun h8 => ?_) (fun h8 => ?_)
      · refine lv_iconst (v := 1) Bx.1 Bx.2.1 d_Rd_readRepeat_84 (by decide) ?_
        refine lv_goto Bx.1 Bx.2.1 d_Rd_readRepeat_85 rfl ?_
        refine lv_iload_n Bx.1 Bx.2.1 d_Rd_readRepeat_89 rfl (lv_at hl 1 rfl) ?_
        refine f_xVv (na := 2) (As := [.int (1), .int (at1)]) (rest := []) Bx hml E hP hD hS (by omega) hh273 rfl (m_Rd_needReadable l hlt hn hT hRS277) kw_360 kw_362 sel_Rd_needReadable kw_6 kw_363 (by decide +kernel) ⟨rfl, rfl⟩ ⟨Nat.le_of_ble_eq_true rfl, Nat.le_of_ble_eq_true rfl⟩ rfl hl.1 (Nat.le_of_ble_eq_true rfl) d_Rd_readRepeat_90 ⟨Nat.le_of_ble_eq_true rfl, Nat.le_of_ble_eq_true rfl⟩ (fun X ce q9 memx H locs hx9 hP hS g1 g2 g3 => f_out hlocks hno hP hS g1 g2 g3 ⟨Nat.le_of_ble_eq_true rfl, Nat.le_of_ble_eq_true rfl⟩ hx9) (fun mem279 H locs hq hP hS => ?_)
        have hD : va_D (Az sz) (fw n ad mem279) := fw_D hD
        obtain ⟨hRS280, -, hg281⟩ := hq
        obtain ⟨at282, ft283, h9_284⟩ := hRS280.2.1
        have h1_285 : mem279 1 = .inr (0, [.ref (ad 2), .int (nI Z)]) := (hRS280.2.2 1 (by omega)).trans hT.1
        have h2_286 : mem279 2 = .inl (cy 0, 240, .inl f) := (hRS280.2.2 2 (by omega)).trans hT.2.2
        have h5_287 := hRS280.1.2.1
        have hbd293 := hRS280.1.1
        obtain ⟨S288, g289, hS_290, h220_291, h221_292⟩ := hRS280.1.2.2.2.2.2.2
        obtain ⟨k294, lo295, hi296, as297, pa298, ne299, he_300, ho_301⟩ := (hRS280.1.2.2.2.2.2.1 k (by omega)).1
        exact x_vret hx hb hlocks hr (hRS280) hP hS d_Rd_readRepeat_93
      · refine lv_aload_n Bx.1 Bx.2.1 d_Rd_readRepeat_73 rfl (lv_at hl 3 rfl) ?_
        refine f_getN Bx hP (by omega) h_mem272 rfl inEl 1 (by decide) kw_79 rfl rfl d_Rd_readRepeat_74 ?_
        refine lv_aload_n Bx.1 Bx.2.1 d_Rd_readRepeat_77 rfl (lv_at hl 3 rfl) ?_
        refine f_getN Bx hP (by omega) h_mem272 rfl inEl 2 (by decide) kw_82 rfl rfl d_Rd_readRepeat_78 ?_
        refine lv_icmp_gt Bx.1 Bx.2.1 d_Rd_readRepeat_81 rfl (fun h8 => ?_) (fun h8 => ?_)
        · refine lv_iconst (v := 0) Bx.1 Bx.2.1 d_Rd_readRepeat_88 (by decide) ?_
          refine lv_iload_n Bx.1 Bx.2.1 d_Rd_readRepeat_89 rfl (lv_at hl 1 rfl) ?_
          refine f_xVv (na := 2) (As := [.int (0), .int (at1)]) (rest := []) Bx hml E hP hD hS (by omega) hh273 rfl (m_Rd_needReadable l hlt hn hT hRS277) kw_360 kw_362 sel_Rd_needReadable kw_6 kw_363 (by decide +kernel) ⟨rfl, rfl⟩ ⟨Nat.le_of_ble_eq_true rfl, Nat.le_of_ble_eq_true rfl⟩ rfl hl.1 (Nat.le_of_ble_eq_true rfl) d_Rd_readRepeat_90 ⟨Nat.le_of_ble_eq_true rfl, Nat.le_of_ble_eq_true rfl⟩ (fun X ce q9 memx H locs hx9 hP hS g1 g2 g3 => f_out hlocks hno hP hS g1 g2 g3 ⟨Nat.le_of_ble_eq_true rfl, Nat.le_of_ble_eq_true rfl⟩ hx9) (fun mem303 H locs hq hP hS => ?_)
          have hD : va_D (Az sz) (fw n ad mem303) := fw_D hD
          obtain ⟨hRS304, -, hg305⟩ := hq
          obtain ⟨at306, ft307, h9_308⟩ := hRS304.2.1
          have h1_309 : mem303 1 = .inr (0, [.ref (ad 2), .int (nI Z)]) := (hRS304.2.2 1 (by omega)).trans hT.1
          have h2_310 : mem303 2 = .inl (cy 0, 240, .inl f) := (hRS304.2.2 2 (by omega)).trans hT.2.2
          have h5_311 := hRS304.1.2.1
          have hbd317 := hRS304.1.1
          obtain ⟨S312, g313, hS_314, h220_315, h221_316⟩ := hRS304.1.2.2.2.2.2.2
          obtain ⟨k318, lo319, hi320, as321, pa322, ne323, he_324, ho_325⟩ := (hRS304.1.2.2.2.2.2.1 k (by omega)).1
          exact x_vret hx hb hlocks hr (hRS304) hP hS d_Rd_readRepeat_93
        · refine lv_iconst (v := 1) Bx.1 Bx.2.1 d_Rd_readRepeat_84 (by decide) ?_
          refine lv_goto Bx.1 Bx.2.1 d_Rd_readRepeat_85 rfl ?_
          refine lv_iload_n Bx.1 Bx.2.1 d_Rd_readRepeat_89 rfl (lv_at hl 1 rfl) ?_
          refine f_xVv (na := 2) (As := [.int (1), .int (at1)]) (rest := []) Bx hml E hP hD hS (by omega) hh273 rfl (m_Rd_needReadable l hlt hn hT hRS277) kw_360 kw_362 sel_Rd_needReadable kw_6 kw_363 (by decide +kernel) ⟨rfl, rfl⟩ ⟨Nat.le_of_ble_eq_true rfl, Nat.le_of_ble_eq_true rfl⟩ rfl hl.1 (Nat.le_of_ble_eq_true rfl) d_Rd_readRepeat_90 ⟨Nat.le_of_ble_eq_true rfl, Nat.le_of_ble_eq_true rfl⟩ (fun X ce q9 memx H locs hx9 hP hS g1 g2 g3 => f_out hlocks hno hP hS g1 g2 g3 ⟨Nat.le_of_ble_eq_true rfl, Nat.le_of_ble_eq_true rfl⟩ hx9) (fun mem327 H locs hq hP hS => ?_)
          have hD : va_D (Az sz) (fw n ad mem327) := fw_D hD
          obtain ⟨hRS328, -, hg329⟩ := hq
          obtain ⟨at330, ft331, h9_332⟩ := hRS328.2.1
          have h1_333 : mem327 1 = .inr (0, [.ref (ad 2), .int (nI Z)]) := (hRS328.2.2 1 (by omega)).trans hT.1
          have h2_334 : mem327 2 = .inl (cy 0, 240, .inl f) := (hRS328.2.2 2 (by omega)).trans hT.2.2
          have h5_335 := hRS328.1.2.1
          have hbd341 := hRS328.1.1
          obtain ⟨S336, g337, hS_338, h220_339, h221_340⟩ := hRS328.1.2.2.2.2.2.2
          obtain ⟨k342, lo343, hi344, as345, pa346, ne347, he_348, ho_349⟩ := (hRS328.1.2.2.2.2.2.1 k (by omega)).1
          exact x_vret hx hb hlocks hr (hRS328) hP hS d_Rd_readRepeat_93
set_option maxHeartbeats 4000000 in
set_option maxRecDepth 100000 in
theorem m_Rd_readNumber (l : Launch) {D : va_G} {cy : Nat → ClassId} {sz n : Nat} {ad : Nat → Nat} {mem : Nat → va_E} {Z : Nat} {f : Nat → Int32} {lim rc ec : Nat} {m0 : Nat → va_E} {st ba : Int32} (hlt : l.stackTraces = false) (hn : 224 ≤ n) (hT : TX cy ad Z f m0) (hRS : RS cy ad lim rc ec m0 mem) : NXi l D cy sz n ad y_Rd_readNumber c_Rd_readNumber 6 (some .int) ({ frames := 8, cells := 1, slots := 6, locals := 160 } : Room) mem [.ref (ad 222), .int (st), .int (ba)] (fun r mem' => RS cy ad lim rc ec m0 mem') (fun X mem' => (X = cIA ∨ X = cIS) ∧ ∃ rc' ec' : Nat, RS cy ad lim rc' ec' m0 mem') := by
  refine vx_ofW (cc := c_Rd_readNumber) (maxL := 6) (ret := (some .int)) (by decide) rfl ?_
  intro p e s m args below meth c s₁ B hml hno hv
  obtain ⟨rfl, E, hP, hD⟩ := hv
  have hx := B.exec
  have hb := B.bytes
  have hr := B.returns
  have hlocks := B.notSynchronized
  have Bx : MB p s m [.ref (ad 222), .int (st), .int (ba)].toArray c c_Rd_readNumber "AbnfChart$Reader" D cy := ⟨hx, hb, tb_all (atoms_spec B.pre) E.2.1, findClass_of_methodNamed B.named, E.1⟩
  have hS : va_S (Az sz) s.heap s.heap [] := va_S.rf
  have hl := lv_entry ([.ref (ad 222), .int (st), .int (ba)]) (n := 6) (Nat.le_of_ble_eq_true rfl)
  rw [lg_entry_eq]
  generalize (lg_sl ([.ref (ad 222), .int (st), .int (ba)]) ++ List.replicate (6 - (lg_sl ([.ref (ad 222), .int (st), .int (ba)])).length) Slot.unset).toArray = ls at hl ⊢
  have hl : lv_has ls 6 [(0, .ref (ad 222)), (1, .int (st)), (2, .int (ba))] := hl
  obtain ⟨at1, ft2, h9_3⟩ := hRS.2.1
  have h1_4 : mem 1 = .inr (0, [.ref (ad 2), .int (nI Z)]) := (hRS.2.2 1 (by omega)).trans hT.1
  have h2_5 : mem 2 = .inl (cy 0, 240, .inl f) := (hRS.2.2 2 (by omega)).trans hT.2.2
  have h5_6 := hRS.1.2.1
  have hbd12 := hRS.1.1
  obtain ⟨S7, g8, hS_9, h220_10, h221_11⟩ := hRS.1.2.2.2.2.2.2
  refine lv_iload_n Bx.1 Bx.2.1 d_Rd_readNumber_0 rfl (lv_at hl 2 rfl) ?_
  refine lv_bipush (v := 10) Bx.1 Bx.2.1 d_Rd_readNumber_1 (by decide) ?_
  refine lv_icmp_ne Bx.1 Bx.2.1 d_Rd_readNumber_3 rfl (fun h8 => ?_) (fun h8 => ?_)
  · refine lv_iconst (v := 2) Bx.1 Bx.2.1 d_Rd_readNumber_10 (by decide) ?_
    refine lv_istore_n (lv' := [(3, .int (2)), (0, .ref (ad 222)), (1, .int (st)), (2, .int (ba))]) Bx.1 Bx.2.1 d_Rd_readNumber_11 rfl hl (by decide) rfl (fun ls hl => ?_)
    refine lv_iconst (v := 0) Bx.1 Bx.2.1 d_Rd_readNumber_12 (by decide) ?_
    refine lv_istore (lv' := [(4, .int (0)), (3, .int (2)), (0, .ref (ad 222)), (1, .int (st)), (2, .int (ba))]) Bx.1 Bx.2.1 d_Rd_readNumber_13 hl (by decide) rfl (fun ls hl => ?_)
    refine lv_aload_n Bx.1 Bx.2.1 d_Rd_readNumber_15 rfl (lv_at hl 2 rfl) ?_
    refine lv_aload_n Bx.1 Bx.2.1 d_Rd_readNumber_16 rfl (lv_at hl 2 rfl) ?_
    refine f_callVi (na := 0) (As := []) (rest := [.ref (ad 222)]) Bx hml E hP hD hS (by omega) h9_3 rfl (m_Rd_peek l hn hT hRS) kw_353 kw_355 sel_Rd_peek kw_6 kw_356 (by decide +kernel) ⟨rfl, rfl⟩ ⟨Nat.le_of_ble_eq_true rfl, Nat.le_of_ble_eq_true rfl⟩ rfl hl.1 (Nat.le_of_ble_eq_true rfl) d_Rd_readNumber_17 ⟨Nat.le_of_ble_eq_true rfl, Nat.le_of_ble_eq_true rfl⟩ (fun r13 mem14 H locs hq hP hS => ?_)
    have hD : va_D (Az sz) (fw n ad mem14) := fw_D hD
    rw [hq] at hP hD
    refine lv_iload_n Bx.1 Bx.2.1 d_Rd_readNumber_20 rfl (lv_at hl 4 rfl) ?_
    refine f_callSi (na := 2) (As := [.int (r13), .int (ba)]) (rest := [.ref (ad 222)]) Bx hml E.2.1 (m_Rd_digitOf l (r13) (ba)) kw_475 kw_476 kw_6 kw_477 (by decide +kernel) ⟨rfl, rfl⟩ ⟨Nat.le_of_ble_eq_true rfl, Nat.le_of_ble_eq_true rfl⟩ rfl hl.1 (Nat.le_of_ble_eq_true rfl) d_Rd_readNumber_21 ⟨Nat.le_of_ble_eq_true rfl, Nat.le_of_ble_eq_true rfl⟩ (fun r16 hs15 => ?_)
    refine lv_iconst (v := -1) Bx.1 Bx.2.1 d_Rd_readNumber_24 (by decide) ?_
    refine lv_icmp_eq Bx.1 Bx.2.1 d_Rd_readNumber_25 rfl (fun h8 => ?_) (fun h8 => ?_)
    · refine lv_iconst (v := 0) Bx.1 Bx.2.1 d_Rd_readNumber_32 (by decide) ?_
      refine lv_aload_n Bx.1 Bx.2.1 d_Rd_readNumber_33 rfl (lv_at hl 2 rfl) ?_
      refine f_get Bx hP (by omega) h9_3 rfl inRd 2 (by decide) kw_146 rfl rfl d_Rd_readNumber_34 ?_
      refine f_xVv (na := 2) (As := [.int (0), .int (at1)]) (rest := []) Bx hml E hP hD hS (by omega) h9_3 rfl (m_Rd_needReadable l hlt hn hT hRS) kw_360 kw_362 sel_Rd_needReadable kw_6 kw_363 (by decide +kernel) ⟨rfl, rfl⟩ ⟨Nat.le_of_ble_eq_true rfl, Nat.le_of_ble_eq_true rfl⟩ rfl hl.1 (Nat.le_of_ble_eq_true rfl) d_Rd_readNumber_37 ⟨Nat.le_of_ble_eq_true rfl, Nat.le_of_ble_eq_true rfl⟩ (fun X ce q9 memx H locs hx9 hP hS g1 g2 g3 => f_out hlocks hno hP hS g1 g2 g3 ⟨Nat.le_of_ble_eq_true rfl, Nat.le_of_ble_eq_true rfl⟩ hx9) (fun mem18 H locs hq hP hS => ?_)
      have hD : va_D (Az sz) (fw n ad mem18) := fw_D hD
      obtain ⟨hRS19, -, hg20⟩ := hq
      obtain ⟨at21, ft22, h9_23⟩ := hRS19.2.1
      have h1_24 : mem18 1 = .inr (0, [.ref (ad 2), .int (nI Z)]) := (hRS19.2.2 1 (by omega)).trans hT.1
      have h2_25 : mem18 2 = .inl (cy 0, 240, .inl f) := (hRS19.2.2 2 (by omega)).trans hT.2.2
      have h5_26 := hRS19.1.2.1
      have hbd32 := hRS19.1.1
      obtain ⟨S27, g28, hS_29, h220_30, h221_31⟩ := hRS19.1.2.2.2.2.2.2
      refine lv_iconst (v := 0) Bx.1 Bx.2.1 d_Rd_readNumber_40 (by decide) ?_
      refine lv_istore (lv' := [(5, .int (0)), (4, .int (0)), (3, .int (2)), (0, .ref (ad 222)), (1, .int (st)), (2, .int (ba))]) Bx.1 Bx.2.1 d_Rd_readNumber_41 hl (by decide) rfl (fun ls hl => ?_)
      have loop33 : ∀ (d : Nat) (mem : Nat → va_E) (ls : Array Slot) (H : Heap) (locs : List Loc) (nu : Int32) (k : Int32), ((2 : Int32).toInt - (k).toInt).toNat < d → RS cy ad lim rc ec m0 mem → va_P D vcl (fw n ad mem) H → va_D (Az sz) (fw n ad mem) → va_S (Az sz) s.heap H locs → lv_has ls 6 [(5, .int (k)), (4, .int (nu)), (3, .int (2)), (0, .ref (ad 222)), (1, .int (st)), (2, .int (ba))] → W p l e (headSpec (Cond.code y_Rd_readNumber c_Rd_readNumber 6 (some .int) :: tg) ({ frames := 8, cells := 1, slots := 6, locals := 160 } : Room)).room s m [.ref (ad 222), .int (st), .int (ba)].toArray below meth c H locs 0 0 (vx_MQ below (QX (va_Qi (fun r mem' => RS cy ad lim rc ec m0 mem') (PP D n ad) (Az sz))) (XQ D sz n ad (fun X mem' => (X = cIA ∨ X = cIS) ∧ ∃ rc' ec' : Nat, RS cy ad lim rc' ec' m0 mem')) [.ref (ad 222), .int (st), .int (ba)].toArray s 1 6 (Az sz)) (F0 m 43 ls []) := by
        intro d
        induction d with
        | zero => intro mem ls H locs nu k hmeas; exact absurd hmeas (Nat.not_lt_zero _)
        | succ d ih =>
          intro mem ls H locs nu k hmeas hRS  hP hD hS hl
          have hbd := hRS.1.1
          obtain ⟨at34, ft35, h9_36⟩ := hRS.2.1
          have h1_37 : mem 1 = .inr (0, [.ref (ad 2), .int (nI Z)]) := (hRS.2.2 1 (by omega)).trans hT.1
          have h2_38 : mem 2 = .inl (cy 0, 240, .inl f) := (hRS.2.2 2 (by omega)).trans hT.2.2
          have h5_39 := hRS.1.2.1
          have hbd45 := hRS.1.1
          obtain ⟨S40, g41, hS_42, h220_43, h221_44⟩ := hRS.1.2.2.2.2.2.2
          refine lv_iload Bx.1 Bx.2.1 d_Rd_readNumber_43 (lv_at hl 0 rfl) ?_
          refine lv_iload_n Bx.1 Bx.2.1 d_Rd_readNumber_45 rfl (lv_at hl 2 rfl) ?_
          refine lv_icmp_ge Bx.1 Bx.2.1 d_Rd_readNumber_46 rfl (fun hk => ?_) (fun hk => ?_)
          · refine lv_aload_n Bx.1 Bx.2.1 d_Rd_readNumber_92 rfl (lv_at hl 3 rfl) ?_
            refine lv_iload Bx.1 Bx.2.1 d_Rd_readNumber_93 (lv_at hl 1 rfl) ?_
            refine lv_bipush (v := 127) Bx.1 Bx.2.1 d_Rd_readNumber_95 (by decide) ?_
            refine lv_icmp_gt Bx.1 Bx.2.1 d_Rd_readNumber_97 rfl (fun h8 => ?_) (fun h8 => ?_)
            · refine lv_iconst (v := 0) Bx.1 Bx.2.1 d_Rd_readNumber_104 (by decide) ?_
              refine lv_iload_n Bx.1 Bx.2.1 d_Rd_readNumber_105 rfl (lv_at hl 4 rfl) ?_
              refine f_xVv (na := 2) (As := [.int (0), .int (st)]) (rest := []) Bx hml E hP hD hS (by omega) h9_36 rfl (m_Rd_needReadable l hlt hn hT hRS) kw_360 kw_362 sel_Rd_needReadable kw_6 kw_363 (by decide +kernel) ⟨rfl, rfl⟩ ⟨Nat.le_of_ble_eq_true rfl, Nat.le_of_ble_eq_true rfl⟩ rfl hl.1 (Nat.le_of_ble_eq_true rfl) d_Rd_readNumber_106 ⟨Nat.le_of_ble_eq_true rfl, Nat.le_of_ble_eq_true rfl⟩ (fun X ce q9 memx H locs hx9 hP hS g1 g2 g3 => f_out hlocks hno hP hS g1 g2 g3 ⟨Nat.le_of_ble_eq_true rfl, Nat.le_of_ble_eq_true rfl⟩ hx9) (fun mem47 H locs hq hP hS => ?_)
              have hD : va_D (Az sz) (fw n ad mem47) := fw_D hD
              obtain ⟨hRS48, -, hg49⟩ := hq
              obtain ⟨at50, ft51, h9_52⟩ := hRS48.2.1
              have h1_53 : mem47 1 = .inr (0, [.ref (ad 2), .int (nI Z)]) := (hRS48.2.2 1 (by omega)).trans hT.1
              have h2_54 : mem47 2 = .inl (cy 0, 240, .inl f) := (hRS48.2.2 2 (by omega)).trans hT.2.2
              have h5_55 := hRS48.1.2.1
              have hbd61 := hRS48.1.1
              obtain ⟨S56, g57, hS_58, h220_59, h221_60⟩ := hRS48.1.2.2.2.2.2.2
              refine lv_iload Bx.1 Bx.2.1 d_Rd_readNumber_109 (lv_at hl 1 rfl) ?_
              exact x_iret hx hb hlocks hr (hRS48) hP hS d_Rd_readNumber_111
            · refine lv_iconst (v := 1) Bx.1 Bx.2.1 d_Rd_readNumber_100 (by decide) ?_
              refine lv_goto Bx.1 Bx.2.1 d_Rd_readNumber_101 rfl ?_
              refine lv_iload_n Bx.1 Bx.2.1 d_Rd_readNumber_105 rfl (lv_at hl 4 rfl) ?_
              refine f_xVv (na := 2) (As := [.int (1), .int (st)]) (rest := []) Bx hml E hP hD hS (by omega) h9_36 rfl (m_Rd_needReadable l hlt hn hT hRS) kw_360 kw_362 sel_Rd_needReadable kw_6 kw_363 (by decide +kernel) ⟨rfl, rfl⟩ ⟨Nat.le_of_ble_eq_true rfl, Nat.le_of_ble_eq_true rfl⟩ rfl hl.1 (Nat.le_of_ble_eq_true rfl) d_Rd_readNumber_106 ⟨Nat.le_of_ble_eq_true rfl, Nat.le_of_ble_eq_true rfl⟩ (fun X ce q9 memx H locs hx9 hP hS g1 g2 g3 => f_out hlocks hno hP hS g1 g2 g3 ⟨Nat.le_of_ble_eq_true rfl, Nat.le_of_ble_eq_true rfl⟩ hx9) (fun mem63 H locs hq hP hS => ?_)
              have hD : va_D (Az sz) (fw n ad mem63) := fw_D hD
              obtain ⟨hRS64, -, hg65⟩ := hq
              obtain ⟨at66, ft67, h9_68⟩ := hRS64.2.1
              have h1_69 : mem63 1 = .inr (0, [.ref (ad 2), .int (nI Z)]) := (hRS64.2.2 1 (by omega)).trans hT.1
              have h2_70 : mem63 2 = .inl (cy 0, 240, .inl f) := (hRS64.2.2 2 (by omega)).trans hT.2.2
              have h5_71 := hRS64.1.2.1
              have hbd77 := hRS64.1.1
              obtain ⟨S72, g73, hS_74, h220_75, h221_76⟩ := hRS64.1.2.2.2.2.2.2
              refine lv_iload Bx.1 Bx.2.1 d_Rd_readNumber_109 (lv_at hl 1 rfl) ?_
              exact x_iret hx hb hlocks hr (hRS64) hP hS d_Rd_readNumber_111
          · refine lv_aload_n Bx.1 Bx.2.1 d_Rd_readNumber_49 rfl (lv_at hl 3 rfl) ?_
            refine f_callVi (na := 0) (As := []) (rest := []) Bx hml E hP hD hS (by omega) h9_36 rfl (m_Rd_peek l hn hT hRS) kw_353 kw_355 sel_Rd_peek kw_6 kw_356 (by decide +kernel) ⟨rfl, rfl⟩ ⟨Nat.le_of_ble_eq_true rfl, Nat.le_of_ble_eq_true rfl⟩ rfl hl.1 (Nat.le_of_ble_eq_true rfl) d_Rd_readNumber_50 ⟨Nat.le_of_ble_eq_true rfl, Nat.le_of_ble_eq_true rfl⟩ (fun r78 mem79 H locs hq hP hS => ?_)
            have hD : va_D (Az sz) (fw n ad mem79) := fw_D hD
            rw [hq] at hP hD
            refine lv_iload_n Bx.1 Bx.2.1 d_Rd_readNumber_53 rfl (lv_at hl 5 rfl) ?_
            refine f_callSi (na := 2) (As := [.int (r78), .int (ba)]) (rest := []) Bx hml E.2.1 (m_Rd_digitOf l (r78) (ba)) kw_475 kw_476 kw_6 kw_477 (by decide +kernel) ⟨rfl, rfl⟩ ⟨Nat.le_of_ble_eq_true rfl, Nat.le_of_ble_eq_true rfl⟩ rfl hl.1 (Nat.le_of_ble_eq_true rfl) d_Rd_readNumber_54 ⟨Nat.le_of_ble_eq_true rfl, Nat.le_of_ble_eq_true rfl⟩ (fun r81 hs80 => ?_)
            refine lv_iconst (v := -1) Bx.1 Bx.2.1 d_Rd_readNumber_57 (by decide) ?_
            refine lv_icmp_eq Bx.1 Bx.2.1 d_Rd_readNumber_58 rfl (fun h8 => ?_) (fun h8 => ?_)
            · refine lv_aload_n Bx.1 Bx.2.1 d_Rd_readNumber_92 rfl (lv_at hl 3 rfl) ?_
              refine lv_iload Bx.1 Bx.2.1 d_Rd_readNumber_93 (lv_at hl 1 rfl) ?_
              refine lv_bipush (v := 127) Bx.1 Bx.2.1 d_Rd_readNumber_95 (by decide) ?_
              refine lv_icmp_gt Bx.1 Bx.2.1 d_Rd_readNumber_97 rfl (fun h8 => ?_) (fun h8 => ?_)
              · refine lv_iconst (v := 0) Bx.1 Bx.2.1 d_Rd_readNumber_104 (by decide) ?_
                refine lv_iload_n Bx.1 Bx.2.1 d_Rd_readNumber_105 rfl (lv_at hl 4 rfl) ?_
                refine f_xVv (na := 2) (As := [.int (0), .int (st)]) (rest := []) Bx hml E hP hD hS (by omega) h9_36 rfl (m_Rd_needReadable l hlt hn hT hRS) kw_360 kw_362 sel_Rd_needReadable kw_6 kw_363 (by decide +kernel) ⟨rfl, rfl⟩ ⟨Nat.le_of_ble_eq_true rfl, Nat.le_of_ble_eq_true rfl⟩ rfl hl.1 (Nat.le_of_ble_eq_true rfl) d_Rd_readNumber_106 ⟨Nat.le_of_ble_eq_true rfl, Nat.le_of_ble_eq_true rfl⟩ (fun X ce q9 memx H locs hx9 hP hS g1 g2 g3 => f_out hlocks hno hP hS g1 g2 g3 ⟨Nat.le_of_ble_eq_true rfl, Nat.le_of_ble_eq_true rfl⟩ hx9) (fun mem83 H locs hq hP hS => ?_)
                have hD : va_D (Az sz) (fw n ad mem83) := fw_D hD
                obtain ⟨hRS84, -, hg85⟩ := hq
                obtain ⟨at86, ft87, h9_88⟩ := hRS84.2.1
                have h1_89 : mem83 1 = .inr (0, [.ref (ad 2), .int (nI Z)]) := (hRS84.2.2 1 (by omega)).trans hT.1
                have h2_90 : mem83 2 = .inl (cy 0, 240, .inl f) := (hRS84.2.2 2 (by omega)).trans hT.2.2
                have h5_91 := hRS84.1.2.1
                have hbd97 := hRS84.1.1
                obtain ⟨S92, g93, hS_94, h220_95, h221_96⟩ := hRS84.1.2.2.2.2.2.2
                refine lv_iload Bx.1 Bx.2.1 d_Rd_readNumber_109 (lv_at hl 1 rfl) ?_
                exact x_iret hx hb hlocks hr (hRS84) hP hS d_Rd_readNumber_111
              · refine lv_iconst (v := 1) Bx.1 Bx.2.1 d_Rd_readNumber_100 (by decide) ?_
                refine lv_goto Bx.1 Bx.2.1 d_Rd_readNumber_101 rfl ?_
                refine lv_iload_n Bx.1 Bx.2.1 d_Rd_readNumber_105 rfl (lv_at hl 4 rfl) ?_
                refine f_xVv (na := 2) (As := [.int (1), .int (st)]) (rest := []) Bx hml E hP hD hS (by omega) h9_36 rfl (m_Rd_needReadable l hlt hn hT hRS) kw_360 kw_362 sel_Rd_needReadable kw_6 kw_363 (by decide +kernel) ⟨rfl, rfl⟩ ⟨Nat.le_of_ble_eq_true rfl, Nat.le_of_ble_eq_true rfl⟩ rfl hl.1 (Nat.le_of_ble_eq_true rfl) d_Rd_readNumber_106 ⟨Nat.le_of_ble_eq_true rfl, Nat.le_of_ble_eq_true rfl⟩ (fun X ce q9 memx H locs hx9 hP hS g1 g2 g3 => f_out hlocks hno hP hS g1 g2 g3 ⟨Nat.le_of_ble_eq_true rfl, Nat.le_of_ble_eq_true rfl⟩ hx9) (fun mem99 H locs hq hP hS => ?_)
                have hD : va_D (Az sz) (fw n ad mem99) := fw_D hD
                obtain ⟨hRS100, -, hg101⟩ := hq
                obtain ⟨at102, ft103, h9_104⟩ := hRS100.2.1
                have h1_105 : mem99 1 = .inr (0, [.ref (ad 2), .int (nI Z)]) := (hRS100.2.2 1 (by omega)).trans hT.1
                have h2_106 : mem99 2 = .inl (cy 0, 240, .inl f) := (hRS100.2.2 2 (by omega)).trans hT.2.2
                have h5_107 := hRS100.1.2.1
                have hbd113 := hRS100.1.1
                obtain ⟨S108, g109, hS_110, h220_111, h221_112⟩ := hRS100.1.2.2.2.2.2.2
                refine lv_iload Bx.1 Bx.2.1 d_Rd_readNumber_109 (lv_at hl 1 rfl) ?_
                exact x_iret hx hb hlocks hr (hRS100) hP hS d_Rd_readNumber_111
            · refine lv_iload Bx.1 Bx.2.1 d_Rd_readNumber_61 (lv_at hl 1 rfl) ?_
              refine lv_iload_n Bx.1 Bx.2.1 d_Rd_readNumber_63 rfl (lv_at hl 5 rfl) ?_
              refine lv_imul Bx.1 Bx.2.1 d_Rd_readNumber_64 ?_
              refine lv_aload_n Bx.1 Bx.2.1 d_Rd_readNumber_65 rfl (lv_at hl 3 rfl) ?_
              refine f_callVi (na := 0) (As := []) (rest := [.int (nu * ba)]) Bx hml E hP hD hS (by omega) h9_36 rfl (m_Rd_peek l hn hT hRS) kw_353 kw_355 sel_Rd_peek kw_6 kw_356 (by decide +kernel) ⟨rfl, rfl⟩ ⟨Nat.le_of_ble_eq_true rfl, Nat.le_of_ble_eq_true rfl⟩ rfl hl.1 (Nat.le_of_ble_eq_true rfl) d_Rd_readNumber_66 ⟨Nat.le_of_ble_eq_true rfl, Nat.le_of_ble_eq_true rfl⟩ (fun r114 mem115 H locs hq hP hS => ?_)
              have hD : va_D (Az sz) (fw n ad mem115) := fw_D hD
              rw [hq] at hP hD
              refine lv_iload_n Bx.1 Bx.2.1 d_Rd_readNumber_69 rfl (lv_at hl 5 rfl) ?_
              refine f_callSi (na := 2) (As := [.int (r114), .int (ba)]) (rest := [.int (nu * ba)]) Bx hml E.2.1 (m_Rd_digitOf l (r114) (ba)) kw_475 kw_476 kw_6 kw_477 (by decide +kernel) ⟨rfl, rfl⟩ ⟨Nat.le_of_ble_eq_true rfl, Nat.le_of_ble_eq_true rfl⟩ rfl hl.1 (Nat.le_of_ble_eq_true rfl) d_Rd_readNumber_70 ⟨Nat.le_of_ble_eq_true rfl, Nat.le_of_ble_eq_true rfl⟩ (fun r117 hs116 => ?_)
              refine lv_iadd Bx.1 Bx.2.1 d_Rd_readNumber_73 ?_
              refine lv_istore (lv' := [(4, .int (nu * ba + r117)), (5, .int (k)), (3, .int (2)), (0, .ref (ad 222)), (1, .int (st)), (2, .int (ba))]) Bx.1 Bx.2.1 d_Rd_readNumber_74 hl (by decide) rfl (fun ls hl => ?_)
              refine lv_aload_n Bx.1 Bx.2.1 d_Rd_readNumber_76 rfl (lv_at hl 3 rfl) ?_
              refine lv_dup Bx.1 Bx.2.1 d_Rd_readNumber_77 rfl ?_
              refine f_get Bx hP (by omega) h9_36 rfl inRd 2 (by decide) kw_146 rfl rfl d_Rd_readNumber_78 ?_
              refine lv_iconst (v := 1) Bx.1 Bx.2.1 d_Rd_readNumber_81 (by decide) ?_
              refine lv_iadd Bx.1 Bx.2.1 d_Rd_readNumber_82 ?_
              refine f_put Bx hP hD hS (by omega) h9_36 rfl inRd tyRd okRd nmRd 2 (by decide) kw_146 rfl rfl rfl rfl (Nat.le_of_ble_eq_true rfl) d_Rd_readNumber_83 (fun H locs hP hS => ?_)
              obtain ⟨mem118, e_mem118⟩ : ∃ z, z = va_up mem (222) (.inr (4, [.ref (ad 1), .ref (ad 5), .int (at34 + 1), .int (ft35)])) := ⟨_, rfl⟩
              have hP : va_P D vcl (fw n ad mem118) H := by rw [e_mem118]; exact hP
              have hD : va_D (Az sz) (fw n ad mem118) := fw_D hD
              have h_mem118 : mem118 (222) = .inr (4, [.ref (ad 1), .ref (ad 5), .int (at34 + 1), .int (ft35)]) := by rw [e_mem118, va_up_self]
              have hh119 := (va_up_ne mem (.inr (4, [.ref (ad 1), .ref (ad 5), .int (at34 + 1), .int (ft35)])) (show (1 : Nat) ≠ 222 by first | decide | assumption | omega)).trans h1_37
              rw [← e_mem118] at hh119
              have hh120 := (va_up_ne mem (.inr (4, [.ref (ad 1), .ref (ad 5), .int (at34 + 1), .int (ft35)])) (show (5 : Nat) ≠ 222 by first | decide | assumption | omega)).trans h5_39
              rw [← e_mem118] at hh120
              have hh121 := (va_up_ne mem (.inr (4, [.ref (ad 1), .ref (ad 5), .int (at34 + 1), .int (ft35)])) (show (220 : Nat) ≠ 222 by first | decide | assumption | omega)).trans h220_43
              rw [← e_mem118] at hh121
              have hRS122 : RS cy ad lim rc ec m0 mem118 := by rw [e_mem118]; exact hRS.at222
              refine lv_iinc (lv' := [(5, .int ((k + (1)))), (4, .int (nu * ba + r117)), (3, .int (2)), (0, .ref (ad 222)), (1, .int (st)), (2, .int (ba))]) Bx.1 Bx.2.1 d_Rd_readNumber_86 hl (k := 1) rfl rfl (by decide) rfl (fun ls hl => ?_)
              refine lv_goto Bx.1 Bx.2.1 d_Rd_readNumber_89 rfl ?_
              exact ih _ _ _ _ _ _ (by have := inc_meas hk; omega) hRS122  hP hD hS (lv_sub hl [0, 1, 2, 3, 4, 5] rfl)
      exact loop33 _ _ _ _ _ _ _ (Nat.lt_succ_self _) hRS19  hP hD hS (lv_sub hl [0, 1, 2, 3, 4, 5] rfl)
    · refine lv_iconst (v := 1) Bx.1 Bx.2.1 d_Rd_readNumber_28 (by decide) ?_
      refine lv_goto Bx.1 Bx.2.1 d_Rd_readNumber_29 rfl ?_
      refine lv_aload_n Bx.1 Bx.2.1 d_Rd_readNumber_33 rfl (lv_at hl 2 rfl) ?_
      refine f_get Bx hP (by omega) h9_3 rfl inRd 2 (by decide) kw_146 rfl rfl d_Rd_readNumber_34 ?_
      refine f_xVv (na := 2) (As := [.int (1), .int (at1)]) (rest := []) Bx hml E hP hD hS (by omega) h9_3 rfl (m_Rd_needReadable l hlt hn hT hRS) kw_360 kw_362 sel_Rd_needReadable kw_6 kw_363 (by decide +kernel) ⟨rfl, rfl⟩ ⟨Nat.le_of_ble_eq_true rfl, Nat.le_of_ble_eq_true rfl⟩ rfl hl.1 (Nat.le_of_ble_eq_true rfl) d_Rd_readNumber_37 ⟨Nat.le_of_ble_eq_true rfl, Nat.le_of_ble_eq_true rfl⟩ (fun X ce q9 memx H locs hx9 hP hS g1 g2 g3 => f_out hlocks hno hP hS g1 g2 g3 ⟨Nat.le_of_ble_eq_true rfl, Nat.le_of_ble_eq_true rfl⟩ hx9) (fun mem124 H locs hq hP hS => ?_)
      have hD : va_D (Az sz) (fw n ad mem124) := fw_D hD
      obtain ⟨hRS125, -, hg126⟩ := hq
      obtain ⟨at127, ft128, h9_129⟩ := hRS125.2.1
      have h1_130 : mem124 1 = .inr (0, [.ref (ad 2), .int (nI Z)]) := (hRS125.2.2 1 (by omega)).trans hT.1
      have h2_131 : mem124 2 = .inl (cy 0, 240, .inl f) := (hRS125.2.2 2 (by omega)).trans hT.2.2
      have h5_132 := hRS125.1.2.1
      have hbd138 := hRS125.1.1
      obtain ⟨S133, g134, hS_135, h220_136, h221_137⟩ := hRS125.1.2.2.2.2.2.2
      refine lv_iconst (v := 0) Bx.1 Bx.2.1 d_Rd_readNumber_40 (by decide) ?_
      refine lv_istore (lv' := [(5, .int (0)), (4, .int (0)), (3, .int (2)), (0, .ref (ad 222)), (1, .int (st)), (2, .int (ba))]) Bx.1 Bx.2.1 d_Rd_readNumber_41 hl (by decide) rfl (fun ls hl => ?_)
      have loop139 : ∀ (d : Nat) (mem : Nat → va_E) (ls : Array Slot) (H : Heap) (locs : List Loc) (nu : Int32) (k : Int32), ((2 : Int32).toInt - (k).toInt).toNat < d → RS cy ad lim rc ec m0 mem → va_P D vcl (fw n ad mem) H → va_D (Az sz) (fw n ad mem) → va_S (Az sz) s.heap H locs → lv_has ls 6 [(5, .int (k)), (4, .int (nu)), (3, .int (2)), (0, .ref (ad 222)), (1, .int (st)), (2, .int (ba))] → W p l e (headSpec (Cond.code y_Rd_readNumber c_Rd_readNumber 6 (some .int) :: tg) ({ frames := 8, cells := 1, slots := 6, locals := 160 } : Room)).room s m [.ref (ad 222), .int (st), .int (ba)].toArray below meth c H locs 0 0 (vx_MQ below (QX (va_Qi (fun r mem' => RS cy ad lim rc ec m0 mem') (PP D n ad) (Az sz))) (XQ D sz n ad (fun X mem' => (X = cIA ∨ X = cIS) ∧ ∃ rc' ec' : Nat, RS cy ad lim rc' ec' m0 mem')) [.ref (ad 222), .int (st), .int (ba)].toArray s 1 6 (Az sz)) (F0 m 43 ls []) := by
        intro d
        induction d with
        | zero => intro mem ls H locs nu k hmeas; exact absurd hmeas (Nat.not_lt_zero _)
        | succ d ih =>
          intro mem ls H locs nu k hmeas hRS  hP hD hS hl
          have hbd := hRS.1.1
          obtain ⟨at140, ft141, h9_142⟩ := hRS.2.1
          have h1_143 : mem 1 = .inr (0, [.ref (ad 2), .int (nI Z)]) := (hRS.2.2 1 (by omega)).trans hT.1
          have h2_144 : mem 2 = .inl (cy 0, 240, .inl f) := (hRS.2.2 2 (by omega)).trans hT.2.2
          have h5_145 := hRS.1.2.1
          have hbd151 := hRS.1.1
          obtain ⟨S146, g147, hS_148, h220_149, h221_150⟩ := hRS.1.2.2.2.2.2.2
          refine lv_iload Bx.1 Bx.2.1 d_Rd_readNumber_43 (lv_at hl 0 rfl) ?_
          refine lv_iload_n Bx.1 Bx.2.1 d_Rd_readNumber_45 rfl (lv_at hl 2 rfl) ?_
          refine lv_icmp_ge Bx.1 Bx.2.1 d_Rd_readNumber_46 rfl (fun hk => ?_) (fun hk => ?_)
          · refine lv_aload_n Bx.1 Bx.2.1 d_Rd_readNumber_92 rfl (lv_at hl 3 rfl) ?_
            refine lv_iload Bx.1 Bx.2.1 d_Rd_readNumber_93 (lv_at hl 1 rfl) ?_
            refine lv_bipush (v := 127) Bx.1 Bx.2.1 d_Rd_readNumber_95 (by decide) ?_
            refine lv_icmp_gt Bx.1 Bx.2.1 d_Rd_readNumber_97 rfl (fun h8 => ?_) (fun h8 => ?_)
            · refine lv_iconst (v := 0) Bx.1 Bx.2.1 d_Rd_readNumber_104 (by decide) ?_
              refine lv_iload_n Bx.1 Bx.2.1 d_Rd_readNumber_105 rfl (lv_at hl 4 rfl) ?_
              refine f_xVv (na := 2) (As := [.int (0), .int (st)]) (rest := []) Bx hml E hP hD hS (by omega) h9_142 rfl (m_Rd_needReadable l hlt hn hT hRS) kw_360 kw_362 sel_Rd_needReadable kw_6 kw_363 (by decide +kernel) ⟨rfl, rfl⟩ ⟨Nat.le_of_ble_eq_true rfl, Nat.le_of_ble_eq_true rfl⟩ rfl hl.1 (Nat.le_of_ble_eq_true rfl) d_Rd_readNumber_106 ⟨Nat.le_of_ble_eq_true rfl, Nat.le_of_ble_eq_true rfl⟩ (fun X ce q9 memx H locs hx9 hP hS g1 g2 g3 => f_out hlocks hno hP hS g1 g2 g3 ⟨Nat.le_of_ble_eq_true rfl, Nat.le_of_ble_eq_true rfl⟩ hx9) (fun mem153 H locs hq hP hS => ?_)
              have hD : va_D (Az sz) (fw n ad mem153) := fw_D hD
              obtain ⟨hRS154, -, hg155⟩ := hq
              obtain ⟨at156, ft157, h9_158⟩ := hRS154.2.1
              have h1_159 : mem153 1 = .inr (0, [.ref (ad 2), .int (nI Z)]) := (hRS154.2.2 1 (by omega)).trans hT.1
              have h2_160 : mem153 2 = .inl (cy 0, 240, .inl f) := (hRS154.2.2 2 (by omega)).trans hT.2.2
              have h5_161 := hRS154.1.2.1
              have hbd167 := hRS154.1.1
              obtain ⟨S162, g163, hS_164, h220_165, h221_166⟩ := hRS154.1.2.2.2.2.2.2
              refine lv_iload Bx.1 Bx.2.1 d_Rd_readNumber_109 (lv_at hl 1 rfl) ?_
              exact x_iret hx hb hlocks hr (hRS154) hP hS d_Rd_readNumber_111
            · refine lv_iconst (v := 1) Bx.1 Bx.2.1 d_Rd_readNumber_100 (by decide) ?_
              refine lv_goto Bx.1 Bx.2.1 d_Rd_readNumber_101 rfl ?_
              refine lv_iload_n Bx.1 Bx.2.1 d_Rd_readNumber_105 rfl (lv_at hl 4 rfl) ?_
              refine f_xVv (na := 2) (As := [.int (1), .int (st)]) (rest := []) Bx hml E hP hD hS (by omega) h9_142 rfl (m_Rd_needReadable l hlt hn hT hRS) kw_360 kw_362 sel_Rd_needReadable kw_6 kw_363 (by decide +kernel) ⟨rfl, rfl⟩ ⟨Nat.le_of_ble_eq_true rfl, Nat.le_of_ble_eq_true rfl⟩ rfl hl.1 (Nat.le_of_ble_eq_true rfl) d_Rd_readNumber_106 ⟨Nat.le_of_ble_eq_true rfl, Nat.le_of_ble_eq_true rfl⟩ (fun X ce q9 memx H locs hx9 hP hS g1 g2 g3 => f_out hlocks hno hP hS g1 g2 g3 ⟨Nat.le_of_ble_eq_true rfl, Nat.le_of_ble_eq_true rfl⟩ hx9) (fun mem169 H locs hq hP hS => ?_)
              have hD : va_D (Az sz) (fw n ad mem169) := fw_D hD
              obtain ⟨hRS170, -, hg171⟩ := hq
              obtain ⟨at172, ft173, h9_174⟩ := hRS170.2.1
              have h1_175 : mem169 1 = .inr (0, [.ref (ad 2), .int (nI Z)]) := (hRS170.2.2 1 (by omega)).trans hT.1
              have h2_176 : mem169 2 = .inl (cy 0, 240, .inl f) := (hRS170.2.2 2 (by omega)).trans hT.2.2
              have h5_177 := hRS170.1.2.1
              have hbd183 := hRS170.1.1
              obtain ⟨S178, g179, hS_180, h220_181, h221_182⟩ := hRS170.1.2.2.2.2.2.2
              refine lv_iload Bx.1 Bx.2.1 d_Rd_readNumber_109 (lv_at hl 1 rfl) ?_
              exact x_iret hx hb hlocks hr (hRS170) hP hS d_Rd_readNumber_111
          · refine lv_aload_n Bx.1 Bx.2.1 d_Rd_readNumber_49 rfl (lv_at hl 3 rfl) ?_
            refine f_callVi (na := 0) (As := []) (rest := []) Bx hml E hP hD hS (by omega) h9_142 rfl (m_Rd_peek l hn hT hRS) kw_353 kw_355 sel_Rd_peek kw_6 kw_356 (by decide +kernel) ⟨rfl, rfl⟩ ⟨Nat.le_of_ble_eq_true rfl, Nat.le_of_ble_eq_true rfl⟩ rfl hl.1 (Nat.le_of_ble_eq_true rfl) d_Rd_readNumber_50 ⟨Nat.le_of_ble_eq_true rfl, Nat.le_of_ble_eq_true rfl⟩ (fun r184 mem185 H locs hq hP hS => ?_)
            have hD : va_D (Az sz) (fw n ad mem185) := fw_D hD
            rw [hq] at hP hD
            refine lv_iload_n Bx.1 Bx.2.1 d_Rd_readNumber_53 rfl (lv_at hl 5 rfl) ?_
            refine f_callSi (na := 2) (As := [.int (r184), .int (ba)]) (rest := []) Bx hml E.2.1 (m_Rd_digitOf l (r184) (ba)) kw_475 kw_476 kw_6 kw_477 (by decide +kernel) ⟨rfl, rfl⟩ ⟨Nat.le_of_ble_eq_true rfl, Nat.le_of_ble_eq_true rfl⟩ rfl hl.1 (Nat.le_of_ble_eq_true rfl) d_Rd_readNumber_54 ⟨Nat.le_of_ble_eq_true rfl, Nat.le_of_ble_eq_true rfl⟩ (fun r187 hs186 => ?_)
            refine lv_iconst (v := -1) Bx.1 Bx.2.1 d_Rd_readNumber_57 (by decide) ?_
            refine lv_icmp_eq Bx.1 Bx.2.1 d_Rd_readNumber_58 rfl (fun h8 => ?_) (fun h8 => ?_)
            · refine lv_aload_n Bx.1 Bx.2.1 d_Rd_readNumber_92 rfl (lv_at hl 3 rfl) ?_
              refine lv_iload Bx.1 Bx.2.1 d_Rd_readNumber_93 (lv_at hl 1 rfl) ?_
              refine lv_bipush (v := 127) Bx.1 Bx.2.1 d_Rd_readNumber_95 (by decide) ?_
              refine lv_icmp_gt Bx.1 Bx.2.1 d_Rd_readNumber_97 rfl (fun h8 => ?_) (fun h8 => ?_)
              · refine lv_iconst (v := 0) Bx.1 Bx.2.1 d_Rd_readNumber_104 (by decide) ?_
                refine lv_iload_n Bx.1 Bx.2.1 d_Rd_readNumber_105 rfl (lv_at hl 4 rfl) ?_
                refine f_xVv (na := 2) (As := [.int (0), .int (st)]) (rest := []) Bx hml E hP hD hS (by omega) h9_142 rfl (m_Rd_needReadable l hlt hn hT hRS) kw_360 kw_362 sel_Rd_needReadable kw_6 kw_363 (by decide +kernel) ⟨rfl, rfl⟩ ⟨Nat.le_of_ble_eq_true rfl, Nat.le_of_ble_eq_true rfl⟩ rfl hl.1 (Nat.le_of_ble_eq_true rfl) d_Rd_readNumber_106 ⟨Nat.le_of_ble_eq_true rfl, Nat.le_of_ble_eq_true rfl⟩ (fun X ce q9 memx H locs hx9 hP hS g1 g2 g3 => f_out hlocks hno hP hS g1 g2 g3 ⟨Nat.le_of_ble_eq_true rfl, Nat.le_of_ble_eq_true rfl⟩ hx9) (fun mem189 H locs hq hP hS => ?_)
                have hD : va_D (Az sz) (fw n ad mem189) := fw_D hD
                obtain ⟨hRS190, -, hg191⟩ := hq
                obtain ⟨at192, ft193, h9_194⟩ := hRS190.2.1
                have h1_195 : mem189 1 = .inr (0, [.ref (ad 2), .int (nI Z)]) := (hRS190.2.2 1 (by omega)).trans hT.1
                have h2_196 : mem189 2 = .inl (cy 0, 240, .inl f) := (hRS190.2.2 2 (by omega)).trans hT.2.2
                have h5_197 := hRS190.1.2.1
                have hbd203 := hRS190.1.1
                obtain ⟨S198, g199, hS_200, h220_201, h221_202⟩ := hRS190.1.2.2.2.2.2.2
                refine lv_iload Bx.1 Bx.2.1 d_Rd_readNumber_109 (lv_at hl 1 rfl) ?_
                exact x_iret hx hb hlocks hr (hRS190) hP hS d_Rd_readNumber_111
              · refine lv_iconst (v := 1) Bx.1 Bx.2.1 d_Rd_readNumber_100 (by decide) ?_
                refine lv_goto Bx.1 Bx.2.1 d_Rd_readNumber_101 rfl ?_
                refine lv_iload_n Bx.1 Bx.2.1 d_Rd_readNumber_105 rfl (lv_at hl 4 rfl) ?_
                refine f_xVv (na := 2) (As := [.int (1), .int (st)]) (rest := []) Bx hml E hP hD hS (by omega) h9_142 rfl (m_Rd_needReadable l hlt hn hT hRS) kw_360 kw_362 sel_Rd_needReadable kw_6 kw_363 (by decide +kernel) ⟨rfl, rfl⟩ ⟨Nat.le_of_ble_eq_true rfl, Nat.le_of_ble_eq_true rfl⟩ rfl hl.1 (Nat.le_of_ble_eq_true rfl) d_Rd_readNumber_106 ⟨Nat.le_of_ble_eq_true rfl, Nat.le_of_ble_eq_true rfl⟩ (fun X ce q9 memx H locs hx9 hP hS g1 g2 g3 => f_out hlocks hno hP hS g1 g2 g3 ⟨Nat.le_of_ble_eq_true rfl, Nat.le_of_ble_eq_true rfl⟩ hx9) (fun mem205 H locs hq hP hS => ?_)
                have hD : va_D (Az sz) (fw n ad mem205) := fw_D hD
                obtain ⟨hRS206, -, hg207⟩ := hq
                obtain ⟨at208, ft209, h9_210⟩ := hRS206.2.1
                have h1_211 : mem205 1 = .inr (0, [.ref (ad 2), .int (nI Z)]) := (hRS206.2.2 1 (by omega)).trans hT.1
                have h2_212 : mem205 2 = .inl (cy 0, 240, .inl f) := (hRS206.2.2 2 (by omega)).trans hT.2.2
                have h5_213 := hRS206.1.2.1
                have hbd219 := hRS206.1.1
                obtain ⟨S214, g215, hS_216, h220_217, h221_218⟩ := hRS206.1.2.2.2.2.2.2
                refine lv_iload Bx.1 Bx.2.1 d_Rd_readNumber_109 (lv_at hl 1 rfl) ?_
                exact x_iret hx hb hlocks hr (hRS206) hP hS d_Rd_readNumber_111
            · refine lv_iload Bx.1 Bx.2.1 d_Rd_readNumber_61 (lv_at hl 1 rfl) ?_
              refine lv_iload_n Bx.1 Bx.2.1 d_Rd_readNumber_63 rfl (lv_at hl 5 rfl) ?_
              refine lv_imul Bx.1 Bx.2.1 d_Rd_readNumber_64 ?_
              refine lv_aload_n Bx.1 Bx.2.1 d_Rd_readNumber_65 rfl (lv_at hl 3 rfl) ?_
              refine f_callVi (na := 0) (As := []) (rest := [.int (nu * ba)]) Bx hml E hP hD hS (by omega) h9_142 rfl (m_Rd_peek l hn hT hRS) kw_353 kw_355 sel_Rd_peek kw_6 kw_356 (by decide +kernel) ⟨rfl, rfl⟩ ⟨Nat.le_of_ble_eq_true rfl, Nat.le_of_ble_eq_true rfl⟩ rfl hl.1 (Nat.le_of_ble_eq_true rfl) d_Rd_readNumber_66 ⟨Nat.le_of_ble_eq_true rfl, Nat.le_of_ble_eq_true rfl⟩ (fun r220 mem221 H locs hq hP hS => ?_)
              have hD : va_D (Az sz) (fw n ad mem221) := fw_D hD
              rw [hq] at hP hD
              refine lv_iload_n Bx.1 Bx.2.1 d_Rd_readNumber_69 rfl (lv_at hl 5 rfl) ?_
              refine f_callSi (na := 2) (As := [.int (r220), .int (ba)]) (rest := [.int (nu * ba)]) Bx hml E.2.1 (m_Rd_digitOf l (r220) (ba)) kw_475 kw_476 kw_6 kw_477 (by decide +kernel) ⟨rfl, rfl⟩ ⟨Nat.le_of_ble_eq_true rfl, Nat.le_of_ble_eq_true rfl⟩ rfl hl.1 (Nat.le_of_ble_eq_true rfl) d_Rd_readNumber_70 ⟨Nat.le_of_ble_eq_true rfl, Nat.le_of_ble_eq_true rfl⟩ (fun r223 hs222 => ?_)
              refine lv_iadd Bx.1 Bx.2.1 d_Rd_readNumber_73 ?_
              refine lv_istore (lv' := [(4, .int (nu * ba + r223)), (5, .int (k)), (3, .int (2)), (0, .ref (ad 222)), (1, .int (st)), (2, .int (ba))]) Bx.1 Bx.2.1 d_Rd_readNumber_74 hl (by decide) rfl (fun ls hl => ?_)
              refine lv_aload_n Bx.1 Bx.2.1 d_Rd_readNumber_76 rfl (lv_at hl 3 rfl) ?_
              refine lv_dup Bx.1 Bx.2.1 d_Rd_readNumber_77 rfl ?_
              refine f_get Bx hP (by omega) h9_142 rfl inRd 2 (by decide) kw_146 rfl rfl d_Rd_readNumber_78 ?_
              refine lv_iconst (v := 1) Bx.1 Bx.2.1 d_Rd_readNumber_81 (by decide) ?_
              refine lv_iadd Bx.1 Bx.2.1 d_Rd_readNumber_82 ?_
              refine f_put Bx hP hD hS (by omega) h9_142 rfl inRd tyRd okRd nmRd 2 (by decide) kw_146 rfl rfl rfl rfl (Nat.le_of_ble_eq_true rfl) d_Rd_readNumber_83 (fun H locs hP hS => ?_)
              obtain ⟨mem224, e_mem224⟩ : ∃ z, z = va_up mem (222) (.inr (4, [.ref (ad 1), .ref (ad 5), .int (at140 + 1), .int (ft141)])) := ⟨_, rfl⟩
              have hP : va_P D vcl (fw n ad mem224) H := by rw [e_mem224]; exact hP
              have hD : va_D (Az sz) (fw n ad mem224) := fw_D hD
              have h_mem224 : mem224 (222) = .inr (4, [.ref (ad 1), .ref (ad 5), .int (at140 + 1), .int (ft141)]) := by rw [e_mem224, va_up_self]
              have hh225 := (va_up_ne mem (.inr (4, [.ref (ad 1), .ref (ad 5), .int (at140 + 1), .int (ft141)])) (show (1 : Nat) ≠ 222 by first | decide | assumption | omega)).trans h1_143
              rw [← e_mem224] at hh225
              have hh226 := (va_up_ne mem (.inr (4, [.ref (ad 1), .ref (ad 5), .int (at140 + 1), .int (ft141)])) (show (5 : Nat) ≠ 222 by first | decide | assumption | omega)).trans h5_145
              rw [← e_mem224] at hh226
              have hh227 := (va_up_ne mem (.inr (4, [.ref (ad 1), .ref (ad 5), .int (at140 + 1), .int (ft141)])) (show (220 : Nat) ≠ 222 by first | decide | assumption | omega)).trans h220_149
              rw [← e_mem224] at hh227
              have hRS228 : RS cy ad lim rc ec m0 mem224 := by rw [e_mem224]; exact hRS.at222
              refine lv_iinc (lv' := [(5, .int ((k + (1)))), (4, .int (nu * ba + r223)), (3, .int (2)), (0, .ref (ad 222)), (1, .int (st)), (2, .int (ba))]) Bx.1 Bx.2.1 d_Rd_readNumber_86 hl (k := 1) rfl rfl (by decide) rfl (fun ls hl => ?_)
              refine lv_goto Bx.1 Bx.2.1 d_Rd_readNumber_89 rfl ?_
              exact ih _ _ _ _ _ _ (by have := inc_meas hk; omega) hRS228  hP hD hS (lv_sub hl [0, 1, 2, 3, 4, 5] rfl)
      exact loop139 _ _ _ _ _ _ _ (Nat.lt_succ_self _) hRS125  hP hD hS (lv_sub hl [0, 1, 2, 3, 4, 5] rfl)
  · refine lv_iconst (v := 3) Bx.1 Bx.2.1 d_Rd_readNumber_6 (by decide) ?_
    refine lv_goto Bx.1 Bx.2.1 d_Rd_readNumber_7 rfl ?_
    refine lv_istore_n (lv' := [(3, .int (3)), (0, .ref (ad 222)), (1, .int (st)), (2, .int (ba))]) Bx.1 Bx.2.1 d_Rd_readNumber_11 rfl hl (by decide) rfl (fun ls hl => ?_)
    refine lv_iconst (v := 0) Bx.1 Bx.2.1 d_Rd_readNumber_12 (by decide) ?_
    refine lv_istore (lv' := [(4, .int (0)), (3, .int (3)), (0, .ref (ad 222)), (1, .int (st)), (2, .int (ba))]) Bx.1 Bx.2.1 d_Rd_readNumber_13 hl (by decide) rfl (fun ls hl => ?_)
    refine lv_aload_n Bx.1 Bx.2.1 d_Rd_readNumber_15 rfl (lv_at hl 2 rfl) ?_
    refine lv_aload_n Bx.1 Bx.2.1 d_Rd_readNumber_16 rfl (lv_at hl 2 rfl) ?_
    refine f_callVi (na := 0) (As := []) (rest := [.ref (ad 222)]) Bx hml E hP hD hS (by omega) h9_3 rfl (m_Rd_peek l hn hT hRS) kw_353 kw_355 sel_Rd_peek kw_6 kw_356 (by decide +kernel) ⟨rfl, rfl⟩ ⟨Nat.le_of_ble_eq_true rfl, Nat.le_of_ble_eq_true rfl⟩ rfl hl.1 (Nat.le_of_ble_eq_true rfl) d_Rd_readNumber_17 ⟨Nat.le_of_ble_eq_true rfl, Nat.le_of_ble_eq_true rfl⟩ (fun r229 mem230 H locs hq hP hS => ?_)
    have hD : va_D (Az sz) (fw n ad mem230) := fw_D hD
    rw [hq] at hP hD
    refine lv_iload_n Bx.1 Bx.2.1 d_Rd_readNumber_20 rfl (lv_at hl 4 rfl) ?_
    refine f_callSi (na := 2) (As := [.int (r229), .int (ba)]) (rest := [.ref (ad 222)]) Bx hml E.2.1 (m_Rd_digitOf l (r229) (ba)) kw_475 kw_476 kw_6 kw_477 (by decide +kernel) ⟨rfl, rfl⟩ ⟨Nat.le_of_ble_eq_true rfl, Nat.le_of_ble_eq_true rfl⟩ rfl hl.1 (Nat.le_of_ble_eq_true rfl) d_Rd_readNumber_21 ⟨Nat.le_of_ble_eq_true rfl, Nat.le_of_ble_eq_true rfl⟩ (fun r232 hs231 => ?_)
    refine lv_iconst (v := -1) Bx.1 Bx.2.1 d_Rd_readNumber_24 (by decide) ?_
    refine lv_icmp_eq Bx.1 Bx.2.1 d_Rd_readNumber_25 rfl (fun h8 => ?_) (fun h8 => ?_)
    · refine lv_iconst (v := 0) Bx.1 Bx.2.1 d_Rd_readNumber_32 (by decide) ?_
      refine lv_aload_n Bx.1 Bx.2.1 d_Rd_readNumber_33 rfl (lv_at hl 2 rfl) ?_
      refine f_get Bx hP (by omega) h9_3 rfl inRd 2 (by decide) kw_146 rfl rfl d_Rd_readNumber_34 ?_
      refine f_xVv (na := 2) (As := [.int (0), .int (at1)]) (rest := []) Bx hml E hP hD hS (by omega) h9_3 rfl (m_Rd_needReadable l hlt hn hT hRS) kw_360 kw_362 sel_Rd_needReadable kw_6 kw_363 (by decide +kernel) ⟨rfl, rfl⟩ ⟨Nat.le_of_ble_eq_true rfl, Nat.le_of_ble_eq_true rfl⟩ rfl hl.1 (Nat.le_of_ble_eq_true rfl) d_Rd_readNumber_37 ⟨Nat.le_of_ble_eq_true rfl, Nat.le_of_ble_eq_true rfl⟩ (fun X ce q9 memx H locs hx9 hP hS g1 g2 g3 => f_out hlocks hno hP hS g1 g2 g3 ⟨Nat.le_of_ble_eq_true rfl, Nat.le_of_ble_eq_true rfl⟩ hx9) (fun mem234 H locs hq hP hS => ?_)
      have hD : va_D (Az sz) (fw n ad mem234) := fw_D hD
      obtain ⟨hRS235, -, hg236⟩ := hq
      obtain ⟨at237, ft238, h9_239⟩ := hRS235.2.1
      have h1_240 : mem234 1 = .inr (0, [.ref (ad 2), .int (nI Z)]) := (hRS235.2.2 1 (by omega)).trans hT.1
      have h2_241 : mem234 2 = .inl (cy 0, 240, .inl f) := (hRS235.2.2 2 (by omega)).trans hT.2.2
      have h5_242 := hRS235.1.2.1
      have hbd248 := hRS235.1.1
      obtain ⟨S243, g244, hS_245, h220_246, h221_247⟩ := hRS235.1.2.2.2.2.2.2
      refine lv_iconst (v := 0) Bx.1 Bx.2.1 d_Rd_readNumber_40 (by decide) ?_
      refine lv_istore (lv' := [(5, .int (0)), (4, .int (0)), (3, .int (3)), (0, .ref (ad 222)), (1, .int (st)), (2, .int (ba))]) Bx.1 Bx.2.1 d_Rd_readNumber_41 hl (by decide) rfl (fun ls hl => ?_)
      have loop249 : ∀ (d : Nat) (mem : Nat → va_E) (ls : Array Slot) (H : Heap) (locs : List Loc) (nu : Int32) (k : Int32), ((3 : Int32).toInt - (k).toInt).toNat < d → RS cy ad lim rc ec m0 mem → va_P D vcl (fw n ad mem) H → va_D (Az sz) (fw n ad mem) → va_S (Az sz) s.heap H locs → lv_has ls 6 [(5, .int (k)), (4, .int (nu)), (3, .int (3)), (0, .ref (ad 222)), (1, .int (st)), (2, .int (ba))] → W p l e (headSpec (Cond.code y_Rd_readNumber c_Rd_readNumber 6 (some .int) :: tg) ({ frames := 8, cells := 1, slots := 6, locals := 160 } : Room)).room s m [.ref (ad 222), .int (st), .int (ba)].toArray below meth c H locs 0 0 (vx_MQ below (QX (va_Qi (fun r mem' => RS cy ad lim rc ec m0 mem') (PP D n ad) (Az sz))) (XQ D sz n ad (fun X mem' => (X = cIA ∨ X = cIS) ∧ ∃ rc' ec' : Nat, RS cy ad lim rc' ec' m0 mem')) [.ref (ad 222), .int (st), .int (ba)].toArray s 1 6 (Az sz)) (F0 m 43 ls []) := by
        intro d
        induction d with
        | zero => intro mem ls H locs nu k hmeas; exact absurd hmeas (Nat.not_lt_zero _)
        | succ d ih =>
          intro mem ls H locs nu k hmeas hRS  hP hD hS hl
          have hbd := hRS.1.1
          obtain ⟨at250, ft251, h9_252⟩ := hRS.2.1
          have h1_253 : mem 1 = .inr (0, [.ref (ad 2), .int (nI Z)]) := (hRS.2.2 1 (by omega)).trans hT.1
          have h2_254 : mem 2 = .inl (cy 0, 240, .inl f) := (hRS.2.2 2 (by omega)).trans hT.2.2
          have h5_255 := hRS.1.2.1
          have hbd261 := hRS.1.1
          obtain ⟨S256, g257, hS_258, h220_259, h221_260⟩ := hRS.1.2.2.2.2.2.2
          refine lv_iload Bx.1 Bx.2.1 d_Rd_readNumber_43 (lv_at hl 0 rfl) ?_
          refine lv_iload_n Bx.1 Bx.2.1 d_Rd_readNumber_45 rfl (lv_at hl 2 rfl) ?_
          refine lv_icmp_ge Bx.1 Bx.2.1 d_Rd_readNumber_46 rfl (fun hk => ?_) (fun hk => ?_)
          · refine lv_aload_n Bx.1 Bx.2.1 d_Rd_readNumber_92 rfl (lv_at hl 3 rfl) ?_
            refine lv_iload Bx.1 Bx.2.1 d_Rd_readNumber_93 (lv_at hl 1 rfl) ?_
            refine lv_bipush (v := 127) Bx.1 Bx.2.1 d_Rd_readNumber_95 (by decide) ?_
            refine lv_icmp_gt Bx.1 Bx.2.1 d_Rd_readNumber_97 rfl (fun h8 => ?_) (fun h8 => ?_)
            · refine lv_iconst (v := 0) Bx.1 Bx.2.1 d_Rd_readNumber_104 (by decide) ?_
              refine lv_iload_n Bx.1 Bx.2.1 d_Rd_readNumber_105 rfl (lv_at hl 4 rfl) ?_
              refine f_xVv (na := 2) (As := [.int (0), .int (st)]) (rest := []) Bx hml E hP hD hS (by omega) h9_252 rfl (m_Rd_needReadable l hlt hn hT hRS) kw_360 kw_362 sel_Rd_needReadable kw_6 kw_363 (by decide +kernel) ⟨rfl, rfl⟩ ⟨Nat.le_of_ble_eq_true rfl, Nat.le_of_ble_eq_true rfl⟩ rfl hl.1 (Nat.le_of_ble_eq_true rfl) d_Rd_readNumber_106 ⟨Nat.le_of_ble_eq_true rfl, Nat.le_of_ble_eq_true rfl⟩ (fun X ce q9 memx H locs hx9 hP hS g1 g2 g3 => f_out hlocks hno hP hS g1 g2 g3 ⟨Nat.le_of_ble_eq_true rfl, Nat.le_of_ble_eq_true rfl⟩ hx9) (fun mem263 H locs hq hP hS => ?_)
              have hD : va_D (Az sz) (fw n ad mem263) := fw_D hD
              obtain ⟨hRS264, -, hg265⟩ := hq
              obtain ⟨at266, ft267, h9_268⟩ := hRS264.2.1
              have h1_269 : mem263 1 = .inr (0, [.ref (ad 2), .int (nI Z)]) := (hRS264.2.2 1 (by omega)).trans hT.1
              have h2_270 : mem263 2 = .inl (cy 0, 240, .inl f) := (hRS264.2.2 2 (by omega)).trans hT.2.2
              have h5_271 := hRS264.1.2.1
              have hbd277 := hRS264.1.1
              obtain ⟨S272, g273, hS_274, h220_275, h221_276⟩ := hRS264.1.2.2.2.2.2.2
              refine lv_iload Bx.1 Bx.2.1 d_Rd_readNumber_109 (lv_at hl 1 rfl) ?_
              exact x_iret hx hb hlocks hr (hRS264) hP hS d_Rd_readNumber_111
            · refine lv_iconst (v := 1) Bx.1 Bx.2.1 d_Rd_readNumber_100 (by decide) ?_
              refine lv_goto Bx.1 Bx.2.1 d_Rd_readNumber_101 rfl ?_
              refine lv_iload_n Bx.1 Bx.2.1 d_Rd_readNumber_105 rfl (lv_at hl 4 rfl) ?_
              refine f_xVv (na := 2) (As := [.int (1), .int (st)]) (rest := []) Bx hml E hP hD hS (by omega) h9_252 rfl (m_Rd_needReadable l hlt hn hT hRS) kw_360 kw_362 sel_Rd_needReadable kw_6 kw_363 (by decide +kernel) ⟨rfl, rfl⟩ ⟨Nat.le_of_ble_eq_true rfl, Nat.le_of_ble_eq_true rfl⟩ rfl hl.1 (Nat.le_of_ble_eq_true rfl) d_Rd_readNumber_106 ⟨Nat.le_of_ble_eq_true rfl, Nat.le_of_ble_eq_true rfl⟩ (fun X ce q9 memx H locs hx9 hP hS g1 g2 g3 => f_out hlocks hno hP hS g1 g2 g3 ⟨Nat.le_of_ble_eq_true rfl, Nat.le_of_ble_eq_true rfl⟩ hx9) (fun mem279 H locs hq hP hS => ?_)
              have hD : va_D (Az sz) (fw n ad mem279) := fw_D hD
              obtain ⟨hRS280, -, hg281⟩ := hq
              obtain ⟨at282, ft283, h9_284⟩ := hRS280.2.1
              have h1_285 : mem279 1 = .inr (0, [.ref (ad 2), .int (nI Z)]) := (hRS280.2.2 1 (by omega)).trans hT.1
              have h2_286 : mem279 2 = .inl (cy 0, 240, .inl f) := (hRS280.2.2 2 (by omega)).trans hT.2.2
              have h5_287 := hRS280.1.2.1
              have hbd293 := hRS280.1.1
              obtain ⟨S288, g289, hS_290, h220_291, h221_292⟩ := hRS280.1.2.2.2.2.2.2
              refine lv_iload Bx.1 Bx.2.1 d_Rd_readNumber_109 (lv_at hl 1 rfl) ?_
              exact x_iret hx hb hlocks hr (hRS280) hP hS d_Rd_readNumber_111
          · refine lv_aload_n Bx.1 Bx.2.1 d_Rd_readNumber_49 rfl (lv_at hl 3 rfl) ?_
            refine f_callVi (na := 0) (As := []) (rest := []) Bx hml E hP hD hS (by omega) h9_252 rfl (m_Rd_peek l hn hT hRS) kw_353 kw_355 sel_Rd_peek kw_6 kw_356 (by decide +kernel) ⟨rfl, rfl⟩ ⟨Nat.le_of_ble_eq_true rfl, Nat.le_of_ble_eq_true rfl⟩ rfl hl.1 (Nat.le_of_ble_eq_true rfl) d_Rd_readNumber_50 ⟨Nat.le_of_ble_eq_true rfl, Nat.le_of_ble_eq_true rfl⟩ (fun r294 mem295 H locs hq hP hS => ?_)
            have hD : va_D (Az sz) (fw n ad mem295) := fw_D hD
            rw [hq] at hP hD
            refine lv_iload_n Bx.1 Bx.2.1 d_Rd_readNumber_53 rfl (lv_at hl 5 rfl) ?_
            refine f_callSi (na := 2) (As := [.int (r294), .int (ba)]) (rest := []) Bx hml E.2.1 (m_Rd_digitOf l (r294) (ba)) kw_475 kw_476 kw_6 kw_477 (by decide +kernel) ⟨rfl, rfl⟩ ⟨Nat.le_of_ble_eq_true rfl, Nat.le_of_ble_eq_true rfl⟩ rfl hl.1 (Nat.le_of_ble_eq_true rfl) d_Rd_readNumber_54 ⟨Nat.le_of_ble_eq_true rfl, Nat.le_of_ble_eq_true rfl⟩ (fun r297 hs296 => ?_)
            refine lv_iconst (v := -1) Bx.1 Bx.2.1 d_Rd_readNumber_57 (by decide) ?_
            refine lv_icmp_eq Bx.1 Bx.2.1 d_Rd_readNumber_58 rfl (fun h8 => ?_) (fun h8 => ?_)
            · refine lv_aload_n Bx.1 Bx.2.1 d_Rd_readNumber_92 rfl (lv_at hl 3 rfl) ?_
              refine lv_iload Bx.1 Bx.2.1 d_Rd_readNumber_93 (lv_at hl 1 rfl) ?_
              refine lv_bipush (v := 127) Bx.1 Bx.2.1 d_Rd_readNumber_95 (by decide) ?_
              refine lv_icmp_gt Bx.1 Bx.2.1 d_Rd_readNumber_97 rfl (fun h8 => ?_) (fun h8 => ?_)
              · refine lv_iconst (v := 0) Bx.1 Bx.2.1 d_Rd_readNumber_104 (by decide) ?_
                refine lv_iload_n Bx.1 Bx.2.1 d_Rd_readNumber_105 rfl (lv_at hl 4 rfl) ?_
                refine f_xVv (na := 2) (As := [.int (0), .int (st)]) (rest := []) Bx hml E hP hD hS (by omega) h9_252 rfl (m_Rd_needReadable l hlt hn hT hRS) kw_360 kw_362 sel_Rd_needReadable kw_6 kw_363 (by decide +kernel) ⟨rfl, rfl⟩ ⟨Nat.le_of_ble_eq_true rfl, Nat.le_of_ble_eq_true rfl⟩ rfl hl.1 (Nat.le_of_ble_eq_true rfl) d_Rd_readNumber_106 ⟨Nat.le_of_ble_eq_true rfl, Nat.le_of_ble_eq_true rfl⟩ (fun X ce q9 memx H locs hx9 hP hS g1 g2 g3 => f_out hlocks hno hP hS g1 g2 g3 ⟨Nat.le_of_ble_eq_true rfl, Nat.le_of_ble_eq_true rfl⟩ hx9) (fun mem299 H locs hq hP hS => ?_)
                have hD : va_D (Az sz) (fw n ad mem299) := fw_D hD
                obtain ⟨hRS300, -, hg301⟩ := hq
                obtain ⟨at302, ft303, h9_304⟩ := hRS300.2.1
                have h1_305 : mem299 1 = .inr (0, [.ref (ad 2), .int (nI Z)]) := (hRS300.2.2 1 (by omega)).trans hT.1
                have h2_306 : mem299 2 = .inl (cy 0, 240, .inl f) := (hRS300.2.2 2 (by omega)).trans hT.2.2
                have h5_307 := hRS300.1.2.1
                have hbd313 := hRS300.1.1
                obtain ⟨S308, g309, hS_310, h220_311, h221_312⟩ := hRS300.1.2.2.2.2.2.2
                refine lv_iload Bx.1 Bx.2.1 d_Rd_readNumber_109 (lv_at hl 1 rfl) ?_
                exact x_iret hx hb hlocks hr (hRS300) hP hS d_Rd_readNumber_111
              · refine lv_iconst (v := 1) Bx.1 Bx.2.1 d_Rd_readNumber_100 (by decide) ?_
                refine lv_goto Bx.1 Bx.2.1 d_Rd_readNumber_101 rfl ?_
                refine lv_iload_n Bx.1 Bx.2.1 d_Rd_readNumber_105 rfl (lv_at hl 4 rfl) ?_
                refine f_xVv (na := 2) (As := [.int (1), .int (st)]) (rest := []) Bx hml E hP hD hS (by omega) h9_252 rfl (m_Rd_needReadable l hlt hn hT hRS) kw_360 kw_362 sel_Rd_needReadable kw_6 kw_363 (by decide +kernel) ⟨rfl, rfl⟩ ⟨Nat.le_of_ble_eq_true rfl, Nat.le_of_ble_eq_true rfl⟩ rfl hl.1 (Nat.le_of_ble_eq_true rfl) d_Rd_readNumber_106 ⟨Nat.le_of_ble_eq_true rfl, Nat.le_of_ble_eq_true rfl⟩ (fun X ce q9 memx H locs hx9 hP hS g1 g2 g3 => f_out hlocks hno hP hS g1 g2 g3 ⟨Nat.le_of_ble_eq_true rfl, Nat.le_of_ble_eq_true rfl⟩ hx9) (fun mem315 H locs hq hP hS => ?_)
                have hD : va_D (Az sz) (fw n ad mem315) := fw_D hD
                obtain ⟨hRS316, -, hg317⟩ := hq
                obtain ⟨at318, ft319, h9_320⟩ := hRS316.2.1
                have h1_321 : mem315 1 = .inr (0, [.ref (ad 2), .int (nI Z)]) := (hRS316.2.2 1 (by omega)).trans hT.1
                have h2_322 : mem315 2 = .inl (cy 0, 240, .inl f) := (hRS316.2.2 2 (by omega)).trans hT.2.2
                have h5_323 := hRS316.1.2.1
                have hbd329 := hRS316.1.1
                obtain ⟨S324, g325, hS_326, h220_327, h221_328⟩ := hRS316.1.2.2.2.2.2.2
                refine lv_iload Bx.1 Bx.2.1 d_Rd_readNumber_109 (lv_at hl 1 rfl) ?_
                exact x_iret hx hb hlocks hr (hRS316) hP hS d_Rd_readNumber_111
            · refine lv_iload Bx.1 Bx.2.1 d_Rd_readNumber_61 (lv_at hl 1 rfl) ?_
              refine lv_iload_n Bx.1 Bx.2.1 d_Rd_readNumber_63 rfl (lv_at hl 5 rfl) ?_
              refine lv_imul Bx.1 Bx.2.1 d_Rd_readNumber_64 ?_
              refine lv_aload_n Bx.1 Bx.2.1 d_Rd_readNumber_65 rfl (lv_at hl 3 rfl) ?_
              refine f_callVi (na := 0) (As := []) (rest := [.int (nu * ba)]) Bx hml E hP hD hS (by omega) h9_252 rfl (m_Rd_peek l hn hT hRS) kw_353 kw_355 sel_Rd_peek kw_6 kw_356 (by decide +kernel) ⟨rfl, rfl⟩ ⟨Nat.le_of_ble_eq_true rfl, Nat.le_of_ble_eq_true rfl⟩ rfl hl.1 (Nat.le_of_ble_eq_true rfl) d_Rd_readNumber_66 ⟨Nat.le_of_ble_eq_true rfl, Nat.le_of_ble_eq_true rfl⟩ (fun r330 mem331 H locs hq hP hS => ?_)
              have hD : va_D (Az sz) (fw n ad mem331) := fw_D hD
              rw [hq] at hP hD
              refine lv_iload_n Bx.1 Bx.2.1 d_Rd_readNumber_69 rfl (lv_at hl 5 rfl) ?_
              refine f_callSi (na := 2) (As := [.int (r330), .int (ba)]) (rest := [.int (nu * ba)]) Bx hml E.2.1 (m_Rd_digitOf l (r330) (ba)) kw_475 kw_476 kw_6 kw_477 (by decide +kernel) ⟨rfl, rfl⟩ ⟨Nat.le_of_ble_eq_true rfl, Nat.le_of_ble_eq_true rfl⟩ rfl hl.1 (Nat.le_of_ble_eq_true rfl) d_Rd_readNumber_70 ⟨Nat.le_of_ble_eq_true rfl, Nat.le_of_ble_eq_true rfl⟩ (fun r333 hs332 => ?_)
              refine lv_iadd Bx.1 Bx.2.1 d_Rd_readNumber_73 ?_
              refine lv_istore (lv' := [(4, .int (nu * ba + r333)), (5, .int (k)), (3, .int (3)), (0, .ref (ad 222)), (1, .int (st)), (2, .int (ba))]) Bx.1 Bx.2.1 d_Rd_readNumber_74 hl (by decide) rfl (fun ls hl => ?_)
              refine lv_aload_n Bx.1 Bx.2.1 d_Rd_readNumber_76 rfl (lv_at hl 3 rfl) ?_
              refine lv_dup Bx.1 Bx.2.1 d_Rd_readNumber_77 rfl ?_
              refine f_get Bx hP (by omega) h9_252 rfl inRd 2 (by decide) kw_146 rfl rfl d_Rd_readNumber_78 ?_
              refine lv_iconst (v := 1) Bx.1 Bx.2.1 d_Rd_readNumber_81 (by decide) ?_
              refine lv_iadd Bx.1 Bx.2.1 d_Rd_readNumber_82 ?_
              refine f_put Bx hP hD hS (by omega) h9_252 rfl inRd tyRd okRd nmRd 2 (by decide) kw_146 rfl rfl rfl rfl (Nat.le_of_ble_eq_true rfl) d_Rd_readNumber_83 (fun H locs hP hS => ?_)
              obtain ⟨mem334, e_mem334⟩ : ∃ z, z = va_up mem (222) (.inr (4, [.ref (ad 1), .ref (ad 5), .int (at250 + 1), .int (ft251)])) := ⟨_, rfl⟩
              have hP : va_P D vcl (fw n ad mem334) H := by rw [e_mem334]; exact hP
              have hD : va_D (Az sz) (fw n ad mem334) := fw_D hD
              have h_mem334 : mem334 (222) = .inr (4, [.ref (ad 1), .ref (ad 5), .int (at250 + 1), .int (ft251)]) := by rw [e_mem334, va_up_self]
              have hh335 := (va_up_ne mem (.inr (4, [.ref (ad 1), .ref (ad 5), .int (at250 + 1), .int (ft251)])) (show (1 : Nat) ≠ 222 by first | decide | assumption | omega)).trans h1_253
              rw [← e_mem334] at hh335
              have hh336 := (va_up_ne mem (.inr (4, [.ref (ad 1), .ref (ad 5), .int (at250 + 1), .int (ft251)])) (show (5 : Nat) ≠ 222 by first | decide | assumption | omega)).trans h5_255
              rw [← e_mem334] at hh336
              have hh337 := (va_up_ne mem (.inr (4, [.ref (ad 1), .ref (ad 5), .int (at250 + 1), .int (ft251)])) (show (220 : Nat) ≠ 222 by first | decide | assumption | omega)).trans h220_259
              rw [← e_mem334] at hh337
              have hRS338 : RS cy ad lim rc ec m0 mem334 := by rw [e_mem334]; exact hRS.at222
              refine lv_iinc (lv' := [(5, .int ((k + (1)))), (4, .int (nu * ba + r333)), (3, .int (3)), (0, .ref (ad 222)), (1, .int (st)), (2, .int (ba))]) Bx.1 Bx.2.1 d_Rd_readNumber_86 hl (k := 1) rfl rfl (by decide) rfl (fun ls hl => ?_)
              refine lv_goto Bx.1 Bx.2.1 d_Rd_readNumber_89 rfl ?_
              exact ih _ _ _ _ _ _ (by have := inc_meas hk; omega) hRS338  hP hD hS (lv_sub hl [0, 1, 2, 3, 4, 5] rfl)
      exact loop249 _ _ _ _ _ _ _ (Nat.lt_succ_self _) hRS235  hP hD hS (lv_sub hl [0, 1, 2, 3, 4, 5] rfl)
    · refine lv_iconst (v := 1) Bx.1 Bx.2.1 d_Rd_readNumber_28 (by decide) ?_
      refine lv_goto Bx.1 Bx.2.1 d_Rd_readNumber_29 rfl ?_
      refine lv_aload_n Bx.1 Bx.2.1 d_Rd_readNumber_33 rfl (lv_at hl 2 rfl) ?_
      refine f_get Bx hP (by omega) h9_3 rfl inRd 2 (by decide) kw_146 rfl rfl d_Rd_readNumber_34 ?_
      refine f_xVv (na := 2) (As := [.int (1), .int (at1)]) (rest := []) Bx hml E hP hD hS (by omega) h9_3 rfl (m_Rd_needReadable l hlt hn hT hRS) kw_360 kw_362 sel_Rd_needReadable kw_6 kw_363 (by decide +kernel) ⟨rfl, rfl⟩ ⟨Nat.le_of_ble_eq_true rfl, Nat.le_of_ble_eq_true rfl⟩ rfl hl.1 (Nat.le_of_ble_eq_true rfl) d_Rd_readNumber_37 ⟨Nat.le_of_ble_eq_true rfl, Nat.le_of_ble_eq_true rfl⟩ (fun X ce q9 memx H locs hx9 hP hS g1 g2 g3 => f_out hlocks hno hP hS g1 g2 g3 ⟨Nat.le_of_ble_eq_true rfl, Nat.le_of_ble_eq_true rfl⟩ hx9) (fun mem340 H locs hq hP hS => ?_)
      have hD : va_D (Az sz) (fw n ad mem340) := fw_D hD
      obtain ⟨hRS341, -, hg342⟩ := hq
      obtain ⟨at343, ft344, h9_345⟩ := hRS341.2.1
      have h1_346 : mem340 1 = .inr (0, [.ref (ad 2), .int (nI Z)]) := (hRS341.2.2 1 (by omega)).trans hT.1
      have h2_347 : mem340 2 = .inl (cy 0, 240, .inl f) := (hRS341.2.2 2 (by omega)).trans hT.2.2
      have h5_348 := hRS341.1.2.1
      have hbd354 := hRS341.1.1
      obtain ⟨S349, g350, hS_351, h220_352, h221_353⟩ := hRS341.1.2.2.2.2.2.2
      refine lv_iconst (v := 0) Bx.1 Bx.2.1 d_Rd_readNumber_40 (by decide) ?_
      refine lv_istore (lv' := [(5, .int (0)), (4, .int (0)), (3, .int (3)), (0, .ref (ad 222)), (1, .int (st)), (2, .int (ba))]) Bx.1 Bx.2.1 d_Rd_readNumber_41 hl (by decide) rfl (fun ls hl => ?_)
      have loop355 : ∀ (d : Nat) (mem : Nat → va_E) (ls : Array Slot) (H : Heap) (locs : List Loc) (nu : Int32) (k : Int32), ((3 : Int32).toInt - (k).toInt).toNat < d → RS cy ad lim rc ec m0 mem → va_P D vcl (fw n ad mem) H → va_D (Az sz) (fw n ad mem) → va_S (Az sz) s.heap H locs → lv_has ls 6 [(5, .int (k)), (4, .int (nu)), (3, .int (3)), (0, .ref (ad 222)), (1, .int (st)), (2, .int (ba))] → W p l e (headSpec (Cond.code y_Rd_readNumber c_Rd_readNumber 6 (some .int) :: tg) ({ frames := 8, cells := 1, slots := 6, locals := 160 } : Room)).room s m [.ref (ad 222), .int (st), .int (ba)].toArray below meth c H locs 0 0 (vx_MQ below (QX (va_Qi (fun r mem' => RS cy ad lim rc ec m0 mem') (PP D n ad) (Az sz))) (XQ D sz n ad (fun X mem' => (X = cIA ∨ X = cIS) ∧ ∃ rc' ec' : Nat, RS cy ad lim rc' ec' m0 mem')) [.ref (ad 222), .int (st), .int (ba)].toArray s 1 6 (Az sz)) (F0 m 43 ls []) := by
        intro d
        induction d with
        | zero => intro mem ls H locs nu k hmeas; exact absurd hmeas (Nat.not_lt_zero _)
        | succ d ih =>
          intro mem ls H locs nu k hmeas hRS  hP hD hS hl
          have hbd := hRS.1.1
          obtain ⟨at356, ft357, h9_358⟩ := hRS.2.1
          have h1_359 : mem 1 = .inr (0, [.ref (ad 2), .int (nI Z)]) := (hRS.2.2 1 (by omega)).trans hT.1
          have h2_360 : mem 2 = .inl (cy 0, 240, .inl f) := (hRS.2.2 2 (by omega)).trans hT.2.2
          have h5_361 := hRS.1.2.1
          have hbd367 := hRS.1.1
          obtain ⟨S362, g363, hS_364, h220_365, h221_366⟩ := hRS.1.2.2.2.2.2.2
          refine lv_iload Bx.1 Bx.2.1 d_Rd_readNumber_43 (lv_at hl 0 rfl) ?_
          refine lv_iload_n Bx.1 Bx.2.1 d_Rd_readNumber_45 rfl (lv_at hl 2 rfl) ?_
          refine lv_icmp_ge Bx.1 Bx.2.1 d_Rd_readNumber_46 rfl (fun hk => ?_) (fun hk => ?_)
          · refine lv_aload_n Bx.1 Bx.2.1 d_Rd_readNumber_92 rfl (lv_at hl 3 rfl) ?_
            refine lv_iload Bx.1 Bx.2.1 d_Rd_readNumber_93 (lv_at hl 1 rfl) ?_
            refine lv_bipush (v := 127) Bx.1 Bx.2.1 d_Rd_readNumber_95 (by decide) ?_
            refine lv_icmp_gt Bx.1 Bx.2.1 d_Rd_readNumber_97 rfl (fun h8 => ?_) (fun h8 => ?_)
            · refine lv_iconst (v := 0) Bx.1 Bx.2.1 d_Rd_readNumber_104 (by decide) ?_
              refine lv_iload_n Bx.1 Bx.2.1 d_Rd_readNumber_105 rfl (lv_at hl 4 rfl) ?_
              refine f_xVv (na := 2) (As := [.int (0), .int (st)]) (rest := []) Bx hml E hP hD hS (by omega) h9_358 rfl (m_Rd_needReadable l hlt hn hT hRS) kw_360 kw_362 sel_Rd_needReadable kw_6 kw_363 (by decide +kernel) ⟨rfl, rfl⟩ ⟨Nat.le_of_ble_eq_true rfl, Nat.le_of_ble_eq_true rfl⟩ rfl hl.1 (Nat.le_of_ble_eq_true rfl) d_Rd_readNumber_106 ⟨Nat.le_of_ble_eq_true rfl, Nat.le_of_ble_eq_true rfl⟩ (fun X ce q9 memx H locs hx9 hP hS g1 g2 g3 => f_out hlocks hno hP hS g1 g2 g3 ⟨Nat.le_of_ble_eq_true rfl, Nat.le_of_ble_eq_true rfl⟩ hx9) (fun mem369 H locs hq hP hS => ?_)
              have hD : va_D (Az sz) (fw n ad mem369) := fw_D hD
              obtain ⟨hRS370, -, hg371⟩ := hq
              obtain ⟨at372, ft373, h9_374⟩ := hRS370.2.1
              have h1_375 : mem369 1 = .inr (0, [.ref (ad 2), .int (nI Z)]) := (hRS370.2.2 1 (by omega)).trans hT.1
              have h2_376 : mem369 2 = .inl (cy 0, 240, .inl f) := (hRS370.2.2 2 (by omega)).trans hT.2.2
              have h5_377 := hRS370.1.2.1
              have hbd383 := hRS370.1.1
              obtain ⟨S378, g379, hS_380, h220_381, h221_382⟩ := hRS370.1.2.2.2.2.2.2
              refine lv_iload Bx.1 Bx.2.1 d_Rd_readNumber_109 (lv_at hl 1 rfl) ?_
              exact x_iret hx hb hlocks hr (hRS370) hP hS d_Rd_readNumber_111
            · refine lv_iconst (v := 1) Bx.1 Bx.2.1 d_Rd_readNumber_100 (by decide) ?_
              refine lv_goto Bx.1 Bx.2.1 d_Rd_readNumber_101 rfl ?_
              refine lv_iload_n Bx.1 Bx.2.1 d_Rd_readNumber_105 rfl (lv_at hl 4 rfl) ?_
              refine f_xVv (na := 2) (As := [.int (1), .int (st)]) (rest := []) Bx hml E hP hD hS (by omega) h9_358 rfl (m_Rd_needReadable l hlt hn hT hRS) kw_360 kw_362 sel_Rd_needReadable kw_6 kw_363 (by decide +kernel) ⟨rfl, rfl⟩ ⟨Nat.le_of_ble_eq_true rfl, Nat.le_of_ble_eq_true rfl⟩ rfl hl.1 (Nat.le_of_ble_eq_true rfl) d_Rd_readNumber_106 ⟨Nat.le_of_ble_eq_true rfl, Nat.le_of_ble_eq_true rfl⟩ (fun X ce q9 memx H locs hx9 hP hS g1 g2 g3 => f_out hlocks hno hP hS g1 g2 g3 ⟨Nat.le_of_ble_eq_true rfl, Nat.le_of_ble_eq_true rfl⟩ hx9) (fun mem385 H locs hq hP hS => ?_)
              have hD : va_D (Az sz) (fw n ad mem385) := fw_D hD
              obtain ⟨hRS386, -, hg387⟩ := hq
              obtain ⟨at388, ft389, h9_390⟩ := hRS386.2.1
              have h1_391 : mem385 1 = .inr (0, [.ref (ad 2), .int (nI Z)]) := (hRS386.2.2 1 (by omega)).trans hT.1
              have h2_392 : mem385 2 = .inl (cy 0, 240, .inl f) := (hRS386.2.2 2 (by omega)).trans hT.2.2
              have h5_393 := hRS386.1.2.1
              have hbd399 := hRS386.1.1
              obtain ⟨S394, g395, hS_396, h220_397, h221_398⟩ := hRS386.1.2.2.2.2.2.2
              refine lv_iload Bx.1 Bx.2.1 d_Rd_readNumber_109 (lv_at hl 1 rfl) ?_
              exact x_iret hx hb hlocks hr (hRS386) hP hS d_Rd_readNumber_111
          · refine lv_aload_n Bx.1 Bx.2.1 d_Rd_readNumber_49 rfl (lv_at hl 3 rfl) ?_
            refine f_callVi (na := 0) (As := []) (rest := []) Bx hml E hP hD hS (by omega) h9_358 rfl (m_Rd_peek l hn hT hRS) kw_353 kw_355 sel_Rd_peek kw_6 kw_356 (by decide +kernel) ⟨rfl, rfl⟩ ⟨Nat.le_of_ble_eq_true rfl, Nat.le_of_ble_eq_true rfl⟩ rfl hl.1 (Nat.le_of_ble_eq_true rfl) d_Rd_readNumber_50 ⟨Nat.le_of_ble_eq_true rfl, Nat.le_of_ble_eq_true rfl⟩ (fun r400 mem401 H locs hq hP hS => ?_)
            have hD : va_D (Az sz) (fw n ad mem401) := fw_D hD
            rw [hq] at hP hD
            refine lv_iload_n Bx.1 Bx.2.1 d_Rd_readNumber_53 rfl (lv_at hl 5 rfl) ?_
            refine f_callSi (na := 2) (As := [.int (r400), .int (ba)]) (rest := []) Bx hml E.2.1 (m_Rd_digitOf l (r400) (ba)) kw_475 kw_476 kw_6 kw_477 (by decide +kernel) ⟨rfl, rfl⟩ ⟨Nat.le_of_ble_eq_true rfl, Nat.le_of_ble_eq_true rfl⟩ rfl hl.1 (Nat.le_of_ble_eq_true rfl) d_Rd_readNumber_54 ⟨Nat.le_of_ble_eq_true rfl, Nat.le_of_ble_eq_true rfl⟩ (fun r403 hs402 => ?_)
            refine lv_iconst (v := -1) Bx.1 Bx.2.1 d_Rd_readNumber_57 (by decide) ?_
            refine lv_icmp_eq Bx.1 Bx.2.1 d_Rd_readNumber_58 rfl (fun h8 => ?_) (fun h8 => ?_)
            · refine lv_aload_n Bx.1 Bx.2.1 d_Rd_readNumber_92 rfl (lv_at hl 3 rfl) ?_
              refine lv_iload Bx.1 Bx.2.1 d_Rd_readNumber_93 (lv_at hl 1 rfl) ?_
              refine lv_bipush (v := 127) Bx.1 Bx.2.1 d_Rd_readNumber_95 (by decide) ?_
              refine lv_icmp_gt Bx.1 Bx.2.1 d_Rd_readNumber_97 rfl (fun h8 => ?_) (fun h8 => ?_)
              · refine lv_iconst (v := 0) Bx.1 Bx.2.1 d_Rd_readNumber_104 (by decide) ?_
                refine lv_iload_n Bx.1 Bx.2.1 d_Rd_readNumber_105 rfl (lv_at hl 4 rfl) ?_
                refine f_xVv (na := 2) (As := [.int (0), .int (st)]) (rest := []) Bx hml E hP hD hS (by omega) h9_358 rfl (m_Rd_needReadable l hlt hn hT hRS) kw_360 kw_362 sel_Rd_needReadable kw_6 kw_363 (by decide +kernel) ⟨rfl, rfl⟩ ⟨Nat.le_of_ble_eq_true rfl, Nat.le_of_ble_eq_true rfl⟩ rfl hl.1 (Nat.le_of_ble_eq_true rfl) d_Rd_readNumber_106 ⟨Nat.le_of_ble_eq_true rfl, Nat.le_of_ble_eq_true rfl⟩ (fun X ce q9 memx H locs hx9 hP hS g1 g2 g3 => f_out hlocks hno hP hS g1 g2 g3 ⟨Nat.le_of_ble_eq_true rfl, Nat.le_of_ble_eq_true rfl⟩ hx9) (fun mem405 H locs hq hP hS => ?_)
                have hD : va_D (Az sz) (fw n ad mem405) := fw_D hD
                obtain ⟨hRS406, -, hg407⟩ := hq
                obtain ⟨at408, ft409, h9_410⟩ := hRS406.2.1
                have h1_411 : mem405 1 = .inr (0, [.ref (ad 2), .int (nI Z)]) := (hRS406.2.2 1 (by omega)).trans hT.1
                have h2_412 : mem405 2 = .inl (cy 0, 240, .inl f) := (hRS406.2.2 2 (by omega)).trans hT.2.2
                have h5_413 := hRS406.1.2.1
                have hbd419 := hRS406.1.1
                obtain ⟨S414, g415, hS_416, h220_417, h221_418⟩ := hRS406.1.2.2.2.2.2.2
                refine lv_iload Bx.1 Bx.2.1 d_Rd_readNumber_109 (lv_at hl 1 rfl) ?_
                exact x_iret hx hb hlocks hr (hRS406) hP hS d_Rd_readNumber_111
              · refine lv_iconst (v := 1) Bx.1 Bx.2.1 d_Rd_readNumber_100 (by decide) ?_
                refine lv_goto Bx.1 Bx.2.1 d_Rd_readNumber_101 rfl ?_
                refine lv_iload_n Bx.1 Bx.2.1 d_Rd_readNumber_105 rfl (lv_at hl 4 rfl) ?_
                refine f_xVv (na := 2) (As := [.int (1), .int (st)]) (rest := []) Bx hml E hP hD hS (by omega) h9_358 rfl (m_Rd_needReadable l hlt hn hT hRS) kw_360 kw_362 sel_Rd_needReadable kw_6 kw_363 (by decide +kernel) ⟨rfl, rfl⟩ ⟨Nat.le_of_ble_eq_true rfl, Nat.le_of_ble_eq_true rfl⟩ rfl hl.1 (Nat.le_of_ble_eq_true rfl) d_Rd_readNumber_106 ⟨Nat.le_of_ble_eq_true rfl, Nat.le_of_ble_eq_true rfl⟩ (fun X ce q9 memx H locs hx9 hP hS g1 g2 g3 => f_out hlocks hno hP hS g1 g2 g3 ⟨Nat.le_of_ble_eq_true rfl, Nat.le_of_ble_eq_true rfl⟩ hx9) (fun mem421 H locs hq hP hS => ?_)
                have hD : va_D (Az sz) (fw n ad mem421) := fw_D hD
                obtain ⟨hRS422, -, hg423⟩ := hq
                obtain ⟨at424, ft425, h9_426⟩ := hRS422.2.1
                have h1_427 : mem421 1 = .inr (0, [.ref (ad 2), .int (nI Z)]) := (hRS422.2.2 1 (by omega)).trans hT.1
                have h2_428 : mem421 2 = .inl (cy 0, 240, .inl f) := (hRS422.2.2 2 (by omega)).trans hT.2.2
                have h5_429 := hRS422.1.2.1
                have hbd435 := hRS422.1.1
                obtain ⟨S430, g431, hS_432, h220_433, h221_434⟩ := hRS422.1.2.2.2.2.2.2
                refine lv_iload Bx.1 Bx.2.1 d_Rd_readNumber_109 (lv_at hl 1 rfl) ?_
                exact x_iret hx hb hlocks hr (hRS422) hP hS d_Rd_readNumber_111
            · refine lv_iload Bx.1 Bx.2.1 d_Rd_readNumber_61 (lv_at hl 1 rfl) ?_
              refine lv_iload_n Bx.1 Bx.2.1 d_Rd_readNumber_63 rfl (lv_at hl 5 rfl) ?_
              refine lv_imul Bx.1 Bx.2.1 d_Rd_readNumber_64 ?_
              refine lv_aload_n Bx.1 Bx.2.1 d_Rd_readNumber_65 rfl (lv_at hl 3 rfl) ?_
              refine f_callVi (na := 0) (As := []) (rest := [.int (nu * ba)]) Bx hml E hP hD hS (by omega) h9_358 rfl (m_Rd_peek l hn hT hRS) kw_353 kw_355 sel_Rd_peek kw_6 kw_356 (by decide +kernel) ⟨rfl, rfl⟩ ⟨Nat.le_of_ble_eq_true rfl, Nat.le_of_ble_eq_true rfl⟩ rfl hl.1 (Nat.le_of_ble_eq_true rfl) d_Rd_readNumber_66 ⟨Nat.le_of_ble_eq_true rfl, Nat.le_of_ble_eq_true rfl⟩ (fun r436 mem437 H locs hq hP hS => ?_)
              have hD : va_D (Az sz) (fw n ad mem437) := fw_D hD
              rw [hq] at hP hD
              refine lv_iload_n Bx.1 Bx.2.1 d_Rd_readNumber_69 rfl (lv_at hl 5 rfl) ?_
              refine f_callSi (na := 2) (As := [.int (r436), .int (ba)]) (rest := [.int (nu * ba)]) Bx hml E.2.1 (m_Rd_digitOf l (r436) (ba)) kw_475 kw_476 kw_6 kw_477 (by decide +kernel) ⟨rfl, rfl⟩ ⟨Nat.le_of_ble_eq_true rfl, Nat.le_of_ble_eq_true rfl⟩ rfl hl.1 (Nat.le_of_ble_eq_true rfl) d_Rd_readNumber_70 ⟨Nat.le_of_ble_eq_true rfl, Nat.le_of_ble_eq_true rfl⟩ (fun r439 hs438 => ?_)
              refine lv_iadd Bx.1 Bx.2.1 d_Rd_readNumber_73 ?_
              refine lv_istore (lv' := [(4, .int (nu * ba + r439)), (5, .int (k)), (3, .int (3)), (0, .ref (ad 222)), (1, .int (st)), (2, .int (ba))]) Bx.1 Bx.2.1 d_Rd_readNumber_74 hl (by decide) rfl (fun ls hl => ?_)
              refine lv_aload_n Bx.1 Bx.2.1 d_Rd_readNumber_76 rfl (lv_at hl 3 rfl) ?_
              refine lv_dup Bx.1 Bx.2.1 d_Rd_readNumber_77 rfl ?_
              refine f_get Bx hP (by omega) h9_358 rfl inRd 2 (by decide) kw_146 rfl rfl d_Rd_readNumber_78 ?_
              refine lv_iconst (v := 1) Bx.1 Bx.2.1 d_Rd_readNumber_81 (by decide) ?_
              refine lv_iadd Bx.1 Bx.2.1 d_Rd_readNumber_82 ?_
              refine f_put Bx hP hD hS (by omega) h9_358 rfl inRd tyRd okRd nmRd 2 (by decide) kw_146 rfl rfl rfl rfl (Nat.le_of_ble_eq_true rfl) d_Rd_readNumber_83 (fun H locs hP hS => ?_)
              obtain ⟨mem440, e_mem440⟩ : ∃ z, z = va_up mem (222) (.inr (4, [.ref (ad 1), .ref (ad 5), .int (at356 + 1), .int (ft357)])) := ⟨_, rfl⟩
              have hP : va_P D vcl (fw n ad mem440) H := by rw [e_mem440]; exact hP
              have hD : va_D (Az sz) (fw n ad mem440) := fw_D hD
              have h_mem440 : mem440 (222) = .inr (4, [.ref (ad 1), .ref (ad 5), .int (at356 + 1), .int (ft357)]) := by rw [e_mem440, va_up_self]
              have hh441 := (va_up_ne mem (.inr (4, [.ref (ad 1), .ref (ad 5), .int (at356 + 1), .int (ft357)])) (show (1 : Nat) ≠ 222 by first | decide | assumption | omega)).trans h1_359
              rw [← e_mem440] at hh441
              have hh442 := (va_up_ne mem (.inr (4, [.ref (ad 1), .ref (ad 5), .int (at356 + 1), .int (ft357)])) (show (5 : Nat) ≠ 222 by first | decide | assumption | omega)).trans h5_361
              rw [← e_mem440] at hh442
              have hh443 := (va_up_ne mem (.inr (4, [.ref (ad 1), .ref (ad 5), .int (at356 + 1), .int (ft357)])) (show (220 : Nat) ≠ 222 by first | decide | assumption | omega)).trans h220_365
              rw [← e_mem440] at hh443
              have hRS444 : RS cy ad lim rc ec m0 mem440 := by rw [e_mem440]; exact hRS.at222
              refine lv_iinc (lv' := [(5, .int ((k + (1)))), (4, .int (nu * ba + r439)), (3, .int (3)), (0, .ref (ad 222)), (1, .int (st)), (2, .int (ba))]) Bx.1 Bx.2.1 d_Rd_readNumber_86 hl (k := 1) rfl rfl (by decide) rfl (fun ls hl => ?_)
              refine lv_goto Bx.1 Bx.2.1 d_Rd_readNumber_89 rfl ?_
              exact ih _ _ _ _ _ _ (by have := inc_meas hk; omega) hRS444  hP hD hS (lv_sub hl [0, 1, 2, 3, 4, 5] rfl)
      exact loop355 _ _ _ _ _ _ _ (Nat.lt_succ_self _) hRS341  hP hD hS (lv_sub hl [0, 1, 2, 3, 4, 5] rfl)
set_option maxHeartbeats 4000000 in
set_option maxRecDepth 100000 in
theorem m_Rd_readString (l : Launch) {D : va_G} {cy : Nat → ClassId} {sz n : Nat} {ad : Nat → Nat} {mem : Nat → va_E} {Z : Nat} {f : Nat → Int32} {lim rc ec : Nat} {m0 : Nat → va_E} {st kd : Int32} (hlt : l.stackTraces = false) (hn : 224 ≤ n) (hT : TX cy ad Z f m0) (hRS : RS cy ad lim rc ec m0 mem) : NXr l D cy sz n ad y_Rd_readString c_Rd_readString 5 (some (.object "AbnfChart$Element")) ({ frames := 10, cells := 1, slots := 6, locals := 220 } : Room) mem [.ref (ad 222), .int (st), .int (kd)] (fun r mem' => ∃ k rc' ec' : Nat, r = ad (20 + 2 * k) ∧ ec ≤ k ∧ k < ec' ∧ rc ≤ rc' ∧ RS cy ad lim rc' ec' m0 mem') (fun X mem' => (X = cIA ∨ X = cIS) ∧ ∃ rc' ec' : Nat, RS cy ad lim rc' ec' m0 mem') := by
  refine vx_ofW (cc := c_Rd_readString) (maxL := 5) (ret := (some (.object "AbnfChart$Element"))) (by decide) rfl ?_
  intro p e s m args below meth c s₁ B hml hno hv
  obtain ⟨rfl, E, hP, hD⟩ := hv
  have hx := B.exec
  have hb := B.bytes
  have hr := B.returns
  have hlocks := B.notSynchronized
  have Bx : MB p s m [.ref (ad 222), .int (st), .int (kd)].toArray c c_Rd_readString "AbnfChart$Reader" D cy := ⟨hx, hb, tb_all (atoms_spec B.pre) E.2.1, findClass_of_methodNamed B.named, E.1⟩
  have hS : va_S (Az sz) s.heap s.heap [] := va_S.rf
  have hl := lv_entry ([.ref (ad 222), .int (st), .int (kd)]) (n := 5) (Nat.le_of_ble_eq_true rfl)
  rw [lg_entry_eq]
  generalize (lg_sl ([.ref (ad 222), .int (st), .int (kd)]) ++ List.replicate (5 - (lg_sl ([.ref (ad 222), .int (st), .int (kd)])).length) Slot.unset).toArray = ls at hl ⊢
  have hl : lv_has ls 5 [(0, .ref (ad 222)), (1, .int (st)), (2, .int (kd))] := hl
  obtain ⟨at1, ft2, h9_3⟩ := hRS.2.1
  have h1_4 : mem 1 = .inr (0, [.ref (ad 2), .int (nI Z)]) := (hRS.2.2 1 (by omega)).trans hT.1
  have h2_5 : mem 2 = .inl (cy 0, 240, .inl f) := (hRS.2.2 2 (by omega)).trans hT.2.2
  have h5_6 := hRS.1.2.1
  have hbd12 := hRS.1.1
  obtain ⟨S7, g8, hS_9, h220_10, h221_11⟩ := hRS.1.2.2.2.2.2.2
  refine lv_aload_n Bx.1 Bx.2.1 d_Rd_readString_0 rfl (lv_at hl 0 rfl) ?_
  refine lv_iload_n Bx.1 Bx.2.1 d_Rd_readString_1 rfl (lv_at hl 2 rfl) ?_
  refine lv_iload_n Bx.1 Bx.2.1 d_Rd_readString_2 rfl (lv_at hl 1 rfl) ?_
  refine f_xVr (na := 2) (As := [.int (kd), .int (st)]) (rest := []) Bx hml E hP hD hS (by omega) h9_3 rfl (m_Rd_addElement l hlt hn hT hRS) kw_419 kw_421 sel_Rd_addElement kw_6 kw_422 (by decide +kernel) ⟨rfl, rfl⟩ ⟨Nat.le_of_ble_eq_true rfl, Nat.le_of_ble_eq_true rfl⟩ rfl hl.1 (Nat.le_of_ble_eq_true rfl) d_Rd_readString_3 ⟨Nat.le_of_ble_eq_true rfl, Nat.le_of_ble_eq_true rfl⟩ (fun X ce q9 memx H locs hx9 hP hS g1 g2 g3 => f_out hlocks hno hP hS g1 g2 g3 ⟨Nat.le_of_ble_eq_true rfl, Nat.le_of_ble_eq_true rfl⟩ hx9) (fun r13 mem14 H locs hq hP hS => ?_)
  have hD : va_D (Az sz) (fw n ad mem14) := fw_D hD
  obtain ⟨hr917, hec16, hRS15⟩ := hq
  subst hr917
  obtain ⟨at18, ft19, h9_20⟩ := hRS15.2.1
  have h1_21 : mem14 1 = .inr (0, [.ref (ad 2), .int (nI Z)]) := (hRS15.2.2 1 (by omega)).trans hT.1
  have h2_22 : mem14 2 = .inl (cy 0, 240, .inl f) := (hRS15.2.2 2 (by omega)).trans hT.2.2
  have h5_23 := hRS15.1.2.1
  have hbd29 := hRS15.1.1
  obtain ⟨S24, g25, hS_26, h220_27, h221_28⟩ := hRS15.1.2.2.2.2.2.2
  obtain ⟨k30, lo31, hi32, as33, pa34, ne35, he_36, ho_37⟩ := (hRS15.1.2.2.2.2.2.1 ec (by omega)).1
  refine lv_astore_n (lv' := [(3, .ref (ad (20 + 2 * ec))), (0, .ref (ad 222)), (1, .int (st)), (2, .int (kd))]) Bx.1 Bx.2.1 d_Rd_readString_6 rfl hl (by decide) rfl (fun ls hl => ?_)
  refine lv_aload_n Bx.1 Bx.2.1 d_Rd_readString_7 rfl (lv_at hl 1 rfl) ?_
  refine lv_dup Bx.1 Bx.2.1 d_Rd_readString_8 rfl ?_
  refine f_get Bx hP (by omega) h9_20 rfl inRd 2 (by decide) kw_146 rfl rfl d_Rd_readString_9 ?_
  refine lv_iconst (v := 1) Bx.1 Bx.2.1 d_Rd_readString_12 (by decide) ?_
  refine lv_iadd Bx.1 Bx.2.1 d_Rd_readString_13 ?_
  refine f_put Bx hP hD hS (by omega) h9_20 rfl inRd tyRd okRd nmRd 2 (by decide) kw_146 rfl rfl rfl rfl (Nat.le_of_ble_eq_true rfl) d_Rd_readString_14 (fun H locs hP hS => ?_)
  obtain ⟨mem38, e_mem38⟩ : ∃ z, z = va_up mem14 (222) (.inr (4, [.ref (ad 1), .ref (ad 5), .int (at18 + 1), .int (ft19)])) := ⟨_, rfl⟩
  have hP : va_P D vcl (fw n ad mem38) H := by rw [e_mem38]; exact hP
  have hD : va_D (Az sz) (fw n ad mem38) := fw_D hD
  have h_mem38 : mem38 (222) = .inr (4, [.ref (ad 1), .ref (ad 5), .int (at18 + 1), .int (ft19)]) := by rw [e_mem38, va_up_self]
  have hh39 := (va_up_ne mem14 (.inr (4, [.ref (ad 1), .ref (ad 5), .int (at18 + 1), .int (ft19)])) (show (1 : Nat) ≠ 222 by first | decide | assumption | omega)).trans h1_21
  rw [← e_mem38] at hh39
  have hh40 := (va_up_ne mem14 (.inr (4, [.ref (ad 1), .ref (ad 5), .int (at18 + 1), .int (ft19)])) (show (5 : Nat) ≠ 222 by first | decide | assumption | omega)).trans h5_23
  rw [← e_mem38] at hh40
  have hh41 := (va_up_ne mem14 (.inr (4, [.ref (ad 1), .ref (ad 5), .int (at18 + 1), .int (ft19)])) (show (220 : Nat) ≠ 222 by first | decide | assumption | omega)).trans h220_27
  rw [← e_mem38] at hh41
  have hh42 := (va_up_ne mem14 (.inr (4, [.ref (ad 1), .ref (ad 5), .int (at18 + 1), .int (ft19)])) (show ((20 + 2 * ec) : Nat) ≠ 222 by first | decide | assumption | omega)).trans he_36
  rw [← e_mem38] at hh42
  have hRS43 : RS cy ad lim rc (ec + 1) m0 mem38 := by rw [e_mem38]; exact hRS15.at222
  refine lv_aload_n Bx.1 Bx.2.1 d_Rd_readString_17 rfl (lv_at hl 0 rfl) ?_
  refine lv_aload_n Bx.1 Bx.2.1 d_Rd_readString_18 rfl (lv_at hl 1 rfl) ?_
  refine f_get Bx hP (by omega) h_mem38 rfl inRd 1 (by decide) kw_145 rfl rfl d_Rd_readString_19 ?_
  refine f_getN Bx hP (by omega) hh40 rfl inGr 2 (by decide) kw_120 rfl rfl d_Rd_readString_22 ?_
  refine f_getN Bx hP (by omega) hh41 rfl inCh 1 (by decide) kw_33 rfl rfl d_Rd_readString_25 ?_
  refine f_putN Bx hP hD hS (by omega) hh42 rfl inEl tyEl okEl nmEl 1 (by decide) kw_79 rfl rfl rfl rfl (Nat.le_of_ble_eq_true rfl) d_Rd_readString_28 (fun H locs hP hS => ?_)
  obtain ⟨mem44, e_mem44⟩ : ∃ z, z = va_up mem38 ((20 + 2 * ec)) (.inr (2, [.int (k30), .int (nI S24), .int (hi32), as33, pa34, ne35, .ref (ad (21 + 2 * ec))])) := ⟨_, rfl⟩
  have hP : va_P D vcl (fw n ad mem44) H := by rw [e_mem44]; exact hP
  have hD : va_D (Az sz) (fw n ad mem44) := fw_D hD
  have h_mem44 : mem44 ((20 + 2 * ec)) = .inr (2, [.int (k30), .int (nI S24), .int (hi32), as33, pa34, ne35, .ref (ad (21 + 2 * ec))]) := by rw [e_mem44, va_up_self]
  have hh45 := (va_up_ne mem38 (.inr (2, [.int (k30), .int (nI S24), .int (hi32), as33, pa34, ne35, .ref (ad (21 + 2 * ec))])) (show (222 : Nat) ≠ (20 + 2 * ec) by first | decide | assumption | omega)).trans h_mem38
  rw [← e_mem44] at hh45
  have hh46 := (va_up_ne mem38 (.inr (2, [.int (k30), .int (nI S24), .int (hi32), as33, pa34, ne35, .ref (ad (21 + 2 * ec))])) (show (1 : Nat) ≠ (20 + 2 * ec) by first | decide | assumption | omega)).trans hh39
  rw [← e_mem44] at hh46
  have hh47 := (va_up_ne mem38 (.inr (2, [.int (k30), .int (nI S24), .int (hi32), as33, pa34, ne35, .ref (ad (21 + 2 * ec))])) (show (5 : Nat) ≠ (20 + 2 * ec) by first | decide | assumption | omega)).trans hh40
  rw [← e_mem44] at hh47
  have hh48 := (va_up_ne mem38 (.inr (2, [.int (k30), .int (nI S24), .int (hi32), as33, pa34, ne35, .ref (ad (21 + 2 * ec))])) (show (220 : Nat) ≠ (20 + 2 * ec) by first | decide | assumption | omega)).trans hh41
  rw [← e_mem44] at hh48
  have hRS49 : RS cy ad lim rc (ec + 1) m0 mem44 := by rw [e_mem44]; exact hRS43.mk (by omega) (hRS43.1.upEl (by omega) ho_37)
  refine lv_iconst (v := 0) Bx.1 Bx.2.1 d_Rd_readString_31 (by decide) ?_
  refine lv_istore (lv' := [(4, .int (0)), (3, .ref (ad (20 + 2 * ec))), (0, .ref (ad 222)), (1, .int (st)), (2, .int (kd))]) Bx.1 Bx.2.1 d_Rd_readString_32 hl (by decide) rfl (fun ls hl => ?_)
  have loop50 : ∀ (d : Nat) (mem : Nat → va_E) (ls : Array Slot) (H : Heap) (locs : List Loc) (k9 : Int32), ((12 : Int32).toInt - (k9).toInt).toNat < d → RS cy ad lim rc (ec + 1) m0 mem → va_P D vcl (fw n ad mem) H → va_D (Az sz) (fw n ad mem) → va_S (Az sz) s.heap H locs → lv_has ls 5 [(4, .int (k9)), (3, .ref (ad (20 + 2 * ec))), (0, .ref (ad 222)), (1, .int (st)), (2, .int (kd))] → W p l e (headSpec (Cond.code y_Rd_readString c_Rd_readString 5 (some (.object "AbnfChart$Element")) :: tg) ({ frames := 10, cells := 1, slots := 6, locals := 220 } : Room)).room s m [.ref (ad 222), .int (st), .int (kd)].toArray below meth c H locs 0 0 (vx_MQ below (QX (QR (fun r mem' => ∃ k rc' ec' : Nat, r = ad (20 + 2 * k) ∧ ec ≤ k ∧ k < ec' ∧ rc ≤ rc' ∧ RS cy ad lim rc' ec' m0 mem') (PP D n ad) (Az sz))) (XQ D sz n ad (fun X mem' => (X = cIA ∨ X = cIS) ∧ ∃ rc' ec' : Nat, RS cy ad lim rc' ec' m0 mem')) [.ref (ad 222), .int (st), .int (kd)].toArray s 1 6 (Az sz)) (F0 m 34 ls []) := by
    intro d
    induction d with
    | zero => intro mem ls H locs k9 hmeas; exact absurd hmeas (Nat.not_lt_zero _)
    | succ d ih =>
      intro mem ls H locs k9 hmeas hRS  hP hD hS hl
      have hbd := hRS.1.1
      obtain ⟨at51, ft52, h9_53⟩ := hRS.2.1
      have h1_54 : mem 1 = .inr (0, [.ref (ad 2), .int (nI Z)]) := (hRS.2.2 1 (by omega)).trans hT.1
      have h2_55 : mem 2 = .inl (cy 0, 240, .inl f) := (hRS.2.2 2 (by omega)).trans hT.2.2
      have h5_56 := hRS.1.2.1
      have hbd62 := hRS.1.1
      obtain ⟨S57, g58, hS_59, h220_60, h221_61⟩ := hRS.1.2.2.2.2.2.2
      obtain ⟨k63, lo64, hi65, as66, pa67, ne68, he_69, ho_70⟩ := (hRS.1.2.2.2.2.2.1 ec (by omega)).1
      refine lv_iload Bx.1 Bx.2.1 d_Rd_readString_34 (lv_at hl 0 rfl) ?_
      refine lv_bipush (v := 12) Bx.1 Bx.2.1 d_Rd_readString_36 (by decide) ?_
      refine lv_icmp_ge Bx.1 Bx.2.1 d_Rd_readString_38 rfl (fun hk => ?_) (fun hk => ?_)
      · refine lv_aload_n Bx.1 Bx.2.1 d_Rd_readString_81 rfl (lv_at hl 1 rfl) ?_
        refine lv_aload_n Bx.1 Bx.2.1 d_Rd_readString_82 rfl (lv_at hl 2 rfl) ?_
        refine f_get Bx hP (by omega) h9_53 rfl inRd 1 (by decide) kw_145 rfl rfl d_Rd_readString_83 ?_
        refine f_getN Bx hP (by omega) h5_56 rfl inGr 2 (by decide) kw_120 rfl rfl d_Rd_readString_86 ?_
        refine f_getN Bx hP (by omega) h220_60 rfl inCh 1 (by decide) kw_33 rfl rfl d_Rd_readString_89 ?_
        refine f_putN Bx hP hD hS (by omega) he_69 rfl inEl tyEl okEl nmEl 2 (by decide) kw_82 rfl rfl rfl rfl (Nat.le_of_ble_eq_true rfl) d_Rd_readString_92 (fun H locs hP hS => ?_)
        obtain ⟨mem71, e_mem71⟩ : ∃ z, z = va_up mem ((20 + 2 * ec)) (.inr (2, [.int (k63), .int (lo64), .int (nI S57), as66, pa67, ne68, .ref (ad (21 + 2 * ec))])) := ⟨_, rfl⟩
        have hP : va_P D vcl (fw n ad mem71) H := by rw [e_mem71]; exact hP
        have hD : va_D (Az sz) (fw n ad mem71) := fw_D hD
        have h_mem71 : mem71 ((20 + 2 * ec)) = .inr (2, [.int (k63), .int (lo64), .int (nI S57), as66, pa67, ne68, .ref (ad (21 + 2 * ec))]) := by rw [e_mem71, va_up_self]
        have hh72 := (va_up_ne mem (.inr (2, [.int (k63), .int (lo64), .int (nI S57), as66, pa67, ne68, .ref (ad (21 + 2 * ec))])) (show (222 : Nat) ≠ (20 + 2 * ec) by first | decide | assumption | omega)).trans h9_53
        rw [← e_mem71] at hh72
        have hh73 := (va_up_ne mem (.inr (2, [.int (k63), .int (lo64), .int (nI S57), as66, pa67, ne68, .ref (ad (21 + 2 * ec))])) (show (1 : Nat) ≠ (20 + 2 * ec) by first | decide | assumption | omega)).trans h1_54
        rw [← e_mem71] at hh73
        have hh74 := (va_up_ne mem (.inr (2, [.int (k63), .int (lo64), .int (nI S57), as66, pa67, ne68, .ref (ad (21 + 2 * ec))])) (show (5 : Nat) ≠ (20 + 2 * ec) by first | decide | assumption | omega)).trans h5_56
        rw [← e_mem71] at hh74
        have hh75 := (va_up_ne mem (.inr (2, [.int (k63), .int (lo64), .int (nI S57), as66, pa67, ne68, .ref (ad (21 + 2 * ec))])) (show (220 : Nat) ≠ (20 + 2 * ec) by first | decide | assumption | omega)).trans h220_60
        rw [← e_mem71] at hh75
        have hRS76 : RS cy ad lim rc (ec + 1) m0 mem71 := by rw [e_mem71]; exact hRS.mk (by omega) (hRS.1.upEl (by omega) ho_70)
        refine lv_aload_n Bx.1 Bx.2.1 d_Rd_readString_95 rfl (lv_at hl 2 rfl) ?_
        refine lv_aload_n Bx.1 Bx.2.1 d_Rd_readString_96 rfl (lv_at hl 2 rfl) ?_
        refine f_callVi (na := 0) (As := []) (rest := [.ref (ad 222)]) Bx hml E hP hD hS (by omega) hh72 rfl (m_Rd_peek l hn hT hRS76) kw_353 kw_355 sel_Rd_peek kw_6 kw_356 (by decide +kernel) ⟨rfl, rfl⟩ ⟨Nat.le_of_ble_eq_true rfl, Nat.le_of_ble_eq_true rfl⟩ rfl hl.1 (Nat.le_of_ble_eq_true rfl) d_Rd_readString_97 ⟨Nat.le_of_ble_eq_true rfl, Nat.le_of_ble_eq_true rfl⟩ (fun r77 mem78 H locs hq hP hS => ?_)
        have hD : va_D (Az sz) (fw n ad mem78) := fw_D hD
        rw [hq] at hP hD
        refine lv_bipush (v := 34) Bx.1 Bx.2.1 d_Rd_readString_100 (by decide) ?_
        refine lv_icmp_ne Bx.1 Bx.2.1 d_Rd_readString_102 rfl (fun h8 => ?_) (fun h8 => ?_)
        · refine lv_iconst (v := 0) Bx.1 Bx.2.1 d_Rd_readString_109 (by decide) ?_
          refine lv_aload_n Bx.1 Bx.2.1 d_Rd_readString_110 rfl (lv_at hl 2 rfl) ?_
          refine f_get Bx hP (by omega) hh72 rfl inRd 2 (by decide) kw_146 rfl rfl d_Rd_readString_111 ?_
          refine f_xVv (na := 2) (As := [.int (0), .int (at51)]) (rest := []) Bx hml E hP hD hS (by omega) hh72 rfl (m_Rd_needReadable l hlt hn hT hRS76) kw_360 kw_362 sel_Rd_needReadable kw_6 kw_363 (by decide +kernel) ⟨rfl, rfl⟩ ⟨Nat.le_of_ble_eq_true rfl, Nat.le_of_ble_eq_true rfl⟩ rfl hl.1 (Nat.le_of_ble_eq_true rfl) d_Rd_readString_114 ⟨Nat.le_of_ble_eq_true rfl, Nat.le_of_ble_eq_true rfl⟩ (fun X ce q9 memx H locs hx9 hP hS g1 g2 g3 => f_out hlocks hno hP hS g1 g2 g3 ⟨Nat.le_of_ble_eq_true rfl, Nat.le_of_ble_eq_true rfl⟩ hx9) (fun mem80 H locs hq hP hS => ?_)
          have hD : va_D (Az sz) (fw n ad mem80) := fw_D hD
          obtain ⟨hRS81, -, hg82⟩ := hq
          obtain ⟨at83, ft84, h9_85⟩ := hRS81.2.1
          have h1_86 : mem80 1 = .inr (0, [.ref (ad 2), .int (nI Z)]) := (hRS81.2.2 1 (by omega)).trans hT.1
          have h2_87 : mem80 2 = .inl (cy 0, 240, .inl f) := (hRS81.2.2 2 (by omega)).trans hT.2.2
          have h5_88 := hRS81.1.2.1
          have hbd94 := hRS81.1.1
          obtain ⟨S89, g90, hS_91, h220_92, h221_93⟩ := hRS81.1.2.2.2.2.2.2
          obtain ⟨k95, lo96, hi97, as98, pa99, ne100, he_101, ho_102⟩ := (hRS81.1.2.2.2.2.2.1 ec (by omega)).1
          refine lv_aload_n Bx.1 Bx.2.1 d_Rd_readString_117 rfl (lv_at hl 2 rfl) ?_
          refine lv_dup Bx.1 Bx.2.1 d_Rd_readString_118 rfl ?_
          refine f_get Bx hP (by omega) h9_85 rfl inRd 2 (by decide) kw_146 rfl rfl d_Rd_readString_119 ?_
          refine lv_iconst (v := 1) Bx.1 Bx.2.1 d_Rd_readString_122 (by decide) ?_
          refine lv_iadd Bx.1 Bx.2.1 d_Rd_readString_123 ?_
          refine f_put Bx hP hD hS (by omega) h9_85 rfl inRd tyRd okRd nmRd 2 (by decide) kw_146 rfl rfl rfl rfl (Nat.le_of_ble_eq_true rfl) d_Rd_readString_124 (fun H locs hP hS => ?_)
          obtain ⟨mem103, e_mem103⟩ : ∃ z, z = va_up mem80 (222) (.inr (4, [.ref (ad 1), .ref (ad 5), .int (at83 + 1), .int (ft84)])) := ⟨_, rfl⟩
          have hP : va_P D vcl (fw n ad mem103) H := by rw [e_mem103]; exact hP
          have hD : va_D (Az sz) (fw n ad mem103) := fw_D hD
          have h_mem103 : mem103 (222) = .inr (4, [.ref (ad 1), .ref (ad 5), .int (at83 + 1), .int (ft84)]) := by rw [e_mem103, va_up_self]
          have hh104 := (va_up_ne mem80 (.inr (4, [.ref (ad 1), .ref (ad 5), .int (at83 + 1), .int (ft84)])) (show (1 : Nat) ≠ 222 by first | decide | assumption | omega)).trans h1_86
          rw [← e_mem103] at hh104
          have hh105 := (va_up_ne mem80 (.inr (4, [.ref (ad 1), .ref (ad 5), .int (at83 + 1), .int (ft84)])) (show (5 : Nat) ≠ 222 by first | decide | assumption | omega)).trans h5_88
          rw [← e_mem103] at hh105
          have hh106 := (va_up_ne mem80 (.inr (4, [.ref (ad 1), .ref (ad 5), .int (at83 + 1), .int (ft84)])) (show (220 : Nat) ≠ 222 by first | decide | assumption | omega)).trans h220_92
          rw [← e_mem103] at hh106
          have hh107 := (va_up_ne mem80 (.inr (4, [.ref (ad 1), .ref (ad 5), .int (at83 + 1), .int (ft84)])) (show ((20 + 2 * ec) : Nat) ≠ 222 by first | decide | assumption | omega)).trans he_101
          rw [← e_mem103] at hh107
          have hRS108 : RS cy ad lim rc (ec + 1) m0 mem103 := by rw [e_mem103]; exact hRS81.at222
          refine lv_aload_n Bx.1 Bx.2.1 d_Rd_readString_127 rfl (lv_at hl 1 rfl) ?_
          exact x_aret hx hb hlocks hr (⟨ec, rc, (ec + 1), rfl, by omega, by omega, by omega, hRS108⟩) hP hS d_Rd_readString_128
        · refine lv_iconst (v := 1) Bx.1 Bx.2.1 d_Rd_readString_105 (by decide) ?_
          refine lv_goto Bx.1 Bx.2.1 d_Rd_readString_106 rfl ?_
          refine lv_aload_n Bx.1 Bx.2.1 d_Rd_readString_110 rfl (lv_at hl 2 rfl) ?_
          refine f_get Bx hP (by omega) hh72 rfl inRd 2 (by decide) kw_146 rfl rfl d_Rd_readString_111 ?_
          refine f_xVv (na := 2) (As := [.int (1), .int (at51)]) (rest := []) Bx hml E hP hD hS (by omega) hh72 rfl (m_Rd_needReadable l hlt hn hT hRS76) kw_360 kw_362 sel_Rd_needReadable kw_6 kw_363 (by decide +kernel) ⟨rfl, rfl⟩ ⟨Nat.le_of_ble_eq_true rfl, Nat.le_of_ble_eq_true rfl⟩ rfl hl.1 (Nat.le_of_ble_eq_true rfl) d_Rd_readString_114 ⟨Nat.le_of_ble_eq_true rfl, Nat.le_of_ble_eq_true rfl⟩ (fun X ce q9 memx H locs hx9 hP hS g1 g2 g3 => f_out hlocks hno hP hS g1 g2 g3 ⟨Nat.le_of_ble_eq_true rfl, Nat.le_of_ble_eq_true rfl⟩ hx9) (fun mem110 H locs hq hP hS => ?_)
          have hD : va_D (Az sz) (fw n ad mem110) := fw_D hD
          obtain ⟨hRS111, -, hg112⟩ := hq
          obtain ⟨at113, ft114, h9_115⟩ := hRS111.2.1
          have h1_116 : mem110 1 = .inr (0, [.ref (ad 2), .int (nI Z)]) := (hRS111.2.2 1 (by omega)).trans hT.1
          have h2_117 : mem110 2 = .inl (cy 0, 240, .inl f) := (hRS111.2.2 2 (by omega)).trans hT.2.2
          have h5_118 := hRS111.1.2.1
          have hbd124 := hRS111.1.1
          obtain ⟨S119, g120, hS_121, h220_122, h221_123⟩ := hRS111.1.2.2.2.2.2.2
          obtain ⟨k125, lo126, hi127, as128, pa129, ne130, he_131, ho_132⟩ := (hRS111.1.2.2.2.2.2.1 ec (by omega)).1
          refine lv_aload_n Bx.1 Bx.2.1 d_Rd_readString_117 rfl (lv_at hl 2 rfl) ?_
          refine lv_dup Bx.1 Bx.2.1 d_Rd_readString_118 rfl ?_
          refine f_get Bx hP (by omega) h9_115 rfl inRd 2 (by decide) kw_146 rfl rfl d_Rd_readString_119 ?_
          refine lv_iconst (v := 1) Bx.1 Bx.2.1 d_Rd_readString_122 (by decide) ?_
          refine lv_iadd Bx.1 Bx.2.1 d_Rd_readString_123 ?_
          refine f_put Bx hP hD hS (by omega) h9_115 rfl inRd tyRd okRd nmRd 2 (by decide) kw_146 rfl rfl rfl rfl (Nat.le_of_ble_eq_true rfl) d_Rd_readString_124 (fun H locs hP hS => ?_)
          obtain ⟨mem133, e_mem133⟩ : ∃ z, z = va_up mem110 (222) (.inr (4, [.ref (ad 1), .ref (ad 5), .int (at113 + 1), .int (ft114)])) := ⟨_, rfl⟩
          have hP : va_P D vcl (fw n ad mem133) H := by rw [e_mem133]; exact hP
          have hD : va_D (Az sz) (fw n ad mem133) := fw_D hD
          have h_mem133 : mem133 (222) = .inr (4, [.ref (ad 1), .ref (ad 5), .int (at113 + 1), .int (ft114)]) := by rw [e_mem133, va_up_self]
          have hh134 := (va_up_ne mem110 (.inr (4, [.ref (ad 1), .ref (ad 5), .int (at113 + 1), .int (ft114)])) (show (1 : Nat) ≠ 222 by first | decide | assumption | omega)).trans h1_116
          rw [← e_mem133] at hh134
          have hh135 := (va_up_ne mem110 (.inr (4, [.ref (ad 1), .ref (ad 5), .int (at113 + 1), .int (ft114)])) (show (5 : Nat) ≠ 222 by first | decide | assumption | omega)).trans h5_118
          rw [← e_mem133] at hh135
          have hh136 := (va_up_ne mem110 (.inr (4, [.ref (ad 1), .ref (ad 5), .int (at113 + 1), .int (ft114)])) (show (220 : Nat) ≠ 222 by first | decide | assumption | omega)).trans h220_122
          rw [← e_mem133] at hh136
          have hh137 := (va_up_ne mem110 (.inr (4, [.ref (ad 1), .ref (ad 5), .int (at113 + 1), .int (ft114)])) (show ((20 + 2 * ec) : Nat) ≠ 222 by first | decide | assumption | omega)).trans he_131
          rw [← e_mem133] at hh137
          have hRS138 : RS cy ad lim rc (ec + 1) m0 mem133 := by rw [e_mem133]; exact hRS111.at222
          refine lv_aload_n Bx.1 Bx.2.1 d_Rd_readString_127 rfl (lv_at hl 1 rfl) ?_
          exact x_aret hx hb hlocks hr (⟨ec, rc, (ec + 1), rfl, by omega, by omega, by omega, hRS138⟩) hP hS d_Rd_readString_128
      · refine lv_aload_n Bx.1 Bx.2.1 d_Rd_readString_41 rfl (lv_at hl 2 rfl) ?_
        refine f_callVi (na := 0) (As := []) (rest := []) Bx hml E hP hD hS (by omega) h9_53 rfl (m_Rd_peek l hn hT hRS) kw_353 kw_355 sel_Rd_peek kw_6 kw_356 (by decide +kernel) ⟨rfl, rfl⟩ ⟨Nat.le_of_ble_eq_true rfl, Nat.le_of_ble_eq_true rfl⟩ rfl hl.1 (Nat.le_of_ble_eq_true rfl) d_Rd_readString_42 ⟨Nat.le_of_ble_eq_true rfl, Nat.le_of_ble_eq_true rfl⟩ (fun r139 mem140 H locs hq hP hS => ?_)
        have hD : va_D (Az sz) (fw n ad mem140) := fw_D hD
        rw [hq] at hP hD
        refine f_callSi (na := 1) (As := [.int (r139)]) (rest := []) Bx hml E.2.1 (m_Rd_isStringCode l (r139)) kw_459 kw_460 kw_6 kw_461 (by decide +kernel) ⟨rfl, rfl⟩ ⟨Nat.le_of_ble_eq_true rfl, Nat.le_of_ble_eq_true rfl⟩ rfl hl.1 (Nat.le_of_ble_eq_true rfl) d_Rd_readString_45 ⟨Nat.le_of_ble_eq_true rfl, Nat.le_of_ble_eq_true rfl⟩ (fun r142 hs141 => ?_)
        refine lv_if_eq Bx.1 Bx.2.1 d_Rd_readString_48 rfl (fun h8 => ?_) (fun h8 => ?_)
        · refine lv_aload_n Bx.1 Bx.2.1 d_Rd_readString_81 rfl (lv_at hl 1 rfl) ?_
          refine lv_aload_n Bx.1 Bx.2.1 d_Rd_readString_82 rfl (lv_at hl 2 rfl) ?_
          refine f_get Bx hP (by omega) h9_53 rfl inRd 1 (by decide) kw_145 rfl rfl d_Rd_readString_83 ?_
          refine f_getN Bx hP (by omega) h5_56 rfl inGr 2 (by decide) kw_120 rfl rfl d_Rd_readString_86 ?_
          refine f_getN Bx hP (by omega) h220_60 rfl inCh 1 (by decide) kw_33 rfl rfl d_Rd_readString_89 ?_
          refine f_putN Bx hP hD hS (by omega) he_69 rfl inEl tyEl okEl nmEl 2 (by decide) kw_82 rfl rfl rfl rfl (Nat.le_of_ble_eq_true rfl) d_Rd_readString_92 (fun H locs hP hS => ?_)
          obtain ⟨mem143, e_mem143⟩ : ∃ z, z = va_up mem ((20 + 2 * ec)) (.inr (2, [.int (k63), .int (lo64), .int (nI S57), as66, pa67, ne68, .ref (ad (21 + 2 * ec))])) := ⟨_, rfl⟩
          have hP : va_P D vcl (fw n ad mem143) H := by rw [e_mem143]; exact hP
          have hD : va_D (Az sz) (fw n ad mem143) := fw_D hD
          have h_mem143 : mem143 ((20 + 2 * ec)) = .inr (2, [.int (k63), .int (lo64), .int (nI S57), as66, pa67, ne68, .ref (ad (21 + 2 * ec))]) := by rw [e_mem143, va_up_self]
          have hh144 := (va_up_ne mem (.inr (2, [.int (k63), .int (lo64), .int (nI S57), as66, pa67, ne68, .ref (ad (21 + 2 * ec))])) (show (222 : Nat) ≠ (20 + 2 * ec) by first | decide | assumption | omega)).trans h9_53
          rw [← e_mem143] at hh144
          have hh145 := (va_up_ne mem (.inr (2, [.int (k63), .int (lo64), .int (nI S57), as66, pa67, ne68, .ref (ad (21 + 2 * ec))])) (show (1 : Nat) ≠ (20 + 2 * ec) by first | decide | assumption | omega)).trans h1_54
          rw [← e_mem143] at hh145
          have hh146 := (va_up_ne mem (.inr (2, [.int (k63), .int (lo64), .int (nI S57), as66, pa67, ne68, .ref (ad (21 + 2 * ec))])) (show (5 : Nat) ≠ (20 + 2 * ec) by first | decide | assumption | omega)).trans h5_56
          rw [← e_mem143] at hh146
          have hh147 := (va_up_ne mem (.inr (2, [.int (k63), .int (lo64), .int (nI S57), as66, pa67, ne68, .ref (ad (21 + 2 * ec))])) (show (220 : Nat) ≠ (20 + 2 * ec) by first | decide | assumption | omega)).trans h220_60
          rw [← e_mem143] at hh147
          have hRS148 : RS cy ad lim rc (ec + 1) m0 mem143 := by rw [e_mem143]; exact hRS.mk (by omega) (hRS.1.upEl (by omega) ho_70)
          refine lv_aload_n Bx.1 Bx.2.1 d_Rd_readString_95 rfl (lv_at hl 2 rfl) ?_
          refine lv_aload_n Bx.1 Bx.2.1 d_Rd_readString_96 rfl (lv_at hl 2 rfl) ?_
          refine f_callVi (na := 0) (As := []) (rest := [.ref (ad 222)]) Bx hml E hP hD hS (by omega) hh144 rfl (m_Rd_peek l hn hT hRS148) kw_353 kw_355 sel_Rd_peek kw_6 kw_356 (by decide +kernel) ⟨rfl, rfl⟩ ⟨Nat.le_of_ble_eq_true rfl, Nat.le_of_ble_eq_true rfl⟩ rfl hl.1 (Nat.le_of_ble_eq_true rfl) d_Rd_readString_97 ⟨Nat.le_of_ble_eq_true rfl, Nat.le_of_ble_eq_true rfl⟩ (fun r149 mem150 H locs hq hP hS => ?_)
          have hD : va_D (Az sz) (fw n ad mem150) := fw_D hD
          rw [hq] at hP hD
          refine lv_bipush (v := 34) Bx.1 Bx.2.1 d_Rd_readString_100 (by decide) ?_
          refine lv_icmp_ne Bx.1 Bx.2.1 d_Rd_readString_102 rfl (fun h8 => ?_) (fun h8 => ?_)
          · refine lv_iconst (v := 0) Bx.1 Bx.2.1 d_Rd_readString_109 (by decide) ?_
            refine lv_aload_n Bx.1 Bx.2.1 d_Rd_readString_110 rfl (lv_at hl 2 rfl) ?_
            refine f_get Bx hP (by omega) hh144 rfl inRd 2 (by decide) kw_146 rfl rfl d_Rd_readString_111 ?_
            refine f_xVv (na := 2) (As := [.int (0), .int (at51)]) (rest := []) Bx hml E hP hD hS (by omega) hh144 rfl (m_Rd_needReadable l hlt hn hT hRS148) kw_360 kw_362 sel_Rd_needReadable kw_6 kw_363 (by decide +kernel) ⟨rfl, rfl⟩ ⟨Nat.le_of_ble_eq_true rfl, Nat.le_of_ble_eq_true rfl⟩ rfl hl.1 (Nat.le_of_ble_eq_true rfl) d_Rd_readString_114 ⟨Nat.le_of_ble_eq_true rfl, Nat.le_of_ble_eq_true rfl⟩ (fun X ce q9 memx H locs hx9 hP hS g1 g2 g3 => f_out hlocks hno hP hS g1 g2 g3 ⟨Nat.le_of_ble_eq_true rfl, Nat.le_of_ble_eq_true rfl⟩ hx9) (fun mem152 H locs hq hP hS => ?_)
            have hD : va_D (Az sz) (fw n ad mem152) := fw_D hD
            obtain ⟨hRS153, -, hg154⟩ := hq
            obtain ⟨at155, ft156, h9_157⟩ := hRS153.2.1
            have h1_158 : mem152 1 = .inr (0, [.ref (ad 2), .int (nI Z)]) := (hRS153.2.2 1 (by omega)).trans hT.1
            have h2_159 : mem152 2 = .inl (cy 0, 240, .inl f) := (hRS153.2.2 2 (by omega)).trans hT.2.2
            have h5_160 := hRS153.1.2.1
            have hbd166 := hRS153.1.1
            obtain ⟨S161, g162, hS_163, h220_164, h221_165⟩ := hRS153.1.2.2.2.2.2.2
            obtain ⟨k167, lo168, hi169, as170, pa171, ne172, he_173, ho_174⟩ := (hRS153.1.2.2.2.2.2.1 ec (by omega)).1
            refine lv_aload_n Bx.1 Bx.2.1 d_Rd_readString_117 rfl (lv_at hl 2 rfl) ?_
            refine lv_dup Bx.1 Bx.2.1 d_Rd_readString_118 rfl ?_
            refine f_get Bx hP (by omega) h9_157 rfl inRd 2 (by decide) kw_146 rfl rfl d_Rd_readString_119 ?_
            refine lv_iconst (v := 1) Bx.1 Bx.2.1 d_Rd_readString_122 (by decide) ?_
            refine lv_iadd Bx.1 Bx.2.1 d_Rd_readString_123 ?_
            refine f_put Bx hP hD hS (by omega) h9_157 rfl inRd tyRd okRd nmRd 2 (by decide) kw_146 rfl rfl rfl rfl (Nat.le_of_ble_eq_true rfl) d_Rd_readString_124 (fun H locs hP hS => ?_)
            obtain ⟨mem175, e_mem175⟩ : ∃ z, z = va_up mem152 (222) (.inr (4, [.ref (ad 1), .ref (ad 5), .int (at155 + 1), .int (ft156)])) := ⟨_, rfl⟩
            have hP : va_P D vcl (fw n ad mem175) H := by rw [e_mem175]; exact hP
            have hD : va_D (Az sz) (fw n ad mem175) := fw_D hD
            have h_mem175 : mem175 (222) = .inr (4, [.ref (ad 1), .ref (ad 5), .int (at155 + 1), .int (ft156)]) := by rw [e_mem175, va_up_self]
            have hh176 := (va_up_ne mem152 (.inr (4, [.ref (ad 1), .ref (ad 5), .int (at155 + 1), .int (ft156)])) (show (1 : Nat) ≠ 222 by first | decide | assumption | omega)).trans h1_158
            rw [← e_mem175] at hh176
            have hh177 := (va_up_ne mem152 (.inr (4, [.ref (ad 1), .ref (ad 5), .int (at155 + 1), .int (ft156)])) (show (5 : Nat) ≠ 222 by first | decide | assumption | omega)).trans h5_160
            rw [← e_mem175] at hh177
            have hh178 := (va_up_ne mem152 (.inr (4, [.ref (ad 1), .ref (ad 5), .int (at155 + 1), .int (ft156)])) (show (220 : Nat) ≠ 222 by first | decide | assumption | omega)).trans h220_164
            rw [← e_mem175] at hh178
            have hh179 := (va_up_ne mem152 (.inr (4, [.ref (ad 1), .ref (ad 5), .int (at155 + 1), .int (ft156)])) (show ((20 + 2 * ec) : Nat) ≠ 222 by first | decide | assumption | omega)).trans he_173
            rw [← e_mem175] at hh179
            have hRS180 : RS cy ad lim rc (ec + 1) m0 mem175 := by rw [e_mem175]; exact hRS153.at222
            refine lv_aload_n Bx.1 Bx.2.1 d_Rd_readString_127 rfl (lv_at hl 1 rfl) ?_
            exact x_aret hx hb hlocks hr (⟨ec, rc, (ec + 1), rfl, by omega, by omega, by omega, hRS180⟩) hP hS d_Rd_readString_128
          · refine lv_iconst (v := 1) Bx.1 Bx.2.1 d_Rd_readString_105 (by decide) ?_
            refine lv_goto Bx.1 Bx.2.1 d_Rd_readString_106 rfl ?_
            refine lv_aload_n Bx.1 Bx.2.1 d_Rd_readString_110 rfl (lv_at hl 2 rfl) ?_
            refine f_get Bx hP (by omega) hh144 rfl inRd 2 (by decide) kw_146 rfl rfl d_Rd_readString_111 ?_
            refine f_xVv (na := 2) (As := [.int (1), .int (at51)]) (rest := []) Bx hml E hP hD hS (by omega) hh144 rfl (m_Rd_needReadable l hlt hn hT hRS148) kw_360 kw_362 sel_Rd_needReadable kw_6 kw_363 (by decide +kernel) ⟨rfl, rfl⟩ ⟨Nat.le_of_ble_eq_true rfl, Nat.le_of_ble_eq_true rfl⟩ rfl hl.1 (Nat.le_of_ble_eq_true rfl) d_Rd_readString_114 ⟨Nat.le_of_ble_eq_true rfl, Nat.le_of_ble_eq_true rfl⟩ (fun X ce q9 memx H locs hx9 hP hS g1 g2 g3 => f_out hlocks hno hP hS g1 g2 g3 ⟨Nat.le_of_ble_eq_true rfl, Nat.le_of_ble_eq_true rfl⟩ hx9) (fun mem182 H locs hq hP hS => ?_)
            have hD : va_D (Az sz) (fw n ad mem182) := fw_D hD
            obtain ⟨hRS183, -, hg184⟩ := hq
            obtain ⟨at185, ft186, h9_187⟩ := hRS183.2.1
            have h1_188 : mem182 1 = .inr (0, [.ref (ad 2), .int (nI Z)]) := (hRS183.2.2 1 (by omega)).trans hT.1
            have h2_189 : mem182 2 = .inl (cy 0, 240, .inl f) := (hRS183.2.2 2 (by omega)).trans hT.2.2
            have h5_190 := hRS183.1.2.1
            have hbd196 := hRS183.1.1
            obtain ⟨S191, g192, hS_193, h220_194, h221_195⟩ := hRS183.1.2.2.2.2.2.2
            obtain ⟨k197, lo198, hi199, as200, pa201, ne202, he_203, ho_204⟩ := (hRS183.1.2.2.2.2.2.1 ec (by omega)).1
            refine lv_aload_n Bx.1 Bx.2.1 d_Rd_readString_117 rfl (lv_at hl 2 rfl) ?_
            refine lv_dup Bx.1 Bx.2.1 d_Rd_readString_118 rfl ?_
            refine f_get Bx hP (by omega) h9_187 rfl inRd 2 (by decide) kw_146 rfl rfl d_Rd_readString_119 ?_
            refine lv_iconst (v := 1) Bx.1 Bx.2.1 d_Rd_readString_122 (by decide) ?_
            refine lv_iadd Bx.1 Bx.2.1 d_Rd_readString_123 ?_
            refine f_put Bx hP hD hS (by omega) h9_187 rfl inRd tyRd okRd nmRd 2 (by decide) kw_146 rfl rfl rfl rfl (Nat.le_of_ble_eq_true rfl) d_Rd_readString_124 (fun H locs hP hS => ?_)
            obtain ⟨mem205, e_mem205⟩ : ∃ z, z = va_up mem182 (222) (.inr (4, [.ref (ad 1), .ref (ad 5), .int (at185 + 1), .int (ft186)])) := ⟨_, rfl⟩
            have hP : va_P D vcl (fw n ad mem205) H := by rw [e_mem205]; exact hP
            have hD : va_D (Az sz) (fw n ad mem205) := fw_D hD
            have h_mem205 : mem205 (222) = .inr (4, [.ref (ad 1), .ref (ad 5), .int (at185 + 1), .int (ft186)]) := by rw [e_mem205, va_up_self]
            have hh206 := (va_up_ne mem182 (.inr (4, [.ref (ad 1), .ref (ad 5), .int (at185 + 1), .int (ft186)])) (show (1 : Nat) ≠ 222 by first | decide | assumption | omega)).trans h1_188
            rw [← e_mem205] at hh206
            have hh207 := (va_up_ne mem182 (.inr (4, [.ref (ad 1), .ref (ad 5), .int (at185 + 1), .int (ft186)])) (show (5 : Nat) ≠ 222 by first | decide | assumption | omega)).trans h5_190
            rw [← e_mem205] at hh207
            have hh208 := (va_up_ne mem182 (.inr (4, [.ref (ad 1), .ref (ad 5), .int (at185 + 1), .int (ft186)])) (show (220 : Nat) ≠ 222 by first | decide | assumption | omega)).trans h220_194
            rw [← e_mem205] at hh208
            have hh209 := (va_up_ne mem182 (.inr (4, [.ref (ad 1), .ref (ad 5), .int (at185 + 1), .int (ft186)])) (show ((20 + 2 * ec) : Nat) ≠ 222 by first | decide | assumption | omega)).trans he_203
            rw [← e_mem205] at hh209
            have hRS210 : RS cy ad lim rc (ec + 1) m0 mem205 := by rw [e_mem205]; exact hRS183.at222
            refine lv_aload_n Bx.1 Bx.2.1 d_Rd_readString_127 rfl (lv_at hl 1 rfl) ?_
            exact x_aret hx hb hlocks hr (⟨ec, rc, (ec + 1), rfl, by omega, by omega, by omega, hRS210⟩) hP hS d_Rd_readString_128
        · refine lv_aload_n Bx.1 Bx.2.1 d_Rd_readString_51 rfl (lv_at hl 2 rfl) ?_
          refine f_get Bx hP (by omega) h9_53 rfl inRd 1 (by decide) kw_145 rfl rfl d_Rd_readString_52 ?_
          refine f_getN Bx hP (by omega) h5_56 rfl inGr 2 (by decide) kw_120 rfl rfl d_Rd_readString_55 ?_
          refine lv_aload_n Bx.1 Bx.2.1 d_Rd_readString_58 rfl (lv_at hl 2 rfl) ?_
          refine f_callVi (na := 0) (As := []) (rest := [.ref (ad 220)]) Bx hml E hP hD hS (by omega) h9_53 rfl (m_Rd_peek l hn hT hRS) kw_353 kw_355 sel_Rd_peek kw_6 kw_356 (by decide +kernel) ⟨rfl, rfl⟩ ⟨Nat.le_of_ble_eq_true rfl, Nat.le_of_ble_eq_true rfl⟩ rfl hl.1 (Nat.le_of_ble_eq_true rfl) d_Rd_readString_59 ⟨Nat.le_of_ble_eq_true rfl, Nat.le_of_ble_eq_true rfl⟩ (fun r211 mem212 H locs hq hP hS => ?_)
          have hD : va_D (Az sz) (fw n ad mem212) := fw_D hD
          rw [hq] at hP hD
          refine f_callVv (na := 1) (As := [.int (r211)]) (rest := []) Bx hml E hP hD hS (by omega) h220_60 rfl (m_Ch_appendW l hn hT hRS) kw_462 kw_318 kw_319 kw_2 kw_320 (by decide +kernel) ⟨rfl, rfl⟩ ⟨Nat.le_of_ble_eq_true rfl, Nat.le_of_ble_eq_true rfl⟩ rfl hl.1 (Nat.le_of_ble_eq_true rfl) d_Rd_readString_62 ⟨Nat.le_of_ble_eq_true rfl, Nat.le_of_ble_eq_true rfl⟩ (fun mem215 H locs hRS213 hP hS => ?_)
          have hD : va_D (Az sz) (fw n ad mem215) := fw_D hD
          obtain ⟨at216, ft217, h9_218⟩ := hRS213.2.1
          have h1_219 : mem215 1 = .inr (0, [.ref (ad 2), .int (nI Z)]) := (hRS213.2.2 1 (by omega)).trans hT.1
          have h2_220 : mem215 2 = .inl (cy 0, 240, .inl f) := (hRS213.2.2 2 (by omega)).trans hT.2.2
          have h5_221 := hRS213.1.2.1
          have hbd227 := hRS213.1.1
          obtain ⟨S222, g223, hS_224, h220_225, h221_226⟩ := hRS213.1.2.2.2.2.2.2
          obtain ⟨k228, lo229, hi230, as231, pa232, ne233, he_234, ho_235⟩ := (hRS213.1.2.2.2.2.2.1 ec (by omega)).1
          refine lv_aload_n Bx.1 Bx.2.1 d_Rd_readString_65 rfl (lv_at hl 2 rfl) ?_
          refine lv_dup Bx.1 Bx.2.1 d_Rd_readString_66 rfl ?_
          refine f_get Bx hP (by omega) h9_218 rfl inRd 2 (by decide) kw_146 rfl rfl d_Rd_readString_67 ?_
          refine lv_iconst (v := 1) Bx.1 Bx.2.1 d_Rd_readString_70 (by decide) ?_
          refine lv_iadd Bx.1 Bx.2.1 d_Rd_readString_71 ?_
          refine f_put Bx hP hD hS (by omega) h9_218 rfl inRd tyRd okRd nmRd 2 (by decide) kw_146 rfl rfl rfl rfl (Nat.le_of_ble_eq_true rfl) d_Rd_readString_72 (fun H locs hP hS => ?_)
          obtain ⟨mem236, e_mem236⟩ : ∃ z, z = va_up mem215 (222) (.inr (4, [.ref (ad 1), .ref (ad 5), .int (at216 + 1), .int (ft217)])) := ⟨_, rfl⟩
          have hP : va_P D vcl (fw n ad mem236) H := by rw [e_mem236]; exact hP
          have hD : va_D (Az sz) (fw n ad mem236) := fw_D hD
          have h_mem236 : mem236 (222) = .inr (4, [.ref (ad 1), .ref (ad 5), .int (at216 + 1), .int (ft217)]) := by rw [e_mem236, va_up_self]
          have hh237 := (va_up_ne mem215 (.inr (4, [.ref (ad 1), .ref (ad 5), .int (at216 + 1), .int (ft217)])) (show (1 : Nat) ≠ 222 by first | decide | assumption | omega)).trans h1_219
          rw [← e_mem236] at hh237
          have hh238 := (va_up_ne mem215 (.inr (4, [.ref (ad 1), .ref (ad 5), .int (at216 + 1), .int (ft217)])) (show (5 : Nat) ≠ 222 by first | decide | assumption | omega)).trans h5_221
          rw [← e_mem236] at hh238
          have hh239 := (va_up_ne mem215 (.inr (4, [.ref (ad 1), .ref (ad 5), .int (at216 + 1), .int (ft217)])) (show (220 : Nat) ≠ 222 by first | decide | assumption | omega)).trans h220_225
          rw [← e_mem236] at hh239
          have hh240 := (va_up_ne mem215 (.inr (4, [.ref (ad 1), .ref (ad 5), .int (at216 + 1), .int (ft217)])) (show ((20 + 2 * ec) : Nat) ≠ 222 by first | decide | assumption | omega)).trans he_234
          rw [← e_mem236] at hh240
          have hRS241 : RS cy ad lim rc (ec + 1) m0 mem236 := by rw [e_mem236]; exact hRS213.at222
          refine lv_iinc (lv' := [(4, .int ((k9 + (1)))), (3, .ref (ad (20 + 2 * ec))), (0, .ref (ad 222)), (1, .int (st)), (2, .int (kd))]) Bx.1 Bx.2.1 d_Rd_readString_75 hl (k := 0) rfl rfl (by decide) rfl (fun ls hl => ?_)
          refine lv_goto Bx.1 Bx.2.1 d_Rd_readString_78 rfl ?_
          exact ih _ _ _ _ _ (by have := inc_meas hk; omega) hRS241  hP hD hS (lv_sub hl [0, 1, 2, 3, 4] rfl)
  exact loop50 _ _ _ _ _ _ (Nat.lt_succ_self _) hRS49  hP hD hS (lv_sub hl [0, 1, 2, 3, 4] rfl)
