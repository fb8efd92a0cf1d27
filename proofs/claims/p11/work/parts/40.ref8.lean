theorem d_Mo_goesOn_0 : decode c_Mo_goesOn 0 = .ok (.aload_n 0, 1) := by decide +kernel
theorem d_Mo_goesOn_1 : decode c_Mo_goesOn 1 = .ok (.getfield 87, 3) := by decide +kernel
theorem d_Mo_goesOn_4 : decode c_Mo_goesOn 4 = .ok (.istore_n 1, 1) := by decide +kernel
theorem d_Mo_goesOn_5 : decode c_Mo_goesOn 5 = .ok (.aload_n 0, 1) := by decide +kernel
theorem d_Mo_goesOn_6 : decode c_Mo_goesOn 6 = .ok (.invokevirtual 139, 3) := by decide +kernel
theorem d_Mo_goesOn_9 : decode c_Mo_goesOn 9 = .ok (.aload_n 0, 1) := by decide +kernel
theorem d_Mo_goesOn_10 : decode c_Mo_goesOn 10 = .ok (.invokevirtual 96, 3) := by decide +kernel
theorem d_Mo_goesOn_13 : decode c_Mo_goesOn 13 = .ok (.istore_n 2, 1) := by decide +kernel
theorem d_Mo_goesOn_14 : decode c_Mo_goesOn 14 = .ok (.aload_n 0, 1) := by decide +kernel
theorem d_Mo_goesOn_15 : decode c_Mo_goesOn 15 = .ok (.getfield 123, 3) := by decide +kernel
theorem d_Mo_goesOn_18 : decode c_Mo_goesOn 18 = .ok (.iconst 1, 1) := by decide +kernel
theorem d_Mo_goesOn_19 : decode c_Mo_goesOn 19 = .ok (.isub, 1) := by decide +kernel
theorem d_Mo_goesOn_20 : decode c_Mo_goesOn 20 = .ok (.istore_n 3, 1) := by decide +kernel
theorem d_Mo_goesOn_21 : decode c_Mo_goesOn 21 = .ok (.iload_n 2, 1) := by decide +kernel
theorem d_Mo_goesOn_22 : decode c_Mo_goesOn 22 = .ok (.bipush 47, 2) := by decide +kernel
theorem d_Mo_goesOn_24 : decode c_Mo_goesOn 24 = .ok (.if_icmp .ne 24, 3) := by decide +kernel
theorem d_Mo_goesOn_27 : decode c_Mo_goesOn 27 = .ok (.aload_n 0, 1) := by decide +kernel
theorem d_Mo_goesOn_28 : decode c_Mo_goesOn 28 = .ok (.dup, 1) := by decide +kernel
theorem d_Mo_goesOn_29 : decode c_Mo_goesOn 29 = .ok (.getfield 87, 3) := by decide +kernel
theorem d_Mo_goesOn_32 : decode c_Mo_goesOn 32 = .ok (.iconst 1, 1) := by decide +kernel
theorem d_Mo_goesOn_33 : decode c_Mo_goesOn 33 = .ok (.iadd, 1) := by decide +kernel
theorem d_Mo_goesOn_34 : decode c_Mo_goesOn 34 = .ok (.putfield 87, 3) := by decide +kernel
theorem d_Mo_goesOn_37 : decode c_Mo_goesOn 37 = .ok (.aload_n 0, 1) := by decide +kernel
theorem d_Mo_goesOn_38 : decode c_Mo_goesOn 38 = .ok (.invokevirtual 139, 3) := by decide +kernel
theorem d_Mo_goesOn_41 : decode c_Mo_goesOn 41 = .ok (.aload_n 0, 1) := by decide +kernel
theorem d_Mo_goesOn_42 : decode c_Mo_goesOn 42 = .ok (.invokevirtual 174, 3) := by decide +kernel
theorem d_Mo_goesOn_45 : decode c_Mo_goesOn 45 = .ok (.goto 165, 3) := by decide +kernel
theorem d_Mo_goesOn_48 : decode c_Mo_goesOn 48 = .ok (.iload_n 2, 1) := by decide +kernel
theorem d_Mo_goesOn_49 : decode c_Mo_goesOn 49 = .ok (.bipush 41, 2) := by decide +kernel
theorem d_Mo_goesOn_51 : decode c_Mo_goesOn 51 = .ok (.if_icmp .ne 13, 3) := by decide +kernel
theorem d_Mo_goesOn_54 : decode c_Mo_goesOn 54 = .ok (.aload_n 0, 1) := by decide +kernel
theorem d_Mo_goesOn_55 : decode c_Mo_goesOn 55 = .ok (.getfield 46, 3) := by decide +kernel
theorem d_Mo_goesOn_58 : decode c_Mo_goesOn 58 = .ok (.iload_n 3, 1) := by decide +kernel
theorem d_Mo_goesOn_59 : decode c_Mo_goesOn 59 = .ok (.iaload, 1) := by decide +kernel
theorem d_Mo_goesOn_60 : decode c_Mo_goesOn 60 = .ok (.iconst 1, 1) := by decide +kernel
theorem d_Mo_goesOn_61 : decode c_Mo_goesOn 61 = .ok (.if_icmp .eq 19, 3) := by decide +kernel
theorem d_Mo_goesOn_64 : decode c_Mo_goesOn 64 = .ok (.iload_n 2, 1) := by decide +kernel
theorem d_Mo_goesOn_65 : decode c_Mo_goesOn 65 = .ok (.bipush 93, 2) := by decide +kernel
theorem d_Mo_goesOn_67 : decode c_Mo_goesOn 67 = .ok (.if_icmp .ne 91, 3) := by decide +kernel
theorem d_Mo_goesOn_70 : decode c_Mo_goesOn 70 = .ok (.aload_n 0, 1) := by decide +kernel
theorem d_Mo_goesOn_71 : decode c_Mo_goesOn 71 = .ok (.getfield 46, 3) := by decide +kernel
theorem d_Mo_goesOn_74 : decode c_Mo_goesOn 74 = .ok (.iload_n 3, 1) := by decide +kernel
theorem d_Mo_goesOn_75 : decode c_Mo_goesOn 75 = .ok (.iaload, 1) := by decide +kernel
theorem d_Mo_goesOn_76 : decode c_Mo_goesOn 76 = .ok (.iconst 2, 1) := by decide +kernel
theorem d_Mo_goesOn_77 : decode c_Mo_goesOn 77 = .ok (.if_icmp .ne 81, 3) := by decide +kernel
theorem d_Mo_goesOn_80 : decode c_Mo_goesOn 80 = .ok (.aload_n 0, 1) := by decide +kernel
theorem d_Mo_goesOn_81 : decode c_Mo_goesOn 81 = .ok (.dup, 1) := by decide +kernel
theorem d_Mo_goesOn_82 : decode c_Mo_goesOn 82 = .ok (.getfield 87, 3) := by decide +kernel
theorem d_Mo_goesOn_85 : decode c_Mo_goesOn 85 = .ok (.iconst 1, 1) := by decide +kernel
theorem d_Mo_goesOn_86 : decode c_Mo_goesOn 86 = .ok (.iadd, 1) := by decide +kernel
theorem d_Mo_goesOn_87 : decode c_Mo_goesOn 87 = .ok (.putfield 87, 3) := by decide +kernel
theorem d_Mo_goesOn_90 : decode c_Mo_goesOn 90 = .ok (.aload_n 0, 1) := by decide +kernel
theorem d_Mo_goesOn_91 : decode c_Mo_goesOn 91 = .ok (.getfield 46, 3) := by decide +kernel
theorem d_Mo_goesOn_94 : decode c_Mo_goesOn 94 = .ok (.iload_n 3, 1) := by decide +kernel
theorem d_Mo_goesOn_95 : decode c_Mo_goesOn 95 = .ok (.iaload, 1) := by decide +kernel
theorem d_Mo_goesOn_96 : decode c_Mo_goesOn 96 = .ok (.iconst 1, 1) := by decide +kernel
theorem d_Mo_goesOn_97 : decode c_Mo_goesOn 97 = .ok (.if_icmp .ne 12, 3) := by decide +kernel
theorem d_Mo_goesOn_100 : decode c_Mo_goesOn 100 = .ok (.aload_n 0, 1) := by decide +kernel
theorem d_Mo_goesOn_101 : decode c_Mo_goesOn 101 = .ok (.getfield 52, 3) := by decide +kernel
theorem d_Mo_goesOn_104 : decode c_Mo_goesOn 104 = .ok (.iload_n 3, 1) := by decide +kernel
theorem d_Mo_goesOn_105 : decode c_Mo_goesOn 105 = .ok (.iaload, 1) := by decide +kernel
theorem d_Mo_goesOn_106 : decode c_Mo_goesOn 106 = .ok (.goto 9, 3) := by decide +kernel
theorem d_Mo_goesOn_109 : decode c_Mo_goesOn 109 = .ok (.aload_n 0, 1) := by decide +kernel
theorem d_Mo_goesOn_110 : decode c_Mo_goesOn 110 = .ok (.getfield 49, 3) := by decide +kernel
theorem d_Mo_goesOn_113 : decode c_Mo_goesOn 113 = .ok (.iload_n 3, 1) := by decide +kernel
theorem d_Mo_goesOn_114 : decode c_Mo_goesOn 114 = .ok (.iaload, 1) := by decide +kernel
theorem d_Mo_goesOn_115 : decode c_Mo_goesOn 115 = .ok (.istore 4, 2) := by decide +kernel
theorem d_Mo_goesOn_117 : decode c_Mo_goesOn 117 = .ok (.aload_n 0, 1) := by decide +kernel
theorem d_Mo_goesOn_118 : decode c_Mo_goesOn 118 = .ok (.getfield 46, 3) := by decide +kernel
theorem d_Mo_goesOn_121 : decode c_Mo_goesOn 121 = .ok (.iload_n 3, 1) := by decide +kernel
theorem d_Mo_goesOn_122 : decode c_Mo_goesOn 122 = .ok (.iaload, 1) := by decide +kernel
theorem d_Mo_goesOn_123 : decode c_Mo_goesOn 123 = .ok (.iconst 2, 1) := by decide +kernel
theorem d_Mo_goesOn_124 : decode c_Mo_goesOn 124 = .ok (.if_icmp .ne 15, 3) := by decide +kernel
theorem d_Mo_goesOn_127 : decode c_Mo_goesOn 127 = .ok (.aload_n 0, 1) := by decide +kernel
theorem d_Mo_goesOn_128 : decode c_Mo_goesOn 128 = .ok (.iload 4, 2) := by decide +kernel
theorem d_Mo_goesOn_130 : decode c_Mo_goesOn 130 = .ok (.aload_n 0, 1) := by decide +kernel
theorem d_Mo_goesOn_131 : decode c_Mo_goesOn 131 = .ok (.getfield 52, 3) := by decide +kernel
theorem d_Mo_goesOn_134 : decode c_Mo_goesOn 134 = .ok (.iload_n 3, 1) := by decide +kernel
theorem d_Mo_goesOn_135 : decode c_Mo_goesOn 135 = .ok (.iaload, 1) := by decide +kernel
theorem d_Mo_goesOn_136 : decode c_Mo_goesOn 136 = .ok (.invokevirtual 126, 3) := by decide +kernel
theorem d_Mo_goesOn_139 : decode c_Mo_goesOn 139 = .ok (.aload_n 0, 1) := by decide +kernel
theorem d_Mo_goesOn_140 : decode c_Mo_goesOn 140 = .ok (.dup, 1) := by decide +kernel
theorem d_Mo_goesOn_141 : decode c_Mo_goesOn 141 = .ok (.getfield 123, 3) := by decide +kernel
theorem d_Mo_goesOn_144 : decode c_Mo_goesOn 144 = .ok (.iconst 1, 1) := by decide +kernel
theorem d_Mo_goesOn_145 : decode c_Mo_goesOn 145 = .ok (.isub, 1) := by decide +kernel
theorem d_Mo_goesOn_146 : decode c_Mo_goesOn 146 = .ok (.putfield 123, 3) := by decide +kernel
theorem d_Mo_goesOn_149 : decode c_Mo_goesOn 149 = .ok (.aload_n 0, 1) := by decide +kernel
theorem d_Mo_goesOn_150 : decode c_Mo_goesOn 150 = .ok (.iload 4, 2) := by decide +kernel
theorem d_Mo_goesOn_152 : decode c_Mo_goesOn 152 = .ok (.invokevirtual 151, 3) := by decide +kernel
theorem d_Mo_goesOn_155 : decode c_Mo_goesOn 155 = .ok (.goto 55, 3) := by decide +kernel
theorem d_Mo_goesOn_158 : decode c_Mo_goesOn 158 = .ok (.iload_n 2, 1) := by decide +kernel
theorem d_Mo_goesOn_159 : decode c_Mo_goesOn 159 = .ok (.invokestatic 129, 3) := by decide +kernel
theorem d_Mo_goesOn_162 : decode c_Mo_goesOn 162 = .ok (.ifCond .eq 18, 3) := by decide +kernel
theorem d_Mo_goesOn_165 : decode c_Mo_goesOn 165 = .ok (.aload_n 0, 1) := by decide +kernel
theorem d_Mo_goesOn_166 : decode c_Mo_goesOn 166 = .ok (.getfield 87, 3) := by decide +kernel
theorem d_Mo_goesOn_169 : decode c_Mo_goesOn 169 = .ok (.iload_n 1, 1) := by decide +kernel
theorem d_Mo_goesOn_170 : decode c_Mo_goesOn 170 = .ok (.if_icmp .le 10, 3) := by decide +kernel
theorem d_Mo_goesOn_173 : decode c_Mo_goesOn 173 = .ok (.aload_n 0, 1) := by decide +kernel
theorem d_Mo_goesOn_174 : decode c_Mo_goesOn 174 = .ok (.invokevirtual 136, 3) := by decide +kernel
theorem d_Mo_goesOn_177 : decode c_Mo_goesOn 177 = .ok (.goto 33, 3) := by decide +kernel
theorem d_Mo_goesOn_180 : decode c_Mo_goesOn 180 = .ok (.aload_n 0, 1) := by decide +kernel
theorem d_Mo_goesOn_181 : decode c_Mo_goesOn 181 = .ok (.getfield 46, 3) := by decide +kernel
theorem d_Mo_goesOn_184 : decode c_Mo_goesOn 184 = .ok (.iload_n 3, 1) := by decide +kernel
theorem d_Mo_goesOn_185 : decode c_Mo_goesOn 185 = .ok (.iaload, 1) := by decide +kernel
theorem d_Mo_goesOn_186 : decode c_Mo_goesOn 186 = .ok (.ifCond .ne 15, 3) := by decide +kernel
theorem d_Mo_goesOn_189 : decode c_Mo_goesOn 189 = .ok (.iload_n 2, 1) := by decide +kernel
theorem d_Mo_goesOn_190 : decode c_Mo_goesOn 190 = .ok (.bipush 10, 2) := by decide +kernel
theorem d_Mo_goesOn_192 : decode c_Mo_goesOn 192 = .ok (.if_icmp .eq 7, 3) := by decide +kernel
theorem d_Mo_goesOn_195 : decode c_Mo_goesOn 195 = .ok (.iload_n 2, 1) := by decide +kernel
theorem d_Mo_goesOn_196 : decode c_Mo_goesOn 196 = .ok (.ifCond .ge 5, 3) := by decide +kernel
theorem d_Mo_goesOn_199 : decode c_Mo_goesOn 199 = .ok (.iconst 0, 1) := by decide +kernel
theorem d_Mo_goesOn_200 : decode c_Mo_goesOn 200 = .ok (.ireturn, 1) := by decide +kernel
theorem d_Mo_goesOn_201 : decode c_Mo_goesOn 201 = .ok (.aload_n 0, 1) := by decide +kernel
theorem d_Mo_goesOn_202 : decode c_Mo_goesOn 202 = .ok (.iconst 1, 1) := by decide +kernel
theorem d_Mo_goesOn_203 : decode c_Mo_goesOn 203 = .ok (.aload_n 0, 1) := by decide +kernel
theorem d_Mo_goesOn_204 : decode c_Mo_goesOn 204 = .ok (.getfield 87, 3) := by decide +kernel
theorem d_Mo_goesOn_207 : decode c_Mo_goesOn 207 = .ok (.invokevirtual 113, 3) := by decide +kernel
theorem d_Mo_goesOn_210 : decode c_Mo_goesOn 210 = .ok (.iconst 1, 1) := by decide +kernel
theorem d_Mo_goesOn_211 : decode c_Mo_goesOn 211 = .ok (.ireturn, 1) := by decide +kernel
theorem d_Mo_readRule_0 : decode c_Mo_readRule 0 = .ok (.aload_n 0, 1) := by decide +kernel
theorem d_Mo_readRule_1 : decode c_Mo_readRule 1 = .ok (.getfield 87, 3) := by decide +kernel
theorem d_Mo_readRule_4 : decode c_Mo_readRule 4 = .ok (.istore_n 1, 1) := by decide +kernel
theorem d_Mo_readRule_5 : decode c_Mo_readRule 5 = .ok (.aload_n 0, 1) := by decide +kernel
theorem d_Mo_readRule_6 : decode c_Mo_readRule 6 = .ok (.invokevirtual 148, 3) := by decide +kernel
theorem d_Mo_readRule_9 : decode c_Mo_readRule 9 = .ok (.istore_n 2, 1) := by decide +kernel
theorem d_Mo_readRule_10 : decode c_Mo_readRule 10 = .ok (.aload_n 0, 1) := by decide +kernel
theorem d_Mo_readRule_11 : decode c_Mo_readRule 11 = .ok (.getfield 90, 3) := by decide +kernel
theorem d_Mo_readRule_14 : decode c_Mo_readRule 14 = .ok (.ifCond .le 4, 3) := by decide +kernel
theorem d_Mo_readRule_17 : decode c_Mo_readRule 17 = .ok (.return_, 1) := by decide +kernel
theorem d_Mo_readRule_18 : decode c_Mo_readRule 18 = .ok (.aload_n 0, 1) := by decide +kernel
theorem d_Mo_readRule_19 : decode c_Mo_readRule 19 = .ok (.invokevirtual 139, 3) := by decide +kernel
theorem d_Mo_readRule_22 : decode c_Mo_readRule 22 = .ok (.aload_n 0, 1) := by decide +kernel
theorem d_Mo_readRule_23 : decode c_Mo_readRule 23 = .ok (.invokevirtual 96, 3) := by decide +kernel
theorem d_Mo_readRule_26 : decode c_Mo_readRule 26 = .ok (.bipush 61, 2) := by decide +kernel
theorem d_Mo_readRule_28 : decode c_Mo_readRule 28 = .ok (.if_icmp .eq 13, 3) := by decide +kernel
theorem d_Mo_readRule_31 : decode c_Mo_readRule 31 = .ok (.aload_n 0, 1) := by decide +kernel
theorem d_Mo_readRule_32 : decode c_Mo_readRule 32 = .ok (.iconst 1, 1) := by decide +kernel
theorem d_Mo_readRule_33 : decode c_Mo_readRule 33 = .ok (.aload_n 0, 1) := by decide +kernel
theorem d_Mo_readRule_34 : decode c_Mo_readRule 34 = .ok (.getfield 87, 3) := by decide +kernel
theorem d_Mo_readRule_37 : decode c_Mo_readRule 37 = .ok (.invokevirtual 113, 3) := by decide +kernel
theorem d_Mo_readRule_40 : decode c_Mo_readRule 40 = .ok (.return_, 1) := by decide +kernel
theorem d_Mo_readRule_41 : decode c_Mo_readRule 41 = .ok (.aload_n 0, 1) := by decide +kernel
theorem d_Mo_readRule_42 : decode c_Mo_readRule 42 = .ok (.dup, 1) := by decide +kernel
theorem d_Mo_readRule_43 : decode c_Mo_readRule 43 = .ok (.getfield 87, 3) := by decide +kernel
theorem d_Mo_readRule_46 : decode c_Mo_readRule 46 = .ok (.iconst 1, 1) := by decide +kernel
theorem d_Mo_readRule_47 : decode c_Mo_readRule 47 = .ok (.iadd, 1) := by decide +kernel
theorem d_Mo_readRule_48 : decode c_Mo_readRule 48 = .ok (.putfield 87, 3) := by decide +kernel
theorem d_Mo_readRule_51 : decode c_Mo_readRule 51 = .ok (.aload_n 0, 1) := by decide +kernel
theorem d_Mo_readRule_52 : decode c_Mo_readRule 52 = .ok (.invokevirtual 96, 3) := by decide +kernel
theorem d_Mo_readRule_55 : decode c_Mo_readRule 55 = .ok (.bipush 47, 2) := by decide +kernel
theorem d_Mo_readRule_57 : decode c_Mo_readRule 57 = .ok (.if_icmp .ne 7, 3) := by decide +kernel
theorem d_Mo_readRule_60 : decode c_Mo_readRule 60 = .ok (.iconst 1, 1) := by decide +kernel
theorem d_Mo_readRule_61 : decode c_Mo_readRule 61 = .ok (.goto 4, 3) := by decide +kernel
theorem d_Mo_readRule_64 : decode c_Mo_readRule 64 = .ok (.iconst 0, 1) := by decide +kernel
theorem d_Mo_readRule_65 : decode c_Mo_readRule 65 = .ok (.istore_n 3, 1) := by decide +kernel
theorem d_Mo_readRule_66 : decode c_Mo_readRule 66 = .ok (.aload_n 0, 1) := by decide +kernel
theorem d_Mo_readRule_67 : decode c_Mo_readRule 67 = .ok (.dup, 1) := by decide +kernel
theorem d_Mo_readRule_68 : decode c_Mo_readRule 68 = .ok (.getfield 87, 3) := by decide +kernel
theorem d_Mo_readRule_71 : decode c_Mo_readRule 71 = .ok (.iload_n 3, 1) := by decide +kernel
theorem d_Mo_readRule_72 : decode c_Mo_readRule 72 = .ok (.ifCond .eq 7, 3) := by decide +kernel
theorem d_Mo_readRule_75 : decode c_Mo_readRule 75 = .ok (.iconst 1, 1) := by decide +kernel
theorem d_Mo_readRule_76 : decode c_Mo_readRule 76 = .ok (.goto 4, 3) := by decide +kernel
theorem d_Mo_readRule_79 : decode c_Mo_readRule 79 = .ok (.iconst 0, 1) := by decide +kernel
theorem d_Mo_readRule_80 : decode c_Mo_readRule 80 = .ok (.iadd, 1) := by decide +kernel
theorem d_Mo_readRule_81 : decode c_Mo_readRule 81 = .ok (.putfield 87, 3) := by decide +kernel
theorem d_Mo_readRule_84 : decode c_Mo_readRule 84 = .ok (.iload_n 3, 1) := by decide +kernel
theorem d_Mo_readRule_85 : decode c_Mo_readRule 85 = .ok (.aload_n 0, 1) := by decide +kernel
theorem d_Mo_readRule_86 : decode c_Mo_readRule 86 = .ok (.getfield 21, 3) := by decide +kernel
theorem d_Mo_readRule_89 : decode c_Mo_readRule 89 = .ok (.iload_n 2, 1) := by decide +kernel
theorem d_Mo_readRule_90 : decode c_Mo_readRule 90 = .ok (.iaload, 1) := by decide +kernel
theorem d_Mo_readRule_91 : decode c_Mo_readRule 91 = .ok (.ifCond .lt 7, 3) := by decide +kernel
theorem d_Mo_readRule_94 : decode c_Mo_readRule 94 = .ok (.iconst 1, 1) := by decide +kernel
theorem d_Mo_readRule_95 : decode c_Mo_readRule 95 = .ok (.goto 4, 3) := by decide +kernel
theorem d_Mo_readRule_98 : decode c_Mo_readRule 98 = .ok (.iconst 0, 1) := by decide +kernel
theorem d_Mo_readRule_99 : decode c_Mo_readRule 99 = .ok (.if_icmp .eq 9, 3) := by decide +kernel
theorem d_Mo_readRule_102 : decode c_Mo_readRule 102 = .ok (.aload_n 0, 1) := by decide +kernel
theorem d_Mo_readRule_103 : decode c_Mo_readRule 103 = .ok (.iconst 1, 1) := by decide +kernel
theorem d_Mo_readRule_104 : decode c_Mo_readRule 104 = .ok (.iload_n 1, 1) := by decide +kernel
theorem d_Mo_readRule_105 : decode c_Mo_readRule 105 = .ok (.invokevirtual 113, 3) := by decide +kernel
theorem d_Mo_readRule_108 : decode c_Mo_readRule 108 = .ok (.aload_n 0, 1) := by decide +kernel
theorem d_Mo_readRule_109 : decode c_Mo_readRule 109 = .ok (.getfield 90, 3) := by decide +kernel
theorem d_Mo_readRule_112 : decode c_Mo_readRule 112 = .ok (.ifCond .le 4, 3) := by decide +kernel
theorem d_Mo_readRule_115 : decode c_Mo_readRule 115 = .ok (.return_, 1) := by decide +kernel
theorem d_Mo_readRule_116 : decode c_Mo_readRule 116 = .ok (.aload_n 0, 1) := by decide +kernel
theorem d_Mo_readRule_117 : decode c_Mo_readRule 117 = .ok (.iconst 0, 1) := by decide +kernel
theorem d_Mo_readRule_118 : decode c_Mo_readRule 118 = .ok (.putfield 123, 3) := by decide +kernel
theorem d_Mo_readRule_121 : decode c_Mo_readRule 121 = .ok (.aload_n 0, 1) := by decide +kernel
theorem d_Mo_readRule_122 : decode c_Mo_readRule 122 = .ok (.iconst 0, 1) := by decide +kernel
theorem d_Mo_readRule_123 : decode c_Mo_readRule 123 = .ok (.iload_n 2, 1) := by decide +kernel
theorem d_Mo_readRule_124 : decode c_Mo_readRule 124 = .ok (.invokevirtual 155, 3) := by decide +kernel
theorem d_Mo_readRule_127 : decode c_Mo_readRule 127 = .ok (.iconst 1, 1) := by decide +kernel
theorem d_Mo_readRule_128 : decode c_Mo_readRule 128 = .ok (.istore 4, 2) := by decide +kernel
theorem d_Mo_readRule_130 : decode c_Mo_readRule 130 = .ok (.aload_n 0, 1) := by decide +kernel
theorem d_Mo_readRule_131 : decode c_Mo_readRule 131 = .ok (.getfield 90, 3) := by decide +kernel
theorem d_Mo_readRule_134 : decode c_Mo_readRule 134 = .ok (.ifCond .ne 36, 3) := by decide +kernel
theorem d_Mo_readRule_137 : decode c_Mo_readRule 137 = .ok (.iload 4, 2) := by decide +kernel
theorem d_Mo_readRule_139 : decode c_Mo_readRule 139 = .ok (.ifCond .eq 31, 3) := by decide +kernel
theorem d_Mo_readRule_142 : decode c_Mo_readRule 142 = .ok (.aload_n 0, 1) := by decide +kernel
theorem d_Mo_readRule_143 : decode c_Mo_readRule 143 = .ok (.getfield 142, 3) := by decide +kernel
theorem d_Mo_readRule_146 : decode c_Mo_readRule 146 = .ok (.ifCond .eq 15, 3) := by decide +kernel
theorem d_Mo_readRule_149 : decode c_Mo_readRule 149 = .ok (.aload_n 0, 1) := by decide +kernel
theorem d_Mo_readRule_150 : decode c_Mo_readRule 150 = .ok (.iconst 0, 1) := by decide +kernel
theorem d_Mo_readRule_151 : decode c_Mo_readRule 151 = .ok (.putfield 142, 3) := by decide +kernel
theorem d_Mo_readRule_154 : decode c_Mo_readRule 154 = .ok (.aload_n 0, 1) := by decide +kernel
theorem d_Mo_readRule_155 : decode c_Mo_readRule 155 = .ok (.invokevirtual 174, 3) := by decide +kernel
theorem d_Mo_readRule_158 : decode c_Mo_readRule 158 = .ok (.goto (-28), 3) := by decide +kernel
theorem d_Mo_readRule_161 : decode c_Mo_readRule 161 = .ok (.aload_n 0, 1) := by decide +kernel
theorem d_Mo_readRule_162 : decode c_Mo_readRule 162 = .ok (.invokevirtual 176, 3) := by decide +kernel
theorem d_Mo_readRule_165 : decode c_Mo_readRule 165 = .ok (.istore 4, 2) := by decide +kernel
theorem d_Mo_readRule_167 : decode c_Mo_readRule 167 = .ok (.goto (-37), 3) := by decide +kernel
theorem d_Mo_readRule_170 : decode c_Mo_readRule 170 = .ok (.return_, 1) := by decide +kernel
def FinS (L G : Nat) (T : Nat → Int32) (a : Nat) (J : Nat → Int32) (A : Nat → Nat → Int32) : Prop := ∃ u R E : Nat, (J 1 = nI L ∧ J 24 = nI G ∧ J 16 = nI a ∧ J 17 = 0 ∧ J 14 = nI u ∧ J 4 = nI R ∧ J 7 = nI E) ∧ (L ≤ 240 ∧ a ≤ L ∧ u ≤ a ∧ R ≤ 12 ∧ E ≤ 100) ∧ A 225 = T ∧ Gd R E u A
def OI (L G : Nat) (J : Nat → Int32) (A : Nat → Nat → Int32) : Prop := J 1 = nI L ∧ J 24 = nI G ∧ ∃ u R E : Nat, J 4 = nI R ∧ J 7 = nI E ∧ R ≤ 12 ∧ E ≤ 100 ∧ u ≤ 240 ∧ Gd R E u A
theorem Gd.zero {u : Nat} {A : Nat → Nat → Int32} : Gd 0 0 u A := ⟨fun _ h => by omega, fun _ h => by omega, fun _ h => by omega, fun _ h => by omega⟩
theorem Inv.toF {R E u f : Nat} {q : Prop} {c s t : Nat → Nat} {A : Nat → Nat → Int32} {X : Nat → Prop} (h : Inv R E u f q c s t A X) : Inv R E u f False c s t A X :=
  ⟨h.1, h.2.1, h.2.2.1, h.2.2.2.1, fun g hg => ⟨(h.2.2.2.2 g hg).1, (h.2.2.2.2 g hg).2.1, (h.2.2.2.2 g hg).2.2.1, fun w => (h.2.2.2.2 g hg).2.2.2.1 (w.elim Or.inl (fun z => z.elim)), (h.2.2.2.2 g hg).2.2.2.2⟩⟩
theorem Inv.toT {R E u f : Nat} {q : Prop} {c s t : Nat → Nat} {A : Nat → Nat → Int32} {X : Nat → Prop} (hq : q) (h : Inv R E u f q c s t A X) : Inv R E u f True c s t A X :=
  ⟨h.1, h.2.1, h.2.2.1, h.2.2.2.1, fun g hg => ⟨(h.2.2.2.2 g hg).1, (h.2.2.2.2 g hg).2.1, (h.2.2.2.2 g hg).2.2.1, fun _ => (h.2.2.2.2 g hg).2.2.2.1 (Or.inr hq), (h.2.2.2.2 g hg).2.2.2.2⟩⟩
set_option maxHeartbeats 4000000 in
set_option maxRecDepth 100000 in
theorem m_Mo_goesOn (l : Launch) {D : va_G} {cy : Nat → ClassId} {sz n : Nat} {ad : Nat → Nat} {mem : Nat → va_E} {J : Nat → Int32} {A : Nat → Nat → Int32} {nm : Nat → Int64} {m0 : Nat → va_E} {L G a u R f : Nat} {T : Nat → Int32} {fc fs ft : Nat → Nat} {Ec : Nat} (hn : 242 ≤ n) (hM : MW cy ad J A nm m0 mem) (hNm : Num L G a u R Ec f J) (hBd : L ≤ 240 ∧ a ≤ L ∧ u ≤ a ∧ R ≤ 12 ∧ f ≤ 6) (hEb : Ec ≤ 100) (hT : A 225 = T) (hp : J 28 = 0) (hI : Inv R Ec u f True fc fs ft A (fun _ => False)) (h39 : A 239 f = -1) : MI l D cy sz n ad y_Mo_goesOn c_Mo_goesOn 5 (some .boolean) ({ frames := 8, cells := 0, slots := 0, locals := 230 } : Room) mem [.ref (ad 224)] (fun r mem' => ∃ J' A' nm', MW cy ad J' A' nm' m0 mem' ∧ ((r = 1 ∧ Res L G T a J' A') ∨ (r = 0 ∧ ∃ a', a ≤ a' ∧ FinS L G T a' J' A'))) := by
  refine Met.ofW (cc := c_Mo_goesOn) (maxL := 5) (ret := (some .boolean)) (by decide) rfl ?_
  intro p e s m args below meth c s₁ B hml hv
  obtain ⟨rfl, E, hP, hD⟩ := hv
  have hx := B.exec
  have hb := B.bytes
  have hr := B.returns
  have hlocks := B.notSynchronized
  have Bx : MB p s m [.ref (ad 224)].toArray c c_Mo_goesOn "AbnfChartModel" D cy := ⟨hx, hb, tb_all (atoms_spec B.pre) E.2.1, findClass_of_methodNamed B.named, E.1⟩
  have hS : va_S (Az sz) s.heap s.heap [] := va_S.rf
  have hl := lv_entry ([.ref (ad 224)]) (n := 5) (Nat.le_of_ble_eq_true rfl)
  rw [lg_entry_eq]
  generalize (lg_sl ([.ref (ad 224)]) ++ List.replicate (5 - (lg_sl ([.ref (ad 224)])).length) Slot.unset).toArray = ls at hl ⊢
  have hl : lv_has ls 5 [(0, .ref (ad 224))] := hl
  obtain ⟨hL, haL, huA, hRb, hfb⟩ := hBd
  obtain ⟨g1, g2, g3, g4, g5, g6, g7, g8⟩ := hNm
  have hfg := hI.2.2.2.2 f (Nat.le_refl _)
  have hfs := hfg.2.2.2.1 (Or.inr trivial)
  refine lv_aload_n Bx.1 Bx.2.1 d_Mo_goesOn_0 rfl (lv_at hl 0 rfl) ?_
  refine f_get Bx hP (by omega) hM.1 rfl inMo 16 (by decide) kw_672 rfl rfl d_Mo_goesOn_1 ?_
  rw [g3]
  refine lv_istore_n (lv' := [(1, .int (nI a)), (0, .ref (ad 224))]) Bx.1 Bx.2.1 d_Mo_goesOn_4 rfl hl (by decide) rfl (fun ls hl => ?_)
  refine lv_aload_n Bx.1 Bx.2.1 d_Mo_goesOn_5 rfl (lv_at hl 1 rfl) ?_
  refine f_callVv (na := 0) (As := []) (rest := []) Bx hml E hP hD hS (by omega) hM.1 rfl (m_Mo_gap l hn hM g1 hL g3 (by omega)) kw_803 kw_805 sel_Mo_gap kw_8 kw_806 (by decide +kernel) ⟨rfl, rfl⟩ ⟨Nat.le_of_ble_eq_true rfl, Nat.le_of_ble_eq_true rfl⟩ rfl hl.1 (Nat.le_of_ble_eq_true rfl) d_Mo_goesOn_6 ⟨Nat.le_of_ble_eq_true rfl, Nat.le_of_ble_eq_true rfl⟩ (fun mem10 H locs hq hP hS => ?_)
  have hD : va_D (Az sz) (fw n ad mem10) := fw_D hD
  obtain ⟨a11, hg12, hg13, hW14⟩ := hq
  obtain ⟨J15, eJ15⟩ : ∃ z, z = va_up J 16 (nI a11) := ⟨_, rfl⟩
  rw [← eJ15] at hW14
  have kk16 : J15 1 = nI L := (show J15 1 = J 1 from by rw [eJ15]; rfl).trans g1
  have kk17 : J15 24 = nI G := (show J15 24 = J 24 from by rw [eJ15]; rfl).trans g2
  have kk18 : J15 17 = 0 := (show J15 17 = J 17 from by rw [eJ15]; rfl).trans g4
  have kk19 : J15 14 = nI u := (show J15 14 = J 14 from by rw [eJ15]; rfl).trans g5
  have kk20 : J15 4 = nI R := (show J15 4 = J 4 from by rw [eJ15]; rfl).trans g6
  have kk21 : J15 7 = nI Ec := (show J15 7 = J 7 from by rw [eJ15]; rfl).trans g7
  have kk22 : J15 18 = nI (f + 1) := (show J15 18 = J 18 from by rw [eJ15]; rfl).trans g8
  have kk23 : J15 28 = 0 := (show J15 28 = J 28 from by rw [eJ15]; rfl).trans hp
  have kk24 : J15 16 = nI a11 := by rw [eJ15, va_up_self]
  refine lv_aload_n Bx.1 Bx.2.1 d_Mo_goesOn_9 rfl (lv_at hl 1 rfl) ?_
  refine f_callVi (na := 0) (As := []) (rest := []) Bx hml E hP hD hS (by omega) hW14.1 rfl (m_Mo_here l hn hW14 kk16 hL kk24 (by omega)) kw_778 kw_780 sel_Mo_here kw_8 kw_781 (by decide +kernel) ⟨rfl, rfl⟩ ⟨Nat.le_of_ble_eq_true rfl, Nat.le_of_ble_eq_true rfl⟩ rfl hl.1 (Nat.le_of_ble_eq_true rfl) d_Mo_goesOn_10 ⟨Nat.le_of_ble_eq_true rfl, Nat.le_of_ble_eq_true rfl⟩ (fun r25 mem26 H locs hq hP hS => ?_)
  have hD : va_D (Az sz) (fw n ad mem26) := fw_D hD
  obtain ⟨hre, hq⟩ := hq
  rw [hq] at hP hD
  subst hre
  rw [show hereF L (A 225) (a11) = hereF L T (a11) by rw [hT]]
  refine lv_istore_n (lv' := [(2, .int (hereF L T (a11))), (1, .int (nI a)), (0, .ref (ad 224))]) Bx.1 Bx.2.1 d_Mo_goesOn_13 rfl hl (by decide) rfl (fun ls hl => ?_)
  refine lv_aload_n Bx.1 Bx.2.1 d_Mo_goesOn_14 rfl (lv_at hl 2 rfl) ?_
  refine f_get Bx hP (by omega) hW14.1 rfl inMo 18 (by decide) kw_674 rfl rfl d_Mo_goesOn_15 ?_
  rw [kk22]
  refine lv_iconst (v := 1) Bx.1 Bx.2.1 d_Mo_goesOn_18 (by decide) ?_
  refine lv_isub Bx.1 Bx.2.1 d_Mo_goesOn_19 ?_
  rw [show nI (f + 1) - 1 = nI (f) from nI_pred (f)]
  refine lv_istore_n (lv' := [(3, .int (nI (f))), (2, .int (hereF L T (a11))), (1, .int (nI a)), (0, .ref (ad 224))]) Bx.1 Bx.2.1 d_Mo_goesOn_20 rfl hl (by decide) rfl (fun ls hl => ?_)
  refine lv_iload_n Bx.1 Bx.2.1 d_Mo_goesOn_21 rfl (lv_at hl 1 rfl) ?_
  refine lv_bipush (v := 47) Bx.1 Bx.2.1 d_Mo_goesOn_22 (by decide) ?_
  refine lv_icmp_ne Bx.1 Bx.2.1 d_Mo_goesOn_24 rfl (fun hb27 => ?_) (fun hb27 => ?_)
  · refine lv_iload_n Bx.1 Bx.2.1 d_Mo_goesOn_48 rfl (lv_at hl 1 rfl) ?_
    refine lv_bipush (v := 41) Bx.1 Bx.2.1 d_Mo_goesOn_49 (by decide) ?_
    refine lv_icmp_ne Bx.1 Bx.2.1 d_Mo_goesOn_51 rfl (fun hb28 => ?_) (fun hb28 => ?_)
    · refine lv_iload_n Bx.1 Bx.2.1 d_Mo_goesOn_64 rfl (lv_at hl 1 rfl) ?_
      refine lv_bipush (v := 93) Bx.1 Bx.2.1 d_Mo_goesOn_65 (by decide) ?_
      refine lv_icmp_ne Bx.1 Bx.2.1 d_Mo_goesOn_67 rfl (fun hb29 => ?_) (fun hb29 => ?_)
      · refine lv_iload_n Bx.1 Bx.2.1 d_Mo_goesOn_158 rfl (lv_at hl 1 rfl) ?_
        refine f_callSi (na := 1) (As := [.int (hereF L T (a11))]) (rest := []) Bx hml E.2.1 (m_Mo_begins l (hereF L T (a11))) kw_811 kw_812 kw_8 kw_813 (by decide +kernel) ⟨rfl, rfl⟩ ⟨Nat.le_of_ble_eq_true rfl, Nat.le_of_ble_eq_true rfl⟩ rfl hl.1 (Nat.le_of_ble_eq_true rfl) d_Mo_goesOn_159 ⟨Nat.le_of_ble_eq_true rfl, Nat.le_of_ble_eq_true rfl⟩ (fun r31 hs30 => ?_)
        refine lv_if_eq Bx.1 Bx.2.1 d_Mo_goesOn_162 rfl (fun hb32 => ?_) (fun hb32 => ?_)
        · refine lv_aload_n Bx.1 Bx.2.1 d_Mo_goesOn_180 rfl (lv_at hl 3 rfl) ?_
          refine f_get Bx hP (by omega) hW14.1 rfl inMo 19 (by decide) kw_675 rfl rfl d_Mo_goesOn_181 ?_
          refine lv_iload_n Bx.1 Bx.2.1 d_Mo_goesOn_184 rfl (lv_at hl 0 rfl) ?_
          refine f_iald Bx hP (by omega) (show mem10 235 = .inl (cy 1, 8, .inl (A 235)) from hW14.2.2.1 235 (by decide) (by decide) (by decide)) (vp_in_nI (n := f) (by omega) (by decide)) d_Mo_goesOn_185 ?_
          rw [nI_clamp (n := f) (by omega)]
          refine lv_if_ne Bx.1 Bx.2.1 d_Mo_goesOn_186 rfl (fun hb33 => ?_) (fun hb33 => ?_)
          · refine lv_aload_n Bx.1 Bx.2.1 d_Mo_goesOn_201 rfl (lv_at hl 3 rfl) ?_
            refine lv_iconst (v := 1) Bx.1 Bx.2.1 d_Mo_goesOn_202 (by decide) ?_
            refine lv_aload_n Bx.1 Bx.2.1 d_Mo_goesOn_203 rfl (lv_at hl 3 rfl) ?_
            refine f_get Bx hP (by omega) hW14.1 rfl inMo 16 (by decide) kw_672 rfl rfl d_Mo_goesOn_204 ?_
            rw [kk24]
            refine f_callVv (na := 2) (As := [.int (1), .int (nI a11)]) (rest := []) Bx hml E hP hD hS (by omega) hW14.1 rfl (m_Mo_wrong l hn hW14 (Or.inl kk18) (by first | exact Or.inl rfl | exact Or.inr rfl)) kw_799 kw_801 sel_Mo_wrong kw_8 kw_802 (by decide +kernel) ⟨rfl, rfl⟩ ⟨Nat.le_of_ble_eq_true rfl, Nat.le_of_ble_eq_true rfl⟩ rfl hl.1 (Nat.le_of_ble_eq_true rfl) d_Mo_goesOn_207 ⟨Nat.le_of_ble_eq_true rfl, Nat.le_of_ble_eq_true rfl⟩ (fun mem35 H locs hq hP hS => ?_)
            have hD : va_D (Az sz) (fw n ad mem35) := fw_D hD
            obtain ⟨J36, hW37, hwr38⟩ := hq
            have kk39 : J36 1 = nI L := (show J36 1 = J15 1 from hwr38.2 1 (by decide) (by decide)).trans kk16
            have kk40 : J36 24 = nI G := (show J36 24 = J15 24 from hwr38.2 24 (by decide) (by decide)).trans kk17
            have kk41 : J36 14 = nI u := (show J36 14 = J15 14 from hwr38.2 14 (by decide) (by decide)).trans kk19
            have kk42 : J36 4 = nI R := (show J36 4 = J15 4 from hwr38.2 4 (by decide) (by decide)).trans kk20
            have kk43 : J36 7 = nI Ec := (show J36 7 = J15 7 from hwr38.2 7 (by decide) (by decide)).trans kk21
            have kk44 : J36 18 = nI (f + 1) := (show J36 18 = J15 18 from hwr38.2 18 (by decide) (by decide)).trans kk22
            have kk45 : J36 28 = 0 := (show J36 28 = J15 28 from hwr38.2 28 (by decide) (by decide)).trans kk23
            have kk46 : J36 16 = nI a11 := (show J36 16 = J15 16 from hwr38.2 16 (by decide) (by decide)).trans kk24
            refine lv_iconst (v := 1) Bx.1 Bx.2.1 d_Mo_goesOn_210 (by decide) ?_
            exact W.zret (v := 1) hx hb hr rfl (fun t ht hW => ⟨⟨1, mem35, rfl, ⟨J36, A, nm, hW37, Or.inl ⟨rfl, Or.inl ⟨kk39, kk40, hT, hwr38.1, _, by omega, kk46⟩⟩⟩, by show va_P _ _ _ t.heap; rw [ht]; exact hP⟩, hS.F ht⟩) hS.2.2 d_Mo_goesOn_211
          · have hf0 : f = 0 := by
              by_cases z : f = 0
              · exact z
              · have hso0 : A 235 f = 0 := hb33
                rcases hfg.2.2.1 (by omega) with y | y
                · rw [y.1] at hso0; exact absurd hso0 (by decide)
                · rw [y.1] at hso0; exact absurd hso0 (by decide)
            refine lv_iload_n Bx.1 Bx.2.1 d_Mo_goesOn_189 rfl (lv_at hl 1 rfl) ?_
            refine lv_bipush (v := 10) Bx.1 Bx.2.1 d_Mo_goesOn_190 (by decide) ?_
            refine lv_icmp_eq Bx.1 Bx.2.1 d_Mo_goesOn_192 rfl (fun hb47 => ?_) (fun hb47 => ?_)
            · have hlt48 := hereF_lt (by rw [hb47]; decide)
              refine lv_iconst (v := 0) Bx.1 Bx.2.1 d_Mo_goesOn_199 (by decide) ?_
              have hI0 : Inv R Ec u 0 True fc fs ft A (fun _ => False) := by rw [← hf0]; exact hI
              have h390 : A 239 0 = -1 := by rw [← hf0]; exact h39
              exact W.zret (v := 0) hx hb hr rfl (fun t ht hW => ⟨⟨0, mem10, rfl, ⟨J15, A, nm, hW14, Or.inr ⟨rfl, _, by omega, u, R, Ec, ⟨kk16, kk17, kk24, kk18, kk19, kk20, kk21⟩, ⟨by omega, by omega, by omega, by omega, by omega⟩, hT, hI0.base hEb h390⟩⟩, by show va_P _ _ _ t.heap; rw [ht]; exact hP⟩, hS.F ht⟩) hS.2.2 d_Mo_goesOn_200
            · refine lv_iload_n Bx.1 Bx.2.1 d_Mo_goesOn_195 rfl (lv_at hl 1 rfl) ?_
              refine lv_if_ge Bx.1 Bx.2.1 d_Mo_goesOn_196 rfl (fun hb49 => ?_) (fun hb49 => ?_)
              · refine lv_aload_n Bx.1 Bx.2.1 d_Mo_goesOn_201 rfl (lv_at hl 3 rfl) ?_
                refine lv_iconst (v := 1) Bx.1 Bx.2.1 d_Mo_goesOn_202 (by decide) ?_
                refine lv_aload_n Bx.1 Bx.2.1 d_Mo_goesOn_203 rfl (lv_at hl 3 rfl) ?_
                refine f_get Bx hP (by omega) hW14.1 rfl inMo 16 (by decide) kw_672 rfl rfl d_Mo_goesOn_204 ?_
                rw [kk24]
                refine f_callVv (na := 2) (As := [.int (1), .int (nI a11)]) (rest := []) Bx hml E hP hD hS (by omega) hW14.1 rfl (m_Mo_wrong l hn hW14 (Or.inl kk18) (by first | exact Or.inl rfl | exact Or.inr rfl)) kw_799 kw_801 sel_Mo_wrong kw_8 kw_802 (by decide +kernel) ⟨rfl, rfl⟩ ⟨Nat.le_of_ble_eq_true rfl, Nat.le_of_ble_eq_true rfl⟩ rfl hl.1 (Nat.le_of_ble_eq_true rfl) d_Mo_goesOn_207 ⟨Nat.le_of_ble_eq_true rfl, Nat.le_of_ble_eq_true rfl⟩ (fun mem51 H locs hq hP hS => ?_)
                have hD : va_D (Az sz) (fw n ad mem51) := fw_D hD
                obtain ⟨J52, hW53, hwr54⟩ := hq
                have kk55 : J52 1 = nI L := (show J52 1 = J15 1 from hwr54.2 1 (by decide) (by decide)).trans kk16
                have kk56 : J52 24 = nI G := (show J52 24 = J15 24 from hwr54.2 24 (by decide) (by decide)).trans kk17
                have kk57 : J52 14 = nI u := (show J52 14 = J15 14 from hwr54.2 14 (by decide) (by decide)).trans kk19
                have kk58 : J52 4 = nI R := (show J52 4 = J15 4 from hwr54.2 4 (by decide) (by decide)).trans kk20
                have kk59 : J52 7 = nI Ec := (show J52 7 = J15 7 from hwr54.2 7 (by decide) (by decide)).trans kk21
                have kk60 : J52 18 = nI (f + 1) := (show J52 18 = J15 18 from hwr54.2 18 (by decide) (by decide)).trans kk22
                have kk61 : J52 28 = 0 := (show J52 28 = J15 28 from hwr54.2 28 (by decide) (by decide)).trans kk23
                have kk62 : J52 16 = nI a11 := (show J52 16 = J15 16 from hwr54.2 16 (by decide) (by decide)).trans kk24
                refine lv_iconst (v := 1) Bx.1 Bx.2.1 d_Mo_goesOn_210 (by decide) ?_
                exact W.zret (v := 1) hx hb hr rfl (fun t ht hW => ⟨⟨1, mem51, rfl, ⟨J52, A, nm, hW53, Or.inl ⟨rfl, Or.inl ⟨kk55, kk56, hT, hwr54.1, _, by omega, kk62⟩⟩⟩, by show va_P _ _ _ t.heap; rw [ht]; exact hP⟩, hS.F ht⟩) hS.2.2 d_Mo_goesOn_211
              · refine lv_iconst (v := 0) Bx.1 Bx.2.1 d_Mo_goesOn_199 (by decide) ?_
                have hI0 : Inv R Ec u 0 True fc fs ft A (fun _ => False) := by rw [← hf0]; exact hI
                have h390 : A 239 0 = -1 := by rw [← hf0]; exact h39
                exact W.zret (v := 0) hx hb hr rfl (fun t ht hW => ⟨⟨0, mem10, rfl, ⟨J15, A, nm, hW14, Or.inr ⟨rfl, _, by omega, u, R, Ec, ⟨kk16, kk17, kk24, kk18, kk19, kk20, kk21⟩, ⟨by omega, by omega, by omega, by omega, by omega⟩, hT, hI0.base hEb h390⟩⟩, by show va_P _ _ _ t.heap; rw [ht]; exact hP⟩, hS.F ht⟩) hS.2.2 d_Mo_goesOn_200
        · refine lv_aload_n Bx.1 Bx.2.1 d_Mo_goesOn_165 rfl (lv_at hl 3 rfl) ?_
          refine f_get Bx hP (by omega) hW14.1 rfl inMo 16 (by decide) kw_672 rfl rfl d_Mo_goesOn_166 ?_
          rw [kk24]
          refine lv_iload_n Bx.1 Bx.2.1 d_Mo_goesOn_169 rfl (lv_at hl 2 rfl) ?_
          refine lv_icmp_le Bx.1 Bx.2.1 d_Mo_goesOn_170 rfl (fun hb63 => ?_) (fun hb63 => ?_)
          · have hN64 : a11 ≤ a := (nI_leI (by omega) (by omega)).mp (show nI (a11) ≤ nI (a) from hb63)
            refine lv_aload_n Bx.1 Bx.2.1 d_Mo_goesOn_180 rfl (lv_at hl 3 rfl) ?_
            refine f_get Bx hP (by omega) hW14.1 rfl inMo 19 (by decide) kw_675 rfl rfl d_Mo_goesOn_181 ?_
            refine lv_iload_n Bx.1 Bx.2.1 d_Mo_goesOn_184 rfl (lv_at hl 0 rfl) ?_
            refine f_iald Bx hP (by omega) (show mem10 235 = .inl (cy 1, 8, .inl (A 235)) from hW14.2.2.1 235 (by decide) (by decide) (by decide)) (vp_in_nI (n := f) (by omega) (by decide)) d_Mo_goesOn_185 ?_
            rw [nI_clamp (n := f) (by omega)]
            refine lv_if_ne Bx.1 Bx.2.1 d_Mo_goesOn_186 rfl (fun hb65 => ?_) (fun hb65 => ?_)
            · refine lv_aload_n Bx.1 Bx.2.1 d_Mo_goesOn_201 rfl (lv_at hl 3 rfl) ?_
              refine lv_iconst (v := 1) Bx.1 Bx.2.1 d_Mo_goesOn_202 (by decide) ?_
              refine lv_aload_n Bx.1 Bx.2.1 d_Mo_goesOn_203 rfl (lv_at hl 3 rfl) ?_
              refine f_get Bx hP (by omega) hW14.1 rfl inMo 16 (by decide) kw_672 rfl rfl d_Mo_goesOn_204 ?_
              rw [kk24]
              refine f_callVv (na := 2) (As := [.int (1), .int (nI a11)]) (rest := []) Bx hml E hP hD hS (by omega) hW14.1 rfl (m_Mo_wrong l hn hW14 (Or.inl kk18) (by first | exact Or.inl rfl | exact Or.inr rfl)) kw_799 kw_801 sel_Mo_wrong kw_8 kw_802 (by decide +kernel) ⟨rfl, rfl⟩ ⟨Nat.le_of_ble_eq_true rfl, Nat.le_of_ble_eq_true rfl⟩ rfl hl.1 (Nat.le_of_ble_eq_true rfl) d_Mo_goesOn_207 ⟨Nat.le_of_ble_eq_true rfl, Nat.le_of_ble_eq_true rfl⟩ (fun mem67 H locs hq hP hS => ?_)
              have hD : va_D (Az sz) (fw n ad mem67) := fw_D hD
              obtain ⟨J68, hW69, hwr70⟩ := hq
              have kk71 : J68 1 = nI L := (show J68 1 = J15 1 from hwr70.2 1 (by decide) (by decide)).trans kk16
              have kk72 : J68 24 = nI G := (show J68 24 = J15 24 from hwr70.2 24 (by decide) (by decide)).trans kk17
              have kk73 : J68 14 = nI u := (show J68 14 = J15 14 from hwr70.2 14 (by decide) (by decide)).trans kk19
              have kk74 : J68 4 = nI R := (show J68 4 = J15 4 from hwr70.2 4 (by decide) (by decide)).trans kk20
              have kk75 : J68 7 = nI Ec := (show J68 7 = J15 7 from hwr70.2 7 (by decide) (by decide)).trans kk21
              have kk76 : J68 18 = nI (f + 1) := (show J68 18 = J15 18 from hwr70.2 18 (by decide) (by decide)).trans kk22
              have kk77 : J68 28 = 0 := (show J68 28 = J15 28 from hwr70.2 28 (by decide) (by decide)).trans kk23
              have kk78 : J68 16 = nI a11 := (show J68 16 = J15 16 from hwr70.2 16 (by decide) (by decide)).trans kk24
              refine lv_iconst (v := 1) Bx.1 Bx.2.1 d_Mo_goesOn_210 (by decide) ?_
              exact W.zret (v := 1) hx hb hr rfl (fun t ht hW => ⟨⟨1, mem67, rfl, ⟨J68, A, nm, hW69, Or.inl ⟨rfl, Or.inl ⟨kk71, kk72, hT, hwr70.1, _, by omega, kk78⟩⟩⟩, by show va_P _ _ _ t.heap; rw [ht]; exact hP⟩, hS.F ht⟩) hS.2.2 d_Mo_goesOn_211
            · have hf0 : f = 0 := by
                by_cases z : f = 0
                · exact z
                · have hso0 : A 235 f = 0 := hb65
                  rcases hfg.2.2.1 (by omega) with y | y
                  · rw [y.1] at hso0; exact absurd hso0 (by decide)
                  · rw [y.1] at hso0; exact absurd hso0 (by decide)
              refine lv_iload_n Bx.1 Bx.2.1 d_Mo_goesOn_189 rfl (lv_at hl 1 rfl) ?_
              refine lv_bipush (v := 10) Bx.1 Bx.2.1 d_Mo_goesOn_190 (by decide) ?_
              refine lv_icmp_eq Bx.1 Bx.2.1 d_Mo_goesOn_192 rfl (fun hb79 => ?_) (fun hb79 => ?_)
              · have hlt80 := hereF_lt (by rw [hb79]; decide)
                refine lv_iconst (v := 0) Bx.1 Bx.2.1 d_Mo_goesOn_199 (by decide) ?_
                have hI0 : Inv R Ec u 0 True fc fs ft A (fun _ => False) := by rw [← hf0]; exact hI
                have h390 : A 239 0 = -1 := by rw [← hf0]; exact h39
                exact W.zret (v := 0) hx hb hr rfl (fun t ht hW => ⟨⟨0, mem10, rfl, ⟨J15, A, nm, hW14, Or.inr ⟨rfl, _, by omega, u, R, Ec, ⟨kk16, kk17, kk24, kk18, kk19, kk20, kk21⟩, ⟨by omega, by omega, by omega, by omega, by omega⟩, hT, hI0.base hEb h390⟩⟩, by show va_P _ _ _ t.heap; rw [ht]; exact hP⟩, hS.F ht⟩) hS.2.2 d_Mo_goesOn_200
              · refine lv_iload_n Bx.1 Bx.2.1 d_Mo_goesOn_195 rfl (lv_at hl 1 rfl) ?_
                refine lv_if_ge Bx.1 Bx.2.1 d_Mo_goesOn_196 rfl (fun hb81 => ?_) (fun hb81 => ?_)
                · refine lv_aload_n Bx.1 Bx.2.1 d_Mo_goesOn_201 rfl (lv_at hl 3 rfl) ?_
                  refine lv_iconst (v := 1) Bx.1 Bx.2.1 d_Mo_goesOn_202 (by decide) ?_
                  refine lv_aload_n Bx.1 Bx.2.1 d_Mo_goesOn_203 rfl (lv_at hl 3 rfl) ?_
                  refine f_get Bx hP (by omega) hW14.1 rfl inMo 16 (by decide) kw_672 rfl rfl d_Mo_goesOn_204 ?_
                  rw [kk24]
                  refine f_callVv (na := 2) (As := [.int (1), .int (nI a11)]) (rest := []) Bx hml E hP hD hS (by omega) hW14.1 rfl (m_Mo_wrong l hn hW14 (Or.inl kk18) (by first | exact Or.inl rfl | exact Or.inr rfl)) kw_799 kw_801 sel_Mo_wrong kw_8 kw_802 (by decide +kernel) ⟨rfl, rfl⟩ ⟨Nat.le_of_ble_eq_true rfl, Nat.le_of_ble_eq_true rfl⟩ rfl hl.1 (Nat.le_of_ble_eq_true rfl) d_Mo_goesOn_207 ⟨Nat.le_of_ble_eq_true rfl, Nat.le_of_ble_eq_true rfl⟩ (fun mem83 H locs hq hP hS => ?_)
                  have hD : va_D (Az sz) (fw n ad mem83) := fw_D hD
                  obtain ⟨J84, hW85, hwr86⟩ := hq
                  have kk87 : J84 1 = nI L := (show J84 1 = J15 1 from hwr86.2 1 (by decide) (by decide)).trans kk16
                  have kk88 : J84 24 = nI G := (show J84 24 = J15 24 from hwr86.2 24 (by decide) (by decide)).trans kk17
                  have kk89 : J84 14 = nI u := (show J84 14 = J15 14 from hwr86.2 14 (by decide) (by decide)).trans kk19
                  have kk90 : J84 4 = nI R := (show J84 4 = J15 4 from hwr86.2 4 (by decide) (by decide)).trans kk20
                  have kk91 : J84 7 = nI Ec := (show J84 7 = J15 7 from hwr86.2 7 (by decide) (by decide)).trans kk21
                  have kk92 : J84 18 = nI (f + 1) := (show J84 18 = J15 18 from hwr86.2 18 (by decide) (by decide)).trans kk22
                  have kk93 : J84 28 = 0 := (show J84 28 = J15 28 from hwr86.2 28 (by decide) (by decide)).trans kk23
                  have kk94 : J84 16 = nI a11 := (show J84 16 = J15 16 from hwr86.2 16 (by decide) (by decide)).trans kk24
                  refine lv_iconst (v := 1) Bx.1 Bx.2.1 d_Mo_goesOn_210 (by decide) ?_
                  exact W.zret (v := 1) hx hb hr rfl (fun t ht hW => ⟨⟨1, mem83, rfl, ⟨J84, A, nm, hW85, Or.inl ⟨rfl, Or.inl ⟨kk87, kk88, hT, hwr86.1, _, by omega, kk94⟩⟩⟩, by show va_P _ _ _ t.heap; rw [ht]; exact hP⟩, hS.F ht⟩) hS.2.2 d_Mo_goesOn_211
                · refine lv_iconst (v := 0) Bx.1 Bx.2.1 d_Mo_goesOn_199 (by decide) ?_
                  have hI0 : Inv R Ec u 0 True fc fs ft A (fun _ => False) := by rw [← hf0]; exact hI
                  have h390 : A 239 0 = -1 := by rw [← hf0]; exact h39
                  exact W.zret (v := 0) hx hb hr rfl (fun t ht hW => ⟨⟨0, mem10, rfl, ⟨J15, A, nm, hW14, Or.inr ⟨rfl, _, by omega, u, R, Ec, ⟨kk16, kk17, kk24, kk18, kk19, kk20, kk21⟩, ⟨by omega, by omega, by omega, by omega, by omega⟩, hT, hI0.base hEb h390⟩⟩, by show va_P _ _ _ t.heap; rw [ht]; exact hP⟩, hS.F ht⟩) hS.2.2 d_Mo_goesOn_200
          · have hN95 : ¬ a11 ≤ a := fun q9 => hb63 (show nI (a11) ≤ nI (a) from (nI_leI (by omega) (by omega)).mpr q9)
            refine lv_aload_n Bx.1 Bx.2.1 d_Mo_goesOn_173 rfl (lv_at hl 3 rfl) ?_
            refine f_callVv (na := 0) (As := []) (rest := []) Bx hml E hP hD hS (by omega) hW14.1 rfl (m_Mo_repetition l hn hW14 ⟨kk16, kk17, kk24, kk18, kk19, kk20, kk21, kk22⟩ ⟨hL, by omega, by omega, by omega, by omega⟩ (by omega) hT kk23 hI h39) kw_826 kw_828 sel_Mo_repetition kw_8 kw_829 (by decide +kernel) ⟨rfl, rfl⟩ ⟨Nat.le_of_ble_eq_true rfl, Nat.le_of_ble_eq_true rfl⟩ rfl hl.1 (Nat.le_of_ble_eq_true rfl) d_Mo_goesOn_174 ⟨Nat.le_of_ble_eq_true rfl, Nat.le_of_ble_eq_true rfl⟩ (fun mem97 H locs hq hP hS => ?_)
            have hD : va_D (Az sz) (fw n ad mem97) := fw_D hD
            obtain ⟨J98, A99, nn100, hW101, hres102⟩ := hq
            refine lv_goto Bx.1 Bx.2.1 d_Mo_goesOn_177 rfl ?_
            refine lv_iconst (v := 1) Bx.1 Bx.2.1 d_Mo_goesOn_210 (by decide) ?_
            exact W.zret (v := 1) hx hb hr rfl (fun t ht hW => ⟨⟨1, mem97, rfl, ⟨J98, A99, nn100, hW101, Or.inl ⟨rfl, hres102.mono (by omega)⟩⟩, by show va_P _ _ _ t.heap; rw [ht]; exact hP⟩, hS.F ht⟩) hS.2.2 d_Mo_goesOn_211
      · have hlt103 := hereF_lt (by rw [hb29]; decide)
        refine lv_aload_n Bx.1 Bx.2.1 d_Mo_goesOn_70 rfl (lv_at hl 3 rfl) ?_
        refine f_get Bx hP (by omega) hW14.1 rfl inMo 19 (by decide) kw_675 rfl rfl d_Mo_goesOn_71 ?_
        refine lv_iload_n Bx.1 Bx.2.1 d_Mo_goesOn_74 rfl (lv_at hl 0 rfl) ?_
        refine f_iald Bx hP (by omega) (show mem10 235 = .inl (cy 1, 8, .inl (A 235)) from hW14.2.2.1 235 (by decide) (by decide) (by decide)) (vp_in_nI (n := f) (by omega) (by decide)) d_Mo_goesOn_75 ?_
        rw [nI_clamp (n := f) (by omega)]
        refine lv_iconst (v := 2) Bx.1 Bx.2.1 d_Mo_goesOn_76 (by decide) ?_
        refine lv_icmp_ne Bx.1 Bx.2.1 d_Mo_goesOn_77 rfl (fun hb104 => ?_) (fun hb104 => ?_)
        · refine lv_iload_n Bx.1 Bx.2.1 d_Mo_goesOn_158 rfl (lv_at hl 1 rfl) ?_
          refine f_callSi (na := 1) (As := [.int (hereF L T (a11))]) (rest := []) Bx hml E.2.1 (m_Mo_begins l (hereF L T (a11))) kw_811 kw_812 kw_8 kw_813 (by decide +kernel) ⟨rfl, rfl⟩ ⟨Nat.le_of_ble_eq_true rfl, Nat.le_of_ble_eq_true rfl⟩ rfl hl.1 (Nat.le_of_ble_eq_true rfl) d_Mo_goesOn_159 ⟨Nat.le_of_ble_eq_true rfl, Nat.le_of_ble_eq_true rfl⟩ (fun r106 hs105 => ?_)
          refine lv_if_eq Bx.1 Bx.2.1 d_Mo_goesOn_162 rfl (fun hb107 => ?_) (fun hb107 => ?_)
          · refine lv_aload_n Bx.1 Bx.2.1 d_Mo_goesOn_180 rfl (lv_at hl 3 rfl) ?_
            refine f_get Bx hP (by omega) hW14.1 rfl inMo 19 (by decide) kw_675 rfl rfl d_Mo_goesOn_181 ?_
            refine lv_iload_n Bx.1 Bx.2.1 d_Mo_goesOn_184 rfl (lv_at hl 0 rfl) ?_
            refine f_iald Bx hP (by omega) (show mem10 235 = .inl (cy 1, 8, .inl (A 235)) from hW14.2.2.1 235 (by decide) (by decide) (by decide)) (vp_in_nI (n := f) (by omega) (by decide)) d_Mo_goesOn_185 ?_
            rw [nI_clamp (n := f) (by omega)]
            refine lv_if_ne Bx.1 Bx.2.1 d_Mo_goesOn_186 rfl (fun hb108 => ?_) (fun hb108 => ?_)
            · refine lv_aload_n Bx.1 Bx.2.1 d_Mo_goesOn_201 rfl (lv_at hl 3 rfl) ?_
              refine lv_iconst (v := 1) Bx.1 Bx.2.1 d_Mo_goesOn_202 (by decide) ?_
              refine lv_aload_n Bx.1 Bx.2.1 d_Mo_goesOn_203 rfl (lv_at hl 3 rfl) ?_
              refine f_get Bx hP (by omega) hW14.1 rfl inMo 16 (by decide) kw_672 rfl rfl d_Mo_goesOn_204 ?_
              rw [kk24]
              refine f_callVv (na := 2) (As := [.int (1), .int (nI a11)]) (rest := []) Bx hml E hP hD hS (by omega) hW14.1 rfl (m_Mo_wrong l hn hW14 (Or.inl kk18) (by first | exact Or.inl rfl | exact Or.inr rfl)) kw_799 kw_801 sel_Mo_wrong kw_8 kw_802 (by decide +kernel) ⟨rfl, rfl⟩ ⟨Nat.le_of_ble_eq_true rfl, Nat.le_of_ble_eq_true rfl⟩ rfl hl.1 (Nat.le_of_ble_eq_true rfl) d_Mo_goesOn_207 ⟨Nat.le_of_ble_eq_true rfl, Nat.le_of_ble_eq_true rfl⟩ (fun mem110 H locs hq hP hS => ?_)
              have hD : va_D (Az sz) (fw n ad mem110) := fw_D hD
              obtain ⟨J111, hW112, hwr113⟩ := hq
              have kk114 : J111 1 = nI L := (show J111 1 = J15 1 from hwr113.2 1 (by decide) (by decide)).trans kk16
              have kk115 : J111 24 = nI G := (show J111 24 = J15 24 from hwr113.2 24 (by decide) (by decide)).trans kk17
              have kk116 : J111 14 = nI u := (show J111 14 = J15 14 from hwr113.2 14 (by decide) (by decide)).trans kk19
              have kk117 : J111 4 = nI R := (show J111 4 = J15 4 from hwr113.2 4 (by decide) (by decide)).trans kk20
              have kk118 : J111 7 = nI Ec := (show J111 7 = J15 7 from hwr113.2 7 (by decide) (by decide)).trans kk21
              have kk119 : J111 18 = nI (f + 1) := (show J111 18 = J15 18 from hwr113.2 18 (by decide) (by decide)).trans kk22
              have kk120 : J111 28 = 0 := (show J111 28 = J15 28 from hwr113.2 28 (by decide) (by decide)).trans kk23
              have kk121 : J111 16 = nI a11 := (show J111 16 = J15 16 from hwr113.2 16 (by decide) (by decide)).trans kk24
              refine lv_iconst (v := 1) Bx.1 Bx.2.1 d_Mo_goesOn_210 (by decide) ?_
              exact W.zret (v := 1) hx hb hr rfl (fun t ht hW => ⟨⟨1, mem110, rfl, ⟨J111, A, nm, hW112, Or.inl ⟨rfl, Or.inl ⟨kk114, kk115, hT, hwr113.1, _, by omega, kk121⟩⟩⟩, by show va_P _ _ _ t.heap; rw [ht]; exact hP⟩, hS.F ht⟩) hS.2.2 d_Mo_goesOn_211
            · have hf0 : f = 0 := by
                by_cases z : f = 0
                · exact z
                · have hso0 : A 235 f = 0 := hb108
                  rcases hfg.2.2.1 (by omega) with y | y
                  · rw [y.1] at hso0; exact absurd hso0 (by decide)
                  · rw [y.1] at hso0; exact absurd hso0 (by decide)
              refine lv_iload_n Bx.1 Bx.2.1 d_Mo_goesOn_189 rfl (lv_at hl 1 rfl) ?_
              refine lv_bipush (v := 10) Bx.1 Bx.2.1 d_Mo_goesOn_190 (by decide) ?_
              refine lv_icmp_eq Bx.1 Bx.2.1 d_Mo_goesOn_192 rfl (fun hb122 => ?_) (fun hb122 => ?_)
              · have hlt123 := hereF_lt (by rw [hb122]; decide)
                refine lv_iconst (v := 0) Bx.1 Bx.2.1 d_Mo_goesOn_199 (by decide) ?_
                have hI0 : Inv R Ec u 0 True fc fs ft A (fun _ => False) := by rw [← hf0]; exact hI
                have h390 : A 239 0 = -1 := by rw [← hf0]; exact h39
                exact W.zret (v := 0) hx hb hr rfl (fun t ht hW => ⟨⟨0, mem10, rfl, ⟨J15, A, nm, hW14, Or.inr ⟨rfl, _, by omega, u, R, Ec, ⟨kk16, kk17, kk24, kk18, kk19, kk20, kk21⟩, ⟨by omega, by omega, by omega, by omega, by omega⟩, hT, hI0.base hEb h390⟩⟩, by show va_P _ _ _ t.heap; rw [ht]; exact hP⟩, hS.F ht⟩) hS.2.2 d_Mo_goesOn_200
              · refine lv_iload_n Bx.1 Bx.2.1 d_Mo_goesOn_195 rfl (lv_at hl 1 rfl) ?_
                refine lv_if_ge Bx.1 Bx.2.1 d_Mo_goesOn_196 rfl (fun hb124 => ?_) (fun hb124 => ?_)
                · refine lv_aload_n Bx.1 Bx.2.1 d_Mo_goesOn_201 rfl (lv_at hl 3 rfl) ?_
                  refine lv_iconst (v := 1) Bx.1 Bx.2.1 d_Mo_goesOn_202 (by decide) ?_
                  refine lv_aload_n Bx.1 Bx.2.1 d_Mo_goesOn_203 rfl (lv_at hl 3 rfl) ?_
                  refine f_get Bx hP (by omega) hW14.1 rfl inMo 16 (by decide) kw_672 rfl rfl d_Mo_goesOn_204 ?_
                  rw [kk24]
                  refine f_callVv (na := 2) (As := [.int (1), .int (nI a11)]) (rest := []) Bx hml E hP hD hS (by omega) hW14.1 rfl (m_Mo_wrong l hn hW14 (Or.inl kk18) (by first | exact Or.inl rfl | exact Or.inr rfl)) kw_799 kw_801 sel_Mo_wrong kw_8 kw_802 (by decide +kernel) ⟨rfl, rfl⟩ ⟨Nat.le_of_ble_eq_true rfl, Nat.le_of_ble_eq_true rfl⟩ rfl hl.1 (Nat.le_of_ble_eq_true rfl) d_Mo_goesOn_207 ⟨Nat.le_of_ble_eq_true rfl, Nat.le_of_ble_eq_true rfl⟩ (fun mem126 H locs hq hP hS => ?_)
                  have hD : va_D (Az sz) (fw n ad mem126) := fw_D hD
                  obtain ⟨J127, hW128, hwr129⟩ := hq
                  have kk130 : J127 1 = nI L := (show J127 1 = J15 1 from hwr129.2 1 (by decide) (by decide)).trans kk16
                  have kk131 : J127 24 = nI G := (show J127 24 = J15 24 from hwr129.2 24 (by decide) (by decide)).trans kk17
                  have kk132 : J127 14 = nI u := (show J127 14 = J15 14 from hwr129.2 14 (by decide) (by decide)).trans kk19
                  have kk133 : J127 4 = nI R := (show J127 4 = J15 4 from hwr129.2 4 (by decide) (by decide)).trans kk20
                  have kk134 : J127 7 = nI Ec := (show J127 7 = J15 7 from hwr129.2 7 (by decide) (by decide)).trans kk21
                  have kk135 : J127 18 = nI (f + 1) := (show J127 18 = J15 18 from hwr129.2 18 (by decide) (by decide)).trans kk22
                  have kk136 : J127 28 = 0 := (show J127 28 = J15 28 from hwr129.2 28 (by decide) (by decide)).trans kk23
                  have kk137 : J127 16 = nI a11 := (show J127 16 = J15 16 from hwr129.2 16 (by decide) (by decide)).trans kk24
                  refine lv_iconst (v := 1) Bx.1 Bx.2.1 d_Mo_goesOn_210 (by decide) ?_
                  exact W.zret (v := 1) hx hb hr rfl (fun t ht hW => ⟨⟨1, mem126, rfl, ⟨J127, A, nm, hW128, Or.inl ⟨rfl, Or.inl ⟨kk130, kk131, hT, hwr129.1, _, by omega, kk137⟩⟩⟩, by show va_P _ _ _ t.heap; rw [ht]; exact hP⟩, hS.F ht⟩) hS.2.2 d_Mo_goesOn_211
                · refine lv_iconst (v := 0) Bx.1 Bx.2.1 d_Mo_goesOn_199 (by decide) ?_
                  have hI0 : Inv R Ec u 0 True fc fs ft A (fun _ => False) := by rw [← hf0]; exact hI
                  have h390 : A 239 0 = -1 := by rw [← hf0]; exact h39
                  exact W.zret (v := 0) hx hb hr rfl (fun t ht hW => ⟨⟨0, mem10, rfl, ⟨J15, A, nm, hW14, Or.inr ⟨rfl, _, by omega, u, R, Ec, ⟨kk16, kk17, kk24, kk18, kk19, kk20, kk21⟩, ⟨by omega, by omega, by omega, by omega, by omega⟩, hT, hI0.base hEb h390⟩⟩, by show va_P _ _ _ t.heap; rw [ht]; exact hP⟩, hS.F ht⟩) hS.2.2 d_Mo_goesOn_200
          · refine lv_aload_n Bx.1 Bx.2.1 d_Mo_goesOn_165 rfl (lv_at hl 3 rfl) ?_
            refine f_get Bx hP (by omega) hW14.1 rfl inMo 16 (by decide) kw_672 rfl rfl d_Mo_goesOn_166 ?_
            rw [kk24]
            refine lv_iload_n Bx.1 Bx.2.1 d_Mo_goesOn_169 rfl (lv_at hl 2 rfl) ?_
            refine lv_icmp_le Bx.1 Bx.2.1 d_Mo_goesOn_170 rfl (fun hb138 => ?_) (fun hb138 => ?_)
            · have hN139 : a11 ≤ a := (nI_leI (by omega) (by omega)).mp (show nI (a11) ≤ nI (a) from hb138)
              refine lv_aload_n Bx.1 Bx.2.1 d_Mo_goesOn_180 rfl (lv_at hl 3 rfl) ?_
              refine f_get Bx hP (by omega) hW14.1 rfl inMo 19 (by decide) kw_675 rfl rfl d_Mo_goesOn_181 ?_
              refine lv_iload_n Bx.1 Bx.2.1 d_Mo_goesOn_184 rfl (lv_at hl 0 rfl) ?_
              refine f_iald Bx hP (by omega) (show mem10 235 = .inl (cy 1, 8, .inl (A 235)) from hW14.2.2.1 235 (by decide) (by decide) (by decide)) (vp_in_nI (n := f) (by omega) (by decide)) d_Mo_goesOn_185 ?_
              rw [nI_clamp (n := f) (by omega)]
              refine lv_if_ne Bx.1 Bx.2.1 d_Mo_goesOn_186 rfl (fun hb140 => ?_) (fun hb140 => ?_)
              · refine lv_aload_n Bx.1 Bx.2.1 d_Mo_goesOn_201 rfl (lv_at hl 3 rfl) ?_
                refine lv_iconst (v := 1) Bx.1 Bx.2.1 d_Mo_goesOn_202 (by decide) ?_
                refine lv_aload_n Bx.1 Bx.2.1 d_Mo_goesOn_203 rfl (lv_at hl 3 rfl) ?_
                refine f_get Bx hP (by omega) hW14.1 rfl inMo 16 (by decide) kw_672 rfl rfl d_Mo_goesOn_204 ?_
                rw [kk24]
                refine f_callVv (na := 2) (As := [.int (1), .int (nI a11)]) (rest := []) Bx hml E hP hD hS (by omega) hW14.1 rfl (m_Mo_wrong l hn hW14 (Or.inl kk18) (by first | exact Or.inl rfl | exact Or.inr rfl)) kw_799 kw_801 sel_Mo_wrong kw_8 kw_802 (by decide +kernel) ⟨rfl, rfl⟩ ⟨Nat.le_of_ble_eq_true rfl, Nat.le_of_ble_eq_true rfl⟩ rfl hl.1 (Nat.le_of_ble_eq_true rfl) d_Mo_goesOn_207 ⟨Nat.le_of_ble_eq_true rfl, Nat.le_of_ble_eq_true rfl⟩ (fun mem142 H locs hq hP hS => ?_)
                have hD : va_D (Az sz) (fw n ad mem142) := fw_D hD
                obtain ⟨J143, hW144, hwr145⟩ := hq
                have kk146 : J143 1 = nI L := (show J143 1 = J15 1 from hwr145.2 1 (by decide) (by decide)).trans kk16
                have kk147 : J143 24 = nI G := (show J143 24 = J15 24 from hwr145.2 24 (by decide) (by decide)).trans kk17
                have kk148 : J143 14 = nI u := (show J143 14 = J15 14 from hwr145.2 14 (by decide) (by decide)).trans kk19
                have kk149 : J143 4 = nI R := (show J143 4 = J15 4 from hwr145.2 4 (by decide) (by decide)).trans kk20
                have kk150 : J143 7 = nI Ec := (show J143 7 = J15 7 from hwr145.2 7 (by decide) (by decide)).trans kk21
                have kk151 : J143 18 = nI (f + 1) := (show J143 18 = J15 18 from hwr145.2 18 (by decide) (by decide)).trans kk22
                have kk152 : J143 28 = 0 := (show J143 28 = J15 28 from hwr145.2 28 (by decide) (by decide)).trans kk23
                have kk153 : J143 16 = nI a11 := (show J143 16 = J15 16 from hwr145.2 16 (by decide) (by decide)).trans kk24
                refine lv_iconst (v := 1) Bx.1 Bx.2.1 d_Mo_goesOn_210 (by decide) ?_
                exact W.zret (v := 1) hx hb hr rfl (fun t ht hW => ⟨⟨1, mem142, rfl, ⟨J143, A, nm, hW144, Or.inl ⟨rfl, Or.inl ⟨kk146, kk147, hT, hwr145.1, _, by omega, kk153⟩⟩⟩, by show va_P _ _ _ t.heap; rw [ht]; exact hP⟩, hS.F ht⟩) hS.2.2 d_Mo_goesOn_211
              · have hf0 : f = 0 := by
                  by_cases z : f = 0
                  · exact z
                  · have hso0 : A 235 f = 0 := hb140
                    rcases hfg.2.2.1 (by omega) with y | y
                    · rw [y.1] at hso0; exact absurd hso0 (by decide)
                    · rw [y.1] at hso0; exact absurd hso0 (by decide)
                refine lv_iload_n Bx.1 Bx.2.1 d_Mo_goesOn_189 rfl (lv_at hl 1 rfl) ?_
                refine lv_bipush (v := 10) Bx.1 Bx.2.1 d_Mo_goesOn_190 (by decide) ?_
                refine lv_icmp_eq Bx.1 Bx.2.1 d_Mo_goesOn_192 rfl (fun hb154 => ?_) (fun hb154 => ?_)
                · have hlt155 := hereF_lt (by rw [hb154]; decide)
                  refine lv_iconst (v := 0) Bx.1 Bx.2.1 d_Mo_goesOn_199 (by decide) ?_
                  have hI0 : Inv R Ec u 0 True fc fs ft A (fun _ => False) := by rw [← hf0]; exact hI
                  have h390 : A 239 0 = -1 := by rw [← hf0]; exact h39
                  exact W.zret (v := 0) hx hb hr rfl (fun t ht hW => ⟨⟨0, mem10, rfl, ⟨J15, A, nm, hW14, Or.inr ⟨rfl, _, by omega, u, R, Ec, ⟨kk16, kk17, kk24, kk18, kk19, kk20, kk21⟩, ⟨by omega, by omega, by omega, by omega, by omega⟩, hT, hI0.base hEb h390⟩⟩, by show va_P _ _ _ t.heap; rw [ht]; exact hP⟩, hS.F ht⟩) hS.2.2 d_Mo_goesOn_200
                · refine lv_iload_n Bx.1 Bx.2.1 d_Mo_goesOn_195 rfl (lv_at hl 1 rfl) ?_
                  refine lv_if_ge Bx.1 Bx.2.1 d_Mo_goesOn_196 rfl (fun hb156 => ?_) (fun hb156 => ?_)
                  · refine lv_aload_n Bx.1 Bx.2.1 d_Mo_goesOn_201 rfl (lv_at hl 3 rfl) ?_
                    refine lv_iconst (v := 1) Bx.1 Bx.2.1 d_Mo_goesOn_202 (by decide) ?_
                    refine lv_aload_n Bx.1 Bx.2.1 d_Mo_goesOn_203 rfl (lv_at hl 3 rfl) ?_
                    refine f_get Bx hP (by omega) hW14.1 rfl inMo 16 (by decide) kw_672 rfl rfl d_Mo_goesOn_204 ?_
                    rw [kk24]
                    refine f_callVv (na := 2) (As := [.int (1), .int (nI a11)]) (rest := []) Bx hml E hP hD hS (by omega) hW14.1 rfl (m_Mo_wrong l hn hW14 (Or.inl kk18) (by first | exact Or.inl rfl | exact Or.inr rfl)) kw_799 kw_801 sel_Mo_wrong kw_8 kw_802 (by decide +kernel) ⟨rfl, rfl⟩ ⟨Nat.le_of_ble_eq_true rfl, Nat.le_of_ble_eq_true rfl⟩ rfl hl.1 (Nat.le_of_ble_eq_true rfl) d_Mo_goesOn_207 ⟨Nat.le_of_ble_eq_true rfl, Nat.le_of_ble_eq_true rfl⟩ (fun mem158 H locs hq hP hS => ?_)
                    have hD : va_D (Az sz) (fw n ad mem158) := fw_D hD
                    obtain ⟨J159, hW160, hwr161⟩ := hq
                    have kk162 : J159 1 = nI L := (show J159 1 = J15 1 from hwr161.2 1 (by decide) (by decide)).trans kk16
                    have kk163 : J159 24 = nI G := (show J159 24 = J15 24 from hwr161.2 24 (by decide) (by decide)).trans kk17
                    have kk164 : J159 14 = nI u := (show J159 14 = J15 14 from hwr161.2 14 (by decide) (by decide)).trans kk19
                    have kk165 : J159 4 = nI R := (show J159 4 = J15 4 from hwr161.2 4 (by decide) (by decide)).trans kk20
                    have kk166 : J159 7 = nI Ec := (show J159 7 = J15 7 from hwr161.2 7 (by decide) (by decide)).trans kk21
                    have kk167 : J159 18 = nI (f + 1) := (show J159 18 = J15 18 from hwr161.2 18 (by decide) (by decide)).trans kk22
                    have kk168 : J159 28 = 0 := (show J159 28 = J15 28 from hwr161.2 28 (by decide) (by decide)).trans kk23
                    have kk169 : J159 16 = nI a11 := (show J159 16 = J15 16 from hwr161.2 16 (by decide) (by decide)).trans kk24
                    refine lv_iconst (v := 1) Bx.1 Bx.2.1 d_Mo_goesOn_210 (by decide) ?_
                    exact W.zret (v := 1) hx hb hr rfl (fun t ht hW => ⟨⟨1, mem158, rfl, ⟨J159, A, nm, hW160, Or.inl ⟨rfl, Or.inl ⟨kk162, kk163, hT, hwr161.1, _, by omega, kk169⟩⟩⟩, by show va_P _ _ _ t.heap; rw [ht]; exact hP⟩, hS.F ht⟩) hS.2.2 d_Mo_goesOn_211
                  · refine lv_iconst (v := 0) Bx.1 Bx.2.1 d_Mo_goesOn_199 (by decide) ?_
                    have hI0 : Inv R Ec u 0 True fc fs ft A (fun _ => False) := by rw [← hf0]; exact hI
                    have h390 : A 239 0 = -1 := by rw [← hf0]; exact h39
                    exact W.zret (v := 0) hx hb hr rfl (fun t ht hW => ⟨⟨0, mem10, rfl, ⟨J15, A, nm, hW14, Or.inr ⟨rfl, _, by omega, u, R, Ec, ⟨kk16, kk17, kk24, kk18, kk19, kk20, kk21⟩, ⟨by omega, by omega, by omega, by omega, by omega⟩, hT, hI0.base hEb h390⟩⟩, by show va_P _ _ _ t.heap; rw [ht]; exact hP⟩, hS.F ht⟩) hS.2.2 d_Mo_goesOn_200
            · have hN170 : ¬ a11 ≤ a := fun q9 => hb138 (show nI (a11) ≤ nI (a) from (nI_leI (by omega) (by omega)).mpr q9)
              refine lv_aload_n Bx.1 Bx.2.1 d_Mo_goesOn_173 rfl (lv_at hl 3 rfl) ?_
              refine f_callVv (na := 0) (As := []) (rest := []) Bx hml E hP hD hS (by omega) hW14.1 rfl (m_Mo_repetition l hn hW14 ⟨kk16, kk17, kk24, kk18, kk19, kk20, kk21, kk22⟩ ⟨hL, by omega, by omega, by omega, by omega⟩ (by omega) hT kk23 hI h39) kw_826 kw_828 sel_Mo_repetition kw_8 kw_829 (by decide +kernel) ⟨rfl, rfl⟩ ⟨Nat.le_of_ble_eq_true rfl, Nat.le_of_ble_eq_true rfl⟩ rfl hl.1 (Nat.le_of_ble_eq_true rfl) d_Mo_goesOn_174 ⟨Nat.le_of_ble_eq_true rfl, Nat.le_of_ble_eq_true rfl⟩ (fun mem172 H locs hq hP hS => ?_)
              have hD : va_D (Az sz) (fw n ad mem172) := fw_D hD
              obtain ⟨J173, A174, nn175, hW176, hres177⟩ := hq
              refine lv_goto Bx.1 Bx.2.1 d_Mo_goesOn_177 rfl ?_
              refine lv_iconst (v := 1) Bx.1 Bx.2.1 d_Mo_goesOn_210 (by decide) ?_
              exact W.zret (v := 1) hx hb hr rfl (fun t ht hW => ⟨⟨1, mem172, rfl, ⟨J173, A174, nn175, hW176, Or.inl ⟨rfl, hres177.mono (by omega)⟩⟩, by show va_P _ _ _ t.heap; rw [ht]; exact hP⟩, hS.F ht⟩) hS.2.2 d_Mo_goesOn_211
        · have hso : A 235 f = 2 := hb104
          have hf1x : 1 ≤ f := Nat.pos_of_ne_zero (fun z => by have := hfg.2.1 z; rw [hso] at this; exact absurd this (by decide))
          obtain ⟨f1, hf1⟩ : ∃ f1, f = f1 + 1 := ⟨f - 1, by omega⟩
          have hI1 : Inv R Ec u (f1 + 1) True fc fs ft A (fun _ => False) := by rw [← hf1]; exact hI
          have h391 : A 239 (f1 + 1) = -1 := by rw [← hf1]; exact h39
          have hte := (hfg.2.2.1 hf1x).resolve_left (fun z => by rw [z.1] at hso; exact absurd hso (by decide))
          refine lv_aload_n Bx.1 Bx.2.1 d_Mo_goesOn_80 rfl (lv_at hl 3 rfl) ?_
          refine lv_dup Bx.1 Bx.2.1 d_Mo_goesOn_81 rfl ?_
          refine f_get Bx hP (by omega) hW14.1 rfl inMo 16 (by decide) kw_672 rfl rfl d_Mo_goesOn_82 ?_
          rw [kk24]
          refine lv_iconst (v := 1) Bx.1 Bx.2.1 d_Mo_goesOn_85 (by decide) ?_
          refine lv_iadd Bx.1 Bx.2.1 d_Mo_goesOn_86 ?_
          rw [show nI a11 + 1 = nI (a11 + 1) from nI_add (a11) (1)]
          refine f_put Bx hP hD hS (by omega) hW14.1 rfl inMo tyMo okMo nmMo 16 (by decide) kw_672 rfl rfl rfl rfl (Nat.le_of_ble_eq_true rfl) d_Mo_goesOn_87 (fun H locs hP hS => ?_)
          obtain ⟨J178, eJ178⟩ : ∃ z, z = va_up J15 16 (nI (a11 + 1)) := ⟨_, rfl⟩
          obtain ⟨mem179, e_mem179⟩ : ∃ z, z = va_up mem10 224 (moC ad J178) := ⟨_, rfl⟩
          have hP : va_P D vcl (fw n ad mem179) H := by rw [e_mem179, eJ178]; exact hP
          have hD : va_D (Az sz) (fw n ad mem179) := fw_D hD
          have hW180 : MW cy ad J178 A nm m0 mem179 := by rw [e_mem179]; exact hW14.upJ (by rw [eJ178]; exact va_up_ne _ _ (by decide))
          have kk181 : J178 1 = nI L := by rw [eJ178]; exact kk16
          have kk182 : J178 24 = nI G := by rw [eJ178]; exact kk17
          have kk183 : J178 17 = 0 := by rw [eJ178]; exact kk18
          have kk184 : J178 14 = nI u := by rw [eJ178]; exact kk19
          have kk185 : J178 4 = nI R := by rw [eJ178]; exact kk20
          have kk186 : J178 7 = nI Ec := by rw [eJ178]; exact kk21
          have kk187 : J178 18 = nI (f + 1) := by rw [eJ178]; exact kk22
          have kk188 : J178 28 = 0 := by rw [eJ178]; exact kk23
          have kk189 : J178 16 = nI (a11 + 1) := by rw [eJ178, va_up_self]
          refine lv_aload_n Bx.1 Bx.2.1 d_Mo_goesOn_90 rfl (lv_at hl 3 rfl) ?_
          refine f_get Bx hP (by omega) hW180.1 rfl inMo 19 (by decide) kw_675 rfl rfl d_Mo_goesOn_91 ?_
          refine lv_iload_n Bx.1 Bx.2.1 d_Mo_goesOn_94 rfl (lv_at hl 0 rfl) ?_
          refine f_iald Bx hP (by omega) (show mem179 235 = .inl (cy 1, 8, .inl (A 235)) from hW180.2.2.1 235 (by decide) (by decide) (by decide)) (vp_in_nI (n := f) (by omega) (by decide)) d_Mo_goesOn_95 ?_
          rw [nI_clamp (n := f) (by omega)]
          rw [hso]
          refine lv_iconst (v := 1) Bx.1 Bx.2.1 d_Mo_goesOn_96 (by decide) ?_
          refine lv_icmp_ne Bx.1 Bx.2.1 d_Mo_goesOn_97 rfl (fun hb190 => ?_) (fun hb190 => ?_)
          · refine lv_aload_n Bx.1 Bx.2.1 d_Mo_goesOn_109 rfl (lv_at hl 3 rfl) ?_
            refine f_get Bx hP (by omega) hW180.1 rfl inMo 20 (by decide) kw_676 rfl rfl d_Mo_goesOn_110 ?_
            refine lv_iload_n Bx.1 Bx.2.1 d_Mo_goesOn_113 rfl (lv_at hl 0 rfl) ?_
            refine f_iald Bx hP (by omega) (show mem179 236 = .inl (cy 1, 8, .inl (A 236)) from hW180.2.2.1 236 (by decide) (by decide) (by decide)) (vp_in_nI (n := f) (by omega) (by decide)) d_Mo_goesOn_114 ?_
            rw [nI_clamp (n := f) (by omega)]
            rw [hte.2.1, show ft f = ft (f1 + 1) by rw [← hf1]]
            refine lv_istore (lv' := [(4, .int (nI (ft (f1 + 1)))), (3, .int (nI (f))), (2, .int (hereF L T (a11))), (1, .int (nI a)), (0, .ref (ad 224))]) Bx.1 Bx.2.1 d_Mo_goesOn_115 hl (by decide) rfl (fun ls hl => ?_)
            refine lv_aload_n Bx.1 Bx.2.1 d_Mo_goesOn_117 rfl (lv_at hl 4 rfl) ?_
            refine f_get Bx hP (by omega) hW180.1 rfl inMo 19 (by decide) kw_675 rfl rfl d_Mo_goesOn_118 ?_
            refine lv_iload_n Bx.1 Bx.2.1 d_Mo_goesOn_121 rfl (lv_at hl 1 rfl) ?_
            refine f_iald Bx hP (by omega) (show mem179 235 = .inl (cy 1, 8, .inl (A 235)) from hW180.2.2.1 235 (by decide) (by decide) (by decide)) (vp_in_nI (n := f) (by omega) (by decide)) d_Mo_goesOn_122 ?_
            rw [nI_clamp (n := f) (by omega)]
            rw [hso]
            refine lv_iconst (v := 2) Bx.1 Bx.2.1 d_Mo_goesOn_123 (by decide) ?_
            refine lv_icmp_ne Bx.1 Bx.2.1 d_Mo_goesOn_124 rfl (fun hb191 => ?_) (fun hb191 => ?_)
            · exact absurd hb191 (by decide)
            · refine lv_aload_n Bx.1 Bx.2.1 d_Mo_goesOn_127 rfl (lv_at hl 4 rfl) ?_
              refine lv_iload Bx.1 Bx.2.1 d_Mo_goesOn_128 (lv_at hl 0 rfl) ?_
              refine lv_aload_n Bx.1 Bx.2.1 d_Mo_goesOn_130 rfl (lv_at hl 4 rfl) ?_
              refine f_get Bx hP (by omega) hW180.1 rfl inMo 21 (by decide) kw_677 rfl rfl d_Mo_goesOn_131 ?_
              refine lv_iload_n Bx.1 Bx.2.1 d_Mo_goesOn_134 rfl (lv_at hl 1 rfl) ?_
              refine f_iald Bx hP (by omega) (show mem179 237 = .inl (cy 1, 8, .inl (A 237)) from hW180.2.2.1 237 (by decide) (by decide) (by decide)) (vp_in_nI (n := f) (by omega) (by decide)) d_Mo_goesOn_135 ?_
              rw [nI_clamp (n := f) (by omega)]
              rw [hfg.1.1]
              have htf : ft (f1 + 1) = ft f := by rw [hf1]
              have hcc : CL (fc f) A := fun k hk => by
                by_cases e : k = ft f
                · rw [e, hte.2.2.2.1, hte.2.2.2.2]; exact ⟨Or.inl rfl, Or.inl rfl⟩
                · have := hfg.2.2.2.2.2.2 hf1x k (by omega)
                  exact ⟨this.1.mono (by omega), this.2.mono (by omega)⟩
              refine f_callVv (na := 2) (As := [.int (nI (ft (f1 + 1))), .int (nI (fc f))]) (rest := []) Bx hml E hP hD hS (by omega) hW180.1 rfl (m_Mo_append l hn hW180 hEb (show ft (f1 + 1) < fc f by omega) (show fc f < Ec by omega) hI.1 hcc) kw_822 kw_824 sel_Mo_append kw_8 kw_825 (by decide +kernel) ⟨rfl, rfl⟩ ⟨Nat.le_of_ble_eq_true rfl, Nat.le_of_ble_eq_true rfl⟩ rfl hl.1 (Nat.le_of_ble_eq_true rfl) d_Mo_goesOn_136 ⟨Nat.le_of_ble_eq_true rfl, Nat.le_of_ble_eq_true rfl⟩ (fun mem193 H locs hq hP hS => ?_)
              have hD : va_D (Az sz) (fw n ad mem193) := fw_D hD
              obtain ⟨A194, hW195, hap196⟩ := hq
              have tT197 : A194 225 = T := by
                obtain ⟨_, _, _, k3, _⟩ := hap196.at
                rw [k3 225 (by decide) (by decide)]; exact hT
              have hA1 := hap196.resolve_right (fun z => z.1 (by rw [htf]; exact hte.2.2.2.1))
              refine lv_aload_n Bx.1 Bx.2.1 d_Mo_goesOn_139 rfl (lv_at hl 4 rfl) ?_
              refine lv_dup Bx.1 Bx.2.1 d_Mo_goesOn_140 rfl ?_
              refine f_get Bx hP (by omega) hW195.1 rfl inMo 18 (by decide) kw_674 rfl rfl d_Mo_goesOn_141 ?_
              rw [kk187]
              refine lv_iconst (v := 1) Bx.1 Bx.2.1 d_Mo_goesOn_144 (by decide) ?_
              refine lv_isub Bx.1 Bx.2.1 d_Mo_goesOn_145 ?_
              rw [show nI (f + 1) - 1 = nI (f) from nI_pred (f)]
              refine f_put Bx hP hD hS (by omega) hW195.1 rfl inMo tyMo okMo nmMo 18 (by decide) kw_674 rfl rfl rfl rfl (Nat.le_of_ble_eq_true rfl) d_Mo_goesOn_146 (fun H locs hP hS => ?_)
              obtain ⟨J198, eJ198⟩ : ∃ z, z = va_up J178 18 (nI (f)) := ⟨_, rfl⟩
              obtain ⟨mem199, e_mem199⟩ : ∃ z, z = va_up mem193 224 (moC ad J198) := ⟨_, rfl⟩
              have hP : va_P D vcl (fw n ad mem199) H := by rw [e_mem199, eJ198]; exact hP
              have hD : va_D (Az sz) (fw n ad mem199) := fw_D hD
              have hW200 : MW cy ad J198 A194 nm m0 mem199 := by rw [e_mem199]; exact hW195.upJ (by rw [eJ198]; exact va_up_ne _ _ (by decide))
              have kk201 : J198 1 = nI L := by rw [eJ198]; exact kk181
              have kk202 : J198 24 = nI G := by rw [eJ198]; exact kk182
              have kk203 : J198 17 = 0 := by rw [eJ198]; exact kk183
              have kk204 : J198 14 = nI u := by rw [eJ198]; exact kk184
              have kk205 : J198 4 = nI R := by rw [eJ198]; exact kk185
              have kk206 : J198 7 = nI Ec := by rw [eJ198]; exact kk186
              have kk207 : J198 28 = 0 := by rw [eJ198]; exact kk188
              have kk208 : J198 16 = nI (a11 + 1) := by rw [eJ198]; exact kk189
              have kk209 : J198 18 = nI (f) := by rw [eJ198, va_up_self]
              refine lv_aload_n Bx.1 Bx.2.1 d_Mo_goesOn_149 rfl (lv_at hl 4 rfl) ?_
              refine lv_iload Bx.1 Bx.2.1 d_Mo_goesOn_150 (lv_at hl 0 rfl) ?_
              obtain ⟨hp1, hp2, hp3, hp4, hp5⟩ := hI1.pop hEb h391 (A' := A194) (fun j hj => by rw [hA1.2, va_up_ne _ _ hj]) (fun k hk => by rw [hA1.2, va_up_self]; exact upd_ne hk) (fun _ => by rw [hA1.2, va_up_self, upd_self]; exact nI_m (by omega)) (fun z => absurd (by rw [← hf1]; exact hso) z) (hap196.LK (by omega) (by omega) hI.1) (fun _ z => z)
              have hk18 : J198 18 = nI (f1 + 1) := by rw [kk209, hf1]
              refine f_callVv (na := 1) (As := [.int (nI (ft (f1 + 1)))]) (rest := []) Bx hml E hP hD hS (by omega) hW200.1 rfl (m_Mo_placed l hn hW200 hk18 (by omega) (by omega) hp1 (by omega) hp3 hp5 hp2) kw_834 kw_836 sel_Mo_placed kw_8 kw_837 (by decide +kernel) ⟨rfl, rfl⟩ ⟨Nat.le_of_ble_eq_true rfl, Nat.le_of_ble_eq_true rfl⟩ rfl hl.1 (Nat.le_of_ble_eq_true rfl) d_Mo_goesOn_152 ⟨Nat.le_of_ble_eq_true rfl, Nat.le_of_ble_eq_true rfl⟩ (fun mem211 H locs hq hP hS => ?_)
              have hD : va_D (Az sz) (fw n ad mem211) := fw_D hD
              obtain ⟨A212, hW213, hinv214, h39215, hj216⟩ := hq
              have tT217 : A212 225 = T := (hj216 225 (by decide) (by decide) (by decide)).trans tT197
              refine lv_goto Bx.1 Bx.2.1 d_Mo_goesOn_155 rfl ?_
              refine lv_iconst (v := 1) Bx.1 Bx.2.1 d_Mo_goesOn_210 (by decide) ?_
              exact W.zret (v := 1) hx hb hr rfl (fun t ht hW => ⟨⟨1, mem211, rfl, ⟨J198, A212, nm, hW213, Or.inl ⟨rfl, Or.inr ⟨a11 + 1, by omega, u, R, Ec, f1, fc, fs, ft, ⟨kk201, kk202, kk208, kk203, kk204, kk205, kk206, hk18⟩, ⟨by omega, by omega, by omega, by omega, by omega, by omega⟩, tT217, Or.inl kk207, hinv214.qT, h39215⟩⟩⟩, by show va_P _ _ _ t.heap; rw [ht]; exact hP⟩, hS.F ht⟩) hS.2.2 d_Mo_goesOn_211
          · exact absurd hb190 (by decide)
    · have hlt218 := hereF_lt (by rw [hb28]; decide)
      refine lv_aload_n Bx.1 Bx.2.1 d_Mo_goesOn_54 rfl (lv_at hl 3 rfl) ?_
      refine f_get Bx hP (by omega) hW14.1 rfl inMo 19 (by decide) kw_675 rfl rfl d_Mo_goesOn_55 ?_
      refine lv_iload_n Bx.1 Bx.2.1 d_Mo_goesOn_58 rfl (lv_at hl 0 rfl) ?_
      refine f_iald Bx hP (by omega) (show mem10 235 = .inl (cy 1, 8, .inl (A 235)) from hW14.2.2.1 235 (by decide) (by decide) (by decide)) (vp_in_nI (n := f) (by omega) (by decide)) d_Mo_goesOn_59 ?_
      rw [nI_clamp (n := f) (by omega)]
      refine lv_iconst (v := 1) Bx.1 Bx.2.1 d_Mo_goesOn_60 (by decide) ?_
      refine lv_icmp_eq Bx.1 Bx.2.1 d_Mo_goesOn_61 rfl (fun hb219 => ?_) (fun hb219 => ?_)
      · have hso : A 235 f = 1 := hb219
        have hf1x : 1 ≤ f := Nat.pos_of_ne_zero (fun z => by have := hfg.2.1 z; rw [hso] at this; exact absurd this (by decide))
        obtain ⟨f1, hf1⟩ : ∃ f1, f = f1 + 1 := ⟨f - 1, by omega⟩
        have hI1 : Inv R Ec u (f1 + 1) True fc fs ft A (fun _ => False) := by rw [← hf1]; exact hI
        have h391 : A 239 (f1 + 1) = -1 := by rw [← hf1]; exact h39
        have hte : fc f = ft (f1 + 1) := by
          rw [← hf1]
          rcases hfg.2.2.1 hf1x with z | z
          · exact z.2.symm
          · rw [z.1] at hso; exact absurd hso (by decide)
        refine lv_aload_n Bx.1 Bx.2.1 d_Mo_goesOn_80 rfl (lv_at hl 3 rfl) ?_
        refine lv_dup Bx.1 Bx.2.1 d_Mo_goesOn_81 rfl ?_
        refine f_get Bx hP (by omega) hW14.1 rfl inMo 16 (by decide) kw_672 rfl rfl d_Mo_goesOn_82 ?_
        rw [kk24]
        refine lv_iconst (v := 1) Bx.1 Bx.2.1 d_Mo_goesOn_85 (by decide) ?_
        refine lv_iadd Bx.1 Bx.2.1 d_Mo_goesOn_86 ?_
        rw [show nI a11 + 1 = nI (a11 + 1) from nI_add (a11) (1)]
        refine f_put Bx hP hD hS (by omega) hW14.1 rfl inMo tyMo okMo nmMo 16 (by decide) kw_672 rfl rfl rfl rfl (Nat.le_of_ble_eq_true rfl) d_Mo_goesOn_87 (fun H locs hP hS => ?_)
        obtain ⟨J220, eJ220⟩ : ∃ z, z = va_up J15 16 (nI (a11 + 1)) := ⟨_, rfl⟩
        obtain ⟨mem221, e_mem221⟩ : ∃ z, z = va_up mem10 224 (moC ad J220) := ⟨_, rfl⟩
        have hP : va_P D vcl (fw n ad mem221) H := by rw [e_mem221, eJ220]; exact hP
        have hD : va_D (Az sz) (fw n ad mem221) := fw_D hD
        have hW222 : MW cy ad J220 A nm m0 mem221 := by rw [e_mem221]; exact hW14.upJ (by rw [eJ220]; exact va_up_ne _ _ (by decide))
        have kk223 : J220 1 = nI L := by rw [eJ220]; exact kk16
        have kk224 : J220 24 = nI G := by rw [eJ220]; exact kk17
        have kk225 : J220 17 = 0 := by rw [eJ220]; exact kk18
        have kk226 : J220 14 = nI u := by rw [eJ220]; exact kk19
        have kk227 : J220 4 = nI R := by rw [eJ220]; exact kk20
        have kk228 : J220 7 = nI Ec := by rw [eJ220]; exact kk21
        have kk229 : J220 18 = nI (f + 1) := by rw [eJ220]; exact kk22
        have kk230 : J220 28 = 0 := by rw [eJ220]; exact kk23
        have kk231 : J220 16 = nI (a11 + 1) := by rw [eJ220, va_up_self]
        refine lv_aload_n Bx.1 Bx.2.1 d_Mo_goesOn_90 rfl (lv_at hl 3 rfl) ?_
        refine f_get Bx hP (by omega) hW222.1 rfl inMo 19 (by decide) kw_675 rfl rfl d_Mo_goesOn_91 ?_
        refine lv_iload_n Bx.1 Bx.2.1 d_Mo_goesOn_94 rfl (lv_at hl 0 rfl) ?_
        refine f_iald Bx hP (by omega) (show mem221 235 = .inl (cy 1, 8, .inl (A 235)) from hW222.2.2.1 235 (by decide) (by decide) (by decide)) (vp_in_nI (n := f) (by omega) (by decide)) d_Mo_goesOn_95 ?_
        rw [nI_clamp (n := f) (by omega)]
        rw [hso]
        refine lv_iconst (v := 1) Bx.1 Bx.2.1 d_Mo_goesOn_96 (by decide) ?_
        refine lv_icmp_ne Bx.1 Bx.2.1 d_Mo_goesOn_97 rfl (fun hb232 => ?_) (fun hb232 => ?_)
        · exact absurd hb232 (by decide)
        · refine lv_aload_n Bx.1 Bx.2.1 d_Mo_goesOn_100 rfl (lv_at hl 3 rfl) ?_
          refine f_get Bx hP (by omega) hW222.1 rfl inMo 21 (by decide) kw_677 rfl rfl d_Mo_goesOn_101 ?_
          refine lv_iload_n Bx.1 Bx.2.1 d_Mo_goesOn_104 rfl (lv_at hl 0 rfl) ?_
          refine f_iald Bx hP (by omega) (show mem221 237 = .inl (cy 1, 8, .inl (A 237)) from hW222.2.2.1 237 (by decide) (by decide) (by decide)) (vp_in_nI (n := f) (by omega) (by decide)) d_Mo_goesOn_105 ?_
          rw [nI_clamp (n := f) (by omega)]
          rw [hfg.1.1, hte]
          refine lv_goto Bx.1 Bx.2.1 d_Mo_goesOn_106 rfl ?_
          refine lv_istore (lv' := [(4, .int (nI (ft (f1 + 1)))), (3, .int (nI (f))), (2, .int (hereF L T (a11))), (1, .int (nI a)), (0, .ref (ad 224))]) Bx.1 Bx.2.1 d_Mo_goesOn_115 hl (by decide) rfl (fun ls hl => ?_)
          refine lv_aload_n Bx.1 Bx.2.1 d_Mo_goesOn_117 rfl (lv_at hl 4 rfl) ?_
          refine f_get Bx hP (by omega) hW222.1 rfl inMo 19 (by decide) kw_675 rfl rfl d_Mo_goesOn_118 ?_
          refine lv_iload_n Bx.1 Bx.2.1 d_Mo_goesOn_121 rfl (lv_at hl 1 rfl) ?_
          refine f_iald Bx hP (by omega) (show mem221 235 = .inl (cy 1, 8, .inl (A 235)) from hW222.2.2.1 235 (by decide) (by decide) (by decide)) (vp_in_nI (n := f) (by omega) (by decide)) d_Mo_goesOn_122 ?_
          rw [nI_clamp (n := f) (by omega)]
          rw [hso]
          refine lv_iconst (v := 2) Bx.1 Bx.2.1 d_Mo_goesOn_123 (by decide) ?_
          refine lv_icmp_ne Bx.1 Bx.2.1 d_Mo_goesOn_124 rfl (fun hb233 => ?_) (fun hb233 => ?_)
          · refine lv_aload_n Bx.1 Bx.2.1 d_Mo_goesOn_139 rfl (lv_at hl 4 rfl) ?_
            refine lv_dup Bx.1 Bx.2.1 d_Mo_goesOn_140 rfl ?_
            refine f_get Bx hP (by omega) hW222.1 rfl inMo 18 (by decide) kw_674 rfl rfl d_Mo_goesOn_141 ?_
            rw [kk229]
            refine lv_iconst (v := 1) Bx.1 Bx.2.1 d_Mo_goesOn_144 (by decide) ?_
            refine lv_isub Bx.1 Bx.2.1 d_Mo_goesOn_145 ?_
            rw [show nI (f + 1) - 1 = nI (f) from nI_pred (f)]
            refine f_put Bx hP hD hS (by omega) hW222.1 rfl inMo tyMo okMo nmMo 18 (by decide) kw_674 rfl rfl rfl rfl (Nat.le_of_ble_eq_true rfl) d_Mo_goesOn_146 (fun H locs hP hS => ?_)
            obtain ⟨J234, eJ234⟩ : ∃ z, z = va_up J220 18 (nI (f)) := ⟨_, rfl⟩
            obtain ⟨mem235, e_mem235⟩ : ∃ z, z = va_up mem221 224 (moC ad J234) := ⟨_, rfl⟩
            have hP : va_P D vcl (fw n ad mem235) H := by rw [e_mem235, eJ234]; exact hP
            have hD : va_D (Az sz) (fw n ad mem235) := fw_D hD
            have hW236 : MW cy ad J234 A nm m0 mem235 := by rw [e_mem235]; exact hW222.upJ (by rw [eJ234]; exact va_up_ne _ _ (by decide))
            have kk237 : J234 1 = nI L := by rw [eJ234]; exact kk223
            have kk238 : J234 24 = nI G := by rw [eJ234]; exact kk224
            have kk239 : J234 17 = 0 := by rw [eJ234]; exact kk225
            have kk240 : J234 14 = nI u := by rw [eJ234]; exact kk226
            have kk241 : J234 4 = nI R := by rw [eJ234]; exact kk227
            have kk242 : J234 7 = nI Ec := by rw [eJ234]; exact kk228
            have kk243 : J234 28 = 0 := by rw [eJ234]; exact kk230
            have kk244 : J234 16 = nI (a11 + 1) := by rw [eJ234]; exact kk231
            have kk245 : J234 18 = nI (f) := by rw [eJ234, va_up_self]
            refine lv_aload_n Bx.1 Bx.2.1 d_Mo_goesOn_149 rfl (lv_at hl 4 rfl) ?_
            refine lv_iload Bx.1 Bx.2.1 d_Mo_goesOn_150 (lv_at hl 0 rfl) ?_
            obtain ⟨hp1, hp2, hp3, hp4, hp5⟩ := hI1.pop hEb h391 (A' := A) (fun _ _ => rfl) (fun _ _ => rfl) (fun z => by rw [← hf1, hso] at z; exact absurd z (by decide)) (fun _ => rfl) hI.1 (fun _ z => z)
            have hk18 : J234 18 = nI (f1 + 1) := by rw [kk245, hf1]
            refine f_callVv (na := 1) (As := [.int (nI (ft (f1 + 1)))]) (rest := []) Bx hml E hP hD hS (by omega) hW236.1 rfl (m_Mo_placed l hn hW236 hk18 (by omega) (by omega) hp1 (by omega) hp3 hp5 hp2) kw_834 kw_836 sel_Mo_placed kw_8 kw_837 (by decide +kernel) ⟨rfl, rfl⟩ ⟨Nat.le_of_ble_eq_true rfl, Nat.le_of_ble_eq_true rfl⟩ rfl hl.1 (Nat.le_of_ble_eq_true rfl) d_Mo_goesOn_152 ⟨Nat.le_of_ble_eq_true rfl, Nat.le_of_ble_eq_true rfl⟩ (fun mem247 H locs hq hP hS => ?_)
            have hD : va_D (Az sz) (fw n ad mem247) := fw_D hD
            obtain ⟨A248, hW249, hinv250, h39251, hj252⟩ := hq
            have tT253 : A248 225 = T := (hj252 225 (by decide) (by decide) (by decide)).trans hT
            refine lv_goto Bx.1 Bx.2.1 d_Mo_goesOn_155 rfl ?_
            refine lv_iconst (v := 1) Bx.1 Bx.2.1 d_Mo_goesOn_210 (by decide) ?_
            exact W.zret (v := 1) hx hb hr rfl (fun t ht hW => ⟨⟨1, mem247, rfl, ⟨J234, A248, nm, hW249, Or.inl ⟨rfl, Or.inr ⟨a11 + 1, by omega, u, R, Ec, f1, fc, fs, ft, ⟨kk237, kk238, kk244, kk239, kk240, kk241, kk242, hk18⟩, ⟨by omega, by omega, by omega, by omega, by omega, by omega⟩, tT253, Or.inl kk243, hinv250.qT, h39251⟩⟩⟩, by show va_P _ _ _ t.heap; rw [ht]; exact hP⟩, hS.F ht⟩) hS.2.2 d_Mo_goesOn_211
          · exact absurd hb233 (by decide)
      · refine lv_iload_n Bx.1 Bx.2.1 d_Mo_goesOn_64 rfl (lv_at hl 1 rfl) ?_
        refine lv_bipush (v := 93) Bx.1 Bx.2.1 d_Mo_goesOn_65 (by decide) ?_
        refine lv_icmp_ne Bx.1 Bx.2.1 d_Mo_goesOn_67 rfl (fun hb254 => ?_) (fun hb254 => ?_)
        · refine lv_iload_n Bx.1 Bx.2.1 d_Mo_goesOn_158 rfl (lv_at hl 1 rfl) ?_
          refine f_callSi (na := 1) (As := [.int (hereF L T (a11))]) (rest := []) Bx hml E.2.1 (m_Mo_begins l (hereF L T (a11))) kw_811 kw_812 kw_8 kw_813 (by decide +kernel) ⟨rfl, rfl⟩ ⟨Nat.le_of_ble_eq_true rfl, Nat.le_of_ble_eq_true rfl⟩ rfl hl.1 (Nat.le_of_ble_eq_true rfl) d_Mo_goesOn_159 ⟨Nat.le_of_ble_eq_true rfl, Nat.le_of_ble_eq_true rfl⟩ (fun r256 hs255 => ?_)
          refine lv_if_eq Bx.1 Bx.2.1 d_Mo_goesOn_162 rfl (fun hb257 => ?_) (fun hb257 => ?_)
          · refine lv_aload_n Bx.1 Bx.2.1 d_Mo_goesOn_180 rfl (lv_at hl 3 rfl) ?_
            refine f_get Bx hP (by omega) hW14.1 rfl inMo 19 (by decide) kw_675 rfl rfl d_Mo_goesOn_181 ?_
            refine lv_iload_n Bx.1 Bx.2.1 d_Mo_goesOn_184 rfl (lv_at hl 0 rfl) ?_
            refine f_iald Bx hP (by omega) (show mem10 235 = .inl (cy 1, 8, .inl (A 235)) from hW14.2.2.1 235 (by decide) (by decide) (by decide)) (vp_in_nI (n := f) (by omega) (by decide)) d_Mo_goesOn_185 ?_
            rw [nI_clamp (n := f) (by omega)]
            refine lv_if_ne Bx.1 Bx.2.1 d_Mo_goesOn_186 rfl (fun hb258 => ?_) (fun hb258 => ?_)
            · refine lv_aload_n Bx.1 Bx.2.1 d_Mo_goesOn_201 rfl (lv_at hl 3 rfl) ?_
              refine lv_iconst (v := 1) Bx.1 Bx.2.1 d_Mo_goesOn_202 (by decide) ?_
              refine lv_aload_n Bx.1 Bx.2.1 d_Mo_goesOn_203 rfl (lv_at hl 3 rfl) ?_
              refine f_get Bx hP (by omega) hW14.1 rfl inMo 16 (by decide) kw_672 rfl rfl d_Mo_goesOn_204 ?_
              rw [kk24]
              refine f_callVv (na := 2) (As := [.int (1), .int (nI a11)]) (rest := []) Bx hml E hP hD hS (by omega) hW14.1 rfl (m_Mo_wrong l hn hW14 (Or.inl kk18) (by first | exact Or.inl rfl | exact Or.inr rfl)) kw_799 kw_801 sel_Mo_wrong kw_8 kw_802 (by decide +kernel) ⟨rfl, rfl⟩ ⟨Nat.le_of_ble_eq_true rfl, Nat.le_of_ble_eq_true rfl⟩ rfl hl.1 (Nat.le_of_ble_eq_true rfl) d_Mo_goesOn_207 ⟨Nat.le_of_ble_eq_true rfl, Nat.le_of_ble_eq_true rfl⟩ (fun mem260 H locs hq hP hS => ?_)
              have hD : va_D (Az sz) (fw n ad mem260) := fw_D hD
              obtain ⟨J261, hW262, hwr263⟩ := hq
              have kk264 : J261 1 = nI L := (show J261 1 = J15 1 from hwr263.2 1 (by decide) (by decide)).trans kk16
              have kk265 : J261 24 = nI G := (show J261 24 = J15 24 from hwr263.2 24 (by decide) (by decide)).trans kk17
              have kk266 : J261 14 = nI u := (show J261 14 = J15 14 from hwr263.2 14 (by decide) (by decide)).trans kk19
              have kk267 : J261 4 = nI R := (show J261 4 = J15 4 from hwr263.2 4 (by decide) (by decide)).trans kk20
              have kk268 : J261 7 = nI Ec := (show J261 7 = J15 7 from hwr263.2 7 (by decide) (by decide)).trans kk21
              have kk269 : J261 18 = nI (f + 1) := (show J261 18 = J15 18 from hwr263.2 18 (by decide) (by decide)).trans kk22
              have kk270 : J261 28 = 0 := (show J261 28 = J15 28 from hwr263.2 28 (by decide) (by decide)).trans kk23
              have kk271 : J261 16 = nI a11 := (show J261 16 = J15 16 from hwr263.2 16 (by decide) (by decide)).trans kk24
              refine lv_iconst (v := 1) Bx.1 Bx.2.1 d_Mo_goesOn_210 (by decide) ?_
              exact W.zret (v := 1) hx hb hr rfl (fun t ht hW => ⟨⟨1, mem260, rfl, ⟨J261, A, nm, hW262, Or.inl ⟨rfl, Or.inl ⟨kk264, kk265, hT, hwr263.1, _, by omega, kk271⟩⟩⟩, by show va_P _ _ _ t.heap; rw [ht]; exact hP⟩, hS.F ht⟩) hS.2.2 d_Mo_goesOn_211
            · have hf0 : f = 0 := by
                by_cases z : f = 0
                · exact z
                · have hso0 : A 235 f = 0 := hb258
                  rcases hfg.2.2.1 (by omega) with y | y
                  · rw [y.1] at hso0; exact absurd hso0 (by decide)
                  · rw [y.1] at hso0; exact absurd hso0 (by decide)
              refine lv_iload_n Bx.1 Bx.2.1 d_Mo_goesOn_189 rfl (lv_at hl 1 rfl) ?_
              refine lv_bipush (v := 10) Bx.1 Bx.2.1 d_Mo_goesOn_190 (by decide) ?_
              refine lv_icmp_eq Bx.1 Bx.2.1 d_Mo_goesOn_192 rfl (fun hb272 => ?_) (fun hb272 => ?_)
              · have hlt273 := hereF_lt (by rw [hb272]; decide)
                refine lv_iconst (v := 0) Bx.1 Bx.2.1 d_Mo_goesOn_199 (by decide) ?_
                have hI0 : Inv R Ec u 0 True fc fs ft A (fun _ => False) := by rw [← hf0]; exact hI
                have h390 : A 239 0 = -1 := by rw [← hf0]; exact h39
                exact W.zret (v := 0) hx hb hr rfl (fun t ht hW => ⟨⟨0, mem10, rfl, ⟨J15, A, nm, hW14, Or.inr ⟨rfl, _, by omega, u, R, Ec, ⟨kk16, kk17, kk24, kk18, kk19, kk20, kk21⟩, ⟨by omega, by omega, by omega, by omega, by omega⟩, hT, hI0.base hEb h390⟩⟩, by show va_P _ _ _ t.heap; rw [ht]; exact hP⟩, hS.F ht⟩) hS.2.2 d_Mo_goesOn_200
              · refine lv_iload_n Bx.1 Bx.2.1 d_Mo_goesOn_195 rfl (lv_at hl 1 rfl) ?_
                refine lv_if_ge Bx.1 Bx.2.1 d_Mo_goesOn_196 rfl (fun hb274 => ?_) (fun hb274 => ?_)
                · refine lv_aload_n Bx.1 Bx.2.1 d_Mo_goesOn_201 rfl (lv_at hl 3 rfl) ?_
                  refine lv_iconst (v := 1) Bx.1 Bx.2.1 d_Mo_goesOn_202 (by decide) ?_
                  refine lv_aload_n Bx.1 Bx.2.1 d_Mo_goesOn_203 rfl (lv_at hl 3 rfl) ?_
                  refine f_get Bx hP (by omega) hW14.1 rfl inMo 16 (by decide) kw_672 rfl rfl d_Mo_goesOn_204 ?_
                  rw [kk24]
                  refine f_callVv (na := 2) (As := [.int (1), .int (nI a11)]) (rest := []) Bx hml E hP hD hS (by omega) hW14.1 rfl (m_Mo_wrong l hn hW14 (Or.inl kk18) (by first | exact Or.inl rfl | exact Or.inr rfl)) kw_799 kw_801 sel_Mo_wrong kw_8 kw_802 (by decide +kernel) ⟨rfl, rfl⟩ ⟨Nat.le_of_ble_eq_true rfl, Nat.le_of_ble_eq_true rfl⟩ rfl hl.1 (Nat.le_of_ble_eq_true rfl) d_Mo_goesOn_207 ⟨Nat.le_of_ble_eq_true rfl, Nat.le_of_ble_eq_true rfl⟩ (fun mem276 H locs hq hP hS => ?_)
                  have hD : va_D (Az sz) (fw n ad mem276) := fw_D hD
                  obtain ⟨J277, hW278, hwr279⟩ := hq
                  have kk280 : J277 1 = nI L := (show J277 1 = J15 1 from hwr279.2 1 (by decide) (by decide)).trans kk16
                  have kk281 : J277 24 = nI G := (show J277 24 = J15 24 from hwr279.2 24 (by decide) (by decide)).trans kk17
                  have kk282 : J277 14 = nI u := (show J277 14 = J15 14 from hwr279.2 14 (by decide) (by decide)).trans kk19
                  have kk283 : J277 4 = nI R := (show J277 4 = J15 4 from hwr279.2 4 (by decide) (by decide)).trans kk20
                  have kk284 : J277 7 = nI Ec := (show J277 7 = J15 7 from hwr279.2 7 (by decide) (by decide)).trans kk21
                  have kk285 : J277 18 = nI (f + 1) := (show J277 18 = J15 18 from hwr279.2 18 (by decide) (by decide)).trans kk22
                  have kk286 : J277 28 = 0 := (show J277 28 = J15 28 from hwr279.2 28 (by decide) (by decide)).trans kk23
                  have kk287 : J277 16 = nI a11 := (show J277 16 = J15 16 from hwr279.2 16 (by decide) (by decide)).trans kk24
                  refine lv_iconst (v := 1) Bx.1 Bx.2.1 d_Mo_goesOn_210 (by decide) ?_
                  exact W.zret (v := 1) hx hb hr rfl (fun t ht hW => ⟨⟨1, mem276, rfl, ⟨J277, A, nm, hW278, Or.inl ⟨rfl, Or.inl ⟨kk280, kk281, hT, hwr279.1, _, by omega, kk287⟩⟩⟩, by show va_P _ _ _ t.heap; rw [ht]; exact hP⟩, hS.F ht⟩) hS.2.2 d_Mo_goesOn_211
                · refine lv_iconst (v := 0) Bx.1 Bx.2.1 d_Mo_goesOn_199 (by decide) ?_
                  have hI0 : Inv R Ec u 0 True fc fs ft A (fun _ => False) := by rw [← hf0]; exact hI
                  have h390 : A 239 0 = -1 := by rw [← hf0]; exact h39
                  exact W.zret (v := 0) hx hb hr rfl (fun t ht hW => ⟨⟨0, mem10, rfl, ⟨J15, A, nm, hW14, Or.inr ⟨rfl, _, by omega, u, R, Ec, ⟨kk16, kk17, kk24, kk18, kk19, kk20, kk21⟩, ⟨by omega, by omega, by omega, by omega, by omega⟩, hT, hI0.base hEb h390⟩⟩, by show va_P _ _ _ t.heap; rw [ht]; exact hP⟩, hS.F ht⟩) hS.2.2 d_Mo_goesOn_200
          · refine lv_aload_n Bx.1 Bx.2.1 d_Mo_goesOn_165 rfl (lv_at hl 3 rfl) ?_
            refine f_get Bx hP (by omega) hW14.1 rfl inMo 16 (by decide) kw_672 rfl rfl d_Mo_goesOn_166 ?_
            rw [kk24]
            refine lv_iload_n Bx.1 Bx.2.1 d_Mo_goesOn_169 rfl (lv_at hl 2 rfl) ?_
            refine lv_icmp_le Bx.1 Bx.2.1 d_Mo_goesOn_170 rfl (fun hb288 => ?_) (fun hb288 => ?_)
            · have hN289 : a11 ≤ a := (nI_leI (by omega) (by omega)).mp (show nI (a11) ≤ nI (a) from hb288)
              refine lv_aload_n Bx.1 Bx.2.1 d_Mo_goesOn_180 rfl (lv_at hl 3 rfl) ?_
              refine f_get Bx hP (by omega) hW14.1 rfl inMo 19 (by decide) kw_675 rfl rfl d_Mo_goesOn_181 ?_
              refine lv_iload_n Bx.1 Bx.2.1 d_Mo_goesOn_184 rfl (lv_at hl 0 rfl) ?_
              refine f_iald Bx hP (by omega) (show mem10 235 = .inl (cy 1, 8, .inl (A 235)) from hW14.2.2.1 235 (by decide) (by decide) (by decide)) (vp_in_nI (n := f) (by omega) (by decide)) d_Mo_goesOn_185 ?_
              rw [nI_clamp (n := f) (by omega)]
              refine lv_if_ne Bx.1 Bx.2.1 d_Mo_goesOn_186 rfl (fun hb290 => ?_) (fun hb290 => ?_)
              · refine lv_aload_n Bx.1 Bx.2.1 d_Mo_goesOn_201 rfl (lv_at hl 3 rfl) ?_
                refine lv_iconst (v := 1) Bx.1 Bx.2.1 d_Mo_goesOn_202 (by decide) ?_
                refine lv_aload_n Bx.1 Bx.2.1 d_Mo_goesOn_203 rfl (lv_at hl 3 rfl) ?_
                refine f_get Bx hP (by omega) hW14.1 rfl inMo 16 (by decide) kw_672 rfl rfl d_Mo_goesOn_204 ?_
                rw [kk24]
                refine f_callVv (na := 2) (As := [.int (1), .int (nI a11)]) (rest := []) Bx hml E hP hD hS (by omega) hW14.1 rfl (m_Mo_wrong l hn hW14 (Or.inl kk18) (by first | exact Or.inl rfl | exact Or.inr rfl)) kw_799 kw_801 sel_Mo_wrong kw_8 kw_802 (by decide +kernel) ⟨rfl, rfl⟩ ⟨Nat.le_of_ble_eq_true rfl, Nat.le_of_ble_eq_true rfl⟩ rfl hl.1 (Nat.le_of_ble_eq_true rfl) d_Mo_goesOn_207 ⟨Nat.le_of_ble_eq_true rfl, Nat.le_of_ble_eq_true rfl⟩ (fun mem292 H locs hq hP hS => ?_)
                have hD : va_D (Az sz) (fw n ad mem292) := fw_D hD
                obtain ⟨J293, hW294, hwr295⟩ := hq
                have kk296 : J293 1 = nI L := (show J293 1 = J15 1 from hwr295.2 1 (by decide) (by decide)).trans kk16
                have kk297 : J293 24 = nI G := (show J293 24 = J15 24 from hwr295.2 24 (by decide) (by decide)).trans kk17
                have kk298 : J293 14 = nI u := (show J293 14 = J15 14 from hwr295.2 14 (by decide) (by decide)).trans kk19
                have kk299 : J293 4 = nI R := (show J293 4 = J15 4 from hwr295.2 4 (by decide) (by decide)).trans kk20
                have kk300 : J293 7 = nI Ec := (show J293 7 = J15 7 from hwr295.2 7 (by decide) (by decide)).trans kk21
                have kk301 : J293 18 = nI (f + 1) := (show J293 18 = J15 18 from hwr295.2 18 (by decide) (by decide)).trans kk22
                have kk302 : J293 28 = 0 := (show J293 28 = J15 28 from hwr295.2 28 (by decide) (by decide)).trans kk23
                have kk303 : J293 16 = nI a11 := (show J293 16 = J15 16 from hwr295.2 16 (by decide) (by decide)).trans kk24
                refine lv_iconst (v := 1) Bx.1 Bx.2.1 d_Mo_goesOn_210 (by decide) ?_
                exact W.zret (v := 1) hx hb hr rfl (fun t ht hW => ⟨⟨1, mem292, rfl, ⟨J293, A, nm, hW294, Or.inl ⟨rfl, Or.inl ⟨kk296, kk297, hT, hwr295.1, _, by omega, kk303⟩⟩⟩, by show va_P _ _ _ t.heap; rw [ht]; exact hP⟩, hS.F ht⟩) hS.2.2 d_Mo_goesOn_211
              · have hf0 : f = 0 := by
                  by_cases z : f = 0
                  · exact z
                  · have hso0 : A 235 f = 0 := hb290
                    rcases hfg.2.2.1 (by omega) with y | y
                    · rw [y.1] at hso0; exact absurd hso0 (by decide)
                    · rw [y.1] at hso0; exact absurd hso0 (by decide)
                refine lv_iload_n Bx.1 Bx.2.1 d_Mo_goesOn_189 rfl (lv_at hl 1 rfl) ?_
                refine lv_bipush (v := 10) Bx.1 Bx.2.1 d_Mo_goesOn_190 (by decide) ?_
                refine lv_icmp_eq Bx.1 Bx.2.1 d_Mo_goesOn_192 rfl (fun hb304 => ?_) (fun hb304 => ?_)
                · have hlt305 := hereF_lt (by rw [hb304]; decide)
                  refine lv_iconst (v := 0) Bx.1 Bx.2.1 d_Mo_goesOn_199 (by decide) ?_
                  have hI0 : Inv R Ec u 0 True fc fs ft A (fun _ => False) := by rw [← hf0]; exact hI
                  have h390 : A 239 0 = -1 := by rw [← hf0]; exact h39
                  exact W.zret (v := 0) hx hb hr rfl (fun t ht hW => ⟨⟨0, mem10, rfl, ⟨J15, A, nm, hW14, Or.inr ⟨rfl, _, by omega, u, R, Ec, ⟨kk16, kk17, kk24, kk18, kk19, kk20, kk21⟩, ⟨by omega, by omega, by omega, by omega, by omega⟩, hT, hI0.base hEb h390⟩⟩, by show va_P _ _ _ t.heap; rw [ht]; exact hP⟩, hS.F ht⟩) hS.2.2 d_Mo_goesOn_200
                · refine lv_iload_n Bx.1 Bx.2.1 d_Mo_goesOn_195 rfl (lv_at hl 1 rfl) ?_
                  refine lv_if_ge Bx.1 Bx.2.1 d_Mo_goesOn_196 rfl (fun hb306 => ?_) (fun hb306 => ?_)
                  · refine lv_aload_n Bx.1 Bx.2.1 d_Mo_goesOn_201 rfl (lv_at hl 3 rfl) ?_
                    refine lv_iconst (v := 1) Bx.1 Bx.2.1 d_Mo_goesOn_202 (by decide) ?_
                    refine lv_aload_n Bx.1 Bx.2.1 d_Mo_goesOn_203 rfl (lv_at hl 3 rfl) ?_
                    refine f_get Bx hP (by omega) hW14.1 rfl inMo 16 (by decide) kw_672 rfl rfl d_Mo_goesOn_204 ?_
                    rw [kk24]
                    refine f_callVv (na := 2) (As := [.int (1), .int (nI a11)]) (rest := []) Bx hml E hP hD hS (by omega) hW14.1 rfl (m_Mo_wrong l hn hW14 (Or.inl kk18) (by first | exact Or.inl rfl | exact Or.inr rfl)) kw_799 kw_801 sel_Mo_wrong kw_8 kw_802 (by decide +kernel) ⟨rfl, rfl⟩ ⟨Nat.le_of_ble_eq_true rfl, Nat.le_of_ble_eq_true rfl⟩ rfl hl.1 (Nat.le_of_ble_eq_true rfl) d_Mo_goesOn_207 ⟨Nat.le_of_ble_eq_true rfl, Nat.le_of_ble_eq_true rfl⟩ (fun mem308 H locs hq hP hS => ?_)
                    have hD : va_D (Az sz) (fw n ad mem308) := fw_D hD
                    obtain ⟨J309, hW310, hwr311⟩ := hq
                    have kk312 : J309 1 = nI L := (show J309 1 = J15 1 from hwr311.2 1 (by decide) (by decide)).trans kk16
                    have kk313 : J309 24 = nI G := (show J309 24 = J15 24 from hwr311.2 24 (by decide) (by decide)).trans kk17
                    have kk314 : J309 14 = nI u := (show J309 14 = J15 14 from hwr311.2 14 (by decide) (by decide)).trans kk19
                    have kk315 : J309 4 = nI R := (show J309 4 = J15 4 from hwr311.2 4 (by decide) (by decide)).trans kk20
                    have kk316 : J309 7 = nI Ec := (show J309 7 = J15 7 from hwr311.2 7 (by decide) (by decide)).trans kk21
                    have kk317 : J309 18 = nI (f + 1) := (show J309 18 = J15 18 from hwr311.2 18 (by decide) (by decide)).trans kk22
                    have kk318 : J309 28 = 0 := (show J309 28 = J15 28 from hwr311.2 28 (by decide) (by decide)).trans kk23
                    have kk319 : J309 16 = nI a11 := (show J309 16 = J15 16 from hwr311.2 16 (by decide) (by decide)).trans kk24
                    refine lv_iconst (v := 1) Bx.1 Bx.2.1 d_Mo_goesOn_210 (by decide) ?_
                    exact W.zret (v := 1) hx hb hr rfl (fun t ht hW => ⟨⟨1, mem308, rfl, ⟨J309, A, nm, hW310, Or.inl ⟨rfl, Or.inl ⟨kk312, kk313, hT, hwr311.1, _, by omega, kk319⟩⟩⟩, by show va_P _ _ _ t.heap; rw [ht]; exact hP⟩, hS.F ht⟩) hS.2.2 d_Mo_goesOn_211
                  · refine lv_iconst (v := 0) Bx.1 Bx.2.1 d_Mo_goesOn_199 (by decide) ?_
                    have hI0 : Inv R Ec u 0 True fc fs ft A (fun _ => False) := by rw [← hf0]; exact hI
                    have h390 : A 239 0 = -1 := by rw [← hf0]; exact h39
                    exact W.zret (v := 0) hx hb hr rfl (fun t ht hW => ⟨⟨0, mem10, rfl, ⟨J15, A, nm, hW14, Or.inr ⟨rfl, _, by omega, u, R, Ec, ⟨kk16, kk17, kk24, kk18, kk19, kk20, kk21⟩, ⟨by omega, by omega, by omega, by omega, by omega⟩, hT, hI0.base hEb h390⟩⟩, by show va_P _ _ _ t.heap; rw [ht]; exact hP⟩, hS.F ht⟩) hS.2.2 d_Mo_goesOn_200
            · have hN320 : ¬ a11 ≤ a := fun q9 => hb288 (show nI (a11) ≤ nI (a) from (nI_leI (by omega) (by omega)).mpr q9)
              refine lv_aload_n Bx.1 Bx.2.1 d_Mo_goesOn_173 rfl (lv_at hl 3 rfl) ?_
              refine f_callVv (na := 0) (As := []) (rest := []) Bx hml E hP hD hS (by omega) hW14.1 rfl (m_Mo_repetition l hn hW14 ⟨kk16, kk17, kk24, kk18, kk19, kk20, kk21, kk22⟩ ⟨hL, by omega, by omega, by omega, by omega⟩ (by omega) hT kk23 hI h39) kw_826 kw_828 sel_Mo_repetition kw_8 kw_829 (by decide +kernel) ⟨rfl, rfl⟩ ⟨Nat.le_of_ble_eq_true rfl, Nat.le_of_ble_eq_true rfl⟩ rfl hl.1 (Nat.le_of_ble_eq_true rfl) d_Mo_goesOn_174 ⟨Nat.le_of_ble_eq_true rfl, Nat.le_of_ble_eq_true rfl⟩ (fun mem322 H locs hq hP hS => ?_)
              have hD : va_D (Az sz) (fw n ad mem322) := fw_D hD
              obtain ⟨J323, A324, nn325, hW326, hres327⟩ := hq
              refine lv_goto Bx.1 Bx.2.1 d_Mo_goesOn_177 rfl ?_
              refine lv_iconst (v := 1) Bx.1 Bx.2.1 d_Mo_goesOn_210 (by decide) ?_
              exact W.zret (v := 1) hx hb hr rfl (fun t ht hW => ⟨⟨1, mem322, rfl, ⟨J323, A324, nn325, hW326, Or.inl ⟨rfl, hres327.mono (by omega)⟩⟩, by show va_P _ _ _ t.heap; rw [ht]; exact hP⟩, hS.F ht⟩) hS.2.2 d_Mo_goesOn_211
        · have hlt328 := hereF_lt (by rw [hb254]; decide)
          refine lv_aload_n Bx.1 Bx.2.1 d_Mo_goesOn_70 rfl (lv_at hl 3 rfl) ?_
          refine f_get Bx hP (by omega) hW14.1 rfl inMo 19 (by decide) kw_675 rfl rfl d_Mo_goesOn_71 ?_
          refine lv_iload_n Bx.1 Bx.2.1 d_Mo_goesOn_74 rfl (lv_at hl 0 rfl) ?_
          refine f_iald Bx hP (by omega) (show mem10 235 = .inl (cy 1, 8, .inl (A 235)) from hW14.2.2.1 235 (by decide) (by decide) (by decide)) (vp_in_nI (n := f) (by omega) (by decide)) d_Mo_goesOn_75 ?_
          rw [nI_clamp (n := f) (by omega)]
          refine lv_iconst (v := 2) Bx.1 Bx.2.1 d_Mo_goesOn_76 (by decide) ?_
          refine lv_icmp_ne Bx.1 Bx.2.1 d_Mo_goesOn_77 rfl (fun hb329 => ?_) (fun hb329 => ?_)
          · refine lv_iload_n Bx.1 Bx.2.1 d_Mo_goesOn_158 rfl (lv_at hl 1 rfl) ?_
            refine f_callSi (na := 1) (As := [.int (hereF L T (a11))]) (rest := []) Bx hml E.2.1 (m_Mo_begins l (hereF L T (a11))) kw_811 kw_812 kw_8 kw_813 (by decide +kernel) ⟨rfl, rfl⟩ ⟨Nat.le_of_ble_eq_true rfl, Nat.le_of_ble_eq_true rfl⟩ rfl hl.1 (Nat.le_of_ble_eq_true rfl) d_Mo_goesOn_159 ⟨Nat.le_of_ble_eq_true rfl, Nat.le_of_ble_eq_true rfl⟩ (fun r331 hs330 => ?_)
            refine lv_if_eq Bx.1 Bx.2.1 d_Mo_goesOn_162 rfl (fun hb332 => ?_) (fun hb332 => ?_)
            · refine lv_aload_n Bx.1 Bx.2.1 d_Mo_goesOn_180 rfl (lv_at hl 3 rfl) ?_
              refine f_get Bx hP (by omega) hW14.1 rfl inMo 19 (by decide) kw_675 rfl rfl d_Mo_goesOn_181 ?_
              refine lv_iload_n Bx.1 Bx.2.1 d_Mo_goesOn_184 rfl (lv_at hl 0 rfl) ?_
              refine f_iald Bx hP (by omega) (show mem10 235 = .inl (cy 1, 8, .inl (A 235)) from hW14.2.2.1 235 (by decide) (by decide) (by decide)) (vp_in_nI (n := f) (by omega) (by decide)) d_Mo_goesOn_185 ?_
              rw [nI_clamp (n := f) (by omega)]
              refine lv_if_ne Bx.1 Bx.2.1 d_Mo_goesOn_186 rfl (fun hb333 => ?_) (fun hb333 => ?_)
              · refine lv_aload_n Bx.1 Bx.2.1 d_Mo_goesOn_201 rfl (lv_at hl 3 rfl) ?_
                refine lv_iconst (v := 1) Bx.1 Bx.2.1 d_Mo_goesOn_202 (by decide) ?_
                refine lv_aload_n Bx.1 Bx.2.1 d_Mo_goesOn_203 rfl (lv_at hl 3 rfl) ?_
                refine f_get Bx hP (by omega) hW14.1 rfl inMo 16 (by decide) kw_672 rfl rfl d_Mo_goesOn_204 ?_
                rw [kk24]
                refine f_callVv (na := 2) (As := [.int (1), .int (nI a11)]) (rest := []) Bx hml E hP hD hS (by omega) hW14.1 rfl (m_Mo_wrong l hn hW14 (Or.inl kk18) (by first | exact Or.inl rfl | exact Or.inr rfl)) kw_799 kw_801 sel_Mo_wrong kw_8 kw_802 (by decide +kernel) ⟨rfl, rfl⟩ ⟨Nat.le_of_ble_eq_true rfl, Nat.le_of_ble_eq_true rfl⟩ rfl hl.1 (Nat.le_of_ble_eq_true rfl) d_Mo_goesOn_207 ⟨Nat.le_of_ble_eq_true rfl, Nat.le_of_ble_eq_true rfl⟩ (fun mem335 H locs hq hP hS => ?_)
                have hD : va_D (Az sz) (fw n ad mem335) := fw_D hD
                obtain ⟨J336, hW337, hwr338⟩ := hq
                have kk339 : J336 1 = nI L := (show J336 1 = J15 1 from hwr338.2 1 (by decide) (by decide)).trans kk16
                have kk340 : J336 24 = nI G := (show J336 24 = J15 24 from hwr338.2 24 (by decide) (by decide)).trans kk17
                have kk341 : J336 14 = nI u := (show J336 14 = J15 14 from hwr338.2 14 (by decide) (by decide)).trans kk19
                have kk342 : J336 4 = nI R := (show J336 4 = J15 4 from hwr338.2 4 (by decide) (by decide)).trans kk20
                have kk343 : J336 7 = nI Ec := (show J336 7 = J15 7 from hwr338.2 7 (by decide) (by decide)).trans kk21
                have kk344 : J336 18 = nI (f + 1) := (show J336 18 = J15 18 from hwr338.2 18 (by decide) (by decide)).trans kk22
                have kk345 : J336 28 = 0 := (show J336 28 = J15 28 from hwr338.2 28 (by decide) (by decide)).trans kk23
                have kk346 : J336 16 = nI a11 := (show J336 16 = J15 16 from hwr338.2 16 (by decide) (by decide)).trans kk24
                refine lv_iconst (v := 1) Bx.1 Bx.2.1 d_Mo_goesOn_210 (by decide) ?_
                exact W.zret (v := 1) hx hb hr rfl (fun t ht hW => ⟨⟨1, mem335, rfl, ⟨J336, A, nm, hW337, Or.inl ⟨rfl, Or.inl ⟨kk339, kk340, hT, hwr338.1, _, by omega, kk346⟩⟩⟩, by show va_P _ _ _ t.heap; rw [ht]; exact hP⟩, hS.F ht⟩) hS.2.2 d_Mo_goesOn_211
              · have hf0 : f = 0 := by
                  by_cases z : f = 0
                  · exact z
                  · have hso0 : A 235 f = 0 := hb333
                    rcases hfg.2.2.1 (by omega) with y | y
                    · rw [y.1] at hso0; exact absurd hso0 (by decide)
                    · rw [y.1] at hso0; exact absurd hso0 (by decide)
                refine lv_iload_n Bx.1 Bx.2.1 d_Mo_goesOn_189 rfl (lv_at hl 1 rfl) ?_
                refine lv_bipush (v := 10) Bx.1 Bx.2.1 d_Mo_goesOn_190 (by decide) ?_
                refine lv_icmp_eq Bx.1 Bx.2.1 d_Mo_goesOn_192 rfl (fun hb347 => ?_) (fun hb347 => ?_)
                · have hlt348 := hereF_lt (by rw [hb347]; decide)
                  refine lv_iconst (v := 0) Bx.1 Bx.2.1 d_Mo_goesOn_199 (by decide) ?_
                  have hI0 : Inv R Ec u 0 True fc fs ft A (fun _ => False) := by rw [← hf0]; exact hI
                  have h390 : A 239 0 = -1 := by rw [← hf0]; exact h39
                  exact W.zret (v := 0) hx hb hr rfl (fun t ht hW => ⟨⟨0, mem10, rfl, ⟨J15, A, nm, hW14, Or.inr ⟨rfl, _, by omega, u, R, Ec, ⟨kk16, kk17, kk24, kk18, kk19, kk20, kk21⟩, ⟨by omega, by omega, by omega, by omega, by omega⟩, hT, hI0.base hEb h390⟩⟩, by show va_P _ _ _ t.heap; rw [ht]; exact hP⟩, hS.F ht⟩) hS.2.2 d_Mo_goesOn_200
                · refine lv_iload_n Bx.1 Bx.2.1 d_Mo_goesOn_195 rfl (lv_at hl 1 rfl) ?_
                  refine lv_if_ge Bx.1 Bx.2.1 d_Mo_goesOn_196 rfl (fun hb349 => ?_) (fun hb349 => ?_)
                  · refine lv_aload_n Bx.1 Bx.2.1 d_Mo_goesOn_201 rfl (lv_at hl 3 rfl) ?_
                    refine lv_iconst (v := 1) Bx.1 Bx.2.1 d_Mo_goesOn_202 (by decide) ?_
                    refine lv_aload_n Bx.1 Bx.2.1 d_Mo_goesOn_203 rfl (lv_at hl 3 rfl) ?_
                    refine f_get Bx hP (by omega) hW14.1 rfl inMo 16 (by decide) kw_672 rfl rfl d_Mo_goesOn_204 ?_
                    rw [kk24]
                    refine f_callVv (na := 2) (As := [.int (1), .int (nI a11)]) (rest := []) Bx hml E hP hD hS (by omega) hW14.1 rfl (m_Mo_wrong l hn hW14 (Or.inl kk18) (by first | exact Or.inl rfl | exact Or.inr rfl)) kw_799 kw_801 sel_Mo_wrong kw_8 kw_802 (by decide +kernel) ⟨rfl, rfl⟩ ⟨Nat.le_of_ble_eq_true rfl, Nat.le_of_ble_eq_true rfl⟩ rfl hl.1 (Nat.le_of_ble_eq_true rfl) d_Mo_goesOn_207 ⟨Nat.le_of_ble_eq_true rfl, Nat.le_of_ble_eq_true rfl⟩ (fun mem351 H locs hq hP hS => ?_)
                    have hD : va_D (Az sz) (fw n ad mem351) := fw_D hD
                    obtain ⟨J352, hW353, hwr354⟩ := hq
                    have kk355 : J352 1 = nI L := (show J352 1 = J15 1 from hwr354.2 1 (by decide) (by decide)).trans kk16
                    have kk356 : J352 24 = nI G := (show J352 24 = J15 24 from hwr354.2 24 (by decide) (by decide)).trans kk17
                    have kk357 : J352 14 = nI u := (show J352 14 = J15 14 from hwr354.2 14 (by decide) (by decide)).trans kk19
                    have kk358 : J352 4 = nI R := (show J352 4 = J15 4 from hwr354.2 4 (by decide) (by decide)).trans kk20
                    have kk359 : J352 7 = nI Ec := (show J352 7 = J15 7 from hwr354.2 7 (by decide) (by decide)).trans kk21
                    have kk360 : J352 18 = nI (f + 1) := (show J352 18 = J15 18 from hwr354.2 18 (by decide) (by decide)).trans kk22
                    have kk361 : J352 28 = 0 := (show J352 28 = J15 28 from hwr354.2 28 (by decide) (by decide)).trans kk23
                    have kk362 : J352 16 = nI a11 := (show J352 16 = J15 16 from hwr354.2 16 (by decide) (by decide)).trans kk24
                    refine lv_iconst (v := 1) Bx.1 Bx.2.1 d_Mo_goesOn_210 (by decide) ?_
                    exact W.zret (v := 1) hx hb hr rfl (fun t ht hW => ⟨⟨1, mem351, rfl, ⟨J352, A, nm, hW353, Or.inl ⟨rfl, Or.inl ⟨kk355, kk356, hT, hwr354.1, _, by omega, kk362⟩⟩⟩, by show va_P _ _ _ t.heap; rw [ht]; exact hP⟩, hS.F ht⟩) hS.2.2 d_Mo_goesOn_211
                  · refine lv_iconst (v := 0) Bx.1 Bx.2.1 d_Mo_goesOn_199 (by decide) ?_
                    have hI0 : Inv R Ec u 0 True fc fs ft A (fun _ => False) := by rw [← hf0]; exact hI
                    have h390 : A 239 0 = -1 := by rw [← hf0]; exact h39
                    exact W.zret (v := 0) hx hb hr rfl (fun t ht hW => ⟨⟨0, mem10, rfl, ⟨J15, A, nm, hW14, Or.inr ⟨rfl, _, by omega, u, R, Ec, ⟨kk16, kk17, kk24, kk18, kk19, kk20, kk21⟩, ⟨by omega, by omega, by omega, by omega, by omega⟩, hT, hI0.base hEb h390⟩⟩, by show va_P _ _ _ t.heap; rw [ht]; exact hP⟩, hS.F ht⟩) hS.2.2 d_Mo_goesOn_200
            · refine lv_aload_n Bx.1 Bx.2.1 d_Mo_goesOn_165 rfl (lv_at hl 3 rfl) ?_
              refine f_get Bx hP (by omega) hW14.1 rfl inMo 16 (by decide) kw_672 rfl rfl d_Mo_goesOn_166 ?_
              rw [kk24]
              refine lv_iload_n Bx.1 Bx.2.1 d_Mo_goesOn_169 rfl (lv_at hl 2 rfl) ?_
              refine lv_icmp_le Bx.1 Bx.2.1 d_Mo_goesOn_170 rfl (fun hb363 => ?_) (fun hb363 => ?_)
              · have hN364 : a11 ≤ a := (nI_leI (by omega) (by omega)).mp (show nI (a11) ≤ nI (a) from hb363)
                refine lv_aload_n Bx.1 Bx.2.1 d_Mo_goesOn_180 rfl (lv_at hl 3 rfl) ?_
                refine f_get Bx hP (by omega) hW14.1 rfl inMo 19 (by decide) kw_675 rfl rfl d_Mo_goesOn_181 ?_
                refine lv_iload_n Bx.1 Bx.2.1 d_Mo_goesOn_184 rfl (lv_at hl 0 rfl) ?_
                refine f_iald Bx hP (by omega) (show mem10 235 = .inl (cy 1, 8, .inl (A 235)) from hW14.2.2.1 235 (by decide) (by decide) (by decide)) (vp_in_nI (n := f) (by omega) (by decide)) d_Mo_goesOn_185 ?_
                rw [nI_clamp (n := f) (by omega)]
                refine lv_if_ne Bx.1 Bx.2.1 d_Mo_goesOn_186 rfl (fun hb365 => ?_) (fun hb365 => ?_)
                · refine lv_aload_n Bx.1 Bx.2.1 d_Mo_goesOn_201 rfl (lv_at hl 3 rfl) ?_
                  refine lv_iconst (v := 1) Bx.1 Bx.2.1 d_Mo_goesOn_202 (by decide) ?_
                  refine lv_aload_n Bx.1 Bx.2.1 d_Mo_goesOn_203 rfl (lv_at hl 3 rfl) ?_
                  refine f_get Bx hP (by omega) hW14.1 rfl inMo 16 (by decide) kw_672 rfl rfl d_Mo_goesOn_204 ?_
                  rw [kk24]
                  refine f_callVv (na := 2) (As := [.int (1), .int (nI a11)]) (rest := []) Bx hml E hP hD hS (by omega) hW14.1 rfl (m_Mo_wrong l hn hW14 (Or.inl kk18) (by first | exact Or.inl rfl | exact Or.inr rfl)) kw_799 kw_801 sel_Mo_wrong kw_8 kw_802 (by decide +kernel) ⟨rfl, rfl⟩ ⟨Nat.le_of_ble_eq_true rfl, Nat.le_of_ble_eq_true rfl⟩ rfl hl.1 (Nat.le_of_ble_eq_true rfl) d_Mo_goesOn_207 ⟨Nat.le_of_ble_eq_true rfl, Nat.le_of_ble_eq_true rfl⟩ (fun mem367 H locs hq hP hS => ?_)
                  have hD : va_D (Az sz) (fw n ad mem367) := fw_D hD
                  obtain ⟨J368, hW369, hwr370⟩ := hq
                  have kk371 : J368 1 = nI L := (show J368 1 = J15 1 from hwr370.2 1 (by decide) (by decide)).trans kk16
                  have kk372 : J368 24 = nI G := (show J368 24 = J15 24 from hwr370.2 24 (by decide) (by decide)).trans kk17
                  have kk373 : J368 14 = nI u := (show J368 14 = J15 14 from hwr370.2 14 (by decide) (by decide)).trans kk19
                  have kk374 : J368 4 = nI R := (show J368 4 = J15 4 from hwr370.2 4 (by decide) (by decide)).trans kk20
                  have kk375 : J368 7 = nI Ec := (show J368 7 = J15 7 from hwr370.2 7 (by decide) (by decide)).trans kk21
                  have kk376 : J368 18 = nI (f + 1) := (show J368 18 = J15 18 from hwr370.2 18 (by decide) (by decide)).trans kk22
                  have kk377 : J368 28 = 0 := (show J368 28 = J15 28 from hwr370.2 28 (by decide) (by decide)).trans kk23
                  have kk378 : J368 16 = nI a11 := (show J368 16 = J15 16 from hwr370.2 16 (by decide) (by decide)).trans kk24
                  refine lv_iconst (v := 1) Bx.1 Bx.2.1 d_Mo_goesOn_210 (by decide) ?_
                  exact W.zret (v := 1) hx hb hr rfl (fun t ht hW => ⟨⟨1, mem367, rfl, ⟨J368, A, nm, hW369, Or.inl ⟨rfl, Or.inl ⟨kk371, kk372, hT, hwr370.1, _, by omega, kk378⟩⟩⟩, by show va_P _ _ _ t.heap; rw [ht]; exact hP⟩, hS.F ht⟩) hS.2.2 d_Mo_goesOn_211
                · have hf0 : f = 0 := by
                    by_cases z : f = 0
                    · exact z
                    · have hso0 : A 235 f = 0 := hb365
                      rcases hfg.2.2.1 (by omega) with y | y
                      · rw [y.1] at hso0; exact absurd hso0 (by decide)
                      · rw [y.1] at hso0; exact absurd hso0 (by decide)
                  refine lv_iload_n Bx.1 Bx.2.1 d_Mo_goesOn_189 rfl (lv_at hl 1 rfl) ?_
                  refine lv_bipush (v := 10) Bx.1 Bx.2.1 d_Mo_goesOn_190 (by decide) ?_
                  refine lv_icmp_eq Bx.1 Bx.2.1 d_Mo_goesOn_192 rfl (fun hb379 => ?_) (fun hb379 => ?_)
                  · have hlt380 := hereF_lt (by rw [hb379]; decide)
                    refine lv_iconst (v := 0) Bx.1 Bx.2.1 d_Mo_goesOn_199 (by decide) ?_
                    have hI0 : Inv R Ec u 0 True fc fs ft A (fun _ => False) := by rw [← hf0]; exact hI
                    have h390 : A 239 0 = -1 := by rw [← hf0]; exact h39
                    exact W.zret (v := 0) hx hb hr rfl (fun t ht hW => ⟨⟨0, mem10, rfl, ⟨J15, A, nm, hW14, Or.inr ⟨rfl, _, by omega, u, R, Ec, ⟨kk16, kk17, kk24, kk18, kk19, kk20, kk21⟩, ⟨by omega, by omega, by omega, by omega, by omega⟩, hT, hI0.base hEb h390⟩⟩, by show va_P _ _ _ t.heap; rw [ht]; exact hP⟩, hS.F ht⟩) hS.2.2 d_Mo_goesOn_200
                  · refine lv_iload_n Bx.1 Bx.2.1 d_Mo_goesOn_195 rfl (lv_at hl 1 rfl) ?_
                    refine lv_if_ge Bx.1 Bx.2.1 d_Mo_goesOn_196 rfl (fun hb381 => ?_) (fun hb381 => ?_)
                    · refine lv_aload_n Bx.1 Bx.2.1 d_Mo_goesOn_201 rfl (lv_at hl 3 rfl) ?_
                      refine lv_iconst (v := 1) Bx.1 Bx.2.1 d_Mo_goesOn_202 (by decide) ?_
                      refine lv_aload_n Bx.1 Bx.2.1 d_Mo_goesOn_203 rfl (lv_at hl 3 rfl) ?_
                      refine f_get Bx hP (by omega) hW14.1 rfl inMo 16 (by decide) kw_672 rfl rfl d_Mo_goesOn_204 ?_
                      rw [kk24]
                      refine f_callVv (na := 2) (As := [.int (1), .int (nI a11)]) (rest := []) Bx hml E hP hD hS (by omega) hW14.1 rfl (m_Mo_wrong l hn hW14 (Or.inl kk18) (by first | exact Or.inl rfl | exact Or.inr rfl)) kw_799 kw_801 sel_Mo_wrong kw_8 kw_802 (by decide +kernel) ⟨rfl, rfl⟩ ⟨Nat.le_of_ble_eq_true rfl, Nat.le_of_ble_eq_true rfl⟩ rfl hl.1 (Nat.le_of_ble_eq_true rfl) d_Mo_goesOn_207 ⟨Nat.le_of_ble_eq_true rfl, Nat.le_of_ble_eq_true rfl⟩ (fun mem383 H locs hq hP hS => ?_)
                      have hD : va_D (Az sz) (fw n ad mem383) := fw_D hD
                      obtain ⟨J384, hW385, hwr386⟩ := hq
                      have kk387 : J384 1 = nI L := (show J384 1 = J15 1 from hwr386.2 1 (by decide) (by decide)).trans kk16
                      have kk388 : J384 24 = nI G := (show J384 24 = J15 24 from hwr386.2 24 (by decide) (by decide)).trans kk17
                      have kk389 : J384 14 = nI u := (show J384 14 = J15 14 from hwr386.2 14 (by decide) (by decide)).trans kk19
                      have kk390 : J384 4 = nI R := (show J384 4 = J15 4 from hwr386.2 4 (by decide) (by decide)).trans kk20
                      have kk391 : J384 7 = nI Ec := (show J384 7 = J15 7 from hwr386.2 7 (by decide) (by decide)).trans kk21
                      have kk392 : J384 18 = nI (f + 1) := (show J384 18 = J15 18 from hwr386.2 18 (by decide) (by decide)).trans kk22
                      have kk393 : J384 28 = 0 := (show J384 28 = J15 28 from hwr386.2 28 (by decide) (by decide)).trans kk23
                      have kk394 : J384 16 = nI a11 := (show J384 16 = J15 16 from hwr386.2 16 (by decide) (by decide)).trans kk24
                      refine lv_iconst (v := 1) Bx.1 Bx.2.1 d_Mo_goesOn_210 (by decide) ?_
                      exact W.zret (v := 1) hx hb hr rfl (fun t ht hW => ⟨⟨1, mem383, rfl, ⟨J384, A, nm, hW385, Or.inl ⟨rfl, Or.inl ⟨kk387, kk388, hT, hwr386.1, _, by omega, kk394⟩⟩⟩, by show va_P _ _ _ t.heap; rw [ht]; exact hP⟩, hS.F ht⟩) hS.2.2 d_Mo_goesOn_211
                    · refine lv_iconst (v := 0) Bx.1 Bx.2.1 d_Mo_goesOn_199 (by decide) ?_
                      have hI0 : Inv R Ec u 0 True fc fs ft A (fun _ => False) := by rw [← hf0]; exact hI
                      have h390 : A 239 0 = -1 := by rw [← hf0]; exact h39
                      exact W.zret (v := 0) hx hb hr rfl (fun t ht hW => ⟨⟨0, mem10, rfl, ⟨J15, A, nm, hW14, Or.inr ⟨rfl, _, by omega, u, R, Ec, ⟨kk16, kk17, kk24, kk18, kk19, kk20, kk21⟩, ⟨by omega, by omega, by omega, by omega, by omega⟩, hT, hI0.base hEb h390⟩⟩, by show va_P _ _ _ t.heap; rw [ht]; exact hP⟩, hS.F ht⟩) hS.2.2 d_Mo_goesOn_200
              · have hN395 : ¬ a11 ≤ a := fun q9 => hb363 (show nI (a11) ≤ nI (a) from (nI_leI (by omega) (by omega)).mpr q9)
                refine lv_aload_n Bx.1 Bx.2.1 d_Mo_goesOn_173 rfl (lv_at hl 3 rfl) ?_
                refine f_callVv (na := 0) (As := []) (rest := []) Bx hml E hP hD hS (by omega) hW14.1 rfl (m_Mo_repetition l hn hW14 ⟨kk16, kk17, kk24, kk18, kk19, kk20, kk21, kk22⟩ ⟨hL, by omega, by omega, by omega, by omega⟩ (by omega) hT kk23 hI h39) kw_826 kw_828 sel_Mo_repetition kw_8 kw_829 (by decide +kernel) ⟨rfl, rfl⟩ ⟨Nat.le_of_ble_eq_true rfl, Nat.le_of_ble_eq_true rfl⟩ rfl hl.1 (Nat.le_of_ble_eq_true rfl) d_Mo_goesOn_174 ⟨Nat.le_of_ble_eq_true rfl, Nat.le_of_ble_eq_true rfl⟩ (fun mem397 H locs hq hP hS => ?_)
                have hD : va_D (Az sz) (fw n ad mem397) := fw_D hD
                obtain ⟨J398, A399, nn400, hW401, hres402⟩ := hq
                refine lv_goto Bx.1 Bx.2.1 d_Mo_goesOn_177 rfl ?_
                refine lv_iconst (v := 1) Bx.1 Bx.2.1 d_Mo_goesOn_210 (by decide) ?_
                exact W.zret (v := 1) hx hb hr rfl (fun t ht hW => ⟨⟨1, mem397, rfl, ⟨J398, A399, nn400, hW401, Or.inl ⟨rfl, hres402.mono (by omega)⟩⟩, by show va_P _ _ _ t.heap; rw [ht]; exact hP⟩, hS.F ht⟩) hS.2.2 d_Mo_goesOn_211
          · have hso : A 235 f = 2 := hb329
            have hf1x : 1 ≤ f := Nat.pos_of_ne_zero (fun z => by have := hfg.2.1 z; rw [hso] at this; exact absurd this (by decide))
            obtain ⟨f1, hf1⟩ : ∃ f1, f = f1 + 1 := ⟨f - 1, by omega⟩
            have hI1 : Inv R Ec u (f1 + 1) True fc fs ft A (fun _ => False) := by rw [← hf1]; exact hI
            have h391 : A 239 (f1 + 1) = -1 := by rw [← hf1]; exact h39
            have hte := (hfg.2.2.1 hf1x).resolve_left (fun z => by rw [z.1] at hso; exact absurd hso (by decide))
            refine lv_aload_n Bx.1 Bx.2.1 d_Mo_goesOn_80 rfl (lv_at hl 3 rfl) ?_
            refine lv_dup Bx.1 Bx.2.1 d_Mo_goesOn_81 rfl ?_
            refine f_get Bx hP (by omega) hW14.1 rfl inMo 16 (by decide) kw_672 rfl rfl d_Mo_goesOn_82 ?_
            rw [kk24]
            refine lv_iconst (v := 1) Bx.1 Bx.2.1 d_Mo_goesOn_85 (by decide) ?_
            refine lv_iadd Bx.1 Bx.2.1 d_Mo_goesOn_86 ?_
            rw [show nI a11 + 1 = nI (a11 + 1) from nI_add (a11) (1)]
            refine f_put Bx hP hD hS (by omega) hW14.1 rfl inMo tyMo okMo nmMo 16 (by decide) kw_672 rfl rfl rfl rfl (Nat.le_of_ble_eq_true rfl) d_Mo_goesOn_87 (fun H locs hP hS => ?_)
            obtain ⟨J403, eJ403⟩ : ∃ z, z = va_up J15 16 (nI (a11 + 1)) := ⟨_, rfl⟩
            obtain ⟨mem404, e_mem404⟩ : ∃ z, z = va_up mem10 224 (moC ad J403) := ⟨_, rfl⟩
            have hP : va_P D vcl (fw n ad mem404) H := by rw [e_mem404, eJ403]; exact hP
            have hD : va_D (Az sz) (fw n ad mem404) := fw_D hD
            have hW405 : MW cy ad J403 A nm m0 mem404 := by rw [e_mem404]; exact hW14.upJ (by rw [eJ403]; exact va_up_ne _ _ (by decide))
            have kk406 : J403 1 = nI L := by rw [eJ403]; exact kk16
            have kk407 : J403 24 = nI G := by rw [eJ403]; exact kk17
            have kk408 : J403 17 = 0 := by rw [eJ403]; exact kk18
            have kk409 : J403 14 = nI u := by rw [eJ403]; exact kk19
            have kk410 : J403 4 = nI R := by rw [eJ403]; exact kk20
            have kk411 : J403 7 = nI Ec := by rw [eJ403]; exact kk21
            have kk412 : J403 18 = nI (f + 1) := by rw [eJ403]; exact kk22
            have kk413 : J403 28 = 0 := by rw [eJ403]; exact kk23
            have kk414 : J403 16 = nI (a11 + 1) := by rw [eJ403, va_up_self]
            refine lv_aload_n Bx.1 Bx.2.1 d_Mo_goesOn_90 rfl (lv_at hl 3 rfl) ?_
            refine f_get Bx hP (by omega) hW405.1 rfl inMo 19 (by decide) kw_675 rfl rfl d_Mo_goesOn_91 ?_
            refine lv_iload_n Bx.1 Bx.2.1 d_Mo_goesOn_94 rfl (lv_at hl 0 rfl) ?_
            refine f_iald Bx hP (by omega) (show mem404 235 = .inl (cy 1, 8, .inl (A 235)) from hW405.2.2.1 235 (by decide) (by decide) (by decide)) (vp_in_nI (n := f) (by omega) (by decide)) d_Mo_goesOn_95 ?_
            rw [nI_clamp (n := f) (by omega)]
            rw [hso]
            refine lv_iconst (v := 1) Bx.1 Bx.2.1 d_Mo_goesOn_96 (by decide) ?_
            refine lv_icmp_ne Bx.1 Bx.2.1 d_Mo_goesOn_97 rfl (fun hb415 => ?_) (fun hb415 => ?_)
            · refine lv_aload_n Bx.1 Bx.2.1 d_Mo_goesOn_109 rfl (lv_at hl 3 rfl) ?_
              refine f_get Bx hP (by omega) hW405.1 rfl inMo 20 (by decide) kw_676 rfl rfl d_Mo_goesOn_110 ?_
              refine lv_iload_n Bx.1 Bx.2.1 d_Mo_goesOn_113 rfl (lv_at hl 0 rfl) ?_
              refine f_iald Bx hP (by omega) (show mem404 236 = .inl (cy 1, 8, .inl (A 236)) from hW405.2.2.1 236 (by decide) (by decide) (by decide)) (vp_in_nI (n := f) (by omega) (by decide)) d_Mo_goesOn_114 ?_
              rw [nI_clamp (n := f) (by omega)]
              rw [hte.2.1, show ft f = ft (f1 + 1) by rw [← hf1]]
              refine lv_istore (lv' := [(4, .int (nI (ft (f1 + 1)))), (3, .int (nI (f))), (2, .int (hereF L T (a11))), (1, .int (nI a)), (0, .ref (ad 224))]) Bx.1 Bx.2.1 d_Mo_goesOn_115 hl (by decide) rfl (fun ls hl => ?_)
              refine lv_aload_n Bx.1 Bx.2.1 d_Mo_goesOn_117 rfl (lv_at hl 4 rfl) ?_
              refine f_get Bx hP (by omega) hW405.1 rfl inMo 19 (by decide) kw_675 rfl rfl d_Mo_goesOn_118 ?_
              refine lv_iload_n Bx.1 Bx.2.1 d_Mo_goesOn_121 rfl (lv_at hl 1 rfl) ?_
              refine f_iald Bx hP (by omega) (show mem404 235 = .inl (cy 1, 8, .inl (A 235)) from hW405.2.2.1 235 (by decide) (by decide) (by decide)) (vp_in_nI (n := f) (by omega) (by decide)) d_Mo_goesOn_122 ?_
              rw [nI_clamp (n := f) (by omega)]
              rw [hso]
              refine lv_iconst (v := 2) Bx.1 Bx.2.1 d_Mo_goesOn_123 (by decide) ?_
              refine lv_icmp_ne Bx.1 Bx.2.1 d_Mo_goesOn_124 rfl (fun hb416 => ?_) (fun hb416 => ?_)
              · exact absurd hb416 (by decide)
              · refine lv_aload_n Bx.1 Bx.2.1 d_Mo_goesOn_127 rfl (lv_at hl 4 rfl) ?_
                refine lv_iload Bx.1 Bx.2.1 d_Mo_goesOn_128 (lv_at hl 0 rfl) ?_
                refine lv_aload_n Bx.1 Bx.2.1 d_Mo_goesOn_130 rfl (lv_at hl 4 rfl) ?_
                refine f_get Bx hP (by omega) hW405.1 rfl inMo 21 (by decide) kw_677 rfl rfl d_Mo_goesOn_131 ?_
                refine lv_iload_n Bx.1 Bx.2.1 d_Mo_goesOn_134 rfl (lv_at hl 1 rfl) ?_
                refine f_iald Bx hP (by omega) (show mem404 237 = .inl (cy 1, 8, .inl (A 237)) from hW405.2.2.1 237 (by decide) (by decide) (by decide)) (vp_in_nI (n := f) (by omega) (by decide)) d_Mo_goesOn_135 ?_
                rw [nI_clamp (n := f) (by omega)]
                rw [hfg.1.1]
                have htf : ft (f1 + 1) = ft f := by rw [hf1]
                have hcc : CL (fc f) A := fun k hk => by
                  by_cases e : k = ft f
                  · rw [e, hte.2.2.2.1, hte.2.2.2.2]; exact ⟨Or.inl rfl, Or.inl rfl⟩
                  · have := hfg.2.2.2.2.2.2 hf1x k (by omega)
                    exact ⟨this.1.mono (by omega), this.2.mono (by omega)⟩
                refine f_callVv (na := 2) (As := [.int (nI (ft (f1 + 1))), .int (nI (fc f))]) (rest := []) Bx hml E hP hD hS (by omega) hW405.1 rfl (m_Mo_append l hn hW405 hEb (show ft (f1 + 1) < fc f by omega) (show fc f < Ec by omega) hI.1 hcc) kw_822 kw_824 sel_Mo_append kw_8 kw_825 (by decide +kernel) ⟨rfl, rfl⟩ ⟨Nat.le_of_ble_eq_true rfl, Nat.le_of_ble_eq_true rfl⟩ rfl hl.1 (Nat.le_of_ble_eq_true rfl) d_Mo_goesOn_136 ⟨Nat.le_of_ble_eq_true rfl, Nat.le_of_ble_eq_true rfl⟩ (fun mem418 H locs hq hP hS => ?_)
                have hD : va_D (Az sz) (fw n ad mem418) := fw_D hD
                obtain ⟨A419, hW420, hap421⟩ := hq
                have tT422 : A419 225 = T := by
                  obtain ⟨_, _, _, k3, _⟩ := hap421.at
                  rw [k3 225 (by decide) (by decide)]; exact hT
                have hA1 := hap421.resolve_right (fun z => z.1 (by rw [htf]; exact hte.2.2.2.1))
                refine lv_aload_n Bx.1 Bx.2.1 d_Mo_goesOn_139 rfl (lv_at hl 4 rfl) ?_
                refine lv_dup Bx.1 Bx.2.1 d_Mo_goesOn_140 rfl ?_
                refine f_get Bx hP (by omega) hW420.1 rfl inMo 18 (by decide) kw_674 rfl rfl d_Mo_goesOn_141 ?_
                rw [kk412]
                refine lv_iconst (v := 1) Bx.1 Bx.2.1 d_Mo_goesOn_144 (by decide) ?_
                refine lv_isub Bx.1 Bx.2.1 d_Mo_goesOn_145 ?_
                rw [show nI (f + 1) - 1 = nI (f) from nI_pred (f)]
                refine f_put Bx hP hD hS (by omega) hW420.1 rfl inMo tyMo okMo nmMo 18 (by decide) kw_674 rfl rfl rfl rfl (Nat.le_of_ble_eq_true rfl) d_Mo_goesOn_146 (fun H locs hP hS => ?_)
                obtain ⟨J423, eJ423⟩ : ∃ z, z = va_up J403 18 (nI (f)) := ⟨_, rfl⟩
                obtain ⟨mem424, e_mem424⟩ : ∃ z, z = va_up mem418 224 (moC ad J423) := ⟨_, rfl⟩
                have hP : va_P D vcl (fw n ad mem424) H := by rw [e_mem424, eJ423]; exact hP
                have hD : va_D (Az sz) (fw n ad mem424) := fw_D hD
                have hW425 : MW cy ad J423 A419 nm m0 mem424 := by rw [e_mem424]; exact hW420.upJ (by rw [eJ423]; exact va_up_ne _ _ (by decide))
                have kk426 : J423 1 = nI L := by rw [eJ423]; exact kk406
                have kk427 : J423 24 = nI G := by rw [eJ423]; exact kk407
                have kk428 : J423 17 = 0 := by rw [eJ423]; exact kk408
                have kk429 : J423 14 = nI u := by rw [eJ423]; exact kk409
                have kk430 : J423 4 = nI R := by rw [eJ423]; exact kk410
                have kk431 : J423 7 = nI Ec := by rw [eJ423]; exact kk411
                have kk432 : J423 28 = 0 := by rw [eJ423]; exact kk413
                have kk433 : J423 16 = nI (a11 + 1) := by rw [eJ423]; exact kk414
                have kk434 : J423 18 = nI (f) := by rw [eJ423, va_up_self]
                refine lv_aload_n Bx.1 Bx.2.1 d_Mo_goesOn_149 rfl (lv_at hl 4 rfl) ?_
                refine lv_iload Bx.1 Bx.2.1 d_Mo_goesOn_150 (lv_at hl 0 rfl) ?_
                obtain ⟨hp1, hp2, hp3, hp4, hp5⟩ := hI1.pop hEb h391 (A' := A419) (fun j hj => by rw [hA1.2, va_up_ne _ _ hj]) (fun k hk => by rw [hA1.2, va_up_self]; exact upd_ne hk) (fun _ => by rw [hA1.2, va_up_self, upd_self]; exact nI_m (by omega)) (fun z => absurd (by rw [← hf1]; exact hso) z) (hap421.LK (by omega) (by omega) hI.1) (fun _ z => z)
                have hk18 : J423 18 = nI (f1 + 1) := by rw [kk434, hf1]
                refine f_callVv (na := 1) (As := [.int (nI (ft (f1 + 1)))]) (rest := []) Bx hml E hP hD hS (by omega) hW425.1 rfl (m_Mo_placed l hn hW425 hk18 (by omega) (by omega) hp1 (by omega) hp3 hp5 hp2) kw_834 kw_836 sel_Mo_placed kw_8 kw_837 (by decide +kernel) ⟨rfl, rfl⟩ ⟨Nat.le_of_ble_eq_true rfl, Nat.le_of_ble_eq_true rfl⟩ rfl hl.1 (Nat.le_of_ble_eq_true rfl) d_Mo_goesOn_152 ⟨Nat.le_of_ble_eq_true rfl, Nat.le_of_ble_eq_true rfl⟩ (fun mem436 H locs hq hP hS => ?_)
                have hD : va_D (Az sz) (fw n ad mem436) := fw_D hD
                obtain ⟨A437, hW438, hinv439, h39440, hj441⟩ := hq
                have tT442 : A437 225 = T := (hj441 225 (by decide) (by decide) (by decide)).trans tT422
                refine lv_goto Bx.1 Bx.2.1 d_Mo_goesOn_155 rfl ?_
                refine lv_iconst (v := 1) Bx.1 Bx.2.1 d_Mo_goesOn_210 (by decide) ?_
                exact W.zret (v := 1) hx hb hr rfl (fun t ht hW => ⟨⟨1, mem436, rfl, ⟨J423, A437, nm, hW438, Or.inl ⟨rfl, Or.inr ⟨a11 + 1, by omega, u, R, Ec, f1, fc, fs, ft, ⟨kk426, kk427, kk433, kk428, kk429, kk430, kk431, hk18⟩, ⟨by omega, by omega, by omega, by omega, by omega, by omega⟩, tT442, Or.inl kk432, hinv439.qT, h39440⟩⟩⟩, by show va_P _ _ _ t.heap; rw [ht]; exact hP⟩, hS.F ht⟩) hS.2.2 d_Mo_goesOn_211
            · exact absurd hb415 (by decide)
  · have hlt443 := hereF_lt (by rw [hb27]; decide)
    refine lv_aload_n Bx.1 Bx.2.1 d_Mo_goesOn_27 rfl (lv_at hl 3 rfl) ?_
    refine lv_dup Bx.1 Bx.2.1 d_Mo_goesOn_28 rfl ?_
    refine f_get Bx hP (by omega) hW14.1 rfl inMo 16 (by decide) kw_672 rfl rfl d_Mo_goesOn_29 ?_
    rw [kk24]
    refine lv_iconst (v := 1) Bx.1 Bx.2.1 d_Mo_goesOn_32 (by decide) ?_
    refine lv_iadd Bx.1 Bx.2.1 d_Mo_goesOn_33 ?_
    rw [show nI a11 + 1 = nI (a11 + 1) from nI_add (a11) (1)]
    refine f_put Bx hP hD hS (by omega) hW14.1 rfl inMo tyMo okMo nmMo 16 (by decide) kw_672 rfl rfl rfl rfl (Nat.le_of_ble_eq_true rfl) d_Mo_goesOn_34 (fun H locs hP hS => ?_)
    obtain ⟨J444, eJ444⟩ : ∃ z, z = va_up J15 16 (nI (a11 + 1)) := ⟨_, rfl⟩
    obtain ⟨mem445, e_mem445⟩ : ∃ z, z = va_up mem10 224 (moC ad J444) := ⟨_, rfl⟩
    have hP : va_P D vcl (fw n ad mem445) H := by rw [e_mem445, eJ444]; exact hP
    have hD : va_D (Az sz) (fw n ad mem445) := fw_D hD
    have hW446 : MW cy ad J444 A nm m0 mem445 := by rw [e_mem445]; exact hW14.upJ (by rw [eJ444]; exact va_up_ne _ _ (by decide))
    have kk447 : J444 1 = nI L := by rw [eJ444]; exact kk16
    have kk448 : J444 24 = nI G := by rw [eJ444]; exact kk17
    have kk449 : J444 17 = 0 := by rw [eJ444]; exact kk18
    have kk450 : J444 14 = nI u := by rw [eJ444]; exact kk19
    have kk451 : J444 4 = nI R := by rw [eJ444]; exact kk20
    have kk452 : J444 7 = nI Ec := by rw [eJ444]; exact kk21
    have kk453 : J444 18 = nI (f + 1) := by rw [eJ444]; exact kk22
    have kk454 : J444 28 = 0 := by rw [eJ444]; exact kk23
    have kk455 : J444 16 = nI (a11 + 1) := by rw [eJ444, va_up_self]
    refine lv_aload_n Bx.1 Bx.2.1 d_Mo_goesOn_37 rfl (lv_at hl 3 rfl) ?_
    refine f_callVv (na := 0) (As := []) (rest := []) Bx hml E hP hD hS (by omega) hW446.1 rfl (m_Mo_gap l hn hW446 kk447 hL kk455 (by omega)) kw_803 kw_805 sel_Mo_gap kw_8 kw_806 (by decide +kernel) ⟨rfl, rfl⟩ ⟨Nat.le_of_ble_eq_true rfl, Nat.le_of_ble_eq_true rfl⟩ rfl hl.1 (Nat.le_of_ble_eq_true rfl) d_Mo_goesOn_38 ⟨Nat.le_of_ble_eq_true rfl, Nat.le_of_ble_eq_true rfl⟩ (fun mem457 H locs hq hP hS => ?_)
    have hD : va_D (Az sz) (fw n ad mem457) := fw_D hD
    obtain ⟨a458, hg459, hg460, hW461⟩ := hq
    obtain ⟨J462, eJ462⟩ : ∃ z, z = va_up J444 16 (nI a458) := ⟨_, rfl⟩
    rw [← eJ462] at hW461
    have kk463 : J462 1 = nI L := (show J462 1 = J444 1 from by rw [eJ462]; rfl).trans kk447
    have kk464 : J462 24 = nI G := (show J462 24 = J444 24 from by rw [eJ462]; rfl).trans kk448
    have kk465 : J462 17 = 0 := (show J462 17 = J444 17 from by rw [eJ462]; rfl).trans kk449
    have kk466 : J462 14 = nI u := (show J462 14 = J444 14 from by rw [eJ462]; rfl).trans kk450
    have kk467 : J462 4 = nI R := (show J462 4 = J444 4 from by rw [eJ462]; rfl).trans kk451
    have kk468 : J462 7 = nI Ec := (show J462 7 = J444 7 from by rw [eJ462]; rfl).trans kk452
    have kk469 : J462 18 = nI (f + 1) := (show J462 18 = J444 18 from by rw [eJ462]; rfl).trans kk453
    have kk470 : J462 28 = 0 := (show J462 28 = J444 28 from by rw [eJ462]; rfl).trans kk454
    have kk471 : J462 16 = nI a458 := by rw [eJ462, va_up_self]
    refine lv_aload_n Bx.1 Bx.2.1 d_Mo_goesOn_41 rfl (lv_at hl 3 rfl) ?_
    refine f_callVv (na := 0) (As := []) (rest := []) Bx hml E hP hD hS (by omega) hW461.1 rfl (m_Mo_sequence l hn hW461 ⟨kk463, kk464, kk471, kk465, kk466, kk467, kk468, kk469⟩ ⟨hL, by omega, by omega, by omega, by omega⟩ (by omega) hT kk470 hI.toF h39) kw_818 kw_820 sel_Mo_sequence kw_8 kw_821 (by decide +kernel) ⟨rfl, rfl⟩ ⟨Nat.le_of_ble_eq_true rfl, Nat.le_of_ble_eq_true rfl⟩ rfl hl.1 (Nat.le_of_ble_eq_true rfl) d_Mo_goesOn_42 ⟨Nat.le_of_ble_eq_true rfl, Nat.le_of_ble_eq_true rfl⟩ (fun mem473 H locs hq hP hS => ?_)
    have hD : va_D (Az sz) (fw n ad mem473) := fw_D hD
    obtain ⟨J474, A475, nn476, hW477, hres478⟩ := hq
    refine lv_goto Bx.1 Bx.2.1 d_Mo_goesOn_45 rfl ?_
    refine lv_iconst (v := 1) Bx.1 Bx.2.1 d_Mo_goesOn_210 (by decide) ?_
    exact W.zret (v := 1) hx hb hr rfl (fun t ht hW => ⟨⟨1, mem473, rfl, ⟨J474, A475, nn476, hW477, Or.inl ⟨rfl, hres478.mono (by omega)⟩⟩, by show va_P _ _ _ t.heap; rw [ht]; exact hP⟩, hS.F ht⟩) hS.2.2 d_Mo_goesOn_211
