theorem d_Mo_step_0 : decode c_Mo_step 0 = .ok (.iconst 0, 1) := by decide +kernel
theorem d_Mo_step_1 : decode c_Mo_step 1 = .ok (.istore_n 3, 1) := by decide +kernel
theorem d_Mo_step_2 : decode c_Mo_step 2 = .ok (.iconst 0, 1) := by decide +kernel
theorem d_Mo_step_3 : decode c_Mo_step 3 = .ok (.istore 4, 2) := by decide +kernel
theorem d_Mo_step_5 : decode c_Mo_step 5 = .ok (.iload 4, 2) := by decide +kernel
theorem d_Mo_step_7 : decode c_Mo_step 7 = .ok (.aload_n 0, 1) := by decide +kernel
theorem d_Mo_step_8 : decode c_Mo_step 8 = .ok (.getfield 185, 3) := by decide +kernel
theorem d_Mo_step_11 : decode c_Mo_step 11 = .ok (.if_icmp .gt 38, 3) := by decide +kernel
theorem d_Mo_step_14 : decode c_Mo_step 14 = .ok (.iload_n 3, 1) := by decide +kernel
theorem d_Mo_step_15 : decode c_Mo_step 15 = .ok (.iload_n 2, 1) := by decide +kernel
theorem d_Mo_step_16 : decode c_Mo_step 16 = .ok (.iload 4, 2) := by decide +kernel
theorem d_Mo_step_18 : decode c_Mo_step 18 = .ok (.ishr, 1) := by decide +kernel
theorem d_Mo_step_19 : decode c_Mo_step 19 = .ok (.iconst 1, 1) := by decide +kernel
theorem d_Mo_step_20 : decode c_Mo_step 20 = .ok (.iand, 1) := by decide +kernel
theorem d_Mo_step_21 : decode c_Mo_step 21 = .ok (.iconst 1, 1) := by decide +kernel
theorem d_Mo_step_22 : decode c_Mo_step 22 = .ok (.if_icmp .ne 18, 3) := by decide +kernel
theorem d_Mo_step_25 : decode c_Mo_step 25 = .ok (.aload_n 0, 1) := by decide +kernel
theorem d_Mo_step_26 : decode c_Mo_step 26 = .ok (.getfield 68, 3) := by decide +kernel
theorem d_Mo_step_29 : decode c_Mo_step 29 = .ok (.bipush 25, 2) := by decide +kernel
theorem d_Mo_step_31 : decode c_Mo_step 31 = .ok (.iload_n 1, 1) := by decide +kernel
theorem d_Mo_step_32 : decode c_Mo_step 32 = .ok (.imul, 1) := by decide +kernel
theorem d_Mo_step_33 : decode c_Mo_step 33 = .ok (.iload 4, 2) := by decide +kernel
theorem d_Mo_step_35 : decode c_Mo_step 35 = .ok (.iadd, 1) := by decide +kernel
theorem d_Mo_step_36 : decode c_Mo_step 36 = .ok (.iaload, 1) := by decide +kernel
theorem d_Mo_step_37 : decode c_Mo_step 37 = .ok (.goto 4, 3) := by decide +kernel
theorem d_Mo_step_40 : decode c_Mo_step 40 = .ok (.iconst 0, 1) := by decide +kernel
theorem d_Mo_step_41 : decode c_Mo_step 41 = .ok (.ior, 1) := by decide +kernel
theorem d_Mo_step_42 : decode c_Mo_step 42 = .ok (.istore_n 3, 1) := by decide +kernel
theorem d_Mo_step_43 : decode c_Mo_step 43 = .ok (.iinc 4 1, 3) := by decide +kernel
theorem d_Mo_step_46 : decode c_Mo_step 46 = .ok (.goto (-41), 3) := by decide +kernel
theorem d_Mo_step_49 : decode c_Mo_step 49 = .ok (.iload_n 3, 1) := by decide +kernel
theorem d_Mo_step_50 : decode c_Mo_step 50 = .ok (.ireturn, 1) := by decide +kernel
theorem d_Mo_times_0 : decode c_Mo_times 0 = .ok (.iconst 1, 1) := by decide +kernel
theorem d_Mo_times_1 : decode c_Mo_times 1 = .ok (.iload_n 2, 1) := by decide +kernel
theorem d_Mo_times_2 : decode c_Mo_times 2 = .ok (.ishl, 1) := by decide +kernel
theorem d_Mo_times_3 : decode c_Mo_times 3 = .ok (.istore_n 3, 1) := by decide +kernel
theorem d_Mo_times_4 : decode c_Mo_times 4 = .ok (.iconst 0, 1) := by decide +kernel
theorem d_Mo_times_5 : decode c_Mo_times 5 = .ok (.istore 4, 2) := by decide +kernel
theorem d_Mo_times_7 : decode c_Mo_times 7 = .ok (.iload 4, 2) := by decide +kernel
theorem d_Mo_times_9 : decode c_Mo_times 9 = .ok (.aload_n 0, 1) := by decide +kernel
theorem d_Mo_times_10 : decode c_Mo_times 10 = .ok (.getfield 27, 3) := by decide +kernel
theorem d_Mo_times_13 : decode c_Mo_times 13 = .ok (.iload_n 1, 1) := by decide +kernel
theorem d_Mo_times_14 : decode c_Mo_times 14 = .ok (.iaload, 1) := by decide +kernel
theorem d_Mo_times_15 : decode c_Mo_times 15 = .ok (.if_icmp .ge 21, 3) := by decide +kernel
theorem d_Mo_times_18 : decode c_Mo_times 18 = .ok (.aload_n 0, 1) := by decide +kernel
theorem d_Mo_times_19 : decode c_Mo_times 19 = .ok (.aload_n 0, 1) := by decide +kernel
theorem d_Mo_times_20 : decode c_Mo_times 20 = .ok (.getfield 37, 3) := by decide +kernel
theorem d_Mo_times_23 : decode c_Mo_times 23 = .ok (.iload_n 1, 1) := by decide +kernel
theorem d_Mo_times_24 : decode c_Mo_times 24 = .ok (.iaload, 1) := by decide +kernel
theorem d_Mo_times_25 : decode c_Mo_times 25 = .ok (.iload_n 3, 1) := by decide +kernel
theorem d_Mo_times_26 : decode c_Mo_times 26 = .ok (.invokevirtual 188, 3) := by decide +kernel
theorem d_Mo_times_29 : decode c_Mo_times 29 = .ok (.istore_n 3, 1) := by decide +kernel
theorem d_Mo_times_30 : decode c_Mo_times 30 = .ok (.iinc 4 1, 3) := by decide +kernel
theorem d_Mo_times_33 : decode c_Mo_times 33 = .ok (.goto (-26), 3) := by decide +kernel
theorem d_Mo_times_36 : decode c_Mo_times 36 = .ok (.iload_n 3, 1) := by decide +kernel
theorem d_Mo_times_37 : decode c_Mo_times 37 = .ok (.istore 4, 2) := by decide +kernel
theorem d_Mo_times_39 : decode c_Mo_times 39 = .ok (.aload_n 0, 1) := by decide +kernel
theorem d_Mo_times_40 : decode c_Mo_times 40 = .ok (.getfield 30, 3) := by decide +kernel
theorem d_Mo_times_43 : decode c_Mo_times 43 = .ok (.iload_n 1, 1) := by decide +kernel
theorem d_Mo_times_44 : decode c_Mo_times 44 = .ok (.iaload, 1) := by decide +kernel
theorem d_Mo_times_45 : decode c_Mo_times 45 = .ok (.ifCond .ge 8, 3) := by decide +kernel
theorem d_Mo_times_48 : decode c_Mo_times 48 = .ok (.bipush 26, 2) := by decide +kernel
theorem d_Mo_times_50 : decode c_Mo_times 50 = .ok (.goto 16, 3) := by decide +kernel
theorem d_Mo_times_53 : decode c_Mo_times 53 = .ok (.aload_n 0, 1) := by decide +kernel
theorem d_Mo_times_54 : decode c_Mo_times 54 = .ok (.getfield 30, 3) := by decide +kernel
theorem d_Mo_times_57 : decode c_Mo_times 57 = .ok (.iload_n 1, 1) := by decide +kernel
theorem d_Mo_times_58 : decode c_Mo_times 58 = .ok (.iaload, 1) := by decide +kernel
theorem d_Mo_times_59 : decode c_Mo_times 59 = .ok (.aload_n 0, 1) := by decide +kernel
theorem d_Mo_times_60 : decode c_Mo_times 60 = .ok (.getfield 27, 3) := by decide +kernel
theorem d_Mo_times_63 : decode c_Mo_times 63 = .ok (.iload_n 1, 1) := by decide +kernel
theorem d_Mo_times_64 : decode c_Mo_times 64 = .ok (.iaload, 1) := by decide +kernel
theorem d_Mo_times_65 : decode c_Mo_times 65 = .ok (.isub, 1) := by decide +kernel
theorem d_Mo_times_66 : decode c_Mo_times 66 = .ok (.istore 5, 2) := by decide +kernel
theorem d_Mo_times_68 : decode c_Mo_times 68 = .ok (.iconst 0, 1) := by decide +kernel
theorem d_Mo_times_69 : decode c_Mo_times 69 = .ok (.istore 6, 2) := by decide +kernel
theorem d_Mo_times_71 : decode c_Mo_times 71 = .ok (.iload 6, 2) := by decide +kernel
theorem d_Mo_times_73 : decode c_Mo_times 73 = .ok (.iload 5, 2) := by decide +kernel
theorem d_Mo_times_75 : decode c_Mo_times 75 = .ok (.if_icmp .ge 41, 3) := by decide +kernel
theorem d_Mo_times_78 : decode c_Mo_times 78 = .ok (.aload_n 0, 1) := by decide +kernel
theorem d_Mo_times_79 : decode c_Mo_times 79 = .ok (.aload_n 0, 1) := by decide +kernel
theorem d_Mo_times_80 : decode c_Mo_times 80 = .ok (.getfield 37, 3) := by decide +kernel
theorem d_Mo_times_83 : decode c_Mo_times 83 = .ok (.iload_n 1, 1) := by decide +kernel
theorem d_Mo_times_84 : decode c_Mo_times 84 = .ok (.iaload, 1) := by decide +kernel
theorem d_Mo_times_85 : decode c_Mo_times 85 = .ok (.aload_n 0, 1) := by decide +kernel
theorem d_Mo_times_86 : decode c_Mo_times 86 = .ok (.getfield 30, 3) := by decide +kernel
theorem d_Mo_times_89 : decode c_Mo_times 89 = .ok (.iload_n 1, 1) := by decide +kernel
theorem d_Mo_times_90 : decode c_Mo_times 90 = .ok (.iaload, 1) := by decide +kernel
theorem d_Mo_times_91 : decode c_Mo_times 91 = .ok (.ifCond .ge 8, 3) := by decide +kernel
theorem d_Mo_times_94 : decode c_Mo_times 94 = .ok (.iload 4, 2) := by decide +kernel
theorem d_Mo_times_96 : decode c_Mo_times 96 = .ok (.goto 4, 3) := by decide +kernel
theorem d_Mo_times_99 : decode c_Mo_times 99 = .ok (.iload_n 3, 1) := by decide +kernel
theorem d_Mo_times_100 : decode c_Mo_times 100 = .ok (.invokevirtual 188, 3) := by decide +kernel
theorem d_Mo_times_103 : decode c_Mo_times 103 = .ok (.istore_n 3, 1) := by decide +kernel
theorem d_Mo_times_104 : decode c_Mo_times 104 = .ok (.iload 4, 2) := by decide +kernel
theorem d_Mo_times_106 : decode c_Mo_times 106 = .ok (.iload_n 3, 1) := by decide +kernel
theorem d_Mo_times_107 : decode c_Mo_times 107 = .ok (.ior, 1) := by decide +kernel
theorem d_Mo_times_108 : decode c_Mo_times 108 = .ok (.istore 4, 2) := by decide +kernel
theorem d_Mo_times_110 : decode c_Mo_times 110 = .ok (.iinc 6 1, 3) := by decide +kernel
theorem d_Mo_times_113 : decode c_Mo_times 113 = .ok (.goto (-42), 3) := by decide +kernel
theorem d_Mo_times_116 : decode c_Mo_times 116 = .ok (.iload 4, 2) := by decide +kernel
theorem d_Mo_times_118 : decode c_Mo_times 118 = .ok (.ireturn, 1) := by decide +kernel
theorem d_Mo_same_0 : decode c_Mo_same 0 = .ok (.iload_n 1, 1) := by decide +kernel
theorem d_Mo_same_1 : decode c_Mo_same 1 = .ok (.iload_n 2, 1) := by decide +kernel
theorem d_Mo_same_2 : decode c_Mo_same 2 = .ok (.if_icmp .eq 18, 3) := by decide +kernel
theorem d_Mo_same_5 : decode c_Mo_same 5 = .ok (.iload_n 3, 1) := by decide +kernel
theorem d_Mo_same_6 : decode c_Mo_same 6 = .ok (.ifCond .ne 18, 3) := by decide +kernel
theorem d_Mo_same_9 : decode c_Mo_same 9 = .ok (.iload_n 1, 1) := by decide +kernel
theorem d_Mo_same_10 : decode c_Mo_same 10 = .ok (.invokestatic 117, 3) := by decide +kernel
theorem d_Mo_same_13 : decode c_Mo_same 13 = .ok (.iload_n 2, 1) := by decide +kernel
theorem d_Mo_same_14 : decode c_Mo_same 14 = .ok (.invokestatic 117, 3) := by decide +kernel
theorem d_Mo_same_17 : decode c_Mo_same 17 = .ok (.if_icmp .ne 7, 3) := by decide +kernel
theorem d_Mo_same_20 : decode c_Mo_same 20 = .ok (.iconst 1, 1) := by decide +kernel
theorem d_Mo_same_21 : decode c_Mo_same 21 = .ok (.goto 4, 3) := by decide +kernel
theorem d_Mo_same_24 : decode c_Mo_same 24 = .ok (.iconst 0, 1) := by decide +kernel
theorem d_Mo_same_25 : decode c_Mo_same 25 = .ok (.ireturn, 1) := by decide +kernel
theorem d_Mo_fits_0 : decode c_Mo_fits 0 = .ok (.aload_n 0, 1) := by decide +kernel
theorem d_Mo_fits_1 : decode c_Mo_fits 1 = .ok (.getfield 24, 3) := by decide +kernel
theorem d_Mo_fits_4 : decode c_Mo_fits 4 = .ok (.iload_n 1, 1) := by decide +kernel
theorem d_Mo_fits_5 : decode c_Mo_fits 5 = .ok (.iaload, 1) := by decide +kernel
theorem d_Mo_fits_6 : decode c_Mo_fits 6 = .ok (.iconst 5, 1) := by decide +kernel
theorem d_Mo_fits_7 : decode c_Mo_fits 7 = .ok (.if_icmp .ne 43, 3) := by decide +kernel
theorem d_Mo_fits_10 : decode c_Mo_fits 10 = .ok (.iload_n 2, 1) := by decide +kernel
theorem d_Mo_fits_11 : decode c_Mo_fits 11 = .ok (.aload_n 0, 1) := by decide +kernel
theorem d_Mo_fits_12 : decode c_Mo_fits 12 = .ok (.getfield 185, 3) := by decide +kernel
theorem d_Mo_fits_15 : decode c_Mo_fits 15 = .ok (.if_icmp .ge 33, 3) := by decide +kernel
theorem d_Mo_fits_18 : decode c_Mo_fits 18 = .ok (.aload_n 0, 1) := by decide +kernel
theorem d_Mo_fits_19 : decode c_Mo_fits 19 = .ok (.getfield 61, 3) := by decide +kernel
theorem d_Mo_fits_22 : decode c_Mo_fits 22 = .ok (.iload_n 2, 1) := by decide +kernel
theorem d_Mo_fits_23 : decode c_Mo_fits 23 = .ok (.iaload, 1) := by decide +kernel
theorem d_Mo_fits_24 : decode c_Mo_fits 24 = .ok (.aload_n 0, 1) := by decide +kernel
theorem d_Mo_fits_25 : decode c_Mo_fits 25 = .ok (.getfield 27, 3) := by decide +kernel
theorem d_Mo_fits_28 : decode c_Mo_fits 28 = .ok (.iload_n 1, 1) := by decide +kernel
theorem d_Mo_fits_29 : decode c_Mo_fits 29 = .ok (.iaload, 1) := by decide +kernel
theorem d_Mo_fits_30 : decode c_Mo_fits 30 = .ok (.aload_n 0, 1) := by decide +kernel
theorem d_Mo_fits_31 : decode c_Mo_fits 31 = .ok (.getfield 30, 3) := by decide +kernel
theorem d_Mo_fits_34 : decode c_Mo_fits 34 = .ok (.iload_n 1, 1) := by decide +kernel
theorem d_Mo_fits_35 : decode c_Mo_fits 35 = .ok (.iaload, 1) := by decide +kernel
theorem d_Mo_fits_36 : decode c_Mo_fits 36 = .ok (.invokestatic 74, 3) := by decide +kernel
theorem d_Mo_fits_39 : decode c_Mo_fits 39 = .ok (.ifCond .eq 9, 3) := by decide +kernel
theorem d_Mo_fits_42 : decode c_Mo_fits 42 = .ok (.iconst 2, 1) := by decide +kernel
theorem d_Mo_fits_43 : decode c_Mo_fits 43 = .ok (.iload_n 2, 1) := by decide +kernel
theorem d_Mo_fits_44 : decode c_Mo_fits 44 = .ok (.ishl, 1) := by decide +kernel
theorem d_Mo_fits_45 : decode c_Mo_fits 45 = .ok (.goto 4, 3) := by decide +kernel
theorem d_Mo_fits_48 : decode c_Mo_fits 48 = .ok (.iconst 0, 1) := by decide +kernel
theorem d_Mo_fits_49 : decode c_Mo_fits 49 = .ok (.ireturn, 1) := by decide +kernel
theorem d_Mo_fits_50 : decode c_Mo_fits 50 = .ok (.aload_n 0, 1) := by decide +kernel
theorem d_Mo_fits_51 : decode c_Mo_fits 51 = .ok (.getfield 24, 3) := by decide +kernel
theorem d_Mo_fits_54 : decode c_Mo_fits 54 = .ok (.iload_n 1, 1) := by decide +kernel
theorem d_Mo_fits_55 : decode c_Mo_fits 55 = .ok (.iaload, 1) := by decide +kernel
theorem d_Mo_fits_56 : decode c_Mo_fits 56 = .ok (.iconst 4, 1) := by decide +kernel
theorem d_Mo_fits_57 : decode c_Mo_fits 57 = .ok (.if_icmp .ne 101, 3) := by decide +kernel
theorem d_Mo_fits_60 : decode c_Mo_fits 60 = .ok (.iload_n 2, 1) := by decide +kernel
theorem d_Mo_fits_61 : decode c_Mo_fits 61 = .ok (.aload_n 0, 1) := by decide +kernel
theorem d_Mo_fits_62 : decode c_Mo_fits 62 = .ok (.getfield 30, 3) := by decide +kernel
theorem d_Mo_fits_65 : decode c_Mo_fits 65 = .ok (.iload_n 1, 1) := by decide +kernel
theorem d_Mo_fits_66 : decode c_Mo_fits 66 = .ok (.iaload, 1) := by decide +kernel
theorem d_Mo_fits_67 : decode c_Mo_fits 67 = .ok (.iadd, 1) := by decide +kernel
theorem d_Mo_fits_68 : decode c_Mo_fits 68 = .ok (.aload_n 0, 1) := by decide +kernel
theorem d_Mo_fits_69 : decode c_Mo_fits 69 = .ok (.getfield 185, 3) := by decide +kernel
theorem d_Mo_fits_72 : decode c_Mo_fits 72 = .ok (.if_icmp .gt 7, 3) := by decide +kernel
theorem d_Mo_fits_75 : decode c_Mo_fits 75 = .ok (.iconst 1, 1) := by decide +kernel
theorem d_Mo_fits_76 : decode c_Mo_fits 76 = .ok (.goto 4, 3) := by decide +kernel
theorem d_Mo_fits_79 : decode c_Mo_fits 79 = .ok (.iconst 0, 1) := by decide +kernel
theorem d_Mo_fits_80 : decode c_Mo_fits 80 = .ok (.istore_n 3, 1) := by decide +kernel
theorem d_Mo_fits_81 : decode c_Mo_fits 81 = .ok (.iconst 0, 1) := by decide +kernel
theorem d_Mo_fits_82 : decode c_Mo_fits 82 = .ok (.istore 4, 2) := by decide +kernel
theorem d_Mo_fits_84 : decode c_Mo_fits 84 = .ok (.iload 4, 2) := by decide +kernel
theorem d_Mo_fits_86 : decode c_Mo_fits 86 = .ok (.aload_n 0, 1) := by decide +kernel
theorem d_Mo_fits_87 : decode c_Mo_fits 87 = .ok (.getfield 30, 3) := by decide +kernel
theorem d_Mo_fits_90 : decode c_Mo_fits 90 = .ok (.iload_n 1, 1) := by decide +kernel
theorem d_Mo_fits_91 : decode c_Mo_fits 91 = .ok (.iaload, 1) := by decide +kernel
theorem d_Mo_fits_92 : decode c_Mo_fits 92 = .ok (.if_icmp .ge 47, 3) := by decide +kernel
theorem d_Mo_fits_95 : decode c_Mo_fits 95 = .ok (.iload_n 3, 1) := by decide +kernel
theorem d_Mo_fits_96 : decode c_Mo_fits 96 = .ok (.ifCond .eq 43, 3) := by decide +kernel
theorem d_Mo_fits_99 : decode c_Mo_fits 99 = .ok (.aload_n 0, 1) := by decide +kernel
theorem d_Mo_fits_100 : decode c_Mo_fits 100 = .ok (.aload_n 0, 1) := by decide +kernel
theorem d_Mo_fits_101 : decode c_Mo_fits 101 = .ok (.getfield 61, 3) := by decide +kernel
theorem d_Mo_fits_104 : decode c_Mo_fits 104 = .ok (.iload_n 2, 1) := by decide +kernel
theorem d_Mo_fits_105 : decode c_Mo_fits 105 = .ok (.iload 4, 2) := by decide +kernel
theorem d_Mo_fits_107 : decode c_Mo_fits 107 = .ok (.iadd, 1) := by decide +kernel
theorem d_Mo_fits_108 : decode c_Mo_fits 108 = .ok (.iaload, 1) := by decide +kernel
theorem d_Mo_fits_109 : decode c_Mo_fits 109 = .ok (.aload_n 0, 1) := by decide +kernel
theorem d_Mo_fits_110 : decode c_Mo_fits 110 = .ok (.getfield 43, 3) := by decide +kernel
theorem d_Mo_fits_113 : decode c_Mo_fits 113 = .ok (.aload_n 0, 1) := by decide +kernel
theorem d_Mo_fits_114 : decode c_Mo_fits 114 = .ok (.getfield 27, 3) := by decide +kernel
theorem d_Mo_fits_117 : decode c_Mo_fits 117 = .ok (.iload_n 1, 1) := by decide +kernel
theorem d_Mo_fits_118 : decode c_Mo_fits 118 = .ok (.iaload, 1) := by decide +kernel
theorem d_Mo_fits_119 : decode c_Mo_fits 119 = .ok (.iload 4, 2) := by decide +kernel
theorem d_Mo_fits_121 : decode c_Mo_fits 121 = .ok (.iadd, 1) := by decide +kernel
theorem d_Mo_fits_122 : decode c_Mo_fits 122 = .ok (.iaload, 1) := by decide +kernel
theorem d_Mo_fits_123 : decode c_Mo_fits 123 = .ok (.aload_n 0, 1) := by decide +kernel
theorem d_Mo_fits_124 : decode c_Mo_fits 124 = .ok (.getfield 33, 3) := by decide +kernel
theorem d_Mo_fits_127 : decode c_Mo_fits 127 = .ok (.iload_n 1, 1) := by decide +kernel
theorem d_Mo_fits_128 : decode c_Mo_fits 128 = .ok (.baload, 1) := by decide +kernel
theorem d_Mo_fits_129 : decode c_Mo_fits 129 = .ok (.invokevirtual 191, 3) := by decide +kernel
theorem d_Mo_fits_132 : decode c_Mo_fits 132 = .ok (.istore_n 3, 1) := by decide +kernel
theorem d_Mo_fits_133 : decode c_Mo_fits 133 = .ok (.iinc 4 1, 3) := by decide +kernel
theorem d_Mo_fits_136 : decode c_Mo_fits 136 = .ok (.goto (-52), 3) := by decide +kernel
theorem d_Mo_fits_139 : decode c_Mo_fits 139 = .ok (.iload_n 3, 1) := by decide +kernel
theorem d_Mo_fits_140 : decode c_Mo_fits 140 = .ok (.ifCond .eq 16, 3) := by decide +kernel
theorem d_Mo_fits_143 : decode c_Mo_fits 143 = .ok (.iconst 1, 1) := by decide +kernel
theorem d_Mo_fits_144 : decode c_Mo_fits 144 = .ok (.iload_n 2, 1) := by decide +kernel
theorem d_Mo_fits_145 : decode c_Mo_fits 145 = .ok (.aload_n 0, 1) := by decide +kernel
theorem d_Mo_fits_146 : decode c_Mo_fits 146 = .ok (.getfield 30, 3) := by decide +kernel
theorem d_Mo_fits_149 : decode c_Mo_fits 149 = .ok (.iload_n 1, 1) := by decide +kernel
theorem d_Mo_fits_150 : decode c_Mo_fits 150 = .ok (.iaload, 1) := by decide +kernel
theorem d_Mo_fits_151 : decode c_Mo_fits 151 = .ok (.iadd, 1) := by decide +kernel
theorem d_Mo_fits_152 : decode c_Mo_fits 152 = .ok (.ishl, 1) := by decide +kernel
theorem d_Mo_fits_153 : decode c_Mo_fits 153 = .ok (.goto 4, 3) := by decide +kernel
theorem d_Mo_fits_156 : decode c_Mo_fits 156 = .ok (.iconst 0, 1) := by decide +kernel
theorem d_Mo_fits_157 : decode c_Mo_fits 157 = .ok (.ireturn, 1) := by decide +kernel
theorem d_Mo_fits_158 : decode c_Mo_fits 158 = .ok (.aload_n 0, 1) := by decide +kernel
theorem d_Mo_fits_159 : decode c_Mo_fits 159 = .ok (.getfield 24, 3) := by decide +kernel
theorem d_Mo_fits_162 : decode c_Mo_fits 162 = .ok (.iload_n 1, 1) := by decide +kernel
theorem d_Mo_fits_163 : decode c_Mo_fits 163 = .ok (.iaload, 1) := by decide +kernel
theorem d_Mo_fits_164 : decode c_Mo_fits 164 = .ok (.bipush 6, 2) := by decide +kernel
theorem d_Mo_fits_166 : decode c_Mo_fits 166 = .ok (.if_icmp .ne 43, 3) := by decide +kernel
theorem d_Mo_fits_169 : decode c_Mo_fits 169 = .ok (.aload_n 0, 1) := by decide +kernel
theorem d_Mo_fits_170 : decode c_Mo_fits 170 = .ok (.getfield 21, 3) := by decide +kernel
theorem d_Mo_fits_173 : decode c_Mo_fits 173 = .ok (.aload_n 0, 1) := by decide +kernel
theorem d_Mo_fits_174 : decode c_Mo_fits 174 = .ok (.getfield 27, 3) := by decide +kernel
theorem d_Mo_fits_177 : decode c_Mo_fits 177 = .ok (.iload_n 1, 1) := by decide +kernel
theorem d_Mo_fits_178 : decode c_Mo_fits 178 = .ok (.iaload, 1) := by decide +kernel
theorem d_Mo_fits_179 : decode c_Mo_fits 179 = .ok (.iaload, 1) := by decide +kernel
theorem d_Mo_fits_180 : decode c_Mo_fits 180 = .ok (.ifCond .ge 7, 3) := by decide +kernel
theorem d_Mo_fits_183 : decode c_Mo_fits 183 = .ok (.iconst 0, 1) := by decide +kernel
theorem d_Mo_fits_184 : decode c_Mo_fits 184 = .ok (.goto 24, 3) := by decide +kernel
theorem d_Mo_fits_187 : decode c_Mo_fits 187 = .ok (.aload_n 0, 1) := by decide +kernel
theorem d_Mo_fits_188 : decode c_Mo_fits 188 = .ok (.getfield 68, 3) := by decide +kernel
theorem d_Mo_fits_191 : decode c_Mo_fits 191 = .ok (.bipush 25, 2) := by decide +kernel
theorem d_Mo_fits_193 : decode c_Mo_fits 193 = .ok (.aload_n 0, 1) := by decide +kernel
theorem d_Mo_fits_194 : decode c_Mo_fits 194 = .ok (.getfield 21, 3) := by decide +kernel
theorem d_Mo_fits_197 : decode c_Mo_fits 197 = .ok (.aload_n 0, 1) := by decide +kernel
theorem d_Mo_fits_198 : decode c_Mo_fits 198 = .ok (.getfield 27, 3) := by decide +kernel
theorem d_Mo_fits_201 : decode c_Mo_fits 201 = .ok (.iload_n 1, 1) := by decide +kernel
theorem d_Mo_fits_202 : decode c_Mo_fits 202 = .ok (.iaload, 1) := by decide +kernel
theorem d_Mo_fits_203 : decode c_Mo_fits 203 = .ok (.iaload, 1) := by decide +kernel
theorem d_Mo_fits_204 : decode c_Mo_fits 204 = .ok (.imul, 1) := by decide +kernel
theorem d_Mo_fits_205 : decode c_Mo_fits 205 = .ok (.iload_n 2, 1) := by decide +kernel
theorem d_Mo_fits_206 : decode c_Mo_fits 206 = .ok (.iadd, 1) := by decide +kernel
theorem d_Mo_fits_207 : decode c_Mo_fits 207 = .ok (.iaload, 1) := by decide +kernel
theorem d_Mo_fits_208 : decode c_Mo_fits 208 = .ok (.ireturn, 1) := by decide +kernel
theorem d_Mo_fits_209 : decode c_Mo_fits 209 = .ok (.aload_n 0, 1) := by decide +kernel
theorem d_Mo_fits_210 : decode c_Mo_fits 210 = .ok (.getfield 24, 3) := by decide +kernel
theorem d_Mo_fits_213 : decode c_Mo_fits 213 = .ok (.iload_n 1, 1) := by decide +kernel
theorem d_Mo_fits_214 : decode c_Mo_fits 214 = .ok (.iaload, 1) := by decide +kernel
theorem d_Mo_fits_215 : decode c_Mo_fits 215 = .ok (.iconst 2, 1) := by decide +kernel
theorem d_Mo_fits_216 : decode c_Mo_fits 216 = .ok (.if_icmp .ne 10, 3) := by decide +kernel
theorem d_Mo_fits_219 : decode c_Mo_fits 219 = .ok (.aload_n 0, 1) := by decide +kernel
theorem d_Mo_fits_220 : decode c_Mo_fits 220 = .ok (.iload_n 1, 1) := by decide +kernel
theorem d_Mo_fits_221 : decode c_Mo_fits 221 = .ok (.iload_n 2, 1) := by decide +kernel
theorem d_Mo_fits_222 : decode c_Mo_fits 222 = .ok (.invokevirtual 195, 3) := by decide +kernel
theorem d_Mo_fits_225 : decode c_Mo_fits 225 = .ok (.ireturn, 1) := by decide +kernel
theorem d_Mo_fits_226 : decode c_Mo_fits 226 = .ok (.aload_n 0, 1) := by decide +kernel
theorem d_Mo_fits_227 : decode c_Mo_fits 227 = .ok (.getfield 24, 3) := by decide +kernel
theorem d_Mo_fits_230 : decode c_Mo_fits 230 = .ok (.iload_n 1, 1) := by decide +kernel
theorem d_Mo_fits_231 : decode c_Mo_fits 231 = .ok (.iaload, 1) := by decide +kernel
theorem d_Mo_fits_232 : decode c_Mo_fits 232 = .ok (.iconst 3, 1) := by decide +kernel
theorem d_Mo_fits_233 : decode c_Mo_fits 233 = .ok (.if_icmp .ne 24, 3) := by decide +kernel
theorem d_Mo_fits_236 : decode c_Mo_fits 236 = .ok (.iconst 1, 1) := by decide +kernel
theorem d_Mo_fits_237 : decode c_Mo_fits 237 = .ok (.iload_n 2, 1) := by decide +kernel
theorem d_Mo_fits_238 : decode c_Mo_fits 238 = .ok (.ishl, 1) := by decide +kernel
theorem d_Mo_fits_239 : decode c_Mo_fits 239 = .ok (.aload_n 0, 1) := by decide +kernel
theorem d_Mo_fits_240 : decode c_Mo_fits 240 = .ok (.getfield 68, 3) := by decide +kernel
theorem d_Mo_fits_243 : decode c_Mo_fits 243 = .ok (.bipush 25, 2) := by decide +kernel
theorem d_Mo_fits_245 : decode c_Mo_fits 245 = .ok (.aload_n 0, 1) := by decide +kernel
theorem d_Mo_fits_246 : decode c_Mo_fits 246 = .ok (.getfield 37, 3) := by decide +kernel
theorem d_Mo_fits_249 : decode c_Mo_fits 249 = .ok (.iload_n 1, 1) := by decide +kernel
theorem d_Mo_fits_250 : decode c_Mo_fits 250 = .ok (.iaload, 1) := by decide +kernel
theorem d_Mo_fits_251 : decode c_Mo_fits 251 = .ok (.imul, 1) := by decide +kernel
theorem d_Mo_fits_252 : decode c_Mo_fits 252 = .ok (.iload_n 2, 1) := by decide +kernel
theorem d_Mo_fits_253 : decode c_Mo_fits 253 = .ok (.iadd, 1) := by decide +kernel
theorem d_Mo_fits_254 : decode c_Mo_fits 254 = .ok (.iaload, 1) := by decide +kernel
theorem d_Mo_fits_255 : decode c_Mo_fits 255 = .ok (.ior, 1) := by decide +kernel
theorem d_Mo_fits_256 : decode c_Mo_fits 256 = .ok (.ireturn, 1) := by decide +kernel
theorem d_Mo_fits_257 : decode c_Mo_fits 257 = .ok (.aload_n 0, 1) := by decide +kernel
theorem d_Mo_fits_258 : decode c_Mo_fits 258 = .ok (.getfield 24, 3) := by decide +kernel
theorem d_Mo_fits_261 : decode c_Mo_fits 261 = .ok (.iload_n 1, 1) := by decide +kernel
theorem d_Mo_fits_262 : decode c_Mo_fits 262 = .ok (.iaload, 1) := by decide +kernel
theorem d_Mo_fits_263 : decode c_Mo_fits 263 = .ok (.iconst 1, 1) := by decide +kernel
theorem d_Mo_fits_264 : decode c_Mo_fits 264 = .ok (.if_icmp .ne 9, 3) := by decide +kernel
theorem d_Mo_fits_267 : decode c_Mo_fits 267 = .ok (.iconst 1, 1) := by decide +kernel
theorem d_Mo_fits_268 : decode c_Mo_fits 268 = .ok (.iload_n 2, 1) := by decide +kernel
theorem d_Mo_fits_269 : decode c_Mo_fits 269 = .ok (.ishl, 1) := by decide +kernel
theorem d_Mo_fits_270 : decode c_Mo_fits 270 = .ok (.goto 4, 3) := by decide +kernel
theorem d_Mo_fits_273 : decode c_Mo_fits 273 = .ok (.iconst 0, 1) := by decide +kernel
theorem d_Mo_fits_274 : decode c_Mo_fits 274 = .ok (.istore_n 3, 1) := by decide +kernel
theorem d_Mo_fits_275 : decode c_Mo_fits 275 = .ok (.aload_n 0, 1) := by decide +kernel
theorem d_Mo_fits_276 : decode c_Mo_fits 276 = .ok (.getfield 37, 3) := by decide +kernel
theorem d_Mo_fits_279 : decode c_Mo_fits 279 = .ok (.iload_n 1, 1) := by decide +kernel
theorem d_Mo_fits_280 : decode c_Mo_fits 280 = .ok (.iaload, 1) := by decide +kernel
theorem d_Mo_fits_281 : decode c_Mo_fits 281 = .ok (.istore 4, 2) := by decide +kernel
theorem d_Mo_fits_283 : decode c_Mo_fits 283 = .ok (.iload 4, 2) := by decide +kernel
theorem d_Mo_fits_285 : decode c_Mo_fits 285 = .ok (.ifCond .lt 50, 3) := by decide +kernel
theorem d_Mo_fits_288 : decode c_Mo_fits 288 = .ok (.aload_n 0, 1) := by decide +kernel
theorem d_Mo_fits_289 : decode c_Mo_fits 289 = .ok (.getfield 24, 3) := by decide +kernel
theorem d_Mo_fits_292 : decode c_Mo_fits 292 = .ok (.iload_n 1, 1) := by decide +kernel
theorem d_Mo_fits_293 : decode c_Mo_fits 293 = .ok (.iaload, 1) := by decide +kernel
theorem d_Mo_fits_294 : decode c_Mo_fits 294 = .ok (.iconst 1, 1) := by decide +kernel
theorem d_Mo_fits_295 : decode c_Mo_fits 295 = .ok (.if_icmp .ne 13, 3) := by decide +kernel
theorem d_Mo_fits_298 : decode c_Mo_fits 298 = .ok (.aload_n 0, 1) := by decide +kernel
theorem d_Mo_fits_299 : decode c_Mo_fits 299 = .ok (.iload 4, 2) := by decide +kernel
theorem d_Mo_fits_301 : decode c_Mo_fits 301 = .ok (.iload_n 3, 1) := by decide +kernel
theorem d_Mo_fits_302 : decode c_Mo_fits 302 = .ok (.invokevirtual 188, 3) := by decide +kernel
theorem d_Mo_fits_305 : decode c_Mo_fits 305 = .ok (.goto 17, 3) := by decide +kernel
theorem d_Mo_fits_308 : decode c_Mo_fits 308 = .ok (.iload_n 3, 1) := by decide +kernel
theorem d_Mo_fits_309 : decode c_Mo_fits 309 = .ok (.aload_n 0, 1) := by decide +kernel
theorem d_Mo_fits_310 : decode c_Mo_fits 310 = .ok (.getfield 68, 3) := by decide +kernel
theorem d_Mo_fits_313 : decode c_Mo_fits 313 = .ok (.bipush 25, 2) := by decide +kernel
theorem d_Mo_fits_315 : decode c_Mo_fits 315 = .ok (.iload 4, 2) := by decide +kernel
theorem d_Mo_fits_317 : decode c_Mo_fits 317 = .ok (.imul, 1) := by decide +kernel
theorem d_Mo_fits_318 : decode c_Mo_fits 318 = .ok (.iload_n 2, 1) := by decide +kernel
theorem d_Mo_fits_319 : decode c_Mo_fits 319 = .ok (.iadd, 1) := by decide +kernel
theorem d_Mo_fits_320 : decode c_Mo_fits 320 = .ok (.iaload, 1) := by decide +kernel
theorem d_Mo_fits_321 : decode c_Mo_fits 321 = .ok (.ior, 1) := by decide +kernel
theorem d_Mo_fits_322 : decode c_Mo_fits 322 = .ok (.istore_n 3, 1) := by decide +kernel
theorem d_Mo_fits_323 : decode c_Mo_fits 323 = .ok (.aload_n 0, 1) := by decide +kernel
theorem d_Mo_fits_324 : decode c_Mo_fits 324 = .ok (.getfield 40, 3) := by decide +kernel
theorem d_Mo_fits_327 : decode c_Mo_fits 327 = .ok (.iload 4, 2) := by decide +kernel
theorem d_Mo_fits_329 : decode c_Mo_fits 329 = .ok (.iaload, 1) := by decide +kernel
theorem d_Mo_fits_330 : decode c_Mo_fits 330 = .ok (.istore 4, 2) := by decide +kernel
theorem d_Mo_fits_332 : decode c_Mo_fits 332 = .ok (.goto (-49), 3) := by decide +kernel
theorem d_Mo_fits_335 : decode c_Mo_fits 335 = .ok (.iload_n 3, 1) := by decide +kernel
theorem d_Mo_fits_336 : decode c_Mo_fits 336 = .ok (.ireturn, 1) := by decide +kernel
theorem cN_ge {v : Int32} {k : Nat} (h : v ≤ nI k) (hk : k < 2 ^ 31) : v.toNatClampNeg ≤ k := by
  have h1 := Int32.le_iff_toInt_le.mp h
  rw [nI_toInt hk] at h1
  show v.toInt.toNat ≤ k
  omega
theorem cN_lt {v : Int32} {k : Nat} (h : ¬ v ≤ nI k) (hk : k < 2 ^ 31) : k < v.toNatClampNeg := by
  have h1 := Int32.lt_iff_toInt_lt.mp (Int32.not_le.mp h)
  rw [nI_toInt hk] at h1
  show k < v.toInt.toNat
  omega
theorem cN_b (v : Int32) : v.toNatClampNeg < 2 ^ 31 := by
  have := Int32.toInt_lt v
  show v.toInt.toNat < 2 ^ 31
  omega
theorem if0 {x a b : Int32} (h : (if x < a ∨ b < x then (0 : Int32) else 1) = 0) : x < a ∨ b < x := by
  by_cases q : x < a ∨ b < x
  · exact q
  · rw [if_neg q] at h; exact absurd h (by decide)
theorem chL_neg {nx : Nat → Int32} (m : Nat) : chL nx m (-1) = [] := by
  cases m with
  | zero => rfl
  | succ m => show (if (-1 : Int32) < 0 then [] else _) = []; rw [if_pos (by decide)]
theorem chL_pos {nx : Nat → Int32} {m j : Nat} (hj : j < 2 ^ 31) : chL nx (m + 1) (nI j) = j :: chL nx m (nx j) := by
  show (if nI j < 0 then [] else (nI j).toNatClampNeg :: chL nx m (nx (nI j).toNatClampNeg)) = _
  rw [if_neg (nI_pos hj), nI_clamp hj]
set_option maxHeartbeats 4000000 in
set_option maxRecDepth 100000 in
theorem m_Mo_step (l : Launch) {D : va_G} {cy : Nat → ClassId} {sz n : Nat} {ad : Nat → Nat} {mem : Nat → va_E} {J : Nat → Int32} {A : Nat → Nat → Int32} {nm : Nat → Int64} {m0 : Nat → va_E} {G p9 : Nat} {fr : Int32} (hn : 242 ≤ n) (hM : MW cy ad J A nm m0 mem) (h24 : J 24 = nI G) (hGb : G ≤ 24) (hp9 : p9 < 100) : MI l D cy sz n ad y_Mo_step c_Mo_step 5 (some .int) ({ frames := 0, cells := 0, slots := 0, locals := 0 } : Room) mem [.ref (ad 224), .int (nI p9), .int (fr)] (fun r mem' => r = stepF (A 241) G p9 fr ∧ mem' = mem) := by
  refine Met.ofW (cc := c_Mo_step) (maxL := 5) (ret := (some .int)) (by decide) rfl ?_
  intro p e s m args below meth c s₁ B hml hv
  obtain ⟨rfl, E, hP, hD⟩ := hv
  have hx := B.exec
  have hb := B.bytes
  have hr := B.returns
  have hlocks := B.notSynchronized
  have Bx : MB p s m [.ref (ad 224), .int (nI p9), .int (fr)].toArray c c_Mo_step "AbnfChartModel" D cy := ⟨hx, hb, tb_all (atoms_spec B.pre) E.2.1, findClass_of_methodNamed B.named, E.1⟩
  have hS : va_S (Az sz) s.heap s.heap [] := va_S.rf
  have hl := lv_entry ([.ref (ad 224), .int (nI p9), .int (fr)]) (n := 5) (Nat.le_of_ble_eq_true rfl)
  rw [lg_entry_eq]
  generalize (lg_sl ([.ref (ad 224), .int (nI p9), .int (fr)]) ++ List.replicate (5 - (lg_sl ([.ref (ad 224), .int (nI p9), .int (fr)])).length) Slot.unset).toArray = ls at hl ⊢
  have hl : lv_has ls 5 [(0, .ref (ad 224)), (1, .int (nI p9)), (2, .int (fr))] := hl
  refine lv_iconst (v := 0) Bx.1 Bx.2.1 d_Mo_step_0 (by decide) ?_
  refine lv_istore_n (lv' := [(3, .int (0)), (0, .ref (ad 224)), (1, .int (nI p9)), (2, .int (fr))]) Bx.1 Bx.2.1 d_Mo_step_1 rfl hl (by decide) rfl (fun ls hl => ?_)
  refine lv_iconst (v := 0) Bx.1 Bx.2.1 d_Mo_step_2 (by decide) ?_
  refine lv_istore (lv' := [(4, .int (0)), (3, .int (0)), (0, .ref (ad 224)), (1, .int (nI p9)), (2, .int (fr))]) Bx.1 Bx.2.1 d_Mo_step_3 hl (by decide) rfl (fun ls hl => ?_)
  have loop1 : ∀ (d2 : Nat) (k : Nat) (ls : Array Slot) (H : Heap) (locs : List Loc), (G + 1 - k < d2) → (k ≤ G + 1) → (va_P D vcl (fw n ad mem) H) → (va_D (Az sz) (fw n ad mem)) → (va_S (Az sz) s.heap H locs) → (lv_has ls 5 [(4, .int (nI k)), (3, .int (stepN (A 241) (25 * p9) fr k)), (0, .ref (ad 224)), (1, .int (nI p9)), (2, .int (fr))]) → W p l e (headSpec (Cond.code y_Mo_step c_Mo_step 5 (some .int) :: tg) ({ frames := 0, cells := 0, slots := 0, locals := 0 } : Room)).room s m [.ref (ad 224), .int (nI p9), .int (fr)].toArray below meth c H locs 0 0 (MQ below (va_Qi (fun r mem' => r = stepF (A 241) G p9 fr ∧ mem' = mem) (PP D n ad) (Az sz)) [.ref (ad 224), .int (nI p9), .int (fr)].toArray s 0 0 (Az sz)) (F0 m 5 ls []) := by
    intro d2
    induction d2 with
    | zero => intro k ls H locs hmeas5; exact absurd hmeas5 (Nat.not_lt_zero _)
    | succ d2 ih4 =>
      intro k ls H locs hmeas5 hz3 hP hD hS hl
      refine lv_iload Bx.1 Bx.2.1 d_Mo_step_5 (lv_at hl 0 rfl) ?_
      refine lv_aload_n Bx.1 Bx.2.1 d_Mo_step_7 rfl (lv_at hl 2 rfl) ?_
      refine f_get Bx hP (by omega) hM.1 rfl inMo 24 (by decide) kw_680 rfl rfl d_Mo_step_8 ?_
      rw [h24]
      refine lv_icmp_gt Bx.1 Bx.2.1 d_Mo_step_11 rfl (fun hb6 => ?_) (fun hb6 => ?_)
      · have hN7 : G < k := (nI_ltI (by omega) (by omega)).mp (show nI (G) < nI (k) from hb6)
        refine lv_iload_n Bx.1 Bx.2.1 d_Mo_step_49 rfl (lv_at hl 1 rfl) ?_
        obtain rfl : k = G + 1 := by omega
        exact W.iret (v := stepN (A 241) (25 * p9) fr (G + 1)) hx hb hr (fun t ht hW => ⟨⟨stepN (A 241) (25 * p9) fr (G + 1), mem, rfl, ⟨rfl, rfl⟩, by show va_P _ _ _ t.heap; rw [ht]; exact hP⟩, hS.F ht⟩) hS.2.2 d_Mo_step_50
      · have hN8 : ¬ G < k := fun q9 => hb6 (show nI (G) < nI (k) from (nI_ltI (by omega) (by omega)).mpr q9)
        refine lv_iload_n Bx.1 Bx.2.1 d_Mo_step_14 rfl (lv_at hl 1 rfl) ?_
        refine lv_iload_n Bx.1 Bx.2.1 d_Mo_step_15 rfl (lv_at hl 4 rfl) ?_
        refine lv_iload Bx.1 Bx.2.1 d_Mo_step_16 (lv_at hl 0 rfl) ?_
        refine lv_ishr Bx.1 Bx.2.1 d_Mo_step_18 ?_
        refine lv_iconst (v := 1) Bx.1 Bx.2.1 d_Mo_step_19 (by decide) ?_
        refine lv_iand Bx.1 Bx.2.1 d_Mo_step_20 ?_
        refine lv_iconst (v := 1) Bx.1 Bx.2.1 d_Mo_step_21 (by decide) ?_
        refine lv_icmp_ne Bx.1 Bx.2.1 d_Mo_step_22 rfl (fun hb9 => ?_) (fun hb9 => ?_)
        · refine lv_iconst (v := 0) Bx.1 Bx.2.1 d_Mo_step_40 (by decide) ?_
          refine lv_ior Bx.1 Bx.2.1 d_Mo_step_41 ?_
          refine lv_istore_n (lv' := [(3, .int (stepN (A 241) (25 * p9) fr k ||| 0)), (4, .int (nI k)), (0, .ref (ad 224)), (1, .int (nI p9)), (2, .int (fr))]) Bx.1 Bx.2.1 d_Mo_step_42 rfl hl (by decide) rfl (fun ls hl => ?_)
          refine lv_iinc (lv' := [(4, .int ((nI k + (1)))), (3, .int (stepN (A 241) (25 * p9) fr k ||| 0)), (0, .ref (ad 224)), (1, .int (nI p9)), (2, .int (fr))]) Bx.1 Bx.2.1 d_Mo_step_43 hl (k := 1) rfl rfl (by decide) rfl (fun ls hl => ?_)
          rw [show (nI k + (1) : Int32) = nI (k + 1) from nI_1 (k)] at hl
          refine lv_goto Bx.1 Bx.2.1 d_Mo_step_46 rfl ?_
          exact ih4 (k + 1) _ _ _ (by have := hmeas5; omega) (by omega) hP hD hS (by rw [show stepN (A 241) (25 * p9) fr (k + 1) = stepN (A 241) (25 * p9) fr k ||| 0 from by show _ ||| (if _ then _ else _) = _; rw [if_neg hb9]]; exact (lv_sub hl [0, 1, 2, 3, 4] rfl))
        · refine lv_aload_n Bx.1 Bx.2.1 d_Mo_step_25 rfl (lv_at hl 2 rfl) ?_
          refine f_get Bx hP (by omega) hM.1 rfl inMo 27 (by decide) kw_683 rfl rfl d_Mo_step_26 ?_
          refine lv_bipush (v := 25) Bx.1 Bx.2.1 d_Mo_step_29 (by decide) ?_
          refine lv_iload_n Bx.1 Bx.2.1 d_Mo_step_31 rfl (lv_at hl 3 rfl) ?_
          refine lv_imul Bx.1 Bx.2.1 d_Mo_step_32 ?_
          rw [show 25 * nI p9 = nI (25 * p9) from nI_mulR (25) (p9)]
          refine lv_iload Bx.1 Bx.2.1 d_Mo_step_33 (lv_at hl 0 rfl) ?_
          refine lv_iadd Bx.1 Bx.2.1 d_Mo_step_35 ?_
          rw [show nI (25 * p9) + nI k = nI (25 * p9 + k) from nI_add (25 * p9) (k)]
          refine f_iald Bx hP (by omega) (show mem 241 = .inl (cy 1, 2500, .inl (A 241)) from hM.2.2.1 241 (by decide) (by decide) (by decide)) (vp_in_nI (n := 25 * p9 + k) (by omega) (by decide)) d_Mo_step_36 ?_
          rw [nI_clamp (n := 25 * p9 + k) (by omega)]
          refine lv_goto Bx.1 Bx.2.1 d_Mo_step_37 rfl ?_
          refine lv_ior Bx.1 Bx.2.1 d_Mo_step_41 ?_
          refine lv_istore_n (lv' := [(3, .int (stepN (A 241) (25 * p9) fr k ||| A 241 (25 * p9 + k))), (4, .int (nI k)), (0, .ref (ad 224)), (1, .int (nI p9)), (2, .int (fr))]) Bx.1 Bx.2.1 d_Mo_step_42 rfl hl (by decide) rfl (fun ls hl => ?_)
          refine lv_iinc (lv' := [(4, .int ((nI k + (1)))), (3, .int (stepN (A 241) (25 * p9) fr k ||| A 241 (25 * p9 + k))), (0, .ref (ad 224)), (1, .int (nI p9)), (2, .int (fr))]) Bx.1 Bx.2.1 d_Mo_step_43 hl (k := 1) rfl rfl (by decide) rfl (fun ls hl => ?_)
          rw [show (nI k + (1) : Int32) = nI (k + 1) from nI_1 (k)] at hl
          refine lv_goto Bx.1 Bx.2.1 d_Mo_step_46 rfl ?_
          exact ih4 (k + 1) _ _ _ (by have := hmeas5; omega) (by omega) hP hD hS (by rw [show stepN (A 241) (25 * p9) fr (k + 1) = stepN (A 241) (25 * p9) fr k ||| A 241 (25 * p9 + k) from by show _ ||| (if _ then _ else _) = _; rw [if_pos hb9]]; exact (lv_sub hl [0, 1, 2, 3, 4] rfl))
  exact loop1 _ (0) _ _ _ (Nat.lt_succ_self _) (by omega) hP hD hS (lv_sub hl [0, 1, 2, 3, 4] rfl)
set_option maxHeartbeats 4000000 in
set_option maxRecDepth 100000 in
theorem m_Mo_times (l : Launch) {D : va_G} {cy : Nat → ClassId} {sz n : Nat} {ad : Nat → Nat} {mem : Nat → va_E} {J : Nat → Int32} {A : Nat → Nat → Int32} {nm : Nat → Int64} {m0 : Nat → va_E} {G p9 q0 i9 : Nat} (hn : 242 ≤ n) (hM : MW cy ad J A nm m0 mem) (h24 : J 24 = nI G) (hGb : G ≤ 24) (hp9 : p9 < 100) (hq0 : q0 < 100) (hfi : A 232 p9 = nI q0) : MI l D cy sz n ad y_Mo_times c_Mo_times 7 (some .int) ({ frames := 1, cells := 0, slots := 0, locals := 30 } : Room) mem [.ref (ad 224), .int (nI p9), .int (nI i9)] (fun r mem' => r = timesF (A 241) G q0 i9 (A 229 p9) (A 230 p9) ∧ mem' = mem) := by
  refine Met.ofW (cc := c_Mo_times) (maxL := 7) (ret := (some .int)) (by decide) rfl ?_
  intro p e s m args below meth c s₁ B hml hv
  obtain ⟨rfl, E, hP, hD⟩ := hv
  have hx := B.exec
  have hb := B.bytes
  have hr := B.returns
  have hlocks := B.notSynchronized
  have Bx : MB p s m [.ref (ad 224), .int (nI p9), .int (nI i9)].toArray c c_Mo_times "AbnfChartModel" D cy := ⟨hx, hb, tb_all (atoms_spec B.pre) E.2.1, findClass_of_methodNamed B.named, E.1⟩
  have hS : va_S (Az sz) s.heap s.heap [] := va_S.rf
  have hl := lv_entry ([.ref (ad 224), .int (nI p9), .int (nI i9)]) (n := 7) (Nat.le_of_ble_eq_true rfl)
  rw [lg_entry_eq]
  generalize (lg_sl ([.ref (ad 224), .int (nI p9), .int (nI i9)]) ++ List.replicate (7 - (lg_sl ([.ref (ad 224), .int (nI p9), .int (nI i9)])).length) Slot.unset).toArray = ls at hl ⊢
  have hl : lv_has ls 7 [(0, .ref (ad 224)), (1, .int (nI p9)), (2, .int (nI i9))] := hl
  refine lv_iconst (v := 1) Bx.1 Bx.2.1 d_Mo_times_0 (by decide) ?_
  refine lv_iload_n Bx.1 Bx.2.1 d_Mo_times_1 rfl (lv_at hl 2 rfl) ?_
  refine lv_ishl Bx.1 Bx.2.1 d_Mo_times_2 ?_
  refine lv_istore_n (lv' := [(3, .int ((1) <<< ((nI i9) &&& 31))), (0, .ref (ad 224)), (1, .int (nI p9)), (2, .int (nI i9))]) Bx.1 Bx.2.1 d_Mo_times_3 rfl hl (by decide) rfl (fun ls hl => ?_)
  refine lv_iconst (v := 0) Bx.1 Bx.2.1 d_Mo_times_4 (by decide) ?_
  refine lv_istore (lv' := [(4, .int (0)), (3, .int ((1) <<< ((nI i9) &&& 31))), (0, .ref (ad 224)), (1, .int (nI p9)), (2, .int (nI i9))]) Bx.1 Bx.2.1 d_Mo_times_5 hl (by decide) rfl (fun ls hl => ?_)
  have hN1 := cN_b (A 229 p9)
  have loop1 : ∀ (d2 : Nat) (k1z : Nat) (ls : Array Slot) (H : Heap) (locs : List Loc), ((A 229 p9).toNatClampNeg - k1z < d2) → (k1z ≤ (A 229 p9).toNatClampNeg) → (va_P D vcl (fw n ad mem) H) → (va_D (Az sz) (fw n ad mem)) → (va_S (Az sz) s.heap H locs) → (lv_has ls 7 [(4, .int (nI k1z)), (3, .int (iterS (A 241) G q0 (1 <<< (nI i9 &&& 31)) k1z)), (0, .ref (ad 224)), (1, .int (nI p9)), (2, .int (nI i9))]) → W p l e (headSpec (Cond.code y_Mo_times c_Mo_times 7 (some .int) :: tg) ({ frames := 1, cells := 0, slots := 0, locals := 30 } : Room)).room s m [.ref (ad 224), .int (nI p9), .int (nI i9)].toArray below meth c H locs 0 0 (MQ below (va_Qi (fun r mem' => r = timesF (A 241) G q0 i9 (A 229 p9) (A 230 p9) ∧ mem' = mem) (PP D n ad) (Az sz)) [.ref (ad 224), .int (nI p9), .int (nI i9)].toArray s 0 0 (Az sz)) (F0 m 7 ls []) := by
    intro d2
    induction d2 with
    | zero => intro k1z ls H locs hmeas5; exact absurd hmeas5 (Nat.not_lt_zero _)
    | succ d2 ih4 =>
      intro k1z ls H locs hmeas5 hz3 hP hD hS hl
      refine lv_iload Bx.1 Bx.2.1 d_Mo_times_7 (lv_at hl 0 rfl) ?_
      refine lv_aload_n Bx.1 Bx.2.1 d_Mo_times_9 rfl (lv_at hl 2 rfl) ?_
      refine f_get Bx hP (by omega) hM.1 rfl inMo 9 (by decide) kw_665 rfl rfl d_Mo_times_10 ?_
      refine lv_iload_n Bx.1 Bx.2.1 d_Mo_times_13 rfl (lv_at hl 3 rfl) ?_
      refine f_iald Bx hP (by omega) (show mem 229 = .inl (cy 1, 100, .inl (A 229)) from hM.2.2.1 229 (by decide) (by decide) (by decide)) (vp_in_nI (n := p9) (by omega) (by decide)) d_Mo_times_14 ?_
      rw [nI_clamp (n := p9) (by omega)]
      refine lv_icmp_ge Bx.1 Bx.2.1 d_Mo_times_15 rfl (fun hb6 => ?_) (fun hb6 => ?_)
      · have hkg := cN_ge hb6 (by omega)
        obtain rfl : k1z = (A 229 p9).toNatClampNeg := by omega
        refine lv_iload_n Bx.1 Bx.2.1 d_Mo_times_36 rfl (lv_at hl 1 rfl) ?_
        refine lv_istore (lv' := [(4, .int (iterS (A 241) G q0 (1 <<< (nI i9 &&& 31)) (A 229 p9).toNatClampNeg)), (3, .int (iterS (A 241) G q0 (1 <<< (nI i9 &&& 31)) (A 229 p9).toNatClampNeg)), (0, .ref (ad 224)), (1, .int (nI p9)), (2, .int (nI i9))]) Bx.1 Bx.2.1 d_Mo_times_37 hl (by decide) rfl (fun ls hl => ?_)
        refine lv_aload_n Bx.1 Bx.2.1 d_Mo_times_39 rfl (lv_at hl 2 rfl) ?_
        refine f_get Bx hP (by omega) hM.1 rfl inMo 10 (by decide) kw_666 rfl rfl d_Mo_times_40 ?_
        refine lv_iload_n Bx.1 Bx.2.1 d_Mo_times_43 rfl (lv_at hl 3 rfl) ?_
        refine f_iald Bx hP (by omega) (show mem 230 = .inl (cy 1, 100, .inl (A 230)) from hM.2.2.1 230 (by decide) (by decide) (by decide)) (vp_in_nI (n := p9) (by omega) (by decide)) d_Mo_times_44 ?_
        rw [nI_clamp (n := p9) (by omega)]
        refine lv_if_ge Bx.1 Bx.2.1 d_Mo_times_45 rfl (fun hb7 => ?_) (fun hb7 => ?_)
        · have htw : ¬ A 230 p9 < 0 := Int32.not_lt.mpr hb7
          refine lv_aload_n Bx.1 Bx.2.1 d_Mo_times_53 rfl (lv_at hl 2 rfl) ?_
          refine f_get Bx hP (by omega) hM.1 rfl inMo 10 (by decide) kw_666 rfl rfl d_Mo_times_54 ?_
          refine lv_iload_n Bx.1 Bx.2.1 d_Mo_times_57 rfl (lv_at hl 3 rfl) ?_
          refine f_iald Bx hP (by omega) (show mem 230 = .inl (cy 1, 100, .inl (A 230)) from hM.2.2.1 230 (by decide) (by decide) (by decide)) (vp_in_nI (n := p9) (by omega) (by decide)) d_Mo_times_58 ?_
          rw [nI_clamp (n := p9) (by omega)]
          refine lv_aload_n Bx.1 Bx.2.1 d_Mo_times_59 rfl (lv_at hl 2 rfl) ?_
          refine f_get Bx hP (by omega) hM.1 rfl inMo 9 (by decide) kw_665 rfl rfl d_Mo_times_60 ?_
          refine lv_iload_n Bx.1 Bx.2.1 d_Mo_times_63 rfl (lv_at hl 3 rfl) ?_
          refine f_iald Bx hP (by omega) (show mem 229 = .inl (cy 1, 100, .inl (A 229)) from hM.2.2.1 229 (by decide) (by decide) (by decide)) (vp_in_nI (n := p9) (by omega) (by decide)) d_Mo_times_64 ?_
          rw [nI_clamp (n := p9) (by omega)]
          refine lv_isub Bx.1 Bx.2.1 d_Mo_times_65 ?_
          refine lv_istore (lv' := [(5, .int (A 230 (p9) - A 229 (p9))), (4, .int (iterS (A 241) G q0 (1 <<< (nI i9 &&& 31)) (A 229 p9).toNatClampNeg)), (3, .int (iterS (A 241) G q0 (1 <<< (nI i9 &&& 31)) (A 229 p9).toNatClampNeg)), (0, .ref (ad 224)), (1, .int (nI p9)), (2, .int (nI i9))]) Bx.1 Bx.2.1 d_Mo_times_66 hl (by decide) rfl (fun ls hl => ?_)
          refine lv_iconst (v := 0) Bx.1 Bx.2.1 d_Mo_times_68 (by decide) ?_
          refine lv_istore (lv' := [(6, .int (0)), (5, .int (A 230 (p9) - A 229 (p9))), (4, .int (iterS (A 241) G q0 (1 <<< (nI i9 &&& 31)) (A 229 p9).toNatClampNeg)), (3, .int (iterS (A 241) G q0 (1 <<< (nI i9 &&& 31)) (A 229 p9).toNatClampNeg)), (0, .ref (ad 224)), (1, .int (nI p9)), (2, .int (nI i9))]) Bx.1 Bx.2.1 d_Mo_times_69 hl (by decide) rfl (fun ls hl => ?_)
          have hN2 := cN_b (A 230 (p9) - A 229 (p9))
          have loop8 : ∀ (d9 : Nat) (kz : Nat) (ls : Array Slot) (H : Heap) (locs : List Loc), ((A 230 (p9) - A 229 (p9) : Int32).toNatClampNeg - kz < d9) → (kz ≤ (A 230 (p9) - A 229 (p9) : Int32).toNatClampNeg) → (va_P D vcl (fw n ad mem) H) → (va_D (Az sz) (fw n ad mem)) → (va_S (Az sz) s.heap H locs) → (lv_has ls 7 [(6, .int (nI kz)), (5, .int (A 230 (p9) - A 229 (p9))), (4, .int ((iterT (A 241) G q0 false (iterS (A 241) G q0 (1 <<< (nI i9 &&& 31)) (A 229 p9).toNatClampNeg) kz).2)), (3, .int ((iterT (A 241) G q0 false (iterS (A 241) G q0 (1 <<< (nI i9 &&& 31)) (A 229 p9).toNatClampNeg) kz).1)), (0, .ref (ad 224)), (1, .int (nI p9)), (2, .int (nI i9))]) → W p l e (headSpec (Cond.code y_Mo_times c_Mo_times 7 (some .int) :: tg) ({ frames := 1, cells := 0, slots := 0, locals := 30 } : Room)).room s m [.ref (ad 224), .int (nI p9), .int (nI i9)].toArray below meth c H locs 0 0 (MQ below (va_Qi (fun r mem' => r = timesF (A 241) G q0 i9 (A 229 p9) (A 230 p9) ∧ mem' = mem) (PP D n ad) (Az sz)) [.ref (ad 224), .int (nI p9), .int (nI i9)].toArray s 0 0 (Az sz)) (F0 m 71 ls []) := by
            intro d9
            induction d9 with
            | zero => intro kz ls H locs hmeas12; exact absurd hmeas12 (Nat.not_lt_zero _)
            | succ d9 ih11 =>
              intro kz ls H locs hmeas12 hz10 hP hD hS hl
              refine lv_iload Bx.1 Bx.2.1 d_Mo_times_71 (lv_at hl 0 rfl) ?_
              refine lv_iload Bx.1 Bx.2.1 d_Mo_times_73 (lv_at hl 1 rfl) ?_
              refine lv_icmp_ge Bx.1 Bx.2.1 d_Mo_times_75 rfl (fun hb13 => ?_) (fun hb13 => ?_)
              · have hkg := cN_ge hb13 (by omega)
                refine lv_iload Bx.1 Bx.2.1 d_Mo_times_116 (lv_at hl 2 rfl) ?_
                obtain rfl : kz = (A 230 (p9) - A 229 (p9) : Int32).toNatClampNeg := by omega
                have hti : timesF (A 241) G q0 i9 (A 229 p9) (A 230 p9) = (iterT (A 241) G q0 false (iterS (A 241) G q0 (1 <<< (nI i9 &&& 31)) (A 229 p9).toNatClampNeg) (A 230 (p9) - A 229 (p9) : Int32).toNatClampNeg).2 := by unfold timesF; rw [decide_eq_false htw, if_neg htw]
                exact W.iret (v := (iterT (A 241) G q0 false (iterS (A 241) G q0 (1 <<< (nI i9 &&& 31)) (A 229 p9).toNatClampNeg) (A 230 (p9) - A 229 (p9) : Int32).toNatClampNeg).2) hx hb hr (fun t ht hW => ⟨⟨(iterT (A 241) G q0 false (iterS (A 241) G q0 (1 <<< (nI i9 &&& 31)) (A 229 p9).toNatClampNeg) (A 230 (p9) - A 229 (p9) : Int32).toNatClampNeg).2, mem, rfl, ⟨hti.symm, rfl⟩, by show va_P _ _ _ t.heap; rw [ht]; exact hP⟩, hS.F ht⟩) hS.2.2 d_Mo_times_118
              · have hkl := cN_lt hb13 (by omega)
                refine lv_aload_n Bx.1 Bx.2.1 d_Mo_times_78 rfl (lv_at hl 4 rfl) ?_
                refine lv_aload_n Bx.1 Bx.2.1 d_Mo_times_79 rfl (lv_at hl 4 rfl) ?_
                refine f_get Bx hP (by omega) hM.1 rfl inMo 12 (by decide) kw_668 rfl rfl d_Mo_times_80 ?_
                refine lv_iload_n Bx.1 Bx.2.1 d_Mo_times_83 rfl (lv_at hl 5 rfl) ?_
                refine f_iald Bx hP (by omega) (show mem 232 = .inl (cy 1, 100, .inl (A 232)) from hM.2.2.1 232 (by decide) (by decide) (by decide)) (vp_in_nI (n := p9) (by omega) (by decide)) d_Mo_times_84 ?_
                rw [nI_clamp (n := p9) (by omega)]
                rw [hfi]
                refine lv_aload_n Bx.1 Bx.2.1 d_Mo_times_85 rfl (lv_at hl 4 rfl) ?_
                refine f_get Bx hP (by omega) hM.1 rfl inMo 10 (by decide) kw_666 rfl rfl d_Mo_times_86 ?_
                refine lv_iload_n Bx.1 Bx.2.1 d_Mo_times_89 rfl (lv_at hl 5 rfl) ?_
                refine f_iald Bx hP (by omega) (show mem 230 = .inl (cy 1, 100, .inl (A 230)) from hM.2.2.1 230 (by decide) (by decide) (by decide)) (vp_in_nI (n := p9) (by omega) (by decide)) d_Mo_times_90 ?_
                rw [nI_clamp (n := p9) (by omega)]
                refine lv_if_ge Bx.1 Bx.2.1 d_Mo_times_91 rfl (fun hb14 => ?_) (fun hb14 => ?_)
                · refine lv_iload_n Bx.1 Bx.2.1 d_Mo_times_99 rfl (lv_at hl 3 rfl) ?_
                  refine f_callVi (na := 2) (As := [.int (nI q0), .int ((iterT (A 241) G q0 false (iterS (A 241) G q0 (1 <<< (nI i9 &&& 31)) (A 229 p9).toNatClampNeg) kz).1)]) (rest := []) Bx hml E hP hD hS (by omega) hM.1 rfl (m_Mo_step l hn hM h24 hGb (p9 := q0) (by omega)) kw_898 kw_900 sel_Mo_step kw_8 kw_901 (by decide +kernel) ⟨rfl, rfl⟩ ⟨Nat.le_of_ble_eq_true rfl, Nat.le_of_ble_eq_true rfl⟩ rfl hl.1 (Nat.le_of_ble_eq_true rfl) d_Mo_times_100 ⟨Nat.le_of_ble_eq_true rfl, Nat.le_of_ble_eq_true rfl⟩ (fun r15 mem16 H locs hq hP hS => ?_)
                  have hD : va_D (Az sz) (fw n ad mem16) := fw_D hD
                  obtain ⟨hre, hq⟩ := hq
                  rw [hq] at hP hD
                  subst hre
                  refine lv_istore_n (lv' := [(3, .int (stepF (A 241) G q0 ((iterT (A 241) G q0 false (iterS (A 241) G q0 (1 <<< (nI i9 &&& 31)) (A 229 p9).toNatClampNeg) kz).1))), (6, .int (nI kz)), (5, .int (A 230 (p9) - A 229 (p9))), (4, .int ((iterT (A 241) G q0 false (iterS (A 241) G q0 (1 <<< (nI i9 &&& 31)) (A 229 p9).toNatClampNeg) kz).2)), (0, .ref (ad 224)), (1, .int (nI p9)), (2, .int (nI i9))]) Bx.1 Bx.2.1 d_Mo_times_103 rfl hl (by decide) rfl (fun ls hl => ?_)
                  refine lv_iload Bx.1 Bx.2.1 d_Mo_times_104 (lv_at hl 3 rfl) ?_
                  refine lv_iload_n Bx.1 Bx.2.1 d_Mo_times_106 rfl (lv_at hl 0 rfl) ?_
                  refine lv_ior Bx.1 Bx.2.1 d_Mo_times_107 ?_
                  refine lv_istore (lv' := [(4, .int ((iterT (A 241) G q0 false (iterS (A 241) G q0 (1 <<< (nI i9 &&& 31)) (A 229 p9).toNatClampNeg) kz).2 ||| stepF (A 241) G q0 ((iterT (A 241) G q0 false (iterS (A 241) G q0 (1 <<< (nI i9 &&& 31)) (A 229 p9).toNatClampNeg) kz).1))), (3, .int (stepF (A 241) G q0 ((iterT (A 241) G q0 false (iterS (A 241) G q0 (1 <<< (nI i9 &&& 31)) (A 229 p9).toNatClampNeg) kz).1))), (6, .int (nI kz)), (5, .int (A 230 (p9) - A 229 (p9))), (0, .ref (ad 224)), (1, .int (nI p9)), (2, .int (nI i9))]) Bx.1 Bx.2.1 d_Mo_times_108 hl (by decide) rfl (fun ls hl => ?_)
                  refine lv_iinc (lv' := [(6, .int ((nI kz + (1)))), (4, .int ((iterT (A 241) G q0 false (iterS (A 241) G q0 (1 <<< (nI i9 &&& 31)) (A 229 p9).toNatClampNeg) kz).2 ||| stepF (A 241) G q0 ((iterT (A 241) G q0 false (iterS (A 241) G q0 (1 <<< (nI i9 &&& 31)) (A 229 p9).toNatClampNeg) kz).1))), (3, .int (stepF (A 241) G q0 ((iterT (A 241) G q0 false (iterS (A 241) G q0 (1 <<< (nI i9 &&& 31)) (A 229 p9).toNatClampNeg) kz).1))), (5, .int (A 230 (p9) - A 229 (p9))), (0, .ref (ad 224)), (1, .int (nI p9)), (2, .int (nI i9))]) Bx.1 Bx.2.1 d_Mo_times_110 hl (k := 2) rfl rfl (by decide) rfl (fun ls hl => ?_)
                  rw [show (nI kz + (1) : Int32) = nI (kz + 1) from nI_1 (kz)] at hl
                  refine lv_goto Bx.1 Bx.2.1 d_Mo_times_113 rfl ?_
                  exact ih11 (kz + 1) _ _ _ (by have := hmeas12; omega) (by omega) hP hD hS (lv_sub hl [0, 3, 1, 2, 4, 5, 6] rfl)
                · exact absurd hb14 (fun z => z (Int32.not_lt.mp htw))
          exact loop8 _ (0) _ _ _ (Nat.lt_succ_self _) (by omega) hP hD hS (lv_sub hl [0, 1, 2, 3, 4, 5, 6] rfl)
        · have htw : A 230 p9 < 0 := Int32.not_le.mp hb7
          refine lv_bipush (v := 26) Bx.1 Bx.2.1 d_Mo_times_48 (by decide) ?_
          refine lv_goto Bx.1 Bx.2.1 d_Mo_times_50 rfl ?_
          refine lv_istore (lv' := [(5, .int (26)), (4, .int (iterS (A 241) G q0 (1 <<< (nI i9 &&& 31)) (A 229 p9).toNatClampNeg)), (3, .int (iterS (A 241) G q0 (1 <<< (nI i9 &&& 31)) (A 229 p9).toNatClampNeg)), (0, .ref (ad 224)), (1, .int (nI p9)), (2, .int (nI i9))]) Bx.1 Bx.2.1 d_Mo_times_66 hl (by decide) rfl (fun ls hl => ?_)
          refine lv_iconst (v := 0) Bx.1 Bx.2.1 d_Mo_times_68 (by decide) ?_
          refine lv_istore (lv' := [(6, .int (0)), (5, .int (26)), (4, .int (iterS (A 241) G q0 (1 <<< (nI i9 &&& 31)) (A 229 p9).toNatClampNeg)), (3, .int (iterS (A 241) G q0 (1 <<< (nI i9 &&& 31)) (A 229 p9).toNatClampNeg)), (0, .ref (ad 224)), (1, .int (nI p9)), (2, .int (nI i9))]) Bx.1 Bx.2.1 d_Mo_times_69 hl (by decide) rfl (fun ls hl => ?_)
          have hN2 := cN_b (26)
          have loop17 : ∀ (d18 : Nat) (kz : Nat) (ls : Array Slot) (H : Heap) (locs : List Loc), ((26 : Int32).toNatClampNeg - kz < d18) → (kz ≤ (26 : Int32).toNatClampNeg) → (va_P D vcl (fw n ad mem) H) → (va_D (Az sz) (fw n ad mem)) → (va_S (Az sz) s.heap H locs) → (lv_has ls 7 [(6, .int (nI kz)), (5, .int (26)), (4, .int ((iterT (A 241) G q0 true (iterS (A 241) G q0 (1 <<< (nI i9 &&& 31)) (A 229 p9).toNatClampNeg) kz).2)), (3, .int ((iterT (A 241) G q0 true (iterS (A 241) G q0 (1 <<< (nI i9 &&& 31)) (A 229 p9).toNatClampNeg) kz).1)), (0, .ref (ad 224)), (1, .int (nI p9)), (2, .int (nI i9))]) → W p l e (headSpec (Cond.code y_Mo_times c_Mo_times 7 (some .int) :: tg) ({ frames := 1, cells := 0, slots := 0, locals := 30 } : Room)).room s m [.ref (ad 224), .int (nI p9), .int (nI i9)].toArray below meth c H locs 0 0 (MQ below (va_Qi (fun r mem' => r = timesF (A 241) G q0 i9 (A 229 p9) (A 230 p9) ∧ mem' = mem) (PP D n ad) (Az sz)) [.ref (ad 224), .int (nI p9), .int (nI i9)].toArray s 0 0 (Az sz)) (F0 m 71 ls []) := by
            intro d18
            induction d18 with
            | zero => intro kz ls H locs hmeas21; exact absurd hmeas21 (Nat.not_lt_zero _)
            | succ d18 ih20 =>
              intro kz ls H locs hmeas21 hz19 hP hD hS hl
              refine lv_iload Bx.1 Bx.2.1 d_Mo_times_71 (lv_at hl 0 rfl) ?_
              refine lv_iload Bx.1 Bx.2.1 d_Mo_times_73 (lv_at hl 1 rfl) ?_
              refine lv_icmp_ge Bx.1 Bx.2.1 d_Mo_times_75 rfl (fun hb22 => ?_) (fun hb22 => ?_)
              · have hN23 : 26 ≤ kz := (nI_leI (by omega) (by omega)).mp (show nI (26) ≤ nI (kz) from hb22)
                have hkg := cN_ge hb22 (by omega)
                refine lv_iload Bx.1 Bx.2.1 d_Mo_times_116 (lv_at hl 2 rfl) ?_
                obtain rfl : kz = (26 : Int32).toNatClampNeg := by omega
                have hti : timesF (A 241) G q0 i9 (A 229 p9) (A 230 p9) = (iterT (A 241) G q0 true (iterS (A 241) G q0 (1 <<< (nI i9 &&& 31)) (A 229 p9).toNatClampNeg) (26 : Int32).toNatClampNeg).2 := by unfold timesF; rw [decide_eq_true htw, if_pos htw]
                exact W.iret (v := (iterT (A 241) G q0 true (iterS (A 241) G q0 (1 <<< (nI i9 &&& 31)) (A 229 p9).toNatClampNeg) (26 : Int32).toNatClampNeg).2) hx hb hr (fun t ht hW => ⟨⟨(iterT (A 241) G q0 true (iterS (A 241) G q0 (1 <<< (nI i9 &&& 31)) (A 229 p9).toNatClampNeg) (26 : Int32).toNatClampNeg).2, mem, rfl, ⟨hti.symm, rfl⟩, by show va_P _ _ _ t.heap; rw [ht]; exact hP⟩, hS.F ht⟩) hS.2.2 d_Mo_times_118
              · have hN24 : ¬ 26 ≤ kz := fun q9 => hb22 (show nI (26) ≤ nI (kz) from (nI_leI (by omega) (by omega)).mpr q9)
                have hkl := cN_lt hb22 (by omega)
                refine lv_aload_n Bx.1 Bx.2.1 d_Mo_times_78 rfl (lv_at hl 4 rfl) ?_
                refine lv_aload_n Bx.1 Bx.2.1 d_Mo_times_79 rfl (lv_at hl 4 rfl) ?_
                refine f_get Bx hP (by omega) hM.1 rfl inMo 12 (by decide) kw_668 rfl rfl d_Mo_times_80 ?_
                refine lv_iload_n Bx.1 Bx.2.1 d_Mo_times_83 rfl (lv_at hl 5 rfl) ?_
                refine f_iald Bx hP (by omega) (show mem 232 = .inl (cy 1, 100, .inl (A 232)) from hM.2.2.1 232 (by decide) (by decide) (by decide)) (vp_in_nI (n := p9) (by omega) (by decide)) d_Mo_times_84 ?_
                rw [nI_clamp (n := p9) (by omega)]
                rw [hfi]
                refine lv_aload_n Bx.1 Bx.2.1 d_Mo_times_85 rfl (lv_at hl 4 rfl) ?_
                refine f_get Bx hP (by omega) hM.1 rfl inMo 10 (by decide) kw_666 rfl rfl d_Mo_times_86 ?_
                refine lv_iload_n Bx.1 Bx.2.1 d_Mo_times_89 rfl (lv_at hl 5 rfl) ?_
                refine f_iald Bx hP (by omega) (show mem 230 = .inl (cy 1, 100, .inl (A 230)) from hM.2.2.1 230 (by decide) (by decide) (by decide)) (vp_in_nI (n := p9) (by omega) (by decide)) d_Mo_times_90 ?_
                rw [nI_clamp (n := p9) (by omega)]
                refine lv_if_ge Bx.1 Bx.2.1 d_Mo_times_91 rfl (fun hb25 => ?_) (fun hb25 => ?_)
                · exact absurd hb25 (Int32.not_le.mpr htw)
                · refine lv_iload Bx.1 Bx.2.1 d_Mo_times_94 (lv_at hl 2 rfl) ?_
                  refine lv_goto Bx.1 Bx.2.1 d_Mo_times_96 rfl ?_
                  refine f_callVi (na := 2) (As := [.int (nI q0), .int ((iterT (A 241) G q0 true (iterS (A 241) G q0 (1 <<< (nI i9 &&& 31)) (A 229 p9).toNatClampNeg) kz).2)]) (rest := []) Bx hml E hP hD hS (by omega) hM.1 rfl (m_Mo_step l hn hM h24 hGb (p9 := q0) (by omega)) kw_898 kw_900 sel_Mo_step kw_8 kw_901 (by decide +kernel) ⟨rfl, rfl⟩ ⟨Nat.le_of_ble_eq_true rfl, Nat.le_of_ble_eq_true rfl⟩ rfl hl.1 (Nat.le_of_ble_eq_true rfl) d_Mo_times_100 ⟨Nat.le_of_ble_eq_true rfl, Nat.le_of_ble_eq_true rfl⟩ (fun r26 mem27 H locs hq hP hS => ?_)
                  have hD : va_D (Az sz) (fw n ad mem27) := fw_D hD
                  obtain ⟨hre, hq⟩ := hq
                  rw [hq] at hP hD
                  subst hre
                  refine lv_istore_n (lv' := [(3, .int (stepF (A 241) G q0 ((iterT (A 241) G q0 true (iterS (A 241) G q0 (1 <<< (nI i9 &&& 31)) (A 229 p9).toNatClampNeg) kz).2))), (6, .int (nI kz)), (5, .int (26)), (4, .int ((iterT (A 241) G q0 true (iterS (A 241) G q0 (1 <<< (nI i9 &&& 31)) (A 229 p9).toNatClampNeg) kz).2)), (0, .ref (ad 224)), (1, .int (nI p9)), (2, .int (nI i9))]) Bx.1 Bx.2.1 d_Mo_times_103 rfl hl (by decide) rfl (fun ls hl => ?_)
                  refine lv_iload Bx.1 Bx.2.1 d_Mo_times_104 (lv_at hl 3 rfl) ?_
                  refine lv_iload_n Bx.1 Bx.2.1 d_Mo_times_106 rfl (lv_at hl 0 rfl) ?_
                  refine lv_ior Bx.1 Bx.2.1 d_Mo_times_107 ?_
                  refine lv_istore (lv' := [(4, .int ((iterT (A 241) G q0 true (iterS (A 241) G q0 (1 <<< (nI i9 &&& 31)) (A 229 p9).toNatClampNeg) kz).2 ||| stepF (A 241) G q0 ((iterT (A 241) G q0 true (iterS (A 241) G q0 (1 <<< (nI i9 &&& 31)) (A 229 p9).toNatClampNeg) kz).2))), (3, .int (stepF (A 241) G q0 ((iterT (A 241) G q0 true (iterS (A 241) G q0 (1 <<< (nI i9 &&& 31)) (A 229 p9).toNatClampNeg) kz).2))), (6, .int (nI kz)), (5, .int (26)), (0, .ref (ad 224)), (1, .int (nI p9)), (2, .int (nI i9))]) Bx.1 Bx.2.1 d_Mo_times_108 hl (by decide) rfl (fun ls hl => ?_)
                  refine lv_iinc (lv' := [(6, .int ((nI kz + (1)))), (4, .int ((iterT (A 241) G q0 true (iterS (A 241) G q0 (1 <<< (nI i9 &&& 31)) (A 229 p9).toNatClampNeg) kz).2 ||| stepF (A 241) G q0 ((iterT (A 241) G q0 true (iterS (A 241) G q0 (1 <<< (nI i9 &&& 31)) (A 229 p9).toNatClampNeg) kz).2))), (3, .int (stepF (A 241) G q0 ((iterT (A 241) G q0 true (iterS (A 241) G q0 (1 <<< (nI i9 &&& 31)) (A 229 p9).toNatClampNeg) kz).2))), (5, .int (26)), (0, .ref (ad 224)), (1, .int (nI p9)), (2, .int (nI i9))]) Bx.1 Bx.2.1 d_Mo_times_110 hl (k := 2) rfl rfl (by decide) rfl (fun ls hl => ?_)
                  rw [show (nI kz + (1) : Int32) = nI (kz + 1) from nI_1 (kz)] at hl
                  refine lv_goto Bx.1 Bx.2.1 d_Mo_times_113 rfl ?_
                  exact ih20 (kz + 1) _ _ _ (by have := hmeas21; omega) (by omega) hP hD hS (lv_sub hl [0, 3, 1, 2, 4, 5, 6] rfl)
          exact loop17 _ (0) _ _ _ (Nat.lt_succ_self _) (by omega) hP hD hS (lv_sub hl [0, 1, 2, 3, 4, 5, 6] rfl)
      · have hkl := cN_lt hb6 (by omega)
        refine lv_aload_n Bx.1 Bx.2.1 d_Mo_times_18 rfl (lv_at hl 2 rfl) ?_
        refine lv_aload_n Bx.1 Bx.2.1 d_Mo_times_19 rfl (lv_at hl 2 rfl) ?_
        refine f_get Bx hP (by omega) hM.1 rfl inMo 12 (by decide) kw_668 rfl rfl d_Mo_times_20 ?_
        refine lv_iload_n Bx.1 Bx.2.1 d_Mo_times_23 rfl (lv_at hl 3 rfl) ?_
        refine f_iald Bx hP (by omega) (show mem 232 = .inl (cy 1, 100, .inl (A 232)) from hM.2.2.1 232 (by decide) (by decide) (by decide)) (vp_in_nI (n := p9) (by omega) (by decide)) d_Mo_times_24 ?_
        rw [nI_clamp (n := p9) (by omega)]
        rw [hfi]
        refine lv_iload_n Bx.1 Bx.2.1 d_Mo_times_25 rfl (lv_at hl 1 rfl) ?_
        refine f_callVi (na := 2) (As := [.int (nI q0), .int (iterS (A 241) G q0 (1 <<< (nI i9 &&& 31)) k1z)]) (rest := []) Bx hml E hP hD hS (by omega) hM.1 rfl (m_Mo_step l hn hM h24 hGb (p9 := q0) (by omega)) kw_898 kw_900 sel_Mo_step kw_8 kw_901 (by decide +kernel) ⟨rfl, rfl⟩ ⟨Nat.le_of_ble_eq_true rfl, Nat.le_of_ble_eq_true rfl⟩ rfl hl.1 (Nat.le_of_ble_eq_true rfl) d_Mo_times_26 ⟨Nat.le_of_ble_eq_true rfl, Nat.le_of_ble_eq_true rfl⟩ (fun r28 mem29 H locs hq hP hS => ?_)
        have hD : va_D (Az sz) (fw n ad mem29) := fw_D hD
        obtain ⟨hre, hq⟩ := hq
        rw [hq] at hP hD
        subst hre
        refine lv_istore_n (lv' := [(3, .int (stepF (A 241) G q0 (iterS (A 241) G q0 (1 <<< (nI i9 &&& 31)) k1z))), (4, .int (nI k1z)), (0, .ref (ad 224)), (1, .int (nI p9)), (2, .int (nI i9))]) Bx.1 Bx.2.1 d_Mo_times_29 rfl hl (by decide) rfl (fun ls hl => ?_)
        refine lv_iinc (lv' := [(4, .int ((nI k1z + (1)))), (3, .int (stepF (A 241) G q0 (iterS (A 241) G q0 (1 <<< (nI i9 &&& 31)) k1z))), (0, .ref (ad 224)), (1, .int (nI p9)), (2, .int (nI i9))]) Bx.1 Bx.2.1 d_Mo_times_30 hl (k := 1) rfl rfl (by decide) rfl (fun ls hl => ?_)
        rw [show (nI k1z + (1) : Int32) = nI (k1z + 1) from nI_1 (k1z)] at hl
        refine lv_goto Bx.1 Bx.2.1 d_Mo_times_33 rfl ?_
        exact ih4 (k1z + 1) _ _ _ (by have := hmeas5; omega) (by omega) hP hD hS (lv_sub hl [0, 1, 2, 3, 4] rfl)
  exact loop1 _ (0) _ _ _ (Nat.lt_succ_self _) (by omega) hP hD hS (lv_sub hl [0, 1, 2, 3, 4] rfl)
set_option maxHeartbeats 4000000 in
set_option maxRecDepth 100000 in
theorem m_Mo_same (l : Launch) {D : va_G} {cy : Nat → ClassId} {sz n : Nat} {ad : Nat → Nat} {mem : Nat → va_E} {J : Nat → Int32} {A : Nat → Nat → Int32} {nm : Nat → Int64} {m0 : Nat → va_E} {x1 x2 ex : Int32} (hn : 242 ≤ n) (hM : MW cy ad J A nm m0 mem) : MI l D cy sz n ad y_Mo_same c_Mo_same 4 (some .boolean) ({ frames := 2, cells := 0, slots := 0, locals := 60 } : Room) mem [.ref (ad 224), .int (x1), .int (x2), .int (ex)] (fun r mem' => r = sameF x1 x2 ex ∧ mem' = mem) := by
  refine Met.ofW (cc := c_Mo_same) (maxL := 4) (ret := (some .boolean)) (by decide) rfl ?_
  intro p e s m args below meth c s₁ B hml hv
  obtain ⟨rfl, E, hP, hD⟩ := hv
  have hx := B.exec
  have hb := B.bytes
  have hr := B.returns
  have hlocks := B.notSynchronized
  have Bx : MB p s m [.ref (ad 224), .int (x1), .int (x2), .int (ex)].toArray c c_Mo_same "AbnfChartModel" D cy := ⟨hx, hb, tb_all (atoms_spec B.pre) E.2.1, findClass_of_methodNamed B.named, E.1⟩
  have hS : va_S (Az sz) s.heap s.heap [] := va_S.rf
  have hl := lv_entry ([.ref (ad 224), .int (x1), .int (x2), .int (ex)]) (n := 4) (Nat.le_of_ble_eq_true rfl)
  rw [lg_entry_eq]
  generalize (lg_sl ([.ref (ad 224), .int (x1), .int (x2), .int (ex)]) ++ List.replicate (4 - (lg_sl ([.ref (ad 224), .int (x1), .int (x2), .int (ex)])).length) Slot.unset).toArray = ls at hl ⊢
  have hl : lv_has ls 4 [(0, .ref (ad 224)), (1, .int (x1)), (2, .int (x2)), (3, .int (ex))] := hl
  refine lv_iload_n Bx.1 Bx.2.1 d_Mo_same_0 rfl (lv_at hl 1 rfl) ?_
  refine lv_iload_n Bx.1 Bx.2.1 d_Mo_same_1 rfl (lv_at hl 2 rfl) ?_
  refine lv_icmp_eq Bx.1 Bx.2.1 d_Mo_same_2 rfl (fun hb1 => ?_) (fun hb1 => ?_)
  · refine lv_iconst (v := 1) Bx.1 Bx.2.1 d_Mo_same_20 (by decide) ?_
    refine lv_goto Bx.1 Bx.2.1 d_Mo_same_21 rfl ?_
    exact W.zret (v := 1) hx hb hr rfl (fun t ht hW => ⟨⟨1, mem, rfl, ⟨by unfold sameF; simp_all, rfl⟩, by show va_P _ _ _ t.heap; rw [ht]; exact hP⟩, hS.F ht⟩) hS.2.2 d_Mo_same_25
  · refine lv_iload_n Bx.1 Bx.2.1 d_Mo_same_5 rfl (lv_at hl 3 rfl) ?_
    refine lv_if_ne Bx.1 Bx.2.1 d_Mo_same_6 rfl (fun hb2 => ?_) (fun hb2 => ?_)
    · refine lv_iconst (v := 0) Bx.1 Bx.2.1 d_Mo_same_24 (by decide) ?_
      exact W.zret (v := 0) hx hb hr rfl (fun t ht hW => ⟨⟨0, mem, rfl, ⟨by unfold sameF; simp_all, rfl⟩, by show va_P _ _ _ t.heap; rw [ht]; exact hP⟩, hS.F ht⟩) hS.2.2 d_Mo_same_25
    · refine lv_iload_n Bx.1 Bx.2.1 d_Mo_same_9 rfl (lv_at hl 1 rfl) ?_
      refine f_callSi (na := 1) (As := [.int (x1)]) (rest := []) Bx hml E.2.1 (m_Mo_small l (x1)) kw_796 kw_797 kw_8 kw_798 (by decide +kernel) ⟨rfl, rfl⟩ ⟨Nat.le_of_ble_eq_true rfl, Nat.le_of_ble_eq_true rfl⟩ rfl hl.1 (Nat.le_of_ble_eq_true rfl) d_Mo_same_10 ⟨Nat.le_of_ble_eq_true rfl, Nat.le_of_ble_eq_true rfl⟩ (fun r4 hs3 => ?_)
      subst hs3
      refine lv_iload_n Bx.1 Bx.2.1 d_Mo_same_13 rfl (lv_at hl 2 rfl) ?_
      refine f_callSi (na := 1) (As := [.int (x2)]) (rest := [.int (smF (x1))]) Bx hml E.2.1 (m_Mo_small l (x2)) kw_796 kw_797 kw_8 kw_798 (by decide +kernel) ⟨rfl, rfl⟩ ⟨Nat.le_of_ble_eq_true rfl, Nat.le_of_ble_eq_true rfl⟩ rfl hl.1 (Nat.le_of_ble_eq_true rfl) d_Mo_same_14 ⟨Nat.le_of_ble_eq_true rfl, Nat.le_of_ble_eq_true rfl⟩ (fun r6 hs5 => ?_)
      subst hs5
      refine lv_icmp_ne Bx.1 Bx.2.1 d_Mo_same_17 rfl (fun hb7 => ?_) (fun hb7 => ?_)
      · refine lv_iconst (v := 0) Bx.1 Bx.2.1 d_Mo_same_24 (by decide) ?_
        exact W.zret (v := 0) hx hb hr rfl (fun t ht hW => ⟨⟨0, mem, rfl, ⟨by unfold sameF; simp_all, rfl⟩, by show va_P _ _ _ t.heap; rw [ht]; exact hP⟩, hS.F ht⟩) hS.2.2 d_Mo_same_25
      · refine lv_iconst (v := 1) Bx.1 Bx.2.1 d_Mo_same_20 (by decide) ?_
        refine lv_goto Bx.1 Bx.2.1 d_Mo_same_21 rfl ?_
        exact W.zret (v := 1) hx hb hr rfl (fun t ht hW => ⟨⟨1, mem, rfl, ⟨by unfold sameF; simp_all, rfl⟩, by show va_P _ _ _ t.heap; rw [ht]; exact hP⟩, hS.F ht⟩) hS.2.2 d_Mo_same_25
