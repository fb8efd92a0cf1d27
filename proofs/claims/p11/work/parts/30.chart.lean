theorem d_Ct_goOn_0 : decode c_Ct_goOn 0 = .ok (.aload_n 2, 1) := by decide +kernel
theorem d_Ct_goOn_1 : decode c_Ct_goOn 1 = .ok (.ifnonnull 5, 3) := by decide +kernel
theorem d_Ct_goOn_4 : decode c_Ct_goOn 4 = .ok (.iconst 0, 1) := by decide +kernel
theorem d_Ct_goOn_5 : decode c_Ct_goOn 5 = .ok (.ireturn, 1) := by decide +kernel
theorem d_Ct_goOn_6 : decode c_Ct_goOn 6 = .ok (.iconst 0, 1) := by decide +kernel
theorem d_Ct_goOn_7 : decode c_Ct_goOn 7 = .ok (.istore 4, 2) := by decide +kernel
theorem d_Ct_goOn_9 : decode c_Ct_goOn 9 = .ok (.iload_n 3, 1) := by decide +kernel
theorem d_Ct_goOn_10 : decode c_Ct_goOn 10 = .ok (.istore 5, 2) := by decide +kernel
theorem d_Ct_goOn_12 : decode c_Ct_goOn 12 = .ok (.iload 5, 2) := by decide +kernel
theorem d_Ct_goOn_14 : decode c_Ct_goOn 14 = .ok (.aload_n 0, 1) := by decide +kernel
theorem d_Ct_goOn_15 : decode c_Ct_goOn 15 = .ok (.getfield 9, 3) := by decide +kernel
theorem d_Ct_goOn_18 : decode c_Ct_goOn 18 = .ok (.getfield 36, 3) := by decide +kernel
theorem d_Ct_goOn_21 : decode c_Ct_goOn 21 = .ok (.if_icmp .gt 38, 3) := by decide +kernel
theorem d_Ct_goOn_24 : decode c_Ct_goOn 24 = .ok (.iload_n 1, 1) := by decide +kernel
theorem d_Ct_goOn_25 : decode c_Ct_goOn 25 = .ok (.iload 5, 2) := by decide +kernel
theorem d_Ct_goOn_27 : decode c_Ct_goOn 27 = .ok (.ishr, 1) := by decide +kernel
theorem d_Ct_goOn_28 : decode c_Ct_goOn 28 = .ok (.ifCond .eq 31, 3) := by decide +kernel
theorem d_Ct_goOn_31 : decode c_Ct_goOn 31 = .ok (.iload_n 1, 1) := by decide +kernel
theorem d_Ct_goOn_32 : decode c_Ct_goOn 32 = .ok (.iload 5, 2) := by decide +kernel
theorem d_Ct_goOn_34 : decode c_Ct_goOn 34 = .ok (.ishr, 1) := by decide +kernel
theorem d_Ct_goOn_35 : decode c_Ct_goOn 35 = .ok (.iconst 1, 1) := by decide +kernel
theorem d_Ct_goOn_36 : decode c_Ct_goOn 36 = .ok (.iand, 1) := by decide +kernel
theorem d_Ct_goOn_37 : decode c_Ct_goOn 37 = .ok (.iconst 1, 1) := by decide +kernel
theorem d_Ct_goOn_38 : decode c_Ct_goOn 38 = .ok (.if_icmp .ne 15, 3) := by decide +kernel
theorem d_Ct_goOn_41 : decode c_Ct_goOn 41 = .ok (.iload 4, 2) := by decide +kernel
theorem d_Ct_goOn_43 : decode c_Ct_goOn 43 = .ok (.aload_n 2, 1) := by decide +kernel
theorem d_Ct_goOn_44 : decode c_Ct_goOn 44 = .ok (.getfield 49, 3) := by decide +kernel
theorem d_Ct_goOn_47 : decode c_Ct_goOn 47 = .ok (.iload 5, 2) := by decide +kernel
theorem d_Ct_goOn_49 : decode c_Ct_goOn 49 = .ok (.iaload, 1) := by decide +kernel
theorem d_Ct_goOn_50 : decode c_Ct_goOn 50 = .ok (.ior, 1) := by decide +kernel
theorem d_Ct_goOn_51 : decode c_Ct_goOn 51 = .ok (.istore 4, 2) := by decide +kernel
theorem d_Ct_goOn_53 : decode c_Ct_goOn 53 = .ok (.iinc 5 1, 3) := by decide +kernel
theorem d_Ct_goOn_56 : decode c_Ct_goOn 56 = .ok (.goto (-44), 3) := by decide +kernel
theorem d_Ct_goOn_59 : decode c_Ct_goOn 59 = .ok (.iload 4, 2) := by decide +kernel
theorem d_Ct_goOn_61 : decode c_Ct_goOn 61 = .ok (.ireturn, 1) := by decide +kernel
theorem d_Ct_endsOfAny_0 : decode c_Ct_endsOfAny 0 = .ok (.iconst 0, 1) := by decide +kernel
theorem d_Ct_endsOfAny_1 : decode c_Ct_endsOfAny 1 = .ok (.istore_n 3, 1) := by decide +kernel
theorem d_Ct_endsOfAny_2 : decode c_Ct_endsOfAny 2 = .ok (.aload_n 1, 1) := by decide +kernel
theorem d_Ct_endsOfAny_3 : decode c_Ct_endsOfAny 3 = .ok (.astore 4, 2) := by decide +kernel
theorem d_Ct_endsOfAny_5 : decode c_Ct_endsOfAny 5 = .ok (.aload 4, 2) := by decide +kernel
theorem d_Ct_endsOfAny_7 : decode c_Ct_endsOfAny 7 = .ok (.ifnull 23, 3) := by decide +kernel
theorem d_Ct_endsOfAny_10 : decode c_Ct_endsOfAny 10 = .ok (.iload_n 3, 1) := by decide +kernel
theorem d_Ct_endsOfAny_11 : decode c_Ct_endsOfAny 11 = .ok (.aload 4, 2) := by decide +kernel
theorem d_Ct_endsOfAny_13 : decode c_Ct_endsOfAny 13 = .ok (.getfield 49, 3) := by decide +kernel
theorem d_Ct_endsOfAny_16 : decode c_Ct_endsOfAny 16 = .ok (.iload_n 2, 1) := by decide +kernel
theorem d_Ct_endsOfAny_17 : decode c_Ct_endsOfAny 17 = .ok (.iaload, 1) := by decide +kernel
theorem d_Ct_endsOfAny_18 : decode c_Ct_endsOfAny 18 = .ok (.ior, 1) := by decide +kernel
theorem d_Ct_endsOfAny_19 : decode c_Ct_endsOfAny 19 = .ok (.istore_n 3, 1) := by decide +kernel
theorem d_Ct_endsOfAny_20 : decode c_Ct_endsOfAny 20 = .ok (.aload 4, 2) := by decide +kernel
theorem d_Ct_endsOfAny_22 : decode c_Ct_endsOfAny 22 = .ok (.getfield 115, 3) := by decide +kernel
theorem d_Ct_endsOfAny_25 : decode c_Ct_endsOfAny 25 = .ok (.astore 4, 2) := by decide +kernel
theorem d_Ct_endsOfAny_27 : decode c_Ct_endsOfAny 27 = .ok (.goto (-22), 3) := by decide +kernel
theorem d_Ct_endsOfAny_30 : decode c_Ct_endsOfAny 30 = .ok (.iload_n 3, 1) := by decide +kernel
theorem d_Ct_endsOfAny_31 : decode c_Ct_endsOfAny 31 = .ok (.ireturn, 1) := by decide +kernel
theorem d_Ct_endsOfRow_0 : decode c_Ct_endsOfRow 0 = .ok (.iconst 1, 1) := by decide +kernel
theorem d_Ct_endsOfRow_1 : decode c_Ct_endsOfRow 1 = .ok (.iload_n 2, 1) := by decide +kernel
theorem d_Ct_endsOfRow_2 : decode c_Ct_endsOfRow 2 = .ok (.ishl, 1) := by decide +kernel
theorem d_Ct_endsOfRow_3 : decode c_Ct_endsOfRow 3 = .ok (.istore_n 3, 1) := by decide +kernel
theorem d_Ct_endsOfRow_4 : decode c_Ct_endsOfRow 4 = .ok (.aload_n 1, 1) := by decide +kernel
theorem d_Ct_endsOfRow_5 : decode c_Ct_endsOfRow 5 = .ok (.astore 4, 2) := by decide +kernel
theorem d_Ct_endsOfRow_7 : decode c_Ct_endsOfRow 7 = .ok (.aload 4, 2) := by decide +kernel
theorem d_Ct_endsOfRow_9 : decode c_Ct_endsOfRow 9 = .ok (.ifnull 22, 3) := by decide +kernel
theorem d_Ct_endsOfRow_12 : decode c_Ct_endsOfRow 12 = .ok (.aload_n 0, 1) := by decide +kernel
theorem d_Ct_endsOfRow_13 : decode c_Ct_endsOfRow 13 = .ok (.iload_n 3, 1) := by decide +kernel
theorem d_Ct_endsOfRow_14 : decode c_Ct_endsOfRow 14 = .ok (.aload 4, 2) := by decide +kernel
theorem d_Ct_endsOfRow_16 : decode c_Ct_endsOfRow 16 = .ok (.iload_n 2, 1) := by decide +kernel
theorem d_Ct_endsOfRow_17 : decode c_Ct_endsOfRow 17 = .ok (.invokevirtual 102, 3) := by decide +kernel
theorem d_Ct_endsOfRow_20 : decode c_Ct_endsOfRow 20 = .ok (.istore_n 3, 1) := by decide +kernel
theorem d_Ct_endsOfRow_21 : decode c_Ct_endsOfRow 21 = .ok (.aload 4, 2) := by decide +kernel
theorem d_Ct_endsOfRow_23 : decode c_Ct_endsOfRow 23 = .ok (.getfield 115, 3) := by decide +kernel
theorem d_Ct_endsOfRow_26 : decode c_Ct_endsOfRow 26 = .ok (.astore 4, 2) := by decide +kernel
theorem d_Ct_endsOfRow_28 : decode c_Ct_endsOfRow 28 = .ok (.goto (-21), 3) := by decide +kernel
theorem d_Ct_endsOfRow_31 : decode c_Ct_endsOfRow 31 = .ok (.iload_n 3, 1) := by decide +kernel
theorem d_Ct_endsOfRow_32 : decode c_Ct_endsOfRow 32 = .ok (.ireturn, 1) := by decide +kernel
theorem d_Ct_endsOfRepetition_0 : decode c_Ct_endsOfRepetition 0 = .ok (.iconst 1, 1) := by decide +kernel
theorem d_Ct_endsOfRepetition_1 : decode c_Ct_endsOfRepetition 1 = .ok (.iload_n 2, 1) := by decide +kernel
theorem d_Ct_endsOfRepetition_2 : decode c_Ct_endsOfRepetition 2 = .ok (.ishl, 1) := by decide +kernel
theorem d_Ct_endsOfRepetition_3 : decode c_Ct_endsOfRepetition 3 = .ok (.istore_n 3, 1) := by decide +kernel
theorem d_Ct_endsOfRepetition_4 : decode c_Ct_endsOfRepetition 4 = .ok (.iconst 0, 1) := by decide +kernel
theorem d_Ct_endsOfRepetition_5 : decode c_Ct_endsOfRepetition 5 = .ok (.istore 4, 2) := by decide +kernel
theorem d_Ct_endsOfRepetition_7 : decode c_Ct_endsOfRepetition 7 = .ok (.iload 4, 2) := by decide +kernel
theorem d_Ct_endsOfRepetition_9 : decode c_Ct_endsOfRepetition 9 = .ok (.aload_n 1, 1) := by decide +kernel
theorem d_Ct_endsOfRepetition_10 : decode c_Ct_endsOfRepetition 10 = .ok (.getfield 76, 3) := by decide +kernel
theorem d_Ct_endsOfRepetition_13 : decode c_Ct_endsOfRepetition 13 = .ok (.if_icmp .ge 20, 3) := by decide +kernel
theorem d_Ct_endsOfRepetition_16 : decode c_Ct_endsOfRepetition 16 = .ok (.aload_n 0, 1) := by decide +kernel
theorem d_Ct_endsOfRepetition_17 : decode c_Ct_endsOfRepetition 17 = .ok (.iload_n 3, 1) := by decide +kernel
theorem d_Ct_endsOfRepetition_18 : decode c_Ct_endsOfRepetition 18 = .ok (.aload_n 1, 1) := by decide +kernel
theorem d_Ct_endsOfRepetition_19 : decode c_Ct_endsOfRepetition 19 = .ok (.getfield 89, 3) := by decide +kernel
theorem d_Ct_endsOfRepetition_22 : decode c_Ct_endsOfRepetition 22 = .ok (.iload_n 2, 1) := by decide +kernel
theorem d_Ct_endsOfRepetition_23 : decode c_Ct_endsOfRepetition 23 = .ok (.invokevirtual 102, 3) := by decide +kernel
theorem d_Ct_endsOfRepetition_26 : decode c_Ct_endsOfRepetition 26 = .ok (.istore_n 3, 1) := by decide +kernel
theorem d_Ct_endsOfRepetition_27 : decode c_Ct_endsOfRepetition 27 = .ok (.iinc 4 1, 3) := by decide +kernel
theorem d_Ct_endsOfRepetition_30 : decode c_Ct_endsOfRepetition 30 = .ok (.goto (-23), 3) := by decide +kernel
theorem d_Ct_endsOfRepetition_33 : decode c_Ct_endsOfRepetition 33 = .ok (.aload_n 1, 1) := by decide +kernel
theorem d_Ct_endsOfRepetition_34 : decode c_Ct_endsOfRepetition 34 = .ok (.getfield 73, 3) := by decide +kernel
theorem d_Ct_endsOfRepetition_37 : decode c_Ct_endsOfRepetition 37 = .ok (.iconst (-1), 1) := by decide +kernel
theorem d_Ct_endsOfRepetition_38 : decode c_Ct_endsOfRepetition 38 = .ok (.if_icmp .ne 13, 3) := by decide +kernel
theorem d_Ct_endsOfRepetition_41 : decode c_Ct_endsOfRepetition 41 = .ok (.aload_n 0, 1) := by decide +kernel
theorem d_Ct_endsOfRepetition_42 : decode c_Ct_endsOfRepetition 42 = .ok (.getfield 9, 3) := by decide +kernel
theorem d_Ct_endsOfRepetition_45 : decode c_Ct_endsOfRepetition 45 = .ok (.getfield 36, 3) := by decide +kernel
theorem d_Ct_endsOfRepetition_48 : decode c_Ct_endsOfRepetition 48 = .ok (.goto 12, 3) := by decide +kernel
theorem d_Ct_endsOfRepetition_51 : decode c_Ct_endsOfRepetition 51 = .ok (.aload_n 1, 1) := by decide +kernel
theorem d_Ct_endsOfRepetition_52 : decode c_Ct_endsOfRepetition 52 = .ok (.getfield 73, 3) := by decide +kernel
theorem d_Ct_endsOfRepetition_55 : decode c_Ct_endsOfRepetition 55 = .ok (.aload_n 1, 1) := by decide +kernel
theorem d_Ct_endsOfRepetition_56 : decode c_Ct_endsOfRepetition 56 = .ok (.getfield 76, 3) := by decide +kernel
theorem d_Ct_endsOfRepetition_59 : decode c_Ct_endsOfRepetition 59 = .ok (.isub, 1) := by decide +kernel
theorem d_Ct_endsOfRepetition_60 : decode c_Ct_endsOfRepetition 60 = .ok (.istore 4, 2) := by decide +kernel
theorem d_Ct_endsOfRepetition_62 : decode c_Ct_endsOfRepetition 62 = .ok (.iconst 1, 1) := by decide +kernel
theorem d_Ct_endsOfRepetition_63 : decode c_Ct_endsOfRepetition 63 = .ok (.istore 5, 2) := by decide +kernel
theorem d_Ct_endsOfRepetition_65 : decode c_Ct_endsOfRepetition 65 = .ok (.iconst 0, 1) := by decide +kernel
theorem d_Ct_endsOfRepetition_66 : decode c_Ct_endsOfRepetition 66 = .ok (.istore 6, 2) := by decide +kernel
theorem d_Ct_endsOfRepetition_68 : decode c_Ct_endsOfRepetition 68 = .ok (.iload 6, 2) := by decide +kernel
theorem d_Ct_endsOfRepetition_70 : decode c_Ct_endsOfRepetition 70 = .ok (.iload 4, 2) := by decide +kernel
theorem d_Ct_endsOfRepetition_72 : decode c_Ct_endsOfRepetition 72 = .ok (.if_icmp .ge 43, 3) := by decide +kernel
theorem d_Ct_endsOfRepetition_75 : decode c_Ct_endsOfRepetition 75 = .ok (.iload 5, 2) := by decide +kernel
theorem d_Ct_endsOfRepetition_77 : decode c_Ct_endsOfRepetition 77 = .ok (.ifCond .eq 38, 3) := by decide +kernel
theorem d_Ct_endsOfRepetition_80 : decode c_Ct_endsOfRepetition 80 = .ok (.iload_n 3, 1) := by decide +kernel
theorem d_Ct_endsOfRepetition_81 : decode c_Ct_endsOfRepetition 81 = .ok (.istore 7, 2) := by decide +kernel
theorem d_Ct_endsOfRepetition_83 : decode c_Ct_endsOfRepetition 83 = .ok (.iload_n 3, 1) := by decide +kernel
theorem d_Ct_endsOfRepetition_84 : decode c_Ct_endsOfRepetition 84 = .ok (.aload_n 0, 1) := by decide +kernel
theorem d_Ct_endsOfRepetition_85 : decode c_Ct_endsOfRepetition 85 = .ok (.iload_n 3, 1) := by decide +kernel
theorem d_Ct_endsOfRepetition_86 : decode c_Ct_endsOfRepetition 86 = .ok (.aload_n 1, 1) := by decide +kernel
theorem d_Ct_endsOfRepetition_87 : decode c_Ct_endsOfRepetition 87 = .ok (.getfield 89, 3) := by decide +kernel
theorem d_Ct_endsOfRepetition_90 : decode c_Ct_endsOfRepetition 90 = .ok (.iload_n 2, 1) := by decide +kernel
theorem d_Ct_endsOfRepetition_91 : decode c_Ct_endsOfRepetition 91 = .ok (.invokevirtual 102, 3) := by decide +kernel
theorem d_Ct_endsOfRepetition_94 : decode c_Ct_endsOfRepetition 94 = .ok (.ior, 1) := by decide +kernel
theorem d_Ct_endsOfRepetition_95 : decode c_Ct_endsOfRepetition 95 = .ok (.istore_n 3, 1) := by decide +kernel
theorem d_Ct_endsOfRepetition_96 : decode c_Ct_endsOfRepetition 96 = .ok (.iload_n 3, 1) := by decide +kernel
theorem d_Ct_endsOfRepetition_97 : decode c_Ct_endsOfRepetition 97 = .ok (.iload 7, 2) := by decide +kernel
theorem d_Ct_endsOfRepetition_99 : decode c_Ct_endsOfRepetition 99 = .ok (.if_icmp .eq 7, 3) := by decide +kernel
theorem d_Ct_endsOfRepetition_102 : decode c_Ct_endsOfRepetition 102 = .ok (.iconst 1, 1) := by decide +kernel
theorem d_Ct_endsOfRepetition_103 : decode c_Ct_endsOfRepetition 103 = .ok (.goto 4, 3) := by decide +kernel
theorem d_Ct_endsOfRepetition_106 : decode c_Ct_endsOfRepetition 106 = .ok (.iconst 0, 1) := by decide +kernel
theorem d_Ct_endsOfRepetition_107 : decode c_Ct_endsOfRepetition 107 = .ok (.istore 5, 2) := by decide +kernel
theorem d_Ct_endsOfRepetition_109 : decode c_Ct_endsOfRepetition 109 = .ok (.iinc 6 1, 3) := by decide +kernel
theorem d_Ct_endsOfRepetition_112 : decode c_Ct_endsOfRepetition 112 = .ok (.goto (-44), 3) := by decide +kernel
theorem d_Ct_endsOfRepetition_115 : decode c_Ct_endsOfRepetition 115 = .ok (.iload_n 3, 1) := by decide +kernel
theorem d_Ct_endsOfRepetition_116 : decode c_Ct_endsOfRepetition 116 = .ok (.ireturn, 1) := by decide +kernel
theorem d_Ct_endsOfRule_0 : decode c_Ct_endsOfRule 0 = .ok (.aload_n 1, 1) := by decide +kernel
theorem d_Ct_endsOfRule_1 : decode c_Ct_endsOfRule 1 = .ok (.ifnonnull 7, 3) := by decide +kernel
theorem d_Ct_endsOfRule_4 : decode c_Ct_endsOfRule 4 = .ok (.iconst 0, 1) := by decide +kernel
theorem d_Ct_endsOfRule_5 : decode c_Ct_endsOfRule 5 = .ok (.goto 12, 3) := by decide +kernel
theorem d_Ct_endsOfRule_8 : decode c_Ct_endsOfRule 8 = .ok (.aload_n 0, 1) := by decide +kernel
theorem d_Ct_endsOfRule_9 : decode c_Ct_endsOfRule 9 = .ok (.aload_n 1, 1) := by decide +kernel
theorem d_Ct_endsOfRule_10 : decode c_Ct_endsOfRule 10 = .ok (.getfield 110, 3) := by decide +kernel
theorem d_Ct_endsOfRule_13 : decode c_Ct_endsOfRule 13 = .ok (.iload_n 2, 1) := by decide +kernel
theorem d_Ct_endsOfRule_14 : decode c_Ct_endsOfRule 14 = .ok (.invokevirtual 93, 3) := by decide +kernel
theorem d_Ct_endsOfRule_17 : decode c_Ct_endsOfRule 17 = .ok (.ireturn, 1) := by decide +kernel
theorem d_Ct_endsOfParts_0 : decode c_Ct_endsOfParts 0 = .ok (.aload_n 1, 1) := by decide +kernel
theorem d_Ct_endsOfParts_1 : decode c_Ct_endsOfParts 1 = .ok (.getfield 66, 3) := by decide +kernel
theorem d_Ct_endsOfParts_4 : decode c_Ct_endsOfParts 4 = .ok (.tableswitch 90 0 4 #[36, 46, 56, 63, 80], 36) := by decide +kernel
theorem d_Ct_endsOfParts_40 : decode c_Ct_endsOfParts 40 = .ok (.aload_n 0, 1) := by decide +kernel
theorem d_Ct_endsOfParts_41 : decode c_Ct_endsOfParts 41 = .ok (.aload_n 1, 1) := by decide +kernel
theorem d_Ct_endsOfParts_42 : decode c_Ct_endsOfParts 42 = .ok (.getfield 89, 3) := by decide +kernel
theorem d_Ct_endsOfParts_45 : decode c_Ct_endsOfParts 45 = .ok (.iload_n 2, 1) := by decide +kernel
theorem d_Ct_endsOfParts_46 : decode c_Ct_endsOfParts 46 = .ok (.invokevirtual 93, 3) := by decide +kernel
theorem d_Ct_endsOfParts_49 : decode c_Ct_endsOfParts 49 = .ok (.ireturn, 1) := by decide +kernel
theorem d_Ct_endsOfParts_50 : decode c_Ct_endsOfParts 50 = .ok (.aload_n 0, 1) := by decide +kernel
theorem d_Ct_endsOfParts_51 : decode c_Ct_endsOfParts 51 = .ok (.aload_n 1, 1) := by decide +kernel
theorem d_Ct_endsOfParts_52 : decode c_Ct_endsOfParts 52 = .ok (.getfield 89, 3) := by decide +kernel
theorem d_Ct_endsOfParts_55 : decode c_Ct_endsOfParts 55 = .ok (.iload_n 2, 1) := by decide +kernel
theorem d_Ct_endsOfParts_56 : decode c_Ct_endsOfParts 56 = .ok (.invokevirtual 96, 3) := by decide +kernel
theorem d_Ct_endsOfParts_59 : decode c_Ct_endsOfParts 59 = .ok (.ireturn, 1) := by decide +kernel
theorem d_Ct_endsOfParts_60 : decode c_Ct_endsOfParts 60 = .ok (.aload_n 0, 1) := by decide +kernel
theorem d_Ct_endsOfParts_61 : decode c_Ct_endsOfParts 61 = .ok (.aload_n 1, 1) := by decide +kernel
theorem d_Ct_endsOfParts_62 : decode c_Ct_endsOfParts 62 = .ok (.iload_n 2, 1) := by decide +kernel
theorem d_Ct_endsOfParts_63 : decode c_Ct_endsOfParts 63 = .ok (.invokevirtual 99, 3) := by decide +kernel
theorem d_Ct_endsOfParts_66 : decode c_Ct_endsOfParts 66 = .ok (.ireturn, 1) := by decide +kernel
theorem d_Ct_endsOfParts_67 : decode c_Ct_endsOfParts 67 = .ok (.iconst 1, 1) := by decide +kernel
theorem d_Ct_endsOfParts_68 : decode c_Ct_endsOfParts 68 = .ok (.iload_n 2, 1) := by decide +kernel
theorem d_Ct_endsOfParts_69 : decode c_Ct_endsOfParts 69 = .ok (.ishl, 1) := by decide +kernel
theorem d_Ct_endsOfParts_70 : decode c_Ct_endsOfParts 70 = .ok (.aload_n 0, 1) := by decide +kernel
theorem d_Ct_endsOfParts_71 : decode c_Ct_endsOfParts 71 = .ok (.iconst 1, 1) := by decide +kernel
theorem d_Ct_endsOfParts_72 : decode c_Ct_endsOfParts 72 = .ok (.iload_n 2, 1) := by decide +kernel
theorem d_Ct_endsOfParts_73 : decode c_Ct_endsOfParts 73 = .ok (.ishl, 1) := by decide +kernel
theorem d_Ct_endsOfParts_74 : decode c_Ct_endsOfParts 74 = .ok (.aload_n 1, 1) := by decide +kernel
theorem d_Ct_endsOfParts_75 : decode c_Ct_endsOfParts 75 = .ok (.getfield 89, 3) := by decide +kernel
theorem d_Ct_endsOfParts_78 : decode c_Ct_endsOfParts 78 = .ok (.iload_n 2, 1) := by decide +kernel
theorem d_Ct_endsOfParts_79 : decode c_Ct_endsOfParts 79 = .ok (.invokevirtual 102, 3) := by decide +kernel
theorem d_Ct_endsOfParts_82 : decode c_Ct_endsOfParts 82 = .ok (.ior, 1) := by decide +kernel
theorem d_Ct_endsOfParts_83 : decode c_Ct_endsOfParts 83 = .ok (.ireturn, 1) := by decide +kernel
theorem d_Ct_endsOfParts_84 : decode c_Ct_endsOfParts 84 = .ok (.aload_n 0, 1) := by decide +kernel
theorem d_Ct_endsOfParts_85 : decode c_Ct_endsOfParts 85 = .ok (.aload_n 1, 1) := by decide +kernel
theorem d_Ct_endsOfParts_86 : decode c_Ct_endsOfParts 86 = .ok (.getfield 106, 3) := by decide +kernel
theorem d_Ct_endsOfParts_89 : decode c_Ct_endsOfParts 89 = .ok (.iload_n 2, 1) := by decide +kernel
theorem d_Ct_endsOfParts_90 : decode c_Ct_endsOfParts 90 = .ok (.invokevirtual 32, 3) := by decide +kernel
theorem d_Ct_endsOfParts_93 : decode c_Ct_endsOfParts 93 = .ok (.ireturn, 1) := by decide +kernel
theorem d_Ct_endsOfParts_94 : decode c_Ct_endsOfParts 94 = .ok (.aload_n 1, 1) := by decide +kernel
theorem d_Ct_endsOfParts_95 : decode c_Ct_endsOfParts 95 = .ok (.getfield 49, 3) := by decide +kernel
theorem d_Ct_endsOfParts_98 : decode c_Ct_endsOfParts 98 = .ok (.iload_n 2, 1) := by decide +kernel
theorem d_Ct_endsOfParts_99 : decode c_Ct_endsOfParts 99 = .ok (.iaload, 1) := by decide +kernel
theorem d_Ct_endsOfParts_100 : decode c_Ct_endsOfParts 100 = .ok (.ireturn, 1) := by decide +kernel
theorem d_Ct_isStringAt_0 : decode c_Ct_isStringAt 0 = .ok (.aload_n 1, 1) := by decide +kernel
theorem d_Ct_isStringAt_1 : decode c_Ct_isStringAt 1 = .ok (.getfield 76, 3) := by decide +kernel
theorem d_Ct_isStringAt_4 : decode c_Ct_isStringAt 4 = .ok (.istore_n 3, 1) := by decide +kernel
theorem d_Ct_isStringAt_5 : decode c_Ct_isStringAt 5 = .ok (.iload_n 3, 1) := by decide +kernel
theorem d_Ct_isStringAt_6 : decode c_Ct_isStringAt 6 = .ok (.aload_n 1, 1) := by decide +kernel
theorem d_Ct_isStringAt_7 : decode c_Ct_isStringAt 7 = .ok (.getfield 73, 3) := by decide +kernel
theorem d_Ct_isStringAt_10 : decode c_Ct_isStringAt 10 = .ok (.if_icmp .ge 70, 3) := by decide +kernel
theorem d_Ct_isStringAt_13 : decode c_Ct_isStringAt 13 = .ok (.aload_n 0, 1) := by decide +kernel
theorem d_Ct_isStringAt_14 : decode c_Ct_isStringAt 14 = .ok (.getfield 15, 3) := by decide +kernel
theorem d_Ct_isStringAt_17 : decode c_Ct_isStringAt 17 = .ok (.getfield 83, 3) := by decide +kernel
theorem d_Ct_isStringAt_20 : decode c_Ct_isStringAt 20 = .ok (.iload_n 3, 1) := by decide +kernel
theorem d_Ct_isStringAt_21 : decode c_Ct_isStringAt 21 = .ok (.invokevirtual 79, 3) := by decide +kernel
theorem d_Ct_isStringAt_24 : decode c_Ct_isStringAt 24 = .ok (.istore 4, 2) := by decide +kernel
theorem d_Ct_isStringAt_26 : decode c_Ct_isStringAt 26 = .ok (.aload_n 0, 1) := by decide +kernel
theorem d_Ct_isStringAt_27 : decode c_Ct_isStringAt 27 = .ok (.getfield 9, 3) := by decide +kernel
theorem d_Ct_isStringAt_30 : decode c_Ct_isStringAt 30 = .ok (.iload_n 2, 1) := by decide +kernel
theorem d_Ct_isStringAt_31 : decode c_Ct_isStringAt 31 = .ok (.iload_n 3, 1) := by decide +kernel
theorem d_Ct_isStringAt_32 : decode c_Ct_isStringAt 32 = .ok (.iadd, 1) := by decide +kernel
theorem d_Ct_isStringAt_33 : decode c_Ct_isStringAt 33 = .ok (.aload_n 1, 1) := by decide +kernel
theorem d_Ct_isStringAt_34 : decode c_Ct_isStringAt 34 = .ok (.getfield 76, 3) := by decide +kernel
theorem d_Ct_isStringAt_37 : decode c_Ct_isStringAt 37 = .ok (.isub, 1) := by decide +kernel
theorem d_Ct_isStringAt_38 : decode c_Ct_isStringAt 38 = .ok (.invokevirtual 79, 3) := by decide +kernel
theorem d_Ct_isStringAt_41 : decode c_Ct_isStringAt 41 = .ok (.istore 5, 2) := by decide +kernel
theorem d_Ct_isStringAt_43 : decode c_Ct_isStringAt 43 = .ok (.aload_n 1, 1) := by decide +kernel
theorem d_Ct_isStringAt_44 : decode c_Ct_isStringAt 44 = .ok (.getfield 66, 3) := by decide +kernel
theorem d_Ct_isStringAt_47 : decode c_Ct_isStringAt 47 = .ok (.iconst 5, 1) := by decide +kernel
theorem d_Ct_isStringAt_48 : decode c_Ct_isStringAt 48 = .ok (.if_icmp .ne 17, 3) := by decide +kernel
theorem d_Ct_isStringAt_51 : decode c_Ct_isStringAt 51 = .ok (.iload 4, 2) := by decide +kernel
theorem d_Ct_isStringAt_53 : decode c_Ct_isStringAt 53 = .ok (.invokestatic 86, 3) := by decide +kernel
theorem d_Ct_isStringAt_56 : decode c_Ct_isStringAt 56 = .ok (.istore 4, 2) := by decide +kernel
theorem d_Ct_isStringAt_58 : decode c_Ct_isStringAt 58 = .ok (.iload 5, 2) := by decide +kernel
theorem d_Ct_isStringAt_60 : decode c_Ct_isStringAt 60 = .ok (.invokestatic 86, 3) := by decide +kernel
theorem d_Ct_isStringAt_63 : decode c_Ct_isStringAt 63 = .ok (.istore 5, 2) := by decide +kernel
theorem d_Ct_isStringAt_65 : decode c_Ct_isStringAt 65 = .ok (.iload 4, 2) := by decide +kernel
theorem d_Ct_isStringAt_67 : decode c_Ct_isStringAt 67 = .ok (.iload 5, 2) := by decide +kernel
theorem d_Ct_isStringAt_69 : decode c_Ct_isStringAt 69 = .ok (.if_icmp .eq 5, 3) := by decide +kernel
theorem d_Ct_isStringAt_72 : decode c_Ct_isStringAt 72 = .ok (.iconst 0, 1) := by decide +kernel
theorem d_Ct_isStringAt_73 : decode c_Ct_isStringAt 73 = .ok (.ireturn, 1) := by decide +kernel
theorem d_Ct_isStringAt_74 : decode c_Ct_isStringAt 74 = .ok (.iinc 3 1, 3) := by decide +kernel
theorem d_Ct_isStringAt_77 : decode c_Ct_isStringAt 77 = .ok (.goto (-72), 3) := by decide +kernel
theorem d_Ct_isStringAt_80 : decode c_Ct_isStringAt 80 = .ok (.iconst 1, 1) := by decide +kernel
theorem d_Ct_isStringAt_81 : decode c_Ct_isStringAt 81 = .ok (.ireturn, 1) := by decide +kernel
theorem d_Ct_endsOfCharacters_0 : decode c_Ct_endsOfCharacters 0 = .ok (.aload_n 1, 1) := by decide +kernel
theorem d_Ct_endsOfCharacters_1 : decode c_Ct_endsOfCharacters 1 = .ok (.getfield 66, 3) := by decide +kernel
theorem d_Ct_endsOfCharacters_4 : decode c_Ct_endsOfCharacters 4 = .ok (.tableswitch 95 5 7 #[28, 28, 55], 28) := by decide +kernel
theorem d_Ct_endsOfCharacters_32 : decode c_Ct_endsOfCharacters 32 = .ok (.aload_n 0, 1) := by decide +kernel
theorem d_Ct_endsOfCharacters_33 : decode c_Ct_endsOfCharacters 33 = .ok (.aload_n 1, 1) := by decide +kernel
theorem d_Ct_endsOfCharacters_34 : decode c_Ct_endsOfCharacters 34 = .ok (.iload_n 2, 1) := by decide +kernel
theorem d_Ct_endsOfCharacters_35 : decode c_Ct_endsOfCharacters 35 = .ok (.invokevirtual 69, 3) := by decide +kernel
theorem d_Ct_endsOfCharacters_38 : decode c_Ct_endsOfCharacters 38 = .ok (.ifCond .eq 19, 3) := by decide +kernel
theorem d_Ct_endsOfCharacters_41 : decode c_Ct_endsOfCharacters 41 = .ok (.iconst 1, 1) := by decide +kernel
theorem d_Ct_endsOfCharacters_42 : decode c_Ct_endsOfCharacters 42 = .ok (.iload_n 2, 1) := by decide +kernel
theorem d_Ct_endsOfCharacters_43 : decode c_Ct_endsOfCharacters 43 = .ok (.aload_n 1, 1) := by decide +kernel
theorem d_Ct_endsOfCharacters_44 : decode c_Ct_endsOfCharacters 44 = .ok (.getfield 73, 3) := by decide +kernel
theorem d_Ct_endsOfCharacters_47 : decode c_Ct_endsOfCharacters 47 = .ok (.iadd, 1) := by decide +kernel
theorem d_Ct_endsOfCharacters_48 : decode c_Ct_endsOfCharacters 48 = .ok (.aload_n 1, 1) := by decide +kernel
theorem d_Ct_endsOfCharacters_49 : decode c_Ct_endsOfCharacters 49 = .ok (.getfield 76, 3) := by decide +kernel
theorem d_Ct_endsOfCharacters_52 : decode c_Ct_endsOfCharacters 52 = .ok (.isub, 1) := by decide +kernel
theorem d_Ct_endsOfCharacters_53 : decode c_Ct_endsOfCharacters 53 = .ok (.ishl, 1) := by decide +kernel
theorem d_Ct_endsOfCharacters_54 : decode c_Ct_endsOfCharacters 54 = .ok (.goto 4, 3) := by decide +kernel
theorem d_Ct_endsOfCharacters_57 : decode c_Ct_endsOfCharacters 57 = .ok (.iconst 0, 1) := by decide +kernel
theorem d_Ct_endsOfCharacters_58 : decode c_Ct_endsOfCharacters 58 = .ok (.ireturn, 1) := by decide +kernel
theorem d_Ct_endsOfCharacters_59 : decode c_Ct_endsOfCharacters 59 = .ok (.aload_n 0, 1) := by decide +kernel
theorem d_Ct_endsOfCharacters_60 : decode c_Ct_endsOfCharacters 60 = .ok (.getfield 9, 3) := by decide +kernel
theorem d_Ct_endsOfCharacters_63 : decode c_Ct_endsOfCharacters 63 = .ok (.iload_n 2, 1) := by decide +kernel
theorem d_Ct_endsOfCharacters_64 : decode c_Ct_endsOfCharacters 64 = .ok (.invokevirtual 79, 3) := by decide +kernel
theorem d_Ct_endsOfCharacters_67 : decode c_Ct_endsOfCharacters 67 = .ok (.istore_n 3, 1) := by decide +kernel
theorem d_Ct_endsOfCharacters_68 : decode c_Ct_endsOfCharacters 68 = .ok (.iload_n 3, 1) := by decide +kernel
theorem d_Ct_endsOfCharacters_69 : decode c_Ct_endsOfCharacters 69 = .ok (.iconst (-1), 1) := by decide +kernel
theorem d_Ct_endsOfCharacters_70 : decode c_Ct_endsOfCharacters 70 = .ok (.if_icmp .eq 27, 3) := by decide +kernel
theorem d_Ct_endsOfCharacters_73 : decode c_Ct_endsOfCharacters 73 = .ok (.iload_n 3, 1) := by decide +kernel
theorem d_Ct_endsOfCharacters_74 : decode c_Ct_endsOfCharacters 74 = .ok (.aload_n 1, 1) := by decide +kernel
theorem d_Ct_endsOfCharacters_75 : decode c_Ct_endsOfCharacters 75 = .ok (.getfield 76, 3) := by decide +kernel
theorem d_Ct_endsOfCharacters_78 : decode c_Ct_endsOfCharacters 78 = .ok (.if_icmp .lt 19, 3) := by decide +kernel
theorem d_Ct_endsOfCharacters_81 : decode c_Ct_endsOfCharacters 81 = .ok (.iload_n 3, 1) := by decide +kernel
theorem d_Ct_endsOfCharacters_82 : decode c_Ct_endsOfCharacters 82 = .ok (.aload_n 1, 1) := by decide +kernel
theorem d_Ct_endsOfCharacters_83 : decode c_Ct_endsOfCharacters 83 = .ok (.getfield 73, 3) := by decide +kernel
theorem d_Ct_endsOfCharacters_86 : decode c_Ct_endsOfCharacters 86 = .ok (.if_icmp .gt 11, 3) := by decide +kernel
theorem d_Ct_endsOfCharacters_89 : decode c_Ct_endsOfCharacters 89 = .ok (.iconst 1, 1) := by decide +kernel
theorem d_Ct_endsOfCharacters_90 : decode c_Ct_endsOfCharacters 90 = .ok (.iload_n 2, 1) := by decide +kernel
theorem d_Ct_endsOfCharacters_91 : decode c_Ct_endsOfCharacters 91 = .ok (.iconst 1, 1) := by decide +kernel
theorem d_Ct_endsOfCharacters_92 : decode c_Ct_endsOfCharacters 92 = .ok (.iadd, 1) := by decide +kernel
theorem d_Ct_endsOfCharacters_93 : decode c_Ct_endsOfCharacters 93 = .ok (.ishl, 1) := by decide +kernel
theorem d_Ct_endsOfCharacters_94 : decode c_Ct_endsOfCharacters 94 = .ok (.goto 4, 3) := by decide +kernel
theorem d_Ct_endsOfCharacters_97 : decode c_Ct_endsOfCharacters 97 = .ok (.iconst 0, 1) := by decide +kernel
theorem d_Ct_endsOfCharacters_98 : decode c_Ct_endsOfCharacters 98 = .ok (.ireturn, 1) := by decide +kernel
theorem d_Ct_endsOfCharacters_99 : decode c_Ct_endsOfCharacters 99 = .ok (.iconst 0, 1) := by decide +kernel
theorem d_Ct_endsOfCharacters_100 : decode c_Ct_endsOfCharacters 100 = .ok (.ireturn, 1) := by decide +kernel
theorem d_Ct_findMore_0 : decode c_Ct_findMore 0 = .ok (.iconst 0, 1) := by decide +kernel
theorem d_Ct_findMore_1 : decode c_Ct_findMore 1 = .ok (.istore_n 2, 1) := by decide +kernel
theorem d_Ct_findMore_2 : decode c_Ct_findMore 2 = .ok (.aload_n 0, 1) := by decide +kernel
theorem d_Ct_findMore_3 : decode c_Ct_findMore 3 = .ok (.getfield 15, 3) := by decide +kernel
theorem d_Ct_findMore_6 : decode c_Ct_findMore 6 = .ok (.getfield 42, 3) := by decide +kernel
theorem d_Ct_findMore_9 : decode c_Ct_findMore 9 = .ok (.iconst 1, 1) := by decide +kernel
theorem d_Ct_findMore_10 : decode c_Ct_findMore 10 = .ok (.isub, 1) := by decide +kernel
theorem d_Ct_findMore_11 : decode c_Ct_findMore 11 = .ok (.istore_n 3, 1) := by decide +kernel
theorem d_Ct_findMore_12 : decode c_Ct_findMore 12 = .ok (.iload_n 3, 1) := by decide +kernel
theorem d_Ct_findMore_13 : decode c_Ct_findMore 13 = .ok (.ifCond .lt 52, 3) := by decide +kernel
theorem d_Ct_findMore_16 : decode c_Ct_findMore 16 = .ok (.aload_n 0, 1) := by decide +kernel
theorem d_Ct_findMore_17 : decode c_Ct_findMore 17 = .ok (.getfield 15, 3) := by decide +kernel
theorem d_Ct_findMore_20 : decode c_Ct_findMore 20 = .ok (.getfield 45, 3) := by decide +kernel
theorem d_Ct_findMore_23 : decode c_Ct_findMore 23 = .ok (.iload_n 3, 1) := by decide +kernel
theorem d_Ct_findMore_24 : decode c_Ct_findMore 24 = .ok (.aaload, 1) := by decide +kernel
theorem d_Ct_findMore_25 : decode c_Ct_findMore 25 = .ok (.astore 4, 2) := by decide +kernel
theorem d_Ct_findMore_27 : decode c_Ct_findMore 27 = .ok (.aload_n 0, 1) := by decide +kernel
theorem d_Ct_findMore_28 : decode c_Ct_findMore 28 = .ok (.aload 4, 2) := by decide +kernel
theorem d_Ct_findMore_30 : decode c_Ct_findMore 30 = .ok (.iload_n 1, 1) := by decide +kernel
theorem d_Ct_findMore_31 : decode c_Ct_findMore 31 = .ok (.invokevirtual 63, 3) := by decide +kernel
theorem d_Ct_findMore_34 : decode c_Ct_findMore 34 = .ok (.istore 5, 2) := by decide +kernel
theorem d_Ct_findMore_36 : decode c_Ct_findMore 36 = .ok (.iload 5, 2) := by decide +kernel
theorem d_Ct_findMore_38 : decode c_Ct_findMore 38 = .ok (.aload 4, 2) := by decide +kernel
theorem d_Ct_findMore_40 : decode c_Ct_findMore 40 = .ok (.getfield 49, 3) := by decide +kernel
theorem d_Ct_findMore_43 : decode c_Ct_findMore 43 = .ok (.iload_n 1, 1) := by decide +kernel
theorem d_Ct_findMore_44 : decode c_Ct_findMore 44 = .ok (.iaload, 1) := by decide +kernel
theorem d_Ct_findMore_45 : decode c_Ct_findMore 45 = .ok (.if_icmp .eq 14, 3) := by decide +kernel
theorem d_Ct_findMore_48 : decode c_Ct_findMore 48 = .ok (.aload 4, 2) := by decide +kernel
theorem d_Ct_findMore_50 : decode c_Ct_findMore 50 = .ok (.getfield 49, 3) := by decide +kernel
theorem d_Ct_findMore_53 : decode c_Ct_findMore 53 = .ok (.iload_n 1, 1) := by decide +kernel
theorem d_Ct_findMore_54 : decode c_Ct_findMore 54 = .ok (.iload 5, 2) := by decide +kernel
theorem d_Ct_findMore_56 : decode c_Ct_findMore 56 = .ok (.iastore, 1) := by decide +kernel
theorem d_Ct_findMore_57 : decode c_Ct_findMore 57 = .ok (.iconst 1, 1) := by decide +kernel
theorem d_Ct_findMore_58 : decode c_Ct_findMore 58 = .ok (.istore_n 2, 1) := by decide +kernel
theorem d_Ct_findMore_59 : decode c_Ct_findMore 59 = .ok (.iinc 3 (-1), 3) := by decide +kernel
theorem d_Ct_findMore_62 : decode c_Ct_findMore 62 = .ok (.goto (-50), 3) := by decide +kernel
theorem d_Ct_findMore_65 : decode c_Ct_findMore 65 = .ok (.iload_n 2, 1) := by decide +kernel
theorem d_Ct_findMore_66 : decode c_Ct_findMore 66 = .ok (.ireturn, 1) := by decide +kernel
theorem d_Ct_fill_0 : decode c_Ct_fill 0 = .ok (.aload_n 0, 1) := by decide +kernel
theorem d_Ct_fill_1 : decode c_Ct_fill 1 = .ok (.getfield 9, 3) := by decide +kernel
theorem d_Ct_fill_4 : decode c_Ct_fill 4 = .ok (.getfield 36, 3) := by decide +kernel
theorem d_Ct_fill_7 : decode c_Ct_fill 7 = .ok (.istore_n 1, 1) := by decide +kernel
theorem d_Ct_fill_8 : decode c_Ct_fill 8 = .ok (.iload_n 1, 1) := by decide +kernel
theorem d_Ct_fill_9 : decode c_Ct_fill 9 = .ok (.ifCond .lt 77, 3) := by decide +kernel
theorem d_Ct_fill_12 : decode c_Ct_fill 12 = .ok (.iconst 0, 1) := by decide +kernel
theorem d_Ct_fill_13 : decode c_Ct_fill 13 = .ok (.istore_n 2, 1) := by decide +kernel
theorem d_Ct_fill_14 : decode c_Ct_fill 14 = .ok (.iload_n 2, 1) := by decide +kernel
theorem d_Ct_fill_15 : decode c_Ct_fill 15 = .ok (.aload_n 0, 1) := by decide +kernel
theorem d_Ct_fill_16 : decode c_Ct_fill 16 = .ok (.getfield 15, 3) := by decide +kernel
theorem d_Ct_fill_19 : decode c_Ct_fill 19 = .ok (.getfield 42, 3) := by decide +kernel
theorem d_Ct_fill_22 : decode c_Ct_fill 22 = .ok (.if_icmp .ge 31, 3) := by decide +kernel
theorem d_Ct_fill_25 : decode c_Ct_fill 25 = .ok (.aload_n 0, 1) := by decide +kernel
theorem d_Ct_fill_26 : decode c_Ct_fill 26 = .ok (.getfield 15, 3) := by decide +kernel
theorem d_Ct_fill_29 : decode c_Ct_fill 29 = .ok (.getfield 45, 3) := by decide +kernel
theorem d_Ct_fill_32 : decode c_Ct_fill 32 = .ok (.iload_n 2, 1) := by decide +kernel
theorem d_Ct_fill_33 : decode c_Ct_fill 33 = .ok (.aaload, 1) := by decide +kernel
theorem d_Ct_fill_34 : decode c_Ct_fill 34 = .ok (.astore_n 3, 1) := by decide +kernel
theorem d_Ct_fill_35 : decode c_Ct_fill 35 = .ok (.aload_n 3, 1) := by decide +kernel
theorem d_Ct_fill_36 : decode c_Ct_fill 36 = .ok (.getfield 49, 3) := by decide +kernel
theorem d_Ct_fill_39 : decode c_Ct_fill 39 = .ok (.iload_n 1, 1) := by decide +kernel
theorem d_Ct_fill_40 : decode c_Ct_fill 40 = .ok (.aload_n 0, 1) := by decide +kernel
theorem d_Ct_fill_41 : decode c_Ct_fill 41 = .ok (.aload_n 3, 1) := by decide +kernel
theorem d_Ct_fill_42 : decode c_Ct_fill 42 = .ok (.iload_n 1, 1) := by decide +kernel
theorem d_Ct_fill_43 : decode c_Ct_fill 43 = .ok (.invokevirtual 55, 3) := by decide +kernel
theorem d_Ct_fill_46 : decode c_Ct_fill 46 = .ok (.iastore, 1) := by decide +kernel
theorem d_Ct_fill_47 : decode c_Ct_fill 47 = .ok (.iinc 2 1, 3) := by decide +kernel
theorem d_Ct_fill_50 : decode c_Ct_fill 50 = .ok (.goto (-36), 3) := by decide +kernel
theorem d_Ct_fill_53 : decode c_Ct_fill 53 = .ok (.iconst 1, 1) := by decide +kernel
theorem d_Ct_fill_54 : decode c_Ct_fill 54 = .ok (.istore_n 2, 1) := by decide +kernel
theorem d_Ct_fill_55 : decode c_Ct_fill 55 = .ok (.iconst 0, 1) := by decide +kernel
theorem d_Ct_fill_56 : decode c_Ct_fill 56 = .ok (.istore_n 3, 1) := by decide +kernel
theorem d_Ct_fill_57 : decode c_Ct_fill 57 = .ok (.iload_n 3, 1) := by decide +kernel
theorem d_Ct_fill_58 : decode c_Ct_fill 58 = .ok (.sipush 2501, 3) := by decide +kernel
theorem d_Ct_fill_61 : decode c_Ct_fill 61 = .ok (.if_icmp .ge 19, 3) := by decide +kernel
theorem d_Ct_fill_64 : decode c_Ct_fill 64 = .ok (.iload_n 2, 1) := by decide +kernel
theorem d_Ct_fill_65 : decode c_Ct_fill 65 = .ok (.ifCond .eq 15, 3) := by decide +kernel
theorem d_Ct_fill_68 : decode c_Ct_fill 68 = .ok (.aload_n 0, 1) := by decide +kernel
theorem d_Ct_fill_69 : decode c_Ct_fill 69 = .ok (.iload_n 1, 1) := by decide +kernel
theorem d_Ct_fill_70 : decode c_Ct_fill 70 = .ok (.invokevirtual 59, 3) := by decide +kernel
theorem d_Ct_fill_73 : decode c_Ct_fill 73 = .ok (.istore_n 2, 1) := by decide +kernel
theorem d_Ct_fill_74 : decode c_Ct_fill 74 = .ok (.iinc 3 1, 3) := by decide +kernel
theorem d_Ct_fill_77 : decode c_Ct_fill 77 = .ok (.goto (-20), 3) := by decide +kernel
theorem d_Ct_fill_80 : decode c_Ct_fill 80 = .ok (.iinc 1 (-1), 3) := by decide +kernel
theorem d_Ct_fill_83 : decode c_Ct_fill 83 = .ok (.goto (-75), 3) := by decide +kernel
theorem d_Ct_fill_86 : decode c_Ct_fill 86 = .ok (.return_, 1) := by decide +kernel
theorem d_Ct_endsOf_0 : decode c_Ct_endsOf 0 = .ok (.aload_n 0, 1) := by decide +kernel
theorem d_Ct_endsOf_1 : decode c_Ct_endsOf 1 = .ok (.getfield 19, 3) := by decide +kernel
theorem d_Ct_endsOf_4 : decode c_Ct_endsOf 4 = .ok (.ifCond .ne 12, 3) := by decide +kernel
theorem d_Ct_endsOf_7 : decode c_Ct_endsOf 7 = .ok (.aload_n 0, 1) := by decide +kernel
theorem d_Ct_endsOf_8 : decode c_Ct_endsOf 8 = .ok (.invokevirtual 23, 3) := by decide +kernel
theorem d_Ct_endsOf_11 : decode c_Ct_endsOf 11 = .ok (.aload_n 0, 1) := by decide +kernel
theorem d_Ct_endsOf_12 : decode c_Ct_endsOf 12 = .ok (.iconst 1, 1) := by decide +kernel
theorem d_Ct_endsOf_13 : decode c_Ct_endsOf 13 = .ok (.putfield 19, 3) := by decide +kernel
theorem d_Ct_endsOf_16 : decode c_Ct_endsOf 16 = .ok (.aload_n 0, 1) := by decide +kernel
theorem d_Ct_endsOf_17 : decode c_Ct_endsOf 17 = .ok (.aload_n 0, 1) := by decide +kernel
theorem d_Ct_endsOf_18 : decode c_Ct_endsOf 18 = .ok (.getfield 15, 3) := by decide +kernel
theorem d_Ct_endsOf_21 : decode c_Ct_endsOf 21 = .ok (.getfield 26, 3) := by decide +kernel
theorem d_Ct_endsOf_24 : decode c_Ct_endsOf 24 = .ok (.iload_n 1, 1) := by decide +kernel
theorem d_Ct_endsOf_25 : decode c_Ct_endsOf 25 = .ok (.aaload, 1) := by decide +kernel
theorem d_Ct_endsOf_26 : decode c_Ct_endsOf 26 = .ok (.iload_n 2, 1) := by decide +kernel
theorem d_Ct_endsOf_27 : decode c_Ct_endsOf 27 = .ok (.invokevirtual 32, 3) := by decide +kernel
theorem d_Ct_endsOf_30 : decode c_Ct_endsOf 30 = .ok (.ireturn, 1) := by decide +kernel
def IX (cy : Nat → ClassId) (ad : Nat → Nat) (I : Nat) (m0 : Nat → va_E) : Prop := m0 3 = .inr (0, [.ref (ad 4), .int (nI I)]) ∧ I ≤ 24 ∧ ∃ g : Nat → Int32, m0 4 = .inl (cy 0, 24, .inl g)
def CS (cy : Nat → ClassId) (ad : Nat → Nat) (lim rc ec : Nat) (wh fl : Int32) (m0 mem : Nat → va_E) : Prop := GI cy ad lim rc ec wh mem ∧ m0 223 = .inr (1, [.ref (ad 3), .ref (ad 5), .int fl]) ∧ ∀ i, i < 20 ∨ 222 ≤ i → mem i = m0 i
theorem CS.ends {cy : Nat → ClassId} {ad : Nat → Nat} {lim rc ec : Nat} {wh fl : Int32} {m0 mem : Nat → va_E} (h : CS cy ad lim rc ec wh fl m0 mem) {k : Nat} (hk : k < 100) {g : Nat → Int32} : CS cy ad lim rc ec wh fl m0 (va_up mem (21 + 2 * k) (.inl (cy 1, 25, .inl g))) :=
  ⟨h.1.upEnds hk, h.2.1, fun i hi => (va_up_ne _ _ (by omega)).trans (h.2.2 i hi)⟩
theorem nI_m1 (a : Nat) : nI (a + 1) + (-1) = nI a := by
  rw [nI_succ, Int32.add_assoc, show (1 : Int32) + (-1) = 0 from by decide, Int32.add_zero]
theorem nI_sub1 (a : Nat) : nI a - 1 = nI a + (-1) := Int32.sub_eq_add_neg (nI a) 1
theorem nI_0m1 : nI 0 + (-1) = (-1 : Int32) := by decide +kernel
set_option maxHeartbeats 4000000 in
set_option maxRecDepth 100000 in
theorem m_Ct_goOnN (l : Launch) {D : va_G} {cy : Nat → ClassId} {sz n : Nat} {ad : Nat → Nat} {mem : Nat → va_E} {I lim rc ec : Nat} {wh fl : Int32} {m0 : Nat → va_E} {pl : Int32} {i0 : Nat} (hn : 224 ≤ n) (hI : IX cy ad I m0) (hC : CS cy ad lim rc ec wh fl m0 mem) (hi0 : i0 ≤ I) : MI l D cy sz n ad y_Ct_goOn c_Ct_goOn 6 (some .int) ({ frames := 0, cells := 0, slots := 0, locals := 0 } : Room) mem [.ref (ad 223), .int (pl), .null, .int (nI i0)] (fun r mem' => mem' = mem) := by
  refine Met.ofW (cc := c_Ct_goOn) (maxL := 6) (ret := (some .int)) (by decide) rfl ?_
  intro p e s m args below meth c s₁ B hml hv
  obtain ⟨rfl, E, hP, hD⟩ := hv
  have hx := B.exec
  have hb := B.bytes
  have hr := B.returns
  have hlocks := B.notSynchronized
  have Bx : MB p s m [.ref (ad 223), .int (pl), .null, .int (nI i0)].toArray c c_Ct_goOn "AbnfChart$Chart" D cy := ⟨hx, hb, tb_all (atoms_spec B.pre) E.2.1, findClass_of_methodNamed B.named, E.1⟩
  have hS : va_S (Az sz) s.heap s.heap [] := va_S.rf
  have hl := lv_entry ([.ref (ad 223), .int (pl), .null, .int (nI i0)]) (n := 6) (Nat.le_of_ble_eq_true rfl)
  rw [lg_entry_eq]
  generalize (lg_sl ([.ref (ad 223), .int (pl), .null, .int (nI i0)]) ++ List.replicate (6 - (lg_sl ([.ref (ad 223), .int (pl), .null, .int (nI i0)])).length) Slot.unset).toArray = ls at hl ⊢
  have hl : lv_has ls 6 [(0, .ref (ad 223)), (1, .int (pl)), (2, .null), (3, .int (nI i0))] := hl
  have h3_1 : mem 3 = .inr (0, [.ref (ad 4), .int (nI I)]) := (hC.2.2 3 (by omega)).trans hI.1
  obtain ⟨gi3, h4_2⟩ := hI.2.2
  have h4_2 : mem 4 = .inl (cy 0, 24, .inl gi3) := (hC.2.2 4 (by omega)).trans h4_2
  have h223_5 : mem 223 = .inr (1, [.ref (ad 3), .ref (ad 5), .int fl]) := (hC.2.2 223 (by omega)).trans hC.2.1
  have h5_4 := hC.1.2.1
  have hbd11 := hC.1.1
  have hbI12 := hI.2.1
  obtain ⟨S6, g7, hS_8, h220_9, h221_10⟩ := hC.1.2.2.2.2.2.2
  refine lv_aload_nN Bx.1 Bx.2.1 d_Ct_goOn_0 rfl (lv_at hl 2 rfl) ?_
  refine lv_ifnonnullN Bx.1 Bx.2.1 d_Ct_goOn_1 ?_
  refine lv_iconst (v := 0) Bx.1 Bx.2.1 d_Ct_goOn_4 (by decide) ?_
  exact W.iret (v := 0) hx hb hr (fun t ht hW => ⟨⟨0, mem, rfl, rfl, by show va_P _ _ _ t.heap; rw [ht]; exact hP⟩, hS.F ht⟩) hS.2.2 d_Ct_goOn_5
set_option maxHeartbeats 4000000 in
set_option maxRecDepth 100000 in
theorem m_Ct_goOnR (l : Launch) {D : va_G} {cy : Nat → ClassId} {sz n : Nat} {ad : Nat → Nat} {mem : Nat → va_E} {I lim rc ec : Nat} {wh fl : Int32} {m0 : Nat → va_E} {pl : Int32} {i0 : Nat} {j : Nat} (hn : 224 ≤ n) (hI : IX cy ad I m0) (hC : CS cy ad lim rc ec wh fl m0 mem) (hi0 : i0 ≤ I) (hj : j < 100) : MI l D cy sz n ad y_Ct_goOn c_Ct_goOn 6 (some .int) ({ frames := 0, cells := 0, slots := 0, locals := 0 } : Room) mem [.ref (ad 223), .int (pl), .ref (ad (20 + 2 * j)), .int (nI i0)] (fun r mem' => mem' = mem) := by
  refine Met.ofW (cc := c_Ct_goOn) (maxL := 6) (ret := (some .int)) (by decide) rfl ?_
  intro p e s m args below meth c s₁ B hml hv
  obtain ⟨rfl, E, hP, hD⟩ := hv
  have hx := B.exec
  have hb := B.bytes
  have hr := B.returns
  have hlocks := B.notSynchronized
  have Bx : MB p s m [.ref (ad 223), .int (pl), .ref (ad (20 + 2 * j)), .int (nI i0)].toArray c c_Ct_goOn "AbnfChart$Chart" D cy := ⟨hx, hb, tb_all (atoms_spec B.pre) E.2.1, findClass_of_methodNamed B.named, E.1⟩
  have hS : va_S (Az sz) s.heap s.heap [] := va_S.rf
  have hl := lv_entry ([.ref (ad 223), .int (pl), .ref (ad (20 + 2 * j)), .int (nI i0)]) (n := 6) (Nat.le_of_ble_eq_true rfl)
  rw [lg_entry_eq]
  generalize (lg_sl ([.ref (ad 223), .int (pl), .ref (ad (20 + 2 * j)), .int (nI i0)]) ++ List.replicate (6 - (lg_sl ([.ref (ad 223), .int (pl), .ref (ad (20 + 2 * j)), .int (nI i0)])).length) Slot.unset).toArray = ls at hl ⊢
  have hl : lv_has ls 6 [(0, .ref (ad 223)), (1, .int (pl)), (2, .ref (ad (20 + 2 * j))), (3, .int (nI i0))] := hl
  have h3_1 : mem 3 = .inr (0, [.ref (ad 4), .int (nI I)]) := (hC.2.2 3 (by omega)).trans hI.1
  obtain ⟨gi3, h4_2⟩ := hI.2.2
  have h4_2 : mem 4 = .inl (cy 0, 24, .inl gi3) := (hC.2.2 4 (by omega)).trans h4_2
  have h223_5 : mem 223 = .inr (1, [.ref (ad 3), .ref (ad 5), .int fl]) := (hC.2.2 223 (by omega)).trans hC.2.1
  have h5_4 := hC.1.2.1
  have hbd11 := hC.1.1
  have hbI12 := hI.2.1
  obtain ⟨S6, g7, hS_8, h220_9, h221_10⟩ := hC.1.2.2.2.2.2.2
  refine lv_aload_n Bx.1 Bx.2.1 d_Ct_goOn_0 rfl (lv_at hl 2 rfl) ?_
  refine lv_ifnonnull Bx.1 Bx.2.1 d_Ct_goOn_1 rfl ?_
  obtain ⟨k13, lo14, hi15, as16, pa17, ne18, he_19, ho_20⟩ := (hC.1.2.2.2.2.2.1 j (by omega)).1
  refine lv_iconst (v := 0) Bx.1 Bx.2.1 d_Ct_goOn_6 (by decide) ?_
  refine lv_istore (lv' := [(4, .int (0)), (0, .ref (ad 223)), (1, .int (pl)), (2, .ref (ad (20 + 2 * j))), (3, .int (nI i0))]) Bx.1 Bx.2.1 d_Ct_goOn_7 hl (by decide) rfl (fun ls hl => ?_)
  refine lv_iload_n Bx.1 Bx.2.1 d_Ct_goOn_9 rfl (lv_at hl 4 rfl) ?_
  refine lv_istore (lv' := [(5, .int (nI i0)), (4, .int (0)), (0, .ref (ad 223)), (1, .int (pl)), (2, .ref (ad (20 + 2 * j))), (3, .int (nI i0))]) Bx.1 Bx.2.1 d_Ct_goOn_10 hl (by decide) rfl (fun ls hl => ?_)
  have loop21 : ∀ (d22 : Nat) (k : Nat) (en : Int32) (ls : Array Slot) (H : Heap) (locs : List Loc), (25 - k < d22) → (k ≤ 25) → (va_P D vcl (fw n ad mem) H) → (va_D (Az sz) (fw n ad mem)) → (va_S (Az sz) s.heap H locs) → (lv_has ls 6 [(5, .int (nI k)), (4, .int (en)), (0, .ref (ad 223)), (1, .int (pl)), (2, .ref (ad (20 + 2 * j))), (3, .int (nI i0))]) → W p l e (headSpec (Cond.code y_Ct_goOn c_Ct_goOn 6 (some .int) :: tg) ({ frames := 0, cells := 0, slots := 0, locals := 0 } : Room)).room s m [.ref (ad 223), .int (pl), .ref (ad (20 + 2 * j)), .int (nI i0)].toArray below meth c H locs 0 0 (MQ below (va_Qi (fun r mem' => mem' = mem) (PP D n ad) (Az sz)) [.ref (ad 223), .int (pl), .ref (ad (20 + 2 * j)), .int (nI i0)].toArray s 0 0 (Az sz)) (F0 m 12 ls []) := by
    intro d22
    induction d22 with
    | zero => intro k en ls H locs hmeas25; exact absurd hmeas25 (Nat.not_lt_zero _)
    | succ d22 ih24 =>
      intro k en ls H locs hmeas25 hz23 hP hD hS hl
      refine lv_iload Bx.1 Bx.2.1 d_Ct_goOn_12 (lv_at hl 0 rfl) ?_
      refine lv_aload_n Bx.1 Bx.2.1 d_Ct_goOn_14 rfl (lv_at hl 2 rfl) ?_
      refine f_get Bx hP (by omega) h223_5 rfl inCt 0 (by decide) kw_164 rfl rfl d_Ct_goOn_15 ?_
      refine f_getN Bx hP (by omega) h3_1 rfl inCh 1 (by decide) kw_35 rfl rfl d_Ct_goOn_18 ?_
      refine lv_icmp_gt Bx.1 Bx.2.1 d_Ct_goOn_21 rfl (fun hk => ?_) (fun hk => ?_)
      · refine lv_iload Bx.1 Bx.2.1 d_Ct_goOn_59 (lv_at hl 1 rfl) ?_
        exact W.iret (v := en) hx hb hr (fun t ht hW => ⟨⟨en, mem, rfl, rfl, by show va_P _ _ _ t.heap; rw [ht]; exact hP⟩, hS.F ht⟩) hS.2.2 d_Ct_goOn_61
      · have hk9 : k ≤ I := by rcases Nat.lt_or_ge I k with q | q; exact absurd ((nI_ltI (by omega) (by omega)).mpr q) hk; exact q
        refine lv_iload_n Bx.1 Bx.2.1 d_Ct_goOn_24 rfl (lv_at hl 3 rfl) ?_
        refine lv_iload Bx.1 Bx.2.1 d_Ct_goOn_25 (lv_at hl 0 rfl) ?_
        refine lv_ishr Bx.1 Bx.2.1 d_Ct_goOn_27 ?_
        refine lv_if_eq Bx.1 Bx.2.1 d_Ct_goOn_28 rfl (fun h8 => ?_) (fun h8 => ?_)
        · refine lv_iload Bx.1 Bx.2.1 d_Ct_goOn_59 (lv_at hl 1 rfl) ?_
          exact W.iret (v := en) hx hb hr (fun t ht hW => ⟨⟨en, mem, rfl, rfl, by show va_P _ _ _ t.heap; rw [ht]; exact hP⟩, hS.F ht⟩) hS.2.2 d_Ct_goOn_61
        · refine lv_iload_n Bx.1 Bx.2.1 d_Ct_goOn_31 rfl (lv_at hl 3 rfl) ?_
          refine lv_iload Bx.1 Bx.2.1 d_Ct_goOn_32 (lv_at hl 0 rfl) ?_
          refine lv_ishr Bx.1 Bx.2.1 d_Ct_goOn_34 ?_
          refine lv_iconst (v := 1) Bx.1 Bx.2.1 d_Ct_goOn_35 (by decide) ?_
          refine lv_iand Bx.1 Bx.2.1 d_Ct_goOn_36 ?_
          refine lv_iconst (v := 1) Bx.1 Bx.2.1 d_Ct_goOn_37 (by decide) ?_
          refine lv_icmp_ne Bx.1 Bx.2.1 d_Ct_goOn_38 rfl (fun h8 => ?_) (fun h8 => ?_)
          · refine lv_iinc (lv' := [(5, .int ((nI k + (1)))), (4, .int (en)), (0, .ref (ad 223)), (1, .int (pl)), (2, .ref (ad (20 + 2 * j))), (3, .int (nI i0))]) Bx.1 Bx.2.1 d_Ct_goOn_53 hl (k := 0) rfl rfl (by decide) rfl (fun ls hl => ?_)
            refine lv_goto Bx.1 Bx.2.1 d_Ct_goOn_56 rfl ?_
            exact ih24 (k + 1) (en) _ _ _ (by have := hmeas25; omega) (by omega) hP hD hS (by rw [nI_succ]; exact (lv_sub hl [0, 1, 2, 3, 4, 5] rfl))
          · refine lv_iload Bx.1 Bx.2.1 d_Ct_goOn_41 (lv_at hl 1 rfl) ?_
            refine lv_aload_n Bx.1 Bx.2.1 d_Ct_goOn_43 rfl (lv_at hl 4 rfl) ?_
            refine f_getN Bx hP (by omega) he_19 rfl inEl 6 (by decide) kw_94 rfl rfl d_Ct_goOn_44 ?_
            refine lv_iload Bx.1 Bx.2.1 d_Ct_goOn_47 (lv_at hl 0 rfl) ?_
            obtain ⟨g26, hg27⟩ := (hC.1.2.2.2.2.2.1 j (by omega)).2
            refine f_iald Bx hP (by omega) hg27 (vp_in_nI (by omega) (by decide)) d_Ct_goOn_49 ?_
            refine lv_topi (fun en28 e_en28 => ?_)
            refine lv_ior Bx.1 Bx.2.1 d_Ct_goOn_50 ?_
            refine lv_istore (lv' := [(4, .int (en ||| en28)), (5, .int (nI k)), (0, .ref (ad 223)), (1, .int (pl)), (2, .ref (ad (20 + 2 * j))), (3, .int (nI i0))]) Bx.1 Bx.2.1 d_Ct_goOn_51 hl (by decide) rfl (fun ls hl => ?_)
            refine lv_iinc (lv' := [(5, .int ((nI k + (1)))), (4, .int (en ||| en28)), (0, .ref (ad 223)), (1, .int (pl)), (2, .ref (ad (20 + 2 * j))), (3, .int (nI i0))]) Bx.1 Bx.2.1 d_Ct_goOn_53 hl (k := 1) rfl rfl (by decide) rfl (fun ls hl => ?_)
            refine lv_goto Bx.1 Bx.2.1 d_Ct_goOn_56 rfl ?_
            exact ih24 (k + 1) (en ||| en28) _ _ _ (by have := hmeas25; omega) (by omega) hP hD hS (by rw [nI_succ]; exact (lv_sub hl [0, 1, 2, 3, 4, 5] rfl))
  exact loop21 _ (i0) (0) _ _ _ (Nat.lt_succ_self _) (by omega) hP hD hS (lv_sub hl [0, 1, 2, 3, 4, 5] rfl)
theorem m_Ct_goOn (l : Launch) {D : va_G} {cy : Nat → ClassId} {sz n : Nat} {ad : Nat → Nat} {mem : Nat → va_E} {I lim rc ec : Nat} {wh fl : Int32} {m0 : Nat → va_E} {pl : Int32} {i0 : Nat} {pa9 : Value} (hn : 224 ≤ n) (hI : IX cy ad I m0) (hC : CS cy ad lim rc ec wh fl m0 mem) (hi0 : i0 ≤ I) (hpa : oE ad 0 100 pa9) : MI l D cy sz n ad y_Ct_goOn c_Ct_goOn 6 (some .int) ({ frames := 0, cells := 0, slots := 0, locals := 0 } : Room) mem [.ref (ad 223), .int (pl), pa9, .int (nI i0)] (fun r mem' => mem' = mem) := by
  rcases hpa with rfl | ⟨j, -, hj, rfl⟩
  · exact m_Ct_goOnN l hn hI hC hi0
  · exact m_Ct_goOnR l hn hI hC hi0 hj
set_option maxHeartbeats 4000000 in
set_option maxRecDepth 100000 in
theorem m_Ct_endsOfAnyN (l : Launch) {D : va_G} {cy : Nat → ClassId} {sz n : Nat} {ad : Nat → Nat} {mem : Nat → va_E} {I lim rc ec : Nat} {wh fl : Int32} {m0 : Nat → va_E} {i0 : Nat} (hn : 224 ≤ n) (hI : IX cy ad I m0) (hC : CS cy ad lim rc ec wh fl m0 mem) (hi0 : i0 ≤ I) : MI l D cy sz n ad y_Ct_endsOfAny c_Ct_endsOfAny 5 (some .int) ({ frames := 0, cells := 0, slots := 0, locals := 0 } : Room) mem [.ref (ad 223), .null, .int (nI i0)] (fun r mem' => mem' = mem) := by
  refine Met.ofW (cc := c_Ct_endsOfAny) (maxL := 5) (ret := (some .int)) (by decide) rfl ?_
  intro p e s m args below meth c s₁ B hml hv
  obtain ⟨rfl, E, hP, hD⟩ := hv
  have hx := B.exec
  have hb := B.bytes
  have hr := B.returns
  have hlocks := B.notSynchronized
  have Bx : MB p s m [.ref (ad 223), .null, .int (nI i0)].toArray c c_Ct_endsOfAny "AbnfChart$Chart" D cy := ⟨hx, hb, tb_all (atoms_spec B.pre) E.2.1, findClass_of_methodNamed B.named, E.1⟩
  have hS : va_S (Az sz) s.heap s.heap [] := va_S.rf
  have hl := lv_entry ([.ref (ad 223), .null, .int (nI i0)]) (n := 5) (Nat.le_of_ble_eq_true rfl)
  rw [lg_entry_eq]
  generalize (lg_sl ([.ref (ad 223), .null, .int (nI i0)]) ++ List.replicate (5 - (lg_sl ([.ref (ad 223), .null, .int (nI i0)])).length) Slot.unset).toArray = ls at hl ⊢
  have hl : lv_has ls 5 [(0, .ref (ad 223)), (1, .null), (2, .int (nI i0))] := hl
  have h3_1 : mem 3 = .inr (0, [.ref (ad 4), .int (nI I)]) := (hC.2.2 3 (by omega)).trans hI.1
  obtain ⟨gi3, h4_2⟩ := hI.2.2
  have h4_2 : mem 4 = .inl (cy 0, 24, .inl gi3) := (hC.2.2 4 (by omega)).trans h4_2
  have h223_5 : mem 223 = .inr (1, [.ref (ad 3), .ref (ad 5), .int fl]) := (hC.2.2 223 (by omega)).trans hC.2.1
  have h5_4 := hC.1.2.1
  have hbd11 := hC.1.1
  have hbI12 := hI.2.1
  obtain ⟨S6, g7, hS_8, h220_9, h221_10⟩ := hC.1.2.2.2.2.2.2
  refine lv_iconst (v := 0) Bx.1 Bx.2.1 d_Ct_endsOfAny_0 (by decide) ?_
  refine lv_istore_n (lv' := [(3, .int (0)), (0, .ref (ad 223)), (1, .null), (2, .int (nI i0))]) Bx.1 Bx.2.1 d_Ct_endsOfAny_1 rfl hl (by decide) rfl (fun ls hl => ?_)
  refine lv_aload_nN Bx.1 Bx.2.1 d_Ct_endsOfAny_2 rfl (lv_at hl 2 rfl) ?_
  refine lv_astoreN (lv' := [(4, .null), (3, .int (0)), (0, .ref (ad 223)), (1, .null), (2, .int (nI i0))]) Bx.1 Bx.2.1 d_Ct_endsOfAny_3 hl (by decide) rfl (fun ls hl => ?_)
  refine lv_aloadN Bx.1 Bx.2.1 d_Ct_endsOfAny_5 (lv_at hl 0 rfl) ?_
  refine lv_ifnullN Bx.1 Bx.2.1 d_Ct_endsOfAny_7 rfl ?_
  refine lv_iload_n Bx.1 Bx.2.1 d_Ct_endsOfAny_30 rfl (lv_at hl 1 rfl) ?_
  exact W.iret (v := 0) hx hb hr (fun t ht hW => ⟨⟨0, mem, rfl, rfl, by show va_P _ _ _ t.heap; rw [ht]; exact hP⟩, hS.F ht⟩) hS.2.2 d_Ct_endsOfAny_31
set_option maxHeartbeats 4000000 in
set_option maxRecDepth 100000 in
theorem m_Ct_endsOfAnyR (l : Launch) {D : va_G} {cy : Nat → ClassId} {sz n : Nat} {ad : Nat → Nat} {mem : Nat → va_E} {I lim rc ec : Nat} {wh fl : Int32} {m0 : Nat → va_E} {i0 : Nat} {j : Nat} (hn : 224 ≤ n) (hI : IX cy ad I m0) (hC : CS cy ad lim rc ec wh fl m0 mem) (hi0 : i0 ≤ I) (hj : j < ec) : MI l D cy sz n ad y_Ct_endsOfAny c_Ct_endsOfAny 5 (some .int) ({ frames := 0, cells := 0, slots := 0, locals := 0 } : Room) mem [.ref (ad 223), .ref (ad (20 + 2 * j)), .int (nI i0)] (fun r mem' => mem' = mem) := by
  refine Met.ofW (cc := c_Ct_endsOfAny) (maxL := 5) (ret := (some .int)) (by decide) rfl ?_
  intro p e s m args below meth c s₁ B hml hv
  obtain ⟨rfl, E, hP, hD⟩ := hv
  have hx := B.exec
  have hb := B.bytes
  have hr := B.returns
  have hlocks := B.notSynchronized
  have Bx : MB p s m [.ref (ad 223), .ref (ad (20 + 2 * j)), .int (nI i0)].toArray c c_Ct_endsOfAny "AbnfChart$Chart" D cy := ⟨hx, hb, tb_all (atoms_spec B.pre) E.2.1, findClass_of_methodNamed B.named, E.1⟩
  have hS : va_S (Az sz) s.heap s.heap [] := va_S.rf
  have hl := lv_entry ([.ref (ad 223), .ref (ad (20 + 2 * j)), .int (nI i0)]) (n := 5) (Nat.le_of_ble_eq_true rfl)
  rw [lg_entry_eq]
  generalize (lg_sl ([.ref (ad 223), .ref (ad (20 + 2 * j)), .int (nI i0)]) ++ List.replicate (5 - (lg_sl ([.ref (ad 223), .ref (ad (20 + 2 * j)), .int (nI i0)])).length) Slot.unset).toArray = ls at hl ⊢
  have hl : lv_has ls 5 [(0, .ref (ad 223)), (1, .ref (ad (20 + 2 * j))), (2, .int (nI i0))] := hl
  have h3_1 : mem 3 = .inr (0, [.ref (ad 4), .int (nI I)]) := (hC.2.2 3 (by omega)).trans hI.1
  obtain ⟨gi3, h4_2⟩ := hI.2.2
  have h4_2 : mem 4 = .inl (cy 0, 24, .inl gi3) := (hC.2.2 4 (by omega)).trans h4_2
  have h223_5 : mem 223 = .inr (1, [.ref (ad 3), .ref (ad 5), .int fl]) := (hC.2.2 223 (by omega)).trans hC.2.1
  have h5_4 := hC.1.2.1
  have hbd11 := hC.1.1
  have hbI12 := hI.2.1
  obtain ⟨S6, g7, hS_8, h220_9, h221_10⟩ := hC.1.2.2.2.2.2.2
  refine lv_iconst (v := 0) Bx.1 Bx.2.1 d_Ct_endsOfAny_0 (by decide) ?_
  refine lv_istore_n (lv' := [(3, .int (0)), (0, .ref (ad 223)), (1, .ref (ad (20 + 2 * j))), (2, .int (nI i0))]) Bx.1 Bx.2.1 d_Ct_endsOfAny_1 rfl hl (by decide) rfl (fun ls hl => ?_)
  refine lv_aload_n Bx.1 Bx.2.1 d_Ct_endsOfAny_2 rfl (lv_at hl 2 rfl) ?_
  refine lv_astore (lv' := [(4, .ref (ad (20 + 2 * j))), (3, .int (0)), (0, .ref (ad 223)), (1, .ref (ad (20 + 2 * j))), (2, .int (nI i0))]) Bx.1 Bx.2.1 d_Ct_endsOfAny_3 hl (by decide) rfl (fun ls hl => ?_)
  have loop13 : ∀ (d14 : Nat) (lo : Nat) (en : Int32) (ch : Value) (ls : Array Slot) (H : Heap) (locs : List Loc), (ec - lo < d14) → (oE ad lo ec ch) → (va_P D vcl (fw n ad mem) H) → (va_D (Az sz) (fw n ad mem)) → (va_S (Az sz) s.heap H locs) → (lv_has ls 5 [(4, ch), (3, .int (en)), (0, .ref (ad 223)), (2, .int (nI i0))]) → W p l e (headSpec (Cond.code y_Ct_endsOfAny c_Ct_endsOfAny 5 (some .int) :: tg) ({ frames := 0, cells := 0, slots := 0, locals := 0 } : Room)).room s m [.ref (ad 223), .ref (ad (20 + 2 * j)), .int (nI i0)].toArray below meth c H locs 0 0 (MQ below (va_Qi (fun r mem' => mem' = mem) (PP D n ad) (Az sz)) [.ref (ad 223), .ref (ad (20 + 2 * j)), .int (nI i0)].toArray s 0 0 (Az sz)) (F0 m 5 ls []) := by
    intro d14
    induction d14 with
    | zero => intro lo en ch ls H locs hmeas17; exact absurd hmeas17 (Nat.not_lt_zero _)
    | succ d14 ih16 =>
      intro lo en ch ls H locs hmeas17 hz15 hP hD hS hl
      rcases hz15 with hv | ⟨j, hj1, hj, hv⟩
      · subst hv
        refine lv_aloadN Bx.1 Bx.2.1 d_Ct_endsOfAny_5 (lv_at hl 0 rfl) ?_
        refine lv_ifnullN Bx.1 Bx.2.1 d_Ct_endsOfAny_7 rfl ?_
        refine lv_iload_n Bx.1 Bx.2.1 d_Ct_endsOfAny_30 rfl (lv_at hl 1 rfl) ?_
        exact W.iret (v := en) hx hb hr (fun t ht hW => ⟨⟨en, mem, rfl, rfl, by show va_P _ _ _ t.heap; rw [ht]; exact hP⟩, hS.F ht⟩) hS.2.2 d_Ct_endsOfAny_31
      · subst hv
        refine lv_aload Bx.1 Bx.2.1 d_Ct_endsOfAny_5 (lv_at hl 0 rfl) ?_
        refine lv_ifnull Bx.1 Bx.2.1 d_Ct_endsOfAny_7 ?_
        obtain ⟨k18, lo19, hi20, as21, pa22, ne23, he_24, ho_25⟩ := (hC.1.2.2.2.2.2.1 j (by omega)).1
        refine lv_iload_n Bx.1 Bx.2.1 d_Ct_endsOfAny_10 rfl (lv_at hl 1 rfl) ?_
        refine lv_aload Bx.1 Bx.2.1 d_Ct_endsOfAny_11 (lv_at hl 0 rfl) ?_
        refine f_getN Bx hP (by omega) he_24 rfl inEl 6 (by decide) kw_94 rfl rfl d_Ct_endsOfAny_13 ?_
        refine lv_iload_n Bx.1 Bx.2.1 d_Ct_endsOfAny_16 rfl (lv_at hl 3 rfl) ?_
        obtain ⟨g26, hg27⟩ := (hC.1.2.2.2.2.2.1 j (by omega)).2
        refine f_iald Bx hP (by omega) hg27 (vp_in_nI (by omega) (by decide)) d_Ct_endsOfAny_17 ?_
        refine lv_topi (fun en28 e_en28 => ?_)
        refine lv_ior Bx.1 Bx.2.1 d_Ct_endsOfAny_18 ?_
        refine lv_istore_n (lv' := [(3, .int (en ||| en28)), (4, .ref (ad (20 + 2 * j))), (0, .ref (ad 223)), (2, .int (nI i0))]) Bx.1 Bx.2.1 d_Ct_endsOfAny_19 rfl hl (by decide) rfl (fun ls hl => ?_)
        refine lv_aload Bx.1 Bx.2.1 d_Ct_endsOfAny_20 (lv_at hl 1 rfl) ?_
        refine f_getN Bx hP (by omega) he_24 rfl inEl 5 (by decide) kw_92 rfl rfl d_Ct_endsOfAny_22 ?_
        rcases (ho_25 (by omega)).2.2 with hv | ⟨j2, hk1, hk2, hv⟩
        · rw [hv]
          refine lv_astoreN (lv' := [(4, .null), (3, .int (en ||| en28)), (0, .ref (ad 223)), (2, .int (nI i0))]) Bx.1 Bx.2.1 d_Ct_endsOfAny_25 hl (by decide) rfl (fun ls hl => ?_)
          refine lv_goto Bx.1 Bx.2.1 d_Ct_endsOfAny_27 rfl ?_
          exact ih16 (j + 1) (en ||| en28) (.null) _ _ _ (by have := hmeas17; omega) (Or.inl rfl) hP hD hS (lv_sub hl [0, 1, 2, 3] rfl)
        · rw [hv]
          refine lv_astore (lv' := [(4, .ref (ad (20 + 2 * j2))), (3, .int (en ||| en28)), (0, .ref (ad 223)), (2, .int (nI i0))]) Bx.1 Bx.2.1 d_Ct_endsOfAny_25 hl (by decide) rfl (fun ls hl => ?_)
          refine lv_goto Bx.1 Bx.2.1 d_Ct_endsOfAny_27 rfl ?_
          exact ih16 (j + 1) (en ||| en28) (.ref (ad (20 + 2 * j2))) _ _ _ (by have := hmeas17; omega) (Or.inr ⟨j2, hk1, hk2, rfl⟩) hP hD hS (lv_sub hl [0, 1, 2, 3] rfl)
  exact loop13 _ (0) (0) (.ref (ad (20 + 2 * j))) _ _ _ (Nat.lt_succ_self _) (Or.inr ⟨j, by omega, hj, rfl⟩) hP hD hS (lv_sub hl [0, 1, 2, 4] rfl)
theorem m_Ct_endsOfAny (l : Launch) {D : va_G} {cy : Nat → ClassId} {sz n : Nat} {ad : Nat → Nat} {mem : Nat → va_E} {I lim rc ec : Nat} {wh fl : Int32} {m0 : Nat → va_E} {i0 : Nat} {fi9 : Value} (hn : 224 ≤ n) (hI : IX cy ad I m0) (hC : CS cy ad lim rc ec wh fl m0 mem) (hi0 : i0 ≤ I) (hfi : oE ad 0 ec fi9) : MI l D cy sz n ad y_Ct_endsOfAny c_Ct_endsOfAny 5 (some .int) ({ frames := 0, cells := 0, slots := 0, locals := 0 } : Room) mem [.ref (ad 223), fi9, .int (nI i0)] (fun r mem' => mem' = mem) := by
  rcases hfi with rfl | ⟨j, -, hj, rfl⟩
  · exact m_Ct_endsOfAnyN l hn hI hC hi0
  · exact m_Ct_endsOfAnyR l hn hI hC hi0 hj
set_option maxHeartbeats 4000000 in
set_option maxRecDepth 100000 in
theorem m_Ct_endsOfRowN (l : Launch) {D : va_G} {cy : Nat → ClassId} {sz n : Nat} {ad : Nat → Nat} {mem : Nat → va_E} {I lim rc ec : Nat} {wh fl : Int32} {m0 : Nat → va_E} {i0 : Nat} (hn : 224 ≤ n) (hI : IX cy ad I m0) (hC : CS cy ad lim rc ec wh fl m0 mem) (hi0 : i0 ≤ I) : MI l D cy sz n ad y_Ct_endsOfRow c_Ct_endsOfRow 5 (some .int) ({ frames := 1, cells := 0, slots := 0, locals := 30 } : Room) mem [.ref (ad 223), .null, .int (nI i0)] (fun r mem' => mem' = mem) := by
  refine Met.ofW (cc := c_Ct_endsOfRow) (maxL := 5) (ret := (some .int)) (by decide) rfl ?_
  intro p e s m args below meth c s₁ B hml hv
  obtain ⟨rfl, E, hP, hD⟩ := hv
  have hx := B.exec
  have hb := B.bytes
  have hr := B.returns
  have hlocks := B.notSynchronized
  have Bx : MB p s m [.ref (ad 223), .null, .int (nI i0)].toArray c c_Ct_endsOfRow "AbnfChart$Chart" D cy := ⟨hx, hb, tb_all (atoms_spec B.pre) E.2.1, findClass_of_methodNamed B.named, E.1⟩
  have hS : va_S (Az sz) s.heap s.heap [] := va_S.rf
  have hl := lv_entry ([.ref (ad 223), .null, .int (nI i0)]) (n := 5) (Nat.le_of_ble_eq_true rfl)
  rw [lg_entry_eq]
  generalize (lg_sl ([.ref (ad 223), .null, .int (nI i0)]) ++ List.replicate (5 - (lg_sl ([.ref (ad 223), .null, .int (nI i0)])).length) Slot.unset).toArray = ls at hl ⊢
  have hl : lv_has ls 5 [(0, .ref (ad 223)), (1, .null), (2, .int (nI i0))] := hl
  have h3_1 : mem 3 = .inr (0, [.ref (ad 4), .int (nI I)]) := (hC.2.2 3 (by omega)).trans hI.1
  obtain ⟨gi3, h4_2⟩ := hI.2.2
  have h4_2 : mem 4 = .inl (cy 0, 24, .inl gi3) := (hC.2.2 4 (by omega)).trans h4_2
  have h223_5 : mem 223 = .inr (1, [.ref (ad 3), .ref (ad 5), .int fl]) := (hC.2.2 223 (by omega)).trans hC.2.1
  have h5_4 := hC.1.2.1
  have hbd11 := hC.1.1
  have hbI12 := hI.2.1
  obtain ⟨S6, g7, hS_8, h220_9, h221_10⟩ := hC.1.2.2.2.2.2.2
  refine lv_iconst (v := 1) Bx.1 Bx.2.1 d_Ct_endsOfRow_0 (by decide) ?_
  refine lv_iload_n Bx.1 Bx.2.1 d_Ct_endsOfRow_1 rfl (lv_at hl 2 rfl) ?_
  refine lv_ishl Bx.1 Bx.2.1 d_Ct_endsOfRow_2 ?_
  refine lv_istore_n (lv' := [(3, .int ((1) <<< ((nI i0) &&& 31))), (0, .ref (ad 223)), (1, .null), (2, .int (nI i0))]) Bx.1 Bx.2.1 d_Ct_endsOfRow_3 rfl hl (by decide) rfl (fun ls hl => ?_)
  refine lv_aload_nN Bx.1 Bx.2.1 d_Ct_endsOfRow_4 rfl (lv_at hl 2 rfl) ?_
  refine lv_astoreN (lv' := [(4, .null), (3, .int ((1) <<< ((nI i0) &&& 31))), (0, .ref (ad 223)), (1, .null), (2, .int (nI i0))]) Bx.1 Bx.2.1 d_Ct_endsOfRow_5 hl (by decide) rfl (fun ls hl => ?_)
  refine lv_aloadN Bx.1 Bx.2.1 d_Ct_endsOfRow_7 (lv_at hl 0 rfl) ?_
  refine lv_ifnullN Bx.1 Bx.2.1 d_Ct_endsOfRow_9 rfl ?_
  refine lv_iload_n Bx.1 Bx.2.1 d_Ct_endsOfRow_31 rfl (lv_at hl 1 rfl) ?_
  exact W.iret (v := (1) <<< ((nI i0) &&& 31)) hx hb hr (fun t ht hW => ⟨⟨(1) <<< ((nI i0) &&& 31), mem, rfl, rfl, by show va_P _ _ _ t.heap; rw [ht]; exact hP⟩, hS.F ht⟩) hS.2.2 d_Ct_endsOfRow_32
set_option maxHeartbeats 4000000 in
set_option maxRecDepth 100000 in
theorem m_Ct_endsOfRowR (l : Launch) {D : va_G} {cy : Nat → ClassId} {sz n : Nat} {ad : Nat → Nat} {mem : Nat → va_E} {I lim rc ec : Nat} {wh fl : Int32} {m0 : Nat → va_E} {i0 : Nat} {j : Nat} (hn : 224 ≤ n) (hI : IX cy ad I m0) (hC : CS cy ad lim rc ec wh fl m0 mem) (hi0 : i0 ≤ I) (hj : j < ec) : MI l D cy sz n ad y_Ct_endsOfRow c_Ct_endsOfRow 5 (some .int) ({ frames := 1, cells := 0, slots := 0, locals := 30 } : Room) mem [.ref (ad 223), .ref (ad (20 + 2 * j)), .int (nI i0)] (fun r mem' => mem' = mem) := by
  refine Met.ofW (cc := c_Ct_endsOfRow) (maxL := 5) (ret := (some .int)) (by decide) rfl ?_
  intro p e s m args below meth c s₁ B hml hv
  obtain ⟨rfl, E, hP, hD⟩ := hv
  have hx := B.exec
  have hb := B.bytes
  have hr := B.returns
  have hlocks := B.notSynchronized
  have Bx : MB p s m [.ref (ad 223), .ref (ad (20 + 2 * j)), .int (nI i0)].toArray c c_Ct_endsOfRow "AbnfChart$Chart" D cy := ⟨hx, hb, tb_all (atoms_spec B.pre) E.2.1, findClass_of_methodNamed B.named, E.1⟩
  have hS : va_S (Az sz) s.heap s.heap [] := va_S.rf
  have hl := lv_entry ([.ref (ad 223), .ref (ad (20 + 2 * j)), .int (nI i0)]) (n := 5) (Nat.le_of_ble_eq_true rfl)
  rw [lg_entry_eq]
  generalize (lg_sl ([.ref (ad 223), .ref (ad (20 + 2 * j)), .int (nI i0)]) ++ List.replicate (5 - (lg_sl ([.ref (ad 223), .ref (ad (20 + 2 * j)), .int (nI i0)])).length) Slot.unset).toArray = ls at hl ⊢
  have hl : lv_has ls 5 [(0, .ref (ad 223)), (1, .ref (ad (20 + 2 * j))), (2, .int (nI i0))] := hl
  have h3_1 : mem 3 = .inr (0, [.ref (ad 4), .int (nI I)]) := (hC.2.2 3 (by omega)).trans hI.1
  obtain ⟨gi3, h4_2⟩ := hI.2.2
  have h4_2 : mem 4 = .inl (cy 0, 24, .inl gi3) := (hC.2.2 4 (by omega)).trans h4_2
  have h223_5 : mem 223 = .inr (1, [.ref (ad 3), .ref (ad 5), .int fl]) := (hC.2.2 223 (by omega)).trans hC.2.1
  have h5_4 := hC.1.2.1
  have hbd11 := hC.1.1
  have hbI12 := hI.2.1
  obtain ⟨S6, g7, hS_8, h220_9, h221_10⟩ := hC.1.2.2.2.2.2.2
  refine lv_iconst (v := 1) Bx.1 Bx.2.1 d_Ct_endsOfRow_0 (by decide) ?_
  refine lv_iload_n Bx.1 Bx.2.1 d_Ct_endsOfRow_1 rfl (lv_at hl 2 rfl) ?_
  refine lv_ishl Bx.1 Bx.2.1 d_Ct_endsOfRow_2 ?_
  refine lv_istore_n (lv' := [(3, .int ((1) <<< ((nI i0) &&& 31))), (0, .ref (ad 223)), (1, .ref (ad (20 + 2 * j))), (2, .int (nI i0))]) Bx.1 Bx.2.1 d_Ct_endsOfRow_3 rfl hl (by decide) rfl (fun ls hl => ?_)
  refine lv_aload_n Bx.1 Bx.2.1 d_Ct_endsOfRow_4 rfl (lv_at hl 2 rfl) ?_
  refine lv_astore (lv' := [(4, .ref (ad (20 + 2 * j))), (3, .int ((1) <<< ((nI i0) &&& 31))), (0, .ref (ad 223)), (1, .ref (ad (20 + 2 * j))), (2, .int (nI i0))]) Bx.1 Bx.2.1 d_Ct_endsOfRow_5 hl (by decide) rfl (fun ls hl => ?_)
  have loop13 : ∀ (d14 : Nat) (lo : Nat) (en : Int32) (ch : Value) (ls : Array Slot) (H : Heap) (locs : List Loc), (ec - lo < d14) → (oE ad lo ec ch) → (va_P D vcl (fw n ad mem) H) → (va_D (Az sz) (fw n ad mem)) → (va_S (Az sz) s.heap H locs) → (lv_has ls 5 [(4, ch), (3, .int (en)), (0, .ref (ad 223)), (2, .int (nI i0))]) → W p l e (headSpec (Cond.code y_Ct_endsOfRow c_Ct_endsOfRow 5 (some .int) :: tg) ({ frames := 1, cells := 0, slots := 0, locals := 30 } : Room)).room s m [.ref (ad 223), .ref (ad (20 + 2 * j)), .int (nI i0)].toArray below meth c H locs 0 0 (MQ below (va_Qi (fun r mem' => mem' = mem) (PP D n ad) (Az sz)) [.ref (ad 223), .ref (ad (20 + 2 * j)), .int (nI i0)].toArray s 0 0 (Az sz)) (F0 m 7 ls []) := by
    intro d14
    induction d14 with
    | zero => intro lo en ch ls H locs hmeas17; exact absurd hmeas17 (Nat.not_lt_zero _)
    | succ d14 ih16 =>
      intro lo en ch ls H locs hmeas17 hz15 hP hD hS hl
      rcases hz15 with hv | ⟨j, hj1, hj, hv⟩
      · subst hv
        refine lv_aloadN Bx.1 Bx.2.1 d_Ct_endsOfRow_7 (lv_at hl 0 rfl) ?_
        refine lv_ifnullN Bx.1 Bx.2.1 d_Ct_endsOfRow_9 rfl ?_
        refine lv_iload_n Bx.1 Bx.2.1 d_Ct_endsOfRow_31 rfl (lv_at hl 1 rfl) ?_
        exact W.iret (v := en) hx hb hr (fun t ht hW => ⟨⟨en, mem, rfl, rfl, by show va_P _ _ _ t.heap; rw [ht]; exact hP⟩, hS.F ht⟩) hS.2.2 d_Ct_endsOfRow_32
      · subst hv
        refine lv_aload Bx.1 Bx.2.1 d_Ct_endsOfRow_7 (lv_at hl 0 rfl) ?_
        refine lv_ifnull Bx.1 Bx.2.1 d_Ct_endsOfRow_9 ?_
        obtain ⟨k18, lo19, hi20, as21, pa22, ne23, he_24, ho_25⟩ := (hC.1.2.2.2.2.2.1 j (by omega)).1
        refine lv_aload_n Bx.1 Bx.2.1 d_Ct_endsOfRow_12 rfl (lv_at hl 2 rfl) ?_
        refine lv_iload_n Bx.1 Bx.2.1 d_Ct_endsOfRow_13 rfl (lv_at hl 1 rfl) ?_
        refine lv_aload Bx.1 Bx.2.1 d_Ct_endsOfRow_14 (lv_at hl 0 rfl) ?_
        refine lv_iload_n Bx.1 Bx.2.1 d_Ct_endsOfRow_16 rfl (lv_at hl 3 rfl) ?_
        refine f_callVi (na := 3) (As := [.int (en), .ref (ad (20 + 2 * j)), .int (nI i0)]) (rest := []) Bx hml E hP hD hS (by omega) h223_5 rfl (m_Ct_goOn l hn hI hC hi0 (Or.inr ⟨j, by omega, by omega, rfl⟩)) kw_601 kw_603 sel_Ct_goOn kw_7 kw_604 (by decide +kernel) ⟨rfl, rfl⟩ ⟨Nat.le_of_ble_eq_true rfl, Nat.le_of_ble_eq_true rfl⟩ rfl hl.1 (Nat.le_of_ble_eq_true rfl) d_Ct_endsOfRow_17 ⟨Nat.le_of_ble_eq_true rfl, Nat.le_of_ble_eq_true rfl⟩ (fun r26 mem27 H locs hq hP hS => ?_)
        have hD : va_D (Az sz) (fw n ad mem27) := fw_D hD
        rw [hq] at hP hD
        refine lv_istore_n (lv' := [(3, .int (r26)), (4, .ref (ad (20 + 2 * j))), (0, .ref (ad 223)), (2, .int (nI i0))]) Bx.1 Bx.2.1 d_Ct_endsOfRow_20 rfl hl (by decide) rfl (fun ls hl => ?_)
        refine lv_aload Bx.1 Bx.2.1 d_Ct_endsOfRow_21 (lv_at hl 1 rfl) ?_
        refine f_getN Bx hP (by omega) he_24 rfl inEl 5 (by decide) kw_92 rfl rfl d_Ct_endsOfRow_23 ?_
        rcases (ho_25 (by omega)).2.2 with hv | ⟨j2, hk1, hk2, hv⟩
        · rw [hv]
          refine lv_astoreN (lv' := [(4, .null), (3, .int (r26)), (0, .ref (ad 223)), (2, .int (nI i0))]) Bx.1 Bx.2.1 d_Ct_endsOfRow_26 hl (by decide) rfl (fun ls hl => ?_)
          refine lv_goto Bx.1 Bx.2.1 d_Ct_endsOfRow_28 rfl ?_
          exact ih16 (j + 1) (r26) (.null) _ _ _ (by have := hmeas17; omega) (Or.inl rfl) hP hD hS (lv_sub hl [0, 1, 2, 3] rfl)
        · rw [hv]
          refine lv_astore (lv' := [(4, .ref (ad (20 + 2 * j2))), (3, .int (r26)), (0, .ref (ad 223)), (2, .int (nI i0))]) Bx.1 Bx.2.1 d_Ct_endsOfRow_26 hl (by decide) rfl (fun ls hl => ?_)
          refine lv_goto Bx.1 Bx.2.1 d_Ct_endsOfRow_28 rfl ?_
          exact ih16 (j + 1) (r26) (.ref (ad (20 + 2 * j2))) _ _ _ (by have := hmeas17; omega) (Or.inr ⟨j2, hk1, hk2, rfl⟩) hP hD hS (lv_sub hl [0, 1, 2, 3] rfl)
  exact loop13 _ (0) ((1) <<< ((nI i0) &&& 31)) (.ref (ad (20 + 2 * j))) _ _ _ (Nat.lt_succ_self _) (Or.inr ⟨j, by omega, hj, rfl⟩) hP hD hS (lv_sub hl [0, 1, 2, 4] rfl)
theorem m_Ct_endsOfRow (l : Launch) {D : va_G} {cy : Nat → ClassId} {sz n : Nat} {ad : Nat → Nat} {mem : Nat → va_E} {I lim rc ec : Nat} {wh fl : Int32} {m0 : Nat → va_E} {i0 : Nat} {fi9 : Value} (hn : 224 ≤ n) (hI : IX cy ad I m0) (hC : CS cy ad lim rc ec wh fl m0 mem) (hi0 : i0 ≤ I) (hfi : oE ad 0 ec fi9) : MI l D cy sz n ad y_Ct_endsOfRow c_Ct_endsOfRow 5 (some .int) ({ frames := 1, cells := 0, slots := 0, locals := 30 } : Room) mem [.ref (ad 223), fi9, .int (nI i0)] (fun r mem' => mem' = mem) := by
  rcases hfi with rfl | ⟨j, -, hj, rfl⟩
  · exact m_Ct_endsOfRowN l hn hI hC hi0
  · exact m_Ct_endsOfRowR l hn hI hC hi0 hj
set_option maxHeartbeats 4000000 in
set_option maxRecDepth 100000 in
theorem m_Ct_endsOfRepetition (l : Launch) {D : va_G} {cy : Nat → ClassId} {sz n : Nat} {ad : Nat → Nat} {mem : Nat → va_E} {I lim rc ec : Nat} {wh fl : Int32} {m0 : Nat → va_E} {k : Nat} {i0 : Nat} (hn : 224 ≤ n) (hI : IX cy ad I m0) (hC : CS cy ad lim rc ec wh fl m0 mem) (hi0 : i0 ≤ I) (hk : k < ec) : MI l D cy sz n ad y_Ct_endsOfRepetition c_Ct_endsOfRepetition 8 (some .int) ({ frames := 1, cells := 0, slots := 0, locals := 30 } : Room) mem [.ref (ad 223), .ref (ad (20 + 2 * k)), .int (nI i0)] (fun r mem' => mem' = mem) := by
  refine Met.ofW (cc := c_Ct_endsOfRepetition) (maxL := 8) (ret := (some .int)) (by decide) rfl ?_
  intro p e s m args below meth c s₁ B hml hv
  obtain ⟨rfl, E, hP, hD⟩ := hv
  have hx := B.exec
  have hb := B.bytes
  have hr := B.returns
  have hlocks := B.notSynchronized
  have Bx : MB p s m [.ref (ad 223), .ref (ad (20 + 2 * k)), .int (nI i0)].toArray c c_Ct_endsOfRepetition "AbnfChart$Chart" D cy := ⟨hx, hb, tb_all (atoms_spec B.pre) E.2.1, findClass_of_methodNamed B.named, E.1⟩
  have hS : va_S (Az sz) s.heap s.heap [] := va_S.rf
  have hl := lv_entry ([.ref (ad 223), .ref (ad (20 + 2 * k)), .int (nI i0)]) (n := 8) (Nat.le_of_ble_eq_true rfl)
  rw [lg_entry_eq]
  generalize (lg_sl ([.ref (ad 223), .ref (ad (20 + 2 * k)), .int (nI i0)]) ++ List.replicate (8 - (lg_sl ([.ref (ad 223), .ref (ad (20 + 2 * k)), .int (nI i0)])).length) Slot.unset).toArray = ls at hl ⊢
  have hl : lv_has ls 8 [(0, .ref (ad 223)), (1, .ref (ad (20 + 2 * k))), (2, .int (nI i0))] := hl
  have h3_1 : mem 3 = .inr (0, [.ref (ad 4), .int (nI I)]) := (hC.2.2 3 (by omega)).trans hI.1
  obtain ⟨gi3, h4_2⟩ := hI.2.2
  have h4_2 : mem 4 = .inl (cy 0, 24, .inl gi3) := (hC.2.2 4 (by omega)).trans h4_2
  have h223_5 : mem 223 = .inr (1, [.ref (ad 3), .ref (ad 5), .int fl]) := (hC.2.2 223 (by omega)).trans hC.2.1
  have h5_4 := hC.1.2.1
  have hbd11 := hC.1.1
  have hbI12 := hI.2.1
  obtain ⟨S6, g7, hS_8, h220_9, h221_10⟩ := hC.1.2.2.2.2.2.2
  obtain ⟨k13, lo14, hi15, as16, pa17, ne18, he_19, ho_20⟩ := (hC.1.2.2.2.2.2.1 k (by omega)).1
  refine lv_iconst (v := 1) Bx.1 Bx.2.1 d_Ct_endsOfRepetition_0 (by decide) ?_
  refine lv_iload_n Bx.1 Bx.2.1 d_Ct_endsOfRepetition_1 rfl (lv_at hl 2 rfl) ?_
  refine lv_ishl Bx.1 Bx.2.1 d_Ct_endsOfRepetition_2 ?_
  refine lv_istore_n (lv' := [(3, .int ((1) <<< ((nI i0) &&& 31))), (0, .ref (ad 223)), (1, .ref (ad (20 + 2 * k))), (2, .int (nI i0))]) Bx.1 Bx.2.1 d_Ct_endsOfRepetition_3 rfl hl (by decide) rfl (fun ls hl => ?_)
  refine lv_iconst (v := 0) Bx.1 Bx.2.1 d_Ct_endsOfRepetition_4 (by decide) ?_
  refine lv_istore (lv' := [(4, .int (0)), (3, .int ((1) <<< ((nI i0) &&& 31))), (0, .ref (ad 223)), (1, .ref (ad (20 + 2 * k))), (2, .int (nI i0))]) Bx.1 Bx.2.1 d_Ct_endsOfRepetition_5 hl (by decide) rfl (fun ls hl => ?_)
  have loop21 : ∀ (d22 : Nat) (kk : Int32) (en : Int32) (ls : Array Slot) (H : Heap) (locs : List Loc), (((lo14 : Int32).toInt - kk.toInt).toNat < d22) → (va_P D vcl (fw n ad mem) H) → (va_D (Az sz) (fw n ad mem)) → (va_S (Az sz) s.heap H locs) → (lv_has ls 8 [(4, .int (kk)), (3, .int (en)), (0, .ref (ad 223)), (1, .ref (ad (20 + 2 * k))), (2, .int (nI i0))]) → W p l e (headSpec (Cond.code y_Ct_endsOfRepetition c_Ct_endsOfRepetition 8 (some .int) :: tg) ({ frames := 1, cells := 0, slots := 0, locals := 30 } : Room)).room s m [.ref (ad 223), .ref (ad (20 + 2 * k)), .int (nI i0)].toArray below meth c H locs 0 0 (MQ below (va_Qi (fun r mem' => mem' = mem) (PP D n ad) (Az sz)) [.ref (ad 223), .ref (ad (20 + 2 * k)), .int (nI i0)].toArray s 0 0 (Az sz)) (F0 m 7 ls []) := by
    intro d22
    induction d22 with
    | zero => intro kk en ls H locs hmeas24; exact absurd hmeas24 (Nat.not_lt_zero _)
    | succ d22 ih23 =>
      intro kk en ls H locs hmeas24  hP hD hS hl
      refine lv_iload Bx.1 Bx.2.1 d_Ct_endsOfRepetition_7 (lv_at hl 0 rfl) ?_
      refine lv_aload_n Bx.1 Bx.2.1 d_Ct_endsOfRepetition_9 rfl (lv_at hl 3 rfl) ?_
      refine f_getN Bx hP (by omega) he_19 rfl inEl 1 (by decide) kw_78 rfl rfl d_Ct_endsOfRepetition_10 ?_
      refine lv_icmp_ge Bx.1 Bx.2.1 d_Ct_endsOfRepetition_13 rfl (fun hk9 => ?_) (fun hk9 => ?_)
      · refine lv_aload_n Bx.1 Bx.2.1 d_Ct_endsOfRepetition_33 rfl (lv_at hl 3 rfl) ?_
        refine f_getN Bx hP (by omega) he_19 rfl inEl 2 (by decide) kw_81 rfl rfl d_Ct_endsOfRepetition_34 ?_
        refine lv_iconst (v := -1) Bx.1 Bx.2.1 d_Ct_endsOfRepetition_37 (by decide) ?_
        have J26 : ∀ (jv25 : Int32) (H : Heap) (locs : List Loc), va_P D vcl (fw n ad mem) H → va_D (Az sz) (fw n ad mem) → va_S (Az sz) s.heap H locs → W p l e (headSpec (Cond.code y_Ct_endsOfRepetition c_Ct_endsOfRepetition 8 (some .int) :: tg) ({ frames := 1, cells := 0, slots := 0, locals := 30 } : Room)).room s m [.ref (ad 223), .ref (ad (20 + 2 * k)), .int (nI i0)].toArray below meth c H locs 0 0 (MQ below (va_Qi (fun r mem' => mem' = mem) (PP D n ad) (Az sz)) [.ref (ad 223), .ref (ad (20 + 2 * k)), .int (nI i0)].toArray s 0 0 (Az sz)) (F0 m 60 ls [.int (jv25)]) := by
          intro jv25 H locs hP hD hS
          refine lv_istore (lv' := [(4, .int (jv25)), (3, .int (en)), (0, .ref (ad 223)), (1, .ref (ad (20 + 2 * k))), (2, .int (nI i0))]) Bx.1 Bx.2.1 d_Ct_endsOfRepetition_60 hl (by decide) rfl (fun ls hl => ?_)
          refine lv_iconst (v := 1) Bx.1 Bx.2.1 d_Ct_endsOfRepetition_62 (by decide) ?_
          refine lv_istore (lv' := [(5, .int (1)), (4, .int (jv25)), (3, .int (en)), (0, .ref (ad 223)), (1, .ref (ad (20 + 2 * k))), (2, .int (nI i0))]) Bx.1 Bx.2.1 d_Ct_endsOfRepetition_63 hl (by decide) rfl (fun ls hl => ?_)
          refine lv_iconst (v := 0) Bx.1 Bx.2.1 d_Ct_endsOfRepetition_65 (by decide) ?_
          refine lv_istore (lv' := [(6, .int (0)), (5, .int (1)), (4, .int (jv25)), (3, .int (en)), (0, .ref (ad 223)), (1, .ref (ad (20 + 2 * k))), (2, .int (nI i0))]) Bx.1 Bx.2.1 d_Ct_endsOfRepetition_66 hl (by decide) rfl (fun ls hl => ?_)
          have loop27 : ∀ (d28 : Nat) (kk : Int32) (en : Int32) (mo : Int32) (ls : Array Slot) (H : Heap) (locs : List Loc), (((jv25 : Int32).toInt - kk.toInt).toNat < d28) → (va_P D vcl (fw n ad mem) H) → (va_D (Az sz) (fw n ad mem)) → (va_S (Az sz) s.heap H locs) → (lv_has ls 8 [(6, .int (kk)), (5, .int (mo)), (4, .int (jv25)), (3, .int (en)), (0, .ref (ad 223)), (1, .ref (ad (20 + 2 * k))), (2, .int (nI i0))]) → W p l e (headSpec (Cond.code y_Ct_endsOfRepetition c_Ct_endsOfRepetition 8 (some .int) :: tg) ({ frames := 1, cells := 0, slots := 0, locals := 30 } : Room)).room s m [.ref (ad 223), .ref (ad (20 + 2 * k)), .int (nI i0)].toArray below meth c H locs 0 0 (MQ below (va_Qi (fun r mem' => mem' = mem) (PP D n ad) (Az sz)) [.ref (ad 223), .ref (ad (20 + 2 * k)), .int (nI i0)].toArray s 0 0 (Az sz)) (F0 m 68 ls []) := by
            intro d28
            induction d28 with
            | zero => intro kk en mo ls H locs hmeas30; exact absurd hmeas30 (Nat.not_lt_zero _)
            | succ d28 ih29 =>
              intro kk en mo ls H locs hmeas30  hP hD hS hl
              refine lv_iload Bx.1 Bx.2.1 d_Ct_endsOfRepetition_68 (lv_at hl 0 rfl) ?_
              refine lv_iload Bx.1 Bx.2.1 d_Ct_endsOfRepetition_70 (lv_at hl 2 rfl) ?_
              refine lv_icmp_ge Bx.1 Bx.2.1 d_Ct_endsOfRepetition_72 rfl (fun hk9 => ?_) (fun hk9 => ?_)
              · refine lv_iload_n Bx.1 Bx.2.1 d_Ct_endsOfRepetition_115 rfl (lv_at hl 3 rfl) ?_
                exact W.iret (v := en) hx hb hr (fun t ht hW => ⟨⟨en, mem, rfl, rfl, by show va_P _ _ _ t.heap; rw [ht]; exact hP⟩, hS.F ht⟩) hS.2.2 d_Ct_endsOfRepetition_116
              · refine lv_iload Bx.1 Bx.2.1 d_Ct_endsOfRepetition_75 (lv_at hl 1 rfl) ?_
                refine lv_if_eq Bx.1 Bx.2.1 d_Ct_endsOfRepetition_77 rfl (fun h8 => ?_) (fun h8 => ?_)
                · refine lv_iload_n Bx.1 Bx.2.1 d_Ct_endsOfRepetition_115 rfl (lv_at hl 3 rfl) ?_
                  exact W.iret (v := en) hx hb hr (fun t ht hW => ⟨⟨en, mem, rfl, rfl, by show va_P _ _ _ t.heap; rw [ht]; exact hP⟩, hS.F ht⟩) hS.2.2 d_Ct_endsOfRepetition_116
                · refine lv_iload_n Bx.1 Bx.2.1 d_Ct_endsOfRepetition_80 rfl (lv_at hl 3 rfl) ?_
                  refine lv_istore (lv' := [(7, .int (en)), (6, .int (kk)), (5, .int (mo)), (4, .int (jv25)), (3, .int (en)), (0, .ref (ad 223)), (1, .ref (ad (20 + 2 * k))), (2, .int (nI i0))]) Bx.1 Bx.2.1 d_Ct_endsOfRepetition_81 hl (by decide) rfl (fun ls hl => ?_)
                  refine lv_iload_n Bx.1 Bx.2.1 d_Ct_endsOfRepetition_83 rfl (lv_at hl 4 rfl) ?_
                  refine lv_aload_n Bx.1 Bx.2.1 d_Ct_endsOfRepetition_84 rfl (lv_at hl 5 rfl) ?_
                  refine lv_iload_n Bx.1 Bx.2.1 d_Ct_endsOfRepetition_85 rfl (lv_at hl 4 rfl) ?_
                  refine lv_aload_n Bx.1 Bx.2.1 d_Ct_endsOfRepetition_86 rfl (lv_at hl 6 rfl) ?_
                  refine f_getN Bx hP (by omega) he_19 rfl inEl 4 (by decide) kw_88 rfl rfl d_Ct_endsOfRepetition_87 ?_
                  refine lv_iload_n Bx.1 Bx.2.1 d_Ct_endsOfRepetition_90 rfl (lv_at hl 7 rfl) ?_
                  refine f_callVi (na := 3) (As := [.int (en), pa17, .int (nI i0)]) (rest := [.int (en)]) Bx hml E hP hD hS (by omega) h223_5 rfl (m_Ct_goOn l hn hI hC hi0 ((ho_20 hk).2.1.mono (by omega) (by omega))) kw_601 kw_603 sel_Ct_goOn kw_7 kw_604 (by decide +kernel) ⟨rfl, rfl⟩ ⟨Nat.le_of_ble_eq_true rfl, Nat.le_of_ble_eq_true rfl⟩ rfl hl.1 (Nat.le_of_ble_eq_true rfl) d_Ct_endsOfRepetition_91 ⟨Nat.le_of_ble_eq_true rfl, Nat.le_of_ble_eq_true rfl⟩ (fun r31 mem32 H locs hq hP hS => ?_)
                  have hD : va_D (Az sz) (fw n ad mem32) := fw_D hD
                  rw [hq] at hP hD
                  refine lv_ior Bx.1 Bx.2.1 d_Ct_endsOfRepetition_94 ?_
                  refine lv_istore_n (lv' := [(3, .int (en ||| r31)), (7, .int (en)), (6, .int (kk)), (5, .int (mo)), (4, .int (jv25)), (0, .ref (ad 223)), (1, .ref (ad (20 + 2 * k))), (2, .int (nI i0))]) Bx.1 Bx.2.1 d_Ct_endsOfRepetition_95 rfl hl (by decide) rfl (fun ls hl => ?_)
                  refine lv_iload_n Bx.1 Bx.2.1 d_Ct_endsOfRepetition_96 rfl (lv_at hl 0 rfl) ?_
                  refine lv_iload Bx.1 Bx.2.1 d_Ct_endsOfRepetition_97 (lv_at hl 1 rfl) ?_
                  have J34 : ∀ (jv33 : Int32) (H : Heap) (locs : List Loc), va_P D vcl (fw n ad mem) H → va_D (Az sz) (fw n ad mem) → va_S (Az sz) s.heap H locs → W p l e (headSpec (Cond.code y_Ct_endsOfRepetition c_Ct_endsOfRepetition 8 (some .int) :: tg) ({ frames := 1, cells := 0, slots := 0, locals := 30 } : Room)).room s m [.ref (ad 223), .ref (ad (20 + 2 * k)), .int (nI i0)].toArray below meth c H locs 0 0 (MQ below (va_Qi (fun r mem' => mem' = mem) (PP D n ad) (Az sz)) [.ref (ad 223), .ref (ad (20 + 2 * k)), .int (nI i0)].toArray s 0 0 (Az sz)) (F0 m 107 ls [.int (jv33)]) := by
                    intro jv33 H locs hP hD hS
                    refine lv_istore (lv' := [(5, .int (jv33)), (3, .int (en ||| r31)), (7, .int (en)), (6, .int (kk)), (4, .int (jv25)), (0, .ref (ad 223)), (1, .ref (ad (20 + 2 * k))), (2, .int (nI i0))]) Bx.1 Bx.2.1 d_Ct_endsOfRepetition_107 hl (by decide) rfl (fun ls hl => ?_)
                    refine lv_iinc (lv' := [(6, .int ((kk + (1)))), (5, .int (jv33)), (3, .int (en ||| r31)), (7, .int (en)), (4, .int (jv25)), (0, .ref (ad 223)), (1, .ref (ad (20 + 2 * k))), (2, .int (nI i0))]) Bx.1 Bx.2.1 d_Ct_endsOfRepetition_109 hl (k := 3) rfl rfl (by decide) rfl (fun ls hl => ?_)
                    refine lv_goto Bx.1 Bx.2.1 d_Ct_endsOfRepetition_112 rfl ?_
                    exact ih29 ((kk + (1))) (en ||| r31) (jv33) _ _ _ (by have := hmeas30; have := inc_meas hk9; omega)  hP hD hS (lv_sub hl [0, 1, 4, 2, 5, 6, 7] rfl)
                  refine lv_icmp_eq Bx.1 Bx.2.1 d_Ct_endsOfRepetition_99 rfl (fun h8 => ?_) (fun h8 => ?_)
                  · refine lv_iconst (v := 0) Bx.1 Bx.2.1 d_Ct_endsOfRepetition_106 (by decide) ?_
                    exact J34 _ _ _ hP hD hS
                  · refine lv_iconst (v := 1) Bx.1 Bx.2.1 d_Ct_endsOfRepetition_102 (by decide) ?_
                    refine lv_goto Bx.1 Bx.2.1 d_Ct_endsOfRepetition_103 rfl ?_
                    exact J34 _ _ _ hP hD hS
          exact loop27 _ (0) (en) (1) _ _ _ (Nat.lt_succ_self _)  hP hD hS (lv_sub hl [0, 1, 2, 3, 4, 5, 6] rfl)
        refine lv_icmp_ne Bx.1 Bx.2.1 d_Ct_endsOfRepetition_38 rfl (fun h8 => ?_) (fun h8 => ?_)
        · refine lv_aload_n Bx.1 Bx.2.1 d_Ct_endsOfRepetition_51 rfl (lv_at hl 3 rfl) ?_
          refine f_getN Bx hP (by omega) he_19 rfl inEl 2 (by decide) kw_81 rfl rfl d_Ct_endsOfRepetition_52 ?_
          refine lv_aload_n Bx.1 Bx.2.1 d_Ct_endsOfRepetition_55 rfl (lv_at hl 3 rfl) ?_
          refine f_getN Bx hP (by omega) he_19 rfl inEl 1 (by decide) kw_78 rfl rfl d_Ct_endsOfRepetition_56 ?_
          refine lv_isub Bx.1 Bx.2.1 d_Ct_endsOfRepetition_59 ?_
          exact J26 _ _ _ hP hD hS
        · refine lv_aload_n Bx.1 Bx.2.1 d_Ct_endsOfRepetition_41 rfl (lv_at hl 2 rfl) ?_
          refine f_get Bx hP (by omega) h223_5 rfl inCt 0 (by decide) kw_164 rfl rfl d_Ct_endsOfRepetition_42 ?_
          refine f_getN Bx hP (by omega) h3_1 rfl inCh 1 (by decide) kw_35 rfl rfl d_Ct_endsOfRepetition_45 ?_
          refine lv_goto Bx.1 Bx.2.1 d_Ct_endsOfRepetition_48 rfl ?_
          exact J26 _ _ _ hP hD hS
      · refine lv_aload_n Bx.1 Bx.2.1 d_Ct_endsOfRepetition_16 rfl (lv_at hl 2 rfl) ?_
        refine lv_iload_n Bx.1 Bx.2.1 d_Ct_endsOfRepetition_17 rfl (lv_at hl 1 rfl) ?_
        refine lv_aload_n Bx.1 Bx.2.1 d_Ct_endsOfRepetition_18 rfl (lv_at hl 3 rfl) ?_
        refine f_getN Bx hP (by omega) he_19 rfl inEl 4 (by decide) kw_88 rfl rfl d_Ct_endsOfRepetition_19 ?_
        refine lv_iload_n Bx.1 Bx.2.1 d_Ct_endsOfRepetition_22 rfl (lv_at hl 4 rfl) ?_
        refine f_callVi (na := 3) (As := [.int (en), pa17, .int (nI i0)]) (rest := []) Bx hml E hP hD hS (by omega) h223_5 rfl (m_Ct_goOn l hn hI hC hi0 ((ho_20 hk).2.1.mono (by omega) (by omega))) kw_601 kw_603 sel_Ct_goOn kw_7 kw_604 (by decide +kernel) ⟨rfl, rfl⟩ ⟨Nat.le_of_ble_eq_true rfl, Nat.le_of_ble_eq_true rfl⟩ rfl hl.1 (Nat.le_of_ble_eq_true rfl) d_Ct_endsOfRepetition_23 ⟨Nat.le_of_ble_eq_true rfl, Nat.le_of_ble_eq_true rfl⟩ (fun r35 mem36 H locs hq hP hS => ?_)
        have hD : va_D (Az sz) (fw n ad mem36) := fw_D hD
        rw [hq] at hP hD
        refine lv_istore_n (lv' := [(3, .int (r35)), (4, .int (kk)), (0, .ref (ad 223)), (1, .ref (ad (20 + 2 * k))), (2, .int (nI i0))]) Bx.1 Bx.2.1 d_Ct_endsOfRepetition_26 rfl hl (by decide) rfl (fun ls hl => ?_)
        refine lv_iinc (lv' := [(4, .int ((kk + (1)))), (3, .int (r35)), (0, .ref (ad 223)), (1, .ref (ad (20 + 2 * k))), (2, .int (nI i0))]) Bx.1 Bx.2.1 d_Ct_endsOfRepetition_27 hl (k := 1) rfl rfl (by decide) rfl (fun ls hl => ?_)
        refine lv_goto Bx.1 Bx.2.1 d_Ct_endsOfRepetition_30 rfl ?_
        exact ih23 ((kk + (1))) (r35) _ _ _ (by have := hmeas24; have := inc_meas hk9; omega)  hP hD hS (lv_sub hl [0, 1, 2, 3, 4] rfl)
  exact loop21 _ (0) ((1) <<< ((nI i0) &&& 31)) _ _ _ (Nat.lt_succ_self _)  hP hD hS (lv_sub hl [0, 1, 2, 3, 4] rfl)
set_option maxHeartbeats 4000000 in
set_option maxRecDepth 100000 in
theorem m_Ct_endsOfRuleN (l : Launch) {D : va_G} {cy : Nat → ClassId} {sz n : Nat} {ad : Nat → Nat} {mem : Nat → va_E} {I lim rc ec : Nat} {wh fl : Int32} {m0 : Nat → va_E} {i0 : Nat} (hn : 224 ≤ n) (hI : IX cy ad I m0) (hC : CS cy ad lim rc ec wh fl m0 mem) (hi0 : i0 ≤ I) : MI l D cy sz n ad y_Ct_endsOfRule c_Ct_endsOfRule 3 (some .int) ({ frames := 1, cells := 0, slots := 0, locals := 30 } : Room) mem [.ref (ad 223), .null, .int (nI i0)] (fun r mem' => mem' = mem) := by
  refine Met.ofW (cc := c_Ct_endsOfRule) (maxL := 3) (ret := (some .int)) (by decide) rfl ?_
  intro p e s m args below meth c s₁ B hml hv
  obtain ⟨rfl, E, hP, hD⟩ := hv
  have hx := B.exec
  have hb := B.bytes
  have hr := B.returns
  have hlocks := B.notSynchronized
  have Bx : MB p s m [.ref (ad 223), .null, .int (nI i0)].toArray c c_Ct_endsOfRule "AbnfChart$Chart" D cy := ⟨hx, hb, tb_all (atoms_spec B.pre) E.2.1, findClass_of_methodNamed B.named, E.1⟩
  have hS : va_S (Az sz) s.heap s.heap [] := va_S.rf
  have hl := lv_entry ([.ref (ad 223), .null, .int (nI i0)]) (n := 3) (Nat.le_of_ble_eq_true rfl)
  rw [lg_entry_eq]
  generalize (lg_sl ([.ref (ad 223), .null, .int (nI i0)]) ++ List.replicate (3 - (lg_sl ([.ref (ad 223), .null, .int (nI i0)])).length) Slot.unset).toArray = ls at hl ⊢
  have hl : lv_has ls 3 [(0, .ref (ad 223)), (1, .null), (2, .int (nI i0))] := hl
  have h3_1 : mem 3 = .inr (0, [.ref (ad 4), .int (nI I)]) := (hC.2.2 3 (by omega)).trans hI.1
  obtain ⟨gi3, h4_2⟩ := hI.2.2
  have h4_2 : mem 4 = .inl (cy 0, 24, .inl gi3) := (hC.2.2 4 (by omega)).trans h4_2
  have h223_5 : mem 223 = .inr (1, [.ref (ad 3), .ref (ad 5), .int fl]) := (hC.2.2 223 (by omega)).trans hC.2.1
  have h5_4 := hC.1.2.1
  have hbd11 := hC.1.1
  have hbI12 := hI.2.1
  obtain ⟨S6, g7, hS_8, h220_9, h221_10⟩ := hC.1.2.2.2.2.2.2
  refine lv_aload_nN Bx.1 Bx.2.1 d_Ct_endsOfRule_0 rfl (lv_at hl 1 rfl) ?_
  refine lv_ifnonnullN Bx.1 Bx.2.1 d_Ct_endsOfRule_1 ?_
  refine lv_iconst (v := 0) Bx.1 Bx.2.1 d_Ct_endsOfRule_4 (by decide) ?_
  refine lv_goto Bx.1 Bx.2.1 d_Ct_endsOfRule_5 rfl ?_
  exact W.iret (v := 0) hx hb hr (fun t ht hW => ⟨⟨0, mem, rfl, rfl, by show va_P _ _ _ t.heap; rw [ht]; exact hP⟩, hS.F ht⟩) hS.2.2 d_Ct_endsOfRule_17
set_option maxHeartbeats 4000000 in
set_option maxRecDepth 100000 in
theorem m_Ct_endsOfRuleR (l : Launch) {D : va_G} {cy : Nat → ClassId} {sz n : Nat} {ad : Nat → Nat} {mem : Nat → va_E} {I lim rc ec : Nat} {wh fl : Int32} {m0 : Nat → va_E} {i0 : Nat} {j : Nat} (hn : 224 ≤ n) (hI : IX cy ad I m0) (hC : CS cy ad lim rc ec wh fl m0 mem) (hi0 : i0 ≤ I) (hj : j < rc) : MI l D cy sz n ad y_Ct_endsOfRule c_Ct_endsOfRule 3 (some .int) ({ frames := 1, cells := 0, slots := 0, locals := 30 } : Room) mem [.ref (ad 223), .ref (ad (7 + j)), .int (nI i0)] (fun r mem' => mem' = mem) := by
  refine Met.ofW (cc := c_Ct_endsOfRule) (maxL := 3) (ret := (some .int)) (by decide) rfl ?_
  intro p e s m args below meth c s₁ B hml hv
  obtain ⟨rfl, E, hP, hD⟩ := hv
  have hx := B.exec
  have hb := B.bytes
  have hr := B.returns
  have hlocks := B.notSynchronized
  have Bx : MB p s m [.ref (ad 223), .ref (ad (7 + j)), .int (nI i0)].toArray c c_Ct_endsOfRule "AbnfChart$Chart" D cy := ⟨hx, hb, tb_all (atoms_spec B.pre) E.2.1, findClass_of_methodNamed B.named, E.1⟩
  have hS : va_S (Az sz) s.heap s.heap [] := va_S.rf
  have hl := lv_entry ([.ref (ad 223), .ref (ad (7 + j)), .int (nI i0)]) (n := 3) (Nat.le_of_ble_eq_true rfl)
  rw [lg_entry_eq]
  generalize (lg_sl ([.ref (ad 223), .ref (ad (7 + j)), .int (nI i0)]) ++ List.replicate (3 - (lg_sl ([.ref (ad 223), .ref (ad (7 + j)), .int (nI i0)])).length) Slot.unset).toArray = ls at hl ⊢
  have hl : lv_has ls 3 [(0, .ref (ad 223)), (1, .ref (ad (7 + j))), (2, .int (nI i0))] := hl
  have h3_1 : mem 3 = .inr (0, [.ref (ad 4), .int (nI I)]) := (hC.2.2 3 (by omega)).trans hI.1
  obtain ⟨gi3, h4_2⟩ := hI.2.2
  have h4_2 : mem 4 = .inl (cy 0, 24, .inl gi3) := (hC.2.2 4 (by omega)).trans h4_2
  have h223_5 : mem 223 = .inr (1, [.ref (ad 3), .ref (ad 5), .int fl]) := (hC.2.2 223 (by omega)).trans hC.2.1
  have h5_4 := hC.1.2.1
  have hbd11 := hC.1.1
  have hbI12 := hI.2.1
  obtain ⟨S6, g7, hS_8, h220_9, h221_10⟩ := hC.1.2.2.2.2.2.2
  refine lv_aload_n Bx.1 Bx.2.1 d_Ct_endsOfRule_0 rfl (lv_at hl 1 rfl) ?_
  refine lv_ifnonnull Bx.1 Bx.2.1 d_Ct_endsOfRule_1 rfl ?_
  obtain ⟨nm9, v9, w9, hru9, hro9⟩ := hC.1.2.2.2.2.1 j (by omega)
  refine lv_aload_n Bx.1 Bx.2.1 d_Ct_endsOfRule_8 rfl (lv_at hl 0 rfl) ?_
  refine lv_aload_n Bx.1 Bx.2.1 d_Ct_endsOfRule_9 rfl (lv_at hl 1 rfl) ?_
  refine f_getN Bx hP (by omega) hru9 rfl inRu 1 (by decide) kw_58 rfl rfl d_Ct_endsOfRule_10 ?_
  refine lv_iload_n Bx.1 Bx.2.1 d_Ct_endsOfRule_13 rfl (lv_at hl 2 rfl) ?_
  refine f_callVi (na := 2) (As := [v9, .int (nI i0)]) (rest := []) Bx hml E hP hD hS (by omega) h223_5 rfl (m_Ct_endsOfAny l hn hI hC hi0 ((hro9 hj).1.mono (by omega) (by omega))) kw_593 kw_595 sel_Ct_endsOfAny kw_7 kw_596 (by decide +kernel) ⟨rfl, rfl⟩ ⟨Nat.le_of_ble_eq_true rfl, Nat.le_of_ble_eq_true rfl⟩ rfl hl.1 (Nat.le_of_ble_eq_true rfl) d_Ct_endsOfRule_14 ⟨Nat.le_of_ble_eq_true rfl, Nat.le_of_ble_eq_true rfl⟩ (fun r13 mem14 H locs hq hP hS => ?_)
  have hD : va_D (Az sz) (fw n ad mem14) := fw_D hD
  rw [hq] at hP hD
  exact W.iret (v := r13) hx hb hr (fun t ht hW => ⟨⟨r13, mem, rfl, rfl, by show va_P _ _ _ t.heap; rw [ht]; exact hP⟩, hS.F ht⟩) hS.2.2 d_Ct_endsOfRule_17
theorem m_Ct_endsOfRule (l : Launch) {D : va_G} {cy : Nat → ClassId} {sz n : Nat} {ad : Nat → Nat} {mem : Nat → va_E} {I lim rc ec : Nat} {wh fl : Int32} {m0 : Nat → va_E} {i0 : Nat} {ru9 : Value} (hn : 224 ≤ n) (hI : IX cy ad I m0) (hC : CS cy ad lim rc ec wh fl m0 mem) (hi0 : i0 ≤ I) (hru : oR ad rc ru9) : MI l D cy sz n ad y_Ct_endsOfRule c_Ct_endsOfRule 3 (some .int) ({ frames := 1, cells := 0, slots := 0, locals := 30 } : Room) mem [.ref (ad 223), ru9, .int (nI i0)] (fun r mem' => mem' = mem) := by
  rcases hru with rfl | ⟨j, hj, rfl⟩
  · exact m_Ct_endsOfRuleN l hn hI hC hi0
  · exact m_Ct_endsOfRuleR l hn hI hC hi0 hj
set_option maxHeartbeats 4000000 in
set_option maxRecDepth 100000 in
theorem m_Ct_endsOfParts (l : Launch) {D : va_G} {cy : Nat → ClassId} {sz n : Nat} {ad : Nat → Nat} {mem : Nat → va_E} {I lim rc ec : Nat} {wh fl : Int32} {m0 : Nat → va_E} {k : Nat} {i0 : Nat} (hn : 224 ≤ n) (hI : IX cy ad I m0) (hC : CS cy ad lim rc ec wh fl m0 mem) (hi0 : i0 ≤ I) (hk : k < ec) : MI l D cy sz n ad y_Ct_endsOfParts c_Ct_endsOfParts 3 (some .int) ({ frames := 2, cells := 0, slots := 0, locals := 60 } : Room) mem [.ref (ad 223), .ref (ad (20 + 2 * k)), .int (nI i0)] (fun r mem' => mem' = mem) := by
  refine Met.ofW (cc := c_Ct_endsOfParts) (maxL := 3) (ret := (some .int)) (by decide) rfl ?_
  intro p e s m args below meth c s₁ B hml hv
  obtain ⟨rfl, E, hP, hD⟩ := hv
  have hx := B.exec
  have hb := B.bytes
  have hr := B.returns
  have hlocks := B.notSynchronized
  have Bx : MB p s m [.ref (ad 223), .ref (ad (20 + 2 * k)), .int (nI i0)].toArray c c_Ct_endsOfParts "AbnfChart$Chart" D cy := ⟨hx, hb, tb_all (atoms_spec B.pre) E.2.1, findClass_of_methodNamed B.named, E.1⟩
  have hS : va_S (Az sz) s.heap s.heap [] := va_S.rf
  have hl := lv_entry ([.ref (ad 223), .ref (ad (20 + 2 * k)), .int (nI i0)]) (n := 3) (Nat.le_of_ble_eq_true rfl)
  rw [lg_entry_eq]
  generalize (lg_sl ([.ref (ad 223), .ref (ad (20 + 2 * k)), .int (nI i0)]) ++ List.replicate (3 - (lg_sl ([.ref (ad 223), .ref (ad (20 + 2 * k)), .int (nI i0)])).length) Slot.unset).toArray = ls at hl ⊢
  have hl : lv_has ls 3 [(0, .ref (ad 223)), (1, .ref (ad (20 + 2 * k))), (2, .int (nI i0))] := hl
  have h3_1 : mem 3 = .inr (0, [.ref (ad 4), .int (nI I)]) := (hC.2.2 3 (by omega)).trans hI.1
  obtain ⟨gi3, h4_2⟩ := hI.2.2
  have h4_2 : mem 4 = .inl (cy 0, 24, .inl gi3) := (hC.2.2 4 (by omega)).trans h4_2
  have h223_5 : mem 223 = .inr (1, [.ref (ad 3), .ref (ad 5), .int fl]) := (hC.2.2 223 (by omega)).trans hC.2.1
  have h5_4 := hC.1.2.1
  have hbd11 := hC.1.1
  have hbI12 := hI.2.1
  obtain ⟨S6, g7, hS_8, h220_9, h221_10⟩ := hC.1.2.2.2.2.2.2
  obtain ⟨k13, lo14, hi15, as16, pa17, ne18, he_19, ho_20⟩ := (hC.1.2.2.2.2.2.1 k (by omega)).1
  refine lv_aload_n Bx.1 Bx.2.1 d_Ct_endsOfParts_0 rfl (lv_at hl 1 rfl) ?_
  refine f_getN Bx hP (by omega) he_19 rfl inEl 0 (by decide) kw_75 rfl rfl d_Ct_endsOfParts_1 ?_
  refine lv_topi (fun kd21 e_kd21 => ?_)
  by_cases c0 : kd21 = 0
  · rw [c0]
    refine lv_tableIn Bx.1 Bx.2.1 d_Ct_endsOfParts_4 (by decide) (by decide) (off := 36) (by decide) (tgt := 40) rfl ?_
    refine lv_aload_n Bx.1 Bx.2.1 d_Ct_endsOfParts_40 rfl (lv_at hl 0 rfl) ?_
    refine lv_aload_n Bx.1 Bx.2.1 d_Ct_endsOfParts_41 rfl (lv_at hl 1 rfl) ?_
    refine f_getN Bx hP (by omega) he_19 rfl inEl 4 (by decide) kw_88 rfl rfl d_Ct_endsOfParts_42 ?_
    refine lv_iload_n Bx.1 Bx.2.1 d_Ct_endsOfParts_45 rfl (lv_at hl 2 rfl) ?_
    refine f_callVi (na := 2) (As := [pa17, .int (nI i0)]) (rest := []) Bx hml E hP hD hS (by omega) h223_5 rfl (m_Ct_endsOfAny l hn hI hC hi0 ((ho_20 hk).2.1.mono (by omega) (by omega))) kw_593 kw_595 sel_Ct_endsOfAny kw_7 kw_596 (by decide +kernel) ⟨rfl, rfl⟩ ⟨Nat.le_of_ble_eq_true rfl, Nat.le_of_ble_eq_true rfl⟩ rfl hl.1 (Nat.le_of_ble_eq_true rfl) d_Ct_endsOfParts_46 ⟨Nat.le_of_ble_eq_true rfl, Nat.le_of_ble_eq_true rfl⟩ (fun r22 mem23 H locs hq hP hS => ?_)
    have hD : va_D (Az sz) (fw n ad mem23) := fw_D hD
    rw [hq] at hP hD
    exact W.iret (v := r22) hx hb hr (fun t ht hW => ⟨⟨r22, mem, rfl, rfl, by show va_P _ _ _ t.heap; rw [ht]; exact hP⟩, hS.F ht⟩) hS.2.2 d_Ct_endsOfParts_49
  by_cases c1 : kd21 = 1
  · rw [c1]
    refine lv_tableIn Bx.1 Bx.2.1 d_Ct_endsOfParts_4 (by decide) (by decide) (off := 46) (by decide) (tgt := 50) rfl ?_
    refine lv_aload_n Bx.1 Bx.2.1 d_Ct_endsOfParts_50 rfl (lv_at hl 0 rfl) ?_
    refine lv_aload_n Bx.1 Bx.2.1 d_Ct_endsOfParts_51 rfl (lv_at hl 1 rfl) ?_
    refine f_getN Bx hP (by omega) he_19 rfl inEl 4 (by decide) kw_88 rfl rfl d_Ct_endsOfParts_52 ?_
    refine lv_iload_n Bx.1 Bx.2.1 d_Ct_endsOfParts_55 rfl (lv_at hl 2 rfl) ?_
    refine f_callVi (na := 2) (As := [pa17, .int (nI i0)]) (rest := []) Bx hml E hP hD hS (by omega) h223_5 rfl (m_Ct_endsOfRow l hn hI hC hi0 ((ho_20 hk).2.1.mono (by omega) (by omega))) kw_597 kw_599 sel_Ct_endsOfRow kw_7 kw_600 (by decide +kernel) ⟨rfl, rfl⟩ ⟨Nat.le_of_ble_eq_true rfl, Nat.le_of_ble_eq_true rfl⟩ rfl hl.1 (Nat.le_of_ble_eq_true rfl) d_Ct_endsOfParts_56 ⟨Nat.le_of_ble_eq_true rfl, Nat.le_of_ble_eq_true rfl⟩ (fun r24 mem25 H locs hq hP hS => ?_)
    have hD : va_D (Az sz) (fw n ad mem25) := fw_D hD
    rw [hq] at hP hD
    exact W.iret (v := r24) hx hb hr (fun t ht hW => ⟨⟨r24, mem, rfl, rfl, by show va_P _ _ _ t.heap; rw [ht]; exact hP⟩, hS.F ht⟩) hS.2.2 d_Ct_endsOfParts_59
  by_cases c2 : kd21 = 2
  · rw [c2]
    refine lv_tableIn Bx.1 Bx.2.1 d_Ct_endsOfParts_4 (by decide) (by decide) (off := 56) (by decide) (tgt := 60) rfl ?_
    refine lv_aload_n Bx.1 Bx.2.1 d_Ct_endsOfParts_60 rfl (lv_at hl 0 rfl) ?_
    refine lv_aload_n Bx.1 Bx.2.1 d_Ct_endsOfParts_61 rfl (lv_at hl 1 rfl) ?_
    refine lv_iload_n Bx.1 Bx.2.1 d_Ct_endsOfParts_62 rfl (lv_at hl 2 rfl) ?_
    refine f_callVi (na := 2) (As := [.ref (ad (20 + 2 * k)), .int (nI i0)]) (rest := []) Bx hml E hP hD hS (by omega) h223_5 rfl (m_Ct_endsOfRepetition l hn hI hC hi0 hk) kw_605 kw_607 sel_Ct_endsOfRepetition kw_7 kw_608 (by decide +kernel) ⟨rfl, rfl⟩ ⟨Nat.le_of_ble_eq_true rfl, Nat.le_of_ble_eq_true rfl⟩ rfl hl.1 (Nat.le_of_ble_eq_true rfl) d_Ct_endsOfParts_63 ⟨Nat.le_of_ble_eq_true rfl, Nat.le_of_ble_eq_true rfl⟩ (fun r26 mem27 H locs hq hP hS => ?_)
    have hD : va_D (Az sz) (fw n ad mem27) := fw_D hD
    rw [hq] at hP hD
    exact W.iret (v := r26) hx hb hr (fun t ht hW => ⟨⟨r26, mem, rfl, rfl, by show va_P _ _ _ t.heap; rw [ht]; exact hP⟩, hS.F ht⟩) hS.2.2 d_Ct_endsOfParts_66
  by_cases c3 : kd21 = 3
  · rw [c3]
    refine lv_tableIn Bx.1 Bx.2.1 d_Ct_endsOfParts_4 (by decide) (by decide) (off := 63) (by decide) (tgt := 67) rfl ?_
    refine lv_iconst (v := 1) Bx.1 Bx.2.1 d_Ct_endsOfParts_67 (by decide) ?_
    refine lv_iload_n Bx.1 Bx.2.1 d_Ct_endsOfParts_68 rfl (lv_at hl 2 rfl) ?_
    refine lv_ishl Bx.1 Bx.2.1 d_Ct_endsOfParts_69 ?_
    refine lv_aload_n Bx.1 Bx.2.1 d_Ct_endsOfParts_70 rfl (lv_at hl 0 rfl) ?_
    refine lv_iconst (v := 1) Bx.1 Bx.2.1 d_Ct_endsOfParts_71 (by decide) ?_
    refine lv_iload_n Bx.1 Bx.2.1 d_Ct_endsOfParts_72 rfl (lv_at hl 2 rfl) ?_
    refine lv_ishl Bx.1 Bx.2.1 d_Ct_endsOfParts_73 ?_
    refine lv_aload_n Bx.1 Bx.2.1 d_Ct_endsOfParts_74 rfl (lv_at hl 1 rfl) ?_
    refine f_getN Bx hP (by omega) he_19 rfl inEl 4 (by decide) kw_88 rfl rfl d_Ct_endsOfParts_75 ?_
    refine lv_iload_n Bx.1 Bx.2.1 d_Ct_endsOfParts_78 rfl (lv_at hl 2 rfl) ?_
    refine f_callVi (na := 3) (As := [.int ((1) <<< ((nI i0) &&& 31)), pa17, .int (nI i0)]) (rest := [.int ((1) <<< ((nI i0) &&& 31))]) Bx hml E hP hD hS (by omega) h223_5 rfl (m_Ct_goOn l hn hI hC hi0 ((ho_20 hk).2.1.mono (by omega) (by omega))) kw_601 kw_603 sel_Ct_goOn kw_7 kw_604 (by decide +kernel) ⟨rfl, rfl⟩ ⟨Nat.le_of_ble_eq_true rfl, Nat.le_of_ble_eq_true rfl⟩ rfl hl.1 (Nat.le_of_ble_eq_true rfl) d_Ct_endsOfParts_79 ⟨Nat.le_of_ble_eq_true rfl, Nat.le_of_ble_eq_true rfl⟩ (fun r28 mem29 H locs hq hP hS => ?_)
    have hD : va_D (Az sz) (fw n ad mem29) := fw_D hD
    rw [hq] at hP hD
    refine lv_ior Bx.1 Bx.2.1 d_Ct_endsOfParts_82 ?_
    exact W.iret (v := (1) <<< ((nI i0) &&& 31) ||| r28) hx hb hr (fun t ht hW => ⟨⟨(1) <<< ((nI i0) &&& 31) ||| r28, mem, rfl, rfl, by show va_P _ _ _ t.heap; rw [ht]; exact hP⟩, hS.F ht⟩) hS.2.2 d_Ct_endsOfParts_83
  by_cases c4 : kd21 = 4
  · rw [c4]
    refine lv_tableIn Bx.1 Bx.2.1 d_Ct_endsOfParts_4 (by decide) (by decide) (off := 80) (by decide) (tgt := 84) rfl ?_
    refine lv_aload_n Bx.1 Bx.2.1 d_Ct_endsOfParts_84 rfl (lv_at hl 0 rfl) ?_
    refine lv_aload_n Bx.1 Bx.2.1 d_Ct_endsOfParts_85 rfl (lv_at hl 1 rfl) ?_
    refine f_getN Bx hP (by omega) he_19 rfl inEl 3 (by decide) kw_84 rfl rfl d_Ct_endsOfParts_86 ?_
    refine lv_iload_n Bx.1 Bx.2.1 d_Ct_endsOfParts_89 rfl (lv_at hl 2 rfl) ?_
    refine f_callVi (na := 2) (As := [as16, .int (nI i0)]) (rest := []) Bx hml E hP hD hS (by omega) h223_5 rfl (m_Ct_endsOfRule l hn hI hC hi0 (ho_20 hk).1) kw_609 kw_611 sel_Ct_endsOfRule kw_7 kw_612 (by decide +kernel) ⟨rfl, rfl⟩ ⟨Nat.le_of_ble_eq_true rfl, Nat.le_of_ble_eq_true rfl⟩ rfl hl.1 (Nat.le_of_ble_eq_true rfl) d_Ct_endsOfParts_90 ⟨Nat.le_of_ble_eq_true rfl, Nat.le_of_ble_eq_true rfl⟩ (fun r30 mem31 H locs hq hP hS => ?_)
    have hD : va_D (Az sz) (fw n ad mem31) := fw_D hD
    rw [hq] at hP hD
    exact W.iret (v := r30) hx hb hr (fun t ht hW => ⟨⟨r30, mem, rfl, rfl, by show va_P _ _ _ t.heap; rw [ht]; exact hP⟩, hS.F ht⟩) hS.2.2 d_Ct_endsOfParts_93
  have hko : (kd21).toInt < 0 ∨ 4 < (kd21).toInt := by
    have q0 := lv_neT c0 (a := 0) (by decide)
    have q1 := lv_neT c1 (a := 1) (by decide)
    have q2 := lv_neT c2 (a := 2) (by decide)
    have q3 := lv_neT c3 (a := 3) (by decide)
    have q4 := lv_neT c4 (a := 4) (by decide)
    omega
  refine lv_tableOut Bx.1 Bx.2.1 d_Ct_endsOfParts_4 hko (tgt := 94) rfl ?_
  refine lv_aload_n Bx.1 Bx.2.1 d_Ct_endsOfParts_94 rfl (lv_at hl 1 rfl) ?_
  refine f_getN Bx hP (by omega) he_19 rfl inEl 6 (by decide) kw_94 rfl rfl d_Ct_endsOfParts_95 ?_
  refine lv_iload_n Bx.1 Bx.2.1 d_Ct_endsOfParts_98 rfl (lv_at hl 2 rfl) ?_
  obtain ⟨g32, hg33⟩ := (hC.1.2.2.2.2.2.1 k (by omega)).2
  refine f_iald Bx hP (by omega) hg33 (vp_in_nI (by omega) (by decide)) d_Ct_endsOfParts_99 ?_
  refine lv_topi (fun en34 e_en34 => ?_)
  exact W.iret (v := en34) hx hb hr (fun t ht hW => ⟨⟨en34, mem, rfl, rfl, by show va_P _ _ _ t.heap; rw [ht]; exact hP⟩, hS.F ht⟩) hS.2.2 d_Ct_endsOfParts_100
set_option maxHeartbeats 4000000 in
set_option maxRecDepth 100000 in
theorem m_Ct_isStringAt (l : Launch) {D : va_G} {cy : Nat → ClassId} {sz n : Nat} {ad : Nat → Nat} {mem : Nat → va_E} {I lim rc ec : Nat} {wh fl : Int32} {m0 : Nat → va_E} {k : Nat} {x0 : Int32} (hn : 224 ≤ n) (hI : IX cy ad I m0) (hC : CS cy ad lim rc ec wh fl m0 mem) (hk : k < ec) : MI l D cy sz n ad y_Ct_isStringAt c_Ct_isStringAt 6 (some .boolean) ({ frames := 1, cells := 0, slots := 0, locals := 30 } : Room) mem [.ref (ad 223), .ref (ad (20 + 2 * k)), .int (x0)] (fun r mem' => mem' = mem) := by
  refine Met.ofW (cc := c_Ct_isStringAt) (maxL := 6) (ret := (some .boolean)) (by decide) rfl ?_
  intro p e s m args below meth c s₁ B hml hv
  obtain ⟨rfl, E, hP, hD⟩ := hv
  have hx := B.exec
  have hb := B.bytes
  have hr := B.returns
  have hlocks := B.notSynchronized
  have Bx : MB p s m [.ref (ad 223), .ref (ad (20 + 2 * k)), .int (x0)].toArray c c_Ct_isStringAt "AbnfChart$Chart" D cy := ⟨hx, hb, tb_all (atoms_spec B.pre) E.2.1, findClass_of_methodNamed B.named, E.1⟩
  have hS : va_S (Az sz) s.heap s.heap [] := va_S.rf
  have hl := lv_entry ([.ref (ad 223), .ref (ad (20 + 2 * k)), .int (x0)]) (n := 6) (Nat.le_of_ble_eq_true rfl)
  rw [lg_entry_eq]
  generalize (lg_sl ([.ref (ad 223), .ref (ad (20 + 2 * k)), .int (x0)]) ++ List.replicate (6 - (lg_sl ([.ref (ad 223), .ref (ad (20 + 2 * k)), .int (x0)])).length) Slot.unset).toArray = ls at hl ⊢
  have hl : lv_has ls 6 [(0, .ref (ad 223)), (1, .ref (ad (20 + 2 * k))), (2, .int (x0))] := hl
  have h3_1 : mem 3 = .inr (0, [.ref (ad 4), .int (nI I)]) := (hC.2.2 3 (by omega)).trans hI.1
  obtain ⟨gi3, h4_2⟩ := hI.2.2
  have h4_2 : mem 4 = .inl (cy 0, 24, .inl gi3) := (hC.2.2 4 (by omega)).trans h4_2
  have h223_5 : mem 223 = .inr (1, [.ref (ad 3), .ref (ad 5), .int fl]) := (hC.2.2 223 (by omega)).trans hC.2.1
  have h5_4 := hC.1.2.1
  have hbd11 := hC.1.1
  have hbI12 := hI.2.1
  obtain ⟨S6, g7, hS_8, h220_9, h221_10⟩ := hC.1.2.2.2.2.2.2
  obtain ⟨k13, lo14, hi15, as16, pa17, ne18, he_19, ho_20⟩ := (hC.1.2.2.2.2.2.1 k (by omega)).1
  refine lv_aload_n Bx.1 Bx.2.1 d_Ct_isStringAt_0 rfl (lv_at hl 1 rfl) ?_
  refine f_getN Bx hP (by omega) he_19 rfl inEl 1 (by decide) kw_78 rfl rfl d_Ct_isStringAt_1 ?_
  refine lv_istore_n (lv' := [(3, .int (lo14)), (0, .ref (ad 223)), (1, .ref (ad (20 + 2 * k))), (2, .int (x0))]) Bx.1 Bx.2.1 d_Ct_isStringAt_4 rfl hl (by decide) rfl (fun ls hl => ?_)
  have loop21 : ∀ (d22 : Nat) (kk : Int32) (ls : Array Slot) (H : Heap) (locs : List Loc), (((hi15 : Int32).toInt - kk.toInt).toNat < d22) → (va_P D vcl (fw n ad mem) H) → (va_D (Az sz) (fw n ad mem)) → (va_S (Az sz) s.heap H locs) → (lv_has ls 6 [(3, .int (kk)), (0, .ref (ad 223)), (1, .ref (ad (20 + 2 * k))), (2, .int (x0))]) → W p l e (headSpec (Cond.code y_Ct_isStringAt c_Ct_isStringAt 6 (some .boolean) :: tg) ({ frames := 1, cells := 0, slots := 0, locals := 30 } : Room)).room s m [.ref (ad 223), .ref (ad (20 + 2 * k)), .int (x0)].toArray below meth c H locs 0 0 (MQ below (va_Qi (fun r mem' => mem' = mem) (PP D n ad) (Az sz)) [.ref (ad 223), .ref (ad (20 + 2 * k)), .int (x0)].toArray s 0 0 (Az sz)) (F0 m 5 ls []) := by
    intro d22
    induction d22 with
    | zero => intro kk ls H locs hmeas24; exact absurd hmeas24 (Nat.not_lt_zero _)
    | succ d22 ih23 =>
      intro kk ls H locs hmeas24  hP hD hS hl
      refine lv_iload_n Bx.1 Bx.2.1 d_Ct_isStringAt_5 rfl (lv_at hl 0 rfl) ?_
      refine lv_aload_n Bx.1 Bx.2.1 d_Ct_isStringAt_6 rfl (lv_at hl 2 rfl) ?_
      refine f_getN Bx hP (by omega) he_19 rfl inEl 2 (by decide) kw_81 rfl rfl d_Ct_isStringAt_7 ?_
      refine lv_icmp_ge Bx.1 Bx.2.1 d_Ct_isStringAt_10 rfl (fun hk9 => ?_) (fun hk9 => ?_)
      · refine lv_iconst (v := 1) Bx.1 Bx.2.1 d_Ct_isStringAt_80 (by decide) ?_
        exact W.zret (v := 1) hx hb hr rfl (fun t ht hW => ⟨⟨1, mem, rfl, rfl, by show va_P _ _ _ t.heap; rw [ht]; exact hP⟩, hS.F ht⟩) hS.2.2 d_Ct_isStringAt_81
      · refine lv_aload_n Bx.1 Bx.2.1 d_Ct_isStringAt_13 rfl (lv_at hl 1 rfl) ?_
        refine f_get Bx hP (by omega) h223_5 rfl inCt 1 (by decide) kw_165 rfl rfl d_Ct_isStringAt_14 ?_
        refine f_getN Bx hP (by omega) h5_4 rfl inGr 2 (by decide) kw_119 rfl rfl d_Ct_isStringAt_17 ?_
        refine lv_iload_n Bx.1 Bx.2.1 d_Ct_isStringAt_20 rfl (lv_at hl 0 rfl) ?_
        refine f_callVi (na := 1) (As := [.int (kk)]) (rest := []) Bx hml E hP hD hS (by omega) h220_9 rfl (m_Ch_codeAt l (by omega) h220_9 (by omega) h221_10 (by rw [nI_toInt (by omega)]; omega)) kw_583 kw_342 kw_343 kw_2 kw_344 (by decide +kernel) ⟨rfl, rfl⟩ ⟨Nat.le_of_ble_eq_true rfl, Nat.le_of_ble_eq_true rfl⟩ rfl hl.1 (Nat.le_of_ble_eq_true rfl) d_Ct_isStringAt_21 ⟨Nat.le_of_ble_eq_true rfl, Nat.le_of_ble_eq_true rfl⟩ (fun r25 mem26 H locs hq hP hS => ?_)
        have hD : va_D (Az sz) (fw n ad mem26) := fw_D hD
        rw [hq.2] at hP hD
        refine lv_istore (lv' := [(4, .int (r25)), (3, .int (kk)), (0, .ref (ad 223)), (1, .ref (ad (20 + 2 * k))), (2, .int (x0))]) Bx.1 Bx.2.1 d_Ct_isStringAt_24 hl (by decide) rfl (fun ls hl => ?_)
        refine lv_aload_n Bx.1 Bx.2.1 d_Ct_isStringAt_26 rfl (lv_at hl 2 rfl) ?_
        refine f_get Bx hP (by omega) h223_5 rfl inCt 0 (by decide) kw_164 rfl rfl d_Ct_isStringAt_27 ?_
        refine lv_iload_n Bx.1 Bx.2.1 d_Ct_isStringAt_30 rfl (lv_at hl 4 rfl) ?_
        refine lv_iload_n Bx.1 Bx.2.1 d_Ct_isStringAt_31 rfl (lv_at hl 1 rfl) ?_
        refine lv_iadd Bx.1 Bx.2.1 d_Ct_isStringAt_32 ?_
        refine lv_aload_n Bx.1 Bx.2.1 d_Ct_isStringAt_33 rfl (lv_at hl 3 rfl) ?_
        refine f_getN Bx hP (by omega) he_19 rfl inEl 1 (by decide) kw_78 rfl rfl d_Ct_isStringAt_34 ?_
        refine lv_isub Bx.1 Bx.2.1 d_Ct_isStringAt_37 ?_
        refine f_callVi (na := 1) (As := [.int (x0 + kk - lo14)]) (rest := []) Bx hml E hP hD hS (by omega) h3_1 rfl (m_Ch_codeAt l (by omega) h3_1 (by omega) h4_2 (by rw [nI_toInt (by omega)]; omega)) kw_583 kw_342 kw_343 kw_2 kw_344 (by decide +kernel) ⟨rfl, rfl⟩ ⟨Nat.le_of_ble_eq_true rfl, Nat.le_of_ble_eq_true rfl⟩ rfl hl.1 (Nat.le_of_ble_eq_true rfl) d_Ct_isStringAt_38 ⟨Nat.le_of_ble_eq_true rfl, Nat.le_of_ble_eq_true rfl⟩ (fun r27 mem28 H locs hq hP hS => ?_)
        have hD : va_D (Az sz) (fw n ad mem28) := fw_D hD
        rw [hq.2] at hP hD
        refine lv_istore (lv' := [(5, .int (r27)), (4, .int (r25)), (3, .int (kk)), (0, .ref (ad 223)), (1, .ref (ad (20 + 2 * k))), (2, .int (x0))]) Bx.1 Bx.2.1 d_Ct_isStringAt_41 hl (by decide) rfl (fun ls hl => ?_)
        refine lv_aload_n Bx.1 Bx.2.1 d_Ct_isStringAt_43 rfl (lv_at hl 4 rfl) ?_
        refine f_getN Bx hP (by omega) he_19 rfl inEl 0 (by decide) kw_75 rfl rfl d_Ct_isStringAt_44 ?_
        refine lv_iconst (v := 5) Bx.1 Bx.2.1 d_Ct_isStringAt_47 (by decide) ?_
        refine lv_icmp_ne Bx.1 Bx.2.1 d_Ct_isStringAt_48 rfl (fun h8 => ?_) (fun h8 => ?_)
        · refine lv_iload Bx.1 Bx.2.1 d_Ct_isStringAt_65 (lv_at hl 1 rfl) ?_
          refine lv_iload Bx.1 Bx.2.1 d_Ct_isStringAt_67 (lv_at hl 0 rfl) ?_
          refine lv_icmp_eq Bx.1 Bx.2.1 d_Ct_isStringAt_69 rfl (fun h8 => ?_) (fun h8 => ?_)
          · refine lv_iinc (lv' := [(3, .int ((kk + (1)))), (5, .int (r27)), (4, .int (r25)), (0, .ref (ad 223)), (1, .ref (ad (20 + 2 * k))), (2, .int (x0))]) Bx.1 Bx.2.1 d_Ct_isStringAt_74 hl (k := 2) rfl rfl (by decide) rfl (fun ls hl => ?_)
            refine lv_goto Bx.1 Bx.2.1 d_Ct_isStringAt_77 rfl ?_
            exact ih23 ((kk + (1))) _ _ _ (by have := hmeas24; have := inc_meas hk9; omega)  hP hD hS (lv_sub hl [0, 3, 4, 5] rfl)
          · refine lv_iconst (v := 0) Bx.1 Bx.2.1 d_Ct_isStringAt_72 (by decide) ?_
            exact W.zret (v := 0) hx hb hr rfl (fun t ht hW => ⟨⟨0, mem, rfl, rfl, by show va_P _ _ _ t.heap; rw [ht]; exact hP⟩, hS.F ht⟩) hS.2.2 d_Ct_isStringAt_73
        · refine lv_iload Bx.1 Bx.2.1 d_Ct_isStringAt_51 (lv_at hl 1 rfl) ?_
          refine f_callSNi (na := 1) (As := [.int (r25)]) (rest := []) Bx hml E.2.1 (m_Ab_smallOf l (r25)) kw_584 kw_373 kw_1 kw_374 (by decide +kernel) ⟨rfl, rfl⟩ ⟨Nat.le_of_ble_eq_true rfl, Nat.le_of_ble_eq_true rfl⟩ rfl hl.1 (Nat.le_of_ble_eq_true rfl) d_Ct_isStringAt_53 ⟨Nat.le_of_ble_eq_true rfl, Nat.le_of_ble_eq_true rfl⟩ (fun r30 hs29 => ?_)
          refine lv_istore (lv' := [(4, .int (r30)), (5, .int (r27)), (3, .int (kk)), (0, .ref (ad 223)), (1, .ref (ad (20 + 2 * k))), (2, .int (x0))]) Bx.1 Bx.2.1 d_Ct_isStringAt_56 hl (by decide) rfl (fun ls hl => ?_)
          refine lv_iload Bx.1 Bx.2.1 d_Ct_isStringAt_58 (lv_at hl 1 rfl) ?_
          refine f_callSNi (na := 1) (As := [.int (r27)]) (rest := []) Bx hml E.2.1 (m_Ab_smallOf l (r27)) kw_584 kw_373 kw_1 kw_374 (by decide +kernel) ⟨rfl, rfl⟩ ⟨Nat.le_of_ble_eq_true rfl, Nat.le_of_ble_eq_true rfl⟩ rfl hl.1 (Nat.le_of_ble_eq_true rfl) d_Ct_isStringAt_60 ⟨Nat.le_of_ble_eq_true rfl, Nat.le_of_ble_eq_true rfl⟩ (fun r32 hs31 => ?_)
          refine lv_istore (lv' := [(5, .int (r32)), (4, .int (r30)), (3, .int (kk)), (0, .ref (ad 223)), (1, .ref (ad (20 + 2 * k))), (2, .int (x0))]) Bx.1 Bx.2.1 d_Ct_isStringAt_63 hl (by decide) rfl (fun ls hl => ?_)
          refine lv_iload Bx.1 Bx.2.1 d_Ct_isStringAt_65 (lv_at hl 1 rfl) ?_
          refine lv_iload Bx.1 Bx.2.1 d_Ct_isStringAt_67 (lv_at hl 0 rfl) ?_
          refine lv_icmp_eq Bx.1 Bx.2.1 d_Ct_isStringAt_69 rfl (fun h8 => ?_) (fun h8 => ?_)
          · refine lv_iinc (lv' := [(3, .int ((kk + (1)))), (5, .int (r32)), (4, .int (r30)), (0, .ref (ad 223)), (1, .ref (ad (20 + 2 * k))), (2, .int (x0))]) Bx.1 Bx.2.1 d_Ct_isStringAt_74 hl (k := 2) rfl rfl (by decide) rfl (fun ls hl => ?_)
            refine lv_goto Bx.1 Bx.2.1 d_Ct_isStringAt_77 rfl ?_
            exact ih23 ((kk + (1))) _ _ _ (by have := hmeas24; have := inc_meas hk9; omega)  hP hD hS (lv_sub hl [0, 3, 4, 5] rfl)
          · refine lv_iconst (v := 0) Bx.1 Bx.2.1 d_Ct_isStringAt_72 (by decide) ?_
            exact W.zret (v := 0) hx hb hr rfl (fun t ht hW => ⟨⟨0, mem, rfl, rfl, by show va_P _ _ _ t.heap; rw [ht]; exact hP⟩, hS.F ht⟩) hS.2.2 d_Ct_isStringAt_73
  exact loop21 _ (lo14) _ _ _ (Nat.lt_succ_self _)  hP hD hS (lv_sub hl [0, 1, 2, 3] rfl)
set_option maxHeartbeats 4000000 in
set_option maxRecDepth 100000 in
theorem m_Ct_endsOfCharacters (l : Launch) {D : va_G} {cy : Nat → ClassId} {sz n : Nat} {ad : Nat → Nat} {mem : Nat → va_E} {I lim rc ec : Nat} {wh fl : Int32} {m0 : Nat → va_E} {k : Nat} {x0 : Int32} (hn : 224 ≤ n) (hI : IX cy ad I m0) (hC : CS cy ad lim rc ec wh fl m0 mem) (hk : k < ec) : MI l D cy sz n ad y_Ct_endsOfCharacters c_Ct_endsOfCharacters 4 (some .int) ({ frames := 2, cells := 0, slots := 0, locals := 60 } : Room) mem [.ref (ad 223), .ref (ad (20 + 2 * k)), .int (x0)] (fun r mem' => mem' = mem) := by
  refine Met.ofW (cc := c_Ct_endsOfCharacters) (maxL := 4) (ret := (some .int)) (by decide) rfl ?_
  intro p e s m args below meth c s₁ B hml hv
  obtain ⟨rfl, E, hP, hD⟩ := hv
  have hx := B.exec
  have hb := B.bytes
  have hr := B.returns
  have hlocks := B.notSynchronized
  have Bx : MB p s m [.ref (ad 223), .ref (ad (20 + 2 * k)), .int (x0)].toArray c c_Ct_endsOfCharacters "AbnfChart$Chart" D cy := ⟨hx, hb, tb_all (atoms_spec B.pre) E.2.1, findClass_of_methodNamed B.named, E.1⟩
  have hS : va_S (Az sz) s.heap s.heap [] := va_S.rf
  have hl := lv_entry ([.ref (ad 223), .ref (ad (20 + 2 * k)), .int (x0)]) (n := 4) (Nat.le_of_ble_eq_true rfl)
  rw [lg_entry_eq]
  generalize (lg_sl ([.ref (ad 223), .ref (ad (20 + 2 * k)), .int (x0)]) ++ List.replicate (4 - (lg_sl ([.ref (ad 223), .ref (ad (20 + 2 * k)), .int (x0)])).length) Slot.unset).toArray = ls at hl ⊢
  have hl : lv_has ls 4 [(0, .ref (ad 223)), (1, .ref (ad (20 + 2 * k))), (2, .int (x0))] := hl
  have h3_1 : mem 3 = .inr (0, [.ref (ad 4), .int (nI I)]) := (hC.2.2 3 (by omega)).trans hI.1
  obtain ⟨gi3, h4_2⟩ := hI.2.2
  have h4_2 : mem 4 = .inl (cy 0, 24, .inl gi3) := (hC.2.2 4 (by omega)).trans h4_2
  have h223_5 : mem 223 = .inr (1, [.ref (ad 3), .ref (ad 5), .int fl]) := (hC.2.2 223 (by omega)).trans hC.2.1
  have h5_4 := hC.1.2.1
  have hbd11 := hC.1.1
  have hbI12 := hI.2.1
  obtain ⟨S6, g7, hS_8, h220_9, h221_10⟩ := hC.1.2.2.2.2.2.2
  obtain ⟨k13, lo14, hi15, as16, pa17, ne18, he_19, ho_20⟩ := (hC.1.2.2.2.2.2.1 k (by omega)).1
  refine lv_aload_n Bx.1 Bx.2.1 d_Ct_endsOfCharacters_0 rfl (lv_at hl 1 rfl) ?_
  refine f_getN Bx hP (by omega) he_19 rfl inEl 0 (by decide) kw_75 rfl rfl d_Ct_endsOfCharacters_1 ?_
  refine lv_topi (fun kd21 e_kd21 => ?_)
  by_cases c5 : kd21 = 5
  · rw [c5]
    refine lv_tableIn Bx.1 Bx.2.1 d_Ct_endsOfCharacters_4 (by decide) (by decide) (off := 28) (by decide) (tgt := 32) rfl ?_
    refine lv_aload_n Bx.1 Bx.2.1 d_Ct_endsOfCharacters_32 rfl (lv_at hl 0 rfl) ?_
    refine lv_aload_n Bx.1 Bx.2.1 d_Ct_endsOfCharacters_33 rfl (lv_at hl 1 rfl) ?_
    refine lv_iload_n Bx.1 Bx.2.1 d_Ct_endsOfCharacters_34 rfl (lv_at hl 2 rfl) ?_
    refine f_callVi (na := 2) (As := [.ref (ad (20 + 2 * k)), .int (x0)]) (rest := []) Bx hml E hP hD hS (by omega) h223_5 rfl (m_Ct_isStringAt l hn hI hC hk) kw_579 kw_581 sel_Ct_isStringAt kw_7 kw_582 (by decide +kernel) ⟨rfl, rfl⟩ ⟨Nat.le_of_ble_eq_true rfl, Nat.le_of_ble_eq_true rfl⟩ rfl hl.1 (Nat.le_of_ble_eq_true rfl) d_Ct_endsOfCharacters_35 ⟨Nat.le_of_ble_eq_true rfl, Nat.le_of_ble_eq_true rfl⟩ (fun r22 mem23 H locs hq hP hS => ?_)
    have hD : va_D (Az sz) (fw n ad mem23) := fw_D hD
    rw [hq] at hP hD
    refine lv_if_eq Bx.1 Bx.2.1 d_Ct_endsOfCharacters_38 rfl (fun h8 => ?_) (fun h8 => ?_)
    · refine lv_iconst (v := 0) Bx.1 Bx.2.1 d_Ct_endsOfCharacters_57 (by decide) ?_
      exact W.iret (v := 0) hx hb hr (fun t ht hW => ⟨⟨0, mem, rfl, rfl, by show va_P _ _ _ t.heap; rw [ht]; exact hP⟩, hS.F ht⟩) hS.2.2 d_Ct_endsOfCharacters_58
    · refine lv_iconst (v := 1) Bx.1 Bx.2.1 d_Ct_endsOfCharacters_41 (by decide) ?_
      refine lv_iload_n Bx.1 Bx.2.1 d_Ct_endsOfCharacters_42 rfl (lv_at hl 2 rfl) ?_
      refine lv_aload_n Bx.1 Bx.2.1 d_Ct_endsOfCharacters_43 rfl (lv_at hl 1 rfl) ?_
      refine f_getN Bx hP (by omega) he_19 rfl inEl 2 (by decide) kw_81 rfl rfl d_Ct_endsOfCharacters_44 ?_
      refine lv_iadd Bx.1 Bx.2.1 d_Ct_endsOfCharacters_47 ?_
      refine lv_aload_n Bx.1 Bx.2.1 d_Ct_endsOfCharacters_48 rfl (lv_at hl 1 rfl) ?_
      refine f_getN Bx hP (by omega) he_19 rfl inEl 1 (by decide) kw_78 rfl rfl d_Ct_endsOfCharacters_49 ?_
      refine lv_isub Bx.1 Bx.2.1 d_Ct_endsOfCharacters_52 ?_
      refine lv_ishl Bx.1 Bx.2.1 d_Ct_endsOfCharacters_53 ?_
      refine lv_goto Bx.1 Bx.2.1 d_Ct_endsOfCharacters_54 rfl ?_
      exact W.iret (v := (1) <<< ((x0 + hi15 - lo14) &&& 31)) hx hb hr (fun t ht hW => ⟨⟨(1) <<< ((x0 + hi15 - lo14) &&& 31), mem, rfl, rfl, by show va_P _ _ _ t.heap; rw [ht]; exact hP⟩, hS.F ht⟩) hS.2.2 d_Ct_endsOfCharacters_58
  by_cases c6 : kd21 = 6
  · rw [c6]
    refine lv_tableIn Bx.1 Bx.2.1 d_Ct_endsOfCharacters_4 (by decide) (by decide) (off := 28) (by decide) (tgt := 32) rfl ?_
    refine lv_aload_n Bx.1 Bx.2.1 d_Ct_endsOfCharacters_32 rfl (lv_at hl 0 rfl) ?_
    refine lv_aload_n Bx.1 Bx.2.1 d_Ct_endsOfCharacters_33 rfl (lv_at hl 1 rfl) ?_
    refine lv_iload_n Bx.1 Bx.2.1 d_Ct_endsOfCharacters_34 rfl (lv_at hl 2 rfl) ?_
    refine f_callVi (na := 2) (As := [.ref (ad (20 + 2 * k)), .int (x0)]) (rest := []) Bx hml E hP hD hS (by omega) h223_5 rfl (m_Ct_isStringAt l hn hI hC hk) kw_579 kw_581 sel_Ct_isStringAt kw_7 kw_582 (by decide +kernel) ⟨rfl, rfl⟩ ⟨Nat.le_of_ble_eq_true rfl, Nat.le_of_ble_eq_true rfl⟩ rfl hl.1 (Nat.le_of_ble_eq_true rfl) d_Ct_endsOfCharacters_35 ⟨Nat.le_of_ble_eq_true rfl, Nat.le_of_ble_eq_true rfl⟩ (fun r24 mem25 H locs hq hP hS => ?_)
    have hD : va_D (Az sz) (fw n ad mem25) := fw_D hD
    rw [hq] at hP hD
    refine lv_if_eq Bx.1 Bx.2.1 d_Ct_endsOfCharacters_38 rfl (fun h8 => ?_) (fun h8 => ?_)
    · refine lv_iconst (v := 0) Bx.1 Bx.2.1 d_Ct_endsOfCharacters_57 (by decide) ?_
      exact W.iret (v := 0) hx hb hr (fun t ht hW => ⟨⟨0, mem, rfl, rfl, by show va_P _ _ _ t.heap; rw [ht]; exact hP⟩, hS.F ht⟩) hS.2.2 d_Ct_endsOfCharacters_58
    · refine lv_iconst (v := 1) Bx.1 Bx.2.1 d_Ct_endsOfCharacters_41 (by decide) ?_
      refine lv_iload_n Bx.1 Bx.2.1 d_Ct_endsOfCharacters_42 rfl (lv_at hl 2 rfl) ?_
      refine lv_aload_n Bx.1 Bx.2.1 d_Ct_endsOfCharacters_43 rfl (lv_at hl 1 rfl) ?_
      refine f_getN Bx hP (by omega) he_19 rfl inEl 2 (by decide) kw_81 rfl rfl d_Ct_endsOfCharacters_44 ?_
      refine lv_iadd Bx.1 Bx.2.1 d_Ct_endsOfCharacters_47 ?_
      refine lv_aload_n Bx.1 Bx.2.1 d_Ct_endsOfCharacters_48 rfl (lv_at hl 1 rfl) ?_
      refine f_getN Bx hP (by omega) he_19 rfl inEl 1 (by decide) kw_78 rfl rfl d_Ct_endsOfCharacters_49 ?_
      refine lv_isub Bx.1 Bx.2.1 d_Ct_endsOfCharacters_52 ?_
      refine lv_ishl Bx.1 Bx.2.1 d_Ct_endsOfCharacters_53 ?_
      refine lv_goto Bx.1 Bx.2.1 d_Ct_endsOfCharacters_54 rfl ?_
      exact W.iret (v := (1) <<< ((x0 + hi15 - lo14) &&& 31)) hx hb hr (fun t ht hW => ⟨⟨(1) <<< ((x0 + hi15 - lo14) &&& 31), mem, rfl, rfl, by show va_P _ _ _ t.heap; rw [ht]; exact hP⟩, hS.F ht⟩) hS.2.2 d_Ct_endsOfCharacters_58
  by_cases c7 : kd21 = 7
  · rw [c7]
    refine lv_tableIn Bx.1 Bx.2.1 d_Ct_endsOfCharacters_4 (by decide) (by decide) (off := 55) (by decide) (tgt := 59) rfl ?_
    refine lv_aload_n Bx.1 Bx.2.1 d_Ct_endsOfCharacters_59 rfl (lv_at hl 0 rfl) ?_
    refine f_get Bx hP (by omega) h223_5 rfl inCt 0 (by decide) kw_164 rfl rfl d_Ct_endsOfCharacters_60 ?_
    refine lv_iload_n Bx.1 Bx.2.1 d_Ct_endsOfCharacters_63 rfl (lv_at hl 2 rfl) ?_
    refine f_callVi (na := 1) (As := [.int (x0)]) (rest := []) Bx hml E hP hD hS (by omega) h3_1 rfl (m_Ch_codeAt l (by omega) h3_1 (by omega) h4_2 (by rw [nI_toInt (by omega)]; omega)) kw_583 kw_342 kw_343 kw_2 kw_344 (by decide +kernel) ⟨rfl, rfl⟩ ⟨Nat.le_of_ble_eq_true rfl, Nat.le_of_ble_eq_true rfl⟩ rfl hl.1 (Nat.le_of_ble_eq_true rfl) d_Ct_endsOfCharacters_64 ⟨Nat.le_of_ble_eq_true rfl, Nat.le_of_ble_eq_true rfl⟩ (fun r26 mem27 H locs hq hP hS => ?_)
    have hD : va_D (Az sz) (fw n ad mem27) := fw_D hD
    rw [hq.2] at hP hD
    refine lv_istore_n (lv' := [(3, .int (r26)), (0, .ref (ad 223)), (1, .ref (ad (20 + 2 * k))), (2, .int (x0))]) Bx.1 Bx.2.1 d_Ct_endsOfCharacters_67 rfl hl (by decide) rfl (fun ls hl => ?_)
    refine lv_iload_n Bx.1 Bx.2.1 d_Ct_endsOfCharacters_68 rfl (lv_at hl 0 rfl) ?_
    refine lv_iconst (v := -1) Bx.1 Bx.2.1 d_Ct_endsOfCharacters_69 (by decide) ?_
    refine lv_icmp_eq Bx.1 Bx.2.1 d_Ct_endsOfCharacters_70 rfl (fun h8 => ?_) (fun h8 => ?_)
    · refine lv_iconst (v := 0) Bx.1 Bx.2.1 d_Ct_endsOfCharacters_97 (by decide) ?_
      exact W.iret (v := 0) hx hb hr (fun t ht hW => ⟨⟨0, mem, rfl, rfl, by show va_P _ _ _ t.heap; rw [ht]; exact hP⟩, hS.F ht⟩) hS.2.2 d_Ct_endsOfCharacters_98
    · refine lv_iload_n Bx.1 Bx.2.1 d_Ct_endsOfCharacters_73 rfl (lv_at hl 0 rfl) ?_
      refine lv_aload_n Bx.1 Bx.2.1 d_Ct_endsOfCharacters_74 rfl (lv_at hl 2 rfl) ?_
      refine f_getN Bx hP (by omega) he_19 rfl inEl 1 (by decide) kw_78 rfl rfl d_Ct_endsOfCharacters_75 ?_
      refine lv_icmp_lt Bx.1 Bx.2.1 d_Ct_endsOfCharacters_78 rfl (fun h8 => ?_) (fun h8 => ?_)
      · refine lv_iconst (v := 0) Bx.1 Bx.2.1 d_Ct_endsOfCharacters_97 (by decide) ?_
        exact W.iret (v := 0) hx hb hr (fun t ht hW => ⟨⟨0, mem, rfl, rfl, by show va_P _ _ _ t.heap; rw [ht]; exact hP⟩, hS.F ht⟩) hS.2.2 d_Ct_endsOfCharacters_98
      · refine lv_iload_n Bx.1 Bx.2.1 d_Ct_endsOfCharacters_81 rfl (lv_at hl 0 rfl) ?_
        refine lv_aload_n Bx.1 Bx.2.1 d_Ct_endsOfCharacters_82 rfl (lv_at hl 2 rfl) ?_
        refine f_getN Bx hP (by omega) he_19 rfl inEl 2 (by decide) kw_81 rfl rfl d_Ct_endsOfCharacters_83 ?_
        refine lv_icmp_gt Bx.1 Bx.2.1 d_Ct_endsOfCharacters_86 rfl (fun h8 => ?_) (fun h8 => ?_)
        · refine lv_iconst (v := 0) Bx.1 Bx.2.1 d_Ct_endsOfCharacters_97 (by decide) ?_
          exact W.iret (v := 0) hx hb hr (fun t ht hW => ⟨⟨0, mem, rfl, rfl, by show va_P _ _ _ t.heap; rw [ht]; exact hP⟩, hS.F ht⟩) hS.2.2 d_Ct_endsOfCharacters_98
        · refine lv_iconst (v := 1) Bx.1 Bx.2.1 d_Ct_endsOfCharacters_89 (by decide) ?_
          refine lv_iload_n Bx.1 Bx.2.1 d_Ct_endsOfCharacters_90 rfl (lv_at hl 3 rfl) ?_
          refine lv_iconst (v := 1) Bx.1 Bx.2.1 d_Ct_endsOfCharacters_91 (by decide) ?_
          refine lv_iadd Bx.1 Bx.2.1 d_Ct_endsOfCharacters_92 ?_
          refine lv_ishl Bx.1 Bx.2.1 d_Ct_endsOfCharacters_93 ?_
          refine lv_goto Bx.1 Bx.2.1 d_Ct_endsOfCharacters_94 rfl ?_
          exact W.iret (v := (1) <<< ((x0 + 1) &&& 31)) hx hb hr (fun t ht hW => ⟨⟨(1) <<< ((x0 + 1) &&& 31), mem, rfl, rfl, by show va_P _ _ _ t.heap; rw [ht]; exact hP⟩, hS.F ht⟩) hS.2.2 d_Ct_endsOfCharacters_98
  have hko : (kd21).toInt < 5 ∨ 7 < (kd21).toInt := by
    have q5 := lv_neT c5 (a := 5) (by decide)
    have q6 := lv_neT c6 (a := 6) (by decide)
    have q7 := lv_neT c7 (a := 7) (by decide)
    omega
  refine lv_tableOut Bx.1 Bx.2.1 d_Ct_endsOfCharacters_4 hko (tgt := 99) rfl ?_
  refine lv_iconst (v := 0) Bx.1 Bx.2.1 d_Ct_endsOfCharacters_99 (by decide) ?_
  exact W.iret (v := 0) hx hb hr (fun t ht hW => ⟨⟨0, mem, rfl, rfl, by show va_P _ _ _ t.heap; rw [ht]; exact hP⟩, hS.F ht⟩) hS.2.2 d_Ct_endsOfCharacters_100
set_option maxHeartbeats 4000000 in
set_option maxRecDepth 100000 in
theorem m_Ct_findMore (l : Launch) {D : va_G} {cy : Nat → ClassId} {sz n : Nat} {ad : Nat → Nat} {mem : Nat → va_E} {I lim rc ec : Nat} {wh fl : Int32} {m0 : Nat → va_E} {i0 : Nat} (hn : 224 ≤ n) (hI : IX cy ad I m0) (hC : CS cy ad lim rc ec wh fl m0 mem) (hi0 : i0 ≤ I) : MI l D cy sz n ad y_Ct_findMore c_Ct_findMore 6 (some .boolean) ({ frames := 3, cells := 0, slots := 0, locals := 90 } : Room) mem [.ref (ad 223), .int (nI i0)] (fun r mem' => CS cy ad lim rc ec wh fl m0 mem') := by
  refine Met.ofW (cc := c_Ct_findMore) (maxL := 6) (ret := (some .boolean)) (by decide) rfl ?_
  intro p e s m args below meth c s₁ B hml hv
  obtain ⟨rfl, E, hP, hD⟩ := hv
  have hx := B.exec
  have hb := B.bytes
  have hr := B.returns
  have hlocks := B.notSynchronized
  have Bx : MB p s m [.ref (ad 223), .int (nI i0)].toArray c c_Ct_findMore "AbnfChart$Chart" D cy := ⟨hx, hb, tb_all (atoms_spec B.pre) E.2.1, findClass_of_methodNamed B.named, E.1⟩
  have hS : va_S (Az sz) s.heap s.heap [] := va_S.rf
  have hl := lv_entry ([.ref (ad 223), .int (nI i0)]) (n := 6) (Nat.le_of_ble_eq_true rfl)
  rw [lg_entry_eq]
  generalize (lg_sl ([.ref (ad 223), .int (nI i0)]) ++ List.replicate (6 - (lg_sl ([.ref (ad 223), .int (nI i0)])).length) Slot.unset).toArray = ls at hl ⊢
  have hl : lv_has ls 6 [(0, .ref (ad 223)), (1, .int (nI i0))] := hl
  have h3_1 : mem 3 = .inr (0, [.ref (ad 4), .int (nI I)]) := (hC.2.2 3 (by omega)).trans hI.1
  obtain ⟨gi3, h4_2⟩ := hI.2.2
  have h4_2 : mem 4 = .inl (cy 0, 24, .inl gi3) := (hC.2.2 4 (by omega)).trans h4_2
  have h223_5 : mem 223 = .inr (1, [.ref (ad 3), .ref (ad 5), .int fl]) := (hC.2.2 223 (by omega)).trans hC.2.1
  have h5_4 := hC.1.2.1
  have hbd11 := hC.1.1
  have hbI12 := hI.2.1
  obtain ⟨S6, g7, hS_8, h220_9, h221_10⟩ := hC.1.2.2.2.2.2.2
  refine lv_iconst (v := 0) Bx.1 Bx.2.1 d_Ct_findMore_0 (by decide) ?_
  refine lv_istore_n (lv' := [(2, .int (0)), (0, .ref (ad 223)), (1, .int (nI i0))]) Bx.1 Bx.2.1 d_Ct_findMore_1 rfl hl (by decide) rfl (fun ls hl => ?_)
  refine lv_aload_n Bx.1 Bx.2.1 d_Ct_findMore_2 rfl (lv_at hl 1 rfl) ?_
  refine f_get Bx hP (by omega) h223_5 rfl inCt 1 (by decide) kw_165 rfl rfl d_Ct_findMore_3 ?_
  refine f_getN Bx hP (by omega) h5_4 rfl inGr 4 (by decide) kw_123 rfl rfl d_Ct_findMore_6 ?_
  refine lv_iconst (v := 1) Bx.1 Bx.2.1 d_Ct_findMore_9 (by decide) ?_
  refine lv_isub Bx.1 Bx.2.1 d_Ct_findMore_10 ?_
  refine lv_istore_n (lv' := [(3, .int (nI ec - 1)), (2, .int (0)), (0, .ref (ad 223)), (1, .int (nI i0))]) Bx.1 Bx.2.1 d_Ct_findMore_11 rfl hl (by decide) rfl (fun ls hl => ?_)
  have loop13 : ∀ (d14 : Nat) (mem9 : Nat → va_E) (kk : Nat) (mo : Int32) (ls : Array Slot) (H : Heap) (locs : List Loc), (kk < d14) → (kk ≤ ec) → (CS cy ad lim rc ec wh fl m0 mem9) → (mo = 0 ∨ mo = 1) → (va_P D vcl (fw n ad mem9) H) → (va_D (Az sz) (fw n ad mem9)) → (va_S (Az sz) s.heap H locs) → (lv_has ls 6 [(3, .int (nI kk + (-1))), (2, .int (mo)), (0, .ref (ad 223)), (1, .int (nI i0))]) → W p l e (headSpec (Cond.code y_Ct_findMore c_Ct_findMore 6 (some .boolean) :: tg) ({ frames := 3, cells := 0, slots := 0, locals := 90 } : Room)).room s m [.ref (ad 223), .int (nI i0)].toArray below meth c H locs 0 0 (MQ below (va_Qi (fun r mem' => CS cy ad lim rc ec wh fl m0 mem') (PP D n ad) (Az sz)) [.ref (ad 223), .int (nI i0)].toArray s 0 0 (Az sz)) (F0 m 12 ls []) := by
    intro d14
    induction d14 with
    | zero => intro mem9 kk mo ls H locs hmeas19; exact absurd hmeas19 (Nat.not_lt_zero _)
    | succ d14 ih18 =>
      intro mem9 kk mo ls H locs hmeas19 hz15 hz16 hz17 hP hD hS hl
      have h3_20 : mem9 3 = .inr (0, [.ref (ad 4), .int (nI I)]) := (hz16.2.2 3 (by omega)).trans hI.1
      obtain ⟨gi22, h4_21⟩ := hI.2.2
      have h4_21 : mem9 4 = .inl (cy 0, 24, .inl gi22) := (hz16.2.2 4 (by omega)).trans h4_21
      have h223_24 : mem9 223 = .inr (1, [.ref (ad 3), .ref (ad 5), .int fl]) := (hz16.2.2 223 (by omega)).trans hz16.2.1
      have h5_23 := hz16.1.2.1
      have hbd30 := hz16.1.1
      have hbI31 := hI.2.1
      obtain ⟨S25, g26, hS_27, h220_28, h221_29⟩ := hz16.1.2.2.2.2.2.2
      refine lv_iload_n Bx.1 Bx.2.1 d_Ct_findMore_12 rfl (lv_at hl 0 rfl) ?_
      refine lv_if_lt Bx.1 Bx.2.1 d_Ct_findMore_13 rfl (fun h9 => ?_) (fun h9 => ?_)
      · refine lv_iload_n Bx.1 Bx.2.1 d_Ct_findMore_65 rfl (lv_at hl 1 rfl) ?_
        exact W.zret (v := mo) hx hb hr (by rcases hz17 with q | q <;> rw [q] <;> rfl) (fun t ht hW => ⟨⟨mo, mem9, rfl, hz16, by show va_P _ _ _ t.heap; rw [ht]; exact hP⟩, hS.F ht⟩) hS.2.2 d_Ct_findMore_66
      · obtain ⟨j, rfl⟩ : ∃ j, kk = j + 1 := by
          rcases kk with _ | j
          · exact absurd (by rw [nI_0m1]; decide) h9
          · exact ⟨j, rfl⟩
        rw [nI_m1] at hl
        refine lv_aload_n Bx.1 Bx.2.1 d_Ct_findMore_16 rfl (lv_at hl 2 rfl) ?_
        refine f_get Bx hP (by omega) h223_24 rfl inCt 1 (by decide) kw_165 rfl rfl d_Ct_findMore_17 ?_
        refine f_getN Bx hP (by omega) h5_23 rfl inGr 1 (by decide) kw_117 rfl rfl d_Ct_findMore_20 ?_
        refine lv_iload_n Bx.1 Bx.2.1 d_Ct_findMore_23 rfl (lv_at hl 0 rfl) ?_
        refine f_aald (t0 := 4) Bx hP (by omega) hz16.1.2.2.2.1 rfl j rfl (by omega) (by decide) (q := ad (20 + 2 * j)) (if_pos (by omega)) d_Ct_findMore_24 ?_
        obtain ⟨k32, lo33, hi34, as35, pa36, ne37, he_38, ho_39⟩ := (hz16.1.2.2.2.2.2.1 j (by omega)).1
        refine lv_astore (lv' := [(4, .ref (ad (20 + 2 * j))), (3, .int (nI j)), (2, .int (mo)), (0, .ref (ad 223)), (1, .int (nI i0))]) Bx.1 Bx.2.1 d_Ct_findMore_25 hl (by decide) rfl (fun ls hl => ?_)
        refine lv_aload_n Bx.1 Bx.2.1 d_Ct_findMore_27 rfl (lv_at hl 3 rfl) ?_
        refine lv_aload Bx.1 Bx.2.1 d_Ct_findMore_28 (lv_at hl 0 rfl) ?_
        refine lv_iload_n Bx.1 Bx.2.1 d_Ct_findMore_30 rfl (lv_at hl 4 rfl) ?_
        refine f_callVi (na := 2) (As := [.ref (ad (20 + 2 * j)), .int (nI i0)]) (rest := []) Bx hml E hP hD hS (by omega) h223_24 rfl (m_Ct_endsOfParts l hn hI hz16 hi0 (by omega)) kw_589 kw_591 sel_Ct_endsOfParts kw_7 kw_592 (by decide +kernel) ⟨rfl, rfl⟩ ⟨Nat.le_of_ble_eq_true rfl, Nat.le_of_ble_eq_true rfl⟩ rfl hl.1 (Nat.le_of_ble_eq_true rfl) d_Ct_findMore_31 ⟨Nat.le_of_ble_eq_true rfl, Nat.le_of_ble_eq_true rfl⟩ (fun r40 mem41 H locs hq hP hS => ?_)
        have hD : va_D (Az sz) (fw n ad mem41) := fw_D hD
        rw [hq] at hP hD
        refine lv_istore (lv' := [(5, .int (r40)), (4, .ref (ad (20 + 2 * j))), (3, .int (nI j)), (2, .int (mo)), (0, .ref (ad 223)), (1, .int (nI i0))]) Bx.1 Bx.2.1 d_Ct_findMore_34 hl (by decide) rfl (fun ls hl => ?_)
        refine lv_iload Bx.1 Bx.2.1 d_Ct_findMore_36 (lv_at hl 0 rfl) ?_
        refine lv_aload Bx.1 Bx.2.1 d_Ct_findMore_38 (lv_at hl 1 rfl) ?_
        refine f_getN Bx hP (by omega) he_38 rfl inEl 6 (by decide) kw_94 rfl rfl d_Ct_findMore_40 ?_
        refine lv_iload_n Bx.1 Bx.2.1 d_Ct_findMore_43 rfl (lv_at hl 5 rfl) ?_
        obtain ⟨g42, hg43⟩ := (hz16.1.2.2.2.2.2.1 j (by omega)).2
        refine f_iald Bx hP (by omega) hg43 (vp_in_nI (by omega) (by decide)) d_Ct_findMore_44 ?_
        refine lv_topi (fun en44 e_en44 => ?_)
        refine lv_icmp_eq Bx.1 Bx.2.1 d_Ct_findMore_45 rfl (fun h8 => ?_) (fun h8 => ?_)
        · refine lv_iinc (lv' := [(3, .int ((nI j + (-1)))), (5, .int (r40)), (4, .ref (ad (20 + 2 * j))), (2, .int (mo)), (0, .ref (ad 223)), (1, .int (nI i0))]) Bx.1 Bx.2.1 d_Ct_findMore_59 hl (k := 2) rfl rfl (by decide) rfl (fun ls hl => ?_)
          refine lv_goto Bx.1 Bx.2.1 d_Ct_findMore_62 rfl ?_
          exact ih18 mem9 (j) (mo) _ _ _ (by have := hmeas19; omega) (by omega) (hz16) (hz17) hP hD hS (lv_sub hl [0, 3, 4, 5] rfl)
        · refine lv_aload Bx.1 Bx.2.1 d_Ct_findMore_48 (lv_at hl 1 rfl) ?_
          refine f_getN Bx hP (by omega) he_38 rfl inEl 6 (by decide) kw_94 rfl rfl d_Ct_findMore_50 ?_
          refine lv_iload_n Bx.1 Bx.2.1 d_Ct_findMore_53 rfl (lv_at hl 5 rfl) ?_
          refine lv_iload Bx.1 Bx.2.1 d_Ct_findMore_54 (lv_at hl 0 rfl) ?_
          obtain ⟨g45, hg46⟩ := (hz16.1.2.2.2.2.2.1 j (by omega)).2
          refine f_iast (x := r40) (i := nI i0) Bx hP hD hS (by omega) hg46 (vp_in_nI (by omega) (by decide)) d_Ct_findMore_56 (fun H locs hP hS => ?_)
          obtain ⟨g48, hg48⟩ : ∃ z : Nat → Int32, z = upd g45 (nI i0).toNatClampNeg (r40) := ⟨_, rfl⟩
          rw [← hg48] at hP
          obtain ⟨mem47, e_mem47⟩ : ∃ z, z = va_up mem9 (21 + 2 * j) (.inl (cy 1, 25, .inl g48)) := ⟨_, rfl⟩
          have hP : va_P D vcl (fw n ad mem47) H := by rw [e_mem47]; exact hP
          have hD : va_D (Az sz) (fw n ad mem47) := fw_D hD
          have hC49 : CS cy ad lim rc ec wh fl m0 mem47 := by rw [e_mem47]; exact hz16.ends (by omega)
          have h3_50 : mem47 3 = .inr (0, [.ref (ad 4), .int (nI I)]) := (hC49.2.2 3 (by omega)).trans hI.1
          obtain ⟨gi52, h4_51⟩ := hI.2.2
          have h4_51 : mem47 4 = .inl (cy 0, 24, .inl gi52) := (hC49.2.2 4 (by omega)).trans h4_51
          have h223_54 : mem47 223 = .inr (1, [.ref (ad 3), .ref (ad 5), .int fl]) := (hC49.2.2 223 (by omega)).trans hC49.2.1
          have h5_53 := hC49.1.2.1
          have hbd60 := hC49.1.1
          have hbI61 := hI.2.1
          obtain ⟨S55, g56, hS_57, h220_58, h221_59⟩ := hC49.1.2.2.2.2.2.2
          obtain ⟨k62, lo63, hi64, as65, pa66, ne67, he_68, ho_69⟩ := (hC49.1.2.2.2.2.2.1 j (by omega)).1
          refine lv_iconst (v := 1) Bx.1 Bx.2.1 d_Ct_findMore_57 (by decide) ?_
          refine lv_istore_n (lv' := [(2, .int (1)), (5, .int (r40)), (4, .ref (ad (20 + 2 * j))), (3, .int (nI j)), (0, .ref (ad 223)), (1, .int (nI i0))]) Bx.1 Bx.2.1 d_Ct_findMore_58 rfl hl (by decide) rfl (fun ls hl => ?_)
          refine lv_iinc (lv' := [(3, .int ((nI j + (-1)))), (2, .int (1)), (5, .int (r40)), (4, .ref (ad (20 + 2 * j))), (0, .ref (ad 223)), (1, .int (nI i0))]) Bx.1 Bx.2.1 d_Ct_findMore_59 hl (k := 3) rfl rfl (by decide) rfl (fun ls hl => ?_)
          refine lv_goto Bx.1 Bx.2.1 d_Ct_findMore_62 rfl ?_
          exact ih18 mem47 (j) (1) _ _ _ (by have := hmeas19; omega) (by omega) (hC49) (Or.inr rfl) hP hD hS (lv_sub hl [0, 1, 4, 5] rfl)
  exact loop13 _ mem (ec) (0) _ _ _ (Nat.lt_succ_self _) (Nat.le_refl _) (hC) (Or.inl rfl) hP hD hS (by rw [← nI_sub1]; exact (lv_sub hl [0, 1, 2, 3] rfl))
set_option maxHeartbeats 4000000 in
set_option maxRecDepth 100000 in
theorem m_Ct_fill (l : Launch) {D : va_G} {cy : Nat → ClassId} {sz n : Nat} {ad : Nat → Nat} {mem : Nat → va_E} {I lim rc ec : Nat} {wh fl : Int32} {m0 : Nat → va_E} (hn : 224 ≤ n) (hI : IX cy ad I m0) (hC : CS cy ad lim rc ec wh fl m0 mem) : MV l D cy sz n ad y_Ct_fill c_Ct_fill 4 ({ frames := 4, cells := 0, slots := 0, locals := 120 } : Room) mem [.ref (ad 223)] (fun mem' => CS cy ad lim rc ec wh fl m0 mem') := by
  refine Met.ofW (cc := c_Ct_fill) (maxL := 4) (ret := none) (by decide) rfl ?_
  intro p e s m args below meth c s₁ B hml hv
  obtain ⟨rfl, E, hP, hD⟩ := hv
  have hx := B.exec
  have hb := B.bytes
  have hr := B.returns
  have hlocks := B.notSynchronized
  have Bx : MB p s m [.ref (ad 223)].toArray c c_Ct_fill "AbnfChart$Chart" D cy := ⟨hx, hb, tb_all (atoms_spec B.pre) E.2.1, findClass_of_methodNamed B.named, E.1⟩
  have hS : va_S (Az sz) s.heap s.heap [] := va_S.rf
  have hl := lv_entry ([.ref (ad 223)]) (n := 4) (Nat.le_of_ble_eq_true rfl)
  rw [lg_entry_eq]
  generalize (lg_sl ([.ref (ad 223)]) ++ List.replicate (4 - (lg_sl ([.ref (ad 223)])).length) Slot.unset).toArray = ls at hl ⊢
  have hl : lv_has ls 4 [(0, .ref (ad 223))] := hl
  have h3_1 : mem 3 = .inr (0, [.ref (ad 4), .int (nI I)]) := (hC.2.2 3 (by omega)).trans hI.1
  obtain ⟨gi3, h4_2⟩ := hI.2.2
  have h4_2 : mem 4 = .inl (cy 0, 24, .inl gi3) := (hC.2.2 4 (by omega)).trans h4_2
  have h223_5 : mem 223 = .inr (1, [.ref (ad 3), .ref (ad 5), .int fl]) := (hC.2.2 223 (by omega)).trans hC.2.1
  have h5_4 := hC.1.2.1
  have hbd11 := hC.1.1
  have hbI12 := hI.2.1
  obtain ⟨S6, g7, hS_8, h220_9, h221_10⟩ := hC.1.2.2.2.2.2.2
  refine lv_aload_n Bx.1 Bx.2.1 d_Ct_fill_0 rfl (lv_at hl 0 rfl) ?_
  refine f_get Bx hP (by omega) h223_5 rfl inCt 0 (by decide) kw_164 rfl rfl d_Ct_fill_1 ?_
  refine f_getN Bx hP (by omega) h3_1 rfl inCh 1 (by decide) kw_35 rfl rfl d_Ct_fill_4 ?_
  refine lv_istore_n (lv' := [(1, .int (nI I)), (0, .ref (ad 223))]) Bx.1 Bx.2.1 d_Ct_fill_7 rfl hl (by decide) rfl (fun ls hl => ?_)
  have loop13 : ∀ (d14 : Nat) (mem9 : Nat → va_E) (ii : Nat) (ls : Array Slot) (H : Heap) (locs : List Loc), (ii < d14) → (ii ≤ I + 1) → (CS cy ad lim rc ec wh fl m0 mem9) → (va_P D vcl (fw n ad mem9) H) → (va_D (Az sz) (fw n ad mem9)) → (va_S (Az sz) s.heap H locs) → (lv_has ls 4 [(1, .int (nI ii + (-1))), (0, .ref (ad 223))]) → W p l e (headSpec (Cond.code y_Ct_fill c_Ct_fill 4 none :: tg) ({ frames := 4, cells := 0, slots := 0, locals := 120 } : Room)).room s m [.ref (ad 223)].toArray below meth c H locs 0 0 (MQ below (va_Qv (fun mem' => CS cy ad lim rc ec wh fl m0 mem') (PP D n ad) (Az sz)) [.ref (ad 223)].toArray s 0 0 (Az sz)) (F0 m 8 ls []) := by
    intro d14
    induction d14 with
    | zero => intro mem9 ii ls H locs hmeas18; exact absurd hmeas18 (Nat.not_lt_zero _)
    | succ d14 ih17 =>
      intro mem9 ii ls H locs hmeas18 hz15 hz16 hP hD hS hl
      have h3_19 : mem9 3 = .inr (0, [.ref (ad 4), .int (nI I)]) := (hz16.2.2 3 (by omega)).trans hI.1
      obtain ⟨gi21, h4_20⟩ := hI.2.2
      have h4_20 : mem9 4 = .inl (cy 0, 24, .inl gi21) := (hz16.2.2 4 (by omega)).trans h4_20
      have h223_23 : mem9 223 = .inr (1, [.ref (ad 3), .ref (ad 5), .int fl]) := (hz16.2.2 223 (by omega)).trans hz16.2.1
      have h5_22 := hz16.1.2.1
      have hbd29 := hz16.1.1
      have hbI30 := hI.2.1
      obtain ⟨S24, g25, hS_26, h220_27, h221_28⟩ := hz16.1.2.2.2.2.2.2
      refine lv_iload_n Bx.1 Bx.2.1 d_Ct_fill_8 rfl (lv_at hl 0 rfl) ?_
      refine lv_if_lt Bx.1 Bx.2.1 d_Ct_fill_9 rfl (fun h9 => ?_) (fun h9 => ?_)
      · exact W.vret hx hb hr (fun t ht hW => ⟨⟨mem9, rfl, hz16, by show va_P _ _ _ t.heap; rw [ht]; exact hP⟩, hS.F ht⟩) hS.2.2 d_Ct_fill_86
      · obtain ⟨i0, rfl⟩ : ∃ j, ii = j + 1 := by
          rcases ii with _ | j
          · exact absurd (by rw [nI_0m1]; decide) h9
          · exact ⟨j, rfl⟩
        rw [nI_m1] at hl
        have hi0 : i0 ≤ I := by omega
        refine lv_iconst (v := 0) Bx.1 Bx.2.1 d_Ct_fill_12 (by decide) ?_
        refine lv_istore_n (lv' := [(2, .int (0)), (1, .int (nI i0)), (0, .ref (ad 223))]) Bx.1 Bx.2.1 d_Ct_fill_13 rfl hl (by decide) rfl (fun ls hl => ?_)
        have loop31 : ∀ (d32 : Nat) (mem10 : Nat → va_E) (kk : Nat) (ls : Array Slot) (H : Heap) (locs : List Loc), (ec - kk < d32) → (kk ≤ ec) → (CS cy ad lim rc ec wh fl m0 mem10) → (va_P D vcl (fw n ad mem10) H) → (va_D (Az sz) (fw n ad mem10)) → (va_S (Az sz) s.heap H locs) → (lv_has ls 4 [(2, .int (nI kk)), (1, .int (nI i0)), (0, .ref (ad 223))]) → W p l e (headSpec (Cond.code y_Ct_fill c_Ct_fill 4 none :: tg) ({ frames := 4, cells := 0, slots := 0, locals := 120 } : Room)).room s m [.ref (ad 223)].toArray below meth c H locs 0 0 (MQ below (va_Qv (fun mem' => CS cy ad lim rc ec wh fl m0 mem') (PP D n ad) (Az sz)) [.ref (ad 223)].toArray s 0 0 (Az sz)) (F0 m 14 ls []) := by
          intro d32
          induction d32 with
          | zero => intro mem10 kk ls H locs hmeas36; exact absurd hmeas36 (Nat.not_lt_zero _)
          | succ d32 ih35 =>
            intro mem10 kk ls H locs hmeas36 hz33 hz34 hP hD hS hl
            have h3_37 : mem10 3 = .inr (0, [.ref (ad 4), .int (nI I)]) := (hz34.2.2 3 (by omega)).trans hI.1
            obtain ⟨gi39, h4_38⟩ := hI.2.2
            have h4_38 : mem10 4 = .inl (cy 0, 24, .inl gi39) := (hz34.2.2 4 (by omega)).trans h4_38
            have h223_41 : mem10 223 = .inr (1, [.ref (ad 3), .ref (ad 5), .int fl]) := (hz34.2.2 223 (by omega)).trans hz34.2.1
            have h5_40 := hz34.1.2.1
            have hbd47 := hz34.1.1
            have hbI48 := hI.2.1
            obtain ⟨S42, g43, hS_44, h220_45, h221_46⟩ := hz34.1.2.2.2.2.2.2
            refine lv_iload_n Bx.1 Bx.2.1 d_Ct_fill_14 rfl (lv_at hl 0 rfl) ?_
            refine lv_aload_n Bx.1 Bx.2.1 d_Ct_fill_15 rfl (lv_at hl 2 rfl) ?_
            refine f_get Bx hP (by omega) h223_41 rfl inCt 1 (by decide) kw_165 rfl rfl d_Ct_fill_16 ?_
            refine f_getN Bx hP (by omega) h5_40 rfl inGr 4 (by decide) kw_123 rfl rfl d_Ct_fill_19 ?_
            refine lv_icmp_ge Bx.1 Bx.2.1 d_Ct_fill_22 rfl (fun hk => ?_) (fun hk => ?_)
            · refine lv_iconst (v := 1) Bx.1 Bx.2.1 d_Ct_fill_53 (by decide) ?_
              refine lv_istore_n (lv' := [(2, .int (1)), (1, .int (nI i0)), (0, .ref (ad 223))]) Bx.1 Bx.2.1 d_Ct_fill_54 rfl hl (by decide) rfl (fun ls hl => ?_)
              refine lv_iconst (v := 0) Bx.1 Bx.2.1 d_Ct_fill_55 (by decide) ?_
              refine lv_istore_n (lv' := [(3, .int (0)), (2, .int (1)), (1, .int (nI i0)), (0, .ref (ad 223))]) Bx.1 Bx.2.1 d_Ct_fill_56 rfl hl (by decide) rfl (fun ls hl => ?_)
              have loop49 : ∀ (d50 : Nat) (mem11 : Nat → va_E) (ps : Int32) (mo : Int32) (ls : Array Slot) (H : Heap) (locs : List Loc), (((2501 : Int32).toInt - ps.toInt).toNat < d50) → (CS cy ad lim rc ec wh fl m0 mem11) → (va_P D vcl (fw n ad mem11) H) → (va_D (Az sz) (fw n ad mem11)) → (va_S (Az sz) s.heap H locs) → (lv_has ls 4 [(3, .int (ps)), (2, .int (mo)), (1, .int (nI i0)), (0, .ref (ad 223))]) → W p l e (headSpec (Cond.code y_Ct_fill c_Ct_fill 4 none :: tg) ({ frames := 4, cells := 0, slots := 0, locals := 120 } : Room)).room s m [.ref (ad 223)].toArray below meth c H locs 0 0 (MQ below (va_Qv (fun mem' => CS cy ad lim rc ec wh fl m0 mem') (PP D n ad) (Az sz)) [.ref (ad 223)].toArray s 0 0 (Az sz)) (F0 m 57 ls []) := by
                intro d50
                induction d50 with
                | zero => intro mem11 ps mo ls H locs hmeas53; exact absurd hmeas53 (Nat.not_lt_zero _)
                | succ d50 ih52 =>
                  intro mem11 ps mo ls H locs hmeas53 hz51 hP hD hS hl
                  have h3_54 : mem11 3 = .inr (0, [.ref (ad 4), .int (nI I)]) := (hz51.2.2 3 (by omega)).trans hI.1
                  obtain ⟨gi56, h4_55⟩ := hI.2.2
                  have h4_55 : mem11 4 = .inl (cy 0, 24, .inl gi56) := (hz51.2.2 4 (by omega)).trans h4_55
                  have h223_58 : mem11 223 = .inr (1, [.ref (ad 3), .ref (ad 5), .int fl]) := (hz51.2.2 223 (by omega)).trans hz51.2.1
                  have h5_57 := hz51.1.2.1
                  have hbd64 := hz51.1.1
                  have hbI65 := hI.2.1
                  obtain ⟨S59, g60, hS_61, h220_62, h221_63⟩ := hz51.1.2.2.2.2.2.2
                  refine lv_iload_n Bx.1 Bx.2.1 d_Ct_fill_57 rfl (lv_at hl 0 rfl) ?_
                  refine lv_sipush (v := 2501) Bx.1 Bx.2.1 d_Ct_fill_58 (by decide) ?_
                  refine lv_icmp_ge Bx.1 Bx.2.1 d_Ct_fill_61 rfl (fun hk8 => ?_) (fun hk8 => ?_)
                  · refine lv_iinc (lv' := [(1, .int ((nI i0 + (-1)))), (3, .int (ps)), (2, .int (mo)), (0, .ref (ad 223))]) Bx.1 Bx.2.1 d_Ct_fill_80 hl (k := 2) rfl rfl (by decide) rfl (fun ls hl => ?_)
                    refine lv_goto Bx.1 Bx.2.1 d_Ct_fill_83 rfl ?_
                    exact ih17 mem11 (i0) _ _ _ (by have := hmeas18; omega) (by omega) (hz51) hP hD hS (lv_sub hl [0, 3] rfl)
                  · refine lv_iload_n Bx.1 Bx.2.1 d_Ct_fill_64 rfl (lv_at hl 1 rfl) ?_
                    refine lv_if_eq Bx.1 Bx.2.1 d_Ct_fill_65 rfl (fun h7 => ?_) (fun h7 => ?_)
                    · refine lv_iinc (lv' := [(1, .int ((nI i0 + (-1)))), (3, .int (ps)), (2, .int (mo)), (0, .ref (ad 223))]) Bx.1 Bx.2.1 d_Ct_fill_80 hl (k := 2) rfl rfl (by decide) rfl (fun ls hl => ?_)
                      refine lv_goto Bx.1 Bx.2.1 d_Ct_fill_83 rfl ?_
                      exact ih17 mem11 (i0) _ _ _ (by have := hmeas18; omega) (by omega) (hz51) hP hD hS (lv_sub hl [0, 3] rfl)
                    · refine lv_aload_n Bx.1 Bx.2.1 d_Ct_fill_68 rfl (lv_at hl 3 rfl) ?_
                      refine lv_iload_n Bx.1 Bx.2.1 d_Ct_fill_69 rfl (lv_at hl 2 rfl) ?_
                      refine f_callVi (na := 1) (As := [.int (nI i0)]) (rest := []) Bx hml E hP hD hS (by omega) h223_58 rfl (m_Ct_findMore l hn hI hz51 hi0) kw_585 kw_587 sel_Ct_findMore kw_7 kw_588 (by decide +kernel) ⟨rfl, rfl⟩ ⟨Nat.le_of_ble_eq_true rfl, Nat.le_of_ble_eq_true rfl⟩ rfl hl.1 (Nat.le_of_ble_eq_true rfl) d_Ct_fill_70 ⟨Nat.le_of_ble_eq_true rfl, Nat.le_of_ble_eq_true rfl⟩ (fun r67 mem68 H locs hC66 hP hS => ?_)
                      have hD : va_D (Az sz) (fw n ad mem68) := fw_D hD
                      have h3_69 : mem68 3 = .inr (0, [.ref (ad 4), .int (nI I)]) := (hC66.2.2 3 (by omega)).trans hI.1
                      obtain ⟨gi71, h4_70⟩ := hI.2.2
                      have h4_70 : mem68 4 = .inl (cy 0, 24, .inl gi71) := (hC66.2.2 4 (by omega)).trans h4_70
                      have h223_73 : mem68 223 = .inr (1, [.ref (ad 3), .ref (ad 5), .int fl]) := (hC66.2.2 223 (by omega)).trans hC66.2.1
                      have h5_72 := hC66.1.2.1
                      have hbd79 := hC66.1.1
                      have hbI80 := hI.2.1
                      obtain ⟨S74, g75, hS_76, h220_77, h221_78⟩ := hC66.1.2.2.2.2.2.2
                      refine lv_istore_n (lv' := [(2, .int (r67)), (3, .int (ps)), (1, .int (nI i0)), (0, .ref (ad 223))]) Bx.1 Bx.2.1 d_Ct_fill_73 rfl hl (by decide) rfl (fun ls hl => ?_)
                      refine lv_iinc (lv' := [(3, .int ((ps + (1)))), (2, .int (r67)), (1, .int (nI i0)), (0, .ref (ad 223))]) Bx.1 Bx.2.1 d_Ct_fill_74 hl (k := 1) rfl rfl (by decide) rfl (fun ls hl => ?_)
                      refine lv_goto Bx.1 Bx.2.1 d_Ct_fill_77 rfl ?_
                      exact ih52 mem68 ((ps + (1))) (r67) _ _ _ (by have := hmeas53; have := inc_meas hk8; omega) (hC66) hP hD hS (lv_sub hl [0, 1, 2, 3] rfl)
              exact loop49 _ mem10 (0) (1) _ _ _ (Nat.lt_succ_self _) (hz34) hP hD hS (lv_sub hl [0, 1, 2, 3] rfl)
            · have hk9 : kk < ec := (nI_ltI (by omega) (by omega)).mp (Int32.not_le.mp hk)
              refine lv_aload_n Bx.1 Bx.2.1 d_Ct_fill_25 rfl (lv_at hl 2 rfl) ?_
              refine f_get Bx hP (by omega) h223_41 rfl inCt 1 (by decide) kw_165 rfl rfl d_Ct_fill_26 ?_
              refine f_getN Bx hP (by omega) h5_40 rfl inGr 1 (by decide) kw_117 rfl rfl d_Ct_fill_29 ?_
              refine lv_iload_n Bx.1 Bx.2.1 d_Ct_fill_32 rfl (lv_at hl 0 rfl) ?_
              refine f_aald (t0 := 4) Bx hP (by omega) hz34.1.2.2.2.1 rfl kk rfl (by omega) (by decide) (q := ad (20 + 2 * kk)) (if_pos (by omega)) d_Ct_fill_33 ?_
              obtain ⟨k81, lo82, hi83, as84, pa85, ne86, he_87, ho_88⟩ := (hz34.1.2.2.2.2.2.1 kk (by omega)).1
              refine lv_astore_n (lv' := [(3, .ref (ad (20 + 2 * kk))), (2, .int (nI kk)), (1, .int (nI i0)), (0, .ref (ad 223))]) Bx.1 Bx.2.1 d_Ct_fill_34 rfl hl (by decide) rfl (fun ls hl => ?_)
              refine lv_aload_n Bx.1 Bx.2.1 d_Ct_fill_35 rfl (lv_at hl 0 rfl) ?_
              refine f_getN Bx hP (by omega) he_87 rfl inEl 6 (by decide) kw_94 rfl rfl d_Ct_fill_36 ?_
              refine lv_iload_n Bx.1 Bx.2.1 d_Ct_fill_39 rfl (lv_at hl 2 rfl) ?_
              refine lv_aload_n Bx.1 Bx.2.1 d_Ct_fill_40 rfl (lv_at hl 3 rfl) ?_
              refine lv_aload_n Bx.1 Bx.2.1 d_Ct_fill_41 rfl (lv_at hl 0 rfl) ?_
              refine lv_iload_n Bx.1 Bx.2.1 d_Ct_fill_42 rfl (lv_at hl 2 rfl) ?_
              refine f_callVi (na := 2) (As := [.ref (ad (20 + 2 * kk)), .int (nI i0)]) (rest := [.int (nI i0), .ref (ad (21 + 2 * kk))]) Bx hml E hP hD hS (by omega) h223_41 rfl (m_Ct_endsOfCharacters l hn hI hz34 hk9) kw_575 kw_577 sel_Ct_endsOfCharacters kw_7 kw_578 (by decide +kernel) ⟨rfl, rfl⟩ ⟨Nat.le_of_ble_eq_true rfl, Nat.le_of_ble_eq_true rfl⟩ rfl hl.1 (Nat.le_of_ble_eq_true rfl) d_Ct_fill_43 ⟨Nat.le_of_ble_eq_true rfl, Nat.le_of_ble_eq_true rfl⟩ (fun r89 mem90 H locs hq hP hS => ?_)
              have hD : va_D (Az sz) (fw n ad mem90) := fw_D hD
              rw [hq] at hP hD
              obtain ⟨g91, hg92⟩ := (hz34.1.2.2.2.2.2.1 kk (by omega)).2
              refine f_iast (x := r89) (i := nI i0) Bx hP hD hS (by omega) hg92 (vp_in_nI (by omega) (by decide)) d_Ct_fill_46 (fun H locs hP hS => ?_)
              obtain ⟨g94, hg94⟩ : ∃ z : Nat → Int32, z = upd g91 (nI i0).toNatClampNeg (r89) := ⟨_, rfl⟩
              rw [← hg94] at hP
              obtain ⟨mem93, e_mem93⟩ : ∃ z, z = va_up mem10 (21 + 2 * kk) (.inl (cy 1, 25, .inl g94)) := ⟨_, rfl⟩
              have hP : va_P D vcl (fw n ad mem93) H := by rw [e_mem93]; exact hP
              have hD : va_D (Az sz) (fw n ad mem93) := fw_D hD
              have hC95 : CS cy ad lim rc ec wh fl m0 mem93 := by rw [e_mem93]; exact hz34.ends (by omega)
              have h3_96 : mem93 3 = .inr (0, [.ref (ad 4), .int (nI I)]) := (hC95.2.2 3 (by omega)).trans hI.1
              obtain ⟨gi98, h4_97⟩ := hI.2.2
              have h4_97 : mem93 4 = .inl (cy 0, 24, .inl gi98) := (hC95.2.2 4 (by omega)).trans h4_97
              have h223_100 : mem93 223 = .inr (1, [.ref (ad 3), .ref (ad 5), .int fl]) := (hC95.2.2 223 (by omega)).trans hC95.2.1
              have h5_99 := hC95.1.2.1
              have hbd106 := hC95.1.1
              have hbI107 := hI.2.1
              obtain ⟨S101, g102, hS_103, h220_104, h221_105⟩ := hC95.1.2.2.2.2.2.2
              obtain ⟨k108, lo109, hi110, as111, pa112, ne113, he_114, ho_115⟩ := (hC95.1.2.2.2.2.2.1 kk (by omega)).1
              refine lv_iinc (lv' := [(2, .int ((nI kk + (1)))), (3, .ref (ad (20 + 2 * kk))), (1, .int (nI i0)), (0, .ref (ad 223))]) Bx.1 Bx.2.1 d_Ct_fill_47 hl (k := 1) rfl rfl (by decide) rfl (fun ls hl => ?_)
              refine lv_goto Bx.1 Bx.2.1 d_Ct_fill_50 rfl ?_
              exact ih35 mem93 (kk + 1) _ _ _ (by have := hmeas36; omega) (by omega) (hC95) hP hD hS (by rw [nI_succ]; exact (lv_sub hl [0, 2, 3] rfl))
        exact loop31 _ mem9 (0) _ _ _ (Nat.lt_succ_self _) (Nat.zero_le _) (hz16) hP hD hS (lv_sub hl [0, 1, 2] rfl)
  exact loop13 _ mem (I + 1) _ _ _ (Nat.lt_succ_self _) (Nat.le_refl _) (hC) hP hD hS (by rw [nI_m1]; exact (lv_sub hl [0, 1] rfl))
set_option maxHeartbeats 4000000 in
set_option maxRecDepth 100000 in
theorem m_Ct_endsOf (l : Launch) {D : va_G} {cy : Nat → ClassId} {sz n : Nat} {ad : Nat → Nat} {mem : Nat → va_E} {I lim rc ec : Nat} {wh fl : Int32} {m0 : Nat → va_E} {r0 : Nat} {i0 : Nat} (hn : 224 ≤ n) (hI : IX cy ad I m0) (hC : CS cy ad lim rc ec wh fl m0 mem) (hi0 : i0 ≤ I) (hr0 : r0 < rc) : MI l D cy sz n ad y_Ct_endsOf c_Ct_endsOf 3 (some .int) ({ frames := 5, cells := 0, slots := 0, locals := 150 } : Room) mem [.ref (ad 223), .int (nI r0), .int (nI i0)] (fun r mem' => ∃ fl', CS cy ad lim rc ec wh fl' (va_up m0 223 (.inr (1, [.ref (ad 3), .ref (ad 5), .int fl']))) mem') := by
  refine Met.ofW (cc := c_Ct_endsOf) (maxL := 3) (ret := (some .int)) (by decide) rfl ?_
  intro p e s m args below meth c s₁ B hml hv
  obtain ⟨rfl, E, hP, hD⟩ := hv
  have hx := B.exec
  have hb := B.bytes
  have hr := B.returns
  have hlocks := B.notSynchronized
  have Bx : MB p s m [.ref (ad 223), .int (nI r0), .int (nI i0)].toArray c c_Ct_endsOf "AbnfChart$Chart" D cy := ⟨hx, hb, tb_all (atoms_spec B.pre) E.2.1, findClass_of_methodNamed B.named, E.1⟩
  have hS : va_S (Az sz) s.heap s.heap [] := va_S.rf
  have hl := lv_entry ([.ref (ad 223), .int (nI r0), .int (nI i0)]) (n := 3) (Nat.le_of_ble_eq_true rfl)
  rw [lg_entry_eq]
  generalize (lg_sl ([.ref (ad 223), .int (nI r0), .int (nI i0)]) ++ List.replicate (3 - (lg_sl ([.ref (ad 223), .int (nI r0), .int (nI i0)])).length) Slot.unset).toArray = ls at hl ⊢
  have hl : lv_has ls 3 [(0, .ref (ad 223)), (1, .int (nI r0)), (2, .int (nI i0))] := hl
  have h3_1 : mem 3 = .inr (0, [.ref (ad 4), .int (nI I)]) := (hC.2.2 3 (by omega)).trans hI.1
  obtain ⟨gi3, h4_2⟩ := hI.2.2
  have h4_2 : mem 4 = .inl (cy 0, 24, .inl gi3) := (hC.2.2 4 (by omega)).trans h4_2
  have h223_5 : mem 223 = .inr (1, [.ref (ad 3), .ref (ad 5), .int fl]) := (hC.2.2 223 (by omega)).trans hC.2.1
  have h5_4 := hC.1.2.1
  have hbd11 := hC.1.1
  have hbI12 := hI.2.1
  obtain ⟨S6, g7, hS_8, h220_9, h221_10⟩ := hC.1.2.2.2.2.2.2
  refine lv_aload_n Bx.1 Bx.2.1 d_Ct_endsOf_0 rfl (lv_at hl 0 rfl) ?_
  refine f_get Bx hP (by omega) h223_5 rfl inCt 2 (by decide) kw_166 rfl rfl d_Ct_endsOf_1 ?_
  refine lv_if_ne Bx.1 Bx.2.1 d_Ct_endsOf_4 rfl (fun h8 => ?_) (fun h8 => ?_)
  · have hup : va_up m0 223 (.inr (1, [.ref (ad 3), .ref (ad 5), .int fl])) = m0 := up_id _ hC.2.1
    refine lv_aload_n Bx.1 Bx.2.1 d_Ct_endsOf_16 rfl (lv_at hl 0 rfl) ?_
    refine lv_aload_n Bx.1 Bx.2.1 d_Ct_endsOf_17 rfl (lv_at hl 0 rfl) ?_
    refine f_get Bx hP (by omega) h223_5 rfl inCt 1 (by decide) kw_165 rfl rfl d_Ct_endsOf_18 ?_
    refine f_getN Bx hP (by omega) h5_4 rfl inGr 0 (by decide) kw_114 rfl rfl d_Ct_endsOf_21 ?_
    refine lv_iload_n Bx.1 Bx.2.1 d_Ct_endsOf_24 rfl (lv_at hl 1 rfl) ?_
    refine f_aald (t0 := 5) Bx hP (by omega) hC.1.2.2.1 rfl r0 rfl (by omega) (by decide) (q := ad (7 + r0)) (by unfold rfA; rw [if_pos (by omega), Nat.one_mul]) d_Ct_endsOf_25 ?_
    refine lv_iload_n Bx.1 Bx.2.1 d_Ct_endsOf_26 rfl (lv_at hl 2 rfl) ?_
    refine f_callVi (na := 2) (As := [.ref (ad (7 + r0)), .int (nI i0)]) (rest := []) Bx hml E hP hD hS (by omega) h223_5 rfl (m_Ct_endsOfRule l hn hI hC hi0 (Or.inr ⟨r0, hr0, rfl⟩)) kw_609 kw_611 sel_Ct_endsOfRule kw_7 kw_612 (by decide +kernel) ⟨rfl, rfl⟩ ⟨Nat.le_of_ble_eq_true rfl, Nat.le_of_ble_eq_true rfl⟩ rfl hl.1 (Nat.le_of_ble_eq_true rfl) d_Ct_endsOf_27 ⟨Nat.le_of_ble_eq_true rfl, Nat.le_of_ble_eq_true rfl⟩ (fun r13 mem14 H locs hq hP hS => ?_)
    have hD : va_D (Az sz) (fw n ad mem14) := fw_D hD
    rw [hq] at hP hD
    exact W.iret (v := r13) hx hb hr (fun t ht hW => ⟨⟨r13, mem, rfl, ⟨fl, by rw [hup]; exact hC⟩, by show va_P _ _ _ t.heap; rw [ht]; exact hP⟩, hS.F ht⟩) hS.2.2 d_Ct_endsOf_30
  · refine lv_aload_n Bx.1 Bx.2.1 d_Ct_endsOf_7 rfl (lv_at hl 0 rfl) ?_
    refine f_callVv (na := 0) (As := []) (rest := []) Bx hml E hP hD hS (by omega) h223_5 rfl (m_Ct_fill l hn hI hC) kw_571 kw_573 sel_Ct_fill kw_7 kw_574 (by decide +kernel) ⟨rfl, rfl⟩ ⟨Nat.le_of_ble_eq_true rfl, Nat.le_of_ble_eq_true rfl⟩ rfl hl.1 (Nat.le_of_ble_eq_true rfl) d_Ct_endsOf_8 ⟨Nat.le_of_ble_eq_true rfl, Nat.le_of_ble_eq_true rfl⟩ (fun mem17 H locs hC15 hP hS => ?_)
    have hD : va_D (Az sz) (fw n ad mem17) := fw_D hD
    have h3_18 : mem17 3 = .inr (0, [.ref (ad 4), .int (nI I)]) := (hC15.2.2 3 (by omega)).trans hI.1
    obtain ⟨gi20, h4_19⟩ := hI.2.2
    have h4_19 : mem17 4 = .inl (cy 0, 24, .inl gi20) := (hC15.2.2 4 (by omega)).trans h4_19
    have h223_22 : mem17 223 = .inr (1, [.ref (ad 3), .ref (ad 5), .int fl]) := (hC15.2.2 223 (by omega)).trans hC15.2.1
    have h5_21 := hC15.1.2.1
    have hbd28 := hC15.1.1
    have hbI29 := hI.2.1
    obtain ⟨S23, g24, hS_25, h220_26, h221_27⟩ := hC15.1.2.2.2.2.2.2
    refine lv_aload_n Bx.1 Bx.2.1 d_Ct_endsOf_11 rfl (lv_at hl 0 rfl) ?_
    refine lv_iconst (v := 1) Bx.1 Bx.2.1 d_Ct_endsOf_12 (by decide) ?_
    refine f_put Bx hP hD hS (by omega) h223_22 rfl inCt tyCt okCt nmCt 2 (by decide) kw_166 rfl rfl rfl rfl (Nat.le_of_ble_eq_true rfl) d_Ct_endsOf_13 (fun H locs hP hS => ?_)
    obtain ⟨mem30, e_mem30⟩ : ∃ z, z = va_up mem17 (223) (.inr (1, [.ref (ad 3), .ref (ad 5), .int (1)])) := ⟨_, rfl⟩
    have hP : va_P D vcl (fw n ad mem30) H := by rw [e_mem30]; exact hP
    have hD : va_D (Az sz) (fw n ad mem30) := fw_D hD
    have h_mem30 : mem30 (223) = .inr (1, [.ref (ad 3), .ref (ad 5), .int (1)]) := by rw [e_mem30, va_up_self]
    have hh31 := (va_up_ne mem17 (.inr (1, [.ref (ad 3), .ref (ad 5), .int (1)])) (show (3 : Nat) ≠ 223 by first | decide | assumption | omega)).trans h3_18
    rw [← e_mem30] at hh31
    have hh32 := (va_up_ne mem17 (.inr (1, [.ref (ad 3), .ref (ad 5), .int (1)])) (show (5 : Nat) ≠ 223 by first | decide | assumption | omega)).trans h5_21
    rw [← e_mem30] at hh32
    have hh33 := (va_up_ne mem17 (.inr (1, [.ref (ad 3), .ref (ad 5), .int (1)])) (show (220 : Nat) ≠ 223 by first | decide | assumption | omega)).trans h220_26
    rw [← e_mem30] at hh33
    have hC9 : CS cy ad lim rc ec wh 1 (va_up m0 223 (.inr (1, [.ref (ad 3), .ref (ad 5), .int 1]))) mem30 := by
      rw [e_mem30]
      refine ⟨hC15.1.upAny (by omega), va_up_self _ _ _, fun i hi => ?_⟩
      by_cases q : i = 223
      · subst q; rw [va_up_self, va_up_self]
      · rw [va_up_ne _ _ q, va_up_ne _ _ q]; exact hC15.2.2 i hi
    have hI9 : IX cy ad I (va_up m0 223 (.inr (1, [.ref (ad 3), .ref (ad 5), .int 1]))) := ⟨(va_up_ne _ _ (by omega)).trans hI.1, hI.2.1, hI.2.2.elim (fun g q => ⟨g, (va_up_ne _ _ (by omega)).trans q⟩)⟩
    refine lv_aload_n Bx.1 Bx.2.1 d_Ct_endsOf_16 rfl (lv_at hl 0 rfl) ?_
    refine lv_aload_n Bx.1 Bx.2.1 d_Ct_endsOf_17 rfl (lv_at hl 0 rfl) ?_
    refine f_get Bx hP (by omega) h_mem30 rfl inCt 1 (by decide) kw_165 rfl rfl d_Ct_endsOf_18 ?_
    refine f_getN Bx hP (by omega) hh32 rfl inGr 0 (by decide) kw_114 rfl rfl d_Ct_endsOf_21 ?_
    refine lv_iload_n Bx.1 Bx.2.1 d_Ct_endsOf_24 rfl (lv_at hl 1 rfl) ?_
    refine f_aald (t0 := 5) Bx hP (by omega) hC9.1.2.2.1 rfl r0 rfl (by omega) (by decide) (q := ad (7 + r0)) (by unfold rfA; rw [if_pos (by omega), Nat.one_mul]) d_Ct_endsOf_25 ?_
    refine lv_iload_n Bx.1 Bx.2.1 d_Ct_endsOf_26 rfl (lv_at hl 2 rfl) ?_
    refine f_callVi (na := 2) (As := [.ref (ad (7 + r0)), .int (nI i0)]) (rest := []) Bx hml E hP hD hS (by omega) h_mem30 rfl (m_Ct_endsOfRule l hn hI9 hC9 hi0 (Or.inr ⟨r0, hr0, rfl⟩)) kw_609 kw_611 sel_Ct_endsOfRule kw_7 kw_612 (by decide +kernel) ⟨rfl, rfl⟩ ⟨Nat.le_of_ble_eq_true rfl, Nat.le_of_ble_eq_true rfl⟩ rfl hl.1 (Nat.le_of_ble_eq_true rfl) d_Ct_endsOf_27 ⟨Nat.le_of_ble_eq_true rfl, Nat.le_of_ble_eq_true rfl⟩ (fun r34 mem35 H locs hq hP hS => ?_)
    have hD : va_D (Az sz) (fw n ad mem35) := fw_D hD
    rw [hq] at hP hD
    exact W.iret (v := r34) hx hb hr (fun t ht hW => ⟨⟨r34, mem30, rfl, ⟨1, hC9⟩, by show va_P _ _ _ t.heap; rw [ht]; exact hP⟩, hS.F ht⟩) hS.2.2 d_Ct_endsOf_30
