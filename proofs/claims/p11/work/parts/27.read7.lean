theorem d_Rd_beginRow_0 : decode c_Rd_beginRow 0 = .ok (.aload_n 0, 1) := by decide +kernel
theorem d_Rd_beginRow_1 : decode c_Rd_beginRow 1 = .ok (.aload_n 0, 1) := by decide +kernel
theorem d_Rd_beginRow_2 : decode c_Rd_beginRow 2 = .ok (.invokevirtual 54, 3) := by decide +kernel
theorem d_Rd_beginRow_5 : decode c_Rd_beginRow 5 = .ok (.invokestatic 93, 3) := by decide +kernel
theorem d_Rd_beginRow_8 : decode c_Rd_beginRow 8 = .ok (.aload_n 0, 1) := by decide +kernel
theorem d_Rd_beginRow_9 : decode c_Rd_beginRow 9 = .ok (.getfield 19, 3) := by decide +kernel
theorem d_Rd_beginRow_12 : decode c_Rd_beginRow 12 = .ok (.invokevirtual 58, 3) := by decide +kernel
theorem d_Rd_beginRow_15 : decode c_Rd_beginRow 15 = .ok (.aload_n 0, 1) := by decide +kernel
theorem d_Rd_beginRow_16 : decode c_Rd_beginRow 16 = .ok (.iload_n 1, 1) := by decide +kernel
theorem d_Rd_beginRow_17 : decode c_Rd_beginRow 17 = .ok (.aload_n 0, 1) := by decide +kernel
theorem d_Rd_beginRow_18 : decode c_Rd_beginRow 18 = .ok (.getfield 19, 3) := by decide +kernel
theorem d_Rd_beginRow_21 : decode c_Rd_beginRow 21 = .ok (.invokevirtual 97, 3) := by decide +kernel
theorem d_Rd_beginRow_24 : decode c_Rd_beginRow 24 = .ok (.areturn, 1) := by decide +kernel
theorem d_Rd_readBracket_0 : decode c_Rd_readBracket 0 = .ok (.aload_n 0, 1) := by decide +kernel
theorem d_Rd_readBracket_1 : decode c_Rd_readBracket 1 = .ok (.iload_n 1, 1) := by decide +kernel
theorem d_Rd_readBracket_2 : decode c_Rd_readBracket 2 = .ok (.bipush 6, 2) := by decide +kernel
theorem d_Rd_readBracket_4 : decode c_Rd_readBracket 4 = .ok (.if_icmp .ge 7, 3) := by decide +kernel
theorem d_Rd_readBracket_7 : decode c_Rd_readBracket 7 = .ok (.iconst 1, 1) := by decide +kernel
theorem d_Rd_readBracket_8 : decode c_Rd_readBracket 8 = .ok (.goto 4, 3) := by decide +kernel
theorem d_Rd_readBracket_11 : decode c_Rd_readBracket 11 = .ok (.iconst 0, 1) := by decide +kernel
theorem d_Rd_readBracket_12 : decode c_Rd_readBracket 12 = .ok (.aload_n 0, 1) := by decide +kernel
theorem d_Rd_readBracket_13 : decode c_Rd_readBracket 13 = .ok (.getfield 19, 3) := by decide +kernel
theorem d_Rd_readBracket_16 : decode c_Rd_readBracket 16 = .ok (.invokevirtual 148, 3) := by decide +kernel
theorem d_Rd_readBracket_19 : decode c_Rd_readBracket 19 = .ok (.aload_n 0, 1) := by decide +kernel
theorem d_Rd_readBracket_20 : decode c_Rd_readBracket 20 = .ok (.dup, 1) := by decide +kernel
theorem d_Rd_readBracket_21 : decode c_Rd_readBracket 21 = .ok (.getfield 19, 3) := by decide +kernel
theorem d_Rd_readBracket_24 : decode c_Rd_readBracket 24 = .ok (.iconst 1, 1) := by decide +kernel
theorem d_Rd_readBracket_25 : decode c_Rd_readBracket 25 = .ok (.iadd, 1) := by decide +kernel
theorem d_Rd_readBracket_26 : decode c_Rd_readBracket 26 = .ok (.putfield 19, 3) := by decide +kernel
theorem d_Rd_readBracket_29 : decode c_Rd_readBracket 29 = .ok (.aload_n 0, 1) := by decide +kernel
theorem d_Rd_readBracket_30 : decode c_Rd_readBracket 30 = .ok (.invokevirtual 50, 3) := by decide +kernel
theorem d_Rd_readBracket_33 : decode c_Rd_readBracket 33 = .ok (.pop, 1) := by decide +kernel
theorem d_Rd_readBracket_34 : decode c_Rd_readBracket 34 = .ok (.aload_n 0, 1) := by decide +kernel
theorem d_Rd_readBracket_35 : decode c_Rd_readBracket 35 = .ok (.iload_n 1, 1) := by decide +kernel
theorem d_Rd_readBracket_36 : decode c_Rd_readBracket 36 = .ok (.iconst 1, 1) := by decide +kernel
theorem d_Rd_readBracket_37 : decode c_Rd_readBracket 37 = .ok (.iadd, 1) := by decide +kernel
theorem d_Rd_readBracket_38 : decode c_Rd_readBracket 38 = .ok (.invokevirtual 67, 3) := by decide +kernel
theorem d_Rd_readBracket_41 : decode c_Rd_readBracket 41 = .ok (.astore_n 3, 1) := by decide +kernel
theorem d_Rd_readBracket_42 : decode c_Rd_readBracket 42 = .ok (.aload_n 0, 1) := by decide +kernel
theorem d_Rd_readBracket_43 : decode c_Rd_readBracket 43 = .ok (.aload_n 0, 1) := by decide +kernel
theorem d_Rd_readBracket_44 : decode c_Rd_readBracket 44 = .ok (.invokevirtual 54, 3) := by decide +kernel
theorem d_Rd_readBracket_47 : decode c_Rd_readBracket 47 = .ok (.iload_n 2, 1) := by decide +kernel
theorem d_Rd_readBracket_48 : decode c_Rd_readBracket 48 = .ok (.if_icmp .ne 7, 3) := by decide +kernel
theorem d_Rd_readBracket_51 : decode c_Rd_readBracket 51 = .ok (.iconst 1, 1) := by decide +kernel
theorem d_Rd_readBracket_52 : decode c_Rd_readBracket 52 = .ok (.goto 4, 3) := by decide +kernel
theorem d_Rd_readBracket_55 : decode c_Rd_readBracket 55 = .ok (.iconst 0, 1) := by decide +kernel
theorem d_Rd_readBracket_56 : decode c_Rd_readBracket 56 = .ok (.aload_n 0, 1) := by decide +kernel
theorem d_Rd_readBracket_57 : decode c_Rd_readBracket 57 = .ok (.getfield 19, 3) := by decide +kernel
theorem d_Rd_readBracket_60 : decode c_Rd_readBracket 60 = .ok (.invokevirtual 58, 3) := by decide +kernel
theorem d_Rd_readBracket_63 : decode c_Rd_readBracket 63 = .ok (.aload_n 0, 1) := by decide +kernel
theorem d_Rd_readBracket_64 : decode c_Rd_readBracket 64 = .ok (.dup, 1) := by decide +kernel
theorem d_Rd_readBracket_65 : decode c_Rd_readBracket 65 = .ok (.getfield 19, 3) := by decide +kernel
theorem d_Rd_readBracket_68 : decode c_Rd_readBracket 68 = .ok (.iconst 1, 1) := by decide +kernel
theorem d_Rd_readBracket_69 : decode c_Rd_readBracket 69 = .ok (.iadd, 1) := by decide +kernel
theorem d_Rd_readBracket_70 : decode c_Rd_readBracket 70 = .ok (.putfield 19, 3) := by decide +kernel
theorem d_Rd_readBracket_73 : decode c_Rd_readBracket 73 = .ok (.aload_n 3, 1) := by decide +kernel
theorem d_Rd_readBracket_74 : decode c_Rd_readBracket 74 = .ok (.areturn, 1) := by decide +kernel
theorem d_Rd_readOption_0 : decode c_Rd_readOption 0 = .ok (.aload_n 0, 1) := by decide +kernel
theorem d_Rd_readOption_1 : decode c_Rd_readOption 1 = .ok (.iconst 3, 1) := by decide +kernel
theorem d_Rd_readOption_2 : decode c_Rd_readOption 2 = .ok (.aload_n 0, 1) := by decide +kernel
theorem d_Rd_readOption_3 : decode c_Rd_readOption 3 = .ok (.getfield 19, 3) := by decide +kernel
theorem d_Rd_readOption_6 : decode c_Rd_readOption 6 = .ok (.invokevirtual 97, 3) := by decide +kernel
theorem d_Rd_readOption_9 : decode c_Rd_readOption 9 = .ok (.astore_n 2, 1) := by decide +kernel
theorem d_Rd_readOption_10 : decode c_Rd_readOption 10 = .ok (.aload_n 2, 1) := by decide +kernel
theorem d_Rd_readOption_11 : decode c_Rd_readOption 11 = .ok (.aload_n 0, 1) := by decide +kernel
theorem d_Rd_readOption_12 : decode c_Rd_readOption 12 = .ok (.iload_n 1, 1) := by decide +kernel
theorem d_Rd_readOption_13 : decode c_Rd_readOption 13 = .ok (.bipush 93, 2) := by decide +kernel
theorem d_Rd_readOption_15 : decode c_Rd_readOption 15 = .ok (.invokevirtual 122, 3) := by decide +kernel
theorem d_Rd_readOption_18 : decode c_Rd_readOption 18 = .ok (.putfield 81, 3) := by decide +kernel
theorem d_Rd_readOption_21 : decode c_Rd_readOption 21 = .ok (.aload_n 2, 1) := by decide +kernel
theorem d_Rd_readOption_22 : decode c_Rd_readOption 22 = .ok (.areturn, 1) := by decide +kernel
theorem d_Rd_readElement_0 : decode c_Rd_readElement 0 = .ok (.aload_n 0, 1) := by decide +kernel
theorem d_Rd_readElement_1 : decode c_Rd_readElement 1 = .ok (.invokevirtual 54, 3) := by decide +kernel
theorem d_Rd_readElement_4 : decode c_Rd_readElement 4 = .ok (.lookupswitch 101 #[(34, 58), (37, 68), (40, 44), (91, 52)], 44) := by decide +kernel
theorem d_Rd_readElement_48 : decode c_Rd_readElement 48 = .ok (.aload_n 0, 1) := by decide +kernel
theorem d_Rd_readElement_49 : decode c_Rd_readElement 49 = .ok (.iload_n 1, 1) := by decide +kernel
theorem d_Rd_readElement_50 : decode c_Rd_readElement 50 = .ok (.bipush 41, 2) := by decide +kernel
theorem d_Rd_readElement_52 : decode c_Rd_readElement 52 = .ok (.invokevirtual 122, 3) := by decide +kernel
theorem d_Rd_readElement_55 : decode c_Rd_readElement 55 = .ok (.areturn, 1) := by decide +kernel
theorem d_Rd_readElement_56 : decode c_Rd_readElement 56 = .ok (.aload_n 0, 1) := by decide +kernel
theorem d_Rd_readElement_57 : decode c_Rd_readElement 57 = .ok (.iload_n 1, 1) := by decide +kernel
theorem d_Rd_readElement_58 : decode c_Rd_readElement 58 = .ok (.invokevirtual 126, 3) := by decide +kernel
theorem d_Rd_readElement_61 : decode c_Rd_readElement 61 = .ok (.areturn, 1) := by decide +kernel
theorem d_Rd_readElement_62 : decode c_Rd_readElement 62 = .ok (.aload_n 0, 1) := by decide +kernel
theorem d_Rd_readElement_63 : decode c_Rd_readElement 63 = .ok (.aload_n 0, 1) := by decide +kernel
theorem d_Rd_readElement_64 : decode c_Rd_readElement 64 = .ok (.getfield 19, 3) := by decide +kernel
theorem d_Rd_readElement_67 : decode c_Rd_readElement 67 = .ok (.iconst 5, 1) := by decide +kernel
theorem d_Rd_readElement_68 : decode c_Rd_readElement 68 = .ok (.invokevirtual 129, 3) := by decide +kernel
theorem d_Rd_readElement_71 : decode c_Rd_readElement 71 = .ok (.areturn, 1) := by decide +kernel
theorem d_Rd_readElement_72 : decode c_Rd_readElement 72 = .ok (.aload_n 0, 1) := by decide +kernel
theorem d_Rd_readElement_73 : decode c_Rd_readElement 73 = .ok (.getfield 9, 3) := by decide +kernel
theorem d_Rd_readElement_76 : decode c_Rd_readElement 76 = .ok (.aload_n 0, 1) := by decide +kernel
theorem d_Rd_readElement_77 : decode c_Rd_readElement 77 = .ok (.getfield 19, 3) := by decide +kernel
theorem d_Rd_readElement_80 : decode c_Rd_readElement 80 = .ok (.iconst 1, 1) := by decide +kernel
theorem d_Rd_readElement_81 : decode c_Rd_readElement 81 = .ok (.iadd, 1) := by decide +kernel
theorem d_Rd_readElement_82 : decode c_Rd_readElement 82 = .ok (.invokevirtual 132, 3) := by decide +kernel
theorem d_Rd_readElement_85 : decode c_Rd_readElement 85 = .ok (.invokestatic 135, 3) := by decide +kernel
theorem d_Rd_readElement_88 : decode c_Rd_readElement 88 = .ok (.bipush 115, 2) := by decide +kernel
theorem d_Rd_readElement_90 : decode c_Rd_readElement 90 = .ok (.if_icmp .ne 10, 3) := by decide +kernel
theorem d_Rd_readElement_93 : decode c_Rd_readElement 93 = .ok (.aload_n 0, 1) := by decide +kernel
theorem d_Rd_readElement_94 : decode c_Rd_readElement 94 = .ok (.invokevirtual 138, 3) := by decide +kernel
theorem d_Rd_readElement_97 : decode c_Rd_readElement 97 = .ok (.goto 7, 3) := by decide +kernel
theorem d_Rd_readElement_100 : decode c_Rd_readElement 100 = .ok (.aload_n 0, 1) := by decide +kernel
theorem d_Rd_readElement_101 : decode c_Rd_readElement 101 = .ok (.invokevirtual 142, 3) := by decide +kernel
theorem d_Rd_readElement_104 : decode c_Rd_readElement 104 = .ok (.areturn, 1) := by decide +kernel
theorem d_Rd_readElement_105 : decode c_Rd_readElement 105 = .ok (.aload_n 0, 1) := by decide +kernel
theorem d_Rd_readElement_106 : decode c_Rd_readElement 106 = .ok (.invokevirtual 145, 3) := by decide +kernel
theorem d_Rd_readElement_109 : decode c_Rd_readElement 109 = .ok (.areturn, 1) := by decide +kernel
theorem d_Rd_readRepetition_0 : decode c_Rd_readRepetition 0 = .ok (.aload_n 0, 1) := by decide +kernel
theorem d_Rd_readRepetition_1 : decode c_Rd_readRepetition 1 = .ok (.invokevirtual 54, 3) := by decide +kernel
theorem d_Rd_readRepetition_4 : decode c_Rd_readRepetition 4 = .ok (.invokestatic 101, 3) := by decide +kernel
theorem d_Rd_readRepetition_7 : decode c_Rd_readRepetition 7 = .ok (.ifCond .ne 9, 3) := by decide +kernel
theorem d_Rd_readRepetition_10 : decode c_Rd_readRepetition 10 = .ok (.aload_n 0, 1) := by decide +kernel
theorem d_Rd_readRepetition_11 : decode c_Rd_readRepetition 11 = .ok (.iload_n 1, 1) := by decide +kernel
theorem d_Rd_readRepetition_12 : decode c_Rd_readRepetition 12 = .ok (.invokevirtual 104, 3) := by decide +kernel
theorem d_Rd_readRepetition_15 : decode c_Rd_readRepetition 15 = .ok (.areturn, 1) := by decide +kernel
theorem d_Rd_readRepetition_16 : decode c_Rd_readRepetition 16 = .ok (.aload_n 0, 1) := by decide +kernel
theorem d_Rd_readRepetition_17 : decode c_Rd_readRepetition 17 = .ok (.iconst 2, 1) := by decide +kernel
theorem d_Rd_readRepetition_18 : decode c_Rd_readRepetition 18 = .ok (.aload_n 0, 1) := by decide +kernel
theorem d_Rd_readRepetition_19 : decode c_Rd_readRepetition 19 = .ok (.getfield 19, 3) := by decide +kernel
theorem d_Rd_readRepetition_22 : decode c_Rd_readRepetition 22 = .ok (.invokevirtual 97, 3) := by decide +kernel
theorem d_Rd_readRepetition_25 : decode c_Rd_readRepetition 25 = .ok (.astore_n 2, 1) := by decide +kernel
theorem d_Rd_readRepetition_26 : decode c_Rd_readRepetition 26 = .ok (.aload_n 0, 1) := by decide +kernel
theorem d_Rd_readRepetition_27 : decode c_Rd_readRepetition 27 = .ok (.aload_n 2, 1) := by decide +kernel
theorem d_Rd_readRepetition_28 : decode c_Rd_readRepetition 28 = .ok (.invokevirtual 107, 3) := by decide +kernel
theorem d_Rd_readRepetition_31 : decode c_Rd_readRepetition 31 = .ok (.aload_n 2, 1) := by decide +kernel
theorem d_Rd_readRepetition_32 : decode c_Rd_readRepetition 32 = .ok (.aload_n 0, 1) := by decide +kernel
theorem d_Rd_readRepetition_33 : decode c_Rd_readRepetition 33 = .ok (.iload_n 1, 1) := by decide +kernel
theorem d_Rd_readRepetition_34 : decode c_Rd_readRepetition 34 = .ok (.invokevirtual 104, 3) := by decide +kernel
theorem d_Rd_readRepetition_37 : decode c_Rd_readRepetition 37 = .ok (.putfield 81, 3) := by decide +kernel
theorem d_Rd_readRepetition_40 : decode c_Rd_readRepetition 40 = .ok (.aload_n 2, 1) := by decide +kernel
theorem d_Rd_readRepetition_41 : decode c_Rd_readRepetition 41 = .ok (.areturn, 1) := by decide +kernel
theorem d_Rd_readSequence_0 : decode c_Rd_readSequence 0 = .ok (.aload_n 0, 1) := by decide +kernel
theorem d_Rd_readSequence_1 : decode c_Rd_readSequence 1 = .ok (.iconst 1, 1) := by decide +kernel
theorem d_Rd_readSequence_2 : decode c_Rd_readSequence 2 = .ok (.invokevirtual 75, 3) := by decide +kernel
theorem d_Rd_readSequence_5 : decode c_Rd_readSequence 5 = .ok (.astore_n 2, 1) := by decide +kernel
theorem d_Rd_readSequence_6 : decode c_Rd_readSequence 6 = .ok (.aload_n 0, 1) := by decide +kernel
theorem d_Rd_readSequence_7 : decode c_Rd_readSequence 7 = .ok (.iload_n 1, 1) := by decide +kernel
theorem d_Rd_readSequence_8 : decode c_Rd_readSequence 8 = .ok (.invokevirtual 90, 3) := by decide +kernel
theorem d_Rd_readSequence_11 : decode c_Rd_readSequence 11 = .ok (.astore_n 3, 1) := by decide +kernel
theorem d_Rd_readSequence_12 : decode c_Rd_readSequence 12 = .ok (.aload_n 2, 1) := by decide +kernel
theorem d_Rd_readSequence_13 : decode c_Rd_readSequence 13 = .ok (.aload_n 3, 1) := by decide +kernel
theorem d_Rd_readSequence_14 : decode c_Rd_readSequence 14 = .ok (.putfield 81, 3) := by decide +kernel
theorem d_Rd_readSequence_17 : decode c_Rd_readSequence 17 = .ok (.iconst 0, 1) := by decide +kernel
theorem d_Rd_readSequence_18 : decode c_Rd_readSequence 18 = .ok (.istore 4, 2) := by decide +kernel
theorem d_Rd_readSequence_20 : decode c_Rd_readSequence 20 = .ok (.iload 4, 2) := by decide +kernel
theorem d_Rd_readSequence_22 : decode c_Rd_readSequence 22 = .ok (.sipush 240, 3) := by decide +kernel
theorem d_Rd_readSequence_25 : decode c_Rd_readSequence 25 = .ok (.if_icmp .ge 40, 3) := by decide +kernel
theorem d_Rd_readSequence_28 : decode c_Rd_readSequence 28 = .ok (.aload_n 0, 1) := by decide +kernel
theorem d_Rd_readSequence_29 : decode c_Rd_readSequence 29 = .ok (.invokevirtual 50, 3) := by decide +kernel
theorem d_Rd_readSequence_32 : decode c_Rd_readSequence 32 = .ok (.ifCond .eq 33, 3) := by decide +kernel
theorem d_Rd_readSequence_35 : decode c_Rd_readSequence 35 = .ok (.aload_n 0, 1) := by decide +kernel
theorem d_Rd_readSequence_36 : decode c_Rd_readSequence 36 = .ok (.invokevirtual 54, 3) := by decide +kernel
theorem d_Rd_readSequence_39 : decode c_Rd_readSequence 39 = .ok (.invokestatic 93, 3) := by decide +kernel
theorem d_Rd_readSequence_42 : decode c_Rd_readSequence 42 = .ok (.ifCond .eq 23, 3) := by decide +kernel
theorem d_Rd_readSequence_45 : decode c_Rd_readSequence 45 = .ok (.aload_n 3, 1) := by decide +kernel
theorem d_Rd_readSequence_46 : decode c_Rd_readSequence 46 = .ok (.aload_n 0, 1) := by decide +kernel
theorem d_Rd_readSequence_47 : decode c_Rd_readSequence 47 = .ok (.iload_n 1, 1) := by decide +kernel
theorem d_Rd_readSequence_48 : decode c_Rd_readSequence 48 = .ok (.invokevirtual 90, 3) := by decide +kernel
theorem d_Rd_readSequence_51 : decode c_Rd_readSequence 51 = .ok (.putfield 87, 3) := by decide +kernel
theorem d_Rd_readSequence_54 : decode c_Rd_readSequence 54 = .ok (.aload_n 3, 1) := by decide +kernel
theorem d_Rd_readSequence_55 : decode c_Rd_readSequence 55 = .ok (.getfield 87, 3) := by decide +kernel
theorem d_Rd_readSequence_58 : decode c_Rd_readSequence 58 = .ok (.astore_n 3, 1) := by decide +kernel
theorem d_Rd_readSequence_59 : decode c_Rd_readSequence 59 = .ok (.iinc 4 1, 3) := by decide +kernel
theorem d_Rd_readSequence_62 : decode c_Rd_readSequence 62 = .ok (.goto (-42), 3) := by decide +kernel
theorem d_Rd_readSequence_65 : decode c_Rd_readSequence 65 = .ok (.aload_n 2, 1) := by decide +kernel
theorem d_Rd_readSequence_66 : decode c_Rd_readSequence 66 = .ok (.areturn, 1) := by decide +kernel
theorem d_Rd_readAlternatives_0 : decode c_Rd_readAlternatives 0 = .ok (.aload_n 0, 1) := by decide +kernel
theorem d_Rd_readAlternatives_1 : decode c_Rd_readAlternatives 1 = .ok (.iconst 0, 1) := by decide +kernel
theorem d_Rd_readAlternatives_2 : decode c_Rd_readAlternatives 2 = .ok (.invokevirtual 75, 3) := by decide +kernel
theorem d_Rd_readAlternatives_5 : decode c_Rd_readAlternatives 5 = .ok (.astore_n 2, 1) := by decide +kernel
theorem d_Rd_readAlternatives_6 : decode c_Rd_readAlternatives 6 = .ok (.aload_n 0, 1) := by decide +kernel
theorem d_Rd_readAlternatives_7 : decode c_Rd_readAlternatives 7 = .ok (.iload_n 1, 1) := by decide +kernel
theorem d_Rd_readAlternatives_8 : decode c_Rd_readAlternatives 8 = .ok (.invokevirtual 78, 3) := by decide +kernel
theorem d_Rd_readAlternatives_11 : decode c_Rd_readAlternatives 11 = .ok (.astore_n 3, 1) := by decide +kernel
theorem d_Rd_readAlternatives_12 : decode c_Rd_readAlternatives 12 = .ok (.aload_n 2, 1) := by decide +kernel
theorem d_Rd_readAlternatives_13 : decode c_Rd_readAlternatives 13 = .ok (.aload_n 3, 1) := by decide +kernel
theorem d_Rd_readAlternatives_14 : decode c_Rd_readAlternatives 14 = .ok (.putfield 81, 3) := by decide +kernel
theorem d_Rd_readAlternatives_17 : decode c_Rd_readAlternatives 17 = .ok (.iconst 0, 1) := by decide +kernel
theorem d_Rd_readAlternatives_18 : decode c_Rd_readAlternatives 18 = .ok (.istore 4, 2) := by decide +kernel
theorem d_Rd_readAlternatives_20 : decode c_Rd_readAlternatives 20 = .ok (.iload 4, 2) := by decide +kernel
theorem d_Rd_readAlternatives_22 : decode c_Rd_readAlternatives 22 = .ok (.sipush 240, 3) := by decide +kernel
theorem d_Rd_readAlternatives_25 : decode c_Rd_readAlternatives 25 = .ok (.if_icmp .ge 47, 3) := by decide +kernel
theorem d_Rd_readAlternatives_28 : decode c_Rd_readAlternatives 28 = .ok (.aload_n 0, 1) := by decide +kernel
theorem d_Rd_readAlternatives_29 : decode c_Rd_readAlternatives 29 = .ok (.invokevirtual 54, 3) := by decide +kernel
theorem d_Rd_readAlternatives_32 : decode c_Rd_readAlternatives 32 = .ok (.bipush 47, 2) := by decide +kernel
theorem d_Rd_readAlternatives_34 : decode c_Rd_readAlternatives 34 = .ok (.if_icmp .ne 38, 3) := by decide +kernel
theorem d_Rd_readAlternatives_37 : decode c_Rd_readAlternatives 37 = .ok (.aload_n 0, 1) := by decide +kernel
theorem d_Rd_readAlternatives_38 : decode c_Rd_readAlternatives 38 = .ok (.dup, 1) := by decide +kernel
theorem d_Rd_readAlternatives_39 : decode c_Rd_readAlternatives 39 = .ok (.getfield 19, 3) := by decide +kernel
theorem d_Rd_readAlternatives_42 : decode c_Rd_readAlternatives 42 = .ok (.iconst 1, 1) := by decide +kernel
theorem d_Rd_readAlternatives_43 : decode c_Rd_readAlternatives 43 = .ok (.iadd, 1) := by decide +kernel
theorem d_Rd_readAlternatives_44 : decode c_Rd_readAlternatives 44 = .ok (.putfield 19, 3) := by decide +kernel
theorem d_Rd_readAlternatives_47 : decode c_Rd_readAlternatives 47 = .ok (.aload_n 0, 1) := by decide +kernel
theorem d_Rd_readAlternatives_48 : decode c_Rd_readAlternatives 48 = .ok (.invokevirtual 50, 3) := by decide +kernel
theorem d_Rd_readAlternatives_51 : decode c_Rd_readAlternatives 51 = .ok (.pop, 1) := by decide +kernel
theorem d_Rd_readAlternatives_52 : decode c_Rd_readAlternatives 52 = .ok (.aload_n 3, 1) := by decide +kernel
theorem d_Rd_readAlternatives_53 : decode c_Rd_readAlternatives 53 = .ok (.aload_n 0, 1) := by decide +kernel
theorem d_Rd_readAlternatives_54 : decode c_Rd_readAlternatives 54 = .ok (.iload_n 1, 1) := by decide +kernel
theorem d_Rd_readAlternatives_55 : decode c_Rd_readAlternatives 55 = .ok (.invokevirtual 78, 3) := by decide +kernel
theorem d_Rd_readAlternatives_58 : decode c_Rd_readAlternatives 58 = .ok (.putfield 87, 3) := by decide +kernel
theorem d_Rd_readAlternatives_61 : decode c_Rd_readAlternatives 61 = .ok (.aload_n 3, 1) := by decide +kernel
theorem d_Rd_readAlternatives_62 : decode c_Rd_readAlternatives 62 = .ok (.getfield 87, 3) := by decide +kernel
theorem d_Rd_readAlternatives_65 : decode c_Rd_readAlternatives 65 = .ok (.astore_n 3, 1) := by decide +kernel
theorem d_Rd_readAlternatives_66 : decode c_Rd_readAlternatives 66 = .ok (.iinc 4 1, 3) := by decide +kernel
theorem d_Rd_readAlternatives_69 : decode c_Rd_readAlternatives 69 = .ok (.goto (-49), 3) := by decide +kernel
theorem d_Rd_readAlternatives_72 : decode c_Rd_readAlternatives 72 = .ok (.aload_n 2, 1) := by decide +kernel
theorem d_Rd_readAlternatives_73 : decode c_Rd_readAlternatives 73 = .ok (.areturn, 1) := by decide +kernel
set_option maxHeartbeats 4000000 in
set_option maxRecDepth 100000 in
theorem m_Rd_beginRow (l : Launch) {D : va_G} {cy : Nat → ClassId} {sz n : Nat} {ad : Nat → Nat} {mem : Nat → va_E} {Z : Nat} {f : Nat → Int32} {lim rc ec : Nat} {m0 : Nat → va_E} {kd : Int32} (hlt : l.stackTraces = false) (hn : 224 ≤ n) (hT : TX cy ad Z f m0) (hRS : RS cy ad lim rc ec m0 mem) : NXr l D cy sz n ad y_Rd_beginRow c_Rd_beginRow 2 (some (.object "AbnfChart$Element")) ({ frames := 10, cells := 1, slots := 6, locals := 220 } : Room) mem [.ref (ad 222), .int (kd)] (fun r mem' => ∃ k rc' ec' : Nat, r = ad (20 + 2 * k) ∧ ec ≤ k ∧ k < ec' ∧ rc ≤ rc' ∧ RS cy ad lim rc' ec' m0 mem') (fun X mem' => (X = cIA ∨ X = cIS) ∧ ∃ rc' ec' : Nat, RS cy ad lim rc' ec' m0 mem') := by
  refine vx_ofW (cc := c_Rd_beginRow) (maxL := 2) (ret := (some (.object "AbnfChart$Element"))) (by decide) rfl ?_
  intro p e s m args below meth c s₁ B hml hno hv
  obtain ⟨rfl, E, hP, hD⟩ := hv
  have hx := B.exec
  have hb := B.bytes
  have hr := B.returns
  have hlocks := B.notSynchronized
  have Bx : MB p s m [.ref (ad 222), .int (kd)].toArray c c_Rd_beginRow "AbnfChart$Reader" D cy := ⟨hx, hb, tb_all (atoms_spec B.pre) E.2.1, findClass_of_methodNamed B.named, E.1⟩
  have hS : va_S (Az sz) s.heap s.heap [] := va_S.rf
  have hl := lv_entry ([.ref (ad 222), .int (kd)]) (n := 2) (Nat.le_of_ble_eq_true rfl)
  rw [lg_entry_eq]
  generalize (lg_sl ([.ref (ad 222), .int (kd)]) ++ List.replicate (2 - (lg_sl ([.ref (ad 222), .int (kd)])).length) Slot.unset).toArray = ls at hl ⊢
  have hl : lv_has ls 2 [(0, .ref (ad 222)), (1, .int (kd))] := hl
  obtain ⟨at1, ft2, h9_3⟩ := hRS.2.1
  have h1_4 : mem 1 = .inr (0, [.ref (ad 2), .int (nI Z)]) := (hRS.2.2 1 (by omega)).trans hT.1
  have h2_5 : mem 2 = .inl (cy 0, 240, .inl f) := (hRS.2.2 2 (by omega)).trans hT.2.2
  have h5_6 := hRS.1.2.1
  have hbd12 := hRS.1.1
  obtain ⟨S7, g8, hS_9, h220_10, h221_11⟩ := hRS.1.2.2.2.2.2.2
  refine lv_aload_n Bx.1 Bx.2.1 d_Rd_beginRow_0 rfl (lv_at hl 0 rfl) ?_
  refine lv_aload_n Bx.1 Bx.2.1 d_Rd_beginRow_1 rfl (lv_at hl 0 rfl) ?_
  refine f_callVi (na := 0) (As := []) (rest := [.ref (ad 222)]) Bx hml E hP hD hS (by omega) h9_3 rfl (m_Rd_peek l hn hT hRS) kw_353 kw_355 sel_Rd_peek kw_6 kw_356 (by decide +kernel) ⟨rfl, rfl⟩ ⟨Nat.le_of_ble_eq_true rfl, Nat.le_of_ble_eq_true rfl⟩ rfl hl.1 (Nat.le_of_ble_eq_true rfl) d_Rd_beginRow_2 ⟨Nat.le_of_ble_eq_true rfl, Nat.le_of_ble_eq_true rfl⟩ (fun r13 mem14 H locs hq hP hS => ?_)
  have hD : va_D (Az sz) (fw n ad mem14) := fw_D hD
  rw [hq] at hP hD
  refine f_callSi (na := 1) (As := [.int (r13)]) (rest := [.ref (ad 222)]) Bx hml E.2.1 (m_Rd_beginsRepetition l (r13)) kw_413 kw_414 kw_6 kw_415 (by decide +kernel) ⟨rfl, rfl⟩ ⟨Nat.le_of_ble_eq_true rfl, Nat.le_of_ble_eq_true rfl⟩ rfl hl.1 (Nat.le_of_ble_eq_true rfl) d_Rd_beginRow_5 ⟨Nat.le_of_ble_eq_true rfl, Nat.le_of_ble_eq_true rfl⟩ (fun r16 hs15 => ?_)
  refine lv_aload_n Bx.1 Bx.2.1 d_Rd_beginRow_8 rfl (lv_at hl 0 rfl) ?_
  refine f_get Bx hP (by omega) h9_3 rfl inRd 2 (by decide) kw_146 rfl rfl d_Rd_beginRow_9 ?_
  refine f_xVv (na := 2) (As := [.int (r16), .int (at1)]) (rest := []) Bx hml E hP hD hS (by omega) h9_3 rfl (m_Rd_needReadable l hlt hn hT hRS) kw_360 kw_362 sel_Rd_needReadable kw_6 kw_363 (by decide +kernel) ⟨rfl, rfl⟩ ⟨Nat.le_of_ble_eq_true rfl, Nat.le_of_ble_eq_true rfl⟩ rfl hl.1 (Nat.le_of_ble_eq_true rfl) d_Rd_beginRow_12 ⟨Nat.le_of_ble_eq_true rfl, Nat.le_of_ble_eq_true rfl⟩ (fun X ce q9 memx H locs hx9 hP hS g1 g2 g3 => f_out hlocks hno hP hS g1 g2 g3 ⟨Nat.le_of_ble_eq_true rfl, Nat.le_of_ble_eq_true rfl⟩ hx9) (fun mem18 H locs hq hP hS => ?_)
  have hD : va_D (Az sz) (fw n ad mem18) := fw_D hD
  obtain ⟨hRS19, -, hg20⟩ := hq
  obtain ⟨at21, ft22, h9_23⟩ := hRS19.2.1
  have h1_24 : mem18 1 = .inr (0, [.ref (ad 2), .int (nI Z)]) := (hRS19.2.2 1 (by omega)).trans hT.1
  have h2_25 : mem18 2 = .inl (cy 0, 240, .inl f) := (hRS19.2.2 2 (by omega)).trans hT.2.2
  have h5_26 := hRS19.1.2.1
  have hbd32 := hRS19.1.1
  obtain ⟨S27, g28, hS_29, h220_30, h221_31⟩ := hRS19.1.2.2.2.2.2.2
  refine lv_aload_n Bx.1 Bx.2.1 d_Rd_beginRow_15 rfl (lv_at hl 0 rfl) ?_
  refine lv_iload_n Bx.1 Bx.2.1 d_Rd_beginRow_16 rfl (lv_at hl 1 rfl) ?_
  refine lv_aload_n Bx.1 Bx.2.1 d_Rd_beginRow_17 rfl (lv_at hl 0 rfl) ?_
  refine f_get Bx hP (by omega) h9_23 rfl inRd 2 (by decide) kw_146 rfl rfl d_Rd_beginRow_18 ?_
  refine f_xVr (na := 2) (As := [.int (kd), .int (at21)]) (rest := []) Bx hml E hP hD hS (by omega) h9_23 rfl (m_Rd_addElement l hlt hn hT hRS19) kw_419 kw_421 sel_Rd_addElement kw_6 kw_422 (by decide +kernel) ⟨rfl, rfl⟩ ⟨Nat.le_of_ble_eq_true rfl, Nat.le_of_ble_eq_true rfl⟩ rfl hl.1 (Nat.le_of_ble_eq_true rfl) d_Rd_beginRow_21 ⟨Nat.le_of_ble_eq_true rfl, Nat.le_of_ble_eq_true rfl⟩ (fun X ce q9 memx H locs hx9 hP hS g1 g2 g3 => f_out hlocks hno hP hS g1 g2 g3 ⟨Nat.le_of_ble_eq_true rfl, Nat.le_of_ble_eq_true rfl⟩ hx9) (fun r33 mem34 H locs hq hP hS => ?_)
  have hD : va_D (Az sz) (fw n ad mem34) := fw_D hD
  obtain ⟨hr937, hec36, hRS35⟩ := hq
  subst hr937
  obtain ⟨at38, ft39, h9_40⟩ := hRS35.2.1
  have h1_41 : mem34 1 = .inr (0, [.ref (ad 2), .int (nI Z)]) := (hRS35.2.2 1 (by omega)).trans hT.1
  have h2_42 : mem34 2 = .inl (cy 0, 240, .inl f) := (hRS35.2.2 2 (by omega)).trans hT.2.2
  have h5_43 := hRS35.1.2.1
  have hbd49 := hRS35.1.1
  obtain ⟨S44, g45, hS_46, h220_47, h221_48⟩ := hRS35.1.2.2.2.2.2.2
  obtain ⟨k50, lo51, hi52, as53, pa54, ne55, he_56, ho_57⟩ := (hRS35.1.2.2.2.2.2.1 ec (by omega)).1
  exact x_aret hx hb hlocks hr (⟨ec, rc, (ec + 1), rfl, by omega, by omega, by omega, hRS35⟩) hP hS d_Rd_beginRow_24
set_option maxHeartbeats 4000000 in
set_option maxRecDepth 100000 in
theorem m_Rd_readBracket_6 (l : Launch) {D : va_G} {cy : Nat → ClassId} {sz n : Nat} {ad : Nat → Nat} {mem : Nat → va_E} {Z : Nat} {f : Nat → Int32} {lim rc ec : Nat} {m0 : Nat → va_E} {en : Int32} (hlt : l.stackTraces = false) (hn : 224 ≤ n) (hT : TX cy ad Z f m0) (hRS : RS cy ad lim rc ec m0 mem) : NXr l D cy sz n ad y_Rd_readBracket c_Rd_readBracket 4 (some (.object "AbnfChart$Element")) ({ frames := 14, cells := 1, slots := 6, locals := 320 } : Room) mem [.ref (ad 222), .int (6), .int (en)] (fun r mem' => ∃ k rc' ec' : Nat, r = ad (20 + 2 * k) ∧ ec ≤ k ∧ k < ec' ∧ rc ≤ rc' ∧ RS cy ad lim rc' ec' m0 mem') (fun X mem' => (X = cIA ∨ X = cIS) ∧ ∃ rc' ec' : Nat, RS cy ad lim rc' ec' m0 mem') := by
  refine vx_ofW (cc := c_Rd_readBracket) (maxL := 4) (ret := (some (.object "AbnfChart$Element"))) (by decide) rfl ?_
  intro p e s m args below meth c s₁ B hml hno hv
  obtain ⟨rfl, E, hP, hD⟩ := hv
  have hx := B.exec
  have hb := B.bytes
  have hr := B.returns
  have hlocks := B.notSynchronized
  have Bx : MB p s m [.ref (ad 222), .int (6), .int (en)].toArray c c_Rd_readBracket "AbnfChart$Reader" D cy := ⟨hx, hb, tb_all (atoms_spec B.pre) E.2.1, findClass_of_methodNamed B.named, E.1⟩
  have hS : va_S (Az sz) s.heap s.heap [] := va_S.rf
  have hl := lv_entry ([.ref (ad 222), .int (6), .int (en)]) (n := 4) (Nat.le_of_ble_eq_true rfl)
  rw [lg_entry_eq]
  generalize (lg_sl ([.ref (ad 222), .int (6), .int (en)]) ++ List.replicate (4 - (lg_sl ([.ref (ad 222), .int (6), .int (en)])).length) Slot.unset).toArray = ls at hl ⊢
  have hl : lv_has ls 4 [(0, .ref (ad 222)), (1, .int (6)), (2, .int (en))] := hl
  obtain ⟨at1, ft2, h9_3⟩ := hRS.2.1
  have h1_4 : mem 1 = .inr (0, [.ref (ad 2), .int (nI Z)]) := (hRS.2.2 1 (by omega)).trans hT.1
  have h2_5 : mem 2 = .inl (cy 0, 240, .inl f) := (hRS.2.2 2 (by omega)).trans hT.2.2
  have h5_6 := hRS.1.2.1
  have hbd12 := hRS.1.1
  obtain ⟨S7, g8, hS_9, h220_10, h221_11⟩ := hRS.1.2.2.2.2.2.2
  refine lv_aload_n Bx.1 Bx.2.1 d_Rd_readBracket_0 rfl (lv_at hl 0 rfl) ?_
  refine lv_iload_n Bx.1 Bx.2.1 d_Rd_readBracket_1 rfl (lv_at hl 1 rfl) ?_
  refine lv_bipush (v := 6) Bx.1 Bx.2.1 d_Rd_readBracket_2 (by decide) ?_
  refine lv_icmp_ge Bx.1 Bx.2.1 d_Rd_readBracket_4 rfl (fun h8 => ?_) (fun h8 => ?_)
  · refine lv_iconst (v := 0) Bx.1 Bx.2.1 d_Rd_readBracket_11 (by decide) ?_
    refine lv_aload_n Bx.1 Bx.2.1 d_Rd_readBracket_12 rfl (lv_at hl 0 rfl) ?_
    refine f_get Bx hP (by omega) h9_3 rfl inRd 2 (by decide) kw_146 rfl rfl d_Rd_readBracket_13 ?_
    refine f_xVv (na := 2) (As := [.int (0), .int (at1)]) (rest := []) Bx hml E hP hD hS (by omega) h9_3 rfl (m_Rd_needRoom l hlt hn hT hRS) kw_383 kw_385 sel_Rd_needRoom kw_6 kw_386 (by decide +kernel) ⟨rfl, rfl⟩ ⟨Nat.le_of_ble_eq_true rfl, Nat.le_of_ble_eq_true rfl⟩ rfl hl.1 (Nat.le_of_ble_eq_true rfl) d_Rd_readBracket_16 ⟨Nat.le_of_ble_eq_true rfl, Nat.le_of_ble_eq_true rfl⟩ (fun X ce q9 memx H locs hx9 hP hS g1 g2 g3 => f_out hlocks hno hP hS g1 g2 g3 ⟨Nat.le_of_ble_eq_true rfl, Nat.le_of_ble_eq_true rfl⟩ hx9) (fun mem14 H locs hq hP hS => ?_)
    have hD : va_D (Az sz) (fw n ad mem14) := fw_D hD
    obtain ⟨hRS15, -, hg16⟩ := hq
    obtain ⟨at17, ft18, h9_19⟩ := hRS15.2.1
    have h1_20 : mem14 1 = .inr (0, [.ref (ad 2), .int (nI Z)]) := (hRS15.2.2 1 (by omega)).trans hT.1
    have h2_21 : mem14 2 = .inl (cy 0, 240, .inl f) := (hRS15.2.2 2 (by omega)).trans hT.2.2
    have h5_22 := hRS15.1.2.1
    have hbd28 := hRS15.1.1
    obtain ⟨S23, g24, hS_25, h220_26, h221_27⟩ := hRS15.1.2.2.2.2.2.2
    exact absurd rfl hg16
  · exact absurd (by decide) h8
set_option maxHeartbeats 4000000 in
set_option maxRecDepth 100000 in
theorem m_Rd_readOption_6 (l : Launch) {D : va_G} {cy : Nat → ClassId} {sz n : Nat} {ad : Nat → Nat} {mem : Nat → va_E} {Z : Nat} {f : Nat → Int32} {lim rc ec : Nat} {m0 : Nat → va_E} (hlt : l.stackTraces = false) (hn : 224 ≤ n) (hT : TX cy ad Z f m0) (hRS : RS cy ad lim rc ec m0 mem) : NXr l D cy sz n ad y_Rd_readOption c_Rd_readOption 3 (some (.object "AbnfChart$Element")) ({ frames := 15, cells := 1, slots := 6, locals := 343 } : Room) mem [.ref (ad 222), .int (6)] (fun r mem' => ∃ k rc' ec' : Nat, r = ad (20 + 2 * k) ∧ ec ≤ k ∧ k < ec' ∧ rc ≤ rc' ∧ RS cy ad lim rc' ec' m0 mem') (fun X mem' => (X = cIA ∨ X = cIS) ∧ ∃ rc' ec' : Nat, RS cy ad lim rc' ec' m0 mem') := by
  refine vx_ofW (cc := c_Rd_readOption) (maxL := 3) (ret := (some (.object "AbnfChart$Element"))) (by decide) rfl ?_
  intro p e s m args below meth c s₁ B hml hno hv
  obtain ⟨rfl, E, hP, hD⟩ := hv
  have hx := B.exec
  have hb := B.bytes
  have hr := B.returns
  have hlocks := B.notSynchronized
  have Bx : MB p s m [.ref (ad 222), .int (6)].toArray c c_Rd_readOption "AbnfChart$Reader" D cy := ⟨hx, hb, tb_all (atoms_spec B.pre) E.2.1, findClass_of_methodNamed B.named, E.1⟩
  have hS : va_S (Az sz) s.heap s.heap [] := va_S.rf
  have hl := lv_entry ([.ref (ad 222), .int (6)]) (n := 3) (Nat.le_of_ble_eq_true rfl)
  rw [lg_entry_eq]
  generalize (lg_sl ([.ref (ad 222), .int (6)]) ++ List.replicate (3 - (lg_sl ([.ref (ad 222), .int (6)])).length) Slot.unset).toArray = ls at hl ⊢
  have hl : lv_has ls 3 [(0, .ref (ad 222)), (1, .int (6))] := hl
  obtain ⟨at1, ft2, h9_3⟩ := hRS.2.1
  have h1_4 : mem 1 = .inr (0, [.ref (ad 2), .int (nI Z)]) := (hRS.2.2 1 (by omega)).trans hT.1
  have h2_5 : mem 2 = .inl (cy 0, 240, .inl f) := (hRS.2.2 2 (by omega)).trans hT.2.2
  have h5_6 := hRS.1.2.1
  have hbd12 := hRS.1.1
  obtain ⟨S7, g8, hS_9, h220_10, h221_11⟩ := hRS.1.2.2.2.2.2.2
  refine lv_aload_n Bx.1 Bx.2.1 d_Rd_readOption_0 rfl (lv_at hl 0 rfl) ?_
  refine lv_iconst (v := 3) Bx.1 Bx.2.1 d_Rd_readOption_1 (by decide) ?_
  refine lv_aload_n Bx.1 Bx.2.1 d_Rd_readOption_2 rfl (lv_at hl 0 rfl) ?_
  refine f_get Bx hP (by omega) h9_3 rfl inRd 2 (by decide) kw_146 rfl rfl d_Rd_readOption_3 ?_
  refine f_xVr (na := 2) (As := [.int (3), .int (at1)]) (rest := []) Bx hml E hP hD hS (by omega) h9_3 rfl (m_Rd_addElement l hlt hn hT hRS) kw_419 kw_421 sel_Rd_addElement kw_6 kw_422 (by decide +kernel) ⟨rfl, rfl⟩ ⟨Nat.le_of_ble_eq_true rfl, Nat.le_of_ble_eq_true rfl⟩ rfl hl.1 (Nat.le_of_ble_eq_true rfl) d_Rd_readOption_6 ⟨Nat.le_of_ble_eq_true rfl, Nat.le_of_ble_eq_true rfl⟩ (fun X ce q9 memx H locs hx9 hP hS g1 g2 g3 => f_out hlocks hno hP hS g1 g2 g3 ⟨Nat.le_of_ble_eq_true rfl, Nat.le_of_ble_eq_true rfl⟩ hx9) (fun r13 mem14 H locs hq hP hS => ?_)
  have hD : va_D (Az sz) (fw n ad mem14) := fw_D hD
  obtain ⟨hr917, hec16, hRS15⟩ := hq
  subst hr917
  obtain ⟨at18, ft19, h9_20⟩ := hRS15.2.1
  have h1_21 : mem14 1 = .inr (0, [.ref (ad 2), .int (nI Z)]) := (hRS15.2.2 1 (by omega)).trans hT.1
  have h2_22 : mem14 2 = .inl (cy 0, 240, .inl f) := (hRS15.2.2 2 (by omega)).trans hT.2.2
  have h5_23 := hRS15.1.2.1
  have hbd29 := hRS15.1.1
  obtain ⟨S24, g25, hS_26, h220_27, h221_28⟩ := hRS15.1.2.2.2.2.2.2
  obtain ⟨k30, lo31, hi32, as33, pa34, ne35, he_36, ho_37⟩ := (hRS15.1.2.2.2.2.2.1 ec (by omega)).1
  refine lv_astore_n (lv' := [(2, .ref (ad (20 + 2 * ec))), (0, .ref (ad 222)), (1, .int (6))]) Bx.1 Bx.2.1 d_Rd_readOption_9 rfl hl (by decide) rfl (fun ls hl => ?_)
  refine lv_aload_n Bx.1 Bx.2.1 d_Rd_readOption_10 rfl (lv_at hl 0 rfl) ?_
  refine lv_aload_n Bx.1 Bx.2.1 d_Rd_readOption_11 rfl (lv_at hl 1 rfl) ?_
  refine lv_iload_n Bx.1 Bx.2.1 d_Rd_readOption_12 rfl (lv_at hl 2 rfl) ?_
  refine lv_bipush (v := 93) Bx.1 Bx.2.1 d_Rd_readOption_13 (by decide) ?_
  refine f_xVr (na := 2) (As := [.int (6), .int (93)]) (rest := [.ref (ad (20 + 2 * ec))]) Bx hml E hP hD hS (by omega) h9_20 rfl (m_Rd_readBracket_6 l hlt hn hT hRS15) kw_447 kw_449 sel_Rd_readBracket kw_6 kw_450 (by decide +kernel) ⟨rfl, rfl⟩ ⟨Nat.le_of_ble_eq_true rfl, Nat.le_of_ble_eq_true rfl⟩ rfl hl.1 (Nat.le_of_ble_eq_true rfl) d_Rd_readOption_15 ⟨Nat.le_of_ble_eq_true rfl, Nat.le_of_ble_eq_true rfl⟩ (fun X ce q9 memx H locs hx9 hP hS g1 g2 g3 => f_out hlocks hno hP hS g1 g2 g3 ⟨Nat.le_of_ble_eq_true rfl, Nat.le_of_ble_eq_true rfl⟩ hx9) (fun r38 mem39 H locs hq hP hS => ?_)
  have hD : va_D (Az sz) (fw n ad mem39) := fw_D hD
  obtain ⟨kx40, rc41, ec42, hr944, hb45, hb46, hb47, hRS43⟩ := hq
  subst hr944
  have hbd48 := hRS43.1.1
  obtain ⟨at49, ft50, h9_51⟩ := hRS43.2.1
  have h1_52 : mem39 1 = .inr (0, [.ref (ad 2), .int (nI Z)]) := (hRS43.2.2 1 (by omega)).trans hT.1
  have h2_53 : mem39 2 = .inl (cy 0, 240, .inl f) := (hRS43.2.2 2 (by omega)).trans hT.2.2
  have h5_54 := hRS43.1.2.1
  have hbd60 := hRS43.1.1
  obtain ⟨S55, g56, hS_57, h220_58, h221_59⟩ := hRS43.1.2.2.2.2.2.2
  obtain ⟨k61, lo62, hi63, as64, pa65, ne66, he_67, ho_68⟩ := (hRS43.1.2.2.2.2.2.1 ec (by omega)).1
  obtain ⟨k69, lo70, hi71, as72, pa73, ne74, he_75, ho_76⟩ := (hRS43.1.2.2.2.2.2.1 kx40 (by omega)).1
  refine f_putN Bx hP hD hS (by omega) he_67 rfl inEl tyEl okEl nmEl 4 (by decide) kw_87 rfl rfl rfl rfl (Nat.le_of_ble_eq_true rfl) d_Rd_readOption_18 (fun H locs hP hS => ?_)
  obtain ⟨mem77, e_mem77⟩ : ∃ z, z = va_up mem39 ((20 + 2 * ec)) (.inr (2, [.int (k61), .int (lo62), .int (hi63), as64, .ref (ad (20 + 2 * kx40)), ne66, .ref (ad (21 + 2 * ec))])) := ⟨_, rfl⟩
  have hP : va_P D vcl (fw n ad mem77) H := by rw [e_mem77]; exact hP
  have hD : va_D (Az sz) (fw n ad mem77) := fw_D hD
  have h_mem77 : mem77 ((20 + 2 * ec)) = .inr (2, [.int (k61), .int (lo62), .int (hi63), as64, .ref (ad (20 + 2 * kx40)), ne66, .ref (ad (21 + 2 * ec))]) := by rw [e_mem77, va_up_self]
  have hh78 := (va_up_ne mem39 (.inr (2, [.int (k61), .int (lo62), .int (hi63), as64, .ref (ad (20 + 2 * kx40)), ne66, .ref (ad (21 + 2 * ec))])) (show (222 : Nat) ≠ (20 + 2 * ec) by first | decide | assumption | omega)).trans h9_51
  rw [← e_mem77] at hh78
  have hh79 := (va_up_ne mem39 (.inr (2, [.int (k61), .int (lo62), .int (hi63), as64, .ref (ad (20 + 2 * kx40)), ne66, .ref (ad (21 + 2 * ec))])) (show (1 : Nat) ≠ (20 + 2 * ec) by first | decide | assumption | omega)).trans h1_52
  rw [← e_mem77] at hh79
  have hh80 := (va_up_ne mem39 (.inr (2, [.int (k61), .int (lo62), .int (hi63), as64, .ref (ad (20 + 2 * kx40)), ne66, .ref (ad (21 + 2 * ec))])) (show (5 : Nat) ≠ (20 + 2 * ec) by first | decide | assumption | omega)).trans h5_54
  rw [← e_mem77] at hh80
  have hh81 := (va_up_ne mem39 (.inr (2, [.int (k61), .int (lo62), .int (hi63), as64, .ref (ad (20 + 2 * kx40)), ne66, .ref (ad (21 + 2 * ec))])) (show (220 : Nat) ≠ (20 + 2 * ec) by first | decide | assumption | omega)).trans h220_58
  rw [← e_mem77] at hh81
  have hh82 := (va_up_ne mem39 (.inr (2, [.int (k61), .int (lo62), .int (hi63), as64, .ref (ad (20 + 2 * kx40)), ne66, .ref (ad (21 + 2 * ec))])) (show ((20 + 2 * kx40) : Nat) ≠ (20 + 2 * ec) by first | decide | assumption | omega)).trans he_75
  rw [← e_mem77] at hh82
  have hRS83 : RS cy ad lim rc41 ec42 m0 mem77 := by rw [e_mem77]; exact hRS43.mk (by omega) (hRS43.1.upEl (by omega) (fun q9 => ⟨(ho_68 q9).1, Or.inr ⟨kx40, by omega, by omega, rfl⟩, (ho_68 q9).2.2⟩))
  refine lv_aload_n Bx.1 Bx.2.1 d_Rd_readOption_21 rfl (lv_at hl 0 rfl) ?_
  exact x_aret hx hb hlocks hr (⟨ec, rc41, ec42, rfl, by omega, by omega, by omega, hRS83⟩) hP hS d_Rd_readOption_22
set_option maxHeartbeats 4000000 in
set_option maxRecDepth 100000 in
theorem m_Rd_readElement_6 (l : Launch) {D : va_G} {cy : Nat → ClassId} {sz n : Nat} {ad : Nat → Nat} {mem : Nat → va_E} {Z : Nat} {f : Nat → Int32} {lim rc ec : Nat} {m0 : Nat → va_E} (hlt : l.stackTraces = false) (hn : 224 ≤ n) (hT : TX cy ad Z f m0) (hRS : RS cy ad lim rc ec m0 mem) : NXr l D cy sz n ad y_Rd_readElement c_Rd_readElement 2 (some (.object "AbnfChart$Element")) ({ frames := 16, cells := 1, slots := 6, locals := 366 } : Room) mem [.ref (ad 222), .int (6)] (fun r mem' => ∃ k rc' ec' : Nat, r = ad (20 + 2 * k) ∧ ec ≤ k ∧ k < ec' ∧ rc ≤ rc' ∧ RS cy ad lim rc' ec' m0 mem') (fun X mem' => (X = cIA ∨ X = cIS) ∧ ∃ rc' ec' : Nat, RS cy ad lim rc' ec' m0 mem') := by
  refine vx_ofW (cc := c_Rd_readElement) (maxL := 2) (ret := (some (.object "AbnfChart$Element"))) (by decide) rfl ?_
  intro p e s m args below meth c s₁ B hml hno hv
  obtain ⟨rfl, E, hP, hD⟩ := hv
  have hx := B.exec
  have hb := B.bytes
  have hr := B.returns
  have hlocks := B.notSynchronized
  have Bx : MB p s m [.ref (ad 222), .int (6)].toArray c c_Rd_readElement "AbnfChart$Reader" D cy := ⟨hx, hb, tb_all (atoms_spec B.pre) E.2.1, findClass_of_methodNamed B.named, E.1⟩
  have hS : va_S (Az sz) s.heap s.heap [] := va_S.rf
  have hl := lv_entry ([.ref (ad 222), .int (6)]) (n := 2) (Nat.le_of_ble_eq_true rfl)
  rw [lg_entry_eq]
  generalize (lg_sl ([.ref (ad 222), .int (6)]) ++ List.replicate (2 - (lg_sl ([.ref (ad 222), .int (6)])).length) Slot.unset).toArray = ls at hl ⊢
  have hl : lv_has ls 2 [(0, .ref (ad 222)), (1, .int (6))] := hl
  obtain ⟨at1, ft2, h9_3⟩ := hRS.2.1
  have h1_4 : mem 1 = .inr (0, [.ref (ad 2), .int (nI Z)]) := (hRS.2.2 1 (by omega)).trans hT.1
  have h2_5 : mem 2 = .inl (cy 0, 240, .inl f) := (hRS.2.2 2 (by omega)).trans hT.2.2
  have h5_6 := hRS.1.2.1
  have hbd12 := hRS.1.1
  obtain ⟨S7, g8, hS_9, h220_10, h221_11⟩ := hRS.1.2.2.2.2.2.2
  refine lv_aload_n Bx.1 Bx.2.1 d_Rd_readElement_0 rfl (lv_at hl 0 rfl) ?_
  refine f_callVi (na := 0) (As := []) (rest := []) Bx hml E hP hD hS (by omega) h9_3 rfl (m_Rd_peek l hn hT hRS) kw_353 kw_355 sel_Rd_peek kw_6 kw_356 (by decide +kernel) ⟨rfl, rfl⟩ ⟨Nat.le_of_ble_eq_true rfl, Nat.le_of_ble_eq_true rfl⟩ rfl hl.1 (Nat.le_of_ble_eq_true rfl) d_Rd_readElement_1 ⟨Nat.le_of_ble_eq_true rfl, Nat.le_of_ble_eq_true rfl⟩ (fun r13 mem14 H locs hq hP hS => ?_)
  have hD : va_D (Az sz) (fw n ad mem14) := fw_D hD
  rw [hq] at hP hD
  refine lv_topi (fun v15 e_v15 => ?_)
  by_cases c34 : v15 = 34
  · rw [c34]
    refine lv_lookup (off := 58) (tgt := 62) Bx.1 Bx.2.1 d_Rd_readElement_4 (by decide) (by decide) rfl ?_
    refine lv_aload_n Bx.1 Bx.2.1 d_Rd_readElement_62 rfl (lv_at hl 0 rfl) ?_
    refine lv_aload_n Bx.1 Bx.2.1 d_Rd_readElement_63 rfl (lv_at hl 0 rfl) ?_
    refine f_get Bx hP (by omega) h9_3 rfl inRd 2 (by decide) kw_146 rfl rfl d_Rd_readElement_64 ?_
    refine lv_iconst (v := 5) Bx.1 Bx.2.1 d_Rd_readElement_67 (by decide) ?_
    refine f_xVr (na := 2) (As := [.int (at1), .int (5)]) (rest := []) Bx hml E hP hD hS (by omega) h9_3 rfl (m_Rd_readString l hlt hn hT hRS) kw_455 kw_457 sel_Rd_readString kw_6 kw_458 (by decide +kernel) ⟨rfl, rfl⟩ ⟨Nat.le_of_ble_eq_true rfl, Nat.le_of_ble_eq_true rfl⟩ rfl hl.1 (Nat.le_of_ble_eq_true rfl) d_Rd_readElement_68 ⟨Nat.le_of_ble_eq_true rfl, Nat.le_of_ble_eq_true rfl⟩ (fun X ce q9 memx H locs hx9 hP hS g1 g2 g3 => f_out hlocks hno hP hS g1 g2 g3 ⟨Nat.le_of_ble_eq_true rfl, Nat.le_of_ble_eq_true rfl⟩ hx9) (fun r16 mem17 H locs hq hP hS => ?_)
    have hD : va_D (Az sz) (fw n ad mem17) := fw_D hD
    obtain ⟨kx18, rc19, ec20, hr922, hb23, hb24, hb25, hRS21⟩ := hq
    subst hr922
    have hbd26 := hRS21.1.1
    obtain ⟨at27, ft28, h9_29⟩ := hRS21.2.1
    have h1_30 : mem17 1 = .inr (0, [.ref (ad 2), .int (nI Z)]) := (hRS21.2.2 1 (by omega)).trans hT.1
    have h2_31 : mem17 2 = .inl (cy 0, 240, .inl f) := (hRS21.2.2 2 (by omega)).trans hT.2.2
    have h5_32 := hRS21.1.2.1
    have hbd38 := hRS21.1.1
    obtain ⟨S33, g34, hS_35, h220_36, h221_37⟩ := hRS21.1.2.2.2.2.2.2
    obtain ⟨k39, lo40, hi41, as42, pa43, ne44, he_45, ho_46⟩ := (hRS21.1.2.2.2.2.2.1 kx18 (by omega)).1
    exact x_aret hx hb hlocks hr (⟨kx18, rc19, ec20, rfl, by omega, by omega, by omega, hRS21⟩) hP hS d_Rd_readElement_71
  by_cases c37 : v15 = 37
  · rw [c37]
    refine lv_lookup (off := 68) (tgt := 72) Bx.1 Bx.2.1 d_Rd_readElement_4 (by decide) (by decide) rfl ?_
    refine lv_aload_n Bx.1 Bx.2.1 d_Rd_readElement_72 rfl (lv_at hl 0 rfl) ?_
    refine f_get Bx hP (by omega) h9_3 rfl inRd 0 (by decide) kw_144 rfl rfl d_Rd_readElement_73 ?_
    refine lv_aload_n Bx.1 Bx.2.1 d_Rd_readElement_76 rfl (lv_at hl 0 rfl) ?_
    refine f_get Bx hP (by omega) h9_3 rfl inRd 2 (by decide) kw_146 rfl rfl d_Rd_readElement_77 ?_
    refine lv_iconst (v := 1) Bx.1 Bx.2.1 d_Rd_readElement_80 (by decide) ?_
    refine lv_iadd Bx.1 Bx.2.1 d_Rd_readElement_81 ?_
    refine f_callVi (na := 1) (As := [.int (at1 + 1)]) (rest := []) Bx hml E hP hD hS (by omega) h1_4 rfl (m_Ch_codeAt l (by omega) h1_4 (by omega) h2_5 (by rw [nI_toInt (by have := hT.2.1; omega)]; have := hT.2.1; omega)) kw_341 kw_342 kw_343 kw_2 kw_344 (by decide +kernel) ⟨rfl, rfl⟩ ⟨Nat.le_of_ble_eq_true rfl, Nat.le_of_ble_eq_true rfl⟩ rfl hl.1 (Nat.le_of_ble_eq_true rfl) d_Rd_readElement_82 ⟨Nat.le_of_ble_eq_true rfl, Nat.le_of_ble_eq_true rfl⟩ (fun r47 mem48 H locs hq hP hS => ?_)
    have hD : va_D (Az sz) (fw n ad mem48) := fw_D hD
    rw [hq.2] at hP hD
    refine f_callSNi (na := 1) (As := [.int (r47)]) (rest := []) Bx hml E.2.1 (m_Ab_smallOf l (r47)) kw_372 kw_373 kw_1 kw_374 (by decide +kernel) ⟨rfl, rfl⟩ ⟨Nat.le_of_ble_eq_true rfl, Nat.le_of_ble_eq_true rfl⟩ rfl hl.1 (Nat.le_of_ble_eq_true rfl) d_Rd_readElement_85 ⟨Nat.le_of_ble_eq_true rfl, Nat.le_of_ble_eq_true rfl⟩ (fun r50 hs49 => ?_)
    refine lv_bipush (v := 115) Bx.1 Bx.2.1 d_Rd_readElement_88 (by decide) ?_
    refine lv_icmp_ne Bx.1 Bx.2.1 d_Rd_readElement_90 rfl (fun h8 => ?_) (fun h8 => ?_)
    · refine lv_aload_n Bx.1 Bx.2.1 d_Rd_readElement_100 rfl (lv_at hl 0 rfl) ?_
      refine f_xVr (na := 0) (As := []) (rest := []) Bx hml E hP hD hS (by omega) h9_3 rfl (m_Rd_readValue l hlt hn hT hRS) kw_467 kw_469 sel_Rd_readValue kw_6 kw_470 (by decide +kernel) ⟨rfl, rfl⟩ ⟨Nat.le_of_ble_eq_true rfl, Nat.le_of_ble_eq_true rfl⟩ rfl hl.1 (Nat.le_of_ble_eq_true rfl) d_Rd_readElement_101 ⟨Nat.le_of_ble_eq_true rfl, Nat.le_of_ble_eq_true rfl⟩ (fun X ce q9 memx H locs hx9 hP hS g1 g2 g3 => f_out hlocks hno hP hS g1 g2 g3 ⟨Nat.le_of_ble_eq_true rfl, Nat.le_of_ble_eq_true rfl⟩ hx9) (fun r51 mem52 H locs hq hP hS => ?_)
      have hD : va_D (Az sz) (fw n ad mem52) := fw_D hD
      obtain ⟨kx53, rc54, ec55, hr957, hb58, hb59, hb60, hRS56⟩ := hq
      subst hr957
      have hbd61 := hRS56.1.1
      obtain ⟨at62, ft63, h9_64⟩ := hRS56.2.1
      have h1_65 : mem52 1 = .inr (0, [.ref (ad 2), .int (nI Z)]) := (hRS56.2.2 1 (by omega)).trans hT.1
      have h2_66 : mem52 2 = .inl (cy 0, 240, .inl f) := (hRS56.2.2 2 (by omega)).trans hT.2.2
      have h5_67 := hRS56.1.2.1
      have hbd73 := hRS56.1.1
      obtain ⟨S68, g69, hS_70, h220_71, h221_72⟩ := hRS56.1.2.2.2.2.2.2
      obtain ⟨k74, lo75, hi76, as77, pa78, ne79, he_80, ho_81⟩ := (hRS56.1.2.2.2.2.2.1 kx53 (by omega)).1
      exact x_aret hx hb hlocks hr (⟨kx53, rc54, ec55, rfl, by omega, by omega, by omega, hRS56⟩) hP hS d_Rd_readElement_104
    · refine lv_aload_n Bx.1 Bx.2.1 d_Rd_readElement_93 rfl (lv_at hl 0 rfl) ?_
      refine f_xVr (na := 0) (As := []) (rest := []) Bx hml E hP hD hS (by omega) h9_3 rfl (m_Rd_readExactString l hlt hn hT hRS) kw_463 kw_465 sel_Rd_readExactString kw_6 kw_466 (by decide +kernel) ⟨rfl, rfl⟩ ⟨Nat.le_of_ble_eq_true rfl, Nat.le_of_ble_eq_true rfl⟩ rfl hl.1 (Nat.le_of_ble_eq_true rfl) d_Rd_readElement_94 ⟨Nat.le_of_ble_eq_true rfl, Nat.le_of_ble_eq_true rfl⟩ (fun X ce q9 memx H locs hx9 hP hS g1 g2 g3 => f_out hlocks hno hP hS g1 g2 g3 ⟨Nat.le_of_ble_eq_true rfl, Nat.le_of_ble_eq_true rfl⟩ hx9) (fun r82 mem83 H locs hq hP hS => ?_)
      have hD : va_D (Az sz) (fw n ad mem83) := fw_D hD
      obtain ⟨kx84, rc85, ec86, hr988, hb89, hb90, hb91, hRS87⟩ := hq
      subst hr988
      have hbd92 := hRS87.1.1
      obtain ⟨at93, ft94, h9_95⟩ := hRS87.2.1
      have h1_96 : mem83 1 = .inr (0, [.ref (ad 2), .int (nI Z)]) := (hRS87.2.2 1 (by omega)).trans hT.1
      have h2_97 : mem83 2 = .inl (cy 0, 240, .inl f) := (hRS87.2.2 2 (by omega)).trans hT.2.2
      have h5_98 := hRS87.1.2.1
      have hbd104 := hRS87.1.1
      obtain ⟨S99, g100, hS_101, h220_102, h221_103⟩ := hRS87.1.2.2.2.2.2.2
      obtain ⟨k105, lo106, hi107, as108, pa109, ne110, he_111, ho_112⟩ := (hRS87.1.2.2.2.2.2.1 kx84 (by omega)).1
      refine lv_goto Bx.1 Bx.2.1 d_Rd_readElement_97 rfl ?_
      exact x_aret hx hb hlocks hr (⟨kx84, rc85, ec86, rfl, by omega, by omega, by omega, hRS87⟩) hP hS d_Rd_readElement_104
  by_cases c40 : v15 = 40
  · rw [c40]
    refine lv_lookup (off := 44) (tgt := 48) Bx.1 Bx.2.1 d_Rd_readElement_4 (by decide) (by decide) rfl ?_
    refine lv_aload_n Bx.1 Bx.2.1 d_Rd_readElement_48 rfl (lv_at hl 0 rfl) ?_
    refine lv_iload_n Bx.1 Bx.2.1 d_Rd_readElement_49 rfl (lv_at hl 1 rfl) ?_
    refine lv_bipush (v := 41) Bx.1 Bx.2.1 d_Rd_readElement_50 (by decide) ?_
    refine f_xVr (na := 2) (As := [.int (6), .int (41)]) (rest := []) Bx hml E hP hD hS (by omega) h9_3 rfl (m_Rd_readBracket_6 l hlt hn hT hRS) kw_447 kw_449 sel_Rd_readBracket kw_6 kw_450 (by decide +kernel) ⟨rfl, rfl⟩ ⟨Nat.le_of_ble_eq_true rfl, Nat.le_of_ble_eq_true rfl⟩ rfl hl.1 (Nat.le_of_ble_eq_true rfl) d_Rd_readElement_52 ⟨Nat.le_of_ble_eq_true rfl, Nat.le_of_ble_eq_true rfl⟩ (fun X ce q9 memx H locs hx9 hP hS g1 g2 g3 => f_out hlocks hno hP hS g1 g2 g3 ⟨Nat.le_of_ble_eq_true rfl, Nat.le_of_ble_eq_true rfl⟩ hx9) (fun r113 mem114 H locs hq hP hS => ?_)
    have hD : va_D (Az sz) (fw n ad mem114) := fw_D hD
    obtain ⟨kx115, rc116, ec117, hr9119, hb120, hb121, hb122, hRS118⟩ := hq
    subst hr9119
    have hbd123 := hRS118.1.1
    obtain ⟨at124, ft125, h9_126⟩ := hRS118.2.1
    have h1_127 : mem114 1 = .inr (0, [.ref (ad 2), .int (nI Z)]) := (hRS118.2.2 1 (by omega)).trans hT.1
    have h2_128 : mem114 2 = .inl (cy 0, 240, .inl f) := (hRS118.2.2 2 (by omega)).trans hT.2.2
    have h5_129 := hRS118.1.2.1
    have hbd135 := hRS118.1.1
    obtain ⟨S130, g131, hS_132, h220_133, h221_134⟩ := hRS118.1.2.2.2.2.2.2
    obtain ⟨k136, lo137, hi138, as139, pa140, ne141, he_142, ho_143⟩ := (hRS118.1.2.2.2.2.2.1 kx115 (by omega)).1
    exact x_aret hx hb hlocks hr (⟨kx115, rc116, ec117, rfl, by omega, by omega, by omega, hRS118⟩) hP hS d_Rd_readElement_55
  by_cases c91 : v15 = 91
  · rw [c91]
    refine lv_lookup (off := 52) (tgt := 56) Bx.1 Bx.2.1 d_Rd_readElement_4 (by decide) (by decide) rfl ?_
    refine lv_aload_n Bx.1 Bx.2.1 d_Rd_readElement_56 rfl (lv_at hl 0 rfl) ?_
    refine lv_iload_n Bx.1 Bx.2.1 d_Rd_readElement_57 rfl (lv_at hl 1 rfl) ?_
    refine f_xVr (na := 1) (As := [.int (6)]) (rest := []) Bx hml E hP hD hS (by omega) h9_3 rfl (m_Rd_readOption_6 l hlt hn hT hRS) kw_451 kw_453 sel_Rd_readOption kw_6 kw_454 (by decide +kernel) ⟨rfl, rfl⟩ ⟨Nat.le_of_ble_eq_true rfl, Nat.le_of_ble_eq_true rfl⟩ rfl hl.1 (Nat.le_of_ble_eq_true rfl) d_Rd_readElement_58 ⟨Nat.le_of_ble_eq_true rfl, Nat.le_of_ble_eq_true rfl⟩ (fun X ce q9 memx H locs hx9 hP hS g1 g2 g3 => f_out hlocks hno hP hS g1 g2 g3 ⟨Nat.le_of_ble_eq_true rfl, Nat.le_of_ble_eq_true rfl⟩ hx9) (fun r144 mem145 H locs hq hP hS => ?_)
    have hD : va_D (Az sz) (fw n ad mem145) := fw_D hD
    obtain ⟨kx146, rc147, ec148, hr9150, hb151, hb152, hb153, hRS149⟩ := hq
    subst hr9150
    have hbd154 := hRS149.1.1
    obtain ⟨at155, ft156, h9_157⟩ := hRS149.2.1
    have h1_158 : mem145 1 = .inr (0, [.ref (ad 2), .int (nI Z)]) := (hRS149.2.2 1 (by omega)).trans hT.1
    have h2_159 : mem145 2 = .inl (cy 0, 240, .inl f) := (hRS149.2.2 2 (by omega)).trans hT.2.2
    have h5_160 := hRS149.1.2.1
    have hbd166 := hRS149.1.1
    obtain ⟨S161, g162, hS_163, h220_164, h221_165⟩ := hRS149.1.2.2.2.2.2.2
    obtain ⟨k167, lo168, hi169, as170, pa171, ne172, he_173, ho_174⟩ := (hRS149.1.2.2.2.2.2.1 kx146 (by omega)).1
    exact x_aret hx hb hlocks hr (⟨kx146, rc147, ec148, rfl, by omega, by omega, by omega, hRS149⟩) hP hS d_Rd_readElement_61
  refine lv_lookup (off := 101) (tgt := 105) Bx.1 Bx.2.1 d_Rd_readElement_4 (by decide) (by show Op.lookupswitch.offset [(34, 58), (37, 68), (40, 44), (91, 52)] 101 (v15).toInt = 101; rw [lv_osw c34 (by decide), lv_osw c37 (by decide), lv_osw c40 (by decide), lv_osw c91 (by decide)]; rfl) rfl ?_
  refine lv_aload_n Bx.1 Bx.2.1 d_Rd_readElement_105 rfl (lv_at hl 0 rfl) ?_
  refine f_xVr (na := 0) (As := []) (rest := []) Bx hml E hP hD hS (by omega) h9_3 rfl (m_Rd_readAskedName l hlt hn hT hRS) kw_478 kw_480 sel_Rd_readAskedName kw_6 kw_481 (by decide +kernel) ⟨rfl, rfl⟩ ⟨Nat.le_of_ble_eq_true rfl, Nat.le_of_ble_eq_true rfl⟩ rfl hl.1 (Nat.le_of_ble_eq_true rfl) d_Rd_readElement_106 ⟨Nat.le_of_ble_eq_true rfl, Nat.le_of_ble_eq_true rfl⟩ (fun X ce q9 memx H locs hx9 hP hS g1 g2 g3 => f_out hlocks hno hP hS g1 g2 g3 ⟨Nat.le_of_ble_eq_true rfl, Nat.le_of_ble_eq_true rfl⟩ hx9) (fun r175 mem176 H locs hq hP hS => ?_)
  have hD : va_D (Az sz) (fw n ad mem176) := fw_D hD
  obtain ⟨kx177, rc178, ec179, hr9181, hb182, hb183, hb184, hRS180⟩ := hq
  subst hr9181
  have hbd185 := hRS180.1.1
  obtain ⟨at186, ft187, h9_188⟩ := hRS180.2.1
  have h1_189 : mem176 1 = .inr (0, [.ref (ad 2), .int (nI Z)]) := (hRS180.2.2 1 (by omega)).trans hT.1
  have h2_190 : mem176 2 = .inl (cy 0, 240, .inl f) := (hRS180.2.2 2 (by omega)).trans hT.2.2
  have h5_191 := hRS180.1.2.1
  have hbd197 := hRS180.1.1
  obtain ⟨S192, g193, hS_194, h220_195, h221_196⟩ := hRS180.1.2.2.2.2.2.2
  obtain ⟨k198, lo199, hi200, as201, pa202, ne203, he_204, ho_205⟩ := (hRS180.1.2.2.2.2.2.1 kx177 (by omega)).1
  exact x_aret hx hb hlocks hr (⟨kx177, rc178, ec179, rfl, by omega, by omega, by omega, hRS180⟩) hP hS d_Rd_readElement_109
set_option maxHeartbeats 4000000 in
set_option maxRecDepth 100000 in
theorem m_Rd_readRepetition_6 (l : Launch) {D : va_G} {cy : Nat → ClassId} {sz n : Nat} {ad : Nat → Nat} {mem : Nat → va_E} {Z : Nat} {f : Nat → Int32} {lim rc ec : Nat} {m0 : Nat → va_E} (hlt : l.stackTraces = false) (hn : 224 ≤ n) (hT : TX cy ad Z f m0) (hRS : RS cy ad lim rc ec m0 mem) : NXr l D cy sz n ad y_Rd_readRepetition c_Rd_readRepetition 3 (some (.object "AbnfChart$Element")) ({ frames := 17, cells := 1, slots := 6, locals := 388 } : Room) mem [.ref (ad 222), .int (6)] (fun r mem' => ∃ k rc' ec' : Nat, r = ad (20 + 2 * k) ∧ ec ≤ k ∧ k < ec' ∧ rc ≤ rc' ∧ RS cy ad lim rc' ec' m0 mem') (fun X mem' => (X = cIA ∨ X = cIS) ∧ ∃ rc' ec' : Nat, RS cy ad lim rc' ec' m0 mem') := by
  refine vx_ofW (cc := c_Rd_readRepetition) (maxL := 3) (ret := (some (.object "AbnfChart$Element"))) (by decide) rfl ?_
  intro p e s m args below meth c s₁ B hml hno hv
  obtain ⟨rfl, E, hP, hD⟩ := hv
  have hx := B.exec
  have hb := B.bytes
  have hr := B.returns
  have hlocks := B.notSynchronized
  have Bx : MB p s m [.ref (ad 222), .int (6)].toArray c c_Rd_readRepetition "AbnfChart$Reader" D cy := ⟨hx, hb, tb_all (atoms_spec B.pre) E.2.1, findClass_of_methodNamed B.named, E.1⟩
  have hS : va_S (Az sz) s.heap s.heap [] := va_S.rf
  have hl := lv_entry ([.ref (ad 222), .int (6)]) (n := 3) (Nat.le_of_ble_eq_true rfl)
  rw [lg_entry_eq]
  generalize (lg_sl ([.ref (ad 222), .int (6)]) ++ List.replicate (3 - (lg_sl ([.ref (ad 222), .int (6)])).length) Slot.unset).toArray = ls at hl ⊢
  have hl : lv_has ls 3 [(0, .ref (ad 222)), (1, .int (6))] := hl
  obtain ⟨at1, ft2, h9_3⟩ := hRS.2.1
  have h1_4 : mem 1 = .inr (0, [.ref (ad 2), .int (nI Z)]) := (hRS.2.2 1 (by omega)).trans hT.1
  have h2_5 : mem 2 = .inl (cy 0, 240, .inl f) := (hRS.2.2 2 (by omega)).trans hT.2.2
  have h5_6 := hRS.1.2.1
  have hbd12 := hRS.1.1
  obtain ⟨S7, g8, hS_9, h220_10, h221_11⟩ := hRS.1.2.2.2.2.2.2
  refine lv_aload_n Bx.1 Bx.2.1 d_Rd_readRepetition_0 rfl (lv_at hl 0 rfl) ?_
  refine f_callVi (na := 0) (As := []) (rest := []) Bx hml E hP hD hS (by omega) h9_3 rfl (m_Rd_peek l hn hT hRS) kw_353 kw_355 sel_Rd_peek kw_6 kw_356 (by decide +kernel) ⟨rfl, rfl⟩ ⟨Nat.le_of_ble_eq_true rfl, Nat.le_of_ble_eq_true rfl⟩ rfl hl.1 (Nat.le_of_ble_eq_true rfl) d_Rd_readRepetition_1 ⟨Nat.le_of_ble_eq_true rfl, Nat.le_of_ble_eq_true rfl⟩ (fun r13 mem14 H locs hq hP hS => ?_)
  have hD : va_D (Az sz) (fw n ad mem14) := fw_D hD
  rw [hq] at hP hD
  refine f_callSi (na := 1) (As := [.int (r13)]) (rest := []) Bx hml E.2.1 (m_Rd_beginsRepeat l (r13)) kw_416 kw_417 kw_6 kw_418 (by decide +kernel) ⟨rfl, rfl⟩ ⟨Nat.le_of_ble_eq_true rfl, Nat.le_of_ble_eq_true rfl⟩ rfl hl.1 (Nat.le_of_ble_eq_true rfl) d_Rd_readRepetition_4 ⟨Nat.le_of_ble_eq_true rfl, Nat.le_of_ble_eq_true rfl⟩ (fun r16 hs15 => ?_)
  refine lv_if_ne Bx.1 Bx.2.1 d_Rd_readRepetition_7 rfl (fun h8 => ?_) (fun h8 => ?_)
  · refine lv_aload_n Bx.1 Bx.2.1 d_Rd_readRepetition_16 rfl (lv_at hl 0 rfl) ?_
    refine lv_iconst (v := 2) Bx.1 Bx.2.1 d_Rd_readRepetition_17 (by decide) ?_
    refine lv_aload_n Bx.1 Bx.2.1 d_Rd_readRepetition_18 rfl (lv_at hl 0 rfl) ?_
    refine f_get Bx hP (by omega) h9_3 rfl inRd 2 (by decide) kw_146 rfl rfl d_Rd_readRepetition_19 ?_
    refine f_xVr (na := 2) (As := [.int (2), .int (at1)]) (rest := []) Bx hml E hP hD hS (by omega) h9_3 rfl (m_Rd_addElement l hlt hn hT hRS) kw_419 kw_421 sel_Rd_addElement kw_6 kw_422 (by decide +kernel) ⟨rfl, rfl⟩ ⟨Nat.le_of_ble_eq_true rfl, Nat.le_of_ble_eq_true rfl⟩ rfl hl.1 (Nat.le_of_ble_eq_true rfl) d_Rd_readRepetition_22 ⟨Nat.le_of_ble_eq_true rfl, Nat.le_of_ble_eq_true rfl⟩ (fun X ce q9 memx H locs hx9 hP hS g1 g2 g3 => f_out hlocks hno hP hS g1 g2 g3 ⟨Nat.le_of_ble_eq_true rfl, Nat.le_of_ble_eq_true rfl⟩ hx9) (fun r17 mem18 H locs hq hP hS => ?_)
    have hD : va_D (Az sz) (fw n ad mem18) := fw_D hD
    obtain ⟨hr921, hec20, hRS19⟩ := hq
    subst hr921
    obtain ⟨at22, ft23, h9_24⟩ := hRS19.2.1
    have h1_25 : mem18 1 = .inr (0, [.ref (ad 2), .int (nI Z)]) := (hRS19.2.2 1 (by omega)).trans hT.1
    have h2_26 : mem18 2 = .inl (cy 0, 240, .inl f) := (hRS19.2.2 2 (by omega)).trans hT.2.2
    have h5_27 := hRS19.1.2.1
    have hbd33 := hRS19.1.1
    obtain ⟨S28, g29, hS_30, h220_31, h221_32⟩ := hRS19.1.2.2.2.2.2.2
    obtain ⟨k34, lo35, hi36, as37, pa38, ne39, he_40, ho_41⟩ := (hRS19.1.2.2.2.2.2.1 ec (by omega)).1
    refine lv_astore_n (lv' := [(2, .ref (ad (20 + 2 * ec))), (0, .ref (ad 222)), (1, .int (6))]) Bx.1 Bx.2.1 d_Rd_readRepetition_25 rfl hl (by decide) rfl (fun ls hl => ?_)
    refine lv_aload_n Bx.1 Bx.2.1 d_Rd_readRepetition_26 rfl (lv_at hl 1 rfl) ?_
    refine lv_aload_n Bx.1 Bx.2.1 d_Rd_readRepetition_27 rfl (lv_at hl 0 rfl) ?_
    refine f_xVv (na := 1) (As := [.ref (ad (20 + 2 * ec))]) (rest := []) Bx hml E hP hD hS (by omega) h9_24 rfl (m_Rd_readRepeat l hlt hn hT hRS19 (by omega)) kw_482 kw_484 sel_Rd_readRepeat kw_6 kw_485 (by decide +kernel) ⟨rfl, rfl⟩ ⟨Nat.le_of_ble_eq_true rfl, Nat.le_of_ble_eq_true rfl⟩ rfl hl.1 (Nat.le_of_ble_eq_true rfl) d_Rd_readRepetition_28 ⟨Nat.le_of_ble_eq_true rfl, Nat.le_of_ble_eq_true rfl⟩ (fun X ce q9 memx H locs hx9 hP hS g1 g2 g3 => f_out hlocks hno hP hS g1 g2 g3 ⟨Nat.le_of_ble_eq_true rfl, Nat.le_of_ble_eq_true rfl⟩ hx9) (fun mem44 H locs hRS42 hP hS => ?_)
    have hD : va_D (Az sz) (fw n ad mem44) := fw_D hD
    obtain ⟨at45, ft46, h9_47⟩ := hRS42.2.1
    have h1_48 : mem44 1 = .inr (0, [.ref (ad 2), .int (nI Z)]) := (hRS42.2.2 1 (by omega)).trans hT.1
    have h2_49 : mem44 2 = .inl (cy 0, 240, .inl f) := (hRS42.2.2 2 (by omega)).trans hT.2.2
    have h5_50 := hRS42.1.2.1
    have hbd56 := hRS42.1.1
    obtain ⟨S51, g52, hS_53, h220_54, h221_55⟩ := hRS42.1.2.2.2.2.2.2
    obtain ⟨k57, lo58, hi59, as60, pa61, ne62, he_63, ho_64⟩ := (hRS42.1.2.2.2.2.2.1 ec (by omega)).1
    refine lv_aload_n Bx.1 Bx.2.1 d_Rd_readRepetition_31 rfl (lv_at hl 0 rfl) ?_
    refine lv_aload_n Bx.1 Bx.2.1 d_Rd_readRepetition_32 rfl (lv_at hl 1 rfl) ?_
    refine lv_iload_n Bx.1 Bx.2.1 d_Rd_readRepetition_33 rfl (lv_at hl 2 rfl) ?_
    refine f_xVr (na := 1) (As := [.int (6)]) (rest := [.ref (ad (20 + 2 * ec))]) Bx hml E hP hD hS (by omega) h9_47 rfl (m_Rd_readElement_6 l hlt hn hT hRS42) kw_443 kw_445 sel_Rd_readElement kw_6 kw_446 (by decide +kernel) ⟨rfl, rfl⟩ ⟨Nat.le_of_ble_eq_true rfl, Nat.le_of_ble_eq_true rfl⟩ rfl hl.1 (Nat.le_of_ble_eq_true rfl) d_Rd_readRepetition_34 ⟨Nat.le_of_ble_eq_true rfl, Nat.le_of_ble_eq_true rfl⟩ (fun X ce q9 memx H locs hx9 hP hS g1 g2 g3 => f_out hlocks hno hP hS g1 g2 g3 ⟨Nat.le_of_ble_eq_true rfl, Nat.le_of_ble_eq_true rfl⟩ hx9) (fun r65 mem66 H locs hq hP hS => ?_)
    have hD : va_D (Az sz) (fw n ad mem66) := fw_D hD
    obtain ⟨kx67, rc68, ec69, hr971, hb72, hb73, hb74, hRS70⟩ := hq
    subst hr971
    have hbd75 := hRS70.1.1
    obtain ⟨at76, ft77, h9_78⟩ := hRS70.2.1
    have h1_79 : mem66 1 = .inr (0, [.ref (ad 2), .int (nI Z)]) := (hRS70.2.2 1 (by omega)).trans hT.1
    have h2_80 : mem66 2 = .inl (cy 0, 240, .inl f) := (hRS70.2.2 2 (by omega)).trans hT.2.2
    have h5_81 := hRS70.1.2.1
    have hbd87 := hRS70.1.1
    obtain ⟨S82, g83, hS_84, h220_85, h221_86⟩ := hRS70.1.2.2.2.2.2.2
    obtain ⟨k88, lo89, hi90, as91, pa92, ne93, he_94, ho_95⟩ := (hRS70.1.2.2.2.2.2.1 ec (by omega)).1
    obtain ⟨k96, lo97, hi98, as99, pa100, ne101, he_102, ho_103⟩ := (hRS70.1.2.2.2.2.2.1 kx67 (by omega)).1
    refine f_putN Bx hP hD hS (by omega) he_94 rfl inEl tyEl okEl nmEl 4 (by decide) kw_87 rfl rfl rfl rfl (Nat.le_of_ble_eq_true rfl) d_Rd_readRepetition_37 (fun H locs hP hS => ?_)
    obtain ⟨mem104, e_mem104⟩ : ∃ z, z = va_up mem66 ((20 + 2 * ec)) (.inr (2, [.int (k88), .int (lo89), .int (hi90), as91, .ref (ad (20 + 2 * kx67)), ne93, .ref (ad (21 + 2 * ec))])) := ⟨_, rfl⟩
    have hP : va_P D vcl (fw n ad mem104) H := by rw [e_mem104]; exact hP
    have hD : va_D (Az sz) (fw n ad mem104) := fw_D hD
    have h_mem104 : mem104 ((20 + 2 * ec)) = .inr (2, [.int (k88), .int (lo89), .int (hi90), as91, .ref (ad (20 + 2 * kx67)), ne93, .ref (ad (21 + 2 * ec))]) := by rw [e_mem104, va_up_self]
    have hh105 := (va_up_ne mem66 (.inr (2, [.int (k88), .int (lo89), .int (hi90), as91, .ref (ad (20 + 2 * kx67)), ne93, .ref (ad (21 + 2 * ec))])) (show (222 : Nat) ≠ (20 + 2 * ec) by first | decide | assumption | omega)).trans h9_78
    rw [← e_mem104] at hh105
    have hh106 := (va_up_ne mem66 (.inr (2, [.int (k88), .int (lo89), .int (hi90), as91, .ref (ad (20 + 2 * kx67)), ne93, .ref (ad (21 + 2 * ec))])) (show (1 : Nat) ≠ (20 + 2 * ec) by first | decide | assumption | omega)).trans h1_79
    rw [← e_mem104] at hh106
    have hh107 := (va_up_ne mem66 (.inr (2, [.int (k88), .int (lo89), .int (hi90), as91, .ref (ad (20 + 2 * kx67)), ne93, .ref (ad (21 + 2 * ec))])) (show (5 : Nat) ≠ (20 + 2 * ec) by first | decide | assumption | omega)).trans h5_81
    rw [← e_mem104] at hh107
    have hh108 := (va_up_ne mem66 (.inr (2, [.int (k88), .int (lo89), .int (hi90), as91, .ref (ad (20 + 2 * kx67)), ne93, .ref (ad (21 + 2 * ec))])) (show (220 : Nat) ≠ (20 + 2 * ec) by first | decide | assumption | omega)).trans h220_85
    rw [← e_mem104] at hh108
    have hh109 := (va_up_ne mem66 (.inr (2, [.int (k88), .int (lo89), .int (hi90), as91, .ref (ad (20 + 2 * kx67)), ne93, .ref (ad (21 + 2 * ec))])) (show ((20 + 2 * kx67) : Nat) ≠ (20 + 2 * ec) by first | decide | assumption | omega)).trans he_102
    rw [← e_mem104] at hh109
    have hRS110 : RS cy ad lim rc68 ec69 m0 mem104 := by rw [e_mem104]; exact hRS70.mk (by omega) (hRS70.1.upEl (by omega) (fun q9 => ⟨(ho_95 q9).1, Or.inr ⟨kx67, by omega, by omega, rfl⟩, (ho_95 q9).2.2⟩))
    refine lv_aload_n Bx.1 Bx.2.1 d_Rd_readRepetition_40 rfl (lv_at hl 0 rfl) ?_
    exact x_aret hx hb hlocks hr (⟨ec, rc68, ec69, rfl, by omega, by omega, by omega, hRS110⟩) hP hS d_Rd_readRepetition_41
  · refine lv_aload_n Bx.1 Bx.2.1 d_Rd_readRepetition_10 rfl (lv_at hl 0 rfl) ?_
    refine lv_iload_n Bx.1 Bx.2.1 d_Rd_readRepetition_11 rfl (lv_at hl 1 rfl) ?_
    refine f_xVr (na := 1) (As := [.int (6)]) (rest := []) Bx hml E hP hD hS (by omega) h9_3 rfl (m_Rd_readElement_6 l hlt hn hT hRS) kw_443 kw_445 sel_Rd_readElement kw_6 kw_446 (by decide +kernel) ⟨rfl, rfl⟩ ⟨Nat.le_of_ble_eq_true rfl, Nat.le_of_ble_eq_true rfl⟩ rfl hl.1 (Nat.le_of_ble_eq_true rfl) d_Rd_readRepetition_12 ⟨Nat.le_of_ble_eq_true rfl, Nat.le_of_ble_eq_true rfl⟩ (fun X ce q9 memx H locs hx9 hP hS g1 g2 g3 => f_out hlocks hno hP hS g1 g2 g3 ⟨Nat.le_of_ble_eq_true rfl, Nat.le_of_ble_eq_true rfl⟩ hx9) (fun r111 mem112 H locs hq hP hS => ?_)
    have hD : va_D (Az sz) (fw n ad mem112) := fw_D hD
    obtain ⟨kx113, rc114, ec115, hr9117, hb118, hb119, hb120, hRS116⟩ := hq
    subst hr9117
    have hbd121 := hRS116.1.1
    obtain ⟨at122, ft123, h9_124⟩ := hRS116.2.1
    have h1_125 : mem112 1 = .inr (0, [.ref (ad 2), .int (nI Z)]) := (hRS116.2.2 1 (by omega)).trans hT.1
    have h2_126 : mem112 2 = .inl (cy 0, 240, .inl f) := (hRS116.2.2 2 (by omega)).trans hT.2.2
    have h5_127 := hRS116.1.2.1
    have hbd133 := hRS116.1.1
    obtain ⟨S128, g129, hS_130, h220_131, h221_132⟩ := hRS116.1.2.2.2.2.2.2
    obtain ⟨k134, lo135, hi136, as137, pa138, ne139, he_140, ho_141⟩ := (hRS116.1.2.2.2.2.2.1 kx113 (by omega)).1
    exact x_aret hx hb hlocks hr (⟨kx113, rc114, ec115, rfl, by omega, by omega, by omega, hRS116⟩) hP hS d_Rd_readRepetition_15
set_option maxHeartbeats 4000000 in
set_option maxRecDepth 100000 in
theorem m_Rd_readSequence_6 (l : Launch) {D : va_G} {cy : Nat → ClassId} {sz n : Nat} {ad : Nat → Nat} {mem : Nat → va_E} {Z : Nat} {f : Nat → Int32} {lim rc ec : Nat} {m0 : Nat → va_E} (hlt : l.stackTraces = false) (hn : 224 ≤ n) (hT : TX cy ad Z f m0) (hRS : RS cy ad lim rc ec m0 mem) : NXr l D cy sz n ad y_Rd_readSequence c_Rd_readSequence 5 (some (.object "AbnfChart$Element")) ({ frames := 18, cells := 1, slots := 6, locals := 412 } : Room) mem [.ref (ad 222), .int (6)] (fun r mem' => ∃ k rc' ec' : Nat, r = ad (20 + 2 * k) ∧ ec ≤ k ∧ k < ec' ∧ rc ≤ rc' ∧ RS cy ad lim rc' ec' m0 mem') (fun X mem' => (X = cIA ∨ X = cIS) ∧ ∃ rc' ec' : Nat, RS cy ad lim rc' ec' m0 mem') := by
  refine vx_ofW (cc := c_Rd_readSequence) (maxL := 5) (ret := (some (.object "AbnfChart$Element"))) (by decide) rfl ?_
  intro p e s m args below meth c s₁ B hml hno hv
  obtain ⟨rfl, E, hP, hD⟩ := hv
  have hx := B.exec
  have hb := B.bytes
  have hr := B.returns
  have hlocks := B.notSynchronized
  have Bx : MB p s m [.ref (ad 222), .int (6)].toArray c c_Rd_readSequence "AbnfChart$Reader" D cy := ⟨hx, hb, tb_all (atoms_spec B.pre) E.2.1, findClass_of_methodNamed B.named, E.1⟩
  have hS : va_S (Az sz) s.heap s.heap [] := va_S.rf
  have hl := lv_entry ([.ref (ad 222), .int (6)]) (n := 5) (Nat.le_of_ble_eq_true rfl)
  rw [lg_entry_eq]
  generalize (lg_sl ([.ref (ad 222), .int (6)]) ++ List.replicate (5 - (lg_sl ([.ref (ad 222), .int (6)])).length) Slot.unset).toArray = ls at hl ⊢
  have hl : lv_has ls 5 [(0, .ref (ad 222)), (1, .int (6))] := hl
  obtain ⟨at1, ft2, h9_3⟩ := hRS.2.1
  have h1_4 : mem 1 = .inr (0, [.ref (ad 2), .int (nI Z)]) := (hRS.2.2 1 (by omega)).trans hT.1
  have h2_5 : mem 2 = .inl (cy 0, 240, .inl f) := (hRS.2.2 2 (by omega)).trans hT.2.2
  have h5_6 := hRS.1.2.1
  have hbd12 := hRS.1.1
  obtain ⟨S7, g8, hS_9, h220_10, h221_11⟩ := hRS.1.2.2.2.2.2.2
  refine lv_aload_n Bx.1 Bx.2.1 d_Rd_readSequence_0 rfl (lv_at hl 0 rfl) ?_
  refine lv_iconst (v := 1) Bx.1 Bx.2.1 d_Rd_readSequence_1 (by decide) ?_
  refine f_xVr (na := 1) (As := [.int (1)]) (rest := []) Bx hml E hP hD hS (by omega) h9_3 rfl (m_Rd_beginRow l hlt hn hT hRS) kw_409 kw_411 sel_Rd_beginRow kw_6 kw_412 (by decide +kernel) ⟨rfl, rfl⟩ ⟨Nat.le_of_ble_eq_true rfl, Nat.le_of_ble_eq_true rfl⟩ rfl hl.1 (Nat.le_of_ble_eq_true rfl) d_Rd_readSequence_2 ⟨Nat.le_of_ble_eq_true rfl, Nat.le_of_ble_eq_true rfl⟩ (fun X ce q9 memx H locs hx9 hP hS g1 g2 g3 => f_out hlocks hno hP hS g1 g2 g3 ⟨Nat.le_of_ble_eq_true rfl, Nat.le_of_ble_eq_true rfl⟩ hx9) (fun r13 mem14 H locs hq hP hS => ?_)
  have hD : va_D (Az sz) (fw n ad mem14) := fw_D hD
  obtain ⟨kx15, rc16, ec17, hr919, hb20, hb21, hb22, hRS18⟩ := hq
  subst hr919
  have hbd23 := hRS18.1.1
  obtain ⟨at24, ft25, h9_26⟩ := hRS18.2.1
  have h1_27 : mem14 1 = .inr (0, [.ref (ad 2), .int (nI Z)]) := (hRS18.2.2 1 (by omega)).trans hT.1
  have h2_28 : mem14 2 = .inl (cy 0, 240, .inl f) := (hRS18.2.2 2 (by omega)).trans hT.2.2
  have h5_29 := hRS18.1.2.1
  have hbd35 := hRS18.1.1
  obtain ⟨S30, g31, hS_32, h220_33, h221_34⟩ := hRS18.1.2.2.2.2.2.2
  obtain ⟨k36, lo37, hi38, as39, pa40, ne41, he_42, ho_43⟩ := (hRS18.1.2.2.2.2.2.1 kx15 (by omega)).1
  refine lv_astore_n (lv' := [(2, .ref (ad (20 + 2 * kx15))), (0, .ref (ad 222)), (1, .int (6))]) Bx.1 Bx.2.1 d_Rd_readSequence_5 rfl hl (by decide) rfl (fun ls hl => ?_)
  refine lv_aload_n Bx.1 Bx.2.1 d_Rd_readSequence_6 rfl (lv_at hl 1 rfl) ?_
  refine lv_iload_n Bx.1 Bx.2.1 d_Rd_readSequence_7 rfl (lv_at hl 2 rfl) ?_
  refine f_xVr (na := 1) (As := [.int (6)]) (rest := []) Bx hml E hP hD hS (by omega) h9_26 rfl (m_Rd_readRepetition_6 l hlt hn hT hRS18) kw_439 kw_441 sel_Rd_readRepetition kw_6 kw_442 (by decide +kernel) ⟨rfl, rfl⟩ ⟨Nat.le_of_ble_eq_true rfl, Nat.le_of_ble_eq_true rfl⟩ rfl hl.1 (Nat.le_of_ble_eq_true rfl) d_Rd_readSequence_8 ⟨Nat.le_of_ble_eq_true rfl, Nat.le_of_ble_eq_true rfl⟩ (fun X ce q9 memx H locs hx9 hP hS g1 g2 g3 => f_out hlocks hno hP hS g1 g2 g3 ⟨Nat.le_of_ble_eq_true rfl, Nat.le_of_ble_eq_true rfl⟩ hx9) (fun r44 mem45 H locs hq hP hS => ?_)
  have hD : va_D (Az sz) (fw n ad mem45) := fw_D hD
  obtain ⟨kx46, rc47, ec48, hr950, hb51, hb52, hb53, hRS49⟩ := hq
  subst hr950
  have hbd54 := hRS49.1.1
  obtain ⟨at55, ft56, h9_57⟩ := hRS49.2.1
  have h1_58 : mem45 1 = .inr (0, [.ref (ad 2), .int (nI Z)]) := (hRS49.2.2 1 (by omega)).trans hT.1
  have h2_59 : mem45 2 = .inl (cy 0, 240, .inl f) := (hRS49.2.2 2 (by omega)).trans hT.2.2
  have h5_60 := hRS49.1.2.1
  have hbd66 := hRS49.1.1
  obtain ⟨S61, g62, hS_63, h220_64, h221_65⟩ := hRS49.1.2.2.2.2.2.2
  obtain ⟨k67, lo68, hi69, as70, pa71, ne72, he_73, ho_74⟩ := (hRS49.1.2.2.2.2.2.1 kx15 (by omega)).1
  obtain ⟨k75, lo76, hi77, as78, pa79, ne80, he_81, ho_82⟩ := (hRS49.1.2.2.2.2.2.1 kx46 (by omega)).1
  refine lv_astore_n (lv' := [(3, .ref (ad (20 + 2 * kx46))), (2, .ref (ad (20 + 2 * kx15))), (0, .ref (ad 222)), (1, .int (6))]) Bx.1 Bx.2.1 d_Rd_readSequence_11 rfl hl (by decide) rfl (fun ls hl => ?_)
  refine lv_aload_n Bx.1 Bx.2.1 d_Rd_readSequence_12 rfl (lv_at hl 1 rfl) ?_
  refine lv_aload_n Bx.1 Bx.2.1 d_Rd_readSequence_13 rfl (lv_at hl 0 rfl) ?_
  refine f_putN Bx hP hD hS (by omega) he_73 rfl inEl tyEl okEl nmEl 4 (by decide) kw_87 rfl rfl rfl rfl (Nat.le_of_ble_eq_true rfl) d_Rd_readSequence_14 (fun H locs hP hS => ?_)
  obtain ⟨mem83, e_mem83⟩ : ∃ z, z = va_up mem45 ((20 + 2 * kx15)) (.inr (2, [.int (k67), .int (lo68), .int (hi69), as70, .ref (ad (20 + 2 * kx46)), ne72, .ref (ad (21 + 2 * kx15))])) := ⟨_, rfl⟩
  have hP : va_P D vcl (fw n ad mem83) H := by rw [e_mem83]; exact hP
  have hD : va_D (Az sz) (fw n ad mem83) := fw_D hD
  have h_mem83 : mem83 ((20 + 2 * kx15)) = .inr (2, [.int (k67), .int (lo68), .int (hi69), as70, .ref (ad (20 + 2 * kx46)), ne72, .ref (ad (21 + 2 * kx15))]) := by rw [e_mem83, va_up_self]
  have hh84 := (va_up_ne mem45 (.inr (2, [.int (k67), .int (lo68), .int (hi69), as70, .ref (ad (20 + 2 * kx46)), ne72, .ref (ad (21 + 2 * kx15))])) (show (222 : Nat) ≠ (20 + 2 * kx15) by first | decide | assumption | omega)).trans h9_57
  rw [← e_mem83] at hh84
  have hh85 := (va_up_ne mem45 (.inr (2, [.int (k67), .int (lo68), .int (hi69), as70, .ref (ad (20 + 2 * kx46)), ne72, .ref (ad (21 + 2 * kx15))])) (show (1 : Nat) ≠ (20 + 2 * kx15) by first | decide | assumption | omega)).trans h1_58
  rw [← e_mem83] at hh85
  have hh86 := (va_up_ne mem45 (.inr (2, [.int (k67), .int (lo68), .int (hi69), as70, .ref (ad (20 + 2 * kx46)), ne72, .ref (ad (21 + 2 * kx15))])) (show (5 : Nat) ≠ (20 + 2 * kx15) by first | decide | assumption | omega)).trans h5_60
  rw [← e_mem83] at hh86
  have hh87 := (va_up_ne mem45 (.inr (2, [.int (k67), .int (lo68), .int (hi69), as70, .ref (ad (20 + 2 * kx46)), ne72, .ref (ad (21 + 2 * kx15))])) (show (220 : Nat) ≠ (20 + 2 * kx15) by first | decide | assumption | omega)).trans h220_64
  rw [← e_mem83] at hh87
  have hh88 := (va_up_ne mem45 (.inr (2, [.int (k67), .int (lo68), .int (hi69), as70, .ref (ad (20 + 2 * kx46)), ne72, .ref (ad (21 + 2 * kx15))])) (show ((20 + 2 * kx46) : Nat) ≠ (20 + 2 * kx15) by first | decide | assumption | omega)).trans he_81
  rw [← e_mem83] at hh88
  have hRS89 : RS cy ad lim rc47 ec48 m0 mem83 := by rw [e_mem83]; exact hRS49.mk (by omega) (hRS49.1.upEl (by omega) (fun q9 => ⟨(ho_74 q9).1, Or.inr ⟨kx46, by omega, by omega, rfl⟩, (ho_74 q9).2.2⟩))
  refine lv_iconst (v := 0) Bx.1 Bx.2.1 d_Rd_readSequence_17 (by decide) ?_
  refine lv_istore (lv' := [(4, .int (0)), (3, .ref (ad (20 + 2 * kx46))), (2, .ref (ad (20 + 2 * kx15))), (0, .ref (ad 222)), (1, .int (6))]) Bx.1 Bx.2.1 d_Rd_readSequence_18 hl (by decide) rfl (fun ls hl => ?_)
  have loop90 : ∀ (d : Nat) (mem : Nat → va_E) (rcl ecl : Nat) (ls : Array Slot) (H : Heap) (locs : List Loc) (la : Nat) (k9 : Int32), ((240 : Int32).toInt - (k9).toInt).toNat < d → RS cy ad lim rcl ecl m0 mem → kx15 < ecl ∧ la < ecl ∧ rc ≤ rcl → va_P D vcl (fw n ad mem) H → va_D (Az sz) (fw n ad mem) → va_S (Az sz) s.heap H locs → lv_has ls 5 [(4, .int (k9)), (3, .ref (ad (20 + 2 * la))), (2, .ref (ad (20 + 2 * kx15))), (0, .ref (ad 222)), (1, .int (6))] → W p l e (headSpec (Cond.code y_Rd_readSequence c_Rd_readSequence 5 (some (.object "AbnfChart$Element")) :: tg) ({ frames := 18, cells := 1, slots := 6, locals := 412 } : Room)).room s m [.ref (ad 222), .int (6)].toArray below meth c H locs 0 0 (vx_MQ below (QX (QR (fun r mem' => ∃ k rc' ec' : Nat, r = ad (20 + 2 * k) ∧ ec ≤ k ∧ k < ec' ∧ rc ≤ rc' ∧ RS cy ad lim rc' ec' m0 mem') (PP D n ad) (Az sz))) (XQ D sz n ad (fun X mem' => (X = cIA ∨ X = cIS) ∧ ∃ rc' ec' : Nat, RS cy ad lim rc' ec' m0 mem')) [.ref (ad 222), .int (6)].toArray s 1 6 (Az sz)) (F0 m 20 ls []) := by
    intro d
    induction d with
    | zero => intro mem rcl ecl ls H locs la k9 hmeas; exact absurd hmeas (Nat.not_lt_zero _)
    | succ d ih =>
      intro mem rcl ecl ls H locs la k9 hmeas hRS hx0 hP hD hS hl
      have hbd := hRS.1.1
      obtain ⟨at91, ft92, h9_93⟩ := hRS.2.1
      have h1_94 : mem 1 = .inr (0, [.ref (ad 2), .int (nI Z)]) := (hRS.2.2 1 (by omega)).trans hT.1
      have h2_95 : mem 2 = .inl (cy 0, 240, .inl f) := (hRS.2.2 2 (by omega)).trans hT.2.2
      have h5_96 := hRS.1.2.1
      have hbd102 := hRS.1.1
      obtain ⟨S97, g98, hS_99, h220_100, h221_101⟩ := hRS.1.2.2.2.2.2.2
      obtain ⟨k103, lo104, hi105, as106, pa107, ne108, he_109, ho_110⟩ := (hRS.1.2.2.2.2.2.1 la (by omega)).1
      refine lv_iload Bx.1 Bx.2.1 d_Rd_readSequence_20 (lv_at hl 0 rfl) ?_
      refine lv_sipush (v := 240) Bx.1 Bx.2.1 d_Rd_readSequence_22 (by decide) ?_
      refine lv_icmp_ge Bx.1 Bx.2.1 d_Rd_readSequence_25 rfl (fun hk => ?_) (fun hk => ?_)
      · refine lv_aload_n Bx.1 Bx.2.1 d_Rd_readSequence_65 rfl (lv_at hl 2 rfl) ?_
        exact x_aret hx hb hlocks hr (⟨kx15, rcl, ecl, rfl, by omega, by omega, by omega, hRS⟩) hP hS d_Rd_readSequence_66
      · refine lv_aload_n Bx.1 Bx.2.1 d_Rd_readSequence_28 rfl (lv_at hl 3 rfl) ?_
        refine f_callVi (na := 0) (As := []) (rest := []) Bx hml E hP hD hS (by omega) h9_93 rfl (m_Rd_readGap l hn hT hRS) kw_397 kw_399 sel_Rd_readGap kw_6 kw_400 (by decide +kernel) ⟨rfl, rfl⟩ ⟨Nat.le_of_ble_eq_true rfl, Nat.le_of_ble_eq_true rfl⟩ rfl hl.1 (Nat.le_of_ble_eq_true rfl) d_Rd_readSequence_29 ⟨Nat.le_of_ble_eq_true rfl, Nat.le_of_ble_eq_true rfl⟩ (fun r112 mem113 H locs hRS111 hP hS => ?_)
        have hD : va_D (Az sz) (fw n ad mem113) := fw_D hD
        obtain ⟨at114, ft115, h9_116⟩ := hRS111.2.1
        have h1_117 : mem113 1 = .inr (0, [.ref (ad 2), .int (nI Z)]) := (hRS111.2.2 1 (by omega)).trans hT.1
        have h2_118 : mem113 2 = .inl (cy 0, 240, .inl f) := (hRS111.2.2 2 (by omega)).trans hT.2.2
        have h5_119 := hRS111.1.2.1
        have hbd125 := hRS111.1.1
        obtain ⟨S120, g121, hS_122, h220_123, h221_124⟩ := hRS111.1.2.2.2.2.2.2
        obtain ⟨k126, lo127, hi128, as129, pa130, ne131, he_132, ho_133⟩ := (hRS111.1.2.2.2.2.2.1 la (by omega)).1
        refine lv_if_eq Bx.1 Bx.2.1 d_Rd_readSequence_32 rfl (fun h8 => ?_) (fun h8 => ?_)
        · refine lv_aload_n Bx.1 Bx.2.1 d_Rd_readSequence_65 rfl (lv_at hl 2 rfl) ?_
          exact x_aret hx hb hlocks hr (⟨kx15, rcl, ecl, rfl, by omega, by omega, by omega, hRS111⟩) hP hS d_Rd_readSequence_66
        · refine lv_aload_n Bx.1 Bx.2.1 d_Rd_readSequence_35 rfl (lv_at hl 3 rfl) ?_
          refine f_callVi (na := 0) (As := []) (rest := []) Bx hml E hP hD hS (by omega) h9_116 rfl (m_Rd_peek l hn hT hRS111) kw_353 kw_355 sel_Rd_peek kw_6 kw_356 (by decide +kernel) ⟨rfl, rfl⟩ ⟨Nat.le_of_ble_eq_true rfl, Nat.le_of_ble_eq_true rfl⟩ rfl hl.1 (Nat.le_of_ble_eq_true rfl) d_Rd_readSequence_36 ⟨Nat.le_of_ble_eq_true rfl, Nat.le_of_ble_eq_true rfl⟩ (fun r134 mem135 H locs hq hP hS => ?_)
          have hD : va_D (Az sz) (fw n ad mem135) := fw_D hD
          rw [hq] at hP hD
          refine f_callSi (na := 1) (As := [.int (r134)]) (rest := []) Bx hml E.2.1 (m_Rd_beginsRepetition l (r134)) kw_413 kw_414 kw_6 kw_415 (by decide +kernel) ⟨rfl, rfl⟩ ⟨Nat.le_of_ble_eq_true rfl, Nat.le_of_ble_eq_true rfl⟩ rfl hl.1 (Nat.le_of_ble_eq_true rfl) d_Rd_readSequence_39 ⟨Nat.le_of_ble_eq_true rfl, Nat.le_of_ble_eq_true rfl⟩ (fun r137 hs136 => ?_)
          refine lv_if_eq Bx.1 Bx.2.1 d_Rd_readSequence_42 rfl (fun h8 => ?_) (fun h8 => ?_)
          · refine lv_aload_n Bx.1 Bx.2.1 d_Rd_readSequence_65 rfl (lv_at hl 2 rfl) ?_
            exact x_aret hx hb hlocks hr (⟨kx15, rcl, ecl, rfl, by omega, by omega, by omega, hRS111⟩) hP hS d_Rd_readSequence_66
          · refine lv_aload_n Bx.1 Bx.2.1 d_Rd_readSequence_45 rfl (lv_at hl 1 rfl) ?_
            refine lv_aload_n Bx.1 Bx.2.1 d_Rd_readSequence_46 rfl (lv_at hl 3 rfl) ?_
            refine lv_iload_n Bx.1 Bx.2.1 d_Rd_readSequence_47 rfl (lv_at hl 4 rfl) ?_
            refine f_xVr (na := 1) (As := [.int (6)]) (rest := [.ref (ad (20 + 2 * la))]) Bx hml E hP hD hS (by omega) h9_116 rfl (m_Rd_readRepetition_6 l hlt hn hT hRS111) kw_439 kw_441 sel_Rd_readRepetition kw_6 kw_442 (by decide +kernel) ⟨rfl, rfl⟩ ⟨Nat.le_of_ble_eq_true rfl, Nat.le_of_ble_eq_true rfl⟩ rfl hl.1 (Nat.le_of_ble_eq_true rfl) d_Rd_readSequence_48 ⟨Nat.le_of_ble_eq_true rfl, Nat.le_of_ble_eq_true rfl⟩ (fun X ce q9 memx H locs hx9 hP hS g1 g2 g3 => f_out hlocks hno hP hS g1 g2 g3 ⟨Nat.le_of_ble_eq_true rfl, Nat.le_of_ble_eq_true rfl⟩ hx9) (fun r138 mem139 H locs hq hP hS => ?_)
            have hD : va_D (Az sz) (fw n ad mem139) := fw_D hD
            obtain ⟨kx140, rc141, ec142, hr9144, hb145, hb146, hb147, hRS143⟩ := hq
            subst hr9144
            have hbd148 := hRS143.1.1
            obtain ⟨at149, ft150, h9_151⟩ := hRS143.2.1
            have h1_152 : mem139 1 = .inr (0, [.ref (ad 2), .int (nI Z)]) := (hRS143.2.2 1 (by omega)).trans hT.1
            have h2_153 : mem139 2 = .inl (cy 0, 240, .inl f) := (hRS143.2.2 2 (by omega)).trans hT.2.2
            have h5_154 := hRS143.1.2.1
            have hbd160 := hRS143.1.1
            obtain ⟨S155, g156, hS_157, h220_158, h221_159⟩ := hRS143.1.2.2.2.2.2.2
            obtain ⟨k161, lo162, hi163, as164, pa165, ne166, he_167, ho_168⟩ := (hRS143.1.2.2.2.2.2.1 la (by omega)).1
            obtain ⟨k169, lo170, hi171, as172, pa173, ne174, he_175, ho_176⟩ := (hRS143.1.2.2.2.2.2.1 kx140 (by omega)).1
            refine f_putN Bx hP hD hS (by omega) he_167 rfl inEl tyEl okEl nmEl 5 (by decide) kw_91 rfl rfl rfl rfl (Nat.le_of_ble_eq_true rfl) d_Rd_readSequence_51 (fun H locs hP hS => ?_)
            obtain ⟨mem177, e_mem177⟩ : ∃ z, z = va_up mem139 ((20 + 2 * la)) (.inr (2, [.int (k161), .int (lo162), .int (hi163), as164, pa165, .ref (ad (20 + 2 * kx140)), .ref (ad (21 + 2 * la))])) := ⟨_, rfl⟩
            have hP : va_P D vcl (fw n ad mem177) H := by rw [e_mem177]; exact hP
            have hD : va_D (Az sz) (fw n ad mem177) := fw_D hD
            have h_mem177 : mem177 ((20 + 2 * la)) = .inr (2, [.int (k161), .int (lo162), .int (hi163), as164, pa165, .ref (ad (20 + 2 * kx140)), .ref (ad (21 + 2 * la))]) := by rw [e_mem177, va_up_self]
            have hh178 := (va_up_ne mem139 (.inr (2, [.int (k161), .int (lo162), .int (hi163), as164, pa165, .ref (ad (20 + 2 * kx140)), .ref (ad (21 + 2 * la))])) (show (222 : Nat) ≠ (20 + 2 * la) by first | decide | assumption | omega)).trans h9_151
            rw [← e_mem177] at hh178
            have hh179 := (va_up_ne mem139 (.inr (2, [.int (k161), .int (lo162), .int (hi163), as164, pa165, .ref (ad (20 + 2 * kx140)), .ref (ad (21 + 2 * la))])) (show (1 : Nat) ≠ (20 + 2 * la) by first | decide | assumption | omega)).trans h1_152
            rw [← e_mem177] at hh179
            have hh180 := (va_up_ne mem139 (.inr (2, [.int (k161), .int (lo162), .int (hi163), as164, pa165, .ref (ad (20 + 2 * kx140)), .ref (ad (21 + 2 * la))])) (show (5 : Nat) ≠ (20 + 2 * la) by first | decide | assumption | omega)).trans h5_154
            rw [← e_mem177] at hh180
            have hh181 := (va_up_ne mem139 (.inr (2, [.int (k161), .int (lo162), .int (hi163), as164, pa165, .ref (ad (20 + 2 * kx140)), .ref (ad (21 + 2 * la))])) (show (220 : Nat) ≠ (20 + 2 * la) by first | decide | assumption | omega)).trans h220_158
            rw [← e_mem177] at hh181
            have hh182 := (va_up_ne mem139 (.inr (2, [.int (k161), .int (lo162), .int (hi163), as164, pa165, .ref (ad (20 + 2 * kx140)), .ref (ad (21 + 2 * la))])) (show ((20 + 2 * kx140) : Nat) ≠ (20 + 2 * la) by first | decide | assumption | omega)).trans he_175
            rw [← e_mem177] at hh182
            have hRS183 : RS cy ad lim rc141 ec142 m0 mem177 := by rw [e_mem177]; exact hRS143.mk (by omega) (hRS143.1.upEl (by omega) (fun q9 => ⟨(ho_168 q9).1, (ho_168 q9).2.1, Or.inr ⟨kx140, by omega, by omega, rfl⟩⟩))
            refine lv_aload_n Bx.1 Bx.2.1 d_Rd_readSequence_54 rfl (lv_at hl 1 rfl) ?_
            refine f_getN Bx hP (by omega) h_mem177 rfl inEl 5 (by decide) kw_91 rfl rfl d_Rd_readSequence_55 ?_
            refine lv_astore_n (lv' := [(3, .ref (ad (20 + 2 * kx140))), (4, .int (k9)), (2, .ref (ad (20 + 2 * kx15))), (0, .ref (ad 222)), (1, .int (6))]) Bx.1 Bx.2.1 d_Rd_readSequence_58 rfl hl (by decide) rfl (fun ls hl => ?_)
            refine lv_iinc (lv' := [(4, .int ((k9 + (1)))), (3, .ref (ad (20 + 2 * kx140))), (2, .ref (ad (20 + 2 * kx15))), (0, .ref (ad 222)), (1, .int (6))]) Bx.1 Bx.2.1 d_Rd_readSequence_59 hl (k := 1) rfl rfl (by decide) rfl (fun ls hl => ?_)
            refine lv_goto Bx.1 Bx.2.1 d_Rd_readSequence_62 rfl ?_
            exact ih _ _ _ _ _ _ _ _ (by have := inc_meas hk; omega) hRS183 ⟨by omega, by omega, by omega⟩ hP hD hS (lv_sub hl [0, 1, 2, 3, 4] rfl)
  exact loop90 _ _ _ _ _ _ _ _ _ (Nat.lt_succ_self _) hRS89 ⟨by omega, by omega, by omega⟩ hP hD hS (lv_sub hl [0, 1, 2, 3, 4] rfl)
set_option maxHeartbeats 4000000 in
set_option maxRecDepth 100000 in
theorem m_Rd_readAlternatives_6 (l : Launch) {D : va_G} {cy : Nat → ClassId} {sz n : Nat} {ad : Nat → Nat} {mem : Nat → va_E} {Z : Nat} {f : Nat → Int32} {lim rc ec : Nat} {m0 : Nat → va_E} (hlt : l.stackTraces = false) (hn : 224 ≤ n) (hT : TX cy ad Z f m0) (hRS : RS cy ad lim rc ec m0 mem) : NXr l D cy sz n ad y_Rd_readAlternatives c_Rd_readAlternatives 5 (some (.object "AbnfChart$Element")) ({ frames := 19, cells := 1, slots := 6, locals := 438 } : Room) mem [.ref (ad 222), .int (6)] (fun r mem' => ∃ k rc' ec' : Nat, r = ad (20 + 2 * k) ∧ ec ≤ k ∧ k < ec' ∧ rc ≤ rc' ∧ RS cy ad lim rc' ec' m0 mem') (fun X mem' => (X = cIA ∨ X = cIS) ∧ ∃ rc' ec' : Nat, RS cy ad lim rc' ec' m0 mem') := by
  refine vx_ofW (cc := c_Rd_readAlternatives) (maxL := 5) (ret := (some (.object "AbnfChart$Element"))) (by decide) rfl ?_
  intro p e s m args below meth c s₁ B hml hno hv
  obtain ⟨rfl, E, hP, hD⟩ := hv
  have hx := B.exec
  have hb := B.bytes
  have hr := B.returns
  have hlocks := B.notSynchronized
  have Bx : MB p s m [.ref (ad 222), .int (6)].toArray c c_Rd_readAlternatives "AbnfChart$Reader" D cy := ⟨hx, hb, tb_all (atoms_spec B.pre) E.2.1, findClass_of_methodNamed B.named, E.1⟩
  have hS : va_S (Az sz) s.heap s.heap [] := va_S.rf
  have hl := lv_entry ([.ref (ad 222), .int (6)]) (n := 5) (Nat.le_of_ble_eq_true rfl)
  rw [lg_entry_eq]
  generalize (lg_sl ([.ref (ad 222), .int (6)]) ++ List.replicate (5 - (lg_sl ([.ref (ad 222), .int (6)])).length) Slot.unset).toArray = ls at hl ⊢
  have hl : lv_has ls 5 [(0, .ref (ad 222)), (1, .int (6))] := hl
  obtain ⟨at1, ft2, h9_3⟩ := hRS.2.1
  have h1_4 : mem 1 = .inr (0, [.ref (ad 2), .int (nI Z)]) := (hRS.2.2 1 (by omega)).trans hT.1
  have h2_5 : mem 2 = .inl (cy 0, 240, .inl f) := (hRS.2.2 2 (by omega)).trans hT.2.2
  have h5_6 := hRS.1.2.1
  have hbd12 := hRS.1.1
  obtain ⟨S7, g8, hS_9, h220_10, h221_11⟩ := hRS.1.2.2.2.2.2.2
  refine lv_aload_n Bx.1 Bx.2.1 d_Rd_readAlternatives_0 rfl (lv_at hl 0 rfl) ?_
  refine lv_iconst (v := 0) Bx.1 Bx.2.1 d_Rd_readAlternatives_1 (by decide) ?_
  refine f_xVr (na := 1) (As := [.int (0)]) (rest := []) Bx hml E hP hD hS (by omega) h9_3 rfl (m_Rd_beginRow l hlt hn hT hRS) kw_409 kw_411 sel_Rd_beginRow kw_6 kw_412 (by decide +kernel) ⟨rfl, rfl⟩ ⟨Nat.le_of_ble_eq_true rfl, Nat.le_of_ble_eq_true rfl⟩ rfl hl.1 (Nat.le_of_ble_eq_true rfl) d_Rd_readAlternatives_2 ⟨Nat.le_of_ble_eq_true rfl, Nat.le_of_ble_eq_true rfl⟩ (fun X ce q9 memx H locs hx9 hP hS g1 g2 g3 => f_out hlocks hno hP hS g1 g2 g3 ⟨Nat.le_of_ble_eq_true rfl, Nat.le_of_ble_eq_true rfl⟩ hx9) (fun r13 mem14 H locs hq hP hS => ?_)
  have hD : va_D (Az sz) (fw n ad mem14) := fw_D hD
  obtain ⟨kx15, rc16, ec17, hr919, hb20, hb21, hb22, hRS18⟩ := hq
  subst hr919
  have hbd23 := hRS18.1.1
  obtain ⟨at24, ft25, h9_26⟩ := hRS18.2.1
  have h1_27 : mem14 1 = .inr (0, [.ref (ad 2), .int (nI Z)]) := (hRS18.2.2 1 (by omega)).trans hT.1
  have h2_28 : mem14 2 = .inl (cy 0, 240, .inl f) := (hRS18.2.2 2 (by omega)).trans hT.2.2
  have h5_29 := hRS18.1.2.1
  have hbd35 := hRS18.1.1
  obtain ⟨S30, g31, hS_32, h220_33, h221_34⟩ := hRS18.1.2.2.2.2.2.2
  obtain ⟨k36, lo37, hi38, as39, pa40, ne41, he_42, ho_43⟩ := (hRS18.1.2.2.2.2.2.1 kx15 (by omega)).1
  refine lv_astore_n (lv' := [(2, .ref (ad (20 + 2 * kx15))), (0, .ref (ad 222)), (1, .int (6))]) Bx.1 Bx.2.1 d_Rd_readAlternatives_5 rfl hl (by decide) rfl (fun ls hl => ?_)
  refine lv_aload_n Bx.1 Bx.2.1 d_Rd_readAlternatives_6 rfl (lv_at hl 1 rfl) ?_
  refine lv_iload_n Bx.1 Bx.2.1 d_Rd_readAlternatives_7 rfl (lv_at hl 2 rfl) ?_
  refine f_xVr (na := 1) (As := [.int (6)]) (rest := []) Bx hml E hP hD hS (by omega) h9_26 rfl (m_Rd_readSequence_6 l hlt hn hT hRS18) kw_435 kw_437 sel_Rd_readSequence kw_6 kw_438 (by decide +kernel) ⟨rfl, rfl⟩ ⟨Nat.le_of_ble_eq_true rfl, Nat.le_of_ble_eq_true rfl⟩ rfl hl.1 (Nat.le_of_ble_eq_true rfl) d_Rd_readAlternatives_8 ⟨Nat.le_of_ble_eq_true rfl, Nat.le_of_ble_eq_true rfl⟩ (fun X ce q9 memx H locs hx9 hP hS g1 g2 g3 => f_out hlocks hno hP hS g1 g2 g3 ⟨Nat.le_of_ble_eq_true rfl, Nat.le_of_ble_eq_true rfl⟩ hx9) (fun r44 mem45 H locs hq hP hS => ?_)
  have hD : va_D (Az sz) (fw n ad mem45) := fw_D hD
  obtain ⟨kx46, rc47, ec48, hr950, hb51, hb52, hb53, hRS49⟩ := hq
  subst hr950
  have hbd54 := hRS49.1.1
  obtain ⟨at55, ft56, h9_57⟩ := hRS49.2.1
  have h1_58 : mem45 1 = .inr (0, [.ref (ad 2), .int (nI Z)]) := (hRS49.2.2 1 (by omega)).trans hT.1
  have h2_59 : mem45 2 = .inl (cy 0, 240, .inl f) := (hRS49.2.2 2 (by omega)).trans hT.2.2
  have h5_60 := hRS49.1.2.1
  have hbd66 := hRS49.1.1
  obtain ⟨S61, g62, hS_63, h220_64, h221_65⟩ := hRS49.1.2.2.2.2.2.2
  obtain ⟨k67, lo68, hi69, as70, pa71, ne72, he_73, ho_74⟩ := (hRS49.1.2.2.2.2.2.1 kx15 (by omega)).1
  obtain ⟨k75, lo76, hi77, as78, pa79, ne80, he_81, ho_82⟩ := (hRS49.1.2.2.2.2.2.1 kx46 (by omega)).1
  refine lv_astore_n (lv' := [(3, .ref (ad (20 + 2 * kx46))), (2, .ref (ad (20 + 2 * kx15))), (0, .ref (ad 222)), (1, .int (6))]) Bx.1 Bx.2.1 d_Rd_readAlternatives_11 rfl hl (by decide) rfl (fun ls hl => ?_)
  refine lv_aload_n Bx.1 Bx.2.1 d_Rd_readAlternatives_12 rfl (lv_at hl 1 rfl) ?_
  refine lv_aload_n Bx.1 Bx.2.1 d_Rd_readAlternatives_13 rfl (lv_at hl 0 rfl) ?_
  refine f_putN Bx hP hD hS (by omega) he_73 rfl inEl tyEl okEl nmEl 4 (by decide) kw_87 rfl rfl rfl rfl (Nat.le_of_ble_eq_true rfl) d_Rd_readAlternatives_14 (fun H locs hP hS => ?_)
  obtain ⟨mem83, e_mem83⟩ : ∃ z, z = va_up mem45 ((20 + 2 * kx15)) (.inr (2, [.int (k67), .int (lo68), .int (hi69), as70, .ref (ad (20 + 2 * kx46)), ne72, .ref (ad (21 + 2 * kx15))])) := ⟨_, rfl⟩
  have hP : va_P D vcl (fw n ad mem83) H := by rw [e_mem83]; exact hP
  have hD : va_D (Az sz) (fw n ad mem83) := fw_D hD
  have h_mem83 : mem83 ((20 + 2 * kx15)) = .inr (2, [.int (k67), .int (lo68), .int (hi69), as70, .ref (ad (20 + 2 * kx46)), ne72, .ref (ad (21 + 2 * kx15))]) := by rw [e_mem83, va_up_self]
  have hh84 := (va_up_ne mem45 (.inr (2, [.int (k67), .int (lo68), .int (hi69), as70, .ref (ad (20 + 2 * kx46)), ne72, .ref (ad (21 + 2 * kx15))])) (show (222 : Nat) ≠ (20 + 2 * kx15) by first | decide | assumption | omega)).trans h9_57
  rw [← e_mem83] at hh84
  have hh85 := (va_up_ne mem45 (.inr (2, [.int (k67), .int (lo68), .int (hi69), as70, .ref (ad (20 + 2 * kx46)), ne72, .ref (ad (21 + 2 * kx15))])) (show (1 : Nat) ≠ (20 + 2 * kx15) by first | decide | assumption | omega)).trans h1_58
  rw [← e_mem83] at hh85
  have hh86 := (va_up_ne mem45 (.inr (2, [.int (k67), .int (lo68), .int (hi69), as70, .ref (ad (20 + 2 * kx46)), ne72, .ref (ad (21 + 2 * kx15))])) (show (5 : Nat) ≠ (20 + 2 * kx15) by first | decide | assumption | omega)).trans h5_60
  rw [← e_mem83] at hh86
  have hh87 := (va_up_ne mem45 (.inr (2, [.int (k67), .int (lo68), .int (hi69), as70, .ref (ad (20 + 2 * kx46)), ne72, .ref (ad (21 + 2 * kx15))])) (show (220 : Nat) ≠ (20 + 2 * kx15) by first | decide | assumption | omega)).trans h220_64
  rw [← e_mem83] at hh87
  have hh88 := (va_up_ne mem45 (.inr (2, [.int (k67), .int (lo68), .int (hi69), as70, .ref (ad (20 + 2 * kx46)), ne72, .ref (ad (21 + 2 * kx15))])) (show ((20 + 2 * kx46) : Nat) ≠ (20 + 2 * kx15) by first | decide | assumption | omega)).trans he_81
  rw [← e_mem83] at hh88
  have hRS89 : RS cy ad lim rc47 ec48 m0 mem83 := by rw [e_mem83]; exact hRS49.mk (by omega) (hRS49.1.upEl (by omega) (fun q9 => ⟨(ho_74 q9).1, Or.inr ⟨kx46, by omega, by omega, rfl⟩, (ho_74 q9).2.2⟩))
  refine lv_iconst (v := 0) Bx.1 Bx.2.1 d_Rd_readAlternatives_17 (by decide) ?_
  refine lv_istore (lv' := [(4, .int (0)), (3, .ref (ad (20 + 2 * kx46))), (2, .ref (ad (20 + 2 * kx15))), (0, .ref (ad 222)), (1, .int (6))]) Bx.1 Bx.2.1 d_Rd_readAlternatives_18 hl (by decide) rfl (fun ls hl => ?_)
  have loop90 : ∀ (d : Nat) (mem : Nat → va_E) (rcl ecl : Nat) (ls : Array Slot) (H : Heap) (locs : List Loc) (la : Nat) (k9 : Int32), ((240 : Int32).toInt - (k9).toInt).toNat < d → RS cy ad lim rcl ecl m0 mem → kx15 < ecl ∧ la < ecl ∧ rc ≤ rcl → va_P D vcl (fw n ad mem) H → va_D (Az sz) (fw n ad mem) → va_S (Az sz) s.heap H locs → lv_has ls 5 [(4, .int (k9)), (3, .ref (ad (20 + 2 * la))), (2, .ref (ad (20 + 2 * kx15))), (0, .ref (ad 222)), (1, .int (6))] → W p l e (headSpec (Cond.code y_Rd_readAlternatives c_Rd_readAlternatives 5 (some (.object "AbnfChart$Element")) :: tg) ({ frames := 19, cells := 1, slots := 6, locals := 438 } : Room)).room s m [.ref (ad 222), .int (6)].toArray below meth c H locs 0 0 (vx_MQ below (QX (QR (fun r mem' => ∃ k rc' ec' : Nat, r = ad (20 + 2 * k) ∧ ec ≤ k ∧ k < ec' ∧ rc ≤ rc' ∧ RS cy ad lim rc' ec' m0 mem') (PP D n ad) (Az sz))) (XQ D sz n ad (fun X mem' => (X = cIA ∨ X = cIS) ∧ ∃ rc' ec' : Nat, RS cy ad lim rc' ec' m0 mem')) [.ref (ad 222), .int (6)].toArray s 1 6 (Az sz)) (F0 m 20 ls []) := by
    intro d
    induction d with
    | zero => intro mem rcl ecl ls H locs la k9 hmeas; exact absurd hmeas (Nat.not_lt_zero _)
    | succ d ih =>
      intro mem rcl ecl ls H locs la k9 hmeas hRS hx0 hP hD hS hl
      have hbd := hRS.1.1
      obtain ⟨at91, ft92, h9_93⟩ := hRS.2.1
      have h1_94 : mem 1 = .inr (0, [.ref (ad 2), .int (nI Z)]) := (hRS.2.2 1 (by omega)).trans hT.1
      have h2_95 : mem 2 = .inl (cy 0, 240, .inl f) := (hRS.2.2 2 (by omega)).trans hT.2.2
      have h5_96 := hRS.1.2.1
      have hbd102 := hRS.1.1
      obtain ⟨S97, g98, hS_99, h220_100, h221_101⟩ := hRS.1.2.2.2.2.2.2
      obtain ⟨k103, lo104, hi105, as106, pa107, ne108, he_109, ho_110⟩ := (hRS.1.2.2.2.2.2.1 la (by omega)).1
      refine lv_iload Bx.1 Bx.2.1 d_Rd_readAlternatives_20 (lv_at hl 0 rfl) ?_
      refine lv_sipush (v := 240) Bx.1 Bx.2.1 d_Rd_readAlternatives_22 (by decide) ?_
      refine lv_icmp_ge Bx.1 Bx.2.1 d_Rd_readAlternatives_25 rfl (fun hk => ?_) (fun hk => ?_)
      · refine lv_aload_n Bx.1 Bx.2.1 d_Rd_readAlternatives_72 rfl (lv_at hl 2 rfl) ?_
        exact x_aret hx hb hlocks hr (⟨kx15, rcl, ecl, rfl, by omega, by omega, by omega, hRS⟩) hP hS d_Rd_readAlternatives_73
      · refine lv_aload_n Bx.1 Bx.2.1 d_Rd_readAlternatives_28 rfl (lv_at hl 3 rfl) ?_
        refine f_callVi (na := 0) (As := []) (rest := []) Bx hml E hP hD hS (by omega) h9_93 rfl (m_Rd_peek l hn hT hRS) kw_353 kw_355 sel_Rd_peek kw_6 kw_356 (by decide +kernel) ⟨rfl, rfl⟩ ⟨Nat.le_of_ble_eq_true rfl, Nat.le_of_ble_eq_true rfl⟩ rfl hl.1 (Nat.le_of_ble_eq_true rfl) d_Rd_readAlternatives_29 ⟨Nat.le_of_ble_eq_true rfl, Nat.le_of_ble_eq_true rfl⟩ (fun r111 mem112 H locs hq hP hS => ?_)
        have hD : va_D (Az sz) (fw n ad mem112) := fw_D hD
        rw [hq] at hP hD
        refine lv_bipush (v := 47) Bx.1 Bx.2.1 d_Rd_readAlternatives_32 (by decide) ?_
        refine lv_icmp_ne Bx.1 Bx.2.1 d_Rd_readAlternatives_34 rfl (fun h8 => ?_) (fun h8 => ?_)
        · refine lv_aload_n Bx.1 Bx.2.1 d_Rd_readAlternatives_72 rfl (lv_at hl 2 rfl) ?_
          exact x_aret hx hb hlocks hr (⟨kx15, rcl, ecl, rfl, by omega, by omega, by omega, hRS⟩) hP hS d_Rd_readAlternatives_73
        · refine lv_aload_n Bx.1 Bx.2.1 d_Rd_readAlternatives_37 rfl (lv_at hl 3 rfl) ?_
          refine lv_dup Bx.1 Bx.2.1 d_Rd_readAlternatives_38 rfl ?_
          refine f_get Bx hP (by omega) h9_93 rfl inRd 2 (by decide) kw_146 rfl rfl d_Rd_readAlternatives_39 ?_
          refine lv_iconst (v := 1) Bx.1 Bx.2.1 d_Rd_readAlternatives_42 (by decide) ?_
          refine lv_iadd Bx.1 Bx.2.1 d_Rd_readAlternatives_43 ?_
          refine f_put Bx hP hD hS (by omega) h9_93 rfl inRd tyRd okRd nmRd 2 (by decide) kw_146 rfl rfl rfl rfl (Nat.le_of_ble_eq_true rfl) d_Rd_readAlternatives_44 (fun H locs hP hS => ?_)
          obtain ⟨mem113, e_mem113⟩ : ∃ z, z = va_up mem (222) (.inr (4, [.ref (ad 1), .ref (ad 5), .int (at91 + 1), .int (ft92)])) := ⟨_, rfl⟩
          have hP : va_P D vcl (fw n ad mem113) H := by rw [e_mem113]; exact hP
          have hD : va_D (Az sz) (fw n ad mem113) := fw_D hD
          have h_mem113 : mem113 (222) = .inr (4, [.ref (ad 1), .ref (ad 5), .int (at91 + 1), .int (ft92)]) := by rw [e_mem113, va_up_self]
          have hh114 := (va_up_ne mem (.inr (4, [.ref (ad 1), .ref (ad 5), .int (at91 + 1), .int (ft92)])) (show (1 : Nat) ≠ 222 by first | decide | assumption | omega)).trans h1_94
          rw [← e_mem113] at hh114
          have hh115 := (va_up_ne mem (.inr (4, [.ref (ad 1), .ref (ad 5), .int (at91 + 1), .int (ft92)])) (show (5 : Nat) ≠ 222 by first | decide | assumption | omega)).trans h5_96
          rw [← e_mem113] at hh115
          have hh116 := (va_up_ne mem (.inr (4, [.ref (ad 1), .ref (ad 5), .int (at91 + 1), .int (ft92)])) (show (220 : Nat) ≠ 222 by first | decide | assumption | omega)).trans h220_100
          rw [← e_mem113] at hh116
          have hh117 := (va_up_ne mem (.inr (4, [.ref (ad 1), .ref (ad 5), .int (at91 + 1), .int (ft92)])) (show ((20 + 2 * la) : Nat) ≠ 222 by first | decide | assumption | omega)).trans he_109
          rw [← e_mem113] at hh117
          have hRS118 : RS cy ad lim rcl ecl m0 mem113 := by rw [e_mem113]; exact hRS.at222
          refine lv_aload_n Bx.1 Bx.2.1 d_Rd_readAlternatives_47 rfl (lv_at hl 3 rfl) ?_
          refine f_callVi (na := 0) (As := []) (rest := []) Bx hml E hP hD hS (by omega) h_mem113 rfl (m_Rd_readGap l hn hT hRS118) kw_397 kw_399 sel_Rd_readGap kw_6 kw_400 (by decide +kernel) ⟨rfl, rfl⟩ ⟨Nat.le_of_ble_eq_true rfl, Nat.le_of_ble_eq_true rfl⟩ rfl hl.1 (Nat.le_of_ble_eq_true rfl) d_Rd_readAlternatives_48 ⟨Nat.le_of_ble_eq_true rfl, Nat.le_of_ble_eq_true rfl⟩ (fun r120 mem121 H locs hRS119 hP hS => ?_)
          have hD : va_D (Az sz) (fw n ad mem121) := fw_D hD
          obtain ⟨at122, ft123, h9_124⟩ := hRS119.2.1
          have h1_125 : mem121 1 = .inr (0, [.ref (ad 2), .int (nI Z)]) := (hRS119.2.2 1 (by omega)).trans hT.1
          have h2_126 : mem121 2 = .inl (cy 0, 240, .inl f) := (hRS119.2.2 2 (by omega)).trans hT.2.2
          have h5_127 := hRS119.1.2.1
          have hbd133 := hRS119.1.1
          obtain ⟨S128, g129, hS_130, h220_131, h221_132⟩ := hRS119.1.2.2.2.2.2.2
          obtain ⟨k134, lo135, hi136, as137, pa138, ne139, he_140, ho_141⟩ := (hRS119.1.2.2.2.2.2.1 la (by omega)).1
          refine lv_pop Bx.1 Bx.2.1 d_Rd_readAlternatives_51 rfl ?_
          refine lv_aload_n Bx.1 Bx.2.1 d_Rd_readAlternatives_52 rfl (lv_at hl 1 rfl) ?_
          refine lv_aload_n Bx.1 Bx.2.1 d_Rd_readAlternatives_53 rfl (lv_at hl 3 rfl) ?_
          refine lv_iload_n Bx.1 Bx.2.1 d_Rd_readAlternatives_54 rfl (lv_at hl 4 rfl) ?_
          refine f_xVr (na := 1) (As := [.int (6)]) (rest := [.ref (ad (20 + 2 * la))]) Bx hml E hP hD hS (by omega) h9_124 rfl (m_Rd_readSequence_6 l hlt hn hT hRS119) kw_435 kw_437 sel_Rd_readSequence kw_6 kw_438 (by decide +kernel) ⟨rfl, rfl⟩ ⟨Nat.le_of_ble_eq_true rfl, Nat.le_of_ble_eq_true rfl⟩ rfl hl.1 (Nat.le_of_ble_eq_true rfl) d_Rd_readAlternatives_55 ⟨Nat.le_of_ble_eq_true rfl, Nat.le_of_ble_eq_true rfl⟩ (fun X ce q9 memx H locs hx9 hP hS g1 g2 g3 => f_out hlocks hno hP hS g1 g2 g3 ⟨Nat.le_of_ble_eq_true rfl, Nat.le_of_ble_eq_true rfl⟩ hx9) (fun r142 mem143 H locs hq hP hS => ?_)
          have hD : va_D (Az sz) (fw n ad mem143) := fw_D hD
          obtain ⟨kx144, rc145, ec146, hr9148, hb149, hb150, hb151, hRS147⟩ := hq
          subst hr9148
          have hbd152 := hRS147.1.1
          obtain ⟨at153, ft154, h9_155⟩ := hRS147.2.1
          have h1_156 : mem143 1 = .inr (0, [.ref (ad 2), .int (nI Z)]) := (hRS147.2.2 1 (by omega)).trans hT.1
          have h2_157 : mem143 2 = .inl (cy 0, 240, .inl f) := (hRS147.2.2 2 (by omega)).trans hT.2.2
          have h5_158 := hRS147.1.2.1
          have hbd164 := hRS147.1.1
          obtain ⟨S159, g160, hS_161, h220_162, h221_163⟩ := hRS147.1.2.2.2.2.2.2
          obtain ⟨k165, lo166, hi167, as168, pa169, ne170, he_171, ho_172⟩ := (hRS147.1.2.2.2.2.2.1 la (by omega)).1
          obtain ⟨k173, lo174, hi175, as176, pa177, ne178, he_179, ho_180⟩ := (hRS147.1.2.2.2.2.2.1 kx144 (by omega)).1
          refine f_putN Bx hP hD hS (by omega) he_171 rfl inEl tyEl okEl nmEl 5 (by decide) kw_91 rfl rfl rfl rfl (Nat.le_of_ble_eq_true rfl) d_Rd_readAlternatives_58 (fun H locs hP hS => ?_)
          obtain ⟨mem181, e_mem181⟩ : ∃ z, z = va_up mem143 ((20 + 2 * la)) (.inr (2, [.int (k165), .int (lo166), .int (hi167), as168, pa169, .ref (ad (20 + 2 * kx144)), .ref (ad (21 + 2 * la))])) := ⟨_, rfl⟩
          have hP : va_P D vcl (fw n ad mem181) H := by rw [e_mem181]; exact hP
          have hD : va_D (Az sz) (fw n ad mem181) := fw_D hD
          have h_mem181 : mem181 ((20 + 2 * la)) = .inr (2, [.int (k165), .int (lo166), .int (hi167), as168, pa169, .ref (ad (20 + 2 * kx144)), .ref (ad (21 + 2 * la))]) := by rw [e_mem181, va_up_self]
          have hh182 := (va_up_ne mem143 (.inr (2, [.int (k165), .int (lo166), .int (hi167), as168, pa169, .ref (ad (20 + 2 * kx144)), .ref (ad (21 + 2 * la))])) (show (222 : Nat) ≠ (20 + 2 * la) by first | decide | assumption | omega)).trans h9_155
          rw [← e_mem181] at hh182
          have hh183 := (va_up_ne mem143 (.inr (2, [.int (k165), .int (lo166), .int (hi167), as168, pa169, .ref (ad (20 + 2 * kx144)), .ref (ad (21 + 2 * la))])) (show (1 : Nat) ≠ (20 + 2 * la) by first | decide | assumption | omega)).trans h1_156
          rw [← e_mem181] at hh183
          have hh184 := (va_up_ne mem143 (.inr (2, [.int (k165), .int (lo166), .int (hi167), as168, pa169, .ref (ad (20 + 2 * kx144)), .ref (ad (21 + 2 * la))])) (show (5 : Nat) ≠ (20 + 2 * la) by first | decide | assumption | omega)).trans h5_158
          rw [← e_mem181] at hh184
          have hh185 := (va_up_ne mem143 (.inr (2, [.int (k165), .int (lo166), .int (hi167), as168, pa169, .ref (ad (20 + 2 * kx144)), .ref (ad (21 + 2 * la))])) (show (220 : Nat) ≠ (20 + 2 * la) by first | decide | assumption | omega)).trans h220_162
          rw [← e_mem181] at hh185
          have hh186 := (va_up_ne mem143 (.inr (2, [.int (k165), .int (lo166), .int (hi167), as168, pa169, .ref (ad (20 + 2 * kx144)), .ref (ad (21 + 2 * la))])) (show ((20 + 2 * kx144) : Nat) ≠ (20 + 2 * la) by first | decide | assumption | omega)).trans he_179
          rw [← e_mem181] at hh186
          have hRS187 : RS cy ad lim rc145 ec146 m0 mem181 := by rw [e_mem181]; exact hRS147.mk (by omega) (hRS147.1.upEl (by omega) (fun q9 => ⟨(ho_172 q9).1, (ho_172 q9).2.1, Or.inr ⟨kx144, by omega, by omega, rfl⟩⟩))
          refine lv_aload_n Bx.1 Bx.2.1 d_Rd_readAlternatives_61 rfl (lv_at hl 1 rfl) ?_
          refine f_getN Bx hP (by omega) h_mem181 rfl inEl 5 (by decide) kw_91 rfl rfl d_Rd_readAlternatives_62 ?_
          refine lv_astore_n (lv' := [(3, .ref (ad (20 + 2 * kx144))), (4, .int (k9)), (2, .ref (ad (20 + 2 * kx15))), (0, .ref (ad 222)), (1, .int (6))]) Bx.1 Bx.2.1 d_Rd_readAlternatives_65 rfl hl (by decide) rfl (fun ls hl => ?_)
          refine lv_iinc (lv' := [(4, .int ((k9 + (1)))), (3, .ref (ad (20 + 2 * kx144))), (2, .ref (ad (20 + 2 * kx15))), (0, .ref (ad 222)), (1, .int (6))]) Bx.1 Bx.2.1 d_Rd_readAlternatives_66 hl (k := 1) rfl rfl (by decide) rfl (fun ls hl => ?_)
          refine lv_goto Bx.1 Bx.2.1 d_Rd_readAlternatives_69 rfl ?_
          exact ih _ _ _ _ _ _ _ _ (by have := inc_meas hk; omega) hRS187 ⟨by omega, by omega, by omega⟩ hP hD hS (lv_sub hl [0, 1, 2, 3, 4] rfl)
  exact loop90 _ _ _ _ _ _ _ _ _ (Nat.lt_succ_self _) hRS89 ⟨by omega, by omega, by omega⟩ hP hD hS (lv_sub hl [0, 1, 2, 3, 4] rfl)
set_option maxHeartbeats 4000000 in
set_option maxRecDepth 100000 in
theorem m_Rd_readBracket_5 (l : Launch) {D : va_G} {cy : Nat → ClassId} {sz n : Nat} {ad : Nat → Nat} {mem : Nat → va_E} {Z : Nat} {f : Nat → Int32} {lim rc ec : Nat} {m0 : Nat → va_E} {en : Int32} (hlt : l.stackTraces = false) (hn : 224 ≤ n) (hT : TX cy ad Z f m0) (hRS : RS cy ad lim rc ec m0 mem) : NXr l D cy sz n ad y_Rd_readBracket c_Rd_readBracket 4 (some (.object "AbnfChart$Element")) ({ frames := 20, cells := 1, slots := 6, locals := 470 } : Room) mem [.ref (ad 222), .int (5), .int (en)] (fun r mem' => ∃ k rc' ec' : Nat, r = ad (20 + 2 * k) ∧ ec ≤ k ∧ k < ec' ∧ rc ≤ rc' ∧ RS cy ad lim rc' ec' m0 mem') (fun X mem' => (X = cIA ∨ X = cIS) ∧ ∃ rc' ec' : Nat, RS cy ad lim rc' ec' m0 mem') := by
  refine vx_ofW (cc := c_Rd_readBracket) (maxL := 4) (ret := (some (.object "AbnfChart$Element"))) (by decide) rfl ?_
  intro p e s m args below meth c s₁ B hml hno hv
  obtain ⟨rfl, E, hP, hD⟩ := hv
  have hx := B.exec
  have hb := B.bytes
  have hr := B.returns
  have hlocks := B.notSynchronized
  have Bx : MB p s m [.ref (ad 222), .int (5), .int (en)].toArray c c_Rd_readBracket "AbnfChart$Reader" D cy := ⟨hx, hb, tb_all (atoms_spec B.pre) E.2.1, findClass_of_methodNamed B.named, E.1⟩
  have hS : va_S (Az sz) s.heap s.heap [] := va_S.rf
  have hl := lv_entry ([.ref (ad 222), .int (5), .int (en)]) (n := 4) (Nat.le_of_ble_eq_true rfl)
  rw [lg_entry_eq]
  generalize (lg_sl ([.ref (ad 222), .int (5), .int (en)]) ++ List.replicate (4 - (lg_sl ([.ref (ad 222), .int (5), .int (en)])).length) Slot.unset).toArray = ls at hl ⊢
  have hl : lv_has ls 4 [(0, .ref (ad 222)), (1, .int (5)), (2, .int (en))] := hl
  obtain ⟨at1, ft2, h9_3⟩ := hRS.2.1
  have h1_4 : mem 1 = .inr (0, [.ref (ad 2), .int (nI Z)]) := (hRS.2.2 1 (by omega)).trans hT.1
  have h2_5 : mem 2 = .inl (cy 0, 240, .inl f) := (hRS.2.2 2 (by omega)).trans hT.2.2
  have h5_6 := hRS.1.2.1
  have hbd12 := hRS.1.1
  obtain ⟨S7, g8, hS_9, h220_10, h221_11⟩ := hRS.1.2.2.2.2.2.2
  refine lv_aload_n Bx.1 Bx.2.1 d_Rd_readBracket_0 rfl (lv_at hl 0 rfl) ?_
  refine lv_iload_n Bx.1 Bx.2.1 d_Rd_readBracket_1 rfl (lv_at hl 1 rfl) ?_
  refine lv_bipush (v := 6) Bx.1 Bx.2.1 d_Rd_readBracket_2 (by decide) ?_
  refine lv_icmp_ge Bx.1 Bx.2.1 d_Rd_readBracket_4 rfl (fun h8 => ?_) (fun h8 => ?_)
  · exact absurd h8 (by decide)
  · refine lv_iconst (v := 1) Bx.1 Bx.2.1 d_Rd_readBracket_7 (by decide) ?_
    refine lv_goto Bx.1 Bx.2.1 d_Rd_readBracket_8 rfl ?_
    refine lv_aload_n Bx.1 Bx.2.1 d_Rd_readBracket_12 rfl (lv_at hl 0 rfl) ?_
    refine f_get Bx hP (by omega) h9_3 rfl inRd 2 (by decide) kw_146 rfl rfl d_Rd_readBracket_13 ?_
    refine f_xVv (na := 2) (As := [.int (1), .int (at1)]) (rest := []) Bx hml E hP hD hS (by omega) h9_3 rfl (m_Rd_needRoom l hlt hn hT hRS) kw_383 kw_385 sel_Rd_needRoom kw_6 kw_386 (by decide +kernel) ⟨rfl, rfl⟩ ⟨Nat.le_of_ble_eq_true rfl, Nat.le_of_ble_eq_true rfl⟩ rfl hl.1 (Nat.le_of_ble_eq_true rfl) d_Rd_readBracket_16 ⟨Nat.le_of_ble_eq_true rfl, Nat.le_of_ble_eq_true rfl⟩ (fun X ce q9 memx H locs hx9 hP hS g1 g2 g3 => f_out hlocks hno hP hS g1 g2 g3 ⟨Nat.le_of_ble_eq_true rfl, Nat.le_of_ble_eq_true rfl⟩ hx9) (fun mem14 H locs hq hP hS => ?_)
    have hD : va_D (Az sz) (fw n ad mem14) := fw_D hD
    obtain ⟨hRS15, -, hg16⟩ := hq
    obtain ⟨at17, ft18, h9_19⟩ := hRS15.2.1
    have h1_20 : mem14 1 = .inr (0, [.ref (ad 2), .int (nI Z)]) := (hRS15.2.2 1 (by omega)).trans hT.1
    have h2_21 : mem14 2 = .inl (cy 0, 240, .inl f) := (hRS15.2.2 2 (by omega)).trans hT.2.2
    have h5_22 := hRS15.1.2.1
    have hbd28 := hRS15.1.1
    obtain ⟨S23, g24, hS_25, h220_26, h221_27⟩ := hRS15.1.2.2.2.2.2.2
    refine lv_aload_n Bx.1 Bx.2.1 d_Rd_readBracket_19 rfl (lv_at hl 0 rfl) ?_
    refine lv_dup Bx.1 Bx.2.1 d_Rd_readBracket_20 rfl ?_
    refine f_get Bx hP (by omega) h9_19 rfl inRd 2 (by decide) kw_146 rfl rfl d_Rd_readBracket_21 ?_
    refine lv_iconst (v := 1) Bx.1 Bx.2.1 d_Rd_readBracket_24 (by decide) ?_
    refine lv_iadd Bx.1 Bx.2.1 d_Rd_readBracket_25 ?_
    refine f_put Bx hP hD hS (by omega) h9_19 rfl inRd tyRd okRd nmRd 2 (by decide) kw_146 rfl rfl rfl rfl (Nat.le_of_ble_eq_true rfl) d_Rd_readBracket_26 (fun H locs hP hS => ?_)
    obtain ⟨mem29, e_mem29⟩ : ∃ z, z = va_up mem14 (222) (.inr (4, [.ref (ad 1), .ref (ad 5), .int (at17 + 1), .int (ft18)])) := ⟨_, rfl⟩
    have hP : va_P D vcl (fw n ad mem29) H := by rw [e_mem29]; exact hP
    have hD : va_D (Az sz) (fw n ad mem29) := fw_D hD
    have h_mem29 : mem29 (222) = .inr (4, [.ref (ad 1), .ref (ad 5), .int (at17 + 1), .int (ft18)]) := by rw [e_mem29, va_up_self]
    have hh30 := (va_up_ne mem14 (.inr (4, [.ref (ad 1), .ref (ad 5), .int (at17 + 1), .int (ft18)])) (show (1 : Nat) ≠ 222 by first | decide | assumption | omega)).trans h1_20
    rw [← e_mem29] at hh30
    have hh31 := (va_up_ne mem14 (.inr (4, [.ref (ad 1), .ref (ad 5), .int (at17 + 1), .int (ft18)])) (show (5 : Nat) ≠ 222 by first | decide | assumption | omega)).trans h5_22
    rw [← e_mem29] at hh31
    have hh32 := (va_up_ne mem14 (.inr (4, [.ref (ad 1), .ref (ad 5), .int (at17 + 1), .int (ft18)])) (show (220 : Nat) ≠ 222 by first | decide | assumption | omega)).trans h220_26
    rw [← e_mem29] at hh32
    have hRS33 : RS cy ad lim rc ec m0 mem29 := by rw [e_mem29]; exact hRS15.at222
    refine lv_aload_n Bx.1 Bx.2.1 d_Rd_readBracket_29 rfl (lv_at hl 0 rfl) ?_
    refine f_callVi (na := 0) (As := []) (rest := []) Bx hml E hP hD hS (by omega) h_mem29 rfl (m_Rd_readGap l hn hT hRS33) kw_397 kw_399 sel_Rd_readGap kw_6 kw_400 (by decide +kernel) ⟨rfl, rfl⟩ ⟨Nat.le_of_ble_eq_true rfl, Nat.le_of_ble_eq_true rfl⟩ rfl hl.1 (Nat.le_of_ble_eq_true rfl) d_Rd_readBracket_30 ⟨Nat.le_of_ble_eq_true rfl, Nat.le_of_ble_eq_true rfl⟩ (fun r35 mem36 H locs hRS34 hP hS => ?_)
    have hD : va_D (Az sz) (fw n ad mem36) := fw_D hD
    obtain ⟨at37, ft38, h9_39⟩ := hRS34.2.1
    have h1_40 : mem36 1 = .inr (0, [.ref (ad 2), .int (nI Z)]) := (hRS34.2.2 1 (by omega)).trans hT.1
    have h2_41 : mem36 2 = .inl (cy 0, 240, .inl f) := (hRS34.2.2 2 (by omega)).trans hT.2.2
    have h5_42 := hRS34.1.2.1
    have hbd48 := hRS34.1.1
    obtain ⟨S43, g44, hS_45, h220_46, h221_47⟩ := hRS34.1.2.2.2.2.2.2
    refine lv_pop Bx.1 Bx.2.1 d_Rd_readBracket_33 rfl ?_
    refine lv_aload_n Bx.1 Bx.2.1 d_Rd_readBracket_34 rfl (lv_at hl 0 rfl) ?_
    refine lv_iload_n Bx.1 Bx.2.1 d_Rd_readBracket_35 rfl (lv_at hl 1 rfl) ?_
    refine lv_iconst (v := 1) Bx.1 Bx.2.1 d_Rd_readBracket_36 (by decide) ?_
    refine lv_iadd Bx.1 Bx.2.1 d_Rd_readBracket_37 ?_
    rw [show (5 + 1 : Int32) = 6 from rfl]
    refine f_xVr (na := 1) (As := [.int (6)]) (rest := []) Bx hml E hP hD hS (by omega) h9_39 rfl (m_Rd_readAlternatives_6 l hlt hn hT hRS34) kw_405 kw_407 sel_Rd_readAlternatives kw_6 kw_408 (by decide +kernel) ⟨rfl, rfl⟩ ⟨Nat.le_of_ble_eq_true rfl, Nat.le_of_ble_eq_true rfl⟩ rfl hl.1 (Nat.le_of_ble_eq_true rfl) d_Rd_readBracket_38 ⟨Nat.le_of_ble_eq_true rfl, Nat.le_of_ble_eq_true rfl⟩ (fun X ce q9 memx H locs hx9 hP hS g1 g2 g3 => f_out hlocks hno hP hS g1 g2 g3 ⟨Nat.le_of_ble_eq_true rfl, Nat.le_of_ble_eq_true rfl⟩ hx9) (fun r49 mem50 H locs hq hP hS => ?_)
    have hD : va_D (Az sz) (fw n ad mem50) := fw_D hD
    obtain ⟨kx51, rc52, ec53, hr955, hb56, hb57, hb58, hRS54⟩ := hq
    subst hr955
    have hbd59 := hRS54.1.1
    obtain ⟨at60, ft61, h9_62⟩ := hRS54.2.1
    have h1_63 : mem50 1 = .inr (0, [.ref (ad 2), .int (nI Z)]) := (hRS54.2.2 1 (by omega)).trans hT.1
    have h2_64 : mem50 2 = .inl (cy 0, 240, .inl f) := (hRS54.2.2 2 (by omega)).trans hT.2.2
    have h5_65 := hRS54.1.2.1
    have hbd71 := hRS54.1.1
    obtain ⟨S66, g67, hS_68, h220_69, h221_70⟩ := hRS54.1.2.2.2.2.2.2
    obtain ⟨k72, lo73, hi74, as75, pa76, ne77, he_78, ho_79⟩ := (hRS54.1.2.2.2.2.2.1 kx51 (by omega)).1
    refine lv_astore_n (lv' := [(3, .ref (ad (20 + 2 * kx51))), (0, .ref (ad 222)), (1, .int (5)), (2, .int (en))]) Bx.1 Bx.2.1 d_Rd_readBracket_41 rfl hl (by decide) rfl (fun ls hl => ?_)
    refine lv_aload_n Bx.1 Bx.2.1 d_Rd_readBracket_42 rfl (lv_at hl 1 rfl) ?_
    refine lv_aload_n Bx.1 Bx.2.1 d_Rd_readBracket_43 rfl (lv_at hl 1 rfl) ?_
    refine f_callVi (na := 0) (As := []) (rest := [.ref (ad 222)]) Bx hml E hP hD hS (by omega) h9_62 rfl (m_Rd_peek l hn hT hRS54) kw_353 kw_355 sel_Rd_peek kw_6 kw_356 (by decide +kernel) ⟨rfl, rfl⟩ ⟨Nat.le_of_ble_eq_true rfl, Nat.le_of_ble_eq_true rfl⟩ rfl hl.1 (Nat.le_of_ble_eq_true rfl) d_Rd_readBracket_44 ⟨Nat.le_of_ble_eq_true rfl, Nat.le_of_ble_eq_true rfl⟩ (fun r80 mem81 H locs hq hP hS => ?_)
    have hD : va_D (Az sz) (fw n ad mem81) := fw_D hD
    rw [hq] at hP hD
    refine lv_iload_n Bx.1 Bx.2.1 d_Rd_readBracket_47 rfl (lv_at hl 3 rfl) ?_
    have J83 : ∀ (jv82 : Int32) (H : Heap) (locs : List Loc), va_P D vcl (fw n ad mem50) H → va_D (Az sz) (fw n ad mem50) → va_S (Az sz) s.heap H locs → W p l e (headSpec (Cond.code y_Rd_readBracket c_Rd_readBracket 4 (some (.object "AbnfChart$Element")) :: tg) ({ frames := 20, cells := 1, slots := 6, locals := 470 } : Room)).room s m [.ref (ad 222), .int (5), .int (en)].toArray below meth c H locs 0 0 (vx_MQ below (QX (QR (fun r mem' => ∃ k rc' ec' : Nat, r = ad (20 + 2 * k) ∧ ec ≤ k ∧ k < ec' ∧ rc ≤ rc' ∧ RS cy ad lim rc' ec' m0 mem') (PP D n ad) (Az sz))) (XQ D sz n ad (fun X mem' => (X = cIA ∨ X = cIS) ∧ ∃ rc' ec' : Nat, RS cy ad lim rc' ec' m0 mem')) [.ref (ad 222), .int (5), .int (en)].toArray s 1 6 (Az sz)) (F0 m 56 ls [.int (jv82), .ref (ad 222)]) := by
      intro jv82 H locs hP hD hS
      refine lv_aload_n Bx.1 Bx.2.1 d_Rd_readBracket_56 rfl (lv_at hl 1 rfl) ?_
      refine f_get Bx hP (by omega) h9_62 rfl inRd 2 (by decide) kw_146 rfl rfl d_Rd_readBracket_57 ?_
      refine f_xVv (na := 2) (As := [.int (jv82), .int (at60)]) (rest := []) Bx hml E hP hD hS (by omega) h9_62 rfl (m_Rd_needReadable l hlt hn hT hRS54) kw_360 kw_362 sel_Rd_needReadable kw_6 kw_363 (by decide +kernel) ⟨rfl, rfl⟩ ⟨Nat.le_of_ble_eq_true rfl, Nat.le_of_ble_eq_true rfl⟩ rfl hl.1 (Nat.le_of_ble_eq_true rfl) d_Rd_readBracket_60 ⟨Nat.le_of_ble_eq_true rfl, Nat.le_of_ble_eq_true rfl⟩ (fun X ce q9 memx H locs hx9 hP hS g1 g2 g3 => f_out hlocks hno hP hS g1 g2 g3 ⟨Nat.le_of_ble_eq_true rfl, Nat.le_of_ble_eq_true rfl⟩ hx9) (fun mem85 H locs hq hP hS => ?_)
      have hD : va_D (Az sz) (fw n ad mem85) := fw_D hD
      obtain ⟨hRS86, -, hg87⟩ := hq
      obtain ⟨at88, ft89, h9_90⟩ := hRS86.2.1
      have h1_91 : mem85 1 = .inr (0, [.ref (ad 2), .int (nI Z)]) := (hRS86.2.2 1 (by omega)).trans hT.1
      have h2_92 : mem85 2 = .inl (cy 0, 240, .inl f) := (hRS86.2.2 2 (by omega)).trans hT.2.2
      have h5_93 := hRS86.1.2.1
      have hbd99 := hRS86.1.1
      obtain ⟨S94, g95, hS_96, h220_97, h221_98⟩ := hRS86.1.2.2.2.2.2.2
      obtain ⟨k100, lo101, hi102, as103, pa104, ne105, he_106, ho_107⟩ := (hRS86.1.2.2.2.2.2.1 kx51 (by omega)).1
      refine lv_aload_n Bx.1 Bx.2.1 d_Rd_readBracket_63 rfl (lv_at hl 1 rfl) ?_
      refine lv_dup Bx.1 Bx.2.1 d_Rd_readBracket_64 rfl ?_
      refine f_get Bx hP (by omega) h9_90 rfl inRd 2 (by decide) kw_146 rfl rfl d_Rd_readBracket_65 ?_
      refine lv_iconst (v := 1) Bx.1 Bx.2.1 d_Rd_readBracket_68 (by decide) ?_
      refine lv_iadd Bx.1 Bx.2.1 d_Rd_readBracket_69 ?_
      refine f_put Bx hP hD hS (by omega) h9_90 rfl inRd tyRd okRd nmRd 2 (by decide) kw_146 rfl rfl rfl rfl (Nat.le_of_ble_eq_true rfl) d_Rd_readBracket_70 (fun H locs hP hS => ?_)
      obtain ⟨mem108, e_mem108⟩ : ∃ z, z = va_up mem85 (222) (.inr (4, [.ref (ad 1), .ref (ad 5), .int (at88 + 1), .int (ft89)])) := ⟨_, rfl⟩
      have hP : va_P D vcl (fw n ad mem108) H := by rw [e_mem108]; exact hP
      have hD : va_D (Az sz) (fw n ad mem108) := fw_D hD
      have h_mem108 : mem108 (222) = .inr (4, [.ref (ad 1), .ref (ad 5), .int (at88 + 1), .int (ft89)]) := by rw [e_mem108, va_up_self]
      have hh109 := (va_up_ne mem85 (.inr (4, [.ref (ad 1), .ref (ad 5), .int (at88 + 1), .int (ft89)])) (show (1 : Nat) ≠ 222 by first | decide | assumption | omega)).trans h1_91
      rw [← e_mem108] at hh109
      have hh110 := (va_up_ne mem85 (.inr (4, [.ref (ad 1), .ref (ad 5), .int (at88 + 1), .int (ft89)])) (show (5 : Nat) ≠ 222 by first | decide | assumption | omega)).trans h5_93
      rw [← e_mem108] at hh110
      have hh111 := (va_up_ne mem85 (.inr (4, [.ref (ad 1), .ref (ad 5), .int (at88 + 1), .int (ft89)])) (show (220 : Nat) ≠ 222 by first | decide | assumption | omega)).trans h220_97
      rw [← e_mem108] at hh111
      have hh112 := (va_up_ne mem85 (.inr (4, [.ref (ad 1), .ref (ad 5), .int (at88 + 1), .int (ft89)])) (show ((20 + 2 * kx51) : Nat) ≠ 222 by first | decide | assumption | omega)).trans he_106
      rw [← e_mem108] at hh112
      have hRS113 : RS cy ad lim rc52 ec53 m0 mem108 := by rw [e_mem108]; exact hRS86.at222
      refine lv_aload_n Bx.1 Bx.2.1 d_Rd_readBracket_73 rfl (lv_at hl 0 rfl) ?_
      exact x_aret hx hb hlocks hr (⟨kx51, rc52, ec53, rfl, by omega, by omega, by omega, hRS113⟩) hP hS d_Rd_readBracket_74
    refine lv_icmp_ne Bx.1 Bx.2.1 d_Rd_readBracket_48 rfl (fun h8 => ?_) (fun h8 => ?_)
    · refine lv_iconst (v := 0) Bx.1 Bx.2.1 d_Rd_readBracket_55 (by decide) ?_
      exact J83 _ _ _ hP hD hS
    · refine lv_iconst (v := 1) Bx.1 Bx.2.1 d_Rd_readBracket_51 (by decide) ?_
      refine lv_goto Bx.1 Bx.2.1 d_Rd_readBracket_52 rfl ?_
      exact J83 _ _ _ hP hD hS
set_option maxHeartbeats 4000000 in
set_option maxRecDepth 100000 in
theorem m_Rd_readOption_5 (l : Launch) {D : va_G} {cy : Nat → ClassId} {sz n : Nat} {ad : Nat → Nat} {mem : Nat → va_E} {Z : Nat} {f : Nat → Int32} {lim rc ec : Nat} {m0 : Nat → va_E} (hlt : l.stackTraces = false) (hn : 224 ≤ n) (hT : TX cy ad Z f m0) (hRS : RS cy ad lim rc ec m0 mem) : NXr l D cy sz n ad y_Rd_readOption c_Rd_readOption 3 (some (.object "AbnfChart$Element")) ({ frames := 21, cells := 1, slots := 6, locals := 493 } : Room) mem [.ref (ad 222), .int (5)] (fun r mem' => ∃ k rc' ec' : Nat, r = ad (20 + 2 * k) ∧ ec ≤ k ∧ k < ec' ∧ rc ≤ rc' ∧ RS cy ad lim rc' ec' m0 mem') (fun X mem' => (X = cIA ∨ X = cIS) ∧ ∃ rc' ec' : Nat, RS cy ad lim rc' ec' m0 mem') := by
  refine vx_ofW (cc := c_Rd_readOption) (maxL := 3) (ret := (some (.object "AbnfChart$Element"))) (by decide) rfl ?_
  intro p e s m args below meth c s₁ B hml hno hv
  obtain ⟨rfl, E, hP, hD⟩ := hv
  have hx := B.exec
  have hb := B.bytes
  have hr := B.returns
  have hlocks := B.notSynchronized
  have Bx : MB p s m [.ref (ad 222), .int (5)].toArray c c_Rd_readOption "AbnfChart$Reader" D cy := ⟨hx, hb, tb_all (atoms_spec B.pre) E.2.1, findClass_of_methodNamed B.named, E.1⟩
  have hS : va_S (Az sz) s.heap s.heap [] := va_S.rf
  have hl := lv_entry ([.ref (ad 222), .int (5)]) (n := 3) (Nat.le_of_ble_eq_true rfl)
  rw [lg_entry_eq]
  generalize (lg_sl ([.ref (ad 222), .int (5)]) ++ List.replicate (3 - (lg_sl ([.ref (ad 222), .int (5)])).length) Slot.unset).toArray = ls at hl ⊢
  have hl : lv_has ls 3 [(0, .ref (ad 222)), (1, .int (5))] := hl
  obtain ⟨at1, ft2, h9_3⟩ := hRS.2.1
  have h1_4 : mem 1 = .inr (0, [.ref (ad 2), .int (nI Z)]) := (hRS.2.2 1 (by omega)).trans hT.1
  have h2_5 : mem 2 = .inl (cy 0, 240, .inl f) := (hRS.2.2 2 (by omega)).trans hT.2.2
  have h5_6 := hRS.1.2.1
  have hbd12 := hRS.1.1
  obtain ⟨S7, g8, hS_9, h220_10, h221_11⟩ := hRS.1.2.2.2.2.2.2
  refine lv_aload_n Bx.1 Bx.2.1 d_Rd_readOption_0 rfl (lv_at hl 0 rfl) ?_
  refine lv_iconst (v := 3) Bx.1 Bx.2.1 d_Rd_readOption_1 (by decide) ?_
  refine lv_aload_n Bx.1 Bx.2.1 d_Rd_readOption_2 rfl (lv_at hl 0 rfl) ?_
  refine f_get Bx hP (by omega) h9_3 rfl inRd 2 (by decide) kw_146 rfl rfl d_Rd_readOption_3 ?_
  refine f_xVr (na := 2) (As := [.int (3), .int (at1)]) (rest := []) Bx hml E hP hD hS (by omega) h9_3 rfl (m_Rd_addElement l hlt hn hT hRS) kw_419 kw_421 sel_Rd_addElement kw_6 kw_422 (by decide +kernel) ⟨rfl, rfl⟩ ⟨Nat.le_of_ble_eq_true rfl, Nat.le_of_ble_eq_true rfl⟩ rfl hl.1 (Nat.le_of_ble_eq_true rfl) d_Rd_readOption_6 ⟨Nat.le_of_ble_eq_true rfl, Nat.le_of_ble_eq_true rfl⟩ (fun X ce q9 memx H locs hx9 hP hS g1 g2 g3 => f_out hlocks hno hP hS g1 g2 g3 ⟨Nat.le_of_ble_eq_true rfl, Nat.le_of_ble_eq_true rfl⟩ hx9) (fun r13 mem14 H locs hq hP hS => ?_)
  have hD : va_D (Az sz) (fw n ad mem14) := fw_D hD
  obtain ⟨hr917, hec16, hRS15⟩ := hq
  subst hr917
  obtain ⟨at18, ft19, h9_20⟩ := hRS15.2.1
  have h1_21 : mem14 1 = .inr (0, [.ref (ad 2), .int (nI Z)]) := (hRS15.2.2 1 (by omega)).trans hT.1
  have h2_22 : mem14 2 = .inl (cy 0, 240, .inl f) := (hRS15.2.2 2 (by omega)).trans hT.2.2
  have h5_23 := hRS15.1.2.1
  have hbd29 := hRS15.1.1
  obtain ⟨S24, g25, hS_26, h220_27, h221_28⟩ := hRS15.1.2.2.2.2.2.2
  obtain ⟨k30, lo31, hi32, as33, pa34, ne35, he_36, ho_37⟩ := (hRS15.1.2.2.2.2.2.1 ec (by omega)).1
  refine lv_astore_n (lv' := [(2, .ref (ad (20 + 2 * ec))), (0, .ref (ad 222)), (1, .int (5))]) Bx.1 Bx.2.1 d_Rd_readOption_9 rfl hl (by decide) rfl (fun ls hl => ?_)
  refine lv_aload_n Bx.1 Bx.2.1 d_Rd_readOption_10 rfl (lv_at hl 0 rfl) ?_
  refine lv_aload_n Bx.1 Bx.2.1 d_Rd_readOption_11 rfl (lv_at hl 1 rfl) ?_
  refine lv_iload_n Bx.1 Bx.2.1 d_Rd_readOption_12 rfl (lv_at hl 2 rfl) ?_
  refine lv_bipush (v := 93) Bx.1 Bx.2.1 d_Rd_readOption_13 (by decide) ?_
  refine f_xVr (na := 2) (As := [.int (5), .int (93)]) (rest := [.ref (ad (20 + 2 * ec))]) Bx hml E hP hD hS (by omega) h9_20 rfl (m_Rd_readBracket_5 l hlt hn hT hRS15) kw_447 kw_449 sel_Rd_readBracket kw_6 kw_450 (by decide +kernel) ⟨rfl, rfl⟩ ⟨Nat.le_of_ble_eq_true rfl, Nat.le_of_ble_eq_true rfl⟩ rfl hl.1 (Nat.le_of_ble_eq_true rfl) d_Rd_readOption_15 ⟨Nat.le_of_ble_eq_true rfl, Nat.le_of_ble_eq_true rfl⟩ (fun X ce q9 memx H locs hx9 hP hS g1 g2 g3 => f_out hlocks hno hP hS g1 g2 g3 ⟨Nat.le_of_ble_eq_true rfl, Nat.le_of_ble_eq_true rfl⟩ hx9) (fun r38 mem39 H locs hq hP hS => ?_)
  have hD : va_D (Az sz) (fw n ad mem39) := fw_D hD
  obtain ⟨kx40, rc41, ec42, hr944, hb45, hb46, hb47, hRS43⟩ := hq
  subst hr944
  have hbd48 := hRS43.1.1
  obtain ⟨at49, ft50, h9_51⟩ := hRS43.2.1
  have h1_52 : mem39 1 = .inr (0, [.ref (ad 2), .int (nI Z)]) := (hRS43.2.2 1 (by omega)).trans hT.1
  have h2_53 : mem39 2 = .inl (cy 0, 240, .inl f) := (hRS43.2.2 2 (by omega)).trans hT.2.2
  have h5_54 := hRS43.1.2.1
  have hbd60 := hRS43.1.1
  obtain ⟨S55, g56, hS_57, h220_58, h221_59⟩ := hRS43.1.2.2.2.2.2.2
  obtain ⟨k61, lo62, hi63, as64, pa65, ne66, he_67, ho_68⟩ := (hRS43.1.2.2.2.2.2.1 ec (by omega)).1
  obtain ⟨k69, lo70, hi71, as72, pa73, ne74, he_75, ho_76⟩ := (hRS43.1.2.2.2.2.2.1 kx40 (by omega)).1
  refine f_putN Bx hP hD hS (by omega) he_67 rfl inEl tyEl okEl nmEl 4 (by decide) kw_87 rfl rfl rfl rfl (Nat.le_of_ble_eq_true rfl) d_Rd_readOption_18 (fun H locs hP hS => ?_)
  obtain ⟨mem77, e_mem77⟩ : ∃ z, z = va_up mem39 ((20 + 2 * ec)) (.inr (2, [.int (k61), .int (lo62), .int (hi63), as64, .ref (ad (20 + 2 * kx40)), ne66, .ref (ad (21 + 2 * ec))])) := ⟨_, rfl⟩
  have hP : va_P D vcl (fw n ad mem77) H := by rw [e_mem77]; exact hP
  have hD : va_D (Az sz) (fw n ad mem77) := fw_D hD
  have h_mem77 : mem77 ((20 + 2 * ec)) = .inr (2, [.int (k61), .int (lo62), .int (hi63), as64, .ref (ad (20 + 2 * kx40)), ne66, .ref (ad (21 + 2 * ec))]) := by rw [e_mem77, va_up_self]
  have hh78 := (va_up_ne mem39 (.inr (2, [.int (k61), .int (lo62), .int (hi63), as64, .ref (ad (20 + 2 * kx40)), ne66, .ref (ad (21 + 2 * ec))])) (show (222 : Nat) ≠ (20 + 2 * ec) by first | decide | assumption | omega)).trans h9_51
  rw [← e_mem77] at hh78
  have hh79 := (va_up_ne mem39 (.inr (2, [.int (k61), .int (lo62), .int (hi63), as64, .ref (ad (20 + 2 * kx40)), ne66, .ref (ad (21 + 2 * ec))])) (show (1 : Nat) ≠ (20 + 2 * ec) by first | decide | assumption | omega)).trans h1_52
  rw [← e_mem77] at hh79
  have hh80 := (va_up_ne mem39 (.inr (2, [.int (k61), .int (lo62), .int (hi63), as64, .ref (ad (20 + 2 * kx40)), ne66, .ref (ad (21 + 2 * ec))])) (show (5 : Nat) ≠ (20 + 2 * ec) by first | decide | assumption | omega)).trans h5_54
  rw [← e_mem77] at hh80
  have hh81 := (va_up_ne mem39 (.inr (2, [.int (k61), .int (lo62), .int (hi63), as64, .ref (ad (20 + 2 * kx40)), ne66, .ref (ad (21 + 2 * ec))])) (show (220 : Nat) ≠ (20 + 2 * ec) by first | decide | assumption | omega)).trans h220_58
  rw [← e_mem77] at hh81
  have hh82 := (va_up_ne mem39 (.inr (2, [.int (k61), .int (lo62), .int (hi63), as64, .ref (ad (20 + 2 * kx40)), ne66, .ref (ad (21 + 2 * ec))])) (show ((20 + 2 * kx40) : Nat) ≠ (20 + 2 * ec) by first | decide | assumption | omega)).trans he_75
  rw [← e_mem77] at hh82
  have hRS83 : RS cy ad lim rc41 ec42 m0 mem77 := by rw [e_mem77]; exact hRS43.mk (by omega) (hRS43.1.upEl (by omega) (fun q9 => ⟨(ho_68 q9).1, Or.inr ⟨kx40, by omega, by omega, rfl⟩, (ho_68 q9).2.2⟩))
  refine lv_aload_n Bx.1 Bx.2.1 d_Rd_readOption_21 rfl (lv_at hl 0 rfl) ?_
  exact x_aret hx hb hlocks hr (⟨ec, rc41, ec42, rfl, by omega, by omega, by omega, hRS83⟩) hP hS d_Rd_readOption_22
set_option maxHeartbeats 4000000 in
set_option maxRecDepth 100000 in
theorem m_Rd_readElement_5 (l : Launch) {D : va_G} {cy : Nat → ClassId} {sz n : Nat} {ad : Nat → Nat} {mem : Nat → va_E} {Z : Nat} {f : Nat → Int32} {lim rc ec : Nat} {m0 : Nat → va_E} (hlt : l.stackTraces = false) (hn : 224 ≤ n) (hT : TX cy ad Z f m0) (hRS : RS cy ad lim rc ec m0 mem) : NXr l D cy sz n ad y_Rd_readElement c_Rd_readElement 2 (some (.object "AbnfChart$Element")) ({ frames := 22, cells := 1, slots := 6, locals := 516 } : Room) mem [.ref (ad 222), .int (5)] (fun r mem' => ∃ k rc' ec' : Nat, r = ad (20 + 2 * k) ∧ ec ≤ k ∧ k < ec' ∧ rc ≤ rc' ∧ RS cy ad lim rc' ec' m0 mem') (fun X mem' => (X = cIA ∨ X = cIS) ∧ ∃ rc' ec' : Nat, RS cy ad lim rc' ec' m0 mem') := by
  refine vx_ofW (cc := c_Rd_readElement) (maxL := 2) (ret := (some (.object "AbnfChart$Element"))) (by decide) rfl ?_
  intro p e s m args below meth c s₁ B hml hno hv
  obtain ⟨rfl, E, hP, hD⟩ := hv
  have hx := B.exec
  have hb := B.bytes
  have hr := B.returns
  have hlocks := B.notSynchronized
  have Bx : MB p s m [.ref (ad 222), .int (5)].toArray c c_Rd_readElement "AbnfChart$Reader" D cy := ⟨hx, hb, tb_all (atoms_spec B.pre) E.2.1, findClass_of_methodNamed B.named, E.1⟩
  have hS : va_S (Az sz) s.heap s.heap [] := va_S.rf
  have hl := lv_entry ([.ref (ad 222), .int (5)]) (n := 2) (Nat.le_of_ble_eq_true rfl)
  rw [lg_entry_eq]
  generalize (lg_sl ([.ref (ad 222), .int (5)]) ++ List.replicate (2 - (lg_sl ([.ref (ad 222), .int (5)])).length) Slot.unset).toArray = ls at hl ⊢
  have hl : lv_has ls 2 [(0, .ref (ad 222)), (1, .int (5))] := hl
  obtain ⟨at1, ft2, h9_3⟩ := hRS.2.1
  have h1_4 : mem 1 = .inr (0, [.ref (ad 2), .int (nI Z)]) := (hRS.2.2 1 (by omega)).trans hT.1
  have h2_5 : mem 2 = .inl (cy 0, 240, .inl f) := (hRS.2.2 2 (by omega)).trans hT.2.2
  have h5_6 := hRS.1.2.1
  have hbd12 := hRS.1.1
  obtain ⟨S7, g8, hS_9, h220_10, h221_11⟩ := hRS.1.2.2.2.2.2.2
  refine lv_aload_n Bx.1 Bx.2.1 d_Rd_readElement_0 rfl (lv_at hl 0 rfl) ?_
  refine f_callVi (na := 0) (As := []) (rest := []) Bx hml E hP hD hS (by omega) h9_3 rfl (m_Rd_peek l hn hT hRS) kw_353 kw_355 sel_Rd_peek kw_6 kw_356 (by decide +kernel) ⟨rfl, rfl⟩ ⟨Nat.le_of_ble_eq_true rfl, Nat.le_of_ble_eq_true rfl⟩ rfl hl.1 (Nat.le_of_ble_eq_true rfl) d_Rd_readElement_1 ⟨Nat.le_of_ble_eq_true rfl, Nat.le_of_ble_eq_true rfl⟩ (fun r13 mem14 H locs hq hP hS => ?_)
  have hD : va_D (Az sz) (fw n ad mem14) := fw_D hD
  rw [hq] at hP hD
  refine lv_topi (fun v15 e_v15 => ?_)
  by_cases c34 : v15 = 34
  · rw [c34]
    refine lv_lookup (off := 58) (tgt := 62) Bx.1 Bx.2.1 d_Rd_readElement_4 (by decide) (by decide) rfl ?_
    refine lv_aload_n Bx.1 Bx.2.1 d_Rd_readElement_62 rfl (lv_at hl 0 rfl) ?_
    refine lv_aload_n Bx.1 Bx.2.1 d_Rd_readElement_63 rfl (lv_at hl 0 rfl) ?_
    refine f_get Bx hP (by omega) h9_3 rfl inRd 2 (by decide) kw_146 rfl rfl d_Rd_readElement_64 ?_
    refine lv_iconst (v := 5) Bx.1 Bx.2.1 d_Rd_readElement_67 (by decide) ?_
    refine f_xVr (na := 2) (As := [.int (at1), .int (5)]) (rest := []) Bx hml E hP hD hS (by omega) h9_3 rfl (m_Rd_readString l hlt hn hT hRS) kw_455 kw_457 sel_Rd_readString kw_6 kw_458 (by decide +kernel) ⟨rfl, rfl⟩ ⟨Nat.le_of_ble_eq_true rfl, Nat.le_of_ble_eq_true rfl⟩ rfl hl.1 (Nat.le_of_ble_eq_true rfl) d_Rd_readElement_68 ⟨Nat.le_of_ble_eq_true rfl, Nat.le_of_ble_eq_true rfl⟩ (fun X ce q9 memx H locs hx9 hP hS g1 g2 g3 => f_out hlocks hno hP hS g1 g2 g3 ⟨Nat.le_of_ble_eq_true rfl, Nat.le_of_ble_eq_true rfl⟩ hx9) (fun r16 mem17 H locs hq hP hS => ?_)
    have hD : va_D (Az sz) (fw n ad mem17) := fw_D hD
    obtain ⟨kx18, rc19, ec20, hr922, hb23, hb24, hb25, hRS21⟩ := hq
    subst hr922
    have hbd26 := hRS21.1.1
    obtain ⟨at27, ft28, h9_29⟩ := hRS21.2.1
    have h1_30 : mem17 1 = .inr (0, [.ref (ad 2), .int (nI Z)]) := (hRS21.2.2 1 (by omega)).trans hT.1
    have h2_31 : mem17 2 = .inl (cy 0, 240, .inl f) := (hRS21.2.2 2 (by omega)).trans hT.2.2
    have h5_32 := hRS21.1.2.1
    have hbd38 := hRS21.1.1
    obtain ⟨S33, g34, hS_35, h220_36, h221_37⟩ := hRS21.1.2.2.2.2.2.2
    obtain ⟨k39, lo40, hi41, as42, pa43, ne44, he_45, ho_46⟩ := (hRS21.1.2.2.2.2.2.1 kx18 (by omega)).1
    exact x_aret hx hb hlocks hr (⟨kx18, rc19, ec20, rfl, by omega, by omega, by omega, hRS21⟩) hP hS d_Rd_readElement_71
  by_cases c37 : v15 = 37
  · rw [c37]
    refine lv_lookup (off := 68) (tgt := 72) Bx.1 Bx.2.1 d_Rd_readElement_4 (by decide) (by decide) rfl ?_
    refine lv_aload_n Bx.1 Bx.2.1 d_Rd_readElement_72 rfl (lv_at hl 0 rfl) ?_
    refine f_get Bx hP (by omega) h9_3 rfl inRd 0 (by decide) kw_144 rfl rfl d_Rd_readElement_73 ?_
    refine lv_aload_n Bx.1 Bx.2.1 d_Rd_readElement_76 rfl (lv_at hl 0 rfl) ?_
    refine f_get Bx hP (by omega) h9_3 rfl inRd 2 (by decide) kw_146 rfl rfl d_Rd_readElement_77 ?_
    refine lv_iconst (v := 1) Bx.1 Bx.2.1 d_Rd_readElement_80 (by decide) ?_
    refine lv_iadd Bx.1 Bx.2.1 d_Rd_readElement_81 ?_
    refine f_callVi (na := 1) (As := [.int (at1 + 1)]) (rest := []) Bx hml E hP hD hS (by omega) h1_4 rfl (m_Ch_codeAt l (by omega) h1_4 (by omega) h2_5 (by rw [nI_toInt (by have := hT.2.1; omega)]; have := hT.2.1; omega)) kw_341 kw_342 kw_343 kw_2 kw_344 (by decide +kernel) ⟨rfl, rfl⟩ ⟨Nat.le_of_ble_eq_true rfl, Nat.le_of_ble_eq_true rfl⟩ rfl hl.1 (Nat.le_of_ble_eq_true rfl) d_Rd_readElement_82 ⟨Nat.le_of_ble_eq_true rfl, Nat.le_of_ble_eq_true rfl⟩ (fun r47 mem48 H locs hq hP hS => ?_)
    have hD : va_D (Az sz) (fw n ad mem48) := fw_D hD
    rw [hq.2] at hP hD
    refine f_callSNi (na := 1) (As := [.int (r47)]) (rest := []) Bx hml E.2.1 (m_Ab_smallOf l (r47)) kw_372 kw_373 kw_1 kw_374 (by decide +kernel) ⟨rfl, rfl⟩ ⟨Nat.le_of_ble_eq_true rfl, Nat.le_of_ble_eq_true rfl⟩ rfl hl.1 (Nat.le_of_ble_eq_true rfl) d_Rd_readElement_85 ⟨Nat.le_of_ble_eq_true rfl, Nat.le_of_ble_eq_true rfl⟩ (fun r50 hs49 => ?_)
    refine lv_bipush (v := 115) Bx.1 Bx.2.1 d_Rd_readElement_88 (by decide) ?_
    refine lv_icmp_ne Bx.1 Bx.2.1 d_Rd_readElement_90 rfl (fun h8 => ?_) (fun h8 => ?_)
    · refine lv_aload_n Bx.1 Bx.2.1 d_Rd_readElement_100 rfl (lv_at hl 0 rfl) ?_
      refine f_xVr (na := 0) (As := []) (rest := []) Bx hml E hP hD hS (by omega) h9_3 rfl (m_Rd_readValue l hlt hn hT hRS) kw_467 kw_469 sel_Rd_readValue kw_6 kw_470 (by decide +kernel) ⟨rfl, rfl⟩ ⟨Nat.le_of_ble_eq_true rfl, Nat.le_of_ble_eq_true rfl⟩ rfl hl.1 (Nat.le_of_ble_eq_true rfl) d_Rd_readElement_101 ⟨Nat.le_of_ble_eq_true rfl, Nat.le_of_ble_eq_true rfl⟩ (fun X ce q9 memx H locs hx9 hP hS g1 g2 g3 => f_out hlocks hno hP hS g1 g2 g3 ⟨Nat.le_of_ble_eq_true rfl, Nat.le_of_ble_eq_true rfl⟩ hx9) (fun r51 mem52 H locs hq hP hS => ?_)
      have hD : va_D (Az sz) (fw n ad mem52) := fw_D hD
      obtain ⟨kx53, rc54, ec55, hr957, hb58, hb59, hb60, hRS56⟩ := hq
      subst hr957
      have hbd61 := hRS56.1.1
      obtain ⟨at62, ft63, h9_64⟩ := hRS56.2.1
      have h1_65 : mem52 1 = .inr (0, [.ref (ad 2), .int (nI Z)]) := (hRS56.2.2 1 (by omega)).trans hT.1
      have h2_66 : mem52 2 = .inl (cy 0, 240, .inl f) := (hRS56.2.2 2 (by omega)).trans hT.2.2
      have h5_67 := hRS56.1.2.1
      have hbd73 := hRS56.1.1
      obtain ⟨S68, g69, hS_70, h220_71, h221_72⟩ := hRS56.1.2.2.2.2.2.2
      obtain ⟨k74, lo75, hi76, as77, pa78, ne79, he_80, ho_81⟩ := (hRS56.1.2.2.2.2.2.1 kx53 (by omega)).1
      exact x_aret hx hb hlocks hr (⟨kx53, rc54, ec55, rfl, by omega, by omega, by omega, hRS56⟩) hP hS d_Rd_readElement_104
    · refine lv_aload_n Bx.1 Bx.2.1 d_Rd_readElement_93 rfl (lv_at hl 0 rfl) ?_
      refine f_xVr (na := 0) (As := []) (rest := []) Bx hml E hP hD hS (by omega) h9_3 rfl (m_Rd_readExactString l hlt hn hT hRS) kw_463 kw_465 sel_Rd_readExactString kw_6 kw_466 (by decide +kernel) ⟨rfl, rfl⟩ ⟨Nat.le_of_ble_eq_true rfl, Nat.le_of_ble_eq_true rfl⟩ rfl hl.1 (Nat.le_of_ble_eq_true rfl) d_Rd_readElement_94 ⟨Nat.le_of_ble_eq_true rfl, Nat.le_of_ble_eq_true rfl⟩ (fun X ce q9 memx H locs hx9 hP hS g1 g2 g3 => f_out hlocks hno hP hS g1 g2 g3 ⟨Nat.le_of_ble_eq_true rfl, Nat.le_of_ble_eq_true rfl⟩ hx9) (fun r82 mem83 H locs hq hP hS => ?_)
      have hD : va_D (Az sz) (fw n ad mem83) := fw_D hD
      obtain ⟨kx84, rc85, ec86, hr988, hb89, hb90, hb91, hRS87⟩ := hq
      subst hr988
      have hbd92 := hRS87.1.1
      obtain ⟨at93, ft94, h9_95⟩ := hRS87.2.1
      have h1_96 : mem83 1 = .inr (0, [.ref (ad 2), .int (nI Z)]) := (hRS87.2.2 1 (by omega)).trans hT.1
      have h2_97 : mem83 2 = .inl (cy 0, 240, .inl f) := (hRS87.2.2 2 (by omega)).trans hT.2.2
      have h5_98 := hRS87.1.2.1
      have hbd104 := hRS87.1.1
      obtain ⟨S99, g100, hS_101, h220_102, h221_103⟩ := hRS87.1.2.2.2.2.2.2
      obtain ⟨k105, lo106, hi107, as108, pa109, ne110, he_111, ho_112⟩ := (hRS87.1.2.2.2.2.2.1 kx84 (by omega)).1
      refine lv_goto Bx.1 Bx.2.1 d_Rd_readElement_97 rfl ?_
      exact x_aret hx hb hlocks hr (⟨kx84, rc85, ec86, rfl, by omega, by omega, by omega, hRS87⟩) hP hS d_Rd_readElement_104
  by_cases c40 : v15 = 40
  · rw [c40]
    refine lv_lookup (off := 44) (tgt := 48) Bx.1 Bx.2.1 d_Rd_readElement_4 (by decide) (by decide) rfl ?_
    refine lv_aload_n Bx.1 Bx.2.1 d_Rd_readElement_48 rfl (lv_at hl 0 rfl) ?_
    refine lv_iload_n Bx.1 Bx.2.1 d_Rd_readElement_49 rfl (lv_at hl 1 rfl) ?_
    refine lv_bipush (v := 41) Bx.1 Bx.2.1 d_Rd_readElement_50 (by decide) ?_
    refine f_xVr (na := 2) (As := [.int (5), .int (41)]) (rest := []) Bx hml E hP hD hS (by omega) h9_3 rfl (m_Rd_readBracket_5 l hlt hn hT hRS) kw_447 kw_449 sel_Rd_readBracket kw_6 kw_450 (by decide +kernel) ⟨rfl, rfl⟩ ⟨Nat.le_of_ble_eq_true rfl, Nat.le_of_ble_eq_true rfl⟩ rfl hl.1 (Nat.le_of_ble_eq_true rfl) d_Rd_readElement_52 ⟨Nat.le_of_ble_eq_true rfl, Nat.le_of_ble_eq_true rfl⟩ (fun X ce q9 memx H locs hx9 hP hS g1 g2 g3 => f_out hlocks hno hP hS g1 g2 g3 ⟨Nat.le_of_ble_eq_true rfl, Nat.le_of_ble_eq_true rfl⟩ hx9) (fun r113 mem114 H locs hq hP hS => ?_)
    have hD : va_D (Az sz) (fw n ad mem114) := fw_D hD
    obtain ⟨kx115, rc116, ec117, hr9119, hb120, hb121, hb122, hRS118⟩ := hq
    subst hr9119
    have hbd123 := hRS118.1.1
    obtain ⟨at124, ft125, h9_126⟩ := hRS118.2.1
    have h1_127 : mem114 1 = .inr (0, [.ref (ad 2), .int (nI Z)]) := (hRS118.2.2 1 (by omega)).trans hT.1
    have h2_128 : mem114 2 = .inl (cy 0, 240, .inl f) := (hRS118.2.2 2 (by omega)).trans hT.2.2
    have h5_129 := hRS118.1.2.1
    have hbd135 := hRS118.1.1
    obtain ⟨S130, g131, hS_132, h220_133, h221_134⟩ := hRS118.1.2.2.2.2.2.2
    obtain ⟨k136, lo137, hi138, as139, pa140, ne141, he_142, ho_143⟩ := (hRS118.1.2.2.2.2.2.1 kx115 (by omega)).1
    exact x_aret hx hb hlocks hr (⟨kx115, rc116, ec117, rfl, by omega, by omega, by omega, hRS118⟩) hP hS d_Rd_readElement_55
  by_cases c91 : v15 = 91
  · rw [c91]
    refine lv_lookup (off := 52) (tgt := 56) Bx.1 Bx.2.1 d_Rd_readElement_4 (by decide) (by decide) rfl ?_
    refine lv_aload_n Bx.1 Bx.2.1 d_Rd_readElement_56 rfl (lv_at hl 0 rfl) ?_
    refine lv_iload_n Bx.1 Bx.2.1 d_Rd_readElement_57 rfl (lv_at hl 1 rfl) ?_
    refine f_xVr (na := 1) (As := [.int (5)]) (rest := []) Bx hml E hP hD hS (by omega) h9_3 rfl (m_Rd_readOption_5 l hlt hn hT hRS) kw_451 kw_453 sel_Rd_readOption kw_6 kw_454 (by decide +kernel) ⟨rfl, rfl⟩ ⟨Nat.le_of_ble_eq_true rfl, Nat.le_of_ble_eq_true rfl⟩ rfl hl.1 (Nat.le_of_ble_eq_true rfl) d_Rd_readElement_58 ⟨Nat.le_of_ble_eq_true rfl, Nat.le_of_ble_eq_true rfl⟩ (fun X ce q9 memx H locs hx9 hP hS g1 g2 g3 => f_out hlocks hno hP hS g1 g2 g3 ⟨Nat.le_of_ble_eq_true rfl, Nat.le_of_ble_eq_true rfl⟩ hx9) (fun r144 mem145 H locs hq hP hS => ?_)
    have hD : va_D (Az sz) (fw n ad mem145) := fw_D hD
    obtain ⟨kx146, rc147, ec148, hr9150, hb151, hb152, hb153, hRS149⟩ := hq
    subst hr9150
    have hbd154 := hRS149.1.1
    obtain ⟨at155, ft156, h9_157⟩ := hRS149.2.1
    have h1_158 : mem145 1 = .inr (0, [.ref (ad 2), .int (nI Z)]) := (hRS149.2.2 1 (by omega)).trans hT.1
    have h2_159 : mem145 2 = .inl (cy 0, 240, .inl f) := (hRS149.2.2 2 (by omega)).trans hT.2.2
    have h5_160 := hRS149.1.2.1
    have hbd166 := hRS149.1.1
    obtain ⟨S161, g162, hS_163, h220_164, h221_165⟩ := hRS149.1.2.2.2.2.2.2
    obtain ⟨k167, lo168, hi169, as170, pa171, ne172, he_173, ho_174⟩ := (hRS149.1.2.2.2.2.2.1 kx146 (by omega)).1
    exact x_aret hx hb hlocks hr (⟨kx146, rc147, ec148, rfl, by omega, by omega, by omega, hRS149⟩) hP hS d_Rd_readElement_61
  refine lv_lookup (off := 101) (tgt := 105) Bx.1 Bx.2.1 d_Rd_readElement_4 (by decide) (by show Op.lookupswitch.offset [(34, 58), (37, 68), (40, 44), (91, 52)] 101 (v15).toInt = 101; rw [lv_osw c34 (by decide), lv_osw c37 (by decide), lv_osw c40 (by decide), lv_osw c91 (by decide)]; rfl) rfl ?_
  refine lv_aload_n Bx.1 Bx.2.1 d_Rd_readElement_105 rfl (lv_at hl 0 rfl) ?_
  refine f_xVr (na := 0) (As := []) (rest := []) Bx hml E hP hD hS (by omega) h9_3 rfl (m_Rd_readAskedName l hlt hn hT hRS) kw_478 kw_480 sel_Rd_readAskedName kw_6 kw_481 (by decide +kernel) ⟨rfl, rfl⟩ ⟨Nat.le_of_ble_eq_true rfl, Nat.le_of_ble_eq_true rfl⟩ rfl hl.1 (Nat.le_of_ble_eq_true rfl) d_Rd_readElement_106 ⟨Nat.le_of_ble_eq_true rfl, Nat.le_of_ble_eq_true rfl⟩ (fun X ce q9 memx H locs hx9 hP hS g1 g2 g3 => f_out hlocks hno hP hS g1 g2 g3 ⟨Nat.le_of_ble_eq_true rfl, Nat.le_of_ble_eq_true rfl⟩ hx9) (fun r175 mem176 H locs hq hP hS => ?_)
  have hD : va_D (Az sz) (fw n ad mem176) := fw_D hD
  obtain ⟨kx177, rc178, ec179, hr9181, hb182, hb183, hb184, hRS180⟩ := hq
  subst hr9181
  have hbd185 := hRS180.1.1
  obtain ⟨at186, ft187, h9_188⟩ := hRS180.2.1
  have h1_189 : mem176 1 = .inr (0, [.ref (ad 2), .int (nI Z)]) := (hRS180.2.2 1 (by omega)).trans hT.1
  have h2_190 : mem176 2 = .inl (cy 0, 240, .inl f) := (hRS180.2.2 2 (by omega)).trans hT.2.2
  have h5_191 := hRS180.1.2.1
  have hbd197 := hRS180.1.1
  obtain ⟨S192, g193, hS_194, h220_195, h221_196⟩ := hRS180.1.2.2.2.2.2.2
  obtain ⟨k198, lo199, hi200, as201, pa202, ne203, he_204, ho_205⟩ := (hRS180.1.2.2.2.2.2.1 kx177 (by omega)).1
  exact x_aret hx hb hlocks hr (⟨kx177, rc178, ec179, rfl, by omega, by omega, by omega, hRS180⟩) hP hS d_Rd_readElement_109
set_option maxHeartbeats 4000000 in
set_option maxRecDepth 100000 in
theorem m_Rd_readRepetition_5 (l : Launch) {D : va_G} {cy : Nat → ClassId} {sz n : Nat} {ad : Nat → Nat} {mem : Nat → va_E} {Z : Nat} {f : Nat → Int32} {lim rc ec : Nat} {m0 : Nat → va_E} (hlt : l.stackTraces = false) (hn : 224 ≤ n) (hT : TX cy ad Z f m0) (hRS : RS cy ad lim rc ec m0 mem) : NXr l D cy sz n ad y_Rd_readRepetition c_Rd_readRepetition 3 (some (.object "AbnfChart$Element")) ({ frames := 23, cells := 1, slots := 6, locals := 538 } : Room) mem [.ref (ad 222), .int (5)] (fun r mem' => ∃ k rc' ec' : Nat, r = ad (20 + 2 * k) ∧ ec ≤ k ∧ k < ec' ∧ rc ≤ rc' ∧ RS cy ad lim rc' ec' m0 mem') (fun X mem' => (X = cIA ∨ X = cIS) ∧ ∃ rc' ec' : Nat, RS cy ad lim rc' ec' m0 mem') := by
  refine vx_ofW (cc := c_Rd_readRepetition) (maxL := 3) (ret := (some (.object "AbnfChart$Element"))) (by decide) rfl ?_
  intro p e s m args below meth c s₁ B hml hno hv
  obtain ⟨rfl, E, hP, hD⟩ := hv
  have hx := B.exec
  have hb := B.bytes
  have hr := B.returns
  have hlocks := B.notSynchronized
  have Bx : MB p s m [.ref (ad 222), .int (5)].toArray c c_Rd_readRepetition "AbnfChart$Reader" D cy := ⟨hx, hb, tb_all (atoms_spec B.pre) E.2.1, findClass_of_methodNamed B.named, E.1⟩
  have hS : va_S (Az sz) s.heap s.heap [] := va_S.rf
  have hl := lv_entry ([.ref (ad 222), .int (5)]) (n := 3) (Nat.le_of_ble_eq_true rfl)
  rw [lg_entry_eq]
  generalize (lg_sl ([.ref (ad 222), .int (5)]) ++ List.replicate (3 - (lg_sl ([.ref (ad 222), .int (5)])).length) Slot.unset).toArray = ls at hl ⊢
  have hl : lv_has ls 3 [(0, .ref (ad 222)), (1, .int (5))] := hl
  obtain ⟨at1, ft2, h9_3⟩ := hRS.2.1
  have h1_4 : mem 1 = .inr (0, [.ref (ad 2), .int (nI Z)]) := (hRS.2.2 1 (by omega)).trans hT.1
  have h2_5 : mem 2 = .inl (cy 0, 240, .inl f) := (hRS.2.2 2 (by omega)).trans hT.2.2
  have h5_6 := hRS.1.2.1
  have hbd12 := hRS.1.1
  obtain ⟨S7, g8, hS_9, h220_10, h221_11⟩ := hRS.1.2.2.2.2.2.2
  refine lv_aload_n Bx.1 Bx.2.1 d_Rd_readRepetition_0 rfl (lv_at hl 0 rfl) ?_
  refine f_callVi (na := 0) (As := []) (rest := []) Bx hml E hP hD hS (by omega) h9_3 rfl (m_Rd_peek l hn hT hRS) kw_353 kw_355 sel_Rd_peek kw_6 kw_356 (by decide +kernel) ⟨rfl, rfl⟩ ⟨Nat.le_of_ble_eq_true rfl, Nat.le_of_ble_eq_true rfl⟩ rfl hl.1 (Nat.le_of_ble_eq_true rfl) d_Rd_readRepetition_1 ⟨Nat.le_of_ble_eq_true rfl, Nat.le_of_ble_eq_true rfl⟩ (fun r13 mem14 H locs hq hP hS => ?_)
  have hD : va_D (Az sz) (fw n ad mem14) := fw_D hD
  rw [hq] at hP hD
  refine f_callSi (na := 1) (As := [.int (r13)]) (rest := []) Bx hml E.2.1 (m_Rd_beginsRepeat l (r13)) kw_416 kw_417 kw_6 kw_418 (by decide +kernel) ⟨rfl, rfl⟩ ⟨Nat.le_of_ble_eq_true rfl, Nat.le_of_ble_eq_true rfl⟩ rfl hl.1 (Nat.le_of_ble_eq_true rfl) d_Rd_readRepetition_4 ⟨Nat.le_of_ble_eq_true rfl, Nat.le_of_ble_eq_true rfl⟩ (fun r16 hs15 => ?_)
  refine lv_if_ne Bx.1 Bx.2.1 d_Rd_readRepetition_7 rfl (fun h8 => ?_) (fun h8 => ?_)
  · refine lv_aload_n Bx.1 Bx.2.1 d_Rd_readRepetition_16 rfl (lv_at hl 0 rfl) ?_
    refine lv_iconst (v := 2) Bx.1 Bx.2.1 d_Rd_readRepetition_17 (by decide) ?_
    refine lv_aload_n Bx.1 Bx.2.1 d_Rd_readRepetition_18 rfl (lv_at hl 0 rfl) ?_
    refine f_get Bx hP (by omega) h9_3 rfl inRd 2 (by decide) kw_146 rfl rfl d_Rd_readRepetition_19 ?_
    refine f_xVr (na := 2) (As := [.int (2), .int (at1)]) (rest := []) Bx hml E hP hD hS (by omega) h9_3 rfl (m_Rd_addElement l hlt hn hT hRS) kw_419 kw_421 sel_Rd_addElement kw_6 kw_422 (by decide +kernel) ⟨rfl, rfl⟩ ⟨Nat.le_of_ble_eq_true rfl, Nat.le_of_ble_eq_true rfl⟩ rfl hl.1 (Nat.le_of_ble_eq_true rfl) d_Rd_readRepetition_22 ⟨Nat.le_of_ble_eq_true rfl, Nat.le_of_ble_eq_true rfl⟩ (fun X ce q9 memx H locs hx9 hP hS g1 g2 g3 => f_out hlocks hno hP hS g1 g2 g3 ⟨Nat.le_of_ble_eq_true rfl, Nat.le_of_ble_eq_true rfl⟩ hx9) (fun r17 mem18 H locs hq hP hS => ?_)
    have hD : va_D (Az sz) (fw n ad mem18) := fw_D hD
    obtain ⟨hr921, hec20, hRS19⟩ := hq
    subst hr921
    obtain ⟨at22, ft23, h9_24⟩ := hRS19.2.1
    have h1_25 : mem18 1 = .inr (0, [.ref (ad 2), .int (nI Z)]) := (hRS19.2.2 1 (by omega)).trans hT.1
    have h2_26 : mem18 2 = .inl (cy 0, 240, .inl f) := (hRS19.2.2 2 (by omega)).trans hT.2.2
    have h5_27 := hRS19.1.2.1
    have hbd33 := hRS19.1.1
    obtain ⟨S28, g29, hS_30, h220_31, h221_32⟩ := hRS19.1.2.2.2.2.2.2
    obtain ⟨k34, lo35, hi36, as37, pa38, ne39, he_40, ho_41⟩ := (hRS19.1.2.2.2.2.2.1 ec (by omega)).1
    refine lv_astore_n (lv' := [(2, .ref (ad (20 + 2 * ec))), (0, .ref (ad 222)), (1, .int (5))]) Bx.1 Bx.2.1 d_Rd_readRepetition_25 rfl hl (by decide) rfl (fun ls hl => ?_)
    refine lv_aload_n Bx.1 Bx.2.1 d_Rd_readRepetition_26 rfl (lv_at hl 1 rfl) ?_
    refine lv_aload_n Bx.1 Bx.2.1 d_Rd_readRepetition_27 rfl (lv_at hl 0 rfl) ?_
    refine f_xVv (na := 1) (As := [.ref (ad (20 + 2 * ec))]) (rest := []) Bx hml E hP hD hS (by omega) h9_24 rfl (m_Rd_readRepeat l hlt hn hT hRS19 (by omega)) kw_482 kw_484 sel_Rd_readRepeat kw_6 kw_485 (by decide +kernel) ⟨rfl, rfl⟩ ⟨Nat.le_of_ble_eq_true rfl, Nat.le_of_ble_eq_true rfl⟩ rfl hl.1 (Nat.le_of_ble_eq_true rfl) d_Rd_readRepetition_28 ⟨Nat.le_of_ble_eq_true rfl, Nat.le_of_ble_eq_true rfl⟩ (fun X ce q9 memx H locs hx9 hP hS g1 g2 g3 => f_out hlocks hno hP hS g1 g2 g3 ⟨Nat.le_of_ble_eq_true rfl, Nat.le_of_ble_eq_true rfl⟩ hx9) (fun mem44 H locs hRS42 hP hS => ?_)
    have hD : va_D (Az sz) (fw n ad mem44) := fw_D hD
    obtain ⟨at45, ft46, h9_47⟩ := hRS42.2.1
    have h1_48 : mem44 1 = .inr (0, [.ref (ad 2), .int (nI Z)]) := (hRS42.2.2 1 (by omega)).trans hT.1
    have h2_49 : mem44 2 = .inl (cy 0, 240, .inl f) := (hRS42.2.2 2 (by omega)).trans hT.2.2
    have h5_50 := hRS42.1.2.1
    have hbd56 := hRS42.1.1
    obtain ⟨S51, g52, hS_53, h220_54, h221_55⟩ := hRS42.1.2.2.2.2.2.2
    obtain ⟨k57, lo58, hi59, as60, pa61, ne62, he_63, ho_64⟩ := (hRS42.1.2.2.2.2.2.1 ec (by omega)).1
    refine lv_aload_n Bx.1 Bx.2.1 d_Rd_readRepetition_31 rfl (lv_at hl 0 rfl) ?_
    refine lv_aload_n Bx.1 Bx.2.1 d_Rd_readRepetition_32 rfl (lv_at hl 1 rfl) ?_
    refine lv_iload_n Bx.1 Bx.2.1 d_Rd_readRepetition_33 rfl (lv_at hl 2 rfl) ?_
    refine f_xVr (na := 1) (As := [.int (5)]) (rest := [.ref (ad (20 + 2 * ec))]) Bx hml E hP hD hS (by omega) h9_47 rfl (m_Rd_readElement_5 l hlt hn hT hRS42) kw_443 kw_445 sel_Rd_readElement kw_6 kw_446 (by decide +kernel) ⟨rfl, rfl⟩ ⟨Nat.le_of_ble_eq_true rfl, Nat.le_of_ble_eq_true rfl⟩ rfl hl.1 (Nat.le_of_ble_eq_true rfl) d_Rd_readRepetition_34 ⟨Nat.le_of_ble_eq_true rfl, Nat.le_of_ble_eq_true rfl⟩ (fun X ce q9 memx H locs hx9 hP hS g1 g2 g3 => f_out hlocks hno hP hS g1 g2 g3 ⟨Nat.le_of_ble_eq_true rfl, Nat.le_of_ble_eq_true rfl⟩ hx9) (fun r65 mem66 H locs hq hP hS => ?_)
    have hD : va_D (Az sz) (fw n ad mem66) := fw_D hD
    obtain ⟨kx67, rc68, ec69, hr971, hb72, hb73, hb74, hRS70⟩ := hq
    subst hr971
    have hbd75 := hRS70.1.1
    obtain ⟨at76, ft77, h9_78⟩ := hRS70.2.1
    have h1_79 : mem66 1 = .inr (0, [.ref (ad 2), .int (nI Z)]) := (hRS70.2.2 1 (by omega)).trans hT.1
    have h2_80 : mem66 2 = .inl (cy 0, 240, .inl f) := (hRS70.2.2 2 (by omega)).trans hT.2.2
    have h5_81 := hRS70.1.2.1
    have hbd87 := hRS70.1.1
    obtain ⟨S82, g83, hS_84, h220_85, h221_86⟩ := hRS70.1.2.2.2.2.2.2
    obtain ⟨k88, lo89, hi90, as91, pa92, ne93, he_94, ho_95⟩ := (hRS70.1.2.2.2.2.2.1 ec (by omega)).1
    obtain ⟨k96, lo97, hi98, as99, pa100, ne101, he_102, ho_103⟩ := (hRS70.1.2.2.2.2.2.1 kx67 (by omega)).1
    refine f_putN Bx hP hD hS (by omega) he_94 rfl inEl tyEl okEl nmEl 4 (by decide) kw_87 rfl rfl rfl rfl (Nat.le_of_ble_eq_true rfl) d_Rd_readRepetition_37 (fun H locs hP hS => ?_)
    obtain ⟨mem104, e_mem104⟩ : ∃ z, z = va_up mem66 ((20 + 2 * ec)) (.inr (2, [.int (k88), .int (lo89), .int (hi90), as91, .ref (ad (20 + 2 * kx67)), ne93, .ref (ad (21 + 2 * ec))])) := ⟨_, rfl⟩
    have hP : va_P D vcl (fw n ad mem104) H := by rw [e_mem104]; exact hP
    have hD : va_D (Az sz) (fw n ad mem104) := fw_D hD
    have h_mem104 : mem104 ((20 + 2 * ec)) = .inr (2, [.int (k88), .int (lo89), .int (hi90), as91, .ref (ad (20 + 2 * kx67)), ne93, .ref (ad (21 + 2 * ec))]) := by rw [e_mem104, va_up_self]
    have hh105 := (va_up_ne mem66 (.inr (2, [.int (k88), .int (lo89), .int (hi90), as91, .ref (ad (20 + 2 * kx67)), ne93, .ref (ad (21 + 2 * ec))])) (show (222 : Nat) ≠ (20 + 2 * ec) by first | decide | assumption | omega)).trans h9_78
    rw [← e_mem104] at hh105
    have hh106 := (va_up_ne mem66 (.inr (2, [.int (k88), .int (lo89), .int (hi90), as91, .ref (ad (20 + 2 * kx67)), ne93, .ref (ad (21 + 2 * ec))])) (show (1 : Nat) ≠ (20 + 2 * ec) by first | decide | assumption | omega)).trans h1_79
    rw [← e_mem104] at hh106
    have hh107 := (va_up_ne mem66 (.inr (2, [.int (k88), .int (lo89), .int (hi90), as91, .ref (ad (20 + 2 * kx67)), ne93, .ref (ad (21 + 2 * ec))])) (show (5 : Nat) ≠ (20 + 2 * ec) by first | decide | assumption | omega)).trans h5_81
    rw [← e_mem104] at hh107
    have hh108 := (va_up_ne mem66 (.inr (2, [.int (k88), .int (lo89), .int (hi90), as91, .ref (ad (20 + 2 * kx67)), ne93, .ref (ad (21 + 2 * ec))])) (show (220 : Nat) ≠ (20 + 2 * ec) by first | decide | assumption | omega)).trans h220_85
    rw [← e_mem104] at hh108
    have hh109 := (va_up_ne mem66 (.inr (2, [.int (k88), .int (lo89), .int (hi90), as91, .ref (ad (20 + 2 * kx67)), ne93, .ref (ad (21 + 2 * ec))])) (show ((20 + 2 * kx67) : Nat) ≠ (20 + 2 * ec) by first | decide | assumption | omega)).trans he_102
    rw [← e_mem104] at hh109
    have hRS110 : RS cy ad lim rc68 ec69 m0 mem104 := by rw [e_mem104]; exact hRS70.mk (by omega) (hRS70.1.upEl (by omega) (fun q9 => ⟨(ho_95 q9).1, Or.inr ⟨kx67, by omega, by omega, rfl⟩, (ho_95 q9).2.2⟩))
    refine lv_aload_n Bx.1 Bx.2.1 d_Rd_readRepetition_40 rfl (lv_at hl 0 rfl) ?_
    exact x_aret hx hb hlocks hr (⟨ec, rc68, ec69, rfl, by omega, by omega, by omega, hRS110⟩) hP hS d_Rd_readRepetition_41
  · refine lv_aload_n Bx.1 Bx.2.1 d_Rd_readRepetition_10 rfl (lv_at hl 0 rfl) ?_
    refine lv_iload_n Bx.1 Bx.2.1 d_Rd_readRepetition_11 rfl (lv_at hl 1 rfl) ?_
    refine f_xVr (na := 1) (As := [.int (5)]) (rest := []) Bx hml E hP hD hS (by omega) h9_3 rfl (m_Rd_readElement_5 l hlt hn hT hRS) kw_443 kw_445 sel_Rd_readElement kw_6 kw_446 (by decide +kernel) ⟨rfl, rfl⟩ ⟨Nat.le_of_ble_eq_true rfl, Nat.le_of_ble_eq_true rfl⟩ rfl hl.1 (Nat.le_of_ble_eq_true rfl) d_Rd_readRepetition_12 ⟨Nat.le_of_ble_eq_true rfl, Nat.le_of_ble_eq_true rfl⟩ (fun X ce q9 memx H locs hx9 hP hS g1 g2 g3 => f_out hlocks hno hP hS g1 g2 g3 ⟨Nat.le_of_ble_eq_true rfl, Nat.le_of_ble_eq_true rfl⟩ hx9) (fun r111 mem112 H locs hq hP hS => ?_)
    have hD : va_D (Az sz) (fw n ad mem112) := fw_D hD
    obtain ⟨kx113, rc114, ec115, hr9117, hb118, hb119, hb120, hRS116⟩ := hq
    subst hr9117
    have hbd121 := hRS116.1.1
    obtain ⟨at122, ft123, h9_124⟩ := hRS116.2.1
    have h1_125 : mem112 1 = .inr (0, [.ref (ad 2), .int (nI Z)]) := (hRS116.2.2 1 (by omega)).trans hT.1
    have h2_126 : mem112 2 = .inl (cy 0, 240, .inl f) := (hRS116.2.2 2 (by omega)).trans hT.2.2
    have h5_127 := hRS116.1.2.1
    have hbd133 := hRS116.1.1
    obtain ⟨S128, g129, hS_130, h220_131, h221_132⟩ := hRS116.1.2.2.2.2.2.2
    obtain ⟨k134, lo135, hi136, as137, pa138, ne139, he_140, ho_141⟩ := (hRS116.1.2.2.2.2.2.1 kx113 (by omega)).1
    exact x_aret hx hb hlocks hr (⟨kx113, rc114, ec115, rfl, by omega, by omega, by omega, hRS116⟩) hP hS d_Rd_readRepetition_15
set_option maxHeartbeats 4000000 in
set_option maxRecDepth 100000 in
theorem m_Rd_readSequence_5 (l : Launch) {D : va_G} {cy : Nat → ClassId} {sz n : Nat} {ad : Nat → Nat} {mem : Nat → va_E} {Z : Nat} {f : Nat → Int32} {lim rc ec : Nat} {m0 : Nat → va_E} (hlt : l.stackTraces = false) (hn : 224 ≤ n) (hT : TX cy ad Z f m0) (hRS : RS cy ad lim rc ec m0 mem) : NXr l D cy sz n ad y_Rd_readSequence c_Rd_readSequence 5 (some (.object "AbnfChart$Element")) ({ frames := 24, cells := 1, slots := 6, locals := 562 } : Room) mem [.ref (ad 222), .int (5)] (fun r mem' => ∃ k rc' ec' : Nat, r = ad (20 + 2 * k) ∧ ec ≤ k ∧ k < ec' ∧ rc ≤ rc' ∧ RS cy ad lim rc' ec' m0 mem') (fun X mem' => (X = cIA ∨ X = cIS) ∧ ∃ rc' ec' : Nat, RS cy ad lim rc' ec' m0 mem') := by
  refine vx_ofW (cc := c_Rd_readSequence) (maxL := 5) (ret := (some (.object "AbnfChart$Element"))) (by decide) rfl ?_
  intro p e s m args below meth c s₁ B hml hno hv
  obtain ⟨rfl, E, hP, hD⟩ := hv
  have hx := B.exec
  have hb := B.bytes
  have hr := B.returns
  have hlocks := B.notSynchronized
  have Bx : MB p s m [.ref (ad 222), .int (5)].toArray c c_Rd_readSequence "AbnfChart$Reader" D cy := ⟨hx, hb, tb_all (atoms_spec B.pre) E.2.1, findClass_of_methodNamed B.named, E.1⟩
  have hS : va_S (Az sz) s.heap s.heap [] := va_S.rf
  have hl := lv_entry ([.ref (ad 222), .int (5)]) (n := 5) (Nat.le_of_ble_eq_true rfl)
  rw [lg_entry_eq]
  generalize (lg_sl ([.ref (ad 222), .int (5)]) ++ List.replicate (5 - (lg_sl ([.ref (ad 222), .int (5)])).length) Slot.unset).toArray = ls at hl ⊢
  have hl : lv_has ls 5 [(0, .ref (ad 222)), (1, .int (5))] := hl
  obtain ⟨at1, ft2, h9_3⟩ := hRS.2.1
  have h1_4 : mem 1 = .inr (0, [.ref (ad 2), .int (nI Z)]) := (hRS.2.2 1 (by omega)).trans hT.1
  have h2_5 : mem 2 = .inl (cy 0, 240, .inl f) := (hRS.2.2 2 (by omega)).trans hT.2.2
  have h5_6 := hRS.1.2.1
  have hbd12 := hRS.1.1
  obtain ⟨S7, g8, hS_9, h220_10, h221_11⟩ := hRS.1.2.2.2.2.2.2
  refine lv_aload_n Bx.1 Bx.2.1 d_Rd_readSequence_0 rfl (lv_at hl 0 rfl) ?_
  refine lv_iconst (v := 1) Bx.1 Bx.2.1 d_Rd_readSequence_1 (by decide) ?_
  refine f_xVr (na := 1) (As := [.int (1)]) (rest := []) Bx hml E hP hD hS (by omega) h9_3 rfl (m_Rd_beginRow l hlt hn hT hRS) kw_409 kw_411 sel_Rd_beginRow kw_6 kw_412 (by decide +kernel) ⟨rfl, rfl⟩ ⟨Nat.le_of_ble_eq_true rfl, Nat.le_of_ble_eq_true rfl⟩ rfl hl.1 (Nat.le_of_ble_eq_true rfl) d_Rd_readSequence_2 ⟨Nat.le_of_ble_eq_true rfl, Nat.le_of_ble_eq_true rfl⟩ (fun X ce q9 memx H locs hx9 hP hS g1 g2 g3 => f_out hlocks hno hP hS g1 g2 g3 ⟨Nat.le_of_ble_eq_true rfl, Nat.le_of_ble_eq_true rfl⟩ hx9) (fun r13 mem14 H locs hq hP hS => ?_)
  have hD : va_D (Az sz) (fw n ad mem14) := fw_D hD
  obtain ⟨kx15, rc16, ec17, hr919, hb20, hb21, hb22, hRS18⟩ := hq
  subst hr919
  have hbd23 := hRS18.1.1
  obtain ⟨at24, ft25, h9_26⟩ := hRS18.2.1
  have h1_27 : mem14 1 = .inr (0, [.ref (ad 2), .int (nI Z)]) := (hRS18.2.2 1 (by omega)).trans hT.1
  have h2_28 : mem14 2 = .inl (cy 0, 240, .inl f) := (hRS18.2.2 2 (by omega)).trans hT.2.2
  have h5_29 := hRS18.1.2.1
  have hbd35 := hRS18.1.1
  obtain ⟨S30, g31, hS_32, h220_33, h221_34⟩ := hRS18.1.2.2.2.2.2.2
  obtain ⟨k36, lo37, hi38, as39, pa40, ne41, he_42, ho_43⟩ := (hRS18.1.2.2.2.2.2.1 kx15 (by omega)).1
  refine lv_astore_n (lv' := [(2, .ref (ad (20 + 2 * kx15))), (0, .ref (ad 222)), (1, .int (5))]) Bx.1 Bx.2.1 d_Rd_readSequence_5 rfl hl (by decide) rfl (fun ls hl => ?_)
  refine lv_aload_n Bx.1 Bx.2.1 d_Rd_readSequence_6 rfl (lv_at hl 1 rfl) ?_
  refine lv_iload_n Bx.1 Bx.2.1 d_Rd_readSequence_7 rfl (lv_at hl 2 rfl) ?_
  refine f_xVr (na := 1) (As := [.int (5)]) (rest := []) Bx hml E hP hD hS (by omega) h9_26 rfl (m_Rd_readRepetition_5 l hlt hn hT hRS18) kw_439 kw_441 sel_Rd_readRepetition kw_6 kw_442 (by decide +kernel) ⟨rfl, rfl⟩ ⟨Nat.le_of_ble_eq_true rfl, Nat.le_of_ble_eq_true rfl⟩ rfl hl.1 (Nat.le_of_ble_eq_true rfl) d_Rd_readSequence_8 ⟨Nat.le_of_ble_eq_true rfl, Nat.le_of_ble_eq_true rfl⟩ (fun X ce q9 memx H locs hx9 hP hS g1 g2 g3 => f_out hlocks hno hP hS g1 g2 g3 ⟨Nat.le_of_ble_eq_true rfl, Nat.le_of_ble_eq_true rfl⟩ hx9) (fun r44 mem45 H locs hq hP hS => ?_)
  have hD : va_D (Az sz) (fw n ad mem45) := fw_D hD
  obtain ⟨kx46, rc47, ec48, hr950, hb51, hb52, hb53, hRS49⟩ := hq
  subst hr950
  have hbd54 := hRS49.1.1
  obtain ⟨at55, ft56, h9_57⟩ := hRS49.2.1
  have h1_58 : mem45 1 = .inr (0, [.ref (ad 2), .int (nI Z)]) := (hRS49.2.2 1 (by omega)).trans hT.1
  have h2_59 : mem45 2 = .inl (cy 0, 240, .inl f) := (hRS49.2.2 2 (by omega)).trans hT.2.2
  have h5_60 := hRS49.1.2.1
  have hbd66 := hRS49.1.1
  obtain ⟨S61, g62, hS_63, h220_64, h221_65⟩ := hRS49.1.2.2.2.2.2.2
  obtain ⟨k67, lo68, hi69, as70, pa71, ne72, he_73, ho_74⟩ := (hRS49.1.2.2.2.2.2.1 kx15 (by omega)).1
  obtain ⟨k75, lo76, hi77, as78, pa79, ne80, he_81, ho_82⟩ := (hRS49.1.2.2.2.2.2.1 kx46 (by omega)).1
  refine lv_astore_n (lv' := [(3, .ref (ad (20 + 2 * kx46))), (2, .ref (ad (20 + 2 * kx15))), (0, .ref (ad 222)), (1, .int (5))]) Bx.1 Bx.2.1 d_Rd_readSequence_11 rfl hl (by decide) rfl (fun ls hl => ?_)
  refine lv_aload_n Bx.1 Bx.2.1 d_Rd_readSequence_12 rfl (lv_at hl 1 rfl) ?_
  refine lv_aload_n Bx.1 Bx.2.1 d_Rd_readSequence_13 rfl (lv_at hl 0 rfl) ?_
  refine f_putN Bx hP hD hS (by omega) he_73 rfl inEl tyEl okEl nmEl 4 (by decide) kw_87 rfl rfl rfl rfl (Nat.le_of_ble_eq_true rfl) d_Rd_readSequence_14 (fun H locs hP hS => ?_)
  obtain ⟨mem83, e_mem83⟩ : ∃ z, z = va_up mem45 ((20 + 2 * kx15)) (.inr (2, [.int (k67), .int (lo68), .int (hi69), as70, .ref (ad (20 + 2 * kx46)), ne72, .ref (ad (21 + 2 * kx15))])) := ⟨_, rfl⟩
  have hP : va_P D vcl (fw n ad mem83) H := by rw [e_mem83]; exact hP
  have hD : va_D (Az sz) (fw n ad mem83) := fw_D hD
  have h_mem83 : mem83 ((20 + 2 * kx15)) = .inr (2, [.int (k67), .int (lo68), .int (hi69), as70, .ref (ad (20 + 2 * kx46)), ne72, .ref (ad (21 + 2 * kx15))]) := by rw [e_mem83, va_up_self]
  have hh84 := (va_up_ne mem45 (.inr (2, [.int (k67), .int (lo68), .int (hi69), as70, .ref (ad (20 + 2 * kx46)), ne72, .ref (ad (21 + 2 * kx15))])) (show (222 : Nat) ≠ (20 + 2 * kx15) by first | decide | assumption | omega)).trans h9_57
  rw [← e_mem83] at hh84
  have hh85 := (va_up_ne mem45 (.inr (2, [.int (k67), .int (lo68), .int (hi69), as70, .ref (ad (20 + 2 * kx46)), ne72, .ref (ad (21 + 2 * kx15))])) (show (1 : Nat) ≠ (20 + 2 * kx15) by first | decide | assumption | omega)).trans h1_58
  rw [← e_mem83] at hh85
  have hh86 := (va_up_ne mem45 (.inr (2, [.int (k67), .int (lo68), .int (hi69), as70, .ref (ad (20 + 2 * kx46)), ne72, .ref (ad (21 + 2 * kx15))])) (show (5 : Nat) ≠ (20 + 2 * kx15) by first | decide | assumption | omega)).trans h5_60
  rw [← e_mem83] at hh86
  have hh87 := (va_up_ne mem45 (.inr (2, [.int (k67), .int (lo68), .int (hi69), as70, .ref (ad (20 + 2 * kx46)), ne72, .ref (ad (21 + 2 * kx15))])) (show (220 : Nat) ≠ (20 + 2 * kx15) by first | decide | assumption | omega)).trans h220_64
  rw [← e_mem83] at hh87
  have hh88 := (va_up_ne mem45 (.inr (2, [.int (k67), .int (lo68), .int (hi69), as70, .ref (ad (20 + 2 * kx46)), ne72, .ref (ad (21 + 2 * kx15))])) (show ((20 + 2 * kx46) : Nat) ≠ (20 + 2 * kx15) by first | decide | assumption | omega)).trans he_81
  rw [← e_mem83] at hh88
  have hRS89 : RS cy ad lim rc47 ec48 m0 mem83 := by rw [e_mem83]; exact hRS49.mk (by omega) (hRS49.1.upEl (by omega) (fun q9 => ⟨(ho_74 q9).1, Or.inr ⟨kx46, by omega, by omega, rfl⟩, (ho_74 q9).2.2⟩))
  refine lv_iconst (v := 0) Bx.1 Bx.2.1 d_Rd_readSequence_17 (by decide) ?_
  refine lv_istore (lv' := [(4, .int (0)), (3, .ref (ad (20 + 2 * kx46))), (2, .ref (ad (20 + 2 * kx15))), (0, .ref (ad 222)), (1, .int (5))]) Bx.1 Bx.2.1 d_Rd_readSequence_18 hl (by decide) rfl (fun ls hl => ?_)
  have loop90 : ∀ (d : Nat) (mem : Nat → va_E) (rcl ecl : Nat) (ls : Array Slot) (H : Heap) (locs : List Loc) (la : Nat) (k9 : Int32), ((240 : Int32).toInt - (k9).toInt).toNat < d → RS cy ad lim rcl ecl m0 mem → kx15 < ecl ∧ la < ecl ∧ rc ≤ rcl → va_P D vcl (fw n ad mem) H → va_D (Az sz) (fw n ad mem) → va_S (Az sz) s.heap H locs → lv_has ls 5 [(4, .int (k9)), (3, .ref (ad (20 + 2 * la))), (2, .ref (ad (20 + 2 * kx15))), (0, .ref (ad 222)), (1, .int (5))] → W p l e (headSpec (Cond.code y_Rd_readSequence c_Rd_readSequence 5 (some (.object "AbnfChart$Element")) :: tg) ({ frames := 24, cells := 1, slots := 6, locals := 562 } : Room)).room s m [.ref (ad 222), .int (5)].toArray below meth c H locs 0 0 (vx_MQ below (QX (QR (fun r mem' => ∃ k rc' ec' : Nat, r = ad (20 + 2 * k) ∧ ec ≤ k ∧ k < ec' ∧ rc ≤ rc' ∧ RS cy ad lim rc' ec' m0 mem') (PP D n ad) (Az sz))) (XQ D sz n ad (fun X mem' => (X = cIA ∨ X = cIS) ∧ ∃ rc' ec' : Nat, RS cy ad lim rc' ec' m0 mem')) [.ref (ad 222), .int (5)].toArray s 1 6 (Az sz)) (F0 m 20 ls []) := by
    intro d
    induction d with
    | zero => intro mem rcl ecl ls H locs la k9 hmeas; exact absurd hmeas (Nat.not_lt_zero _)
    | succ d ih =>
      intro mem rcl ecl ls H locs la k9 hmeas hRS hx0 hP hD hS hl
      have hbd := hRS.1.1
      obtain ⟨at91, ft92, h9_93⟩ := hRS.2.1
      have h1_94 : mem 1 = .inr (0, [.ref (ad 2), .int (nI Z)]) := (hRS.2.2 1 (by omega)).trans hT.1
      have h2_95 : mem 2 = .inl (cy 0, 240, .inl f) := (hRS.2.2 2 (by omega)).trans hT.2.2
      have h5_96 := hRS.1.2.1
      have hbd102 := hRS.1.1
      obtain ⟨S97, g98, hS_99, h220_100, h221_101⟩ := hRS.1.2.2.2.2.2.2
      obtain ⟨k103, lo104, hi105, as106, pa107, ne108, he_109, ho_110⟩ := (hRS.1.2.2.2.2.2.1 la (by omega)).1
      refine lv_iload Bx.1 Bx.2.1 d_Rd_readSequence_20 (lv_at hl 0 rfl) ?_
      refine lv_sipush (v := 240) Bx.1 Bx.2.1 d_Rd_readSequence_22 (by decide) ?_
      refine lv_icmp_ge Bx.1 Bx.2.1 d_Rd_readSequence_25 rfl (fun hk => ?_) (fun hk => ?_)
      · refine lv_aload_n Bx.1 Bx.2.1 d_Rd_readSequence_65 rfl (lv_at hl 2 rfl) ?_
        exact x_aret hx hb hlocks hr (⟨kx15, rcl, ecl, rfl, by omega, by omega, by omega, hRS⟩) hP hS d_Rd_readSequence_66
      · refine lv_aload_n Bx.1 Bx.2.1 d_Rd_readSequence_28 rfl (lv_at hl 3 rfl) ?_
        refine f_callVi (na := 0) (As := []) (rest := []) Bx hml E hP hD hS (by omega) h9_93 rfl (m_Rd_readGap l hn hT hRS) kw_397 kw_399 sel_Rd_readGap kw_6 kw_400 (by decide +kernel) ⟨rfl, rfl⟩ ⟨Nat.le_of_ble_eq_true rfl, Nat.le_of_ble_eq_true rfl⟩ rfl hl.1 (Nat.le_of_ble_eq_true rfl) d_Rd_readSequence_29 ⟨Nat.le_of_ble_eq_true rfl, Nat.le_of_ble_eq_true rfl⟩ (fun r112 mem113 H locs hRS111 hP hS => ?_)
        have hD : va_D (Az sz) (fw n ad mem113) := fw_D hD
        obtain ⟨at114, ft115, h9_116⟩ := hRS111.2.1
        have h1_117 : mem113 1 = .inr (0, [.ref (ad 2), .int (nI Z)]) := (hRS111.2.2 1 (by omega)).trans hT.1
        have h2_118 : mem113 2 = .inl (cy 0, 240, .inl f) := (hRS111.2.2 2 (by omega)).trans hT.2.2
        have h5_119 := hRS111.1.2.1
        have hbd125 := hRS111.1.1
        obtain ⟨S120, g121, hS_122, h220_123, h221_124⟩ := hRS111.1.2.2.2.2.2.2
        obtain ⟨k126, lo127, hi128, as129, pa130, ne131, he_132, ho_133⟩ := (hRS111.1.2.2.2.2.2.1 la (by omega)).1
        refine lv_if_eq Bx.1 Bx.2.1 d_Rd_readSequence_32 rfl (fun h8 => ?_) (fun h8 => ?_)
        · refine lv_aload_n Bx.1 Bx.2.1 d_Rd_readSequence_65 rfl (lv_at hl 2 rfl) ?_
          exact x_aret hx hb hlocks hr (⟨kx15, rcl, ecl, rfl, by omega, by omega, by omega, hRS111⟩) hP hS d_Rd_readSequence_66
        · refine lv_aload_n Bx.1 Bx.2.1 d_Rd_readSequence_35 rfl (lv_at hl 3 rfl) ?_
          refine f_callVi (na := 0) (As := []) (rest := []) Bx hml E hP hD hS (by omega) h9_116 rfl (m_Rd_peek l hn hT hRS111) kw_353 kw_355 sel_Rd_peek kw_6 kw_356 (by decide +kernel) ⟨rfl, rfl⟩ ⟨Nat.le_of_ble_eq_true rfl, Nat.le_of_ble_eq_true rfl⟩ rfl hl.1 (Nat.le_of_ble_eq_true rfl) d_Rd_readSequence_36 ⟨Nat.le_of_ble_eq_true rfl, Nat.le_of_ble_eq_true rfl⟩ (fun r134 mem135 H locs hq hP hS => ?_)
          have hD : va_D (Az sz) (fw n ad mem135) := fw_D hD
          rw [hq] at hP hD
          refine f_callSi (na := 1) (As := [.int (r134)]) (rest := []) Bx hml E.2.1 (m_Rd_beginsRepetition l (r134)) kw_413 kw_414 kw_6 kw_415 (by decide +kernel) ⟨rfl, rfl⟩ ⟨Nat.le_of_ble_eq_true rfl, Nat.le_of_ble_eq_true rfl⟩ rfl hl.1 (Nat.le_of_ble_eq_true rfl) d_Rd_readSequence_39 ⟨Nat.le_of_ble_eq_true rfl, Nat.le_of_ble_eq_true rfl⟩ (fun r137 hs136 => ?_)
          refine lv_if_eq Bx.1 Bx.2.1 d_Rd_readSequence_42 rfl (fun h8 => ?_) (fun h8 => ?_)
          · refine lv_aload_n Bx.1 Bx.2.1 d_Rd_readSequence_65 rfl (lv_at hl 2 rfl) ?_
            exact x_aret hx hb hlocks hr (⟨kx15, rcl, ecl, rfl, by omega, by omega, by omega, hRS111⟩) hP hS d_Rd_readSequence_66
          · refine lv_aload_n Bx.1 Bx.2.1 d_Rd_readSequence_45 rfl (lv_at hl 1 rfl) ?_
            refine lv_aload_n Bx.1 Bx.2.1 d_Rd_readSequence_46 rfl (lv_at hl 3 rfl) ?_
            refine lv_iload_n Bx.1 Bx.2.1 d_Rd_readSequence_47 rfl (lv_at hl 4 rfl) ?_
            refine f_xVr (na := 1) (As := [.int (5)]) (rest := [.ref (ad (20 + 2 * la))]) Bx hml E hP hD hS (by omega) h9_116 rfl (m_Rd_readRepetition_5 l hlt hn hT hRS111) kw_439 kw_441 sel_Rd_readRepetition kw_6 kw_442 (by decide +kernel) ⟨rfl, rfl⟩ ⟨Nat.le_of_ble_eq_true rfl, Nat.le_of_ble_eq_true rfl⟩ rfl hl.1 (Nat.le_of_ble_eq_true rfl) d_Rd_readSequence_48 ⟨Nat.le_of_ble_eq_true rfl, Nat.le_of_ble_eq_true rfl⟩ (fun X ce q9 memx H locs hx9 hP hS g1 g2 g3 => f_out hlocks hno hP hS g1 g2 g3 ⟨Nat.le_of_ble_eq_true rfl, Nat.le_of_ble_eq_true rfl⟩ hx9) (fun r138 mem139 H locs hq hP hS => ?_)
            have hD : va_D (Az sz) (fw n ad mem139) := fw_D hD
            obtain ⟨kx140, rc141, ec142, hr9144, hb145, hb146, hb147, hRS143⟩ := hq
            subst hr9144
            have hbd148 := hRS143.1.1
            obtain ⟨at149, ft150, h9_151⟩ := hRS143.2.1
            have h1_152 : mem139 1 = .inr (0, [.ref (ad 2), .int (nI Z)]) := (hRS143.2.2 1 (by omega)).trans hT.1
            have h2_153 : mem139 2 = .inl (cy 0, 240, .inl f) := (hRS143.2.2 2 (by omega)).trans hT.2.2
            have h5_154 := hRS143.1.2.1
            have hbd160 := hRS143.1.1
            obtain ⟨S155, g156, hS_157, h220_158, h221_159⟩ := hRS143.1.2.2.2.2.2.2
            obtain ⟨k161, lo162, hi163, as164, pa165, ne166, he_167, ho_168⟩ := (hRS143.1.2.2.2.2.2.1 la (by omega)).1
            obtain ⟨k169, lo170, hi171, as172, pa173, ne174, he_175, ho_176⟩ := (hRS143.1.2.2.2.2.2.1 kx140 (by omega)).1
            refine f_putN Bx hP hD hS (by omega) he_167 rfl inEl tyEl okEl nmEl 5 (by decide) kw_91 rfl rfl rfl rfl (Nat.le_of_ble_eq_true rfl) d_Rd_readSequence_51 (fun H locs hP hS => ?_)
            obtain ⟨mem177, e_mem177⟩ : ∃ z, z = va_up mem139 ((20 + 2 * la)) (.inr (2, [.int (k161), .int (lo162), .int (hi163), as164, pa165, .ref (ad (20 + 2 * kx140)), .ref (ad (21 + 2 * la))])) := ⟨_, rfl⟩
            have hP : va_P D vcl (fw n ad mem177) H := by rw [e_mem177]; exact hP
            have hD : va_D (Az sz) (fw n ad mem177) := fw_D hD
            have h_mem177 : mem177 ((20 + 2 * la)) = .inr (2, [.int (k161), .int (lo162), .int (hi163), as164, pa165, .ref (ad (20 + 2 * kx140)), .ref (ad (21 + 2 * la))]) := by rw [e_mem177, va_up_self]
            have hh178 := (va_up_ne mem139 (.inr (2, [.int (k161), .int (lo162), .int (hi163), as164, pa165, .ref (ad (20 + 2 * kx140)), .ref (ad (21 + 2 * la))])) (show (222 : Nat) ≠ (20 + 2 * la) by first | decide | assumption | omega)).trans h9_151
            rw [← e_mem177] at hh178
            have hh179 := (va_up_ne mem139 (.inr (2, [.int (k161), .int (lo162), .int (hi163), as164, pa165, .ref (ad (20 + 2 * kx140)), .ref (ad (21 + 2 * la))])) (show (1 : Nat) ≠ (20 + 2 * la) by first | decide | assumption | omega)).trans h1_152
            rw [← e_mem177] at hh179
            have hh180 := (va_up_ne mem139 (.inr (2, [.int (k161), .int (lo162), .int (hi163), as164, pa165, .ref (ad (20 + 2 * kx140)), .ref (ad (21 + 2 * la))])) (show (5 : Nat) ≠ (20 + 2 * la) by first | decide | assumption | omega)).trans h5_154
            rw [← e_mem177] at hh180
            have hh181 := (va_up_ne mem139 (.inr (2, [.int (k161), .int (lo162), .int (hi163), as164, pa165, .ref (ad (20 + 2 * kx140)), .ref (ad (21 + 2 * la))])) (show (220 : Nat) ≠ (20 + 2 * la) by first | decide | assumption | omega)).trans h220_158
            rw [← e_mem177] at hh181
            have hh182 := (va_up_ne mem139 (.inr (2, [.int (k161), .int (lo162), .int (hi163), as164, pa165, .ref (ad (20 + 2 * kx140)), .ref (ad (21 + 2 * la))])) (show ((20 + 2 * kx140) : Nat) ≠ (20 + 2 * la) by first | decide | assumption | omega)).trans he_175
            rw [← e_mem177] at hh182
            have hRS183 : RS cy ad lim rc141 ec142 m0 mem177 := by rw [e_mem177]; exact hRS143.mk (by omega) (hRS143.1.upEl (by omega) (fun q9 => ⟨(ho_168 q9).1, (ho_168 q9).2.1, Or.inr ⟨kx140, by omega, by omega, rfl⟩⟩))
            refine lv_aload_n Bx.1 Bx.2.1 d_Rd_readSequence_54 rfl (lv_at hl 1 rfl) ?_
            refine f_getN Bx hP (by omega) h_mem177 rfl inEl 5 (by decide) kw_91 rfl rfl d_Rd_readSequence_55 ?_
            refine lv_astore_n (lv' := [(3, .ref (ad (20 + 2 * kx140))), (4, .int (k9)), (2, .ref (ad (20 + 2 * kx15))), (0, .ref (ad 222)), (1, .int (5))]) Bx.1 Bx.2.1 d_Rd_readSequence_58 rfl hl (by decide) rfl (fun ls hl => ?_)
            refine lv_iinc (lv' := [(4, .int ((k9 + (1)))), (3, .ref (ad (20 + 2 * kx140))), (2, .ref (ad (20 + 2 * kx15))), (0, .ref (ad 222)), (1, .int (5))]) Bx.1 Bx.2.1 d_Rd_readSequence_59 hl (k := 1) rfl rfl (by decide) rfl (fun ls hl => ?_)
            refine lv_goto Bx.1 Bx.2.1 d_Rd_readSequence_62 rfl ?_
            exact ih _ _ _ _ _ _ _ _ (by have := inc_meas hk; omega) hRS183 ⟨by omega, by omega, by omega⟩ hP hD hS (lv_sub hl [0, 1, 2, 3, 4] rfl)
  exact loop90 _ _ _ _ _ _ _ _ _ (Nat.lt_succ_self _) hRS89 ⟨by omega, by omega, by omega⟩ hP hD hS (lv_sub hl [0, 1, 2, 3, 4] rfl)
set_option maxHeartbeats 4000000 in
set_option maxRecDepth 100000 in
theorem m_Rd_readAlternatives_5 (l : Launch) {D : va_G} {cy : Nat → ClassId} {sz n : Nat} {ad : Nat → Nat} {mem : Nat → va_E} {Z : Nat} {f : Nat → Int32} {lim rc ec : Nat} {m0 : Nat → va_E} (hlt : l.stackTraces = false) (hn : 224 ≤ n) (hT : TX cy ad Z f m0) (hRS : RS cy ad lim rc ec m0 mem) : NXr l D cy sz n ad y_Rd_readAlternatives c_Rd_readAlternatives 5 (some (.object "AbnfChart$Element")) ({ frames := 25, cells := 1, slots := 6, locals := 588 } : Room) mem [.ref (ad 222), .int (5)] (fun r mem' => ∃ k rc' ec' : Nat, r = ad (20 + 2 * k) ∧ ec ≤ k ∧ k < ec' ∧ rc ≤ rc' ∧ RS cy ad lim rc' ec' m0 mem') (fun X mem' => (X = cIA ∨ X = cIS) ∧ ∃ rc' ec' : Nat, RS cy ad lim rc' ec' m0 mem') := by
  refine vx_ofW (cc := c_Rd_readAlternatives) (maxL := 5) (ret := (some (.object "AbnfChart$Element"))) (by decide) rfl ?_
  intro p e s m args below meth c s₁ B hml hno hv
  obtain ⟨rfl, E, hP, hD⟩ := hv
  have hx := B.exec
  have hb := B.bytes
  have hr := B.returns
  have hlocks := B.notSynchronized
  have Bx : MB p s m [.ref (ad 222), .int (5)].toArray c c_Rd_readAlternatives "AbnfChart$Reader" D cy := ⟨hx, hb, tb_all (atoms_spec B.pre) E.2.1, findClass_of_methodNamed B.named, E.1⟩
  have hS : va_S (Az sz) s.heap s.heap [] := va_S.rf
  have hl := lv_entry ([.ref (ad 222), .int (5)]) (n := 5) (Nat.le_of_ble_eq_true rfl)
  rw [lg_entry_eq]
  generalize (lg_sl ([.ref (ad 222), .int (5)]) ++ List.replicate (5 - (lg_sl ([.ref (ad 222), .int (5)])).length) Slot.unset).toArray = ls at hl ⊢
  have hl : lv_has ls 5 [(0, .ref (ad 222)), (1, .int (5))] := hl
  obtain ⟨at1, ft2, h9_3⟩ := hRS.2.1
  have h1_4 : mem 1 = .inr (0, [.ref (ad 2), .int (nI Z)]) := (hRS.2.2 1 (by omega)).trans hT.1
  have h2_5 : mem 2 = .inl (cy 0, 240, .inl f) := (hRS.2.2 2 (by omega)).trans hT.2.2
  have h5_6 := hRS.1.2.1
  have hbd12 := hRS.1.1
  obtain ⟨S7, g8, hS_9, h220_10, h221_11⟩ := hRS.1.2.2.2.2.2.2
  refine lv_aload_n Bx.1 Bx.2.1 d_Rd_readAlternatives_0 rfl (lv_at hl 0 rfl) ?_
  refine lv_iconst (v := 0) Bx.1 Bx.2.1 d_Rd_readAlternatives_1 (by decide) ?_
  refine f_xVr (na := 1) (As := [.int (0)]) (rest := []) Bx hml E hP hD hS (by omega) h9_3 rfl (m_Rd_beginRow l hlt hn hT hRS) kw_409 kw_411 sel_Rd_beginRow kw_6 kw_412 (by decide +kernel) ⟨rfl, rfl⟩ ⟨Nat.le_of_ble_eq_true rfl, Nat.le_of_ble_eq_true rfl⟩ rfl hl.1 (Nat.le_of_ble_eq_true rfl) d_Rd_readAlternatives_2 ⟨Nat.le_of_ble_eq_true rfl, Nat.le_of_ble_eq_true rfl⟩ (fun X ce q9 memx H locs hx9 hP hS g1 g2 g3 => f_out hlocks hno hP hS g1 g2 g3 ⟨Nat.le_of_ble_eq_true rfl, Nat.le_of_ble_eq_true rfl⟩ hx9) (fun r13 mem14 H locs hq hP hS => ?_)
  have hD : va_D (Az sz) (fw n ad mem14) := fw_D hD
  obtain ⟨kx15, rc16, ec17, hr919, hb20, hb21, hb22, hRS18⟩ := hq
  subst hr919
  have hbd23 := hRS18.1.1
  obtain ⟨at24, ft25, h9_26⟩ := hRS18.2.1
  have h1_27 : mem14 1 = .inr (0, [.ref (ad 2), .int (nI Z)]) := (hRS18.2.2 1 (by omega)).trans hT.1
  have h2_28 : mem14 2 = .inl (cy 0, 240, .inl f) := (hRS18.2.2 2 (by omega)).trans hT.2.2
  have h5_29 := hRS18.1.2.1
  have hbd35 := hRS18.1.1
  obtain ⟨S30, g31, hS_32, h220_33, h221_34⟩ := hRS18.1.2.2.2.2.2.2
  obtain ⟨k36, lo37, hi38, as39, pa40, ne41, he_42, ho_43⟩ := (hRS18.1.2.2.2.2.2.1 kx15 (by omega)).1
  refine lv_astore_n (lv' := [(2, .ref (ad (20 + 2 * kx15))), (0, .ref (ad 222)), (1, .int (5))]) Bx.1 Bx.2.1 d_Rd_readAlternatives_5 rfl hl (by decide) rfl (fun ls hl => ?_)
  refine lv_aload_n Bx.1 Bx.2.1 d_Rd_readAlternatives_6 rfl (lv_at hl 1 rfl) ?_
  refine lv_iload_n Bx.1 Bx.2.1 d_Rd_readAlternatives_7 rfl (lv_at hl 2 rfl) ?_
  refine f_xVr (na := 1) (As := [.int (5)]) (rest := []) Bx hml E hP hD hS (by omega) h9_26 rfl (m_Rd_readSequence_5 l hlt hn hT hRS18) kw_435 kw_437 sel_Rd_readSequence kw_6 kw_438 (by decide +kernel) ⟨rfl, rfl⟩ ⟨Nat.le_of_ble_eq_true rfl, Nat.le_of_ble_eq_true rfl⟩ rfl hl.1 (Nat.le_of_ble_eq_true rfl) d_Rd_readAlternatives_8 ⟨Nat.le_of_ble_eq_true rfl, Nat.le_of_ble_eq_true rfl⟩ (fun X ce q9 memx H locs hx9 hP hS g1 g2 g3 => f_out hlocks hno hP hS g1 g2 g3 ⟨Nat.le_of_ble_eq_true rfl, Nat.le_of_ble_eq_true rfl⟩ hx9) (fun r44 mem45 H locs hq hP hS => ?_)
  have hD : va_D (Az sz) (fw n ad mem45) := fw_D hD
  obtain ⟨kx46, rc47, ec48, hr950, hb51, hb52, hb53, hRS49⟩ := hq
  subst hr950
  have hbd54 := hRS49.1.1
  obtain ⟨at55, ft56, h9_57⟩ := hRS49.2.1
  have h1_58 : mem45 1 = .inr (0, [.ref (ad 2), .int (nI Z)]) := (hRS49.2.2 1 (by omega)).trans hT.1
  have h2_59 : mem45 2 = .inl (cy 0, 240, .inl f) := (hRS49.2.2 2 (by omega)).trans hT.2.2
  have h5_60 := hRS49.1.2.1
  have hbd66 := hRS49.1.1
  obtain ⟨S61, g62, hS_63, h220_64, h221_65⟩ := hRS49.1.2.2.2.2.2.2
  obtain ⟨k67, lo68, hi69, as70, pa71, ne72, he_73, ho_74⟩ := (hRS49.1.2.2.2.2.2.1 kx15 (by omega)).1
  obtain ⟨k75, lo76, hi77, as78, pa79, ne80, he_81, ho_82⟩ := (hRS49.1.2.2.2.2.2.1 kx46 (by omega)).1
  refine lv_astore_n (lv' := [(3, .ref (ad (20 + 2 * kx46))), (2, .ref (ad (20 + 2 * kx15))), (0, .ref (ad 222)), (1, .int (5))]) Bx.1 Bx.2.1 d_Rd_readAlternatives_11 rfl hl (by decide) rfl (fun ls hl => ?_)
  refine lv_aload_n Bx.1 Bx.2.1 d_Rd_readAlternatives_12 rfl (lv_at hl 1 rfl) ?_
  refine lv_aload_n Bx.1 Bx.2.1 d_Rd_readAlternatives_13 rfl (lv_at hl 0 rfl) ?_
  refine f_putN Bx hP hD hS (by omega) he_73 rfl inEl tyEl okEl nmEl 4 (by decide) kw_87 rfl rfl rfl rfl (Nat.le_of_ble_eq_true rfl) d_Rd_readAlternatives_14 (fun H locs hP hS => ?_)
  obtain ⟨mem83, e_mem83⟩ : ∃ z, z = va_up mem45 ((20 + 2 * kx15)) (.inr (2, [.int (k67), .int (lo68), .int (hi69), as70, .ref (ad (20 + 2 * kx46)), ne72, .ref (ad (21 + 2 * kx15))])) := ⟨_, rfl⟩
  have hP : va_P D vcl (fw n ad mem83) H := by rw [e_mem83]; exact hP
  have hD : va_D (Az sz) (fw n ad mem83) := fw_D hD
  have h_mem83 : mem83 ((20 + 2 * kx15)) = .inr (2, [.int (k67), .int (lo68), .int (hi69), as70, .ref (ad (20 + 2 * kx46)), ne72, .ref (ad (21 + 2 * kx15))]) := by rw [e_mem83, va_up_self]
  have hh84 := (va_up_ne mem45 (.inr (2, [.int (k67), .int (lo68), .int (hi69), as70, .ref (ad (20 + 2 * kx46)), ne72, .ref (ad (21 + 2 * kx15))])) (show (222 : Nat) ≠ (20 + 2 * kx15) by first | decide | assumption | omega)).trans h9_57
  rw [← e_mem83] at hh84
  have hh85 := (va_up_ne mem45 (.inr (2, [.int (k67), .int (lo68), .int (hi69), as70, .ref (ad (20 + 2 * kx46)), ne72, .ref (ad (21 + 2 * kx15))])) (show (1 : Nat) ≠ (20 + 2 * kx15) by first | decide | assumption | omega)).trans h1_58
  rw [← e_mem83] at hh85
  have hh86 := (va_up_ne mem45 (.inr (2, [.int (k67), .int (lo68), .int (hi69), as70, .ref (ad (20 + 2 * kx46)), ne72, .ref (ad (21 + 2 * kx15))])) (show (5 : Nat) ≠ (20 + 2 * kx15) by first | decide | assumption | omega)).trans h5_60
  rw [← e_mem83] at hh86
  have hh87 := (va_up_ne mem45 (.inr (2, [.int (k67), .int (lo68), .int (hi69), as70, .ref (ad (20 + 2 * kx46)), ne72, .ref (ad (21 + 2 * kx15))])) (show (220 : Nat) ≠ (20 + 2 * kx15) by first | decide | assumption | omega)).trans h220_64
  rw [← e_mem83] at hh87
  have hh88 := (va_up_ne mem45 (.inr (2, [.int (k67), .int (lo68), .int (hi69), as70, .ref (ad (20 + 2 * kx46)), ne72, .ref (ad (21 + 2 * kx15))])) (show ((20 + 2 * kx46) : Nat) ≠ (20 + 2 * kx15) by first | decide | assumption | omega)).trans he_81
  rw [← e_mem83] at hh88
  have hRS89 : RS cy ad lim rc47 ec48 m0 mem83 := by rw [e_mem83]; exact hRS49.mk (by omega) (hRS49.1.upEl (by omega) (fun q9 => ⟨(ho_74 q9).1, Or.inr ⟨kx46, by omega, by omega, rfl⟩, (ho_74 q9).2.2⟩))
  refine lv_iconst (v := 0) Bx.1 Bx.2.1 d_Rd_readAlternatives_17 (by decide) ?_
  refine lv_istore (lv' := [(4, .int (0)), (3, .ref (ad (20 + 2 * kx46))), (2, .ref (ad (20 + 2 * kx15))), (0, .ref (ad 222)), (1, .int (5))]) Bx.1 Bx.2.1 d_Rd_readAlternatives_18 hl (by decide) rfl (fun ls hl => ?_)
  have loop90 : ∀ (d : Nat) (mem : Nat → va_E) (rcl ecl : Nat) (ls : Array Slot) (H : Heap) (locs : List Loc) (la : Nat) (k9 : Int32), ((240 : Int32).toInt - (k9).toInt).toNat < d → RS cy ad lim rcl ecl m0 mem → kx15 < ecl ∧ la < ecl ∧ rc ≤ rcl → va_P D vcl (fw n ad mem) H → va_D (Az sz) (fw n ad mem) → va_S (Az sz) s.heap H locs → lv_has ls 5 [(4, .int (k9)), (3, .ref (ad (20 + 2 * la))), (2, .ref (ad (20 + 2 * kx15))), (0, .ref (ad 222)), (1, .int (5))] → W p l e (headSpec (Cond.code y_Rd_readAlternatives c_Rd_readAlternatives 5 (some (.object "AbnfChart$Element")) :: tg) ({ frames := 25, cells := 1, slots := 6, locals := 588 } : Room)).room s m [.ref (ad 222), .int (5)].toArray below meth c H locs 0 0 (vx_MQ below (QX (QR (fun r mem' => ∃ k rc' ec' : Nat, r = ad (20 + 2 * k) ∧ ec ≤ k ∧ k < ec' ∧ rc ≤ rc' ∧ RS cy ad lim rc' ec' m0 mem') (PP D n ad) (Az sz))) (XQ D sz n ad (fun X mem' => (X = cIA ∨ X = cIS) ∧ ∃ rc' ec' : Nat, RS cy ad lim rc' ec' m0 mem')) [.ref (ad 222), .int (5)].toArray s 1 6 (Az sz)) (F0 m 20 ls []) := by
    intro d
    induction d with
    | zero => intro mem rcl ecl ls H locs la k9 hmeas; exact absurd hmeas (Nat.not_lt_zero _)
    | succ d ih =>
      intro mem rcl ecl ls H locs la k9 hmeas hRS hx0 hP hD hS hl
      have hbd := hRS.1.1
      obtain ⟨at91, ft92, h9_93⟩ := hRS.2.1
      have h1_94 : mem 1 = .inr (0, [.ref (ad 2), .int (nI Z)]) := (hRS.2.2 1 (by omega)).trans hT.1
      have h2_95 : mem 2 = .inl (cy 0, 240, .inl f) := (hRS.2.2 2 (by omega)).trans hT.2.2
      have h5_96 := hRS.1.2.1
      have hbd102 := hRS.1.1
      obtain ⟨S97, g98, hS_99, h220_100, h221_101⟩ := hRS.1.2.2.2.2.2.2
      obtain ⟨k103, lo104, hi105, as106, pa107, ne108, he_109, ho_110⟩ := (hRS.1.2.2.2.2.2.1 la (by omega)).1
      refine lv_iload Bx.1 Bx.2.1 d_Rd_readAlternatives_20 (lv_at hl 0 rfl) ?_
      refine lv_sipush (v := 240) Bx.1 Bx.2.1 d_Rd_readAlternatives_22 (by decide) ?_
      refine lv_icmp_ge Bx.1 Bx.2.1 d_Rd_readAlternatives_25 rfl (fun hk => ?_) (fun hk => ?_)
      · refine lv_aload_n Bx.1 Bx.2.1 d_Rd_readAlternatives_72 rfl (lv_at hl 2 rfl) ?_
        exact x_aret hx hb hlocks hr (⟨kx15, rcl, ecl, rfl, by omega, by omega, by omega, hRS⟩) hP hS d_Rd_readAlternatives_73
      · refine lv_aload_n Bx.1 Bx.2.1 d_Rd_readAlternatives_28 rfl (lv_at hl 3 rfl) ?_
        refine f_callVi (na := 0) (As := []) (rest := []) Bx hml E hP hD hS (by omega) h9_93 rfl (m_Rd_peek l hn hT hRS) kw_353 kw_355 sel_Rd_peek kw_6 kw_356 (by decide +kernel) ⟨rfl, rfl⟩ ⟨Nat.le_of_ble_eq_true rfl, Nat.le_of_ble_eq_true rfl⟩ rfl hl.1 (Nat.le_of_ble_eq_true rfl) d_Rd_readAlternatives_29 ⟨Nat.le_of_ble_eq_true rfl, Nat.le_of_ble_eq_true rfl⟩ (fun r111 mem112 H locs hq hP hS => ?_)
        have hD : va_D (Az sz) (fw n ad mem112) := fw_D hD
        rw [hq] at hP hD
        refine lv_bipush (v := 47) Bx.1 Bx.2.1 d_Rd_readAlternatives_32 (by decide) ?_
        refine lv_icmp_ne Bx.1 Bx.2.1 d_Rd_readAlternatives_34 rfl (fun h8 => ?_) (fun h8 => ?_)
        · refine lv_aload_n Bx.1 Bx.2.1 d_Rd_readAlternatives_72 rfl (lv_at hl 2 rfl) ?_
          exact x_aret hx hb hlocks hr (⟨kx15, rcl, ecl, rfl, by omega, by omega, by omega, hRS⟩) hP hS d_Rd_readAlternatives_73
        · refine lv_aload_n Bx.1 Bx.2.1 d_Rd_readAlternatives_37 rfl (lv_at hl 3 rfl) ?_
          refine lv_dup Bx.1 Bx.2.1 d_Rd_readAlternatives_38 rfl ?_
          refine f_get Bx hP (by omega) h9_93 rfl inRd 2 (by decide) kw_146 rfl rfl d_Rd_readAlternatives_39 ?_
          refine lv_iconst (v := 1) Bx.1 Bx.2.1 d_Rd_readAlternatives_42 (by decide) ?_
          refine lv_iadd Bx.1 Bx.2.1 d_Rd_readAlternatives_43 ?_
          refine f_put Bx hP hD hS (by omega) h9_93 rfl inRd tyRd okRd nmRd 2 (by decide) kw_146 rfl rfl rfl rfl (Nat.le_of_ble_eq_true rfl) d_Rd_readAlternatives_44 (fun H locs hP hS => ?_)
          obtain ⟨mem113, e_mem113⟩ : ∃ z, z = va_up mem (222) (.inr (4, [.ref (ad 1), .ref (ad 5), .int (at91 + 1), .int (ft92)])) := ⟨_, rfl⟩
          have hP : va_P D vcl (fw n ad mem113) H := by rw [e_mem113]; exact hP
          have hD : va_D (Az sz) (fw n ad mem113) := fw_D hD
          have h_mem113 : mem113 (222) = .inr (4, [.ref (ad 1), .ref (ad 5), .int (at91 + 1), .int (ft92)]) := by rw [e_mem113, va_up_self]
          have hh114 := (va_up_ne mem (.inr (4, [.ref (ad 1), .ref (ad 5), .int (at91 + 1), .int (ft92)])) (show (1 : Nat) ≠ 222 by first | decide | assumption | omega)).trans h1_94
          rw [← e_mem113] at hh114
          have hh115 := (va_up_ne mem (.inr (4, [.ref (ad 1), .ref (ad 5), .int (at91 + 1), .int (ft92)])) (show (5 : Nat) ≠ 222 by first | decide | assumption | omega)).trans h5_96
          rw [← e_mem113] at hh115
          have hh116 := (va_up_ne mem (.inr (4, [.ref (ad 1), .ref (ad 5), .int (at91 + 1), .int (ft92)])) (show (220 : Nat) ≠ 222 by first | decide | assumption | omega)).trans h220_100
          rw [← e_mem113] at hh116
          have hh117 := (va_up_ne mem (.inr (4, [.ref (ad 1), .ref (ad 5), .int (at91 + 1), .int (ft92)])) (show ((20 + 2 * la) : Nat) ≠ 222 by first | decide | assumption | omega)).trans he_109
          rw [← e_mem113] at hh117
          have hRS118 : RS cy ad lim rcl ecl m0 mem113 := by rw [e_mem113]; exact hRS.at222
          refine lv_aload_n Bx.1 Bx.2.1 d_Rd_readAlternatives_47 rfl (lv_at hl 3 rfl) ?_
          refine f_callVi (na := 0) (As := []) (rest := []) Bx hml E hP hD hS (by omega) h_mem113 rfl (m_Rd_readGap l hn hT hRS118) kw_397 kw_399 sel_Rd_readGap kw_6 kw_400 (by decide +kernel) ⟨rfl, rfl⟩ ⟨Nat.le_of_ble_eq_true rfl, Nat.le_of_ble_eq_true rfl⟩ rfl hl.1 (Nat.le_of_ble_eq_true rfl) d_Rd_readAlternatives_48 ⟨Nat.le_of_ble_eq_true rfl, Nat.le_of_ble_eq_true rfl⟩ (fun r120 mem121 H locs hRS119 hP hS => ?_)
          have hD : va_D (Az sz) (fw n ad mem121) := fw_D hD
          obtain ⟨at122, ft123, h9_124⟩ := hRS119.2.1
          have h1_125 : mem121 1 = .inr (0, [.ref (ad 2), .int (nI Z)]) := (hRS119.2.2 1 (by omega)).trans hT.1
          have h2_126 : mem121 2 = .inl (cy 0, 240, .inl f) := (hRS119.2.2 2 (by omega)).trans hT.2.2
          have h5_127 := hRS119.1.2.1
          have hbd133 := hRS119.1.1
          obtain ⟨S128, g129, hS_130, h220_131, h221_132⟩ := hRS119.1.2.2.2.2.2.2
          obtain ⟨k134, lo135, hi136, as137, pa138, ne139, he_140, ho_141⟩ := (hRS119.1.2.2.2.2.2.1 la (by omega)).1
          refine lv_pop Bx.1 Bx.2.1 d_Rd_readAlternatives_51 rfl ?_
          refine lv_aload_n Bx.1 Bx.2.1 d_Rd_readAlternatives_52 rfl (lv_at hl 1 rfl) ?_
          refine lv_aload_n Bx.1 Bx.2.1 d_Rd_readAlternatives_53 rfl (lv_at hl 3 rfl) ?_
          refine lv_iload_n Bx.1 Bx.2.1 d_Rd_readAlternatives_54 rfl (lv_at hl 4 rfl) ?_
          refine f_xVr (na := 1) (As := [.int (5)]) (rest := [.ref (ad (20 + 2 * la))]) Bx hml E hP hD hS (by omega) h9_124 rfl (m_Rd_readSequence_5 l hlt hn hT hRS119) kw_435 kw_437 sel_Rd_readSequence kw_6 kw_438 (by decide +kernel) ⟨rfl, rfl⟩ ⟨Nat.le_of_ble_eq_true rfl, Nat.le_of_ble_eq_true rfl⟩ rfl hl.1 (Nat.le_of_ble_eq_true rfl) d_Rd_readAlternatives_55 ⟨Nat.le_of_ble_eq_true rfl, Nat.le_of_ble_eq_true rfl⟩ (fun X ce q9 memx H locs hx9 hP hS g1 g2 g3 => f_out hlocks hno hP hS g1 g2 g3 ⟨Nat.le_of_ble_eq_true rfl, Nat.le_of_ble_eq_true rfl⟩ hx9) (fun r142 mem143 H locs hq hP hS => ?_)
          have hD : va_D (Az sz) (fw n ad mem143) := fw_D hD
          obtain ⟨kx144, rc145, ec146, hr9148, hb149, hb150, hb151, hRS147⟩ := hq
          subst hr9148
          have hbd152 := hRS147.1.1
          obtain ⟨at153, ft154, h9_155⟩ := hRS147.2.1
          have h1_156 : mem143 1 = .inr (0, [.ref (ad 2), .int (nI Z)]) := (hRS147.2.2 1 (by omega)).trans hT.1
          have h2_157 : mem143 2 = .inl (cy 0, 240, .inl f) := (hRS147.2.2 2 (by omega)).trans hT.2.2
          have h5_158 := hRS147.1.2.1
          have hbd164 := hRS147.1.1
          obtain ⟨S159, g160, hS_161, h220_162, h221_163⟩ := hRS147.1.2.2.2.2.2.2
          obtain ⟨k165, lo166, hi167, as168, pa169, ne170, he_171, ho_172⟩ := (hRS147.1.2.2.2.2.2.1 la (by omega)).1
          obtain ⟨k173, lo174, hi175, as176, pa177, ne178, he_179, ho_180⟩ := (hRS147.1.2.2.2.2.2.1 kx144 (by omega)).1
          refine f_putN Bx hP hD hS (by omega) he_171 rfl inEl tyEl okEl nmEl 5 (by decide) kw_91 rfl rfl rfl rfl (Nat.le_of_ble_eq_true rfl) d_Rd_readAlternatives_58 (fun H locs hP hS => ?_)
          obtain ⟨mem181, e_mem181⟩ : ∃ z, z = va_up mem143 ((20 + 2 * la)) (.inr (2, [.int (k165), .int (lo166), .int (hi167), as168, pa169, .ref (ad (20 + 2 * kx144)), .ref (ad (21 + 2 * la))])) := ⟨_, rfl⟩
          have hP : va_P D vcl (fw n ad mem181) H := by rw [e_mem181]; exact hP
          have hD : va_D (Az sz) (fw n ad mem181) := fw_D hD
          have h_mem181 : mem181 ((20 + 2 * la)) = .inr (2, [.int (k165), .int (lo166), .int (hi167), as168, pa169, .ref (ad (20 + 2 * kx144)), .ref (ad (21 + 2 * la))]) := by rw [e_mem181, va_up_self]
          have hh182 := (va_up_ne mem143 (.inr (2, [.int (k165), .int (lo166), .int (hi167), as168, pa169, .ref (ad (20 + 2 * kx144)), .ref (ad (21 + 2 * la))])) (show (222 : Nat) ≠ (20 + 2 * la) by first | decide | assumption | omega)).trans h9_155
          rw [← e_mem181] at hh182
          have hh183 := (va_up_ne mem143 (.inr (2, [.int (k165), .int (lo166), .int (hi167), as168, pa169, .ref (ad (20 + 2 * kx144)), .ref (ad (21 + 2 * la))])) (show (1 : Nat) ≠ (20 + 2 * la) by first | decide | assumption | omega)).trans h1_156
          rw [← e_mem181] at hh183
          have hh184 := (va_up_ne mem143 (.inr (2, [.int (k165), .int (lo166), .int (hi167), as168, pa169, .ref (ad (20 + 2 * kx144)), .ref (ad (21 + 2 * la))])) (show (5 : Nat) ≠ (20 + 2 * la) by first | decide | assumption | omega)).trans h5_158
          rw [← e_mem181] at hh184
          have hh185 := (va_up_ne mem143 (.inr (2, [.int (k165), .int (lo166), .int (hi167), as168, pa169, .ref (ad (20 + 2 * kx144)), .ref (ad (21 + 2 * la))])) (show (220 : Nat) ≠ (20 + 2 * la) by first | decide | assumption | omega)).trans h220_162
          rw [← e_mem181] at hh185
          have hh186 := (va_up_ne mem143 (.inr (2, [.int (k165), .int (lo166), .int (hi167), as168, pa169, .ref (ad (20 + 2 * kx144)), .ref (ad (21 + 2 * la))])) (show ((20 + 2 * kx144) : Nat) ≠ (20 + 2 * la) by first | decide | assumption | omega)).trans he_179
          rw [← e_mem181] at hh186
          have hRS187 : RS cy ad lim rc145 ec146 m0 mem181 := by rw [e_mem181]; exact hRS147.mk (by omega) (hRS147.1.upEl (by omega) (fun q9 => ⟨(ho_172 q9).1, (ho_172 q9).2.1, Or.inr ⟨kx144, by omega, by omega, rfl⟩⟩))
          refine lv_aload_n Bx.1 Bx.2.1 d_Rd_readAlternatives_61 rfl (lv_at hl 1 rfl) ?_
          refine f_getN Bx hP (by omega) h_mem181 rfl inEl 5 (by decide) kw_91 rfl rfl d_Rd_readAlternatives_62 ?_
          refine lv_astore_n (lv' := [(3, .ref (ad (20 + 2 * kx144))), (4, .int (k9)), (2, .ref (ad (20 + 2 * kx15))), (0, .ref (ad 222)), (1, .int (5))]) Bx.1 Bx.2.1 d_Rd_readAlternatives_65 rfl hl (by decide) rfl (fun ls hl => ?_)
          refine lv_iinc (lv' := [(4, .int ((k9 + (1)))), (3, .ref (ad (20 + 2 * kx144))), (2, .ref (ad (20 + 2 * kx15))), (0, .ref (ad 222)), (1, .int (5))]) Bx.1 Bx.2.1 d_Rd_readAlternatives_66 hl (k := 1) rfl rfl (by decide) rfl (fun ls hl => ?_)
          refine lv_goto Bx.1 Bx.2.1 d_Rd_readAlternatives_69 rfl ?_
          exact ih _ _ _ _ _ _ _ _ (by have := inc_meas hk; omega) hRS187 ⟨by omega, by omega, by omega⟩ hP hD hS (lv_sub hl [0, 1, 2, 3, 4] rfl)
  exact loop90 _ _ _ _ _ _ _ _ _ (Nat.lt_succ_self _) hRS89 ⟨by omega, by omega, by omega⟩ hP hD hS (lv_sub hl [0, 1, 2, 3, 4] rfl)
set_option maxHeartbeats 4000000 in
set_option maxRecDepth 100000 in
theorem m_Rd_readBracket_4 (l : Launch) {D : va_G} {cy : Nat → ClassId} {sz n : Nat} {ad : Nat → Nat} {mem : Nat → va_E} {Z : Nat} {f : Nat → Int32} {lim rc ec : Nat} {m0 : Nat → va_E} {en : Int32} (hlt : l.stackTraces = false) (hn : 224 ≤ n) (hT : TX cy ad Z f m0) (hRS : RS cy ad lim rc ec m0 mem) : NXr l D cy sz n ad y_Rd_readBracket c_Rd_readBracket 4 (some (.object "AbnfChart$Element")) ({ frames := 26, cells := 1, slots := 6, locals := 620 } : Room) mem [.ref (ad 222), .int (4), .int (en)] (fun r mem' => ∃ k rc' ec' : Nat, r = ad (20 + 2 * k) ∧ ec ≤ k ∧ k < ec' ∧ rc ≤ rc' ∧ RS cy ad lim rc' ec' m0 mem') (fun X mem' => (X = cIA ∨ X = cIS) ∧ ∃ rc' ec' : Nat, RS cy ad lim rc' ec' m0 mem') := by
  refine vx_ofW (cc := c_Rd_readBracket) (maxL := 4) (ret := (some (.object "AbnfChart$Element"))) (by decide) rfl ?_
  intro p e s m args below meth c s₁ B hml hno hv
  obtain ⟨rfl, E, hP, hD⟩ := hv
  have hx := B.exec
  have hb := B.bytes
  have hr := B.returns
  have hlocks := B.notSynchronized
  have Bx : MB p s m [.ref (ad 222), .int (4), .int (en)].toArray c c_Rd_readBracket "AbnfChart$Reader" D cy := ⟨hx, hb, tb_all (atoms_spec B.pre) E.2.1, findClass_of_methodNamed B.named, E.1⟩
  have hS : va_S (Az sz) s.heap s.heap [] := va_S.rf
  have hl := lv_entry ([.ref (ad 222), .int (4), .int (en)]) (n := 4) (Nat.le_of_ble_eq_true rfl)
  rw [lg_entry_eq]
  generalize (lg_sl ([.ref (ad 222), .int (4), .int (en)]) ++ List.replicate (4 - (lg_sl ([.ref (ad 222), .int (4), .int (en)])).length) Slot.unset).toArray = ls at hl ⊢
  have hl : lv_has ls 4 [(0, .ref (ad 222)), (1, .int (4)), (2, .int (en))] := hl
  obtain ⟨at1, ft2, h9_3⟩ := hRS.2.1
  have h1_4 : mem 1 = .inr (0, [.ref (ad 2), .int (nI Z)]) := (hRS.2.2 1 (by omega)).trans hT.1
  have h2_5 : mem 2 = .inl (cy 0, 240, .inl f) := (hRS.2.2 2 (by omega)).trans hT.2.2
  have h5_6 := hRS.1.2.1
  have hbd12 := hRS.1.1
  obtain ⟨S7, g8, hS_9, h220_10, h221_11⟩ := hRS.1.2.2.2.2.2.2
  refine lv_aload_n Bx.1 Bx.2.1 d_Rd_readBracket_0 rfl (lv_at hl 0 rfl) ?_
  refine lv_iload_n Bx.1 Bx.2.1 d_Rd_readBracket_1 rfl (lv_at hl 1 rfl) ?_
  refine lv_bipush (v := 6) Bx.1 Bx.2.1 d_Rd_readBracket_2 (by decide) ?_
  refine lv_icmp_ge Bx.1 Bx.2.1 d_Rd_readBracket_4 rfl (fun h8 => ?_) (fun h8 => ?_)
  · exact absurd h8 (by decide)
  · refine lv_iconst (v := 1) Bx.1 Bx.2.1 d_Rd_readBracket_7 (by decide) ?_
    refine lv_goto Bx.1 Bx.2.1 d_Rd_readBracket_8 rfl ?_
    refine lv_aload_n Bx.1 Bx.2.1 d_Rd_readBracket_12 rfl (lv_at hl 0 rfl) ?_
    refine f_get Bx hP (by omega) h9_3 rfl inRd 2 (by decide) kw_146 rfl rfl d_Rd_readBracket_13 ?_
    refine f_xVv (na := 2) (As := [.int (1), .int (at1)]) (rest := []) Bx hml E hP hD hS (by omega) h9_3 rfl (m_Rd_needRoom l hlt hn hT hRS) kw_383 kw_385 sel_Rd_needRoom kw_6 kw_386 (by decide +kernel) ⟨rfl, rfl⟩ ⟨Nat.le_of_ble_eq_true rfl, Nat.le_of_ble_eq_true rfl⟩ rfl hl.1 (Nat.le_of_ble_eq_true rfl) d_Rd_readBracket_16 ⟨Nat.le_of_ble_eq_true rfl, Nat.le_of_ble_eq_true rfl⟩ (fun X ce q9 memx H locs hx9 hP hS g1 g2 g3 => f_out hlocks hno hP hS g1 g2 g3 ⟨Nat.le_of_ble_eq_true rfl, Nat.le_of_ble_eq_true rfl⟩ hx9) (fun mem14 H locs hq hP hS => ?_)
    have hD : va_D (Az sz) (fw n ad mem14) := fw_D hD
    obtain ⟨hRS15, -, hg16⟩ := hq
    obtain ⟨at17, ft18, h9_19⟩ := hRS15.2.1
    have h1_20 : mem14 1 = .inr (0, [.ref (ad 2), .int (nI Z)]) := (hRS15.2.2 1 (by omega)).trans hT.1
    have h2_21 : mem14 2 = .inl (cy 0, 240, .inl f) := (hRS15.2.2 2 (by omega)).trans hT.2.2
    have h5_22 := hRS15.1.2.1
    have hbd28 := hRS15.1.1
    obtain ⟨S23, g24, hS_25, h220_26, h221_27⟩ := hRS15.1.2.2.2.2.2.2
    refine lv_aload_n Bx.1 Bx.2.1 d_Rd_readBracket_19 rfl (lv_at hl 0 rfl) ?_
    refine lv_dup Bx.1 Bx.2.1 d_Rd_readBracket_20 rfl ?_
    refine f_get Bx hP (by omega) h9_19 rfl inRd 2 (by decide) kw_146 rfl rfl d_Rd_readBracket_21 ?_
    refine lv_iconst (v := 1) Bx.1 Bx.2.1 d_Rd_readBracket_24 (by decide) ?_
    refine lv_iadd Bx.1 Bx.2.1 d_Rd_readBracket_25 ?_
    refine f_put Bx hP hD hS (by omega) h9_19 rfl inRd tyRd okRd nmRd 2 (by decide) kw_146 rfl rfl rfl rfl (Nat.le_of_ble_eq_true rfl) d_Rd_readBracket_26 (fun H locs hP hS => ?_)
    obtain ⟨mem29, e_mem29⟩ : ∃ z, z = va_up mem14 (222) (.inr (4, [.ref (ad 1), .ref (ad 5), .int (at17 + 1), .int (ft18)])) := ⟨_, rfl⟩
    have hP : va_P D vcl (fw n ad mem29) H := by rw [e_mem29]; exact hP
    have hD : va_D (Az sz) (fw n ad mem29) := fw_D hD
    have h_mem29 : mem29 (222) = .inr (4, [.ref (ad 1), .ref (ad 5), .int (at17 + 1), .int (ft18)]) := by rw [e_mem29, va_up_self]
    have hh30 := (va_up_ne mem14 (.inr (4, [.ref (ad 1), .ref (ad 5), .int (at17 + 1), .int (ft18)])) (show (1 : Nat) ≠ 222 by first | decide | assumption | omega)).trans h1_20
    rw [← e_mem29] at hh30
    have hh31 := (va_up_ne mem14 (.inr (4, [.ref (ad 1), .ref (ad 5), .int (at17 + 1), .int (ft18)])) (show (5 : Nat) ≠ 222 by first | decide | assumption | omega)).trans h5_22
    rw [← e_mem29] at hh31
    have hh32 := (va_up_ne mem14 (.inr (4, [.ref (ad 1), .ref (ad 5), .int (at17 + 1), .int (ft18)])) (show (220 : Nat) ≠ 222 by first | decide | assumption | omega)).trans h220_26
    rw [← e_mem29] at hh32
    have hRS33 : RS cy ad lim rc ec m0 mem29 := by rw [e_mem29]; exact hRS15.at222
    refine lv_aload_n Bx.1 Bx.2.1 d_Rd_readBracket_29 rfl (lv_at hl 0 rfl) ?_
    refine f_callVi (na := 0) (As := []) (rest := []) Bx hml E hP hD hS (by omega) h_mem29 rfl (m_Rd_readGap l hn hT hRS33) kw_397 kw_399 sel_Rd_readGap kw_6 kw_400 (by decide +kernel) ⟨rfl, rfl⟩ ⟨Nat.le_of_ble_eq_true rfl, Nat.le_of_ble_eq_true rfl⟩ rfl hl.1 (Nat.le_of_ble_eq_true rfl) d_Rd_readBracket_30 ⟨Nat.le_of_ble_eq_true rfl, Nat.le_of_ble_eq_true rfl⟩ (fun r35 mem36 H locs hRS34 hP hS => ?_)
    have hD : va_D (Az sz) (fw n ad mem36) := fw_D hD
    obtain ⟨at37, ft38, h9_39⟩ := hRS34.2.1
    have h1_40 : mem36 1 = .inr (0, [.ref (ad 2), .int (nI Z)]) := (hRS34.2.2 1 (by omega)).trans hT.1
    have h2_41 : mem36 2 = .inl (cy 0, 240, .inl f) := (hRS34.2.2 2 (by omega)).trans hT.2.2
    have h5_42 := hRS34.1.2.1
    have hbd48 := hRS34.1.1
    obtain ⟨S43, g44, hS_45, h220_46, h221_47⟩ := hRS34.1.2.2.2.2.2.2
    refine lv_pop Bx.1 Bx.2.1 d_Rd_readBracket_33 rfl ?_
    refine lv_aload_n Bx.1 Bx.2.1 d_Rd_readBracket_34 rfl (lv_at hl 0 rfl) ?_
    refine lv_iload_n Bx.1 Bx.2.1 d_Rd_readBracket_35 rfl (lv_at hl 1 rfl) ?_
    refine lv_iconst (v := 1) Bx.1 Bx.2.1 d_Rd_readBracket_36 (by decide) ?_
    refine lv_iadd Bx.1 Bx.2.1 d_Rd_readBracket_37 ?_
    rw [show (4 + 1 : Int32) = 5 from rfl]
    refine f_xVr (na := 1) (As := [.int (5)]) (rest := []) Bx hml E hP hD hS (by omega) h9_39 rfl (m_Rd_readAlternatives_5 l hlt hn hT hRS34) kw_405 kw_407 sel_Rd_readAlternatives kw_6 kw_408 (by decide +kernel) ⟨rfl, rfl⟩ ⟨Nat.le_of_ble_eq_true rfl, Nat.le_of_ble_eq_true rfl⟩ rfl hl.1 (Nat.le_of_ble_eq_true rfl) d_Rd_readBracket_38 ⟨Nat.le_of_ble_eq_true rfl, Nat.le_of_ble_eq_true rfl⟩ (fun X ce q9 memx H locs hx9 hP hS g1 g2 g3 => f_out hlocks hno hP hS g1 g2 g3 ⟨Nat.le_of_ble_eq_true rfl, Nat.le_of_ble_eq_true rfl⟩ hx9) (fun r49 mem50 H locs hq hP hS => ?_)
    have hD : va_D (Az sz) (fw n ad mem50) := fw_D hD
    obtain ⟨kx51, rc52, ec53, hr955, hb56, hb57, hb58, hRS54⟩ := hq
    subst hr955
    have hbd59 := hRS54.1.1
    obtain ⟨at60, ft61, h9_62⟩ := hRS54.2.1
    have h1_63 : mem50 1 = .inr (0, [.ref (ad 2), .int (nI Z)]) := (hRS54.2.2 1 (by omega)).trans hT.1
    have h2_64 : mem50 2 = .inl (cy 0, 240, .inl f) := (hRS54.2.2 2 (by omega)).trans hT.2.2
    have h5_65 := hRS54.1.2.1
    have hbd71 := hRS54.1.1
    obtain ⟨S66, g67, hS_68, h220_69, h221_70⟩ := hRS54.1.2.2.2.2.2.2
    obtain ⟨k72, lo73, hi74, as75, pa76, ne77, he_78, ho_79⟩ := (hRS54.1.2.2.2.2.2.1 kx51 (by omega)).1
    refine lv_astore_n (lv' := [(3, .ref (ad (20 + 2 * kx51))), (0, .ref (ad 222)), (1, .int (4)), (2, .int (en))]) Bx.1 Bx.2.1 d_Rd_readBracket_41 rfl hl (by decide) rfl (fun ls hl => ?_)
    refine lv_aload_n Bx.1 Bx.2.1 d_Rd_readBracket_42 rfl (lv_at hl 1 rfl) ?_
    refine lv_aload_n Bx.1 Bx.2.1 d_Rd_readBracket_43 rfl (lv_at hl 1 rfl) ?_
    refine f_callVi (na := 0) (As := []) (rest := [.ref (ad 222)]) Bx hml E hP hD hS (by omega) h9_62 rfl (m_Rd_peek l hn hT hRS54) kw_353 kw_355 sel_Rd_peek kw_6 kw_356 (by decide +kernel) ⟨rfl, rfl⟩ ⟨Nat.le_of_ble_eq_true rfl, Nat.le_of_ble_eq_true rfl⟩ rfl hl.1 (Nat.le_of_ble_eq_true rfl) d_Rd_readBracket_44 ⟨Nat.le_of_ble_eq_true rfl, Nat.le_of_ble_eq_true rfl⟩ (fun r80 mem81 H locs hq hP hS => ?_)
    have hD : va_D (Az sz) (fw n ad mem81) := fw_D hD
    rw [hq] at hP hD
    refine lv_iload_n Bx.1 Bx.2.1 d_Rd_readBracket_47 rfl (lv_at hl 3 rfl) ?_
    have J83 : ∀ (jv82 : Int32) (H : Heap) (locs : List Loc), va_P D vcl (fw n ad mem50) H → va_D (Az sz) (fw n ad mem50) → va_S (Az sz) s.heap H locs → W p l e (headSpec (Cond.code y_Rd_readBracket c_Rd_readBracket 4 (some (.object "AbnfChart$Element")) :: tg) ({ frames := 26, cells := 1, slots := 6, locals := 620 } : Room)).room s m [.ref (ad 222), .int (4), .int (en)].toArray below meth c H locs 0 0 (vx_MQ below (QX (QR (fun r mem' => ∃ k rc' ec' : Nat, r = ad (20 + 2 * k) ∧ ec ≤ k ∧ k < ec' ∧ rc ≤ rc' ∧ RS cy ad lim rc' ec' m0 mem') (PP D n ad) (Az sz))) (XQ D sz n ad (fun X mem' => (X = cIA ∨ X = cIS) ∧ ∃ rc' ec' : Nat, RS cy ad lim rc' ec' m0 mem')) [.ref (ad 222), .int (4), .int (en)].toArray s 1 6 (Az sz)) (F0 m 56 ls [.int (jv82), .ref (ad 222)]) := by
      intro jv82 H locs hP hD hS
      refine lv_aload_n Bx.1 Bx.2.1 d_Rd_readBracket_56 rfl (lv_at hl 1 rfl) ?_
      refine f_get Bx hP (by omega) h9_62 rfl inRd 2 (by decide) kw_146 rfl rfl d_Rd_readBracket_57 ?_
      refine f_xVv (na := 2) (As := [.int (jv82), .int (at60)]) (rest := []) Bx hml E hP hD hS (by omega) h9_62 rfl (m_Rd_needReadable l hlt hn hT hRS54) kw_360 kw_362 sel_Rd_needReadable kw_6 kw_363 (by decide +kernel) ⟨rfl, rfl⟩ ⟨Nat.le_of_ble_eq_true rfl, Nat.le_of_ble_eq_true rfl⟩ rfl hl.1 (Nat.le_of_ble_eq_true rfl) d_Rd_readBracket_60 ⟨Nat.le_of_ble_eq_true rfl, Nat.le_of_ble_eq_true rfl⟩ (fun X ce q9 memx H locs hx9 hP hS g1 g2 g3 => f_out hlocks hno hP hS g1 g2 g3 ⟨Nat.le_of_ble_eq_true rfl, Nat.le_of_ble_eq_true rfl⟩ hx9) (fun mem85 H locs hq hP hS => ?_)
      have hD : va_D (Az sz) (fw n ad mem85) := fw_D hD
      obtain ⟨hRS86, -, hg87⟩ := hq
      obtain ⟨at88, ft89, h9_90⟩ := hRS86.2.1
      have h1_91 : mem85 1 = .inr (0, [.ref (ad 2), .int (nI Z)]) := (hRS86.2.2 1 (by omega)).trans hT.1
      have h2_92 : mem85 2 = .inl (cy 0, 240, .inl f) := (hRS86.2.2 2 (by omega)).trans hT.2.2
      have h5_93 := hRS86.1.2.1
      have hbd99 := hRS86.1.1
      obtain ⟨S94, g95, hS_96, h220_97, h221_98⟩ := hRS86.1.2.2.2.2.2.2
      obtain ⟨k100, lo101, hi102, as103, pa104, ne105, he_106, ho_107⟩ := (hRS86.1.2.2.2.2.2.1 kx51 (by omega)).1
      refine lv_aload_n Bx.1 Bx.2.1 d_Rd_readBracket_63 rfl (lv_at hl 1 rfl) ?_
      refine lv_dup Bx.1 Bx.2.1 d_Rd_readBracket_64 rfl ?_
      refine f_get Bx hP (by omega) h9_90 rfl inRd 2 (by decide) kw_146 rfl rfl d_Rd_readBracket_65 ?_
      refine lv_iconst (v := 1) Bx.1 Bx.2.1 d_Rd_readBracket_68 (by decide) ?_
      refine lv_iadd Bx.1 Bx.2.1 d_Rd_readBracket_69 ?_
      refine f_put Bx hP hD hS (by omega) h9_90 rfl inRd tyRd okRd nmRd 2 (by decide) kw_146 rfl rfl rfl rfl (Nat.le_of_ble_eq_true rfl) d_Rd_readBracket_70 (fun H locs hP hS => ?_)
      obtain ⟨mem108, e_mem108⟩ : ∃ z, z = va_up mem85 (222) (.inr (4, [.ref (ad 1), .ref (ad 5), .int (at88 + 1), .int (ft89)])) := ⟨_, rfl⟩
      have hP : va_P D vcl (fw n ad mem108) H := by rw [e_mem108]; exact hP
      have hD : va_D (Az sz) (fw n ad mem108) := fw_D hD
      have h_mem108 : mem108 (222) = .inr (4, [.ref (ad 1), .ref (ad 5), .int (at88 + 1), .int (ft89)]) := by rw [e_mem108, va_up_self]
      have hh109 := (va_up_ne mem85 (.inr (4, [.ref (ad 1), .ref (ad 5), .int (at88 + 1), .int (ft89)])) (show (1 : Nat) ≠ 222 by first | decide | assumption | omega)).trans h1_91
      rw [← e_mem108] at hh109
      have hh110 := (va_up_ne mem85 (.inr (4, [.ref (ad 1), .ref (ad 5), .int (at88 + 1), .int (ft89)])) (show (5 : Nat) ≠ 222 by first | decide | assumption | omega)).trans h5_93
      rw [← e_mem108] at hh110
      have hh111 := (va_up_ne mem85 (.inr (4, [.ref (ad 1), .ref (ad 5), .int (at88 + 1), .int (ft89)])) (show (220 : Nat) ≠ 222 by first | decide | assumption | omega)).trans h220_97
      rw [← e_mem108] at hh111
      have hh112 := (va_up_ne mem85 (.inr (4, [.ref (ad 1), .ref (ad 5), .int (at88 + 1), .int (ft89)])) (show ((20 + 2 * kx51) : Nat) ≠ 222 by first | decide | assumption | omega)).trans he_106
      rw [← e_mem108] at hh112
      have hRS113 : RS cy ad lim rc52 ec53 m0 mem108 := by rw [e_mem108]; exact hRS86.at222
      refine lv_aload_n Bx.1 Bx.2.1 d_Rd_readBracket_73 rfl (lv_at hl 0 rfl) ?_
      exact x_aret hx hb hlocks hr (⟨kx51, rc52, ec53, rfl, by omega, by omega, by omega, hRS113⟩) hP hS d_Rd_readBracket_74
    refine lv_icmp_ne Bx.1 Bx.2.1 d_Rd_readBracket_48 rfl (fun h8 => ?_) (fun h8 => ?_)
    · refine lv_iconst (v := 0) Bx.1 Bx.2.1 d_Rd_readBracket_55 (by decide) ?_
      exact J83 _ _ _ hP hD hS
    · refine lv_iconst (v := 1) Bx.1 Bx.2.1 d_Rd_readBracket_51 (by decide) ?_
      refine lv_goto Bx.1 Bx.2.1 d_Rd_readBracket_52 rfl ?_
      exact J83 _ _ _ hP hD hS
set_option maxHeartbeats 4000000 in
set_option maxRecDepth 100000 in
theorem m_Rd_readOption_4 (l : Launch) {D : va_G} {cy : Nat → ClassId} {sz n : Nat} {ad : Nat → Nat} {mem : Nat → va_E} {Z : Nat} {f : Nat → Int32} {lim rc ec : Nat} {m0 : Nat → va_E} (hlt : l.stackTraces = false) (hn : 224 ≤ n) (hT : TX cy ad Z f m0) (hRS : RS cy ad lim rc ec m0 mem) : NXr l D cy sz n ad y_Rd_readOption c_Rd_readOption 3 (some (.object "AbnfChart$Element")) ({ frames := 27, cells := 1, slots := 6, locals := 643 } : Room) mem [.ref (ad 222), .int (4)] (fun r mem' => ∃ k rc' ec' : Nat, r = ad (20 + 2 * k) ∧ ec ≤ k ∧ k < ec' ∧ rc ≤ rc' ∧ RS cy ad lim rc' ec' m0 mem') (fun X mem' => (X = cIA ∨ X = cIS) ∧ ∃ rc' ec' : Nat, RS cy ad lim rc' ec' m0 mem') := by
  refine vx_ofW (cc := c_Rd_readOption) (maxL := 3) (ret := (some (.object "AbnfChart$Element"))) (by decide) rfl ?_
  intro p e s m args below meth c s₁ B hml hno hv
  obtain ⟨rfl, E, hP, hD⟩ := hv
  have hx := B.exec
  have hb := B.bytes
  have hr := B.returns
  have hlocks := B.notSynchronized
  have Bx : MB p s m [.ref (ad 222), .int (4)].toArray c c_Rd_readOption "AbnfChart$Reader" D cy := ⟨hx, hb, tb_all (atoms_spec B.pre) E.2.1, findClass_of_methodNamed B.named, E.1⟩
  have hS : va_S (Az sz) s.heap s.heap [] := va_S.rf
  have hl := lv_entry ([.ref (ad 222), .int (4)]) (n := 3) (Nat.le_of_ble_eq_true rfl)
  rw [lg_entry_eq]
  generalize (lg_sl ([.ref (ad 222), .int (4)]) ++ List.replicate (3 - (lg_sl ([.ref (ad 222), .int (4)])).length) Slot.unset).toArray = ls at hl ⊢
  have hl : lv_has ls 3 [(0, .ref (ad 222)), (1, .int (4))] := hl
  obtain ⟨at1, ft2, h9_3⟩ := hRS.2.1
  have h1_4 : mem 1 = .inr (0, [.ref (ad 2), .int (nI Z)]) := (hRS.2.2 1 (by omega)).trans hT.1
  have h2_5 : mem 2 = .inl (cy 0, 240, .inl f) := (hRS.2.2 2 (by omega)).trans hT.2.2
  have h5_6 := hRS.1.2.1
  have hbd12 := hRS.1.1
  obtain ⟨S7, g8, hS_9, h220_10, h221_11⟩ := hRS.1.2.2.2.2.2.2
  refine lv_aload_n Bx.1 Bx.2.1 d_Rd_readOption_0 rfl (lv_at hl 0 rfl) ?_
  refine lv_iconst (v := 3) Bx.1 Bx.2.1 d_Rd_readOption_1 (by decide) ?_
  refine lv_aload_n Bx.1 Bx.2.1 d_Rd_readOption_2 rfl (lv_at hl 0 rfl) ?_
  refine f_get Bx hP (by omega) h9_3 rfl inRd 2 (by decide) kw_146 rfl rfl d_Rd_readOption_3 ?_
  refine f_xVr (na := 2) (As := [.int (3), .int (at1)]) (rest := []) Bx hml E hP hD hS (by omega) h9_3 rfl (m_Rd_addElement l hlt hn hT hRS) kw_419 kw_421 sel_Rd_addElement kw_6 kw_422 (by decide +kernel) ⟨rfl, rfl⟩ ⟨Nat.le_of_ble_eq_true rfl, Nat.le_of_ble_eq_true rfl⟩ rfl hl.1 (Nat.le_of_ble_eq_true rfl) d_Rd_readOption_6 ⟨Nat.le_of_ble_eq_true rfl, Nat.le_of_ble_eq_true rfl⟩ (fun X ce q9 memx H locs hx9 hP hS g1 g2 g3 => f_out hlocks hno hP hS g1 g2 g3 ⟨Nat.le_of_ble_eq_true rfl, Nat.le_of_ble_eq_true rfl⟩ hx9) (fun r13 mem14 H locs hq hP hS => ?_)
  have hD : va_D (Az sz) (fw n ad mem14) := fw_D hD
  obtain ⟨hr917, hec16, hRS15⟩ := hq
  subst hr917
  obtain ⟨at18, ft19, h9_20⟩ := hRS15.2.1
  have h1_21 : mem14 1 = .inr (0, [.ref (ad 2), .int (nI Z)]) := (hRS15.2.2 1 (by omega)).trans hT.1
  have h2_22 : mem14 2 = .inl (cy 0, 240, .inl f) := (hRS15.2.2 2 (by omega)).trans hT.2.2
  have h5_23 := hRS15.1.2.1
  have hbd29 := hRS15.1.1
  obtain ⟨S24, g25, hS_26, h220_27, h221_28⟩ := hRS15.1.2.2.2.2.2.2
  obtain ⟨k30, lo31, hi32, as33, pa34, ne35, he_36, ho_37⟩ := (hRS15.1.2.2.2.2.2.1 ec (by omega)).1
  refine lv_astore_n (lv' := [(2, .ref (ad (20 + 2 * ec))), (0, .ref (ad 222)), (1, .int (4))]) Bx.1 Bx.2.1 d_Rd_readOption_9 rfl hl (by decide) rfl (fun ls hl => ?_)
  refine lv_aload_n Bx.1 Bx.2.1 d_Rd_readOption_10 rfl (lv_at hl 0 rfl) ?_
  refine lv_aload_n Bx.1 Bx.2.1 d_Rd_readOption_11 rfl (lv_at hl 1 rfl) ?_
  refine lv_iload_n Bx.1 Bx.2.1 d_Rd_readOption_12 rfl (lv_at hl 2 rfl) ?_
  refine lv_bipush (v := 93) Bx.1 Bx.2.1 d_Rd_readOption_13 (by decide) ?_
  refine f_xVr (na := 2) (As := [.int (4), .int (93)]) (rest := [.ref (ad (20 + 2 * ec))]) Bx hml E hP hD hS (by omega) h9_20 rfl (m_Rd_readBracket_4 l hlt hn hT hRS15) kw_447 kw_449 sel_Rd_readBracket kw_6 kw_450 (by decide +kernel) ⟨rfl, rfl⟩ ⟨Nat.le_of_ble_eq_true rfl, Nat.le_of_ble_eq_true rfl⟩ rfl hl.1 (Nat.le_of_ble_eq_true rfl) d_Rd_readOption_15 ⟨Nat.le_of_ble_eq_true rfl, Nat.le_of_ble_eq_true rfl⟩ (fun X ce q9 memx H locs hx9 hP hS g1 g2 g3 => f_out hlocks hno hP hS g1 g2 g3 ⟨Nat.le_of_ble_eq_true rfl, Nat.le_of_ble_eq_true rfl⟩ hx9) (fun r38 mem39 H locs hq hP hS => ?_)
  have hD : va_D (Az sz) (fw n ad mem39) := fw_D hD
  obtain ⟨kx40, rc41, ec42, hr944, hb45, hb46, hb47, hRS43⟩ := hq
  subst hr944
  have hbd48 := hRS43.1.1
  obtain ⟨at49, ft50, h9_51⟩ := hRS43.2.1
  have h1_52 : mem39 1 = .inr (0, [.ref (ad 2), .int (nI Z)]) := (hRS43.2.2 1 (by omega)).trans hT.1
  have h2_53 : mem39 2 = .inl (cy 0, 240, .inl f) := (hRS43.2.2 2 (by omega)).trans hT.2.2
  have h5_54 := hRS43.1.2.1
  have hbd60 := hRS43.1.1
  obtain ⟨S55, g56, hS_57, h220_58, h221_59⟩ := hRS43.1.2.2.2.2.2.2
  obtain ⟨k61, lo62, hi63, as64, pa65, ne66, he_67, ho_68⟩ := (hRS43.1.2.2.2.2.2.1 ec (by omega)).1
  obtain ⟨k69, lo70, hi71, as72, pa73, ne74, he_75, ho_76⟩ := (hRS43.1.2.2.2.2.2.1 kx40 (by omega)).1
  refine f_putN Bx hP hD hS (by omega) he_67 rfl inEl tyEl okEl nmEl 4 (by decide) kw_87 rfl rfl rfl rfl (Nat.le_of_ble_eq_true rfl) d_Rd_readOption_18 (fun H locs hP hS => ?_)
  obtain ⟨mem77, e_mem77⟩ : ∃ z, z = va_up mem39 ((20 + 2 * ec)) (.inr (2, [.int (k61), .int (lo62), .int (hi63), as64, .ref (ad (20 + 2 * kx40)), ne66, .ref (ad (21 + 2 * ec))])) := ⟨_, rfl⟩
  have hP : va_P D vcl (fw n ad mem77) H := by rw [e_mem77]; exact hP
  have hD : va_D (Az sz) (fw n ad mem77) := fw_D hD
  have h_mem77 : mem77 ((20 + 2 * ec)) = .inr (2, [.int (k61), .int (lo62), .int (hi63), as64, .ref (ad (20 + 2 * kx40)), ne66, .ref (ad (21 + 2 * ec))]) := by rw [e_mem77, va_up_self]
  have hh78 := (va_up_ne mem39 (.inr (2, [.int (k61), .int (lo62), .int (hi63), as64, .ref (ad (20 + 2 * kx40)), ne66, .ref (ad (21 + 2 * ec))])) (show (222 : Nat) ≠ (20 + 2 * ec) by first | decide | assumption | omega)).trans h9_51
  rw [← e_mem77] at hh78
  have hh79 := (va_up_ne mem39 (.inr (2, [.int (k61), .int (lo62), .int (hi63), as64, .ref (ad (20 + 2 * kx40)), ne66, .ref (ad (21 + 2 * ec))])) (show (1 : Nat) ≠ (20 + 2 * ec) by first | decide | assumption | omega)).trans h1_52
  rw [← e_mem77] at hh79
  have hh80 := (va_up_ne mem39 (.inr (2, [.int (k61), .int (lo62), .int (hi63), as64, .ref (ad (20 + 2 * kx40)), ne66, .ref (ad (21 + 2 * ec))])) (show (5 : Nat) ≠ (20 + 2 * ec) by first | decide | assumption | omega)).trans h5_54
  rw [← e_mem77] at hh80
  have hh81 := (va_up_ne mem39 (.inr (2, [.int (k61), .int (lo62), .int (hi63), as64, .ref (ad (20 + 2 * kx40)), ne66, .ref (ad (21 + 2 * ec))])) (show (220 : Nat) ≠ (20 + 2 * ec) by first | decide | assumption | omega)).trans h220_58
  rw [← e_mem77] at hh81
  have hh82 := (va_up_ne mem39 (.inr (2, [.int (k61), .int (lo62), .int (hi63), as64, .ref (ad (20 + 2 * kx40)), ne66, .ref (ad (21 + 2 * ec))])) (show ((20 + 2 * kx40) : Nat) ≠ (20 + 2 * ec) by first | decide | assumption | omega)).trans he_75
  rw [← e_mem77] at hh82
  have hRS83 : RS cy ad lim rc41 ec42 m0 mem77 := by rw [e_mem77]; exact hRS43.mk (by omega) (hRS43.1.upEl (by omega) (fun q9 => ⟨(ho_68 q9).1, Or.inr ⟨kx40, by omega, by omega, rfl⟩, (ho_68 q9).2.2⟩))
  refine lv_aload_n Bx.1 Bx.2.1 d_Rd_readOption_21 rfl (lv_at hl 0 rfl) ?_
  exact x_aret hx hb hlocks hr (⟨ec, rc41, ec42, rfl, by omega, by omega, by omega, hRS83⟩) hP hS d_Rd_readOption_22
set_option maxHeartbeats 4000000 in
set_option maxRecDepth 100000 in
theorem m_Rd_readElement_4 (l : Launch) {D : va_G} {cy : Nat → ClassId} {sz n : Nat} {ad : Nat → Nat} {mem : Nat → va_E} {Z : Nat} {f : Nat → Int32} {lim rc ec : Nat} {m0 : Nat → va_E} (hlt : l.stackTraces = false) (hn : 224 ≤ n) (hT : TX cy ad Z f m0) (hRS : RS cy ad lim rc ec m0 mem) : NXr l D cy sz n ad y_Rd_readElement c_Rd_readElement 2 (some (.object "AbnfChart$Element")) ({ frames := 28, cells := 1, slots := 6, locals := 666 } : Room) mem [.ref (ad 222), .int (4)] (fun r mem' => ∃ k rc' ec' : Nat, r = ad (20 + 2 * k) ∧ ec ≤ k ∧ k < ec' ∧ rc ≤ rc' ∧ RS cy ad lim rc' ec' m0 mem') (fun X mem' => (X = cIA ∨ X = cIS) ∧ ∃ rc' ec' : Nat, RS cy ad lim rc' ec' m0 mem') := by
  refine vx_ofW (cc := c_Rd_readElement) (maxL := 2) (ret := (some (.object "AbnfChart$Element"))) (by decide) rfl ?_
  intro p e s m args below meth c s₁ B hml hno hv
  obtain ⟨rfl, E, hP, hD⟩ := hv
  have hx := B.exec
  have hb := B.bytes
  have hr := B.returns
  have hlocks := B.notSynchronized
  have Bx : MB p s m [.ref (ad 222), .int (4)].toArray c c_Rd_readElement "AbnfChart$Reader" D cy := ⟨hx, hb, tb_all (atoms_spec B.pre) E.2.1, findClass_of_methodNamed B.named, E.1⟩
  have hS : va_S (Az sz) s.heap s.heap [] := va_S.rf
  have hl := lv_entry ([.ref (ad 222), .int (4)]) (n := 2) (Nat.le_of_ble_eq_true rfl)
  rw [lg_entry_eq]
  generalize (lg_sl ([.ref (ad 222), .int (4)]) ++ List.replicate (2 - (lg_sl ([.ref (ad 222), .int (4)])).length) Slot.unset).toArray = ls at hl ⊢
  have hl : lv_has ls 2 [(0, .ref (ad 222)), (1, .int (4))] := hl
  obtain ⟨at1, ft2, h9_3⟩ := hRS.2.1
  have h1_4 : mem 1 = .inr (0, [.ref (ad 2), .int (nI Z)]) := (hRS.2.2 1 (by omega)).trans hT.1
  have h2_5 : mem 2 = .inl (cy 0, 240, .inl f) := (hRS.2.2 2 (by omega)).trans hT.2.2
  have h5_6 := hRS.1.2.1
  have hbd12 := hRS.1.1
  obtain ⟨S7, g8, hS_9, h220_10, h221_11⟩ := hRS.1.2.2.2.2.2.2
  refine lv_aload_n Bx.1 Bx.2.1 d_Rd_readElement_0 rfl (lv_at hl 0 rfl) ?_
  refine f_callVi (na := 0) (As := []) (rest := []) Bx hml E hP hD hS (by omega) h9_3 rfl (m_Rd_peek l hn hT hRS) kw_353 kw_355 sel_Rd_peek kw_6 kw_356 (by decide +kernel) ⟨rfl, rfl⟩ ⟨Nat.le_of_ble_eq_true rfl, Nat.le_of_ble_eq_true rfl⟩ rfl hl.1 (Nat.le_of_ble_eq_true rfl) d_Rd_readElement_1 ⟨Nat.le_of_ble_eq_true rfl, Nat.le_of_ble_eq_true rfl⟩ (fun r13 mem14 H locs hq hP hS => ?_)
  have hD : va_D (Az sz) (fw n ad mem14) := fw_D hD
  rw [hq] at hP hD
  refine lv_topi (fun v15 e_v15 => ?_)
  by_cases c34 : v15 = 34
  · rw [c34]
    refine lv_lookup (off := 58) (tgt := 62) Bx.1 Bx.2.1 d_Rd_readElement_4 (by decide) (by decide) rfl ?_
    refine lv_aload_n Bx.1 Bx.2.1 d_Rd_readElement_62 rfl (lv_at hl 0 rfl) ?_
    refine lv_aload_n Bx.1 Bx.2.1 d_Rd_readElement_63 rfl (lv_at hl 0 rfl) ?_
    refine f_get Bx hP (by omega) h9_3 rfl inRd 2 (by decide) kw_146 rfl rfl d_Rd_readElement_64 ?_
    refine lv_iconst (v := 5) Bx.1 Bx.2.1 d_Rd_readElement_67 (by decide) ?_
    refine f_xVr (na := 2) (As := [.int (at1), .int (5)]) (rest := []) Bx hml E hP hD hS (by omega) h9_3 rfl (m_Rd_readString l hlt hn hT hRS) kw_455 kw_457 sel_Rd_readString kw_6 kw_458 (by decide +kernel) ⟨rfl, rfl⟩ ⟨Nat.le_of_ble_eq_true rfl, Nat.le_of_ble_eq_true rfl⟩ rfl hl.1 (Nat.le_of_ble_eq_true rfl) d_Rd_readElement_68 ⟨Nat.le_of_ble_eq_true rfl, Nat.le_of_ble_eq_true rfl⟩ (fun X ce q9 memx H locs hx9 hP hS g1 g2 g3 => f_out hlocks hno hP hS g1 g2 g3 ⟨Nat.le_of_ble_eq_true rfl, Nat.le_of_ble_eq_true rfl⟩ hx9) (fun r16 mem17 H locs hq hP hS => ?_)
    have hD : va_D (Az sz) (fw n ad mem17) := fw_D hD
    obtain ⟨kx18, rc19, ec20, hr922, hb23, hb24, hb25, hRS21⟩ := hq
    subst hr922
    have hbd26 := hRS21.1.1
    obtain ⟨at27, ft28, h9_29⟩ := hRS21.2.1
    have h1_30 : mem17 1 = .inr (0, [.ref (ad 2), .int (nI Z)]) := (hRS21.2.2 1 (by omega)).trans hT.1
    have h2_31 : mem17 2 = .inl (cy 0, 240, .inl f) := (hRS21.2.2 2 (by omega)).trans hT.2.2
    have h5_32 := hRS21.1.2.1
    have hbd38 := hRS21.1.1
    obtain ⟨S33, g34, hS_35, h220_36, h221_37⟩ := hRS21.1.2.2.2.2.2.2
    obtain ⟨k39, lo40, hi41, as42, pa43, ne44, he_45, ho_46⟩ := (hRS21.1.2.2.2.2.2.1 kx18 (by omega)).1
    exact x_aret hx hb hlocks hr (⟨kx18, rc19, ec20, rfl, by omega, by omega, by omega, hRS21⟩) hP hS d_Rd_readElement_71
  by_cases c37 : v15 = 37
  · rw [c37]
    refine lv_lookup (off := 68) (tgt := 72) Bx.1 Bx.2.1 d_Rd_readElement_4 (by decide) (by decide) rfl ?_
    refine lv_aload_n Bx.1 Bx.2.1 d_Rd_readElement_72 rfl (lv_at hl 0 rfl) ?_
    refine f_get Bx hP (by omega) h9_3 rfl inRd 0 (by decide) kw_144 rfl rfl d_Rd_readElement_73 ?_
    refine lv_aload_n Bx.1 Bx.2.1 d_Rd_readElement_76 rfl (lv_at hl 0 rfl) ?_
    refine f_get Bx hP (by omega) h9_3 rfl inRd 2 (by decide) kw_146 rfl rfl d_Rd_readElement_77 ?_
    refine lv_iconst (v := 1) Bx.1 Bx.2.1 d_Rd_readElement_80 (by decide) ?_
    refine lv_iadd Bx.1 Bx.2.1 d_Rd_readElement_81 ?_
    refine f_callVi (na := 1) (As := [.int (at1 + 1)]) (rest := []) Bx hml E hP hD hS (by omega) h1_4 rfl (m_Ch_codeAt l (by omega) h1_4 (by omega) h2_5 (by rw [nI_toInt (by have := hT.2.1; omega)]; have := hT.2.1; omega)) kw_341 kw_342 kw_343 kw_2 kw_344 (by decide +kernel) ⟨rfl, rfl⟩ ⟨Nat.le_of_ble_eq_true rfl, Nat.le_of_ble_eq_true rfl⟩ rfl hl.1 (Nat.le_of_ble_eq_true rfl) d_Rd_readElement_82 ⟨Nat.le_of_ble_eq_true rfl, Nat.le_of_ble_eq_true rfl⟩ (fun r47 mem48 H locs hq hP hS => ?_)
    have hD : va_D (Az sz) (fw n ad mem48) := fw_D hD
    rw [hq.2] at hP hD
    refine f_callSNi (na := 1) (As := [.int (r47)]) (rest := []) Bx hml E.2.1 (m_Ab_smallOf l (r47)) kw_372 kw_373 kw_1 kw_374 (by decide +kernel) ⟨rfl, rfl⟩ ⟨Nat.le_of_ble_eq_true rfl, Nat.le_of_ble_eq_true rfl⟩ rfl hl.1 (Nat.le_of_ble_eq_true rfl) d_Rd_readElement_85 ⟨Nat.le_of_ble_eq_true rfl, Nat.le_of_ble_eq_true rfl⟩ (fun r50 hs49 => ?_)
    refine lv_bipush (v := 115) Bx.1 Bx.2.1 d_Rd_readElement_88 (by decide) ?_
    refine lv_icmp_ne Bx.1 Bx.2.1 d_Rd_readElement_90 rfl (fun h8 => ?_) (fun h8 => ?_)
    · refine lv_aload_n Bx.1 Bx.2.1 d_Rd_readElement_100 rfl (lv_at hl 0 rfl) ?_
      refine f_xVr (na := 0) (As := []) (rest := []) Bx hml E hP hD hS (by omega) h9_3 rfl (m_Rd_readValue l hlt hn hT hRS) kw_467 kw_469 sel_Rd_readValue kw_6 kw_470 (by decide +kernel) ⟨rfl, rfl⟩ ⟨Nat.le_of_ble_eq_true rfl, Nat.le_of_ble_eq_true rfl⟩ rfl hl.1 (Nat.le_of_ble_eq_true rfl) d_Rd_readElement_101 ⟨Nat.le_of_ble_eq_true rfl, Nat.le_of_ble_eq_true rfl⟩ (fun X ce q9 memx H locs hx9 hP hS g1 g2 g3 => f_out hlocks hno hP hS g1 g2 g3 ⟨Nat.le_of_ble_eq_true rfl, Nat.le_of_ble_eq_true rfl⟩ hx9) (fun r51 mem52 H locs hq hP hS => ?_)
      have hD : va_D (Az sz) (fw n ad mem52) := fw_D hD
      obtain ⟨kx53, rc54, ec55, hr957, hb58, hb59, hb60, hRS56⟩ := hq
      subst hr957
      have hbd61 := hRS56.1.1
      obtain ⟨at62, ft63, h9_64⟩ := hRS56.2.1
      have h1_65 : mem52 1 = .inr (0, [.ref (ad 2), .int (nI Z)]) := (hRS56.2.2 1 (by omega)).trans hT.1
      have h2_66 : mem52 2 = .inl (cy 0, 240, .inl f) := (hRS56.2.2 2 (by omega)).trans hT.2.2
      have h5_67 := hRS56.1.2.1
      have hbd73 := hRS56.1.1
      obtain ⟨S68, g69, hS_70, h220_71, h221_72⟩ := hRS56.1.2.2.2.2.2.2
      obtain ⟨k74, lo75, hi76, as77, pa78, ne79, he_80, ho_81⟩ := (hRS56.1.2.2.2.2.2.1 kx53 (by omega)).1
      exact x_aret hx hb hlocks hr (⟨kx53, rc54, ec55, rfl, by omega, by omega, by omega, hRS56⟩) hP hS d_Rd_readElement_104
    · refine lv_aload_n Bx.1 Bx.2.1 d_Rd_readElement_93 rfl (lv_at hl 0 rfl) ?_
      refine f_xVr (na := 0) (As := []) (rest := []) Bx hml E hP hD hS (by omega) h9_3 rfl (m_Rd_readExactString l hlt hn hT hRS) kw_463 kw_465 sel_Rd_readExactString kw_6 kw_466 (by decide +kernel) ⟨rfl, rfl⟩ ⟨Nat.le_of_ble_eq_true rfl, Nat.le_of_ble_eq_true rfl⟩ rfl hl.1 (Nat.le_of_ble_eq_true rfl) d_Rd_readElement_94 ⟨Nat.le_of_ble_eq_true rfl, Nat.le_of_ble_eq_true rfl⟩ (fun X ce q9 memx H locs hx9 hP hS g1 g2 g3 => f_out hlocks hno hP hS g1 g2 g3 ⟨Nat.le_of_ble_eq_true rfl, Nat.le_of_ble_eq_true rfl⟩ hx9) (fun r82 mem83 H locs hq hP hS => ?_)
      have hD : va_D (Az sz) (fw n ad mem83) := fw_D hD
      obtain ⟨kx84, rc85, ec86, hr988, hb89, hb90, hb91, hRS87⟩ := hq
      subst hr988
      have hbd92 := hRS87.1.1
      obtain ⟨at93, ft94, h9_95⟩ := hRS87.2.1
      have h1_96 : mem83 1 = .inr (0, [.ref (ad 2), .int (nI Z)]) := (hRS87.2.2 1 (by omega)).trans hT.1
      have h2_97 : mem83 2 = .inl (cy 0, 240, .inl f) := (hRS87.2.2 2 (by omega)).trans hT.2.2
      have h5_98 := hRS87.1.2.1
      have hbd104 := hRS87.1.1
      obtain ⟨S99, g100, hS_101, h220_102, h221_103⟩ := hRS87.1.2.2.2.2.2.2
      obtain ⟨k105, lo106, hi107, as108, pa109, ne110, he_111, ho_112⟩ := (hRS87.1.2.2.2.2.2.1 kx84 (by omega)).1
      refine lv_goto Bx.1 Bx.2.1 d_Rd_readElement_97 rfl ?_
      exact x_aret hx hb hlocks hr (⟨kx84, rc85, ec86, rfl, by omega, by omega, by omega, hRS87⟩) hP hS d_Rd_readElement_104
  by_cases c40 : v15 = 40
  · rw [c40]
    refine lv_lookup (off := 44) (tgt := 48) Bx.1 Bx.2.1 d_Rd_readElement_4 (by decide) (by decide) rfl ?_
    refine lv_aload_n Bx.1 Bx.2.1 d_Rd_readElement_48 rfl (lv_at hl 0 rfl) ?_
    refine lv_iload_n Bx.1 Bx.2.1 d_Rd_readElement_49 rfl (lv_at hl 1 rfl) ?_
    refine lv_bipush (v := 41) Bx.1 Bx.2.1 d_Rd_readElement_50 (by decide) ?_
    refine f_xVr (na := 2) (As := [.int (4), .int (41)]) (rest := []) Bx hml E hP hD hS (by omega) h9_3 rfl (m_Rd_readBracket_4 l hlt hn hT hRS) kw_447 kw_449 sel_Rd_readBracket kw_6 kw_450 (by decide +kernel) ⟨rfl, rfl⟩ ⟨Nat.le_of_ble_eq_true rfl, Nat.le_of_ble_eq_true rfl⟩ rfl hl.1 (Nat.le_of_ble_eq_true rfl) d_Rd_readElement_52 ⟨Nat.le_of_ble_eq_true rfl, Nat.le_of_ble_eq_true rfl⟩ (fun X ce q9 memx H locs hx9 hP hS g1 g2 g3 => f_out hlocks hno hP hS g1 g2 g3 ⟨Nat.le_of_ble_eq_true rfl, Nat.le_of_ble_eq_true rfl⟩ hx9) (fun r113 mem114 H locs hq hP hS => ?_)
    have hD : va_D (Az sz) (fw n ad mem114) := fw_D hD
    obtain ⟨kx115, rc116, ec117, hr9119, hb120, hb121, hb122, hRS118⟩ := hq
    subst hr9119
    have hbd123 := hRS118.1.1
    obtain ⟨at124, ft125, h9_126⟩ := hRS118.2.1
    have h1_127 : mem114 1 = .inr (0, [.ref (ad 2), .int (nI Z)]) := (hRS118.2.2 1 (by omega)).trans hT.1
    have h2_128 : mem114 2 = .inl (cy 0, 240, .inl f) := (hRS118.2.2 2 (by omega)).trans hT.2.2
    have h5_129 := hRS118.1.2.1
    have hbd135 := hRS118.1.1
    obtain ⟨S130, g131, hS_132, h220_133, h221_134⟩ := hRS118.1.2.2.2.2.2.2
    obtain ⟨k136, lo137, hi138, as139, pa140, ne141, he_142, ho_143⟩ := (hRS118.1.2.2.2.2.2.1 kx115 (by omega)).1
    exact x_aret hx hb hlocks hr (⟨kx115, rc116, ec117, rfl, by omega, by omega, by omega, hRS118⟩) hP hS d_Rd_readElement_55
  by_cases c91 : v15 = 91
  · rw [c91]
    refine lv_lookup (off := 52) (tgt := 56) Bx.1 Bx.2.1 d_Rd_readElement_4 (by decide) (by decide) rfl ?_
    refine lv_aload_n Bx.1 Bx.2.1 d_Rd_readElement_56 rfl (lv_at hl 0 rfl) ?_
    refine lv_iload_n Bx.1 Bx.2.1 d_Rd_readElement_57 rfl (lv_at hl 1 rfl) ?_
    refine f_xVr (na := 1) (As := [.int (4)]) (rest := []) Bx hml E hP hD hS (by omega) h9_3 rfl (m_Rd_readOption_4 l hlt hn hT hRS) kw_451 kw_453 sel_Rd_readOption kw_6 kw_454 (by decide +kernel) ⟨rfl, rfl⟩ ⟨Nat.le_of_ble_eq_true rfl, Nat.le_of_ble_eq_true rfl⟩ rfl hl.1 (Nat.le_of_ble_eq_true rfl) d_Rd_readElement_58 ⟨Nat.le_of_ble_eq_true rfl, Nat.le_of_ble_eq_true rfl⟩ (fun X ce q9 memx H locs hx9 hP hS g1 g2 g3 => f_out hlocks hno hP hS g1 g2 g3 ⟨Nat.le_of_ble_eq_true rfl, Nat.le_of_ble_eq_true rfl⟩ hx9) (fun r144 mem145 H locs hq hP hS => ?_)
    have hD : va_D (Az sz) (fw n ad mem145) := fw_D hD
    obtain ⟨kx146, rc147, ec148, hr9150, hb151, hb152, hb153, hRS149⟩ := hq
    subst hr9150
    have hbd154 := hRS149.1.1
    obtain ⟨at155, ft156, h9_157⟩ := hRS149.2.1
    have h1_158 : mem145 1 = .inr (0, [.ref (ad 2), .int (nI Z)]) := (hRS149.2.2 1 (by omega)).trans hT.1
    have h2_159 : mem145 2 = .inl (cy 0, 240, .inl f) := (hRS149.2.2 2 (by omega)).trans hT.2.2
    have h5_160 := hRS149.1.2.1
    have hbd166 := hRS149.1.1
    obtain ⟨S161, g162, hS_163, h220_164, h221_165⟩ := hRS149.1.2.2.2.2.2.2
    obtain ⟨k167, lo168, hi169, as170, pa171, ne172, he_173, ho_174⟩ := (hRS149.1.2.2.2.2.2.1 kx146 (by omega)).1
    exact x_aret hx hb hlocks hr (⟨kx146, rc147, ec148, rfl, by omega, by omega, by omega, hRS149⟩) hP hS d_Rd_readElement_61
  refine lv_lookup (off := 101) (tgt := 105) Bx.1 Bx.2.1 d_Rd_readElement_4 (by decide) (by show Op.lookupswitch.offset [(34, 58), (37, 68), (40, 44), (91, 52)] 101 (v15).toInt = 101; rw [lv_osw c34 (by decide), lv_osw c37 (by decide), lv_osw c40 (by decide), lv_osw c91 (by decide)]; rfl) rfl ?_
  refine lv_aload_n Bx.1 Bx.2.1 d_Rd_readElement_105 rfl (lv_at hl 0 rfl) ?_
  refine f_xVr (na := 0) (As := []) (rest := []) Bx hml E hP hD hS (by omega) h9_3 rfl (m_Rd_readAskedName l hlt hn hT hRS) kw_478 kw_480 sel_Rd_readAskedName kw_6 kw_481 (by decide +kernel) ⟨rfl, rfl⟩ ⟨Nat.le_of_ble_eq_true rfl, Nat.le_of_ble_eq_true rfl⟩ rfl hl.1 (Nat.le_of_ble_eq_true rfl) d_Rd_readElement_106 ⟨Nat.le_of_ble_eq_true rfl, Nat.le_of_ble_eq_true rfl⟩ (fun X ce q9 memx H locs hx9 hP hS g1 g2 g3 => f_out hlocks hno hP hS g1 g2 g3 ⟨Nat.le_of_ble_eq_true rfl, Nat.le_of_ble_eq_true rfl⟩ hx9) (fun r175 mem176 H locs hq hP hS => ?_)
  have hD : va_D (Az sz) (fw n ad mem176) := fw_D hD
  obtain ⟨kx177, rc178, ec179, hr9181, hb182, hb183, hb184, hRS180⟩ := hq
  subst hr9181
  have hbd185 := hRS180.1.1
  obtain ⟨at186, ft187, h9_188⟩ := hRS180.2.1
  have h1_189 : mem176 1 = .inr (0, [.ref (ad 2), .int (nI Z)]) := (hRS180.2.2 1 (by omega)).trans hT.1
  have h2_190 : mem176 2 = .inl (cy 0, 240, .inl f) := (hRS180.2.2 2 (by omega)).trans hT.2.2
  have h5_191 := hRS180.1.2.1
  have hbd197 := hRS180.1.1
  obtain ⟨S192, g193, hS_194, h220_195, h221_196⟩ := hRS180.1.2.2.2.2.2.2
  obtain ⟨k198, lo199, hi200, as201, pa202, ne203, he_204, ho_205⟩ := (hRS180.1.2.2.2.2.2.1 kx177 (by omega)).1
  exact x_aret hx hb hlocks hr (⟨kx177, rc178, ec179, rfl, by omega, by omega, by omega, hRS180⟩) hP hS d_Rd_readElement_109
set_option maxHeartbeats 4000000 in
set_option maxRecDepth 100000 in
theorem m_Rd_readRepetition_4 (l : Launch) {D : va_G} {cy : Nat → ClassId} {sz n : Nat} {ad : Nat → Nat} {mem : Nat → va_E} {Z : Nat} {f : Nat → Int32} {lim rc ec : Nat} {m0 : Nat → va_E} (hlt : l.stackTraces = false) (hn : 224 ≤ n) (hT : TX cy ad Z f m0) (hRS : RS cy ad lim rc ec m0 mem) : NXr l D cy sz n ad y_Rd_readRepetition c_Rd_readRepetition 3 (some (.object "AbnfChart$Element")) ({ frames := 29, cells := 1, slots := 6, locals := 688 } : Room) mem [.ref (ad 222), .int (4)] (fun r mem' => ∃ k rc' ec' : Nat, r = ad (20 + 2 * k) ∧ ec ≤ k ∧ k < ec' ∧ rc ≤ rc' ∧ RS cy ad lim rc' ec' m0 mem') (fun X mem' => (X = cIA ∨ X = cIS) ∧ ∃ rc' ec' : Nat, RS cy ad lim rc' ec' m0 mem') := by
  refine vx_ofW (cc := c_Rd_readRepetition) (maxL := 3) (ret := (some (.object "AbnfChart$Element"))) (by decide) rfl ?_
  intro p e s m args below meth c s₁ B hml hno hv
  obtain ⟨rfl, E, hP, hD⟩ := hv
  have hx := B.exec
  have hb := B.bytes
  have hr := B.returns
  have hlocks := B.notSynchronized
  have Bx : MB p s m [.ref (ad 222), .int (4)].toArray c c_Rd_readRepetition "AbnfChart$Reader" D cy := ⟨hx, hb, tb_all (atoms_spec B.pre) E.2.1, findClass_of_methodNamed B.named, E.1⟩
  have hS : va_S (Az sz) s.heap s.heap [] := va_S.rf
  have hl := lv_entry ([.ref (ad 222), .int (4)]) (n := 3) (Nat.le_of_ble_eq_true rfl)
  rw [lg_entry_eq]
  generalize (lg_sl ([.ref (ad 222), .int (4)]) ++ List.replicate (3 - (lg_sl ([.ref (ad 222), .int (4)])).length) Slot.unset).toArray = ls at hl ⊢
  have hl : lv_has ls 3 [(0, .ref (ad 222)), (1, .int (4))] := hl
  obtain ⟨at1, ft2, h9_3⟩ := hRS.2.1
  have h1_4 : mem 1 = .inr (0, [.ref (ad 2), .int (nI Z)]) := (hRS.2.2 1 (by omega)).trans hT.1
  have h2_5 : mem 2 = .inl (cy 0, 240, .inl f) := (hRS.2.2 2 (by omega)).trans hT.2.2
  have h5_6 := hRS.1.2.1
  have hbd12 := hRS.1.1
  obtain ⟨S7, g8, hS_9, h220_10, h221_11⟩ := hRS.1.2.2.2.2.2.2
  refine lv_aload_n Bx.1 Bx.2.1 d_Rd_readRepetition_0 rfl (lv_at hl 0 rfl) ?_
  refine f_callVi (na := 0) (As := []) (rest := []) Bx hml E hP hD hS (by omega) h9_3 rfl (m_Rd_peek l hn hT hRS) kw_353 kw_355 sel_Rd_peek kw_6 kw_356 (by decide +kernel) ⟨rfl, rfl⟩ ⟨Nat.le_of_ble_eq_true rfl, Nat.le_of_ble_eq_true rfl⟩ rfl hl.1 (Nat.le_of_ble_eq_true rfl) d_Rd_readRepetition_1 ⟨Nat.le_of_ble_eq_true rfl, Nat.le_of_ble_eq_true rfl⟩ (fun r13 mem14 H locs hq hP hS => ?_)
  have hD : va_D (Az sz) (fw n ad mem14) := fw_D hD
  rw [hq] at hP hD
  refine f_callSi (na := 1) (As := [.int (r13)]) (rest := []) Bx hml E.2.1 (m_Rd_beginsRepeat l (r13)) kw_416 kw_417 kw_6 kw_418 (by decide +kernel) ⟨rfl, rfl⟩ ⟨Nat.le_of_ble_eq_true rfl, Nat.le_of_ble_eq_true rfl⟩ rfl hl.1 (Nat.le_of_ble_eq_true rfl) d_Rd_readRepetition_4 ⟨Nat.le_of_ble_eq_true rfl, Nat.le_of_ble_eq_true rfl⟩ (fun r16 hs15 => ?_)
  refine lv_if_ne Bx.1 Bx.2.1 d_Rd_readRepetition_7 rfl (fun h8 => ?_) (fun h8 => ?_)
  · refine lv_aload_n Bx.1 Bx.2.1 d_Rd_readRepetition_16 rfl (lv_at hl 0 rfl) ?_
    refine lv_iconst (v := 2) Bx.1 Bx.2.1 d_Rd_readRepetition_17 (by decide) ?_
    refine lv_aload_n Bx.1 Bx.2.1 d_Rd_readRepetition_18 rfl (lv_at hl 0 rfl) ?_
    refine f_get Bx hP (by omega) h9_3 rfl inRd 2 (by decide) kw_146 rfl rfl d_Rd_readRepetition_19 ?_
    refine f_xVr (na := 2) (As := [.int (2), .int (at1)]) (rest := []) Bx hml E hP hD hS (by omega) h9_3 rfl (m_Rd_addElement l hlt hn hT hRS) kw_419 kw_421 sel_Rd_addElement kw_6 kw_422 (by decide +kernel) ⟨rfl, rfl⟩ ⟨Nat.le_of_ble_eq_true rfl, Nat.le_of_ble_eq_true rfl⟩ rfl hl.1 (Nat.le_of_ble_eq_true rfl) d_Rd_readRepetition_22 ⟨Nat.le_of_ble_eq_true rfl, Nat.le_of_ble_eq_true rfl⟩ (fun X ce q9 memx H locs hx9 hP hS g1 g2 g3 => f_out hlocks hno hP hS g1 g2 g3 ⟨Nat.le_of_ble_eq_true rfl, Nat.le_of_ble_eq_true rfl⟩ hx9) (fun r17 mem18 H locs hq hP hS => ?_)
    have hD : va_D (Az sz) (fw n ad mem18) := fw_D hD
    obtain ⟨hr921, hec20, hRS19⟩ := hq
    subst hr921
    obtain ⟨at22, ft23, h9_24⟩ := hRS19.2.1
    have h1_25 : mem18 1 = .inr (0, [.ref (ad 2), .int (nI Z)]) := (hRS19.2.2 1 (by omega)).trans hT.1
    have h2_26 : mem18 2 = .inl (cy 0, 240, .inl f) := (hRS19.2.2 2 (by omega)).trans hT.2.2
    have h5_27 := hRS19.1.2.1
    have hbd33 := hRS19.1.1
    obtain ⟨S28, g29, hS_30, h220_31, h221_32⟩ := hRS19.1.2.2.2.2.2.2
    obtain ⟨k34, lo35, hi36, as37, pa38, ne39, he_40, ho_41⟩ := (hRS19.1.2.2.2.2.2.1 ec (by omega)).1
    refine lv_astore_n (lv' := [(2, .ref (ad (20 + 2 * ec))), (0, .ref (ad 222)), (1, .int (4))]) Bx.1 Bx.2.1 d_Rd_readRepetition_25 rfl hl (by decide) rfl (fun ls hl => ?_)
    refine lv_aload_n Bx.1 Bx.2.1 d_Rd_readRepetition_26 rfl (lv_at hl 1 rfl) ?_
    refine lv_aload_n Bx.1 Bx.2.1 d_Rd_readRepetition_27 rfl (lv_at hl 0 rfl) ?_
    refine f_xVv (na := 1) (As := [.ref (ad (20 + 2 * ec))]) (rest := []) Bx hml E hP hD hS (by omega) h9_24 rfl (m_Rd_readRepeat l hlt hn hT hRS19 (by omega)) kw_482 kw_484 sel_Rd_readRepeat kw_6 kw_485 (by decide +kernel) ⟨rfl, rfl⟩ ⟨Nat.le_of_ble_eq_true rfl, Nat.le_of_ble_eq_true rfl⟩ rfl hl.1 (Nat.le_of_ble_eq_true rfl) d_Rd_readRepetition_28 ⟨Nat.le_of_ble_eq_true rfl, Nat.le_of_ble_eq_true rfl⟩ (fun X ce q9 memx H locs hx9 hP hS g1 g2 g3 => f_out hlocks hno hP hS g1 g2 g3 ⟨Nat.le_of_ble_eq_true rfl, Nat.le_of_ble_eq_true rfl⟩ hx9) (fun mem44 H locs hRS42 hP hS => ?_)
    have hD : va_D (Az sz) (fw n ad mem44) := fw_D hD
    obtain ⟨at45, ft46, h9_47⟩ := hRS42.2.1
    have h1_48 : mem44 1 = .inr (0, [.ref (ad 2), .int (nI Z)]) := (hRS42.2.2 1 (by omega)).trans hT.1
    have h2_49 : mem44 2 = .inl (cy 0, 240, .inl f) := (hRS42.2.2 2 (by omega)).trans hT.2.2
    have h5_50 := hRS42.1.2.1
    have hbd56 := hRS42.1.1
    obtain ⟨S51, g52, hS_53, h220_54, h221_55⟩ := hRS42.1.2.2.2.2.2.2
    obtain ⟨k57, lo58, hi59, as60, pa61, ne62, he_63, ho_64⟩ := (hRS42.1.2.2.2.2.2.1 ec (by omega)).1
    refine lv_aload_n Bx.1 Bx.2.1 d_Rd_readRepetition_31 rfl (lv_at hl 0 rfl) ?_
    refine lv_aload_n Bx.1 Bx.2.1 d_Rd_readRepetition_32 rfl (lv_at hl 1 rfl) ?_
    refine lv_iload_n Bx.1 Bx.2.1 d_Rd_readRepetition_33 rfl (lv_at hl 2 rfl) ?_
    refine f_xVr (na := 1) (As := [.int (4)]) (rest := [.ref (ad (20 + 2 * ec))]) Bx hml E hP hD hS (by omega) h9_47 rfl (m_Rd_readElement_4 l hlt hn hT hRS42) kw_443 kw_445 sel_Rd_readElement kw_6 kw_446 (by decide +kernel) ⟨rfl, rfl⟩ ⟨Nat.le_of_ble_eq_true rfl, Nat.le_of_ble_eq_true rfl⟩ rfl hl.1 (Nat.le_of_ble_eq_true rfl) d_Rd_readRepetition_34 ⟨Nat.le_of_ble_eq_true rfl, Nat.le_of_ble_eq_true rfl⟩ (fun X ce q9 memx H locs hx9 hP hS g1 g2 g3 => f_out hlocks hno hP hS g1 g2 g3 ⟨Nat.le_of_ble_eq_true rfl, Nat.le_of_ble_eq_true rfl⟩ hx9) (fun r65 mem66 H locs hq hP hS => ?_)
    have hD : va_D (Az sz) (fw n ad mem66) := fw_D hD
    obtain ⟨kx67, rc68, ec69, hr971, hb72, hb73, hb74, hRS70⟩ := hq
    subst hr971
    have hbd75 := hRS70.1.1
    obtain ⟨at76, ft77, h9_78⟩ := hRS70.2.1
    have h1_79 : mem66 1 = .inr (0, [.ref (ad 2), .int (nI Z)]) := (hRS70.2.2 1 (by omega)).trans hT.1
    have h2_80 : mem66 2 = .inl (cy 0, 240, .inl f) := (hRS70.2.2 2 (by omega)).trans hT.2.2
    have h5_81 := hRS70.1.2.1
    have hbd87 := hRS70.1.1
    obtain ⟨S82, g83, hS_84, h220_85, h221_86⟩ := hRS70.1.2.2.2.2.2.2
    obtain ⟨k88, lo89, hi90, as91, pa92, ne93, he_94, ho_95⟩ := (hRS70.1.2.2.2.2.2.1 ec (by omega)).1
    obtain ⟨k96, lo97, hi98, as99, pa100, ne101, he_102, ho_103⟩ := (hRS70.1.2.2.2.2.2.1 kx67 (by omega)).1
    refine f_putN Bx hP hD hS (by omega) he_94 rfl inEl tyEl okEl nmEl 4 (by decide) kw_87 rfl rfl rfl rfl (Nat.le_of_ble_eq_true rfl) d_Rd_readRepetition_37 (fun H locs hP hS => ?_)
    obtain ⟨mem104, e_mem104⟩ : ∃ z, z = va_up mem66 ((20 + 2 * ec)) (.inr (2, [.int (k88), .int (lo89), .int (hi90), as91, .ref (ad (20 + 2 * kx67)), ne93, .ref (ad (21 + 2 * ec))])) := ⟨_, rfl⟩
    have hP : va_P D vcl (fw n ad mem104) H := by rw [e_mem104]; exact hP
    have hD : va_D (Az sz) (fw n ad mem104) := fw_D hD
    have h_mem104 : mem104 ((20 + 2 * ec)) = .inr (2, [.int (k88), .int (lo89), .int (hi90), as91, .ref (ad (20 + 2 * kx67)), ne93, .ref (ad (21 + 2 * ec))]) := by rw [e_mem104, va_up_self]
    have hh105 := (va_up_ne mem66 (.inr (2, [.int (k88), .int (lo89), .int (hi90), as91, .ref (ad (20 + 2 * kx67)), ne93, .ref (ad (21 + 2 * ec))])) (show (222 : Nat) ≠ (20 + 2 * ec) by first | decide | assumption | omega)).trans h9_78
    rw [← e_mem104] at hh105
    have hh106 := (va_up_ne mem66 (.inr (2, [.int (k88), .int (lo89), .int (hi90), as91, .ref (ad (20 + 2 * kx67)), ne93, .ref (ad (21 + 2 * ec))])) (show (1 : Nat) ≠ (20 + 2 * ec) by first | decide | assumption | omega)).trans h1_79
    rw [← e_mem104] at hh106
    have hh107 := (va_up_ne mem66 (.inr (2, [.int (k88), .int (lo89), .int (hi90), as91, .ref (ad (20 + 2 * kx67)), ne93, .ref (ad (21 + 2 * ec))])) (show (5 : Nat) ≠ (20 + 2 * ec) by first | decide | assumption | omega)).trans h5_81
    rw [← e_mem104] at hh107
    have hh108 := (va_up_ne mem66 (.inr (2, [.int (k88), .int (lo89), .int (hi90), as91, .ref (ad (20 + 2 * kx67)), ne93, .ref (ad (21 + 2 * ec))])) (show (220 : Nat) ≠ (20 + 2 * ec) by first | decide | assumption | omega)).trans h220_85
    rw [← e_mem104] at hh108
    have hh109 := (va_up_ne mem66 (.inr (2, [.int (k88), .int (lo89), .int (hi90), as91, .ref (ad (20 + 2 * kx67)), ne93, .ref (ad (21 + 2 * ec))])) (show ((20 + 2 * kx67) : Nat) ≠ (20 + 2 * ec) by first | decide | assumption | omega)).trans he_102
    rw [← e_mem104] at hh109
    have hRS110 : RS cy ad lim rc68 ec69 m0 mem104 := by rw [e_mem104]; exact hRS70.mk (by omega) (hRS70.1.upEl (by omega) (fun q9 => ⟨(ho_95 q9).1, Or.inr ⟨kx67, by omega, by omega, rfl⟩, (ho_95 q9).2.2⟩))
    refine lv_aload_n Bx.1 Bx.2.1 d_Rd_readRepetition_40 rfl (lv_at hl 0 rfl) ?_
    exact x_aret hx hb hlocks hr (⟨ec, rc68, ec69, rfl, by omega, by omega, by omega, hRS110⟩) hP hS d_Rd_readRepetition_41
  · refine lv_aload_n Bx.1 Bx.2.1 d_Rd_readRepetition_10 rfl (lv_at hl 0 rfl) ?_
    refine lv_iload_n Bx.1 Bx.2.1 d_Rd_readRepetition_11 rfl (lv_at hl 1 rfl) ?_
    refine f_xVr (na := 1) (As := [.int (4)]) (rest := []) Bx hml E hP hD hS (by omega) h9_3 rfl (m_Rd_readElement_4 l hlt hn hT hRS) kw_443 kw_445 sel_Rd_readElement kw_6 kw_446 (by decide +kernel) ⟨rfl, rfl⟩ ⟨Nat.le_of_ble_eq_true rfl, Nat.le_of_ble_eq_true rfl⟩ rfl hl.1 (Nat.le_of_ble_eq_true rfl) d_Rd_readRepetition_12 ⟨Nat.le_of_ble_eq_true rfl, Nat.le_of_ble_eq_true rfl⟩ (fun X ce q9 memx H locs hx9 hP hS g1 g2 g3 => f_out hlocks hno hP hS g1 g2 g3 ⟨Nat.le_of_ble_eq_true rfl, Nat.le_of_ble_eq_true rfl⟩ hx9) (fun r111 mem112 H locs hq hP hS => ?_)
    have hD : va_D (Az sz) (fw n ad mem112) := fw_D hD
    obtain ⟨kx113, rc114, ec115, hr9117, hb118, hb119, hb120, hRS116⟩ := hq
    subst hr9117
    have hbd121 := hRS116.1.1
    obtain ⟨at122, ft123, h9_124⟩ := hRS116.2.1
    have h1_125 : mem112 1 = .inr (0, [.ref (ad 2), .int (nI Z)]) := (hRS116.2.2 1 (by omega)).trans hT.1
    have h2_126 : mem112 2 = .inl (cy 0, 240, .inl f) := (hRS116.2.2 2 (by omega)).trans hT.2.2
    have h5_127 := hRS116.1.2.1
    have hbd133 := hRS116.1.1
    obtain ⟨S128, g129, hS_130, h220_131, h221_132⟩ := hRS116.1.2.2.2.2.2.2
    obtain ⟨k134, lo135, hi136, as137, pa138, ne139, he_140, ho_141⟩ := (hRS116.1.2.2.2.2.2.1 kx113 (by omega)).1
    exact x_aret hx hb hlocks hr (⟨kx113, rc114, ec115, rfl, by omega, by omega, by omega, hRS116⟩) hP hS d_Rd_readRepetition_15
set_option maxHeartbeats 4000000 in
set_option maxRecDepth 100000 in
theorem m_Rd_readSequence_4 (l : Launch) {D : va_G} {cy : Nat → ClassId} {sz n : Nat} {ad : Nat → Nat} {mem : Nat → va_E} {Z : Nat} {f : Nat → Int32} {lim rc ec : Nat} {m0 : Nat → va_E} (hlt : l.stackTraces = false) (hn : 224 ≤ n) (hT : TX cy ad Z f m0) (hRS : RS cy ad lim rc ec m0 mem) : NXr l D cy sz n ad y_Rd_readSequence c_Rd_readSequence 5 (some (.object "AbnfChart$Element")) ({ frames := 30, cells := 1, slots := 6, locals := 712 } : Room) mem [.ref (ad 222), .int (4)] (fun r mem' => ∃ k rc' ec' : Nat, r = ad (20 + 2 * k) ∧ ec ≤ k ∧ k < ec' ∧ rc ≤ rc' ∧ RS cy ad lim rc' ec' m0 mem') (fun X mem' => (X = cIA ∨ X = cIS) ∧ ∃ rc' ec' : Nat, RS cy ad lim rc' ec' m0 mem') := by
  refine vx_ofW (cc := c_Rd_readSequence) (maxL := 5) (ret := (some (.object "AbnfChart$Element"))) (by decide) rfl ?_
  intro p e s m args below meth c s₁ B hml hno hv
  obtain ⟨rfl, E, hP, hD⟩ := hv
  have hx := B.exec
  have hb := B.bytes
  have hr := B.returns
  have hlocks := B.notSynchronized
  have Bx : MB p s m [.ref (ad 222), .int (4)].toArray c c_Rd_readSequence "AbnfChart$Reader" D cy := ⟨hx, hb, tb_all (atoms_spec B.pre) E.2.1, findClass_of_methodNamed B.named, E.1⟩
  have hS : va_S (Az sz) s.heap s.heap [] := va_S.rf
  have hl := lv_entry ([.ref (ad 222), .int (4)]) (n := 5) (Nat.le_of_ble_eq_true rfl)
  rw [lg_entry_eq]
  generalize (lg_sl ([.ref (ad 222), .int (4)]) ++ List.replicate (5 - (lg_sl ([.ref (ad 222), .int (4)])).length) Slot.unset).toArray = ls at hl ⊢
  have hl : lv_has ls 5 [(0, .ref (ad 222)), (1, .int (4))] := hl
  obtain ⟨at1, ft2, h9_3⟩ := hRS.2.1
  have h1_4 : mem 1 = .inr (0, [.ref (ad 2), .int (nI Z)]) := (hRS.2.2 1 (by omega)).trans hT.1
  have h2_5 : mem 2 = .inl (cy 0, 240, .inl f) := (hRS.2.2 2 (by omega)).trans hT.2.2
  have h5_6 := hRS.1.2.1
  have hbd12 := hRS.1.1
  obtain ⟨S7, g8, hS_9, h220_10, h221_11⟩ := hRS.1.2.2.2.2.2.2
  refine lv_aload_n Bx.1 Bx.2.1 d_Rd_readSequence_0 rfl (lv_at hl 0 rfl) ?_
  refine lv_iconst (v := 1) Bx.1 Bx.2.1 d_Rd_readSequence_1 (by decide) ?_
  refine f_xVr (na := 1) (As := [.int (1)]) (rest := []) Bx hml E hP hD hS (by omega) h9_3 rfl (m_Rd_beginRow l hlt hn hT hRS) kw_409 kw_411 sel_Rd_beginRow kw_6 kw_412 (by decide +kernel) ⟨rfl, rfl⟩ ⟨Nat.le_of_ble_eq_true rfl, Nat.le_of_ble_eq_true rfl⟩ rfl hl.1 (Nat.le_of_ble_eq_true rfl) d_Rd_readSequence_2 ⟨Nat.le_of_ble_eq_true rfl, Nat.le_of_ble_eq_true rfl⟩ (fun X ce q9 memx H locs hx9 hP hS g1 g2 g3 => f_out hlocks hno hP hS g1 g2 g3 ⟨Nat.le_of_ble_eq_true rfl, Nat.le_of_ble_eq_true rfl⟩ hx9) (fun r13 mem14 H locs hq hP hS => ?_)
  have hD : va_D (Az sz) (fw n ad mem14) := fw_D hD
  obtain ⟨kx15, rc16, ec17, hr919, hb20, hb21, hb22, hRS18⟩ := hq
  subst hr919
  have hbd23 := hRS18.1.1
  obtain ⟨at24, ft25, h9_26⟩ := hRS18.2.1
  have h1_27 : mem14 1 = .inr (0, [.ref (ad 2), .int (nI Z)]) := (hRS18.2.2 1 (by omega)).trans hT.1
  have h2_28 : mem14 2 = .inl (cy 0, 240, .inl f) := (hRS18.2.2 2 (by omega)).trans hT.2.2
  have h5_29 := hRS18.1.2.1
  have hbd35 := hRS18.1.1
  obtain ⟨S30, g31, hS_32, h220_33, h221_34⟩ := hRS18.1.2.2.2.2.2.2
  obtain ⟨k36, lo37, hi38, as39, pa40, ne41, he_42, ho_43⟩ := (hRS18.1.2.2.2.2.2.1 kx15 (by omega)).1
  refine lv_astore_n (lv' := [(2, .ref (ad (20 + 2 * kx15))), (0, .ref (ad 222)), (1, .int (4))]) Bx.1 Bx.2.1 d_Rd_readSequence_5 rfl hl (by decide) rfl (fun ls hl => ?_)
  refine lv_aload_n Bx.1 Bx.2.1 d_Rd_readSequence_6 rfl (lv_at hl 1 rfl) ?_
  refine lv_iload_n Bx.1 Bx.2.1 d_Rd_readSequence_7 rfl (lv_at hl 2 rfl) ?_
  refine f_xVr (na := 1) (As := [.int (4)]) (rest := []) Bx hml E hP hD hS (by omega) h9_26 rfl (m_Rd_readRepetition_4 l hlt hn hT hRS18) kw_439 kw_441 sel_Rd_readRepetition kw_6 kw_442 (by decide +kernel) ⟨rfl, rfl⟩ ⟨Nat.le_of_ble_eq_true rfl, Nat.le_of_ble_eq_true rfl⟩ rfl hl.1 (Nat.le_of_ble_eq_true rfl) d_Rd_readSequence_8 ⟨Nat.le_of_ble_eq_true rfl, Nat.le_of_ble_eq_true rfl⟩ (fun X ce q9 memx H locs hx9 hP hS g1 g2 g3 => f_out hlocks hno hP hS g1 g2 g3 ⟨Nat.le_of_ble_eq_true rfl, Nat.le_of_ble_eq_true rfl⟩ hx9) (fun r44 mem45 H locs hq hP hS => ?_)
  have hD : va_D (Az sz) (fw n ad mem45) := fw_D hD
  obtain ⟨kx46, rc47, ec48, hr950, hb51, hb52, hb53, hRS49⟩ := hq
  subst hr950
  have hbd54 := hRS49.1.1
  obtain ⟨at55, ft56, h9_57⟩ := hRS49.2.1
  have h1_58 : mem45 1 = .inr (0, [.ref (ad 2), .int (nI Z)]) := (hRS49.2.2 1 (by omega)).trans hT.1
  have h2_59 : mem45 2 = .inl (cy 0, 240, .inl f) := (hRS49.2.2 2 (by omega)).trans hT.2.2
  have h5_60 := hRS49.1.2.1
  have hbd66 := hRS49.1.1
  obtain ⟨S61, g62, hS_63, h220_64, h221_65⟩ := hRS49.1.2.2.2.2.2.2
  obtain ⟨k67, lo68, hi69, as70, pa71, ne72, he_73, ho_74⟩ := (hRS49.1.2.2.2.2.2.1 kx15 (by omega)).1
  obtain ⟨k75, lo76, hi77, as78, pa79, ne80, he_81, ho_82⟩ := (hRS49.1.2.2.2.2.2.1 kx46 (by omega)).1
  refine lv_astore_n (lv' := [(3, .ref (ad (20 + 2 * kx46))), (2, .ref (ad (20 + 2 * kx15))), (0, .ref (ad 222)), (1, .int (4))]) Bx.1 Bx.2.1 d_Rd_readSequence_11 rfl hl (by decide) rfl (fun ls hl => ?_)
  refine lv_aload_n Bx.1 Bx.2.1 d_Rd_readSequence_12 rfl (lv_at hl 1 rfl) ?_
  refine lv_aload_n Bx.1 Bx.2.1 d_Rd_readSequence_13 rfl (lv_at hl 0 rfl) ?_
  refine f_putN Bx hP hD hS (by omega) he_73 rfl inEl tyEl okEl nmEl 4 (by decide) kw_87 rfl rfl rfl rfl (Nat.le_of_ble_eq_true rfl) d_Rd_readSequence_14 (fun H locs hP hS => ?_)
  obtain ⟨mem83, e_mem83⟩ : ∃ z, z = va_up mem45 ((20 + 2 * kx15)) (.inr (2, [.int (k67), .int (lo68), .int (hi69), as70, .ref (ad (20 + 2 * kx46)), ne72, .ref (ad (21 + 2 * kx15))])) := ⟨_, rfl⟩
  have hP : va_P D vcl (fw n ad mem83) H := by rw [e_mem83]; exact hP
  have hD : va_D (Az sz) (fw n ad mem83) := fw_D hD
  have h_mem83 : mem83 ((20 + 2 * kx15)) = .inr (2, [.int (k67), .int (lo68), .int (hi69), as70, .ref (ad (20 + 2 * kx46)), ne72, .ref (ad (21 + 2 * kx15))]) := by rw [e_mem83, va_up_self]
  have hh84 := (va_up_ne mem45 (.inr (2, [.int (k67), .int (lo68), .int (hi69), as70, .ref (ad (20 + 2 * kx46)), ne72, .ref (ad (21 + 2 * kx15))])) (show (222 : Nat) ≠ (20 + 2 * kx15) by first | decide | assumption | omega)).trans h9_57
  rw [← e_mem83] at hh84
  have hh85 := (va_up_ne mem45 (.inr (2, [.int (k67), .int (lo68), .int (hi69), as70, .ref (ad (20 + 2 * kx46)), ne72, .ref (ad (21 + 2 * kx15))])) (show (1 : Nat) ≠ (20 + 2 * kx15) by first | decide | assumption | omega)).trans h1_58
  rw [← e_mem83] at hh85
  have hh86 := (va_up_ne mem45 (.inr (2, [.int (k67), .int (lo68), .int (hi69), as70, .ref (ad (20 + 2 * kx46)), ne72, .ref (ad (21 + 2 * kx15))])) (show (5 : Nat) ≠ (20 + 2 * kx15) by first | decide | assumption | omega)).trans h5_60
  rw [← e_mem83] at hh86
  have hh87 := (va_up_ne mem45 (.inr (2, [.int (k67), .int (lo68), .int (hi69), as70, .ref (ad (20 + 2 * kx46)), ne72, .ref (ad (21 + 2 * kx15))])) (show (220 : Nat) ≠ (20 + 2 * kx15) by first | decide | assumption | omega)).trans h220_64
  rw [← e_mem83] at hh87
  have hh88 := (va_up_ne mem45 (.inr (2, [.int (k67), .int (lo68), .int (hi69), as70, .ref (ad (20 + 2 * kx46)), ne72, .ref (ad (21 + 2 * kx15))])) (show ((20 + 2 * kx46) : Nat) ≠ (20 + 2 * kx15) by first | decide | assumption | omega)).trans he_81
  rw [← e_mem83] at hh88
  have hRS89 : RS cy ad lim rc47 ec48 m0 mem83 := by rw [e_mem83]; exact hRS49.mk (by omega) (hRS49.1.upEl (by omega) (fun q9 => ⟨(ho_74 q9).1, Or.inr ⟨kx46, by omega, by omega, rfl⟩, (ho_74 q9).2.2⟩))
  refine lv_iconst (v := 0) Bx.1 Bx.2.1 d_Rd_readSequence_17 (by decide) ?_
  refine lv_istore (lv' := [(4, .int (0)), (3, .ref (ad (20 + 2 * kx46))), (2, .ref (ad (20 + 2 * kx15))), (0, .ref (ad 222)), (1, .int (4))]) Bx.1 Bx.2.1 d_Rd_readSequence_18 hl (by decide) rfl (fun ls hl => ?_)
  have loop90 : ∀ (d : Nat) (mem : Nat → va_E) (rcl ecl : Nat) (ls : Array Slot) (H : Heap) (locs : List Loc) (la : Nat) (k9 : Int32), ((240 : Int32).toInt - (k9).toInt).toNat < d → RS cy ad lim rcl ecl m0 mem → kx15 < ecl ∧ la < ecl ∧ rc ≤ rcl → va_P D vcl (fw n ad mem) H → va_D (Az sz) (fw n ad mem) → va_S (Az sz) s.heap H locs → lv_has ls 5 [(4, .int (k9)), (3, .ref (ad (20 + 2 * la))), (2, .ref (ad (20 + 2 * kx15))), (0, .ref (ad 222)), (1, .int (4))] → W p l e (headSpec (Cond.code y_Rd_readSequence c_Rd_readSequence 5 (some (.object "AbnfChart$Element")) :: tg) ({ frames := 30, cells := 1, slots := 6, locals := 712 } : Room)).room s m [.ref (ad 222), .int (4)].toArray below meth c H locs 0 0 (vx_MQ below (QX (QR (fun r mem' => ∃ k rc' ec' : Nat, r = ad (20 + 2 * k) ∧ ec ≤ k ∧ k < ec' ∧ rc ≤ rc' ∧ RS cy ad lim rc' ec' m0 mem') (PP D n ad) (Az sz))) (XQ D sz n ad (fun X mem' => (X = cIA ∨ X = cIS) ∧ ∃ rc' ec' : Nat, RS cy ad lim rc' ec' m0 mem')) [.ref (ad 222), .int (4)].toArray s 1 6 (Az sz)) (F0 m 20 ls []) := by
    intro d
    induction d with
    | zero => intro mem rcl ecl ls H locs la k9 hmeas; exact absurd hmeas (Nat.not_lt_zero _)
    | succ d ih =>
      intro mem rcl ecl ls H locs la k9 hmeas hRS hx0 hP hD hS hl
      have hbd := hRS.1.1
      obtain ⟨at91, ft92, h9_93⟩ := hRS.2.1
      have h1_94 : mem 1 = .inr (0, [.ref (ad 2), .int (nI Z)]) := (hRS.2.2 1 (by omega)).trans hT.1
      have h2_95 : mem 2 = .inl (cy 0, 240, .inl f) := (hRS.2.2 2 (by omega)).trans hT.2.2
      have h5_96 := hRS.1.2.1
      have hbd102 := hRS.1.1
      obtain ⟨S97, g98, hS_99, h220_100, h221_101⟩ := hRS.1.2.2.2.2.2.2
      obtain ⟨k103, lo104, hi105, as106, pa107, ne108, he_109, ho_110⟩ := (hRS.1.2.2.2.2.2.1 la (by omega)).1
      refine lv_iload Bx.1 Bx.2.1 d_Rd_readSequence_20 (lv_at hl 0 rfl) ?_
      refine lv_sipush (v := 240) Bx.1 Bx.2.1 d_Rd_readSequence_22 (by decide) ?_
      refine lv_icmp_ge Bx.1 Bx.2.1 d_Rd_readSequence_25 rfl (fun hk => ?_) (fun hk => ?_)
      · refine lv_aload_n Bx.1 Bx.2.1 d_Rd_readSequence_65 rfl (lv_at hl 2 rfl) ?_
        exact x_aret hx hb hlocks hr (⟨kx15, rcl, ecl, rfl, by omega, by omega, by omega, hRS⟩) hP hS d_Rd_readSequence_66
      · refine lv_aload_n Bx.1 Bx.2.1 d_Rd_readSequence_28 rfl (lv_at hl 3 rfl) ?_
        refine f_callVi (na := 0) (As := []) (rest := []) Bx hml E hP hD hS (by omega) h9_93 rfl (m_Rd_readGap l hn hT hRS) kw_397 kw_399 sel_Rd_readGap kw_6 kw_400 (by decide +kernel) ⟨rfl, rfl⟩ ⟨Nat.le_of_ble_eq_true rfl, Nat.le_of_ble_eq_true rfl⟩ rfl hl.1 (Nat.le_of_ble_eq_true rfl) d_Rd_readSequence_29 ⟨Nat.le_of_ble_eq_true rfl, Nat.le_of_ble_eq_true rfl⟩ (fun r112 mem113 H locs hRS111 hP hS => ?_)
        have hD : va_D (Az sz) (fw n ad mem113) := fw_D hD
        obtain ⟨at114, ft115, h9_116⟩ := hRS111.2.1
        have h1_117 : mem113 1 = .inr (0, [.ref (ad 2), .int (nI Z)]) := (hRS111.2.2 1 (by omega)).trans hT.1
        have h2_118 : mem113 2 = .inl (cy 0, 240, .inl f) := (hRS111.2.2 2 (by omega)).trans hT.2.2
        have h5_119 := hRS111.1.2.1
        have hbd125 := hRS111.1.1
        obtain ⟨S120, g121, hS_122, h220_123, h221_124⟩ := hRS111.1.2.2.2.2.2.2
        obtain ⟨k126, lo127, hi128, as129, pa130, ne131, he_132, ho_133⟩ := (hRS111.1.2.2.2.2.2.1 la (by omega)).1
        refine lv_if_eq Bx.1 Bx.2.1 d_Rd_readSequence_32 rfl (fun h8 => ?_) (fun h8 => ?_)
        · refine lv_aload_n Bx.1 Bx.2.1 d_Rd_readSequence_65 rfl (lv_at hl 2 rfl) ?_
          exact x_aret hx hb hlocks hr (⟨kx15, rcl, ecl, rfl, by omega, by omega, by omega, hRS111⟩) hP hS d_Rd_readSequence_66
        · refine lv_aload_n Bx.1 Bx.2.1 d_Rd_readSequence_35 rfl (lv_at hl 3 rfl) ?_
          refine f_callVi (na := 0) (As := []) (rest := []) Bx hml E hP hD hS (by omega) h9_116 rfl (m_Rd_peek l hn hT hRS111) kw_353 kw_355 sel_Rd_peek kw_6 kw_356 (by decide +kernel) ⟨rfl, rfl⟩ ⟨Nat.le_of_ble_eq_true rfl, Nat.le_of_ble_eq_true rfl⟩ rfl hl.1 (Nat.le_of_ble_eq_true rfl) d_Rd_readSequence_36 ⟨Nat.le_of_ble_eq_true rfl, Nat.le_of_ble_eq_true rfl⟩ (fun r134 mem135 H locs hq hP hS => ?_)
          have hD : va_D (Az sz) (fw n ad mem135) := fw_D hD
          rw [hq] at hP hD
          refine f_callSi (na := 1) (As := [.int (r134)]) (rest := []) Bx hml E.2.1 (m_Rd_beginsRepetition l (r134)) kw_413 kw_414 kw_6 kw_415 (by decide +kernel) ⟨rfl, rfl⟩ ⟨Nat.le_of_ble_eq_true rfl, Nat.le_of_ble_eq_true rfl⟩ rfl hl.1 (Nat.le_of_ble_eq_true rfl) d_Rd_readSequence_39 ⟨Nat.le_of_ble_eq_true rfl, Nat.le_of_ble_eq_true rfl⟩ (fun r137 hs136 => ?_)
          refine lv_if_eq Bx.1 Bx.2.1 d_Rd_readSequence_42 rfl (fun h8 => ?_) (fun h8 => ?_)
          · refine lv_aload_n Bx.1 Bx.2.1 d_Rd_readSequence_65 rfl (lv_at hl 2 rfl) ?_
            exact x_aret hx hb hlocks hr (⟨kx15, rcl, ecl, rfl, by omega, by omega, by omega, hRS111⟩) hP hS d_Rd_readSequence_66
          · refine lv_aload_n Bx.1 Bx.2.1 d_Rd_readSequence_45 rfl (lv_at hl 1 rfl) ?_
            refine lv_aload_n Bx.1 Bx.2.1 d_Rd_readSequence_46 rfl (lv_at hl 3 rfl) ?_
            refine lv_iload_n Bx.1 Bx.2.1 d_Rd_readSequence_47 rfl (lv_at hl 4 rfl) ?_
            refine f_xVr (na := 1) (As := [.int (4)]) (rest := [.ref (ad (20 + 2 * la))]) Bx hml E hP hD hS (by omega) h9_116 rfl (m_Rd_readRepetition_4 l hlt hn hT hRS111) kw_439 kw_441 sel_Rd_readRepetition kw_6 kw_442 (by decide +kernel) ⟨rfl, rfl⟩ ⟨Nat.le_of_ble_eq_true rfl, Nat.le_of_ble_eq_true rfl⟩ rfl hl.1 (Nat.le_of_ble_eq_true rfl) d_Rd_readSequence_48 ⟨Nat.le_of_ble_eq_true rfl, Nat.le_of_ble_eq_true rfl⟩ (fun X ce q9 memx H locs hx9 hP hS g1 g2 g3 => f_out hlocks hno hP hS g1 g2 g3 ⟨Nat.le_of_ble_eq_true rfl, Nat.le_of_ble_eq_true rfl⟩ hx9) (fun r138 mem139 H locs hq hP hS => ?_)
            have hD : va_D (Az sz) (fw n ad mem139) := fw_D hD
            obtain ⟨kx140, rc141, ec142, hr9144, hb145, hb146, hb147, hRS143⟩ := hq
            subst hr9144
            have hbd148 := hRS143.1.1
            obtain ⟨at149, ft150, h9_151⟩ := hRS143.2.1
            have h1_152 : mem139 1 = .inr (0, [.ref (ad 2), .int (nI Z)]) := (hRS143.2.2 1 (by omega)).trans hT.1
            have h2_153 : mem139 2 = .inl (cy 0, 240, .inl f) := (hRS143.2.2 2 (by omega)).trans hT.2.2
            have h5_154 := hRS143.1.2.1
            have hbd160 := hRS143.1.1
            obtain ⟨S155, g156, hS_157, h220_158, h221_159⟩ := hRS143.1.2.2.2.2.2.2
            obtain ⟨k161, lo162, hi163, as164, pa165, ne166, he_167, ho_168⟩ := (hRS143.1.2.2.2.2.2.1 la (by omega)).1
            obtain ⟨k169, lo170, hi171, as172, pa173, ne174, he_175, ho_176⟩ := (hRS143.1.2.2.2.2.2.1 kx140 (by omega)).1
            refine f_putN Bx hP hD hS (by omega) he_167 rfl inEl tyEl okEl nmEl 5 (by decide) kw_91 rfl rfl rfl rfl (Nat.le_of_ble_eq_true rfl) d_Rd_readSequence_51 (fun H locs hP hS => ?_)
            obtain ⟨mem177, e_mem177⟩ : ∃ z, z = va_up mem139 ((20 + 2 * la)) (.inr (2, [.int (k161), .int (lo162), .int (hi163), as164, pa165, .ref (ad (20 + 2 * kx140)), .ref (ad (21 + 2 * la))])) := ⟨_, rfl⟩
            have hP : va_P D vcl (fw n ad mem177) H := by rw [e_mem177]; exact hP
            have hD : va_D (Az sz) (fw n ad mem177) := fw_D hD
            have h_mem177 : mem177 ((20 + 2 * la)) = .inr (2, [.int (k161), .int (lo162), .int (hi163), as164, pa165, .ref (ad (20 + 2 * kx140)), .ref (ad (21 + 2 * la))]) := by rw [e_mem177, va_up_self]
            have hh178 := (va_up_ne mem139 (.inr (2, [.int (k161), .int (lo162), .int (hi163), as164, pa165, .ref (ad (20 + 2 * kx140)), .ref (ad (21 + 2 * la))])) (show (222 : Nat) ≠ (20 + 2 * la) by first | decide | assumption | omega)).trans h9_151
            rw [← e_mem177] at hh178
            have hh179 := (va_up_ne mem139 (.inr (2, [.int (k161), .int (lo162), .int (hi163), as164, pa165, .ref (ad (20 + 2 * kx140)), .ref (ad (21 + 2 * la))])) (show (1 : Nat) ≠ (20 + 2 * la) by first | decide | assumption | omega)).trans h1_152
            rw [← e_mem177] at hh179
            have hh180 := (va_up_ne mem139 (.inr (2, [.int (k161), .int (lo162), .int (hi163), as164, pa165, .ref (ad (20 + 2 * kx140)), .ref (ad (21 + 2 * la))])) (show (5 : Nat) ≠ (20 + 2 * la) by first | decide | assumption | omega)).trans h5_154
            rw [← e_mem177] at hh180
            have hh181 := (va_up_ne mem139 (.inr (2, [.int (k161), .int (lo162), .int (hi163), as164, pa165, .ref (ad (20 + 2 * kx140)), .ref (ad (21 + 2 * la))])) (show (220 : Nat) ≠ (20 + 2 * la) by first | decide | assumption | omega)).trans h220_158
            rw [← e_mem177] at hh181
            have hh182 := (va_up_ne mem139 (.inr (2, [.int (k161), .int (lo162), .int (hi163), as164, pa165, .ref (ad (20 + 2 * kx140)), .ref (ad (21 + 2 * la))])) (show ((20 + 2 * kx140) : Nat) ≠ (20 + 2 * la) by first | decide | assumption | omega)).trans he_175
            rw [← e_mem177] at hh182
            have hRS183 : RS cy ad lim rc141 ec142 m0 mem177 := by rw [e_mem177]; exact hRS143.mk (by omega) (hRS143.1.upEl (by omega) (fun q9 => ⟨(ho_168 q9).1, (ho_168 q9).2.1, Or.inr ⟨kx140, by omega, by omega, rfl⟩⟩))
            refine lv_aload_n Bx.1 Bx.2.1 d_Rd_readSequence_54 rfl (lv_at hl 1 rfl) ?_
            refine f_getN Bx hP (by omega) h_mem177 rfl inEl 5 (by decide) kw_91 rfl rfl d_Rd_readSequence_55 ?_
            refine lv_astore_n (lv' := [(3, .ref (ad (20 + 2 * kx140))), (4, .int (k9)), (2, .ref (ad (20 + 2 * kx15))), (0, .ref (ad 222)), (1, .int (4))]) Bx.1 Bx.2.1 d_Rd_readSequence_58 rfl hl (by decide) rfl (fun ls hl => ?_)
            refine lv_iinc (lv' := [(4, .int ((k9 + (1)))), (3, .ref (ad (20 + 2 * kx140))), (2, .ref (ad (20 + 2 * kx15))), (0, .ref (ad 222)), (1, .int (4))]) Bx.1 Bx.2.1 d_Rd_readSequence_59 hl (k := 1) rfl rfl (by decide) rfl (fun ls hl => ?_)
            refine lv_goto Bx.1 Bx.2.1 d_Rd_readSequence_62 rfl ?_
            exact ih _ _ _ _ _ _ _ _ (by have := inc_meas hk; omega) hRS183 ⟨by omega, by omega, by omega⟩ hP hD hS (lv_sub hl [0, 1, 2, 3, 4] rfl)
  exact loop90 _ _ _ _ _ _ _ _ _ (Nat.lt_succ_self _) hRS89 ⟨by omega, by omega, by omega⟩ hP hD hS (lv_sub hl [0, 1, 2, 3, 4] rfl)
set_option maxHeartbeats 4000000 in
set_option maxRecDepth 100000 in
theorem m_Rd_readAlternatives_4 (l : Launch) {D : va_G} {cy : Nat → ClassId} {sz n : Nat} {ad : Nat → Nat} {mem : Nat → va_E} {Z : Nat} {f : Nat → Int32} {lim rc ec : Nat} {m0 : Nat → va_E} (hlt : l.stackTraces = false) (hn : 224 ≤ n) (hT : TX cy ad Z f m0) (hRS : RS cy ad lim rc ec m0 mem) : NXr l D cy sz n ad y_Rd_readAlternatives c_Rd_readAlternatives 5 (some (.object "AbnfChart$Element")) ({ frames := 31, cells := 1, slots := 6, locals := 738 } : Room) mem [.ref (ad 222), .int (4)] (fun r mem' => ∃ k rc' ec' : Nat, r = ad (20 + 2 * k) ∧ ec ≤ k ∧ k < ec' ∧ rc ≤ rc' ∧ RS cy ad lim rc' ec' m0 mem') (fun X mem' => (X = cIA ∨ X = cIS) ∧ ∃ rc' ec' : Nat, RS cy ad lim rc' ec' m0 mem') := by
  refine vx_ofW (cc := c_Rd_readAlternatives) (maxL := 5) (ret := (some (.object "AbnfChart$Element"))) (by decide) rfl ?_
  intro p e s m args below meth c s₁ B hml hno hv
  obtain ⟨rfl, E, hP, hD⟩ := hv
  have hx := B.exec
  have hb := B.bytes
  have hr := B.returns
  have hlocks := B.notSynchronized
  have Bx : MB p s m [.ref (ad 222), .int (4)].toArray c c_Rd_readAlternatives "AbnfChart$Reader" D cy := ⟨hx, hb, tb_all (atoms_spec B.pre) E.2.1, findClass_of_methodNamed B.named, E.1⟩
  have hS : va_S (Az sz) s.heap s.heap [] := va_S.rf
  have hl := lv_entry ([.ref (ad 222), .int (4)]) (n := 5) (Nat.le_of_ble_eq_true rfl)
  rw [lg_entry_eq]
  generalize (lg_sl ([.ref (ad 222), .int (4)]) ++ List.replicate (5 - (lg_sl ([.ref (ad 222), .int (4)])).length) Slot.unset).toArray = ls at hl ⊢
  have hl : lv_has ls 5 [(0, .ref (ad 222)), (1, .int (4))] := hl
  obtain ⟨at1, ft2, h9_3⟩ := hRS.2.1
  have h1_4 : mem 1 = .inr (0, [.ref (ad 2), .int (nI Z)]) := (hRS.2.2 1 (by omega)).trans hT.1
  have h2_5 : mem 2 = .inl (cy 0, 240, .inl f) := (hRS.2.2 2 (by omega)).trans hT.2.2
  have h5_6 := hRS.1.2.1
  have hbd12 := hRS.1.1
  obtain ⟨S7, g8, hS_9, h220_10, h221_11⟩ := hRS.1.2.2.2.2.2.2
  refine lv_aload_n Bx.1 Bx.2.1 d_Rd_readAlternatives_0 rfl (lv_at hl 0 rfl) ?_
  refine lv_iconst (v := 0) Bx.1 Bx.2.1 d_Rd_readAlternatives_1 (by decide) ?_
  refine f_xVr (na := 1) (As := [.int (0)]) (rest := []) Bx hml E hP hD hS (by omega) h9_3 rfl (m_Rd_beginRow l hlt hn hT hRS) kw_409 kw_411 sel_Rd_beginRow kw_6 kw_412 (by decide +kernel) ⟨rfl, rfl⟩ ⟨Nat.le_of_ble_eq_true rfl, Nat.le_of_ble_eq_true rfl⟩ rfl hl.1 (Nat.le_of_ble_eq_true rfl) d_Rd_readAlternatives_2 ⟨Nat.le_of_ble_eq_true rfl, Nat.le_of_ble_eq_true rfl⟩ (fun X ce q9 memx H locs hx9 hP hS g1 g2 g3 => f_out hlocks hno hP hS g1 g2 g3 ⟨Nat.le_of_ble_eq_true rfl, Nat.le_of_ble_eq_true rfl⟩ hx9) (fun r13 mem14 H locs hq hP hS => ?_)
  have hD : va_D (Az sz) (fw n ad mem14) := fw_D hD
  obtain ⟨kx15, rc16, ec17, hr919, hb20, hb21, hb22, hRS18⟩ := hq
  subst hr919
  have hbd23 := hRS18.1.1
  obtain ⟨at24, ft25, h9_26⟩ := hRS18.2.1
  have h1_27 : mem14 1 = .inr (0, [.ref (ad 2), .int (nI Z)]) := (hRS18.2.2 1 (by omega)).trans hT.1
  have h2_28 : mem14 2 = .inl (cy 0, 240, .inl f) := (hRS18.2.2 2 (by omega)).trans hT.2.2
  have h5_29 := hRS18.1.2.1
  have hbd35 := hRS18.1.1
  obtain ⟨S30, g31, hS_32, h220_33, h221_34⟩ := hRS18.1.2.2.2.2.2.2
  obtain ⟨k36, lo37, hi38, as39, pa40, ne41, he_42, ho_43⟩ := (hRS18.1.2.2.2.2.2.1 kx15 (by omega)).1
  refine lv_astore_n (lv' := [(2, .ref (ad (20 + 2 * kx15))), (0, .ref (ad 222)), (1, .int (4))]) Bx.1 Bx.2.1 d_Rd_readAlternatives_5 rfl hl (by decide) rfl (fun ls hl => ?_)
  refine lv_aload_n Bx.1 Bx.2.1 d_Rd_readAlternatives_6 rfl (lv_at hl 1 rfl) ?_
  refine lv_iload_n Bx.1 Bx.2.1 d_Rd_readAlternatives_7 rfl (lv_at hl 2 rfl) ?_
  refine f_xVr (na := 1) (As := [.int (4)]) (rest := []) Bx hml E hP hD hS (by omega) h9_26 rfl (m_Rd_readSequence_4 l hlt hn hT hRS18) kw_435 kw_437 sel_Rd_readSequence kw_6 kw_438 (by decide +kernel) ⟨rfl, rfl⟩ ⟨Nat.le_of_ble_eq_true rfl, Nat.le_of_ble_eq_true rfl⟩ rfl hl.1 (Nat.le_of_ble_eq_true rfl) d_Rd_readAlternatives_8 ⟨Nat.le_of_ble_eq_true rfl, Nat.le_of_ble_eq_true rfl⟩ (fun X ce q9 memx H locs hx9 hP hS g1 g2 g3 => f_out hlocks hno hP hS g1 g2 g3 ⟨Nat.le_of_ble_eq_true rfl, Nat.le_of_ble_eq_true rfl⟩ hx9) (fun r44 mem45 H locs hq hP hS => ?_)
  have hD : va_D (Az sz) (fw n ad mem45) := fw_D hD
  obtain ⟨kx46, rc47, ec48, hr950, hb51, hb52, hb53, hRS49⟩ := hq
  subst hr950
  have hbd54 := hRS49.1.1
  obtain ⟨at55, ft56, h9_57⟩ := hRS49.2.1
  have h1_58 : mem45 1 = .inr (0, [.ref (ad 2), .int (nI Z)]) := (hRS49.2.2 1 (by omega)).trans hT.1
  have h2_59 : mem45 2 = .inl (cy 0, 240, .inl f) := (hRS49.2.2 2 (by omega)).trans hT.2.2
  have h5_60 := hRS49.1.2.1
  have hbd66 := hRS49.1.1
  obtain ⟨S61, g62, hS_63, h220_64, h221_65⟩ := hRS49.1.2.2.2.2.2.2
  obtain ⟨k67, lo68, hi69, as70, pa71, ne72, he_73, ho_74⟩ := (hRS49.1.2.2.2.2.2.1 kx15 (by omega)).1
  obtain ⟨k75, lo76, hi77, as78, pa79, ne80, he_81, ho_82⟩ := (hRS49.1.2.2.2.2.2.1 kx46 (by omega)).1
  refine lv_astore_n (lv' := [(3, .ref (ad (20 + 2 * kx46))), (2, .ref (ad (20 + 2 * kx15))), (0, .ref (ad 222)), (1, .int (4))]) Bx.1 Bx.2.1 d_Rd_readAlternatives_11 rfl hl (by decide) rfl (fun ls hl => ?_)
  refine lv_aload_n Bx.1 Bx.2.1 d_Rd_readAlternatives_12 rfl (lv_at hl 1 rfl) ?_
  refine lv_aload_n Bx.1 Bx.2.1 d_Rd_readAlternatives_13 rfl (lv_at hl 0 rfl) ?_
  refine f_putN Bx hP hD hS (by omega) he_73 rfl inEl tyEl okEl nmEl 4 (by decide) kw_87 rfl rfl rfl rfl (Nat.le_of_ble_eq_true rfl) d_Rd_readAlternatives_14 (fun H locs hP hS => ?_)
  obtain ⟨mem83, e_mem83⟩ : ∃ z, z = va_up mem45 ((20 + 2 * kx15)) (.inr (2, [.int (k67), .int (lo68), .int (hi69), as70, .ref (ad (20 + 2 * kx46)), ne72, .ref (ad (21 + 2 * kx15))])) := ⟨_, rfl⟩
  have hP : va_P D vcl (fw n ad mem83) H := by rw [e_mem83]; exact hP
  have hD : va_D (Az sz) (fw n ad mem83) := fw_D hD
  have h_mem83 : mem83 ((20 + 2 * kx15)) = .inr (2, [.int (k67), .int (lo68), .int (hi69), as70, .ref (ad (20 + 2 * kx46)), ne72, .ref (ad (21 + 2 * kx15))]) := by rw [e_mem83, va_up_self]
  have hh84 := (va_up_ne mem45 (.inr (2, [.int (k67), .int (lo68), .int (hi69), as70, .ref (ad (20 + 2 * kx46)), ne72, .ref (ad (21 + 2 * kx15))])) (show (222 : Nat) ≠ (20 + 2 * kx15) by first | decide | assumption | omega)).trans h9_57
  rw [← e_mem83] at hh84
  have hh85 := (va_up_ne mem45 (.inr (2, [.int (k67), .int (lo68), .int (hi69), as70, .ref (ad (20 + 2 * kx46)), ne72, .ref (ad (21 + 2 * kx15))])) (show (1 : Nat) ≠ (20 + 2 * kx15) by first | decide | assumption | omega)).trans h1_58
  rw [← e_mem83] at hh85
  have hh86 := (va_up_ne mem45 (.inr (2, [.int (k67), .int (lo68), .int (hi69), as70, .ref (ad (20 + 2 * kx46)), ne72, .ref (ad (21 + 2 * kx15))])) (show (5 : Nat) ≠ (20 + 2 * kx15) by first | decide | assumption | omega)).trans h5_60
  rw [← e_mem83] at hh86
  have hh87 := (va_up_ne mem45 (.inr (2, [.int (k67), .int (lo68), .int (hi69), as70, .ref (ad (20 + 2 * kx46)), ne72, .ref (ad (21 + 2 * kx15))])) (show (220 : Nat) ≠ (20 + 2 * kx15) by first | decide | assumption | omega)).trans h220_64
  rw [← e_mem83] at hh87
  have hh88 := (va_up_ne mem45 (.inr (2, [.int (k67), .int (lo68), .int (hi69), as70, .ref (ad (20 + 2 * kx46)), ne72, .ref (ad (21 + 2 * kx15))])) (show ((20 + 2 * kx46) : Nat) ≠ (20 + 2 * kx15) by first | decide | assumption | omega)).trans he_81
  rw [← e_mem83] at hh88
  have hRS89 : RS cy ad lim rc47 ec48 m0 mem83 := by rw [e_mem83]; exact hRS49.mk (by omega) (hRS49.1.upEl (by omega) (fun q9 => ⟨(ho_74 q9).1, Or.inr ⟨kx46, by omega, by omega, rfl⟩, (ho_74 q9).2.2⟩))
  refine lv_iconst (v := 0) Bx.1 Bx.2.1 d_Rd_readAlternatives_17 (by decide) ?_
  refine lv_istore (lv' := [(4, .int (0)), (3, .ref (ad (20 + 2 * kx46))), (2, .ref (ad (20 + 2 * kx15))), (0, .ref (ad 222)), (1, .int (4))]) Bx.1 Bx.2.1 d_Rd_readAlternatives_18 hl (by decide) rfl (fun ls hl => ?_)
  have loop90 : ∀ (d : Nat) (mem : Nat → va_E) (rcl ecl : Nat) (ls : Array Slot) (H : Heap) (locs : List Loc) (la : Nat) (k9 : Int32), ((240 : Int32).toInt - (k9).toInt).toNat < d → RS cy ad lim rcl ecl m0 mem → kx15 < ecl ∧ la < ecl ∧ rc ≤ rcl → va_P D vcl (fw n ad mem) H → va_D (Az sz) (fw n ad mem) → va_S (Az sz) s.heap H locs → lv_has ls 5 [(4, .int (k9)), (3, .ref (ad (20 + 2 * la))), (2, .ref (ad (20 + 2 * kx15))), (0, .ref (ad 222)), (1, .int (4))] → W p l e (headSpec (Cond.code y_Rd_readAlternatives c_Rd_readAlternatives 5 (some (.object "AbnfChart$Element")) :: tg) ({ frames := 31, cells := 1, slots := 6, locals := 738 } : Room)).room s m [.ref (ad 222), .int (4)].toArray below meth c H locs 0 0 (vx_MQ below (QX (QR (fun r mem' => ∃ k rc' ec' : Nat, r = ad (20 + 2 * k) ∧ ec ≤ k ∧ k < ec' ∧ rc ≤ rc' ∧ RS cy ad lim rc' ec' m0 mem') (PP D n ad) (Az sz))) (XQ D sz n ad (fun X mem' => (X = cIA ∨ X = cIS) ∧ ∃ rc' ec' : Nat, RS cy ad lim rc' ec' m0 mem')) [.ref (ad 222), .int (4)].toArray s 1 6 (Az sz)) (F0 m 20 ls []) := by
    intro d
    induction d with
    | zero => intro mem rcl ecl ls H locs la k9 hmeas; exact absurd hmeas (Nat.not_lt_zero _)
    | succ d ih =>
      intro mem rcl ecl ls H locs la k9 hmeas hRS hx0 hP hD hS hl
      have hbd := hRS.1.1
      obtain ⟨at91, ft92, h9_93⟩ := hRS.2.1
      have h1_94 : mem 1 = .inr (0, [.ref (ad 2), .int (nI Z)]) := (hRS.2.2 1 (by omega)).trans hT.1
      have h2_95 : mem 2 = .inl (cy 0, 240, .inl f) := (hRS.2.2 2 (by omega)).trans hT.2.2
      have h5_96 := hRS.1.2.1
      have hbd102 := hRS.1.1
      obtain ⟨S97, g98, hS_99, h220_100, h221_101⟩ := hRS.1.2.2.2.2.2.2
      obtain ⟨k103, lo104, hi105, as106, pa107, ne108, he_109, ho_110⟩ := (hRS.1.2.2.2.2.2.1 la (by omega)).1
      refine lv_iload Bx.1 Bx.2.1 d_Rd_readAlternatives_20 (lv_at hl 0 rfl) ?_
      refine lv_sipush (v := 240) Bx.1 Bx.2.1 d_Rd_readAlternatives_22 (by decide) ?_
      refine lv_icmp_ge Bx.1 Bx.2.1 d_Rd_readAlternatives_25 rfl (fun hk => ?_) (fun hk => ?_)
      · refine lv_aload_n Bx.1 Bx.2.1 d_Rd_readAlternatives_72 rfl (lv_at hl 2 rfl) ?_
        exact x_aret hx hb hlocks hr (⟨kx15, rcl, ecl, rfl, by omega, by omega, by omega, hRS⟩) hP hS d_Rd_readAlternatives_73
      · refine lv_aload_n Bx.1 Bx.2.1 d_Rd_readAlternatives_28 rfl (lv_at hl 3 rfl) ?_
        refine f_callVi (na := 0) (As := []) (rest := []) Bx hml E hP hD hS (by omega) h9_93 rfl (m_Rd_peek l hn hT hRS) kw_353 kw_355 sel_Rd_peek kw_6 kw_356 (by decide +kernel) ⟨rfl, rfl⟩ ⟨Nat.le_of_ble_eq_true rfl, Nat.le_of_ble_eq_true rfl⟩ rfl hl.1 (Nat.le_of_ble_eq_true rfl) d_Rd_readAlternatives_29 ⟨Nat.le_of_ble_eq_true rfl, Nat.le_of_ble_eq_true rfl⟩ (fun r111 mem112 H locs hq hP hS => ?_)
        have hD : va_D (Az sz) (fw n ad mem112) := fw_D hD
        rw [hq] at hP hD
        refine lv_bipush (v := 47) Bx.1 Bx.2.1 d_Rd_readAlternatives_32 (by decide) ?_
        refine lv_icmp_ne Bx.1 Bx.2.1 d_Rd_readAlternatives_34 rfl (fun h8 => ?_) (fun h8 => ?_)
        · refine lv_aload_n Bx.1 Bx.2.1 d_Rd_readAlternatives_72 rfl (lv_at hl 2 rfl) ?_
          exact x_aret hx hb hlocks hr (⟨kx15, rcl, ecl, rfl, by omega, by omega, by omega, hRS⟩) hP hS d_Rd_readAlternatives_73
        · refine lv_aload_n Bx.1 Bx.2.1 d_Rd_readAlternatives_37 rfl (lv_at hl 3 rfl) ?_
          refine lv_dup Bx.1 Bx.2.1 d_Rd_readAlternatives_38 rfl ?_
          refine f_get Bx hP (by omega) h9_93 rfl inRd 2 (by decide) kw_146 rfl rfl d_Rd_readAlternatives_39 ?_
          refine lv_iconst (v := 1) Bx.1 Bx.2.1 d_Rd_readAlternatives_42 (by decide) ?_
          refine lv_iadd Bx.1 Bx.2.1 d_Rd_readAlternatives_43 ?_
          refine f_put Bx hP hD hS (by omega) h9_93 rfl inRd tyRd okRd nmRd 2 (by decide) kw_146 rfl rfl rfl rfl (Nat.le_of_ble_eq_true rfl) d_Rd_readAlternatives_44 (fun H locs hP hS => ?_)
          obtain ⟨mem113, e_mem113⟩ : ∃ z, z = va_up mem (222) (.inr (4, [.ref (ad 1), .ref (ad 5), .int (at91 + 1), .int (ft92)])) := ⟨_, rfl⟩
          have hP : va_P D vcl (fw n ad mem113) H := by rw [e_mem113]; exact hP
          have hD : va_D (Az sz) (fw n ad mem113) := fw_D hD
          have h_mem113 : mem113 (222) = .inr (4, [.ref (ad 1), .ref (ad 5), .int (at91 + 1), .int (ft92)]) := by rw [e_mem113, va_up_self]
          have hh114 := (va_up_ne mem (.inr (4, [.ref (ad 1), .ref (ad 5), .int (at91 + 1), .int (ft92)])) (show (1 : Nat) ≠ 222 by first | decide | assumption | omega)).trans h1_94
          rw [← e_mem113] at hh114
          have hh115 := (va_up_ne mem (.inr (4, [.ref (ad 1), .ref (ad 5), .int (at91 + 1), .int (ft92)])) (show (5 : Nat) ≠ 222 by first | decide | assumption | omega)).trans h5_96
          rw [← e_mem113] at hh115
          have hh116 := (va_up_ne mem (.inr (4, [.ref (ad 1), .ref (ad 5), .int (at91 + 1), .int (ft92)])) (show (220 : Nat) ≠ 222 by first | decide | assumption | omega)).trans h220_100
          rw [← e_mem113] at hh116
          have hh117 := (va_up_ne mem (.inr (4, [.ref (ad 1), .ref (ad 5), .int (at91 + 1), .int (ft92)])) (show ((20 + 2 * la) : Nat) ≠ 222 by first | decide | assumption | omega)).trans he_109
          rw [← e_mem113] at hh117
          have hRS118 : RS cy ad lim rcl ecl m0 mem113 := by rw [e_mem113]; exact hRS.at222
          refine lv_aload_n Bx.1 Bx.2.1 d_Rd_readAlternatives_47 rfl (lv_at hl 3 rfl) ?_
          refine f_callVi (na := 0) (As := []) (rest := []) Bx hml E hP hD hS (by omega) h_mem113 rfl (m_Rd_readGap l hn hT hRS118) kw_397 kw_399 sel_Rd_readGap kw_6 kw_400 (by decide +kernel) ⟨rfl, rfl⟩ ⟨Nat.le_of_ble_eq_true rfl, Nat.le_of_ble_eq_true rfl⟩ rfl hl.1 (Nat.le_of_ble_eq_true rfl) d_Rd_readAlternatives_48 ⟨Nat.le_of_ble_eq_true rfl, Nat.le_of_ble_eq_true rfl⟩ (fun r120 mem121 H locs hRS119 hP hS => ?_)
          have hD : va_D (Az sz) (fw n ad mem121) := fw_D hD
          obtain ⟨at122, ft123, h9_124⟩ := hRS119.2.1
          have h1_125 : mem121 1 = .inr (0, [.ref (ad 2), .int (nI Z)]) := (hRS119.2.2 1 (by omega)).trans hT.1
          have h2_126 : mem121 2 = .inl (cy 0, 240, .inl f) := (hRS119.2.2 2 (by omega)).trans hT.2.2
          have h5_127 := hRS119.1.2.1
          have hbd133 := hRS119.1.1
          obtain ⟨S128, g129, hS_130, h220_131, h221_132⟩ := hRS119.1.2.2.2.2.2.2
          obtain ⟨k134, lo135, hi136, as137, pa138, ne139, he_140, ho_141⟩ := (hRS119.1.2.2.2.2.2.1 la (by omega)).1
          refine lv_pop Bx.1 Bx.2.1 d_Rd_readAlternatives_51 rfl ?_
          refine lv_aload_n Bx.1 Bx.2.1 d_Rd_readAlternatives_52 rfl (lv_at hl 1 rfl) ?_
          refine lv_aload_n Bx.1 Bx.2.1 d_Rd_readAlternatives_53 rfl (lv_at hl 3 rfl) ?_
          refine lv_iload_n Bx.1 Bx.2.1 d_Rd_readAlternatives_54 rfl (lv_at hl 4 rfl) ?_
          refine f_xVr (na := 1) (As := [.int (4)]) (rest := [.ref (ad (20 + 2 * la))]) Bx hml E hP hD hS (by omega) h9_124 rfl (m_Rd_readSequence_4 l hlt hn hT hRS119) kw_435 kw_437 sel_Rd_readSequence kw_6 kw_438 (by decide +kernel) ⟨rfl, rfl⟩ ⟨Nat.le_of_ble_eq_true rfl, Nat.le_of_ble_eq_true rfl⟩ rfl hl.1 (Nat.le_of_ble_eq_true rfl) d_Rd_readAlternatives_55 ⟨Nat.le_of_ble_eq_true rfl, Nat.le_of_ble_eq_true rfl⟩ (fun X ce q9 memx H locs hx9 hP hS g1 g2 g3 => f_out hlocks hno hP hS g1 g2 g3 ⟨Nat.le_of_ble_eq_true rfl, Nat.le_of_ble_eq_true rfl⟩ hx9) (fun r142 mem143 H locs hq hP hS => ?_)
          have hD : va_D (Az sz) (fw n ad mem143) := fw_D hD
          obtain ⟨kx144, rc145, ec146, hr9148, hb149, hb150, hb151, hRS147⟩ := hq
          subst hr9148
          have hbd152 := hRS147.1.1
          obtain ⟨at153, ft154, h9_155⟩ := hRS147.2.1
          have h1_156 : mem143 1 = .inr (0, [.ref (ad 2), .int (nI Z)]) := (hRS147.2.2 1 (by omega)).trans hT.1
          have h2_157 : mem143 2 = .inl (cy 0, 240, .inl f) := (hRS147.2.2 2 (by omega)).trans hT.2.2
          have h5_158 := hRS147.1.2.1
          have hbd164 := hRS147.1.1
          obtain ⟨S159, g160, hS_161, h220_162, h221_163⟩ := hRS147.1.2.2.2.2.2.2
          obtain ⟨k165, lo166, hi167, as168, pa169, ne170, he_171, ho_172⟩ := (hRS147.1.2.2.2.2.2.1 la (by omega)).1
          obtain ⟨k173, lo174, hi175, as176, pa177, ne178, he_179, ho_180⟩ := (hRS147.1.2.2.2.2.2.1 kx144 (by omega)).1
          refine f_putN Bx hP hD hS (by omega) he_171 rfl inEl tyEl okEl nmEl 5 (by decide) kw_91 rfl rfl rfl rfl (Nat.le_of_ble_eq_true rfl) d_Rd_readAlternatives_58 (fun H locs hP hS => ?_)
          obtain ⟨mem181, e_mem181⟩ : ∃ z, z = va_up mem143 ((20 + 2 * la)) (.inr (2, [.int (k165), .int (lo166), .int (hi167), as168, pa169, .ref (ad (20 + 2 * kx144)), .ref (ad (21 + 2 * la))])) := ⟨_, rfl⟩
          have hP : va_P D vcl (fw n ad mem181) H := by rw [e_mem181]; exact hP
          have hD : va_D (Az sz) (fw n ad mem181) := fw_D hD
          have h_mem181 : mem181 ((20 + 2 * la)) = .inr (2, [.int (k165), .int (lo166), .int (hi167), as168, pa169, .ref (ad (20 + 2 * kx144)), .ref (ad (21 + 2 * la))]) := by rw [e_mem181, va_up_self]
          have hh182 := (va_up_ne mem143 (.inr (2, [.int (k165), .int (lo166), .int (hi167), as168, pa169, .ref (ad (20 + 2 * kx144)), .ref (ad (21 + 2 * la))])) (show (222 : Nat) ≠ (20 + 2 * la) by first | decide | assumption | omega)).trans h9_155
          rw [← e_mem181] at hh182
          have hh183 := (va_up_ne mem143 (.inr (2, [.int (k165), .int (lo166), .int (hi167), as168, pa169, .ref (ad (20 + 2 * kx144)), .ref (ad (21 + 2 * la))])) (show (1 : Nat) ≠ (20 + 2 * la) by first | decide | assumption | omega)).trans h1_156
          rw [← e_mem181] at hh183
          have hh184 := (va_up_ne mem143 (.inr (2, [.int (k165), .int (lo166), .int (hi167), as168, pa169, .ref (ad (20 + 2 * kx144)), .ref (ad (21 + 2 * la))])) (show (5 : Nat) ≠ (20 + 2 * la) by first | decide | assumption | omega)).trans h5_158
          rw [← e_mem181] at hh184
          have hh185 := (va_up_ne mem143 (.inr (2, [.int (k165), .int (lo166), .int (hi167), as168, pa169, .ref (ad (20 + 2 * kx144)), .ref (ad (21 + 2 * la))])) (show (220 : Nat) ≠ (20 + 2 * la) by first | decide | assumption | omega)).trans h220_162
          rw [← e_mem181] at hh185
          have hh186 := (va_up_ne mem143 (.inr (2, [.int (k165), .int (lo166), .int (hi167), as168, pa169, .ref (ad (20 + 2 * kx144)), .ref (ad (21 + 2 * la))])) (show ((20 + 2 * kx144) : Nat) ≠ (20 + 2 * la) by first | decide | assumption | omega)).trans he_179
          rw [← e_mem181] at hh186
          have hRS187 : RS cy ad lim rc145 ec146 m0 mem181 := by rw [e_mem181]; exact hRS147.mk (by omega) (hRS147.1.upEl (by omega) (fun q9 => ⟨(ho_172 q9).1, (ho_172 q9).2.1, Or.inr ⟨kx144, by omega, by omega, rfl⟩⟩))
          refine lv_aload_n Bx.1 Bx.2.1 d_Rd_readAlternatives_61 rfl (lv_at hl 1 rfl) ?_
          refine f_getN Bx hP (by omega) h_mem181 rfl inEl 5 (by decide) kw_91 rfl rfl d_Rd_readAlternatives_62 ?_
          refine lv_astore_n (lv' := [(3, .ref (ad (20 + 2 * kx144))), (4, .int (k9)), (2, .ref (ad (20 + 2 * kx15))), (0, .ref (ad 222)), (1, .int (4))]) Bx.1 Bx.2.1 d_Rd_readAlternatives_65 rfl hl (by decide) rfl (fun ls hl => ?_)
          refine lv_iinc (lv' := [(4, .int ((k9 + (1)))), (3, .ref (ad (20 + 2 * kx144))), (2, .ref (ad (20 + 2 * kx15))), (0, .ref (ad 222)), (1, .int (4))]) Bx.1 Bx.2.1 d_Rd_readAlternatives_66 hl (k := 1) rfl rfl (by decide) rfl (fun ls hl => ?_)
          refine lv_goto Bx.1 Bx.2.1 d_Rd_readAlternatives_69 rfl ?_
          exact ih _ _ _ _ _ _ _ _ (by have := inc_meas hk; omega) hRS187 ⟨by omega, by omega, by omega⟩ hP hD hS (lv_sub hl [0, 1, 2, 3, 4] rfl)
  exact loop90 _ _ _ _ _ _ _ _ _ (Nat.lt_succ_self _) hRS89 ⟨by omega, by omega, by omega⟩ hP hD hS (lv_sub hl [0, 1, 2, 3, 4] rfl)
set_option maxHeartbeats 4000000 in
set_option maxRecDepth 100000 in
theorem m_Rd_readBracket_3 (l : Launch) {D : va_G} {cy : Nat → ClassId} {sz n : Nat} {ad : Nat → Nat} {mem : Nat → va_E} {Z : Nat} {f : Nat → Int32} {lim rc ec : Nat} {m0 : Nat → va_E} {en : Int32} (hlt : l.stackTraces = false) (hn : 224 ≤ n) (hT : TX cy ad Z f m0) (hRS : RS cy ad lim rc ec m0 mem) : NXr l D cy sz n ad y_Rd_readBracket c_Rd_readBracket 4 (some (.object "AbnfChart$Element")) ({ frames := 32, cells := 1, slots := 6, locals := 770 } : Room) mem [.ref (ad 222), .int (3), .int (en)] (fun r mem' => ∃ k rc' ec' : Nat, r = ad (20 + 2 * k) ∧ ec ≤ k ∧ k < ec' ∧ rc ≤ rc' ∧ RS cy ad lim rc' ec' m0 mem') (fun X mem' => (X = cIA ∨ X = cIS) ∧ ∃ rc' ec' : Nat, RS cy ad lim rc' ec' m0 mem') := by
  refine vx_ofW (cc := c_Rd_readBracket) (maxL := 4) (ret := (some (.object "AbnfChart$Element"))) (by decide) rfl ?_
  intro p e s m args below meth c s₁ B hml hno hv
  obtain ⟨rfl, E, hP, hD⟩ := hv
  have hx := B.exec
  have hb := B.bytes
  have hr := B.returns
  have hlocks := B.notSynchronized
  have Bx : MB p s m [.ref (ad 222), .int (3), .int (en)].toArray c c_Rd_readBracket "AbnfChart$Reader" D cy := ⟨hx, hb, tb_all (atoms_spec B.pre) E.2.1, findClass_of_methodNamed B.named, E.1⟩
  have hS : va_S (Az sz) s.heap s.heap [] := va_S.rf
  have hl := lv_entry ([.ref (ad 222), .int (3), .int (en)]) (n := 4) (Nat.le_of_ble_eq_true rfl)
  rw [lg_entry_eq]
  generalize (lg_sl ([.ref (ad 222), .int (3), .int (en)]) ++ List.replicate (4 - (lg_sl ([.ref (ad 222), .int (3), .int (en)])).length) Slot.unset).toArray = ls at hl ⊢
  have hl : lv_has ls 4 [(0, .ref (ad 222)), (1, .int (3)), (2, .int (en))] := hl
  obtain ⟨at1, ft2, h9_3⟩ := hRS.2.1
  have h1_4 : mem 1 = .inr (0, [.ref (ad 2), .int (nI Z)]) := (hRS.2.2 1 (by omega)).trans hT.1
  have h2_5 : mem 2 = .inl (cy 0, 240, .inl f) := (hRS.2.2 2 (by omega)).trans hT.2.2
  have h5_6 := hRS.1.2.1
  have hbd12 := hRS.1.1
  obtain ⟨S7, g8, hS_9, h220_10, h221_11⟩ := hRS.1.2.2.2.2.2.2
  refine lv_aload_n Bx.1 Bx.2.1 d_Rd_readBracket_0 rfl (lv_at hl 0 rfl) ?_
  refine lv_iload_n Bx.1 Bx.2.1 d_Rd_readBracket_1 rfl (lv_at hl 1 rfl) ?_
  refine lv_bipush (v := 6) Bx.1 Bx.2.1 d_Rd_readBracket_2 (by decide) ?_
  refine lv_icmp_ge Bx.1 Bx.2.1 d_Rd_readBracket_4 rfl (fun h8 => ?_) (fun h8 => ?_)
  · exact absurd h8 (by decide)
  · refine lv_iconst (v := 1) Bx.1 Bx.2.1 d_Rd_readBracket_7 (by decide) ?_
    refine lv_goto Bx.1 Bx.2.1 d_Rd_readBracket_8 rfl ?_
    refine lv_aload_n Bx.1 Bx.2.1 d_Rd_readBracket_12 rfl (lv_at hl 0 rfl) ?_
    refine f_get Bx hP (by omega) h9_3 rfl inRd 2 (by decide) kw_146 rfl rfl d_Rd_readBracket_13 ?_
    refine f_xVv (na := 2) (As := [.int (1), .int (at1)]) (rest := []) Bx hml E hP hD hS (by omega) h9_3 rfl (m_Rd_needRoom l hlt hn hT hRS) kw_383 kw_385 sel_Rd_needRoom kw_6 kw_386 (by decide +kernel) ⟨rfl, rfl⟩ ⟨Nat.le_of_ble_eq_true rfl, Nat.le_of_ble_eq_true rfl⟩ rfl hl.1 (Nat.le_of_ble_eq_true rfl) d_Rd_readBracket_16 ⟨Nat.le_of_ble_eq_true rfl, Nat.le_of_ble_eq_true rfl⟩ (fun X ce q9 memx H locs hx9 hP hS g1 g2 g3 => f_out hlocks hno hP hS g1 g2 g3 ⟨Nat.le_of_ble_eq_true rfl, Nat.le_of_ble_eq_true rfl⟩ hx9) (fun mem14 H locs hq hP hS => ?_)
    have hD : va_D (Az sz) (fw n ad mem14) := fw_D hD
    obtain ⟨hRS15, -, hg16⟩ := hq
    obtain ⟨at17, ft18, h9_19⟩ := hRS15.2.1
    have h1_20 : mem14 1 = .inr (0, [.ref (ad 2), .int (nI Z)]) := (hRS15.2.2 1 (by omega)).trans hT.1
    have h2_21 : mem14 2 = .inl (cy 0, 240, .inl f) := (hRS15.2.2 2 (by omega)).trans hT.2.2
    have h5_22 := hRS15.1.2.1
    have hbd28 := hRS15.1.1
    obtain ⟨S23, g24, hS_25, h220_26, h221_27⟩ := hRS15.1.2.2.2.2.2.2
    refine lv_aload_n Bx.1 Bx.2.1 d_Rd_readBracket_19 rfl (lv_at hl 0 rfl) ?_
    refine lv_dup Bx.1 Bx.2.1 d_Rd_readBracket_20 rfl ?_
    refine f_get Bx hP (by omega) h9_19 rfl inRd 2 (by decide) kw_146 rfl rfl d_Rd_readBracket_21 ?_
    refine lv_iconst (v := 1) Bx.1 Bx.2.1 d_Rd_readBracket_24 (by decide) ?_
    refine lv_iadd Bx.1 Bx.2.1 d_Rd_readBracket_25 ?_
    refine f_put Bx hP hD hS (by omega) h9_19 rfl inRd tyRd okRd nmRd 2 (by decide) kw_146 rfl rfl rfl rfl (Nat.le_of_ble_eq_true rfl) d_Rd_readBracket_26 (fun H locs hP hS => ?_)
    obtain ⟨mem29, e_mem29⟩ : ∃ z, z = va_up mem14 (222) (.inr (4, [.ref (ad 1), .ref (ad 5), .int (at17 + 1), .int (ft18)])) := ⟨_, rfl⟩
    have hP : va_P D vcl (fw n ad mem29) H := by rw [e_mem29]; exact hP
    have hD : va_D (Az sz) (fw n ad mem29) := fw_D hD
    have h_mem29 : mem29 (222) = .inr (4, [.ref (ad 1), .ref (ad 5), .int (at17 + 1), .int (ft18)]) := by rw [e_mem29, va_up_self]
    have hh30 := (va_up_ne mem14 (.inr (4, [.ref (ad 1), .ref (ad 5), .int (at17 + 1), .int (ft18)])) (show (1 : Nat) ≠ 222 by first | decide | assumption | omega)).trans h1_20
    rw [← e_mem29] at hh30
    have hh31 := (va_up_ne mem14 (.inr (4, [.ref (ad 1), .ref (ad 5), .int (at17 + 1), .int (ft18)])) (show (5 : Nat) ≠ 222 by first | decide | assumption | omega)).trans h5_22
    rw [← e_mem29] at hh31
    have hh32 := (va_up_ne mem14 (.inr (4, [.ref (ad 1), .ref (ad 5), .int (at17 + 1), .int (ft18)])) (show (220 : Nat) ≠ 222 by first | decide | assumption | omega)).trans h220_26
    rw [← e_mem29] at hh32
    have hRS33 : RS cy ad lim rc ec m0 mem29 := by rw [e_mem29]; exact hRS15.at222
    refine lv_aload_n Bx.1 Bx.2.1 d_Rd_readBracket_29 rfl (lv_at hl 0 rfl) ?_
    refine f_callVi (na := 0) (As := []) (rest := []) Bx hml E hP hD hS (by omega) h_mem29 rfl (m_Rd_readGap l hn hT hRS33) kw_397 kw_399 sel_Rd_readGap kw_6 kw_400 (by decide +kernel) ⟨rfl, rfl⟩ ⟨Nat.le_of_ble_eq_true rfl, Nat.le_of_ble_eq_true rfl⟩ rfl hl.1 (Nat.le_of_ble_eq_true rfl) d_Rd_readBracket_30 ⟨Nat.le_of_ble_eq_true rfl, Nat.le_of_ble_eq_true rfl⟩ (fun r35 mem36 H locs hRS34 hP hS => ?_)
    have hD : va_D (Az sz) (fw n ad mem36) := fw_D hD
    obtain ⟨at37, ft38, h9_39⟩ := hRS34.2.1
    have h1_40 : mem36 1 = .inr (0, [.ref (ad 2), .int (nI Z)]) := (hRS34.2.2 1 (by omega)).trans hT.1
    have h2_41 : mem36 2 = .inl (cy 0, 240, .inl f) := (hRS34.2.2 2 (by omega)).trans hT.2.2
    have h5_42 := hRS34.1.2.1
    have hbd48 := hRS34.1.1
    obtain ⟨S43, g44, hS_45, h220_46, h221_47⟩ := hRS34.1.2.2.2.2.2.2
    refine lv_pop Bx.1 Bx.2.1 d_Rd_readBracket_33 rfl ?_
    refine lv_aload_n Bx.1 Bx.2.1 d_Rd_readBracket_34 rfl (lv_at hl 0 rfl) ?_
    refine lv_iload_n Bx.1 Bx.2.1 d_Rd_readBracket_35 rfl (lv_at hl 1 rfl) ?_
    refine lv_iconst (v := 1) Bx.1 Bx.2.1 d_Rd_readBracket_36 (by decide) ?_
    refine lv_iadd Bx.1 Bx.2.1 d_Rd_readBracket_37 ?_
    rw [show (3 + 1 : Int32) = 4 from rfl]
    refine f_xVr (na := 1) (As := [.int (4)]) (rest := []) Bx hml E hP hD hS (by omega) h9_39 rfl (m_Rd_readAlternatives_4 l hlt hn hT hRS34) kw_405 kw_407 sel_Rd_readAlternatives kw_6 kw_408 (by decide +kernel) ⟨rfl, rfl⟩ ⟨Nat.le_of_ble_eq_true rfl, Nat.le_of_ble_eq_true rfl⟩ rfl hl.1 (Nat.le_of_ble_eq_true rfl) d_Rd_readBracket_38 ⟨Nat.le_of_ble_eq_true rfl, Nat.le_of_ble_eq_true rfl⟩ (fun X ce q9 memx H locs hx9 hP hS g1 g2 g3 => f_out hlocks hno hP hS g1 g2 g3 ⟨Nat.le_of_ble_eq_true rfl, Nat.le_of_ble_eq_true rfl⟩ hx9) (fun r49 mem50 H locs hq hP hS => ?_)
    have hD : va_D (Az sz) (fw n ad mem50) := fw_D hD
    obtain ⟨kx51, rc52, ec53, hr955, hb56, hb57, hb58, hRS54⟩ := hq
    subst hr955
    have hbd59 := hRS54.1.1
    obtain ⟨at60, ft61, h9_62⟩ := hRS54.2.1
    have h1_63 : mem50 1 = .inr (0, [.ref (ad 2), .int (nI Z)]) := (hRS54.2.2 1 (by omega)).trans hT.1
    have h2_64 : mem50 2 = .inl (cy 0, 240, .inl f) := (hRS54.2.2 2 (by omega)).trans hT.2.2
    have h5_65 := hRS54.1.2.1
    have hbd71 := hRS54.1.1
    obtain ⟨S66, g67, hS_68, h220_69, h221_70⟩ := hRS54.1.2.2.2.2.2.2
    obtain ⟨k72, lo73, hi74, as75, pa76, ne77, he_78, ho_79⟩ := (hRS54.1.2.2.2.2.2.1 kx51 (by omega)).1
    refine lv_astore_n (lv' := [(3, .ref (ad (20 + 2 * kx51))), (0, .ref (ad 222)), (1, .int (3)), (2, .int (en))]) Bx.1 Bx.2.1 d_Rd_readBracket_41 rfl hl (by decide) rfl (fun ls hl => ?_)
    refine lv_aload_n Bx.1 Bx.2.1 d_Rd_readBracket_42 rfl (lv_at hl 1 rfl) ?_
    refine lv_aload_n Bx.1 Bx.2.1 d_Rd_readBracket_43 rfl (lv_at hl 1 rfl) ?_
    refine f_callVi (na := 0) (As := []) (rest := [.ref (ad 222)]) Bx hml E hP hD hS (by omega) h9_62 rfl (m_Rd_peek l hn hT hRS54) kw_353 kw_355 sel_Rd_peek kw_6 kw_356 (by decide +kernel) ⟨rfl, rfl⟩ ⟨Nat.le_of_ble_eq_true rfl, Nat.le_of_ble_eq_true rfl⟩ rfl hl.1 (Nat.le_of_ble_eq_true rfl) d_Rd_readBracket_44 ⟨Nat.le_of_ble_eq_true rfl, Nat.le_of_ble_eq_true rfl⟩ (fun r80 mem81 H locs hq hP hS => ?_)
    have hD : va_D (Az sz) (fw n ad mem81) := fw_D hD
    rw [hq] at hP hD
    refine lv_iload_n Bx.1 Bx.2.1 d_Rd_readBracket_47 rfl (lv_at hl 3 rfl) ?_
    have J83 : ∀ (jv82 : Int32) (H : Heap) (locs : List Loc), va_P D vcl (fw n ad mem50) H → va_D (Az sz) (fw n ad mem50) → va_S (Az sz) s.heap H locs → W p l e (headSpec (Cond.code y_Rd_readBracket c_Rd_readBracket 4 (some (.object "AbnfChart$Element")) :: tg) ({ frames := 32, cells := 1, slots := 6, locals := 770 } : Room)).room s m [.ref (ad 222), .int (3), .int (en)].toArray below meth c H locs 0 0 (vx_MQ below (QX (QR (fun r mem' => ∃ k rc' ec' : Nat, r = ad (20 + 2 * k) ∧ ec ≤ k ∧ k < ec' ∧ rc ≤ rc' ∧ RS cy ad lim rc' ec' m0 mem') (PP D n ad) (Az sz))) (XQ D sz n ad (fun X mem' => (X = cIA ∨ X = cIS) ∧ ∃ rc' ec' : Nat, RS cy ad lim rc' ec' m0 mem')) [.ref (ad 222), .int (3), .int (en)].toArray s 1 6 (Az sz)) (F0 m 56 ls [.int (jv82), .ref (ad 222)]) := by
      intro jv82 H locs hP hD hS
      refine lv_aload_n Bx.1 Bx.2.1 d_Rd_readBracket_56 rfl (lv_at hl 1 rfl) ?_
      refine f_get Bx hP (by omega) h9_62 rfl inRd 2 (by decide) kw_146 rfl rfl d_Rd_readBracket_57 ?_
      refine f_xVv (na := 2) (As := [.int (jv82), .int (at60)]) (rest := []) Bx hml E hP hD hS (by omega) h9_62 rfl (m_Rd_needReadable l hlt hn hT hRS54) kw_360 kw_362 sel_Rd_needReadable kw_6 kw_363 (by decide +kernel) ⟨rfl, rfl⟩ ⟨Nat.le_of_ble_eq_true rfl, Nat.le_of_ble_eq_true rfl⟩ rfl hl.1 (Nat.le_of_ble_eq_true rfl) d_Rd_readBracket_60 ⟨Nat.le_of_ble_eq_true rfl, Nat.le_of_ble_eq_true rfl⟩ (fun X ce q9 memx H locs hx9 hP hS g1 g2 g3 => f_out hlocks hno hP hS g1 g2 g3 ⟨Nat.le_of_ble_eq_true rfl, Nat.le_of_ble_eq_true rfl⟩ hx9) (fun mem85 H locs hq hP hS => ?_)
      have hD : va_D (Az sz) (fw n ad mem85) := fw_D hD
      obtain ⟨hRS86, -, hg87⟩ := hq
      obtain ⟨at88, ft89, h9_90⟩ := hRS86.2.1
      have h1_91 : mem85 1 = .inr (0, [.ref (ad 2), .int (nI Z)]) := (hRS86.2.2 1 (by omega)).trans hT.1
      have h2_92 : mem85 2 = .inl (cy 0, 240, .inl f) := (hRS86.2.2 2 (by omega)).trans hT.2.2
      have h5_93 := hRS86.1.2.1
      have hbd99 := hRS86.1.1
      obtain ⟨S94, g95, hS_96, h220_97, h221_98⟩ := hRS86.1.2.2.2.2.2.2
      obtain ⟨k100, lo101, hi102, as103, pa104, ne105, he_106, ho_107⟩ := (hRS86.1.2.2.2.2.2.1 kx51 (by omega)).1
      refine lv_aload_n Bx.1 Bx.2.1 d_Rd_readBracket_63 rfl (lv_at hl 1 rfl) ?_
      refine lv_dup Bx.1 Bx.2.1 d_Rd_readBracket_64 rfl ?_
      refine f_get Bx hP (by omega) h9_90 rfl inRd 2 (by decide) kw_146 rfl rfl d_Rd_readBracket_65 ?_
      refine lv_iconst (v := 1) Bx.1 Bx.2.1 d_Rd_readBracket_68 (by decide) ?_
      refine lv_iadd Bx.1 Bx.2.1 d_Rd_readBracket_69 ?_
      refine f_put Bx hP hD hS (by omega) h9_90 rfl inRd tyRd okRd nmRd 2 (by decide) kw_146 rfl rfl rfl rfl (Nat.le_of_ble_eq_true rfl) d_Rd_readBracket_70 (fun H locs hP hS => ?_)
      obtain ⟨mem108, e_mem108⟩ : ∃ z, z = va_up mem85 (222) (.inr (4, [.ref (ad 1), .ref (ad 5), .int (at88 + 1), .int (ft89)])) := ⟨_, rfl⟩
      have hP : va_P D vcl (fw n ad mem108) H := by rw [e_mem108]; exact hP
      have hD : va_D (Az sz) (fw n ad mem108) := fw_D hD
      have h_mem108 : mem108 (222) = .inr (4, [.ref (ad 1), .ref (ad 5), .int (at88 + 1), .int (ft89)]) := by rw [e_mem108, va_up_self]
      have hh109 := (va_up_ne mem85 (.inr (4, [.ref (ad 1), .ref (ad 5), .int (at88 + 1), .int (ft89)])) (show (1 : Nat) ≠ 222 by first | decide | assumption | omega)).trans h1_91
      rw [← e_mem108] at hh109
      have hh110 := (va_up_ne mem85 (.inr (4, [.ref (ad 1), .ref (ad 5), .int (at88 + 1), .int (ft89)])) (show (5 : Nat) ≠ 222 by first | decide | assumption | omega)).trans h5_93
      rw [← e_mem108] at hh110
      have hh111 := (va_up_ne mem85 (.inr (4, [.ref (ad 1), .ref (ad 5), .int (at88 + 1), .int (ft89)])) (show (220 : Nat) ≠ 222 by first | decide | assumption | omega)).trans h220_97
      rw [← e_mem108] at hh111
      have hh112 := (va_up_ne mem85 (.inr (4, [.ref (ad 1), .ref (ad 5), .int (at88 + 1), .int (ft89)])) (show ((20 + 2 * kx51) : Nat) ≠ 222 by first | decide | assumption | omega)).trans he_106
      rw [← e_mem108] at hh112
      have hRS113 : RS cy ad lim rc52 ec53 m0 mem108 := by rw [e_mem108]; exact hRS86.at222
      refine lv_aload_n Bx.1 Bx.2.1 d_Rd_readBracket_73 rfl (lv_at hl 0 rfl) ?_
      exact x_aret hx hb hlocks hr (⟨kx51, rc52, ec53, rfl, by omega, by omega, by omega, hRS113⟩) hP hS d_Rd_readBracket_74
    refine lv_icmp_ne Bx.1 Bx.2.1 d_Rd_readBracket_48 rfl (fun h8 => ?_) (fun h8 => ?_)
    · refine lv_iconst (v := 0) Bx.1 Bx.2.1 d_Rd_readBracket_55 (by decide) ?_
      exact J83 _ _ _ hP hD hS
    · refine lv_iconst (v := 1) Bx.1 Bx.2.1 d_Rd_readBracket_51 (by decide) ?_
      refine lv_goto Bx.1 Bx.2.1 d_Rd_readBracket_52 rfl ?_
      exact J83 _ _ _ hP hD hS
set_option maxHeartbeats 4000000 in
set_option maxRecDepth 100000 in
theorem m_Rd_readOption_3 (l : Launch) {D : va_G} {cy : Nat → ClassId} {sz n : Nat} {ad : Nat → Nat} {mem : Nat → va_E} {Z : Nat} {f : Nat → Int32} {lim rc ec : Nat} {m0 : Nat → va_E} (hlt : l.stackTraces = false) (hn : 224 ≤ n) (hT : TX cy ad Z f m0) (hRS : RS cy ad lim rc ec m0 mem) : NXr l D cy sz n ad y_Rd_readOption c_Rd_readOption 3 (some (.object "AbnfChart$Element")) ({ frames := 33, cells := 1, slots := 6, locals := 793 } : Room) mem [.ref (ad 222), .int (3)] (fun r mem' => ∃ k rc' ec' : Nat, r = ad (20 + 2 * k) ∧ ec ≤ k ∧ k < ec' ∧ rc ≤ rc' ∧ RS cy ad lim rc' ec' m0 mem') (fun X mem' => (X = cIA ∨ X = cIS) ∧ ∃ rc' ec' : Nat, RS cy ad lim rc' ec' m0 mem') := by
  refine vx_ofW (cc := c_Rd_readOption) (maxL := 3) (ret := (some (.object "AbnfChart$Element"))) (by decide) rfl ?_
  intro p e s m args below meth c s₁ B hml hno hv
  obtain ⟨rfl, E, hP, hD⟩ := hv
  have hx := B.exec
  have hb := B.bytes
  have hr := B.returns
  have hlocks := B.notSynchronized
  have Bx : MB p s m [.ref (ad 222), .int (3)].toArray c c_Rd_readOption "AbnfChart$Reader" D cy := ⟨hx, hb, tb_all (atoms_spec B.pre) E.2.1, findClass_of_methodNamed B.named, E.1⟩
  have hS : va_S (Az sz) s.heap s.heap [] := va_S.rf
  have hl := lv_entry ([.ref (ad 222), .int (3)]) (n := 3) (Nat.le_of_ble_eq_true rfl)
  rw [lg_entry_eq]
  generalize (lg_sl ([.ref (ad 222), .int (3)]) ++ List.replicate (3 - (lg_sl ([.ref (ad 222), .int (3)])).length) Slot.unset).toArray = ls at hl ⊢
  have hl : lv_has ls 3 [(0, .ref (ad 222)), (1, .int (3))] := hl
  obtain ⟨at1, ft2, h9_3⟩ := hRS.2.1
  have h1_4 : mem 1 = .inr (0, [.ref (ad 2), .int (nI Z)]) := (hRS.2.2 1 (by omega)).trans hT.1
  have h2_5 : mem 2 = .inl (cy 0, 240, .inl f) := (hRS.2.2 2 (by omega)).trans hT.2.2
  have h5_6 := hRS.1.2.1
  have hbd12 := hRS.1.1
  obtain ⟨S7, g8, hS_9, h220_10, h221_11⟩ := hRS.1.2.2.2.2.2.2
  refine lv_aload_n Bx.1 Bx.2.1 d_Rd_readOption_0 rfl (lv_at hl 0 rfl) ?_
  refine lv_iconst (v := 3) Bx.1 Bx.2.1 d_Rd_readOption_1 (by decide) ?_
  refine lv_aload_n Bx.1 Bx.2.1 d_Rd_readOption_2 rfl (lv_at hl 0 rfl) ?_
  refine f_get Bx hP (by omega) h9_3 rfl inRd 2 (by decide) kw_146 rfl rfl d_Rd_readOption_3 ?_
  refine f_xVr (na := 2) (As := [.int (3), .int (at1)]) (rest := []) Bx hml E hP hD hS (by omega) h9_3 rfl (m_Rd_addElement l hlt hn hT hRS) kw_419 kw_421 sel_Rd_addElement kw_6 kw_422 (by decide +kernel) ⟨rfl, rfl⟩ ⟨Nat.le_of_ble_eq_true rfl, Nat.le_of_ble_eq_true rfl⟩ rfl hl.1 (Nat.le_of_ble_eq_true rfl) d_Rd_readOption_6 ⟨Nat.le_of_ble_eq_true rfl, Nat.le_of_ble_eq_true rfl⟩ (fun X ce q9 memx H locs hx9 hP hS g1 g2 g3 => f_out hlocks hno hP hS g1 g2 g3 ⟨Nat.le_of_ble_eq_true rfl, Nat.le_of_ble_eq_true rfl⟩ hx9) (fun r13 mem14 H locs hq hP hS => ?_)
  have hD : va_D (Az sz) (fw n ad mem14) := fw_D hD
  obtain ⟨hr917, hec16, hRS15⟩ := hq
  subst hr917
  obtain ⟨at18, ft19, h9_20⟩ := hRS15.2.1
  have h1_21 : mem14 1 = .inr (0, [.ref (ad 2), .int (nI Z)]) := (hRS15.2.2 1 (by omega)).trans hT.1
  have h2_22 : mem14 2 = .inl (cy 0, 240, .inl f) := (hRS15.2.2 2 (by omega)).trans hT.2.2
  have h5_23 := hRS15.1.2.1
  have hbd29 := hRS15.1.1
  obtain ⟨S24, g25, hS_26, h220_27, h221_28⟩ := hRS15.1.2.2.2.2.2.2
  obtain ⟨k30, lo31, hi32, as33, pa34, ne35, he_36, ho_37⟩ := (hRS15.1.2.2.2.2.2.1 ec (by omega)).1
  refine lv_astore_n (lv' := [(2, .ref (ad (20 + 2 * ec))), (0, .ref (ad 222)), (1, .int (3))]) Bx.1 Bx.2.1 d_Rd_readOption_9 rfl hl (by decide) rfl (fun ls hl => ?_)
  refine lv_aload_n Bx.1 Bx.2.1 d_Rd_readOption_10 rfl (lv_at hl 0 rfl) ?_
  refine lv_aload_n Bx.1 Bx.2.1 d_Rd_readOption_11 rfl (lv_at hl 1 rfl) ?_
  refine lv_iload_n Bx.1 Bx.2.1 d_Rd_readOption_12 rfl (lv_at hl 2 rfl) ?_
  refine lv_bipush (v := 93) Bx.1 Bx.2.1 d_Rd_readOption_13 (by decide) ?_
  refine f_xVr (na := 2) (As := [.int (3), .int (93)]) (rest := [.ref (ad (20 + 2 * ec))]) Bx hml E hP hD hS (by omega) h9_20 rfl (m_Rd_readBracket_3 l hlt hn hT hRS15) kw_447 kw_449 sel_Rd_readBracket kw_6 kw_450 (by decide +kernel) ⟨rfl, rfl⟩ ⟨Nat.le_of_ble_eq_true rfl, Nat.le_of_ble_eq_true rfl⟩ rfl hl.1 (Nat.le_of_ble_eq_true rfl) d_Rd_readOption_15 ⟨Nat.le_of_ble_eq_true rfl, Nat.le_of_ble_eq_true rfl⟩ (fun X ce q9 memx H locs hx9 hP hS g1 g2 g3 => f_out hlocks hno hP hS g1 g2 g3 ⟨Nat.le_of_ble_eq_true rfl, Nat.le_of_ble_eq_true rfl⟩ hx9) (fun r38 mem39 H locs hq hP hS => ?_)
  have hD : va_D (Az sz) (fw n ad mem39) := fw_D hD
  obtain ⟨kx40, rc41, ec42, hr944, hb45, hb46, hb47, hRS43⟩ := hq
  subst hr944
  have hbd48 := hRS43.1.1
  obtain ⟨at49, ft50, h9_51⟩ := hRS43.2.1
  have h1_52 : mem39 1 = .inr (0, [.ref (ad 2), .int (nI Z)]) := (hRS43.2.2 1 (by omega)).trans hT.1
  have h2_53 : mem39 2 = .inl (cy 0, 240, .inl f) := (hRS43.2.2 2 (by omega)).trans hT.2.2
  have h5_54 := hRS43.1.2.1
  have hbd60 := hRS43.1.1
  obtain ⟨S55, g56, hS_57, h220_58, h221_59⟩ := hRS43.1.2.2.2.2.2.2
  obtain ⟨k61, lo62, hi63, as64, pa65, ne66, he_67, ho_68⟩ := (hRS43.1.2.2.2.2.2.1 ec (by omega)).1
  obtain ⟨k69, lo70, hi71, as72, pa73, ne74, he_75, ho_76⟩ := (hRS43.1.2.2.2.2.2.1 kx40 (by omega)).1
  refine f_putN Bx hP hD hS (by omega) he_67 rfl inEl tyEl okEl nmEl 4 (by decide) kw_87 rfl rfl rfl rfl (Nat.le_of_ble_eq_true rfl) d_Rd_readOption_18 (fun H locs hP hS => ?_)
  obtain ⟨mem77, e_mem77⟩ : ∃ z, z = va_up mem39 ((20 + 2 * ec)) (.inr (2, [.int (k61), .int (lo62), .int (hi63), as64, .ref (ad (20 + 2 * kx40)), ne66, .ref (ad (21 + 2 * ec))])) := ⟨_, rfl⟩
  have hP : va_P D vcl (fw n ad mem77) H := by rw [e_mem77]; exact hP
  have hD : va_D (Az sz) (fw n ad mem77) := fw_D hD
  have h_mem77 : mem77 ((20 + 2 * ec)) = .inr (2, [.int (k61), .int (lo62), .int (hi63), as64, .ref (ad (20 + 2 * kx40)), ne66, .ref (ad (21 + 2 * ec))]) := by rw [e_mem77, va_up_self]
  have hh78 := (va_up_ne mem39 (.inr (2, [.int (k61), .int (lo62), .int (hi63), as64, .ref (ad (20 + 2 * kx40)), ne66, .ref (ad (21 + 2 * ec))])) (show (222 : Nat) ≠ (20 + 2 * ec) by first | decide | assumption | omega)).trans h9_51
  rw [← e_mem77] at hh78
  have hh79 := (va_up_ne mem39 (.inr (2, [.int (k61), .int (lo62), .int (hi63), as64, .ref (ad (20 + 2 * kx40)), ne66, .ref (ad (21 + 2 * ec))])) (show (1 : Nat) ≠ (20 + 2 * ec) by first | decide | assumption | omega)).trans h1_52
  rw [← e_mem77] at hh79
  have hh80 := (va_up_ne mem39 (.inr (2, [.int (k61), .int (lo62), .int (hi63), as64, .ref (ad (20 + 2 * kx40)), ne66, .ref (ad (21 + 2 * ec))])) (show (5 : Nat) ≠ (20 + 2 * ec) by first | decide | assumption | omega)).trans h5_54
  rw [← e_mem77] at hh80
  have hh81 := (va_up_ne mem39 (.inr (2, [.int (k61), .int (lo62), .int (hi63), as64, .ref (ad (20 + 2 * kx40)), ne66, .ref (ad (21 + 2 * ec))])) (show (220 : Nat) ≠ (20 + 2 * ec) by first | decide | assumption | omega)).trans h220_58
  rw [← e_mem77] at hh81
  have hh82 := (va_up_ne mem39 (.inr (2, [.int (k61), .int (lo62), .int (hi63), as64, .ref (ad (20 + 2 * kx40)), ne66, .ref (ad (21 + 2 * ec))])) (show ((20 + 2 * kx40) : Nat) ≠ (20 + 2 * ec) by first | decide | assumption | omega)).trans he_75
  rw [← e_mem77] at hh82
  have hRS83 : RS cy ad lim rc41 ec42 m0 mem77 := by rw [e_mem77]; exact hRS43.mk (by omega) (hRS43.1.upEl (by omega) (fun q9 => ⟨(ho_68 q9).1, Or.inr ⟨kx40, by omega, by omega, rfl⟩, (ho_68 q9).2.2⟩))
  refine lv_aload_n Bx.1 Bx.2.1 d_Rd_readOption_21 rfl (lv_at hl 0 rfl) ?_
  exact x_aret hx hb hlocks hr (⟨ec, rc41, ec42, rfl, by omega, by omega, by omega, hRS83⟩) hP hS d_Rd_readOption_22
set_option maxHeartbeats 4000000 in
set_option maxRecDepth 100000 in
theorem m_Rd_readElement_3 (l : Launch) {D : va_G} {cy : Nat → ClassId} {sz n : Nat} {ad : Nat → Nat} {mem : Nat → va_E} {Z : Nat} {f : Nat → Int32} {lim rc ec : Nat} {m0 : Nat → va_E} (hlt : l.stackTraces = false) (hn : 224 ≤ n) (hT : TX cy ad Z f m0) (hRS : RS cy ad lim rc ec m0 mem) : NXr l D cy sz n ad y_Rd_readElement c_Rd_readElement 2 (some (.object "AbnfChart$Element")) ({ frames := 34, cells := 1, slots := 6, locals := 816 } : Room) mem [.ref (ad 222), .int (3)] (fun r mem' => ∃ k rc' ec' : Nat, r = ad (20 + 2 * k) ∧ ec ≤ k ∧ k < ec' ∧ rc ≤ rc' ∧ RS cy ad lim rc' ec' m0 mem') (fun X mem' => (X = cIA ∨ X = cIS) ∧ ∃ rc' ec' : Nat, RS cy ad lim rc' ec' m0 mem') := by
  refine vx_ofW (cc := c_Rd_readElement) (maxL := 2) (ret := (some (.object "AbnfChart$Element"))) (by decide) rfl ?_
  intro p e s m args below meth c s₁ B hml hno hv
  obtain ⟨rfl, E, hP, hD⟩ := hv
  have hx := B.exec
  have hb := B.bytes
  have hr := B.returns
  have hlocks := B.notSynchronized
  have Bx : MB p s m [.ref (ad 222), .int (3)].toArray c c_Rd_readElement "AbnfChart$Reader" D cy := ⟨hx, hb, tb_all (atoms_spec B.pre) E.2.1, findClass_of_methodNamed B.named, E.1⟩
  have hS : va_S (Az sz) s.heap s.heap [] := va_S.rf
  have hl := lv_entry ([.ref (ad 222), .int (3)]) (n := 2) (Nat.le_of_ble_eq_true rfl)
  rw [lg_entry_eq]
  generalize (lg_sl ([.ref (ad 222), .int (3)]) ++ List.replicate (2 - (lg_sl ([.ref (ad 222), .int (3)])).length) Slot.unset).toArray = ls at hl ⊢
  have hl : lv_has ls 2 [(0, .ref (ad 222)), (1, .int (3))] := hl
  obtain ⟨at1, ft2, h9_3⟩ := hRS.2.1
  have h1_4 : mem 1 = .inr (0, [.ref (ad 2), .int (nI Z)]) := (hRS.2.2 1 (by omega)).trans hT.1
  have h2_5 : mem 2 = .inl (cy 0, 240, .inl f) := (hRS.2.2 2 (by omega)).trans hT.2.2
  have h5_6 := hRS.1.2.1
  have hbd12 := hRS.1.1
  obtain ⟨S7, g8, hS_9, h220_10, h221_11⟩ := hRS.1.2.2.2.2.2.2
  refine lv_aload_n Bx.1 Bx.2.1 d_Rd_readElement_0 rfl (lv_at hl 0 rfl) ?_
  refine f_callVi (na := 0) (As := []) (rest := []) Bx hml E hP hD hS (by omega) h9_3 rfl (m_Rd_peek l hn hT hRS) kw_353 kw_355 sel_Rd_peek kw_6 kw_356 (by decide +kernel) ⟨rfl, rfl⟩ ⟨Nat.le_of_ble_eq_true rfl, Nat.le_of_ble_eq_true rfl⟩ rfl hl.1 (Nat.le_of_ble_eq_true rfl) d_Rd_readElement_1 ⟨Nat.le_of_ble_eq_true rfl, Nat.le_of_ble_eq_true rfl⟩ (fun r13 mem14 H locs hq hP hS => ?_)
  have hD : va_D (Az sz) (fw n ad mem14) := fw_D hD
  rw [hq] at hP hD
  refine lv_topi (fun v15 e_v15 => ?_)
  by_cases c34 : v15 = 34
  · rw [c34]
    refine lv_lookup (off := 58) (tgt := 62) Bx.1 Bx.2.1 d_Rd_readElement_4 (by decide) (by decide) rfl ?_
    refine lv_aload_n Bx.1 Bx.2.1 d_Rd_readElement_62 rfl (lv_at hl 0 rfl) ?_
    refine lv_aload_n Bx.1 Bx.2.1 d_Rd_readElement_63 rfl (lv_at hl 0 rfl) ?_
    refine f_get Bx hP (by omega) h9_3 rfl inRd 2 (by decide) kw_146 rfl rfl d_Rd_readElement_64 ?_
    refine lv_iconst (v := 5) Bx.1 Bx.2.1 d_Rd_readElement_67 (by decide) ?_
    refine f_xVr (na := 2) (As := [.int (at1), .int (5)]) (rest := []) Bx hml E hP hD hS (by omega) h9_3 rfl (m_Rd_readString l hlt hn hT hRS) kw_455 kw_457 sel_Rd_readString kw_6 kw_458 (by decide +kernel) ⟨rfl, rfl⟩ ⟨Nat.le_of_ble_eq_true rfl, Nat.le_of_ble_eq_true rfl⟩ rfl hl.1 (Nat.le_of_ble_eq_true rfl) d_Rd_readElement_68 ⟨Nat.le_of_ble_eq_true rfl, Nat.le_of_ble_eq_true rfl⟩ (fun X ce q9 memx H locs hx9 hP hS g1 g2 g3 => f_out hlocks hno hP hS g1 g2 g3 ⟨Nat.le_of_ble_eq_true rfl, Nat.le_of_ble_eq_true rfl⟩ hx9) (fun r16 mem17 H locs hq hP hS => ?_)
    have hD : va_D (Az sz) (fw n ad mem17) := fw_D hD
    obtain ⟨kx18, rc19, ec20, hr922, hb23, hb24, hb25, hRS21⟩ := hq
    subst hr922
    have hbd26 := hRS21.1.1
    obtain ⟨at27, ft28, h9_29⟩ := hRS21.2.1
    have h1_30 : mem17 1 = .inr (0, [.ref (ad 2), .int (nI Z)]) := (hRS21.2.2 1 (by omega)).trans hT.1
    have h2_31 : mem17 2 = .inl (cy 0, 240, .inl f) := (hRS21.2.2 2 (by omega)).trans hT.2.2
    have h5_32 := hRS21.1.2.1
    have hbd38 := hRS21.1.1
    obtain ⟨S33, g34, hS_35, h220_36, h221_37⟩ := hRS21.1.2.2.2.2.2.2
    obtain ⟨k39, lo40, hi41, as42, pa43, ne44, he_45, ho_46⟩ := (hRS21.1.2.2.2.2.2.1 kx18 (by omega)).1
    exact x_aret hx hb hlocks hr (⟨kx18, rc19, ec20, rfl, by omega, by omega, by omega, hRS21⟩) hP hS d_Rd_readElement_71
  by_cases c37 : v15 = 37
  · rw [c37]
    refine lv_lookup (off := 68) (tgt := 72) Bx.1 Bx.2.1 d_Rd_readElement_4 (by decide) (by decide) rfl ?_
    refine lv_aload_n Bx.1 Bx.2.1 d_Rd_readElement_72 rfl (lv_at hl 0 rfl) ?_
    refine f_get Bx hP (by omega) h9_3 rfl inRd 0 (by decide) kw_144 rfl rfl d_Rd_readElement_73 ?_
    refine lv_aload_n Bx.1 Bx.2.1 d_Rd_readElement_76 rfl (lv_at hl 0 rfl) ?_
    refine f_get Bx hP (by omega) h9_3 rfl inRd 2 (by decide) kw_146 rfl rfl d_Rd_readElement_77 ?_
    refine lv_iconst (v := 1) Bx.1 Bx.2.1 d_Rd_readElement_80 (by decide) ?_
    refine lv_iadd Bx.1 Bx.2.1 d_Rd_readElement_81 ?_
    refine f_callVi (na := 1) (As := [.int (at1 + 1)]) (rest := []) Bx hml E hP hD hS (by omega) h1_4 rfl (m_Ch_codeAt l (by omega) h1_4 (by omega) h2_5 (by rw [nI_toInt (by have := hT.2.1; omega)]; have := hT.2.1; omega)) kw_341 kw_342 kw_343 kw_2 kw_344 (by decide +kernel) ⟨rfl, rfl⟩ ⟨Nat.le_of_ble_eq_true rfl, Nat.le_of_ble_eq_true rfl⟩ rfl hl.1 (Nat.le_of_ble_eq_true rfl) d_Rd_readElement_82 ⟨Nat.le_of_ble_eq_true rfl, Nat.le_of_ble_eq_true rfl⟩ (fun r47 mem48 H locs hq hP hS => ?_)
    have hD : va_D (Az sz) (fw n ad mem48) := fw_D hD
    rw [hq.2] at hP hD
    refine f_callSNi (na := 1) (As := [.int (r47)]) (rest := []) Bx hml E.2.1 (m_Ab_smallOf l (r47)) kw_372 kw_373 kw_1 kw_374 (by decide +kernel) ⟨rfl, rfl⟩ ⟨Nat.le_of_ble_eq_true rfl, Nat.le_of_ble_eq_true rfl⟩ rfl hl.1 (Nat.le_of_ble_eq_true rfl) d_Rd_readElement_85 ⟨Nat.le_of_ble_eq_true rfl, Nat.le_of_ble_eq_true rfl⟩ (fun r50 hs49 => ?_)
    refine lv_bipush (v := 115) Bx.1 Bx.2.1 d_Rd_readElement_88 (by decide) ?_
    refine lv_icmp_ne Bx.1 Bx.2.1 d_Rd_readElement_90 rfl (fun h8 => ?_) (fun h8 => ?_)
    · refine lv_aload_n Bx.1 Bx.2.1 d_Rd_readElement_100 rfl (lv_at hl 0 rfl) ?_
      refine f_xVr (na := 0) (As := []) (rest := []) Bx hml E hP hD hS (by omega) h9_3 rfl (m_Rd_readValue l hlt hn hT hRS) kw_467 kw_469 sel_Rd_readValue kw_6 kw_470 (by decide +kernel) ⟨rfl, rfl⟩ ⟨Nat.le_of_ble_eq_true rfl, Nat.le_of_ble_eq_true rfl⟩ rfl hl.1 (Nat.le_of_ble_eq_true rfl) d_Rd_readElement_101 ⟨Nat.le_of_ble_eq_true rfl, Nat.le_of_ble_eq_true rfl⟩ (fun X ce q9 memx H locs hx9 hP hS g1 g2 g3 => f_out hlocks hno hP hS g1 g2 g3 ⟨Nat.le_of_ble_eq_true rfl, Nat.le_of_ble_eq_true rfl⟩ hx9) (fun r51 mem52 H locs hq hP hS => ?_)
      have hD : va_D (Az sz) (fw n ad mem52) := fw_D hD
      obtain ⟨kx53, rc54, ec55, hr957, hb58, hb59, hb60, hRS56⟩ := hq
      subst hr957
      have hbd61 := hRS56.1.1
      obtain ⟨at62, ft63, h9_64⟩ := hRS56.2.1
      have h1_65 : mem52 1 = .inr (0, [.ref (ad 2), .int (nI Z)]) := (hRS56.2.2 1 (by omega)).trans hT.1
      have h2_66 : mem52 2 = .inl (cy 0, 240, .inl f) := (hRS56.2.2 2 (by omega)).trans hT.2.2
      have h5_67 := hRS56.1.2.1
      have hbd73 := hRS56.1.1
      obtain ⟨S68, g69, hS_70, h220_71, h221_72⟩ := hRS56.1.2.2.2.2.2.2
      obtain ⟨k74, lo75, hi76, as77, pa78, ne79, he_80, ho_81⟩ := (hRS56.1.2.2.2.2.2.1 kx53 (by omega)).1
      exact x_aret hx hb hlocks hr (⟨kx53, rc54, ec55, rfl, by omega, by omega, by omega, hRS56⟩) hP hS d_Rd_readElement_104
    · refine lv_aload_n Bx.1 Bx.2.1 d_Rd_readElement_93 rfl (lv_at hl 0 rfl) ?_
      refine f_xVr (na := 0) (As := []) (rest := []) Bx hml E hP hD hS (by omega) h9_3 rfl (m_Rd_readExactString l hlt hn hT hRS) kw_463 kw_465 sel_Rd_readExactString kw_6 kw_466 (by decide +kernel) ⟨rfl, rfl⟩ ⟨Nat.le_of_ble_eq_true rfl, Nat.le_of_ble_eq_true rfl⟩ rfl hl.1 (Nat.le_of_ble_eq_true rfl) d_Rd_readElement_94 ⟨Nat.le_of_ble_eq_true rfl, Nat.le_of_ble_eq_true rfl⟩ (fun X ce q9 memx H locs hx9 hP hS g1 g2 g3 => f_out hlocks hno hP hS g1 g2 g3 ⟨Nat.le_of_ble_eq_true rfl, Nat.le_of_ble_eq_true rfl⟩ hx9) (fun r82 mem83 H locs hq hP hS => ?_)
      have hD : va_D (Az sz) (fw n ad mem83) := fw_D hD
      obtain ⟨kx84, rc85, ec86, hr988, hb89, hb90, hb91, hRS87⟩ := hq
      subst hr988
      have hbd92 := hRS87.1.1
      obtain ⟨at93, ft94, h9_95⟩ := hRS87.2.1
      have h1_96 : mem83 1 = .inr (0, [.ref (ad 2), .int (nI Z)]) := (hRS87.2.2 1 (by omega)).trans hT.1
      have h2_97 : mem83 2 = .inl (cy 0, 240, .inl f) := (hRS87.2.2 2 (by omega)).trans hT.2.2
      have h5_98 := hRS87.1.2.1
      have hbd104 := hRS87.1.1
      obtain ⟨S99, g100, hS_101, h220_102, h221_103⟩ := hRS87.1.2.2.2.2.2.2
      obtain ⟨k105, lo106, hi107, as108, pa109, ne110, he_111, ho_112⟩ := (hRS87.1.2.2.2.2.2.1 kx84 (by omega)).1
      refine lv_goto Bx.1 Bx.2.1 d_Rd_readElement_97 rfl ?_
      exact x_aret hx hb hlocks hr (⟨kx84, rc85, ec86, rfl, by omega, by omega, by omega, hRS87⟩) hP hS d_Rd_readElement_104
  by_cases c40 : v15 = 40
  · rw [c40]
    refine lv_lookup (off := 44) (tgt := 48) Bx.1 Bx.2.1 d_Rd_readElement_4 (by decide) (by decide) rfl ?_
    refine lv_aload_n Bx.1 Bx.2.1 d_Rd_readElement_48 rfl (lv_at hl 0 rfl) ?_
    refine lv_iload_n Bx.1 Bx.2.1 d_Rd_readElement_49 rfl (lv_at hl 1 rfl) ?_
    refine lv_bipush (v := 41) Bx.1 Bx.2.1 d_Rd_readElement_50 (by decide) ?_
    refine f_xVr (na := 2) (As := [.int (3), .int (41)]) (rest := []) Bx hml E hP hD hS (by omega) h9_3 rfl (m_Rd_readBracket_3 l hlt hn hT hRS) kw_447 kw_449 sel_Rd_readBracket kw_6 kw_450 (by decide +kernel) ⟨rfl, rfl⟩ ⟨Nat.le_of_ble_eq_true rfl, Nat.le_of_ble_eq_true rfl⟩ rfl hl.1 (Nat.le_of_ble_eq_true rfl) d_Rd_readElement_52 ⟨Nat.le_of_ble_eq_true rfl, Nat.le_of_ble_eq_true rfl⟩ (fun X ce q9 memx H locs hx9 hP hS g1 g2 g3 => f_out hlocks hno hP hS g1 g2 g3 ⟨Nat.le_of_ble_eq_true rfl, Nat.le_of_ble_eq_true rfl⟩ hx9) (fun r113 mem114 H locs hq hP hS => ?_)
    have hD : va_D (Az sz) (fw n ad mem114) := fw_D hD
    obtain ⟨kx115, rc116, ec117, hr9119, hb120, hb121, hb122, hRS118⟩ := hq
    subst hr9119
    have hbd123 := hRS118.1.1
    obtain ⟨at124, ft125, h9_126⟩ := hRS118.2.1
    have h1_127 : mem114 1 = .inr (0, [.ref (ad 2), .int (nI Z)]) := (hRS118.2.2 1 (by omega)).trans hT.1
    have h2_128 : mem114 2 = .inl (cy 0, 240, .inl f) := (hRS118.2.2 2 (by omega)).trans hT.2.2
    have h5_129 := hRS118.1.2.1
    have hbd135 := hRS118.1.1
    obtain ⟨S130, g131, hS_132, h220_133, h221_134⟩ := hRS118.1.2.2.2.2.2.2
    obtain ⟨k136, lo137, hi138, as139, pa140, ne141, he_142, ho_143⟩ := (hRS118.1.2.2.2.2.2.1 kx115 (by omega)).1
    exact x_aret hx hb hlocks hr (⟨kx115, rc116, ec117, rfl, by omega, by omega, by omega, hRS118⟩) hP hS d_Rd_readElement_55
  by_cases c91 : v15 = 91
  · rw [c91]
    refine lv_lookup (off := 52) (tgt := 56) Bx.1 Bx.2.1 d_Rd_readElement_4 (by decide) (by decide) rfl ?_
    refine lv_aload_n Bx.1 Bx.2.1 d_Rd_readElement_56 rfl (lv_at hl 0 rfl) ?_
    refine lv_iload_n Bx.1 Bx.2.1 d_Rd_readElement_57 rfl (lv_at hl 1 rfl) ?_
    refine f_xVr (na := 1) (As := [.int (3)]) (rest := []) Bx hml E hP hD hS (by omega) h9_3 rfl (m_Rd_readOption_3 l hlt hn hT hRS) kw_451 kw_453 sel_Rd_readOption kw_6 kw_454 (by decide +kernel) ⟨rfl, rfl⟩ ⟨Nat.le_of_ble_eq_true rfl, Nat.le_of_ble_eq_true rfl⟩ rfl hl.1 (Nat.le_of_ble_eq_true rfl) d_Rd_readElement_58 ⟨Nat.le_of_ble_eq_true rfl, Nat.le_of_ble_eq_true rfl⟩ (fun X ce q9 memx H locs hx9 hP hS g1 g2 g3 => f_out hlocks hno hP hS g1 g2 g3 ⟨Nat.le_of_ble_eq_true rfl, Nat.le_of_ble_eq_true rfl⟩ hx9) (fun r144 mem145 H locs hq hP hS => ?_)
    have hD : va_D (Az sz) (fw n ad mem145) := fw_D hD
    obtain ⟨kx146, rc147, ec148, hr9150, hb151, hb152, hb153, hRS149⟩ := hq
    subst hr9150
    have hbd154 := hRS149.1.1
    obtain ⟨at155, ft156, h9_157⟩ := hRS149.2.1
    have h1_158 : mem145 1 = .inr (0, [.ref (ad 2), .int (nI Z)]) := (hRS149.2.2 1 (by omega)).trans hT.1
    have h2_159 : mem145 2 = .inl (cy 0, 240, .inl f) := (hRS149.2.2 2 (by omega)).trans hT.2.2
    have h5_160 := hRS149.1.2.1
    have hbd166 := hRS149.1.1
    obtain ⟨S161, g162, hS_163, h220_164, h221_165⟩ := hRS149.1.2.2.2.2.2.2
    obtain ⟨k167, lo168, hi169, as170, pa171, ne172, he_173, ho_174⟩ := (hRS149.1.2.2.2.2.2.1 kx146 (by omega)).1
    exact x_aret hx hb hlocks hr (⟨kx146, rc147, ec148, rfl, by omega, by omega, by omega, hRS149⟩) hP hS d_Rd_readElement_61
  refine lv_lookup (off := 101) (tgt := 105) Bx.1 Bx.2.1 d_Rd_readElement_4 (by decide) (by show Op.lookupswitch.offset [(34, 58), (37, 68), (40, 44), (91, 52)] 101 (v15).toInt = 101; rw [lv_osw c34 (by decide), lv_osw c37 (by decide), lv_osw c40 (by decide), lv_osw c91 (by decide)]; rfl) rfl ?_
  refine lv_aload_n Bx.1 Bx.2.1 d_Rd_readElement_105 rfl (lv_at hl 0 rfl) ?_
  refine f_xVr (na := 0) (As := []) (rest := []) Bx hml E hP hD hS (by omega) h9_3 rfl (m_Rd_readAskedName l hlt hn hT hRS) kw_478 kw_480 sel_Rd_readAskedName kw_6 kw_481 (by decide +kernel) ⟨rfl, rfl⟩ ⟨Nat.le_of_ble_eq_true rfl, Nat.le_of_ble_eq_true rfl⟩ rfl hl.1 (Nat.le_of_ble_eq_true rfl) d_Rd_readElement_106 ⟨Nat.le_of_ble_eq_true rfl, Nat.le_of_ble_eq_true rfl⟩ (fun X ce q9 memx H locs hx9 hP hS g1 g2 g3 => f_out hlocks hno hP hS g1 g2 g3 ⟨Nat.le_of_ble_eq_true rfl, Nat.le_of_ble_eq_true rfl⟩ hx9) (fun r175 mem176 H locs hq hP hS => ?_)
  have hD : va_D (Az sz) (fw n ad mem176) := fw_D hD
  obtain ⟨kx177, rc178, ec179, hr9181, hb182, hb183, hb184, hRS180⟩ := hq
  subst hr9181
  have hbd185 := hRS180.1.1
  obtain ⟨at186, ft187, h9_188⟩ := hRS180.2.1
  have h1_189 : mem176 1 = .inr (0, [.ref (ad 2), .int (nI Z)]) := (hRS180.2.2 1 (by omega)).trans hT.1
  have h2_190 : mem176 2 = .inl (cy 0, 240, .inl f) := (hRS180.2.2 2 (by omega)).trans hT.2.2
  have h5_191 := hRS180.1.2.1
  have hbd197 := hRS180.1.1
  obtain ⟨S192, g193, hS_194, h220_195, h221_196⟩ := hRS180.1.2.2.2.2.2.2
  obtain ⟨k198, lo199, hi200, as201, pa202, ne203, he_204, ho_205⟩ := (hRS180.1.2.2.2.2.2.1 kx177 (by omega)).1
  exact x_aret hx hb hlocks hr (⟨kx177, rc178, ec179, rfl, by omega, by omega, by omega, hRS180⟩) hP hS d_Rd_readElement_109
set_option maxHeartbeats 4000000 in
set_option maxRecDepth 100000 in
theorem m_Rd_readRepetition_3 (l : Launch) {D : va_G} {cy : Nat → ClassId} {sz n : Nat} {ad : Nat → Nat} {mem : Nat → va_E} {Z : Nat} {f : Nat → Int32} {lim rc ec : Nat} {m0 : Nat → va_E} (hlt : l.stackTraces = false) (hn : 224 ≤ n) (hT : TX cy ad Z f m0) (hRS : RS cy ad lim rc ec m0 mem) : NXr l D cy sz n ad y_Rd_readRepetition c_Rd_readRepetition 3 (some (.object "AbnfChart$Element")) ({ frames := 35, cells := 1, slots := 6, locals := 838 } : Room) mem [.ref (ad 222), .int (3)] (fun r mem' => ∃ k rc' ec' : Nat, r = ad (20 + 2 * k) ∧ ec ≤ k ∧ k < ec' ∧ rc ≤ rc' ∧ RS cy ad lim rc' ec' m0 mem') (fun X mem' => (X = cIA ∨ X = cIS) ∧ ∃ rc' ec' : Nat, RS cy ad lim rc' ec' m0 mem') := by
  refine vx_ofW (cc := c_Rd_readRepetition) (maxL := 3) (ret := (some (.object "AbnfChart$Element"))) (by decide) rfl ?_
  intro p e s m args below meth c s₁ B hml hno hv
  obtain ⟨rfl, E, hP, hD⟩ := hv
  have hx := B.exec
  have hb := B.bytes
  have hr := B.returns
  have hlocks := B.notSynchronized
  have Bx : MB p s m [.ref (ad 222), .int (3)].toArray c c_Rd_readRepetition "AbnfChart$Reader" D cy := ⟨hx, hb, tb_all (atoms_spec B.pre) E.2.1, findClass_of_methodNamed B.named, E.1⟩
  have hS : va_S (Az sz) s.heap s.heap [] := va_S.rf
  have hl := lv_entry ([.ref (ad 222), .int (3)]) (n := 3) (Nat.le_of_ble_eq_true rfl)
  rw [lg_entry_eq]
  generalize (lg_sl ([.ref (ad 222), .int (3)]) ++ List.replicate (3 - (lg_sl ([.ref (ad 222), .int (3)])).length) Slot.unset).toArray = ls at hl ⊢
  have hl : lv_has ls 3 [(0, .ref (ad 222)), (1, .int (3))] := hl
  obtain ⟨at1, ft2, h9_3⟩ := hRS.2.1
  have h1_4 : mem 1 = .inr (0, [.ref (ad 2), .int (nI Z)]) := (hRS.2.2 1 (by omega)).trans hT.1
  have h2_5 : mem 2 = .inl (cy 0, 240, .inl f) := (hRS.2.2 2 (by omega)).trans hT.2.2
  have h5_6 := hRS.1.2.1
  have hbd12 := hRS.1.1
  obtain ⟨S7, g8, hS_9, h220_10, h221_11⟩ := hRS.1.2.2.2.2.2.2
  refine lv_aload_n Bx.1 Bx.2.1 d_Rd_readRepetition_0 rfl (lv_at hl 0 rfl) ?_
  refine f_callVi (na := 0) (As := []) (rest := []) Bx hml E hP hD hS (by omega) h9_3 rfl (m_Rd_peek l hn hT hRS) kw_353 kw_355 sel_Rd_peek kw_6 kw_356 (by decide +kernel) ⟨rfl, rfl⟩ ⟨Nat.le_of_ble_eq_true rfl, Nat.le_of_ble_eq_true rfl⟩ rfl hl.1 (Nat.le_of_ble_eq_true rfl) d_Rd_readRepetition_1 ⟨Nat.le_of_ble_eq_true rfl, Nat.le_of_ble_eq_true rfl⟩ (fun r13 mem14 H locs hq hP hS => ?_)
  have hD : va_D (Az sz) (fw n ad mem14) := fw_D hD
  rw [hq] at hP hD
  refine f_callSi (na := 1) (As := [.int (r13)]) (rest := []) Bx hml E.2.1 (m_Rd_beginsRepeat l (r13)) kw_416 kw_417 kw_6 kw_418 (by decide +kernel) ⟨rfl, rfl⟩ ⟨Nat.le_of_ble_eq_true rfl, Nat.le_of_ble_eq_true rfl⟩ rfl hl.1 (Nat.le_of_ble_eq_true rfl) d_Rd_readRepetition_4 ⟨Nat.le_of_ble_eq_true rfl, Nat.le_of_ble_eq_true rfl⟩ (fun r16 hs15 => ?_)
  refine lv_if_ne Bx.1 Bx.2.1 d_Rd_readRepetition_7 rfl (fun h8 => ?_) (fun h8 => ?_)
  · refine lv_aload_n Bx.1 Bx.2.1 d_Rd_readRepetition_16 rfl (lv_at hl 0 rfl) ?_
    refine lv_iconst (v := 2) Bx.1 Bx.2.1 d_Rd_readRepetition_17 (by decide) ?_
    refine lv_aload_n Bx.1 Bx.2.1 d_Rd_readRepetition_18 rfl (lv_at hl 0 rfl) ?_
    refine f_get Bx hP (by omega) h9_3 rfl inRd 2 (by decide) kw_146 rfl rfl d_Rd_readRepetition_19 ?_
    refine f_xVr (na := 2) (As := [.int (2), .int (at1)]) (rest := []) Bx hml E hP hD hS (by omega) h9_3 rfl (m_Rd_addElement l hlt hn hT hRS) kw_419 kw_421 sel_Rd_addElement kw_6 kw_422 (by decide +kernel) ⟨rfl, rfl⟩ ⟨Nat.le_of_ble_eq_true rfl, Nat.le_of_ble_eq_true rfl⟩ rfl hl.1 (Nat.le_of_ble_eq_true rfl) d_Rd_readRepetition_22 ⟨Nat.le_of_ble_eq_true rfl, Nat.le_of_ble_eq_true rfl⟩ (fun X ce q9 memx H locs hx9 hP hS g1 g2 g3 => f_out hlocks hno hP hS g1 g2 g3 ⟨Nat.le_of_ble_eq_true rfl, Nat.le_of_ble_eq_true rfl⟩ hx9) (fun r17 mem18 H locs hq hP hS => ?_)
    have hD : va_D (Az sz) (fw n ad mem18) := fw_D hD
    obtain ⟨hr921, hec20, hRS19⟩ := hq
    subst hr921
    obtain ⟨at22, ft23, h9_24⟩ := hRS19.2.1
    have h1_25 : mem18 1 = .inr (0, [.ref (ad 2), .int (nI Z)]) := (hRS19.2.2 1 (by omega)).trans hT.1
    have h2_26 : mem18 2 = .inl (cy 0, 240, .inl f) := (hRS19.2.2 2 (by omega)).trans hT.2.2
    have h5_27 := hRS19.1.2.1
    have hbd33 := hRS19.1.1
    obtain ⟨S28, g29, hS_30, h220_31, h221_32⟩ := hRS19.1.2.2.2.2.2.2
    obtain ⟨k34, lo35, hi36, as37, pa38, ne39, he_40, ho_41⟩ := (hRS19.1.2.2.2.2.2.1 ec (by omega)).1
    refine lv_astore_n (lv' := [(2, .ref (ad (20 + 2 * ec))), (0, .ref (ad 222)), (1, .int (3))]) Bx.1 Bx.2.1 d_Rd_readRepetition_25 rfl hl (by decide) rfl (fun ls hl => ?_)
    refine lv_aload_n Bx.1 Bx.2.1 d_Rd_readRepetition_26 rfl (lv_at hl 1 rfl) ?_
    refine lv_aload_n Bx.1 Bx.2.1 d_Rd_readRepetition_27 rfl (lv_at hl 0 rfl) ?_
    refine f_xVv (na := 1) (As := [.ref (ad (20 + 2 * ec))]) (rest := []) Bx hml E hP hD hS (by omega) h9_24 rfl (m_Rd_readRepeat l hlt hn hT hRS19 (by omega)) kw_482 kw_484 sel_Rd_readRepeat kw_6 kw_485 (by decide +kernel) ⟨rfl, rfl⟩ ⟨Nat.le_of_ble_eq_true rfl, Nat.le_of_ble_eq_true rfl⟩ rfl hl.1 (Nat.le_of_ble_eq_true rfl) d_Rd_readRepetition_28 ⟨Nat.le_of_ble_eq_true rfl, Nat.le_of_ble_eq_true rfl⟩ (fun X ce q9 memx H locs hx9 hP hS g1 g2 g3 => f_out hlocks hno hP hS g1 g2 g3 ⟨Nat.le_of_ble_eq_true rfl, Nat.le_of_ble_eq_true rfl⟩ hx9) (fun mem44 H locs hRS42 hP hS => ?_)
    have hD : va_D (Az sz) (fw n ad mem44) := fw_D hD
    obtain ⟨at45, ft46, h9_47⟩ := hRS42.2.1
    have h1_48 : mem44 1 = .inr (0, [.ref (ad 2), .int (nI Z)]) := (hRS42.2.2 1 (by omega)).trans hT.1
    have h2_49 : mem44 2 = .inl (cy 0, 240, .inl f) := (hRS42.2.2 2 (by omega)).trans hT.2.2
    have h5_50 := hRS42.1.2.1
    have hbd56 := hRS42.1.1
    obtain ⟨S51, g52, hS_53, h220_54, h221_55⟩ := hRS42.1.2.2.2.2.2.2
    obtain ⟨k57, lo58, hi59, as60, pa61, ne62, he_63, ho_64⟩ := (hRS42.1.2.2.2.2.2.1 ec (by omega)).1
    refine lv_aload_n Bx.1 Bx.2.1 d_Rd_readRepetition_31 rfl (lv_at hl 0 rfl) ?_
    refine lv_aload_n Bx.1 Bx.2.1 d_Rd_readRepetition_32 rfl (lv_at hl 1 rfl) ?_
    refine lv_iload_n Bx.1 Bx.2.1 d_Rd_readRepetition_33 rfl (lv_at hl 2 rfl) ?_
    refine f_xVr (na := 1) (As := [.int (3)]) (rest := [.ref (ad (20 + 2 * ec))]) Bx hml E hP hD hS (by omega) h9_47 rfl (m_Rd_readElement_3 l hlt hn hT hRS42) kw_443 kw_445 sel_Rd_readElement kw_6 kw_446 (by decide +kernel) ⟨rfl, rfl⟩ ⟨Nat.le_of_ble_eq_true rfl, Nat.le_of_ble_eq_true rfl⟩ rfl hl.1 (Nat.le_of_ble_eq_true rfl) d_Rd_readRepetition_34 ⟨Nat.le_of_ble_eq_true rfl, Nat.le_of_ble_eq_true rfl⟩ (fun X ce q9 memx H locs hx9 hP hS g1 g2 g3 => f_out hlocks hno hP hS g1 g2 g3 ⟨Nat.le_of_ble_eq_true rfl, Nat.le_of_ble_eq_true rfl⟩ hx9) (fun r65 mem66 H locs hq hP hS => ?_)
    have hD : va_D (Az sz) (fw n ad mem66) := fw_D hD
    obtain ⟨kx67, rc68, ec69, hr971, hb72, hb73, hb74, hRS70⟩ := hq
    subst hr971
    have hbd75 := hRS70.1.1
    obtain ⟨at76, ft77, h9_78⟩ := hRS70.2.1
    have h1_79 : mem66 1 = .inr (0, [.ref (ad 2), .int (nI Z)]) := (hRS70.2.2 1 (by omega)).trans hT.1
    have h2_80 : mem66 2 = .inl (cy 0, 240, .inl f) := (hRS70.2.2 2 (by omega)).trans hT.2.2
    have h5_81 := hRS70.1.2.1
    have hbd87 := hRS70.1.1
    obtain ⟨S82, g83, hS_84, h220_85, h221_86⟩ := hRS70.1.2.2.2.2.2.2
    obtain ⟨k88, lo89, hi90, as91, pa92, ne93, he_94, ho_95⟩ := (hRS70.1.2.2.2.2.2.1 ec (by omega)).1
    obtain ⟨k96, lo97, hi98, as99, pa100, ne101, he_102, ho_103⟩ := (hRS70.1.2.2.2.2.2.1 kx67 (by omega)).1
    refine f_putN Bx hP hD hS (by omega) he_94 rfl inEl tyEl okEl nmEl 4 (by decide) kw_87 rfl rfl rfl rfl (Nat.le_of_ble_eq_true rfl) d_Rd_readRepetition_37 (fun H locs hP hS => ?_)
    obtain ⟨mem104, e_mem104⟩ : ∃ z, z = va_up mem66 ((20 + 2 * ec)) (.inr (2, [.int (k88), .int (lo89), .int (hi90), as91, .ref (ad (20 + 2 * kx67)), ne93, .ref (ad (21 + 2 * ec))])) := ⟨_, rfl⟩
    have hP : va_P D vcl (fw n ad mem104) H := by rw [e_mem104]; exact hP
    have hD : va_D (Az sz) (fw n ad mem104) := fw_D hD
    have h_mem104 : mem104 ((20 + 2 * ec)) = .inr (2, [.int (k88), .int (lo89), .int (hi90), as91, .ref (ad (20 + 2 * kx67)), ne93, .ref (ad (21 + 2 * ec))]) := by rw [e_mem104, va_up_self]
    have hh105 := (va_up_ne mem66 (.inr (2, [.int (k88), .int (lo89), .int (hi90), as91, .ref (ad (20 + 2 * kx67)), ne93, .ref (ad (21 + 2 * ec))])) (show (222 : Nat) ≠ (20 + 2 * ec) by first | decide | assumption | omega)).trans h9_78
    rw [← e_mem104] at hh105
    have hh106 := (va_up_ne mem66 (.inr (2, [.int (k88), .int (lo89), .int (hi90), as91, .ref (ad (20 + 2 * kx67)), ne93, .ref (ad (21 + 2 * ec))])) (show (1 : Nat) ≠ (20 + 2 * ec) by first | decide | assumption | omega)).trans h1_79
    rw [← e_mem104] at hh106
    have hh107 := (va_up_ne mem66 (.inr (2, [.int (k88), .int (lo89), .int (hi90), as91, .ref (ad (20 + 2 * kx67)), ne93, .ref (ad (21 + 2 * ec))])) (show (5 : Nat) ≠ (20 + 2 * ec) by first | decide | assumption | omega)).trans h5_81
    rw [← e_mem104] at hh107
    have hh108 := (va_up_ne mem66 (.inr (2, [.int (k88), .int (lo89), .int (hi90), as91, .ref (ad (20 + 2 * kx67)), ne93, .ref (ad (21 + 2 * ec))])) (show (220 : Nat) ≠ (20 + 2 * ec) by first | decide | assumption | omega)).trans h220_85
    rw [← e_mem104] at hh108
    have hh109 := (va_up_ne mem66 (.inr (2, [.int (k88), .int (lo89), .int (hi90), as91, .ref (ad (20 + 2 * kx67)), ne93, .ref (ad (21 + 2 * ec))])) (show ((20 + 2 * kx67) : Nat) ≠ (20 + 2 * ec) by first | decide | assumption | omega)).trans he_102
    rw [← e_mem104] at hh109
    have hRS110 : RS cy ad lim rc68 ec69 m0 mem104 := by rw [e_mem104]; exact hRS70.mk (by omega) (hRS70.1.upEl (by omega) (fun q9 => ⟨(ho_95 q9).1, Or.inr ⟨kx67, by omega, by omega, rfl⟩, (ho_95 q9).2.2⟩))
    refine lv_aload_n Bx.1 Bx.2.1 d_Rd_readRepetition_40 rfl (lv_at hl 0 rfl) ?_
    exact x_aret hx hb hlocks hr (⟨ec, rc68, ec69, rfl, by omega, by omega, by omega, hRS110⟩) hP hS d_Rd_readRepetition_41
  · refine lv_aload_n Bx.1 Bx.2.1 d_Rd_readRepetition_10 rfl (lv_at hl 0 rfl) ?_
    refine lv_iload_n Bx.1 Bx.2.1 d_Rd_readRepetition_11 rfl (lv_at hl 1 rfl) ?_
    refine f_xVr (na := 1) (As := [.int (3)]) (rest := []) Bx hml E hP hD hS (by omega) h9_3 rfl (m_Rd_readElement_3 l hlt hn hT hRS) kw_443 kw_445 sel_Rd_readElement kw_6 kw_446 (by decide +kernel) ⟨rfl, rfl⟩ ⟨Nat.le_of_ble_eq_true rfl, Nat.le_of_ble_eq_true rfl⟩ rfl hl.1 (Nat.le_of_ble_eq_true rfl) d_Rd_readRepetition_12 ⟨Nat.le_of_ble_eq_true rfl, Nat.le_of_ble_eq_true rfl⟩ (fun X ce q9 memx H locs hx9 hP hS g1 g2 g3 => f_out hlocks hno hP hS g1 g2 g3 ⟨Nat.le_of_ble_eq_true rfl, Nat.le_of_ble_eq_true rfl⟩ hx9) (fun r111 mem112 H locs hq hP hS => ?_)
    have hD : va_D (Az sz) (fw n ad mem112) := fw_D hD
    obtain ⟨kx113, rc114, ec115, hr9117, hb118, hb119, hb120, hRS116⟩ := hq
    subst hr9117
    have hbd121 := hRS116.1.1
    obtain ⟨at122, ft123, h9_124⟩ := hRS116.2.1
    have h1_125 : mem112 1 = .inr (0, [.ref (ad 2), .int (nI Z)]) := (hRS116.2.2 1 (by omega)).trans hT.1
    have h2_126 : mem112 2 = .inl (cy 0, 240, .inl f) := (hRS116.2.2 2 (by omega)).trans hT.2.2
    have h5_127 := hRS116.1.2.1
    have hbd133 := hRS116.1.1
    obtain ⟨S128, g129, hS_130, h220_131, h221_132⟩ := hRS116.1.2.2.2.2.2.2
    obtain ⟨k134, lo135, hi136, as137, pa138, ne139, he_140, ho_141⟩ := (hRS116.1.2.2.2.2.2.1 kx113 (by omega)).1
    exact x_aret hx hb hlocks hr (⟨kx113, rc114, ec115, rfl, by omega, by omega, by omega, hRS116⟩) hP hS d_Rd_readRepetition_15
set_option maxHeartbeats 4000000 in
set_option maxRecDepth 100000 in
theorem m_Rd_readSequence_3 (l : Launch) {D : va_G} {cy : Nat → ClassId} {sz n : Nat} {ad : Nat → Nat} {mem : Nat → va_E} {Z : Nat} {f : Nat → Int32} {lim rc ec : Nat} {m0 : Nat → va_E} (hlt : l.stackTraces = false) (hn : 224 ≤ n) (hT : TX cy ad Z f m0) (hRS : RS cy ad lim rc ec m0 mem) : NXr l D cy sz n ad y_Rd_readSequence c_Rd_readSequence 5 (some (.object "AbnfChart$Element")) ({ frames := 36, cells := 1, slots := 6, locals := 862 } : Room) mem [.ref (ad 222), .int (3)] (fun r mem' => ∃ k rc' ec' : Nat, r = ad (20 + 2 * k) ∧ ec ≤ k ∧ k < ec' ∧ rc ≤ rc' ∧ RS cy ad lim rc' ec' m0 mem') (fun X mem' => (X = cIA ∨ X = cIS) ∧ ∃ rc' ec' : Nat, RS cy ad lim rc' ec' m0 mem') := by
  refine vx_ofW (cc := c_Rd_readSequence) (maxL := 5) (ret := (some (.object "AbnfChart$Element"))) (by decide) rfl ?_
  intro p e s m args below meth c s₁ B hml hno hv
  obtain ⟨rfl, E, hP, hD⟩ := hv
  have hx := B.exec
  have hb := B.bytes
  have hr := B.returns
  have hlocks := B.notSynchronized
  have Bx : MB p s m [.ref (ad 222), .int (3)].toArray c c_Rd_readSequence "AbnfChart$Reader" D cy := ⟨hx, hb, tb_all (atoms_spec B.pre) E.2.1, findClass_of_methodNamed B.named, E.1⟩
  have hS : va_S (Az sz) s.heap s.heap [] := va_S.rf
  have hl := lv_entry ([.ref (ad 222), .int (3)]) (n := 5) (Nat.le_of_ble_eq_true rfl)
  rw [lg_entry_eq]
  generalize (lg_sl ([.ref (ad 222), .int (3)]) ++ List.replicate (5 - (lg_sl ([.ref (ad 222), .int (3)])).length) Slot.unset).toArray = ls at hl ⊢
  have hl : lv_has ls 5 [(0, .ref (ad 222)), (1, .int (3))] := hl
  obtain ⟨at1, ft2, h9_3⟩ := hRS.2.1
  have h1_4 : mem 1 = .inr (0, [.ref (ad 2), .int (nI Z)]) := (hRS.2.2 1 (by omega)).trans hT.1
  have h2_5 : mem 2 = .inl (cy 0, 240, .inl f) := (hRS.2.2 2 (by omega)).trans hT.2.2
  have h5_6 := hRS.1.2.1
  have hbd12 := hRS.1.1
  obtain ⟨S7, g8, hS_9, h220_10, h221_11⟩ := hRS.1.2.2.2.2.2.2
  refine lv_aload_n Bx.1 Bx.2.1 d_Rd_readSequence_0 rfl (lv_at hl 0 rfl) ?_
  refine lv_iconst (v := 1) Bx.1 Bx.2.1 d_Rd_readSequence_1 (by decide) ?_
  refine f_xVr (na := 1) (As := [.int (1)]) (rest := []) Bx hml E hP hD hS (by omega) h9_3 rfl (m_Rd_beginRow l hlt hn hT hRS) kw_409 kw_411 sel_Rd_beginRow kw_6 kw_412 (by decide +kernel) ⟨rfl, rfl⟩ ⟨Nat.le_of_ble_eq_true rfl, Nat.le_of_ble_eq_true rfl⟩ rfl hl.1 (Nat.le_of_ble_eq_true rfl) d_Rd_readSequence_2 ⟨Nat.le_of_ble_eq_true rfl, Nat.le_of_ble_eq_true rfl⟩ (fun X ce q9 memx H locs hx9 hP hS g1 g2 g3 => f_out hlocks hno hP hS g1 g2 g3 ⟨Nat.le_of_ble_eq_true rfl, Nat.le_of_ble_eq_true rfl⟩ hx9) (fun r13 mem14 H locs hq hP hS => ?_)
  have hD : va_D (Az sz) (fw n ad mem14) := fw_D hD
  obtain ⟨kx15, rc16, ec17, hr919, hb20, hb21, hb22, hRS18⟩ := hq
  subst hr919
  have hbd23 := hRS18.1.1
  obtain ⟨at24, ft25, h9_26⟩ := hRS18.2.1
  have h1_27 : mem14 1 = .inr (0, [.ref (ad 2), .int (nI Z)]) := (hRS18.2.2 1 (by omega)).trans hT.1
  have h2_28 : mem14 2 = .inl (cy 0, 240, .inl f) := (hRS18.2.2 2 (by omega)).trans hT.2.2
  have h5_29 := hRS18.1.2.1
  have hbd35 := hRS18.1.1
  obtain ⟨S30, g31, hS_32, h220_33, h221_34⟩ := hRS18.1.2.2.2.2.2.2
  obtain ⟨k36, lo37, hi38, as39, pa40, ne41, he_42, ho_43⟩ := (hRS18.1.2.2.2.2.2.1 kx15 (by omega)).1
  refine lv_astore_n (lv' := [(2, .ref (ad (20 + 2 * kx15))), (0, .ref (ad 222)), (1, .int (3))]) Bx.1 Bx.2.1 d_Rd_readSequence_5 rfl hl (by decide) rfl (fun ls hl => ?_)
  refine lv_aload_n Bx.1 Bx.2.1 d_Rd_readSequence_6 rfl (lv_at hl 1 rfl) ?_
  refine lv_iload_n Bx.1 Bx.2.1 d_Rd_readSequence_7 rfl (lv_at hl 2 rfl) ?_
  refine f_xVr (na := 1) (As := [.int (3)]) (rest := []) Bx hml E hP hD hS (by omega) h9_26 rfl (m_Rd_readRepetition_3 l hlt hn hT hRS18) kw_439 kw_441 sel_Rd_readRepetition kw_6 kw_442 (by decide +kernel) ⟨rfl, rfl⟩ ⟨Nat.le_of_ble_eq_true rfl, Nat.le_of_ble_eq_true rfl⟩ rfl hl.1 (Nat.le_of_ble_eq_true rfl) d_Rd_readSequence_8 ⟨Nat.le_of_ble_eq_true rfl, Nat.le_of_ble_eq_true rfl⟩ (fun X ce q9 memx H locs hx9 hP hS g1 g2 g3 => f_out hlocks hno hP hS g1 g2 g3 ⟨Nat.le_of_ble_eq_true rfl, Nat.le_of_ble_eq_true rfl⟩ hx9) (fun r44 mem45 H locs hq hP hS => ?_)
  have hD : va_D (Az sz) (fw n ad mem45) := fw_D hD
  obtain ⟨kx46, rc47, ec48, hr950, hb51, hb52, hb53, hRS49⟩ := hq
  subst hr950
  have hbd54 := hRS49.1.1
  obtain ⟨at55, ft56, h9_57⟩ := hRS49.2.1
  have h1_58 : mem45 1 = .inr (0, [.ref (ad 2), .int (nI Z)]) := (hRS49.2.2 1 (by omega)).trans hT.1
  have h2_59 : mem45 2 = .inl (cy 0, 240, .inl f) := (hRS49.2.2 2 (by omega)).trans hT.2.2
  have h5_60 := hRS49.1.2.1
  have hbd66 := hRS49.1.1
  obtain ⟨S61, g62, hS_63, h220_64, h221_65⟩ := hRS49.1.2.2.2.2.2.2
  obtain ⟨k67, lo68, hi69, as70, pa71, ne72, he_73, ho_74⟩ := (hRS49.1.2.2.2.2.2.1 kx15 (by omega)).1
  obtain ⟨k75, lo76, hi77, as78, pa79, ne80, he_81, ho_82⟩ := (hRS49.1.2.2.2.2.2.1 kx46 (by omega)).1
  refine lv_astore_n (lv' := [(3, .ref (ad (20 + 2 * kx46))), (2, .ref (ad (20 + 2 * kx15))), (0, .ref (ad 222)), (1, .int (3))]) Bx.1 Bx.2.1 d_Rd_readSequence_11 rfl hl (by decide) rfl (fun ls hl => ?_)
  refine lv_aload_n Bx.1 Bx.2.1 d_Rd_readSequence_12 rfl (lv_at hl 1 rfl) ?_
  refine lv_aload_n Bx.1 Bx.2.1 d_Rd_readSequence_13 rfl (lv_at hl 0 rfl) ?_
  refine f_putN Bx hP hD hS (by omega) he_73 rfl inEl tyEl okEl nmEl 4 (by decide) kw_87 rfl rfl rfl rfl (Nat.le_of_ble_eq_true rfl) d_Rd_readSequence_14 (fun H locs hP hS => ?_)
  obtain ⟨mem83, e_mem83⟩ : ∃ z, z = va_up mem45 ((20 + 2 * kx15)) (.inr (2, [.int (k67), .int (lo68), .int (hi69), as70, .ref (ad (20 + 2 * kx46)), ne72, .ref (ad (21 + 2 * kx15))])) := ⟨_, rfl⟩
  have hP : va_P D vcl (fw n ad mem83) H := by rw [e_mem83]; exact hP
  have hD : va_D (Az sz) (fw n ad mem83) := fw_D hD
  have h_mem83 : mem83 ((20 + 2 * kx15)) = .inr (2, [.int (k67), .int (lo68), .int (hi69), as70, .ref (ad (20 + 2 * kx46)), ne72, .ref (ad (21 + 2 * kx15))]) := by rw [e_mem83, va_up_self]
  have hh84 := (va_up_ne mem45 (.inr (2, [.int (k67), .int (lo68), .int (hi69), as70, .ref (ad (20 + 2 * kx46)), ne72, .ref (ad (21 + 2 * kx15))])) (show (222 : Nat) ≠ (20 + 2 * kx15) by first | decide | assumption | omega)).trans h9_57
  rw [← e_mem83] at hh84
  have hh85 := (va_up_ne mem45 (.inr (2, [.int (k67), .int (lo68), .int (hi69), as70, .ref (ad (20 + 2 * kx46)), ne72, .ref (ad (21 + 2 * kx15))])) (show (1 : Nat) ≠ (20 + 2 * kx15) by first | decide | assumption | omega)).trans h1_58
  rw [← e_mem83] at hh85
  have hh86 := (va_up_ne mem45 (.inr (2, [.int (k67), .int (lo68), .int (hi69), as70, .ref (ad (20 + 2 * kx46)), ne72, .ref (ad (21 + 2 * kx15))])) (show (5 : Nat) ≠ (20 + 2 * kx15) by first | decide | assumption | omega)).trans h5_60
  rw [← e_mem83] at hh86
  have hh87 := (va_up_ne mem45 (.inr (2, [.int (k67), .int (lo68), .int (hi69), as70, .ref (ad (20 + 2 * kx46)), ne72, .ref (ad (21 + 2 * kx15))])) (show (220 : Nat) ≠ (20 + 2 * kx15) by first | decide | assumption | omega)).trans h220_64
  rw [← e_mem83] at hh87
  have hh88 := (va_up_ne mem45 (.inr (2, [.int (k67), .int (lo68), .int (hi69), as70, .ref (ad (20 + 2 * kx46)), ne72, .ref (ad (21 + 2 * kx15))])) (show ((20 + 2 * kx46) : Nat) ≠ (20 + 2 * kx15) by first | decide | assumption | omega)).trans he_81
  rw [← e_mem83] at hh88
  have hRS89 : RS cy ad lim rc47 ec48 m0 mem83 := by rw [e_mem83]; exact hRS49.mk (by omega) (hRS49.1.upEl (by omega) (fun q9 => ⟨(ho_74 q9).1, Or.inr ⟨kx46, by omega, by omega, rfl⟩, (ho_74 q9).2.2⟩))
  refine lv_iconst (v := 0) Bx.1 Bx.2.1 d_Rd_readSequence_17 (by decide) ?_
  refine lv_istore (lv' := [(4, .int (0)), (3, .ref (ad (20 + 2 * kx46))), (2, .ref (ad (20 + 2 * kx15))), (0, .ref (ad 222)), (1, .int (3))]) Bx.1 Bx.2.1 d_Rd_readSequence_18 hl (by decide) rfl (fun ls hl => ?_)
  have loop90 : ∀ (d : Nat) (mem : Nat → va_E) (rcl ecl : Nat) (ls : Array Slot) (H : Heap) (locs : List Loc) (la : Nat) (k9 : Int32), ((240 : Int32).toInt - (k9).toInt).toNat < d → RS cy ad lim rcl ecl m0 mem → kx15 < ecl ∧ la < ecl ∧ rc ≤ rcl → va_P D vcl (fw n ad mem) H → va_D (Az sz) (fw n ad mem) → va_S (Az sz) s.heap H locs → lv_has ls 5 [(4, .int (k9)), (3, .ref (ad (20 + 2 * la))), (2, .ref (ad (20 + 2 * kx15))), (0, .ref (ad 222)), (1, .int (3))] → W p l e (headSpec (Cond.code y_Rd_readSequence c_Rd_readSequence 5 (some (.object "AbnfChart$Element")) :: tg) ({ frames := 36, cells := 1, slots := 6, locals := 862 } : Room)).room s m [.ref (ad 222), .int (3)].toArray below meth c H locs 0 0 (vx_MQ below (QX (QR (fun r mem' => ∃ k rc' ec' : Nat, r = ad (20 + 2 * k) ∧ ec ≤ k ∧ k < ec' ∧ rc ≤ rc' ∧ RS cy ad lim rc' ec' m0 mem') (PP D n ad) (Az sz))) (XQ D sz n ad (fun X mem' => (X = cIA ∨ X = cIS) ∧ ∃ rc' ec' : Nat, RS cy ad lim rc' ec' m0 mem')) [.ref (ad 222), .int (3)].toArray s 1 6 (Az sz)) (F0 m 20 ls []) := by
    intro d
    induction d with
    | zero => intro mem rcl ecl ls H locs la k9 hmeas; exact absurd hmeas (Nat.not_lt_zero _)
    | succ d ih =>
      intro mem rcl ecl ls H locs la k9 hmeas hRS hx0 hP hD hS hl
      have hbd := hRS.1.1
      obtain ⟨at91, ft92, h9_93⟩ := hRS.2.1
      have h1_94 : mem 1 = .inr (0, [.ref (ad 2), .int (nI Z)]) := (hRS.2.2 1 (by omega)).trans hT.1
      have h2_95 : mem 2 = .inl (cy 0, 240, .inl f) := (hRS.2.2 2 (by omega)).trans hT.2.2
      have h5_96 := hRS.1.2.1
      have hbd102 := hRS.1.1
      obtain ⟨S97, g98, hS_99, h220_100, h221_101⟩ := hRS.1.2.2.2.2.2.2
      obtain ⟨k103, lo104, hi105, as106, pa107, ne108, he_109, ho_110⟩ := (hRS.1.2.2.2.2.2.1 la (by omega)).1
      refine lv_iload Bx.1 Bx.2.1 d_Rd_readSequence_20 (lv_at hl 0 rfl) ?_
      refine lv_sipush (v := 240) Bx.1 Bx.2.1 d_Rd_readSequence_22 (by decide) ?_
      refine lv_icmp_ge Bx.1 Bx.2.1 d_Rd_readSequence_25 rfl (fun hk => ?_) (fun hk => ?_)
      · refine lv_aload_n Bx.1 Bx.2.1 d_Rd_readSequence_65 rfl (lv_at hl 2 rfl) ?_
        exact x_aret hx hb hlocks hr (⟨kx15, rcl, ecl, rfl, by omega, by omega, by omega, hRS⟩) hP hS d_Rd_readSequence_66
      · refine lv_aload_n Bx.1 Bx.2.1 d_Rd_readSequence_28 rfl (lv_at hl 3 rfl) ?_
        refine f_callVi (na := 0) (As := []) (rest := []) Bx hml E hP hD hS (by omega) h9_93 rfl (m_Rd_readGap l hn hT hRS) kw_397 kw_399 sel_Rd_readGap kw_6 kw_400 (by decide +kernel) ⟨rfl, rfl⟩ ⟨Nat.le_of_ble_eq_true rfl, Nat.le_of_ble_eq_true rfl⟩ rfl hl.1 (Nat.le_of_ble_eq_true rfl) d_Rd_readSequence_29 ⟨Nat.le_of_ble_eq_true rfl, Nat.le_of_ble_eq_true rfl⟩ (fun r112 mem113 H locs hRS111 hP hS => ?_)
        have hD : va_D (Az sz) (fw n ad mem113) := fw_D hD
        obtain ⟨at114, ft115, h9_116⟩ := hRS111.2.1
        have h1_117 : mem113 1 = .inr (0, [.ref (ad 2), .int (nI Z)]) := (hRS111.2.2 1 (by omega)).trans hT.1
        have h2_118 : mem113 2 = .inl (cy 0, 240, .inl f) := (hRS111.2.2 2 (by omega)).trans hT.2.2
        have h5_119 := hRS111.1.2.1
        have hbd125 := hRS111.1.1
        obtain ⟨S120, g121, hS_122, h220_123, h221_124⟩ := hRS111.1.2.2.2.2.2.2
        obtain ⟨k126, lo127, hi128, as129, pa130, ne131, he_132, ho_133⟩ := (hRS111.1.2.2.2.2.2.1 la (by omega)).1
        refine lv_if_eq Bx.1 Bx.2.1 d_Rd_readSequence_32 rfl (fun h8 => ?_) (fun h8 => ?_)
        · refine lv_aload_n Bx.1 Bx.2.1 d_Rd_readSequence_65 rfl (lv_at hl 2 rfl) ?_
          exact x_aret hx hb hlocks hr (⟨kx15, rcl, ecl, rfl, by omega, by omega, by omega, hRS111⟩) hP hS d_Rd_readSequence_66
        · refine lv_aload_n Bx.1 Bx.2.1 d_Rd_readSequence_35 rfl (lv_at hl 3 rfl) ?_
          refine f_callVi (na := 0) (As := []) (rest := []) Bx hml E hP hD hS (by omega) h9_116 rfl (m_Rd_peek l hn hT hRS111) kw_353 kw_355 sel_Rd_peek kw_6 kw_356 (by decide +kernel) ⟨rfl, rfl⟩ ⟨Nat.le_of_ble_eq_true rfl, Nat.le_of_ble_eq_true rfl⟩ rfl hl.1 (Nat.le_of_ble_eq_true rfl) d_Rd_readSequence_36 ⟨Nat.le_of_ble_eq_true rfl, Nat.le_of_ble_eq_true rfl⟩ (fun r134 mem135 H locs hq hP hS => ?_)
          have hD : va_D (Az sz) (fw n ad mem135) := fw_D hD
          rw [hq] at hP hD
          refine f_callSi (na := 1) (As := [.int (r134)]) (rest := []) Bx hml E.2.1 (m_Rd_beginsRepetition l (r134)) kw_413 kw_414 kw_6 kw_415 (by decide +kernel) ⟨rfl, rfl⟩ ⟨Nat.le_of_ble_eq_true rfl, Nat.le_of_ble_eq_true rfl⟩ rfl hl.1 (Nat.le_of_ble_eq_true rfl) d_Rd_readSequence_39 ⟨Nat.le_of_ble_eq_true rfl, Nat.le_of_ble_eq_true rfl⟩ (fun r137 hs136 => ?_)
          refine lv_if_eq Bx.1 Bx.2.1 d_Rd_readSequence_42 rfl (fun h8 => ?_) (fun h8 => ?_)
          · refine lv_aload_n Bx.1 Bx.2.1 d_Rd_readSequence_65 rfl (lv_at hl 2 rfl) ?_
            exact x_aret hx hb hlocks hr (⟨kx15, rcl, ecl, rfl, by omega, by omega, by omega, hRS111⟩) hP hS d_Rd_readSequence_66
          · refine lv_aload_n Bx.1 Bx.2.1 d_Rd_readSequence_45 rfl (lv_at hl 1 rfl) ?_
            refine lv_aload_n Bx.1 Bx.2.1 d_Rd_readSequence_46 rfl (lv_at hl 3 rfl) ?_
            refine lv_iload_n Bx.1 Bx.2.1 d_Rd_readSequence_47 rfl (lv_at hl 4 rfl) ?_
            refine f_xVr (na := 1) (As := [.int (3)]) (rest := [.ref (ad (20 + 2 * la))]) Bx hml E hP hD hS (by omega) h9_116 rfl (m_Rd_readRepetition_3 l hlt hn hT hRS111) kw_439 kw_441 sel_Rd_readRepetition kw_6 kw_442 (by decide +kernel) ⟨rfl, rfl⟩ ⟨Nat.le_of_ble_eq_true rfl, Nat.le_of_ble_eq_true rfl⟩ rfl hl.1 (Nat.le_of_ble_eq_true rfl) d_Rd_readSequence_48 ⟨Nat.le_of_ble_eq_true rfl, Nat.le_of_ble_eq_true rfl⟩ (fun X ce q9 memx H locs hx9 hP hS g1 g2 g3 => f_out hlocks hno hP hS g1 g2 g3 ⟨Nat.le_of_ble_eq_true rfl, Nat.le_of_ble_eq_true rfl⟩ hx9) (fun r138 mem139 H locs hq hP hS => ?_)
            have hD : va_D (Az sz) (fw n ad mem139) := fw_D hD
            obtain ⟨kx140, rc141, ec142, hr9144, hb145, hb146, hb147, hRS143⟩ := hq
            subst hr9144
            have hbd148 := hRS143.1.1
            obtain ⟨at149, ft150, h9_151⟩ := hRS143.2.1
            have h1_152 : mem139 1 = .inr (0, [.ref (ad 2), .int (nI Z)]) := (hRS143.2.2 1 (by omega)).trans hT.1
            have h2_153 : mem139 2 = .inl (cy 0, 240, .inl f) := (hRS143.2.2 2 (by omega)).trans hT.2.2
            have h5_154 := hRS143.1.2.1
            have hbd160 := hRS143.1.1
            obtain ⟨S155, g156, hS_157, h220_158, h221_159⟩ := hRS143.1.2.2.2.2.2.2
            obtain ⟨k161, lo162, hi163, as164, pa165, ne166, he_167, ho_168⟩ := (hRS143.1.2.2.2.2.2.1 la (by omega)).1
            obtain ⟨k169, lo170, hi171, as172, pa173, ne174, he_175, ho_176⟩ := (hRS143.1.2.2.2.2.2.1 kx140 (by omega)).1
            refine f_putN Bx hP hD hS (by omega) he_167 rfl inEl tyEl okEl nmEl 5 (by decide) kw_91 rfl rfl rfl rfl (Nat.le_of_ble_eq_true rfl) d_Rd_readSequence_51 (fun H locs hP hS => ?_)
            obtain ⟨mem177, e_mem177⟩ : ∃ z, z = va_up mem139 ((20 + 2 * la)) (.inr (2, [.int (k161), .int (lo162), .int (hi163), as164, pa165, .ref (ad (20 + 2 * kx140)), .ref (ad (21 + 2 * la))])) := ⟨_, rfl⟩
            have hP : va_P D vcl (fw n ad mem177) H := by rw [e_mem177]; exact hP
            have hD : va_D (Az sz) (fw n ad mem177) := fw_D hD
            have h_mem177 : mem177 ((20 + 2 * la)) = .inr (2, [.int (k161), .int (lo162), .int (hi163), as164, pa165, .ref (ad (20 + 2 * kx140)), .ref (ad (21 + 2 * la))]) := by rw [e_mem177, va_up_self]
            have hh178 := (va_up_ne mem139 (.inr (2, [.int (k161), .int (lo162), .int (hi163), as164, pa165, .ref (ad (20 + 2 * kx140)), .ref (ad (21 + 2 * la))])) (show (222 : Nat) ≠ (20 + 2 * la) by first | decide | assumption | omega)).trans h9_151
            rw [← e_mem177] at hh178
            have hh179 := (va_up_ne mem139 (.inr (2, [.int (k161), .int (lo162), .int (hi163), as164, pa165, .ref (ad (20 + 2 * kx140)), .ref (ad (21 + 2 * la))])) (show (1 : Nat) ≠ (20 + 2 * la) by first | decide | assumption | omega)).trans h1_152
            rw [← e_mem177] at hh179
            have hh180 := (va_up_ne mem139 (.inr (2, [.int (k161), .int (lo162), .int (hi163), as164, pa165, .ref (ad (20 + 2 * kx140)), .ref (ad (21 + 2 * la))])) (show (5 : Nat) ≠ (20 + 2 * la) by first | decide | assumption | omega)).trans h5_154
            rw [← e_mem177] at hh180
            have hh181 := (va_up_ne mem139 (.inr (2, [.int (k161), .int (lo162), .int (hi163), as164, pa165, .ref (ad (20 + 2 * kx140)), .ref (ad (21 + 2 * la))])) (show (220 : Nat) ≠ (20 + 2 * la) by first | decide | assumption | omega)).trans h220_158
            rw [← e_mem177] at hh181
            have hh182 := (va_up_ne mem139 (.inr (2, [.int (k161), .int (lo162), .int (hi163), as164, pa165, .ref (ad (20 + 2 * kx140)), .ref (ad (21 + 2 * la))])) (show ((20 + 2 * kx140) : Nat) ≠ (20 + 2 * la) by first | decide | assumption | omega)).trans he_175
            rw [← e_mem177] at hh182
            have hRS183 : RS cy ad lim rc141 ec142 m0 mem177 := by rw [e_mem177]; exact hRS143.mk (by omega) (hRS143.1.upEl (by omega) (fun q9 => ⟨(ho_168 q9).1, (ho_168 q9).2.1, Or.inr ⟨kx140, by omega, by omega, rfl⟩⟩))
            refine lv_aload_n Bx.1 Bx.2.1 d_Rd_readSequence_54 rfl (lv_at hl 1 rfl) ?_
            refine f_getN Bx hP (by omega) h_mem177 rfl inEl 5 (by decide) kw_91 rfl rfl d_Rd_readSequence_55 ?_
            refine lv_astore_n (lv' := [(3, .ref (ad (20 + 2 * kx140))), (4, .int (k9)), (2, .ref (ad (20 + 2 * kx15))), (0, .ref (ad 222)), (1, .int (3))]) Bx.1 Bx.2.1 d_Rd_readSequence_58 rfl hl (by decide) rfl (fun ls hl => ?_)
            refine lv_iinc (lv' := [(4, .int ((k9 + (1)))), (3, .ref (ad (20 + 2 * kx140))), (2, .ref (ad (20 + 2 * kx15))), (0, .ref (ad 222)), (1, .int (3))]) Bx.1 Bx.2.1 d_Rd_readSequence_59 hl (k := 1) rfl rfl (by decide) rfl (fun ls hl => ?_)
            refine lv_goto Bx.1 Bx.2.1 d_Rd_readSequence_62 rfl ?_
            exact ih _ _ _ _ _ _ _ _ (by have := inc_meas hk; omega) hRS183 ⟨by omega, by omega, by omega⟩ hP hD hS (lv_sub hl [0, 1, 2, 3, 4] rfl)
  exact loop90 _ _ _ _ _ _ _ _ _ (Nat.lt_succ_self _) hRS89 ⟨by omega, by omega, by omega⟩ hP hD hS (lv_sub hl [0, 1, 2, 3, 4] rfl)
set_option maxHeartbeats 4000000 in
set_option maxRecDepth 100000 in
theorem m_Rd_readAlternatives_3 (l : Launch) {D : va_G} {cy : Nat → ClassId} {sz n : Nat} {ad : Nat → Nat} {mem : Nat → va_E} {Z : Nat} {f : Nat → Int32} {lim rc ec : Nat} {m0 : Nat → va_E} (hlt : l.stackTraces = false) (hn : 224 ≤ n) (hT : TX cy ad Z f m0) (hRS : RS cy ad lim rc ec m0 mem) : NXr l D cy sz n ad y_Rd_readAlternatives c_Rd_readAlternatives 5 (some (.object "AbnfChart$Element")) ({ frames := 37, cells := 1, slots := 6, locals := 888 } : Room) mem [.ref (ad 222), .int (3)] (fun r mem' => ∃ k rc' ec' : Nat, r = ad (20 + 2 * k) ∧ ec ≤ k ∧ k < ec' ∧ rc ≤ rc' ∧ RS cy ad lim rc' ec' m0 mem') (fun X mem' => (X = cIA ∨ X = cIS) ∧ ∃ rc' ec' : Nat, RS cy ad lim rc' ec' m0 mem') := by
  refine vx_ofW (cc := c_Rd_readAlternatives) (maxL := 5) (ret := (some (.object "AbnfChart$Element"))) (by decide) rfl ?_
  intro p e s m args below meth c s₁ B hml hno hv
  obtain ⟨rfl, E, hP, hD⟩ := hv
  have hx := B.exec
  have hb := B.bytes
  have hr := B.returns
  have hlocks := B.notSynchronized
  have Bx : MB p s m [.ref (ad 222), .int (3)].toArray c c_Rd_readAlternatives "AbnfChart$Reader" D cy := ⟨hx, hb, tb_all (atoms_spec B.pre) E.2.1, findClass_of_methodNamed B.named, E.1⟩
  have hS : va_S (Az sz) s.heap s.heap [] := va_S.rf
  have hl := lv_entry ([.ref (ad 222), .int (3)]) (n := 5) (Nat.le_of_ble_eq_true rfl)
  rw [lg_entry_eq]
  generalize (lg_sl ([.ref (ad 222), .int (3)]) ++ List.replicate (5 - (lg_sl ([.ref (ad 222), .int (3)])).length) Slot.unset).toArray = ls at hl ⊢
  have hl : lv_has ls 5 [(0, .ref (ad 222)), (1, .int (3))] := hl
  obtain ⟨at1, ft2, h9_3⟩ := hRS.2.1
  have h1_4 : mem 1 = .inr (0, [.ref (ad 2), .int (nI Z)]) := (hRS.2.2 1 (by omega)).trans hT.1
  have h2_5 : mem 2 = .inl (cy 0, 240, .inl f) := (hRS.2.2 2 (by omega)).trans hT.2.2
  have h5_6 := hRS.1.2.1
  have hbd12 := hRS.1.1
  obtain ⟨S7, g8, hS_9, h220_10, h221_11⟩ := hRS.1.2.2.2.2.2.2
  refine lv_aload_n Bx.1 Bx.2.1 d_Rd_readAlternatives_0 rfl (lv_at hl 0 rfl) ?_
  refine lv_iconst (v := 0) Bx.1 Bx.2.1 d_Rd_readAlternatives_1 (by decide) ?_
  refine f_xVr (na := 1) (As := [.int (0)]) (rest := []) Bx hml E hP hD hS (by omega) h9_3 rfl (m_Rd_beginRow l hlt hn hT hRS) kw_409 kw_411 sel_Rd_beginRow kw_6 kw_412 (by decide +kernel) ⟨rfl, rfl⟩ ⟨Nat.le_of_ble_eq_true rfl, Nat.le_of_ble_eq_true rfl⟩ rfl hl.1 (Nat.le_of_ble_eq_true rfl) d_Rd_readAlternatives_2 ⟨Nat.le_of_ble_eq_true rfl, Nat.le_of_ble_eq_true rfl⟩ (fun X ce q9 memx H locs hx9 hP hS g1 g2 g3 => f_out hlocks hno hP hS g1 g2 g3 ⟨Nat.le_of_ble_eq_true rfl, Nat.le_of_ble_eq_true rfl⟩ hx9) (fun r13 mem14 H locs hq hP hS => ?_)
  have hD : va_D (Az sz) (fw n ad mem14) := fw_D hD
  obtain ⟨kx15, rc16, ec17, hr919, hb20, hb21, hb22, hRS18⟩ := hq
  subst hr919
  have hbd23 := hRS18.1.1
  obtain ⟨at24, ft25, h9_26⟩ := hRS18.2.1
  have h1_27 : mem14 1 = .inr (0, [.ref (ad 2), .int (nI Z)]) := (hRS18.2.2 1 (by omega)).trans hT.1
  have h2_28 : mem14 2 = .inl (cy 0, 240, .inl f) := (hRS18.2.2 2 (by omega)).trans hT.2.2
  have h5_29 := hRS18.1.2.1
  have hbd35 := hRS18.1.1
  obtain ⟨S30, g31, hS_32, h220_33, h221_34⟩ := hRS18.1.2.2.2.2.2.2
  obtain ⟨k36, lo37, hi38, as39, pa40, ne41, he_42, ho_43⟩ := (hRS18.1.2.2.2.2.2.1 kx15 (by omega)).1
  refine lv_astore_n (lv' := [(2, .ref (ad (20 + 2 * kx15))), (0, .ref (ad 222)), (1, .int (3))]) Bx.1 Bx.2.1 d_Rd_readAlternatives_5 rfl hl (by decide) rfl (fun ls hl => ?_)
  refine lv_aload_n Bx.1 Bx.2.1 d_Rd_readAlternatives_6 rfl (lv_at hl 1 rfl) ?_
  refine lv_iload_n Bx.1 Bx.2.1 d_Rd_readAlternatives_7 rfl (lv_at hl 2 rfl) ?_
  refine f_xVr (na := 1) (As := [.int (3)]) (rest := []) Bx hml E hP hD hS (by omega) h9_26 rfl (m_Rd_readSequence_3 l hlt hn hT hRS18) kw_435 kw_437 sel_Rd_readSequence kw_6 kw_438 (by decide +kernel) ⟨rfl, rfl⟩ ⟨Nat.le_of_ble_eq_true rfl, Nat.le_of_ble_eq_true rfl⟩ rfl hl.1 (Nat.le_of_ble_eq_true rfl) d_Rd_readAlternatives_8 ⟨Nat.le_of_ble_eq_true rfl, Nat.le_of_ble_eq_true rfl⟩ (fun X ce q9 memx H locs hx9 hP hS g1 g2 g3 => f_out hlocks hno hP hS g1 g2 g3 ⟨Nat.le_of_ble_eq_true rfl, Nat.le_of_ble_eq_true rfl⟩ hx9) (fun r44 mem45 H locs hq hP hS => ?_)
  have hD : va_D (Az sz) (fw n ad mem45) := fw_D hD
  obtain ⟨kx46, rc47, ec48, hr950, hb51, hb52, hb53, hRS49⟩ := hq
  subst hr950
  have hbd54 := hRS49.1.1
  obtain ⟨at55, ft56, h9_57⟩ := hRS49.2.1
  have h1_58 : mem45 1 = .inr (0, [.ref (ad 2), .int (nI Z)]) := (hRS49.2.2 1 (by omega)).trans hT.1
  have h2_59 : mem45 2 = .inl (cy 0, 240, .inl f) := (hRS49.2.2 2 (by omega)).trans hT.2.2
  have h5_60 := hRS49.1.2.1
  have hbd66 := hRS49.1.1
  obtain ⟨S61, g62, hS_63, h220_64, h221_65⟩ := hRS49.1.2.2.2.2.2.2
  obtain ⟨k67, lo68, hi69, as70, pa71, ne72, he_73, ho_74⟩ := (hRS49.1.2.2.2.2.2.1 kx15 (by omega)).1
  obtain ⟨k75, lo76, hi77, as78, pa79, ne80, he_81, ho_82⟩ := (hRS49.1.2.2.2.2.2.1 kx46 (by omega)).1
  refine lv_astore_n (lv' := [(3, .ref (ad (20 + 2 * kx46))), (2, .ref (ad (20 + 2 * kx15))), (0, .ref (ad 222)), (1, .int (3))]) Bx.1 Bx.2.1 d_Rd_readAlternatives_11 rfl hl (by decide) rfl (fun ls hl => ?_)
  refine lv_aload_n Bx.1 Bx.2.1 d_Rd_readAlternatives_12 rfl (lv_at hl 1 rfl) ?_
  refine lv_aload_n Bx.1 Bx.2.1 d_Rd_readAlternatives_13 rfl (lv_at hl 0 rfl) ?_
  refine f_putN Bx hP hD hS (by omega) he_73 rfl inEl tyEl okEl nmEl 4 (by decide) kw_87 rfl rfl rfl rfl (Nat.le_of_ble_eq_true rfl) d_Rd_readAlternatives_14 (fun H locs hP hS => ?_)
  obtain ⟨mem83, e_mem83⟩ : ∃ z, z = va_up mem45 ((20 + 2 * kx15)) (.inr (2, [.int (k67), .int (lo68), .int (hi69), as70, .ref (ad (20 + 2 * kx46)), ne72, .ref (ad (21 + 2 * kx15))])) := ⟨_, rfl⟩
  have hP : va_P D vcl (fw n ad mem83) H := by rw [e_mem83]; exact hP
  have hD : va_D (Az sz) (fw n ad mem83) := fw_D hD
  have h_mem83 : mem83 ((20 + 2 * kx15)) = .inr (2, [.int (k67), .int (lo68), .int (hi69), as70, .ref (ad (20 + 2 * kx46)), ne72, .ref (ad (21 + 2 * kx15))]) := by rw [e_mem83, va_up_self]
  have hh84 := (va_up_ne mem45 (.inr (2, [.int (k67), .int (lo68), .int (hi69), as70, .ref (ad (20 + 2 * kx46)), ne72, .ref (ad (21 + 2 * kx15))])) (show (222 : Nat) ≠ (20 + 2 * kx15) by first | decide | assumption | omega)).trans h9_57
  rw [← e_mem83] at hh84
  have hh85 := (va_up_ne mem45 (.inr (2, [.int (k67), .int (lo68), .int (hi69), as70, .ref (ad (20 + 2 * kx46)), ne72, .ref (ad (21 + 2 * kx15))])) (show (1 : Nat) ≠ (20 + 2 * kx15) by first | decide | assumption | omega)).trans h1_58
  rw [← e_mem83] at hh85
  have hh86 := (va_up_ne mem45 (.inr (2, [.int (k67), .int (lo68), .int (hi69), as70, .ref (ad (20 + 2 * kx46)), ne72, .ref (ad (21 + 2 * kx15))])) (show (5 : Nat) ≠ (20 + 2 * kx15) by first | decide | assumption | omega)).trans h5_60
  rw [← e_mem83] at hh86
  have hh87 := (va_up_ne mem45 (.inr (2, [.int (k67), .int (lo68), .int (hi69), as70, .ref (ad (20 + 2 * kx46)), ne72, .ref (ad (21 + 2 * kx15))])) (show (220 : Nat) ≠ (20 + 2 * kx15) by first | decide | assumption | omega)).trans h220_64
  rw [← e_mem83] at hh87
  have hh88 := (va_up_ne mem45 (.inr (2, [.int (k67), .int (lo68), .int (hi69), as70, .ref (ad (20 + 2 * kx46)), ne72, .ref (ad (21 + 2 * kx15))])) (show ((20 + 2 * kx46) : Nat) ≠ (20 + 2 * kx15) by first | decide | assumption | omega)).trans he_81
  rw [← e_mem83] at hh88
  have hRS89 : RS cy ad lim rc47 ec48 m0 mem83 := by rw [e_mem83]; exact hRS49.mk (by omega) (hRS49.1.upEl (by omega) (fun q9 => ⟨(ho_74 q9).1, Or.inr ⟨kx46, by omega, by omega, rfl⟩, (ho_74 q9).2.2⟩))
  refine lv_iconst (v := 0) Bx.1 Bx.2.1 d_Rd_readAlternatives_17 (by decide) ?_
  refine lv_istore (lv' := [(4, .int (0)), (3, .ref (ad (20 + 2 * kx46))), (2, .ref (ad (20 + 2 * kx15))), (0, .ref (ad 222)), (1, .int (3))]) Bx.1 Bx.2.1 d_Rd_readAlternatives_18 hl (by decide) rfl (fun ls hl => ?_)
  have loop90 : ∀ (d : Nat) (mem : Nat → va_E) (rcl ecl : Nat) (ls : Array Slot) (H : Heap) (locs : List Loc) (la : Nat) (k9 : Int32), ((240 : Int32).toInt - (k9).toInt).toNat < d → RS cy ad lim rcl ecl m0 mem → kx15 < ecl ∧ la < ecl ∧ rc ≤ rcl → va_P D vcl (fw n ad mem) H → va_D (Az sz) (fw n ad mem) → va_S (Az sz) s.heap H locs → lv_has ls 5 [(4, .int (k9)), (3, .ref (ad (20 + 2 * la))), (2, .ref (ad (20 + 2 * kx15))), (0, .ref (ad 222)), (1, .int (3))] → W p l e (headSpec (Cond.code y_Rd_readAlternatives c_Rd_readAlternatives 5 (some (.object "AbnfChart$Element")) :: tg) ({ frames := 37, cells := 1, slots := 6, locals := 888 } : Room)).room s m [.ref (ad 222), .int (3)].toArray below meth c H locs 0 0 (vx_MQ below (QX (QR (fun r mem' => ∃ k rc' ec' : Nat, r = ad (20 + 2 * k) ∧ ec ≤ k ∧ k < ec' ∧ rc ≤ rc' ∧ RS cy ad lim rc' ec' m0 mem') (PP D n ad) (Az sz))) (XQ D sz n ad (fun X mem' => (X = cIA ∨ X = cIS) ∧ ∃ rc' ec' : Nat, RS cy ad lim rc' ec' m0 mem')) [.ref (ad 222), .int (3)].toArray s 1 6 (Az sz)) (F0 m 20 ls []) := by
    intro d
    induction d with
    | zero => intro mem rcl ecl ls H locs la k9 hmeas; exact absurd hmeas (Nat.not_lt_zero _)
    | succ d ih =>
      intro mem rcl ecl ls H locs la k9 hmeas hRS hx0 hP hD hS hl
      have hbd := hRS.1.1
      obtain ⟨at91, ft92, h9_93⟩ := hRS.2.1
      have h1_94 : mem 1 = .inr (0, [.ref (ad 2), .int (nI Z)]) := (hRS.2.2 1 (by omega)).trans hT.1
      have h2_95 : mem 2 = .inl (cy 0, 240, .inl f) := (hRS.2.2 2 (by omega)).trans hT.2.2
      have h5_96 := hRS.1.2.1
      have hbd102 := hRS.1.1
      obtain ⟨S97, g98, hS_99, h220_100, h221_101⟩ := hRS.1.2.2.2.2.2.2
      obtain ⟨k103, lo104, hi105, as106, pa107, ne108, he_109, ho_110⟩ := (hRS.1.2.2.2.2.2.1 la (by omega)).1
      refine lv_iload Bx.1 Bx.2.1 d_Rd_readAlternatives_20 (lv_at hl 0 rfl) ?_
      refine lv_sipush (v := 240) Bx.1 Bx.2.1 d_Rd_readAlternatives_22 (by decide) ?_
      refine lv_icmp_ge Bx.1 Bx.2.1 d_Rd_readAlternatives_25 rfl (fun hk => ?_) (fun hk => ?_)
      · refine lv_aload_n Bx.1 Bx.2.1 d_Rd_readAlternatives_72 rfl (lv_at hl 2 rfl) ?_
        exact x_aret hx hb hlocks hr (⟨kx15, rcl, ecl, rfl, by omega, by omega, by omega, hRS⟩) hP hS d_Rd_readAlternatives_73
      · refine lv_aload_n Bx.1 Bx.2.1 d_Rd_readAlternatives_28 rfl (lv_at hl 3 rfl) ?_
        refine f_callVi (na := 0) (As := []) (rest := []) Bx hml E hP hD hS (by omega) h9_93 rfl (m_Rd_peek l hn hT hRS) kw_353 kw_355 sel_Rd_peek kw_6 kw_356 (by decide +kernel) ⟨rfl, rfl⟩ ⟨Nat.le_of_ble_eq_true rfl, Nat.le_of_ble_eq_true rfl⟩ rfl hl.1 (Nat.le_of_ble_eq_true rfl) d_Rd_readAlternatives_29 ⟨Nat.le_of_ble_eq_true rfl, Nat.le_of_ble_eq_true rfl⟩ (fun r111 mem112 H locs hq hP hS => ?_)
        have hD : va_D (Az sz) (fw n ad mem112) := fw_D hD
        rw [hq] at hP hD
        refine lv_bipush (v := 47) Bx.1 Bx.2.1 d_Rd_readAlternatives_32 (by decide) ?_
        refine lv_icmp_ne Bx.1 Bx.2.1 d_Rd_readAlternatives_34 rfl (fun h8 => ?_) (fun h8 => ?_)
        · refine lv_aload_n Bx.1 Bx.2.1 d_Rd_readAlternatives_72 rfl (lv_at hl 2 rfl) ?_
          exact x_aret hx hb hlocks hr (⟨kx15, rcl, ecl, rfl, by omega, by omega, by omega, hRS⟩) hP hS d_Rd_readAlternatives_73
        · refine lv_aload_n Bx.1 Bx.2.1 d_Rd_readAlternatives_37 rfl (lv_at hl 3 rfl) ?_
          refine lv_dup Bx.1 Bx.2.1 d_Rd_readAlternatives_38 rfl ?_
          refine f_get Bx hP (by omega) h9_93 rfl inRd 2 (by decide) kw_146 rfl rfl d_Rd_readAlternatives_39 ?_
          refine lv_iconst (v := 1) Bx.1 Bx.2.1 d_Rd_readAlternatives_42 (by decide) ?_
          refine lv_iadd Bx.1 Bx.2.1 d_Rd_readAlternatives_43 ?_
          refine f_put Bx hP hD hS (by omega) h9_93 rfl inRd tyRd okRd nmRd 2 (by decide) kw_146 rfl rfl rfl rfl (Nat.le_of_ble_eq_true rfl) d_Rd_readAlternatives_44 (fun H locs hP hS => ?_)
          obtain ⟨mem113, e_mem113⟩ : ∃ z, z = va_up mem (222) (.inr (4, [.ref (ad 1), .ref (ad 5), .int (at91 + 1), .int (ft92)])) := ⟨_, rfl⟩
          have hP : va_P D vcl (fw n ad mem113) H := by rw [e_mem113]; exact hP
          have hD : va_D (Az sz) (fw n ad mem113) := fw_D hD
          have h_mem113 : mem113 (222) = .inr (4, [.ref (ad 1), .ref (ad 5), .int (at91 + 1), .int (ft92)]) := by rw [e_mem113, va_up_self]
          have hh114 := (va_up_ne mem (.inr (4, [.ref (ad 1), .ref (ad 5), .int (at91 + 1), .int (ft92)])) (show (1 : Nat) ≠ 222 by first | decide | assumption | omega)).trans h1_94
          rw [← e_mem113] at hh114
          have hh115 := (va_up_ne mem (.inr (4, [.ref (ad 1), .ref (ad 5), .int (at91 + 1), .int (ft92)])) (show (5 : Nat) ≠ 222 by first | decide | assumption | omega)).trans h5_96
          rw [← e_mem113] at hh115
          have hh116 := (va_up_ne mem (.inr (4, [.ref (ad 1), .ref (ad 5), .int (at91 + 1), .int (ft92)])) (show (220 : Nat) ≠ 222 by first | decide | assumption | omega)).trans h220_100
          rw [← e_mem113] at hh116
          have hh117 := (va_up_ne mem (.inr (4, [.ref (ad 1), .ref (ad 5), .int (at91 + 1), .int (ft92)])) (show ((20 + 2 * la) : Nat) ≠ 222 by first | decide | assumption | omega)).trans he_109
          rw [← e_mem113] at hh117
          have hRS118 : RS cy ad lim rcl ecl m0 mem113 := by rw [e_mem113]; exact hRS.at222
          refine lv_aload_n Bx.1 Bx.2.1 d_Rd_readAlternatives_47 rfl (lv_at hl 3 rfl) ?_
          refine f_callVi (na := 0) (As := []) (rest := []) Bx hml E hP hD hS (by omega) h_mem113 rfl (m_Rd_readGap l hn hT hRS118) kw_397 kw_399 sel_Rd_readGap kw_6 kw_400 (by decide +kernel) ⟨rfl, rfl⟩ ⟨Nat.le_of_ble_eq_true rfl, Nat.le_of_ble_eq_true rfl⟩ rfl hl.1 (Nat.le_of_ble_eq_true rfl) d_Rd_readAlternatives_48 ⟨Nat.le_of_ble_eq_true rfl, Nat.le_of_ble_eq_true rfl⟩ (fun r120 mem121 H locs hRS119 hP hS => ?_)
          have hD : va_D (Az sz) (fw n ad mem121) := fw_D hD
          obtain ⟨at122, ft123, h9_124⟩ := hRS119.2.1
          have h1_125 : mem121 1 = .inr (0, [.ref (ad 2), .int (nI Z)]) := (hRS119.2.2 1 (by omega)).trans hT.1
          have h2_126 : mem121 2 = .inl (cy 0, 240, .inl f) := (hRS119.2.2 2 (by omega)).trans hT.2.2
          have h5_127 := hRS119.1.2.1
          have hbd133 := hRS119.1.1
          obtain ⟨S128, g129, hS_130, h220_131, h221_132⟩ := hRS119.1.2.2.2.2.2.2
          obtain ⟨k134, lo135, hi136, as137, pa138, ne139, he_140, ho_141⟩ := (hRS119.1.2.2.2.2.2.1 la (by omega)).1
          refine lv_pop Bx.1 Bx.2.1 d_Rd_readAlternatives_51 rfl ?_
          refine lv_aload_n Bx.1 Bx.2.1 d_Rd_readAlternatives_52 rfl (lv_at hl 1 rfl) ?_
          refine lv_aload_n Bx.1 Bx.2.1 d_Rd_readAlternatives_53 rfl (lv_at hl 3 rfl) ?_
          refine lv_iload_n Bx.1 Bx.2.1 d_Rd_readAlternatives_54 rfl (lv_at hl 4 rfl) ?_
          refine f_xVr (na := 1) (As := [.int (3)]) (rest := [.ref (ad (20 + 2 * la))]) Bx hml E hP hD hS (by omega) h9_124 rfl (m_Rd_readSequence_3 l hlt hn hT hRS119) kw_435 kw_437 sel_Rd_readSequence kw_6 kw_438 (by decide +kernel) ⟨rfl, rfl⟩ ⟨Nat.le_of_ble_eq_true rfl, Nat.le_of_ble_eq_true rfl⟩ rfl hl.1 (Nat.le_of_ble_eq_true rfl) d_Rd_readAlternatives_55 ⟨Nat.le_of_ble_eq_true rfl, Nat.le_of_ble_eq_true rfl⟩ (fun X ce q9 memx H locs hx9 hP hS g1 g2 g3 => f_out hlocks hno hP hS g1 g2 g3 ⟨Nat.le_of_ble_eq_true rfl, Nat.le_of_ble_eq_true rfl⟩ hx9) (fun r142 mem143 H locs hq hP hS => ?_)
          have hD : va_D (Az sz) (fw n ad mem143) := fw_D hD
          obtain ⟨kx144, rc145, ec146, hr9148, hb149, hb150, hb151, hRS147⟩ := hq
          subst hr9148
          have hbd152 := hRS147.1.1
          obtain ⟨at153, ft154, h9_155⟩ := hRS147.2.1
          have h1_156 : mem143 1 = .inr (0, [.ref (ad 2), .int (nI Z)]) := (hRS147.2.2 1 (by omega)).trans hT.1
          have h2_157 : mem143 2 = .inl (cy 0, 240, .inl f) := (hRS147.2.2 2 (by omega)).trans hT.2.2
          have h5_158 := hRS147.1.2.1
          have hbd164 := hRS147.1.1
          obtain ⟨S159, g160, hS_161, h220_162, h221_163⟩ := hRS147.1.2.2.2.2.2.2
          obtain ⟨k165, lo166, hi167, as168, pa169, ne170, he_171, ho_172⟩ := (hRS147.1.2.2.2.2.2.1 la (by omega)).1
          obtain ⟨k173, lo174, hi175, as176, pa177, ne178, he_179, ho_180⟩ := (hRS147.1.2.2.2.2.2.1 kx144 (by omega)).1
          refine f_putN Bx hP hD hS (by omega) he_171 rfl inEl tyEl okEl nmEl 5 (by decide) kw_91 rfl rfl rfl rfl (Nat.le_of_ble_eq_true rfl) d_Rd_readAlternatives_58 (fun H locs hP hS => ?_)
          obtain ⟨mem181, e_mem181⟩ : ∃ z, z = va_up mem143 ((20 + 2 * la)) (.inr (2, [.int (k165), .int (lo166), .int (hi167), as168, pa169, .ref (ad (20 + 2 * kx144)), .ref (ad (21 + 2 * la))])) := ⟨_, rfl⟩
          have hP : va_P D vcl (fw n ad mem181) H := by rw [e_mem181]; exact hP
          have hD : va_D (Az sz) (fw n ad mem181) := fw_D hD
          have h_mem181 : mem181 ((20 + 2 * la)) = .inr (2, [.int (k165), .int (lo166), .int (hi167), as168, pa169, .ref (ad (20 + 2 * kx144)), .ref (ad (21 + 2 * la))]) := by rw [e_mem181, va_up_self]
          have hh182 := (va_up_ne mem143 (.inr (2, [.int (k165), .int (lo166), .int (hi167), as168, pa169, .ref (ad (20 + 2 * kx144)), .ref (ad (21 + 2 * la))])) (show (222 : Nat) ≠ (20 + 2 * la) by first | decide | assumption | omega)).trans h9_155
          rw [← e_mem181] at hh182
          have hh183 := (va_up_ne mem143 (.inr (2, [.int (k165), .int (lo166), .int (hi167), as168, pa169, .ref (ad (20 + 2 * kx144)), .ref (ad (21 + 2 * la))])) (show (1 : Nat) ≠ (20 + 2 * la) by first | decide | assumption | omega)).trans h1_156
          rw [← e_mem181] at hh183
          have hh184 := (va_up_ne mem143 (.inr (2, [.int (k165), .int (lo166), .int (hi167), as168, pa169, .ref (ad (20 + 2 * kx144)), .ref (ad (21 + 2 * la))])) (show (5 : Nat) ≠ (20 + 2 * la) by first | decide | assumption | omega)).trans h5_158
          rw [← e_mem181] at hh184
          have hh185 := (va_up_ne mem143 (.inr (2, [.int (k165), .int (lo166), .int (hi167), as168, pa169, .ref (ad (20 + 2 * kx144)), .ref (ad (21 + 2 * la))])) (show (220 : Nat) ≠ (20 + 2 * la) by first | decide | assumption | omega)).trans h220_162
          rw [← e_mem181] at hh185
          have hh186 := (va_up_ne mem143 (.inr (2, [.int (k165), .int (lo166), .int (hi167), as168, pa169, .ref (ad (20 + 2 * kx144)), .ref (ad (21 + 2 * la))])) (show ((20 + 2 * kx144) : Nat) ≠ (20 + 2 * la) by first | decide | assumption | omega)).trans he_179
          rw [← e_mem181] at hh186
          have hRS187 : RS cy ad lim rc145 ec146 m0 mem181 := by rw [e_mem181]; exact hRS147.mk (by omega) (hRS147.1.upEl (by omega) (fun q9 => ⟨(ho_172 q9).1, (ho_172 q9).2.1, Or.inr ⟨kx144, by omega, by omega, rfl⟩⟩))
          refine lv_aload_n Bx.1 Bx.2.1 d_Rd_readAlternatives_61 rfl (lv_at hl 1 rfl) ?_
          refine f_getN Bx hP (by omega) h_mem181 rfl inEl 5 (by decide) kw_91 rfl rfl d_Rd_readAlternatives_62 ?_
          refine lv_astore_n (lv' := [(3, .ref (ad (20 + 2 * kx144))), (4, .int (k9)), (2, .ref (ad (20 + 2 * kx15))), (0, .ref (ad 222)), (1, .int (3))]) Bx.1 Bx.2.1 d_Rd_readAlternatives_65 rfl hl (by decide) rfl (fun ls hl => ?_)
          refine lv_iinc (lv' := [(4, .int ((k9 + (1)))), (3, .ref (ad (20 + 2 * kx144))), (2, .ref (ad (20 + 2 * kx15))), (0, .ref (ad 222)), (1, .int (3))]) Bx.1 Bx.2.1 d_Rd_readAlternatives_66 hl (k := 1) rfl rfl (by decide) rfl (fun ls hl => ?_)
          refine lv_goto Bx.1 Bx.2.1 d_Rd_readAlternatives_69 rfl ?_
          exact ih _ _ _ _ _ _ _ _ (by have := inc_meas hk; omega) hRS187 ⟨by omega, by omega, by omega⟩ hP hD hS (lv_sub hl [0, 1, 2, 3, 4] rfl)
  exact loop90 _ _ _ _ _ _ _ _ _ (Nat.lt_succ_self _) hRS89 ⟨by omega, by omega, by omega⟩ hP hD hS (lv_sub hl [0, 1, 2, 3, 4] rfl)
set_option maxHeartbeats 4000000 in
set_option maxRecDepth 100000 in
theorem m_Rd_readBracket_2 (l : Launch) {D : va_G} {cy : Nat → ClassId} {sz n : Nat} {ad : Nat → Nat} {mem : Nat → va_E} {Z : Nat} {f : Nat → Int32} {lim rc ec : Nat} {m0 : Nat → va_E} {en : Int32} (hlt : l.stackTraces = false) (hn : 224 ≤ n) (hT : TX cy ad Z f m0) (hRS : RS cy ad lim rc ec m0 mem) : NXr l D cy sz n ad y_Rd_readBracket c_Rd_readBracket 4 (some (.object "AbnfChart$Element")) ({ frames := 38, cells := 1, slots := 6, locals := 920 } : Room) mem [.ref (ad 222), .int (2), .int (en)] (fun r mem' => ∃ k rc' ec' : Nat, r = ad (20 + 2 * k) ∧ ec ≤ k ∧ k < ec' ∧ rc ≤ rc' ∧ RS cy ad lim rc' ec' m0 mem') (fun X mem' => (X = cIA ∨ X = cIS) ∧ ∃ rc' ec' : Nat, RS cy ad lim rc' ec' m0 mem') := by
  refine vx_ofW (cc := c_Rd_readBracket) (maxL := 4) (ret := (some (.object "AbnfChart$Element"))) (by decide) rfl ?_
  intro p e s m args below meth c s₁ B hml hno hv
  obtain ⟨rfl, E, hP, hD⟩ := hv
  have hx := B.exec
  have hb := B.bytes
  have hr := B.returns
  have hlocks := B.notSynchronized
  have Bx : MB p s m [.ref (ad 222), .int (2), .int (en)].toArray c c_Rd_readBracket "AbnfChart$Reader" D cy := ⟨hx, hb, tb_all (atoms_spec B.pre) E.2.1, findClass_of_methodNamed B.named, E.1⟩
  have hS : va_S (Az sz) s.heap s.heap [] := va_S.rf
  have hl := lv_entry ([.ref (ad 222), .int (2), .int (en)]) (n := 4) (Nat.le_of_ble_eq_true rfl)
  rw [lg_entry_eq]
  generalize (lg_sl ([.ref (ad 222), .int (2), .int (en)]) ++ List.replicate (4 - (lg_sl ([.ref (ad 222), .int (2), .int (en)])).length) Slot.unset).toArray = ls at hl ⊢
  have hl : lv_has ls 4 [(0, .ref (ad 222)), (1, .int (2)), (2, .int (en))] := hl
  obtain ⟨at1, ft2, h9_3⟩ := hRS.2.1
  have h1_4 : mem 1 = .inr (0, [.ref (ad 2), .int (nI Z)]) := (hRS.2.2 1 (by omega)).trans hT.1
  have h2_5 : mem 2 = .inl (cy 0, 240, .inl f) := (hRS.2.2 2 (by omega)).trans hT.2.2
  have h5_6 := hRS.1.2.1
  have hbd12 := hRS.1.1
  obtain ⟨S7, g8, hS_9, h220_10, h221_11⟩ := hRS.1.2.2.2.2.2.2
  refine lv_aload_n Bx.1 Bx.2.1 d_Rd_readBracket_0 rfl (lv_at hl 0 rfl) ?_
  refine lv_iload_n Bx.1 Bx.2.1 d_Rd_readBracket_1 rfl (lv_at hl 1 rfl) ?_
  refine lv_bipush (v := 6) Bx.1 Bx.2.1 d_Rd_readBracket_2 (by decide) ?_
  refine lv_icmp_ge Bx.1 Bx.2.1 d_Rd_readBracket_4 rfl (fun h8 => ?_) (fun h8 => ?_)
  · exact absurd h8 (by decide)
  · refine lv_iconst (v := 1) Bx.1 Bx.2.1 d_Rd_readBracket_7 (by decide) ?_
    refine lv_goto Bx.1 Bx.2.1 d_Rd_readBracket_8 rfl ?_
    refine lv_aload_n Bx.1 Bx.2.1 d_Rd_readBracket_12 rfl (lv_at hl 0 rfl) ?_
    refine f_get Bx hP (by omega) h9_3 rfl inRd 2 (by decide) kw_146 rfl rfl d_Rd_readBracket_13 ?_
    refine f_xVv (na := 2) (As := [.int (1), .int (at1)]) (rest := []) Bx hml E hP hD hS (by omega) h9_3 rfl (m_Rd_needRoom l hlt hn hT hRS) kw_383 kw_385 sel_Rd_needRoom kw_6 kw_386 (by decide +kernel) ⟨rfl, rfl⟩ ⟨Nat.le_of_ble_eq_true rfl, Nat.le_of_ble_eq_true rfl⟩ rfl hl.1 (Nat.le_of_ble_eq_true rfl) d_Rd_readBracket_16 ⟨Nat.le_of_ble_eq_true rfl, Nat.le_of_ble_eq_true rfl⟩ (fun X ce q9 memx H locs hx9 hP hS g1 g2 g3 => f_out hlocks hno hP hS g1 g2 g3 ⟨Nat.le_of_ble_eq_true rfl, Nat.le_of_ble_eq_true rfl⟩ hx9) (fun mem14 H locs hq hP hS => ?_)
    have hD : va_D (Az sz) (fw n ad mem14) := fw_D hD
    obtain ⟨hRS15, -, hg16⟩ := hq
    obtain ⟨at17, ft18, h9_19⟩ := hRS15.2.1
    have h1_20 : mem14 1 = .inr (0, [.ref (ad 2), .int (nI Z)]) := (hRS15.2.2 1 (by omega)).trans hT.1
    have h2_21 : mem14 2 = .inl (cy 0, 240, .inl f) := (hRS15.2.2 2 (by omega)).trans hT.2.2
    have h5_22 := hRS15.1.2.1
    have hbd28 := hRS15.1.1
    obtain ⟨S23, g24, hS_25, h220_26, h221_27⟩ := hRS15.1.2.2.2.2.2.2
    refine lv_aload_n Bx.1 Bx.2.1 d_Rd_readBracket_19 rfl (lv_at hl 0 rfl) ?_
    refine lv_dup Bx.1 Bx.2.1 d_Rd_readBracket_20 rfl ?_
    refine f_get Bx hP (by omega) h9_19 rfl inRd 2 (by decide) kw_146 rfl rfl d_Rd_readBracket_21 ?_
    refine lv_iconst (v := 1) Bx.1 Bx.2.1 d_Rd_readBracket_24 (by decide) ?_
    refine lv_iadd Bx.1 Bx.2.1 d_Rd_readBracket_25 ?_
    refine f_put Bx hP hD hS (by omega) h9_19 rfl inRd tyRd okRd nmRd 2 (by decide) kw_146 rfl rfl rfl rfl (Nat.le_of_ble_eq_true rfl) d_Rd_readBracket_26 (fun H locs hP hS => ?_)
    obtain ⟨mem29, e_mem29⟩ : ∃ z, z = va_up mem14 (222) (.inr (4, [.ref (ad 1), .ref (ad 5), .int (at17 + 1), .int (ft18)])) := ⟨_, rfl⟩
    have hP : va_P D vcl (fw n ad mem29) H := by rw [e_mem29]; exact hP
    have hD : va_D (Az sz) (fw n ad mem29) := fw_D hD
    have h_mem29 : mem29 (222) = .inr (4, [.ref (ad 1), .ref (ad 5), .int (at17 + 1), .int (ft18)]) := by rw [e_mem29, va_up_self]
    have hh30 := (va_up_ne mem14 (.inr (4, [.ref (ad 1), .ref (ad 5), .int (at17 + 1), .int (ft18)])) (show (1 : Nat) ≠ 222 by first | decide | assumption | omega)).trans h1_20
    rw [← e_mem29] at hh30
    have hh31 := (va_up_ne mem14 (.inr (4, [.ref (ad 1), .ref (ad 5), .int (at17 + 1), .int (ft18)])) (show (5 : Nat) ≠ 222 by first | decide | assumption | omega)).trans h5_22
    rw [← e_mem29] at hh31
    have hh32 := (va_up_ne mem14 (.inr (4, [.ref (ad 1), .ref (ad 5), .int (at17 + 1), .int (ft18)])) (show (220 : Nat) ≠ 222 by first | decide | assumption | omega)).trans h220_26
    rw [← e_mem29] at hh32
    have hRS33 : RS cy ad lim rc ec m0 mem29 := by rw [e_mem29]; exact hRS15.at222
    refine lv_aload_n Bx.1 Bx.2.1 d_Rd_readBracket_29 rfl (lv_at hl 0 rfl) ?_
    refine f_callVi (na := 0) (As := []) (rest := []) Bx hml E hP hD hS (by omega) h_mem29 rfl (m_Rd_readGap l hn hT hRS33) kw_397 kw_399 sel_Rd_readGap kw_6 kw_400 (by decide +kernel) ⟨rfl, rfl⟩ ⟨Nat.le_of_ble_eq_true rfl, Nat.le_of_ble_eq_true rfl⟩ rfl hl.1 (Nat.le_of_ble_eq_true rfl) d_Rd_readBracket_30 ⟨Nat.le_of_ble_eq_true rfl, Nat.le_of_ble_eq_true rfl⟩ (fun r35 mem36 H locs hRS34 hP hS => ?_)
    have hD : va_D (Az sz) (fw n ad mem36) := fw_D hD
    obtain ⟨at37, ft38, h9_39⟩ := hRS34.2.1
    have h1_40 : mem36 1 = .inr (0, [.ref (ad 2), .int (nI Z)]) := (hRS34.2.2 1 (by omega)).trans hT.1
    have h2_41 : mem36 2 = .inl (cy 0, 240, .inl f) := (hRS34.2.2 2 (by omega)).trans hT.2.2
    have h5_42 := hRS34.1.2.1
    have hbd48 := hRS34.1.1
    obtain ⟨S43, g44, hS_45, h220_46, h221_47⟩ := hRS34.1.2.2.2.2.2.2
    refine lv_pop Bx.1 Bx.2.1 d_Rd_readBracket_33 rfl ?_
    refine lv_aload_n Bx.1 Bx.2.1 d_Rd_readBracket_34 rfl (lv_at hl 0 rfl) ?_
    refine lv_iload_n Bx.1 Bx.2.1 d_Rd_readBracket_35 rfl (lv_at hl 1 rfl) ?_
    refine lv_iconst (v := 1) Bx.1 Bx.2.1 d_Rd_readBracket_36 (by decide) ?_
    refine lv_iadd Bx.1 Bx.2.1 d_Rd_readBracket_37 ?_
    rw [show (2 + 1 : Int32) = 3 from rfl]
    refine f_xVr (na := 1) (As := [.int (3)]) (rest := []) Bx hml E hP hD hS (by omega) h9_39 rfl (m_Rd_readAlternatives_3 l hlt hn hT hRS34) kw_405 kw_407 sel_Rd_readAlternatives kw_6 kw_408 (by decide +kernel) ⟨rfl, rfl⟩ ⟨Nat.le_of_ble_eq_true rfl, Nat.le_of_ble_eq_true rfl⟩ rfl hl.1 (Nat.le_of_ble_eq_true rfl) d_Rd_readBracket_38 ⟨Nat.le_of_ble_eq_true rfl, Nat.le_of_ble_eq_true rfl⟩ (fun X ce q9 memx H locs hx9 hP hS g1 g2 g3 => f_out hlocks hno hP hS g1 g2 g3 ⟨Nat.le_of_ble_eq_true rfl, Nat.le_of_ble_eq_true rfl⟩ hx9) (fun r49 mem50 H locs hq hP hS => ?_)
    have hD : va_D (Az sz) (fw n ad mem50) := fw_D hD
    obtain ⟨kx51, rc52, ec53, hr955, hb56, hb57, hb58, hRS54⟩ := hq
    subst hr955
    have hbd59 := hRS54.1.1
    obtain ⟨at60, ft61, h9_62⟩ := hRS54.2.1
    have h1_63 : mem50 1 = .inr (0, [.ref (ad 2), .int (nI Z)]) := (hRS54.2.2 1 (by omega)).trans hT.1
    have h2_64 : mem50 2 = .inl (cy 0, 240, .inl f) := (hRS54.2.2 2 (by omega)).trans hT.2.2
    have h5_65 := hRS54.1.2.1
    have hbd71 := hRS54.1.1
    obtain ⟨S66, g67, hS_68, h220_69, h221_70⟩ := hRS54.1.2.2.2.2.2.2
    obtain ⟨k72, lo73, hi74, as75, pa76, ne77, he_78, ho_79⟩ := (hRS54.1.2.2.2.2.2.1 kx51 (by omega)).1
    refine lv_astore_n (lv' := [(3, .ref (ad (20 + 2 * kx51))), (0, .ref (ad 222)), (1, .int (2)), (2, .int (en))]) Bx.1 Bx.2.1 d_Rd_readBracket_41 rfl hl (by decide) rfl (fun ls hl => ?_)
    refine lv_aload_n Bx.1 Bx.2.1 d_Rd_readBracket_42 rfl (lv_at hl 1 rfl) ?_
    refine lv_aload_n Bx.1 Bx.2.1 d_Rd_readBracket_43 rfl (lv_at hl 1 rfl) ?_
    refine f_callVi (na := 0) (As := []) (rest := [.ref (ad 222)]) Bx hml E hP hD hS (by omega) h9_62 rfl (m_Rd_peek l hn hT hRS54) kw_353 kw_355 sel_Rd_peek kw_6 kw_356 (by decide +kernel) ⟨rfl, rfl⟩ ⟨Nat.le_of_ble_eq_true rfl, Nat.le_of_ble_eq_true rfl⟩ rfl hl.1 (Nat.le_of_ble_eq_true rfl) d_Rd_readBracket_44 ⟨Nat.le_of_ble_eq_true rfl, Nat.le_of_ble_eq_true rfl⟩ (fun r80 mem81 H locs hq hP hS => ?_)
    have hD : va_D (Az sz) (fw n ad mem81) := fw_D hD
    rw [hq] at hP hD
    refine lv_iload_n Bx.1 Bx.2.1 d_Rd_readBracket_47 rfl (lv_at hl 3 rfl) ?_
    have J83 : ∀ (jv82 : Int32) (H : Heap) (locs : List Loc), va_P D vcl (fw n ad mem50) H → va_D (Az sz) (fw n ad mem50) → va_S (Az sz) s.heap H locs → W p l e (headSpec (Cond.code y_Rd_readBracket c_Rd_readBracket 4 (some (.object "AbnfChart$Element")) :: tg) ({ frames := 38, cells := 1, slots := 6, locals := 920 } : Room)).room s m [.ref (ad 222), .int (2), .int (en)].toArray below meth c H locs 0 0 (vx_MQ below (QX (QR (fun r mem' => ∃ k rc' ec' : Nat, r = ad (20 + 2 * k) ∧ ec ≤ k ∧ k < ec' ∧ rc ≤ rc' ∧ RS cy ad lim rc' ec' m0 mem') (PP D n ad) (Az sz))) (XQ D sz n ad (fun X mem' => (X = cIA ∨ X = cIS) ∧ ∃ rc' ec' : Nat, RS cy ad lim rc' ec' m0 mem')) [.ref (ad 222), .int (2), .int (en)].toArray s 1 6 (Az sz)) (F0 m 56 ls [.int (jv82), .ref (ad 222)]) := by
      intro jv82 H locs hP hD hS
      refine lv_aload_n Bx.1 Bx.2.1 d_Rd_readBracket_56 rfl (lv_at hl 1 rfl) ?_
      refine f_get Bx hP (by omega) h9_62 rfl inRd 2 (by decide) kw_146 rfl rfl d_Rd_readBracket_57 ?_
      refine f_xVv (na := 2) (As := [.int (jv82), .int (at60)]) (rest := []) Bx hml E hP hD hS (by omega) h9_62 rfl (m_Rd_needReadable l hlt hn hT hRS54) kw_360 kw_362 sel_Rd_needReadable kw_6 kw_363 (by decide +kernel) ⟨rfl, rfl⟩ ⟨Nat.le_of_ble_eq_true rfl, Nat.le_of_ble_eq_true rfl⟩ rfl hl.1 (Nat.le_of_ble_eq_true rfl) d_Rd_readBracket_60 ⟨Nat.le_of_ble_eq_true rfl, Nat.le_of_ble_eq_true rfl⟩ (fun X ce q9 memx H locs hx9 hP hS g1 g2 g3 => f_out hlocks hno hP hS g1 g2 g3 ⟨Nat.le_of_ble_eq_true rfl, Nat.le_of_ble_eq_true rfl⟩ hx9) (fun mem85 H locs hq hP hS => ?_)
      have hD : va_D (Az sz) (fw n ad mem85) := fw_D hD
      obtain ⟨hRS86, -, hg87⟩ := hq
      obtain ⟨at88, ft89, h9_90⟩ := hRS86.2.1
      have h1_91 : mem85 1 = .inr (0, [.ref (ad 2), .int (nI Z)]) := (hRS86.2.2 1 (by omega)).trans hT.1
      have h2_92 : mem85 2 = .inl (cy 0, 240, .inl f) := (hRS86.2.2 2 (by omega)).trans hT.2.2
      have h5_93 := hRS86.1.2.1
      have hbd99 := hRS86.1.1
      obtain ⟨S94, g95, hS_96, h220_97, h221_98⟩ := hRS86.1.2.2.2.2.2.2
      obtain ⟨k100, lo101, hi102, as103, pa104, ne105, he_106, ho_107⟩ := (hRS86.1.2.2.2.2.2.1 kx51 (by omega)).1
      refine lv_aload_n Bx.1 Bx.2.1 d_Rd_readBracket_63 rfl (lv_at hl 1 rfl) ?_
      refine lv_dup Bx.1 Bx.2.1 d_Rd_readBracket_64 rfl ?_
      refine f_get Bx hP (by omega) h9_90 rfl inRd 2 (by decide) kw_146 rfl rfl d_Rd_readBracket_65 ?_
      refine lv_iconst (v := 1) Bx.1 Bx.2.1 d_Rd_readBracket_68 (by decide) ?_
      refine lv_iadd Bx.1 Bx.2.1 d_Rd_readBracket_69 ?_
      refine f_put Bx hP hD hS (by omega) h9_90 rfl inRd tyRd okRd nmRd 2 (by decide) kw_146 rfl rfl rfl rfl (Nat.le_of_ble_eq_true rfl) d_Rd_readBracket_70 (fun H locs hP hS => ?_)
      obtain ⟨mem108, e_mem108⟩ : ∃ z, z = va_up mem85 (222) (.inr (4, [.ref (ad 1), .ref (ad 5), .int (at88 + 1), .int (ft89)])) := ⟨_, rfl⟩
      have hP : va_P D vcl (fw n ad mem108) H := by rw [e_mem108]; exact hP
      have hD : va_D (Az sz) (fw n ad mem108) := fw_D hD
      have h_mem108 : mem108 (222) = .inr (4, [.ref (ad 1), .ref (ad 5), .int (at88 + 1), .int (ft89)]) := by rw [e_mem108, va_up_self]
      have hh109 := (va_up_ne mem85 (.inr (4, [.ref (ad 1), .ref (ad 5), .int (at88 + 1), .int (ft89)])) (show (1 : Nat) ≠ 222 by first | decide | assumption | omega)).trans h1_91
      rw [← e_mem108] at hh109
      have hh110 := (va_up_ne mem85 (.inr (4, [.ref (ad 1), .ref (ad 5), .int (at88 + 1), .int (ft89)])) (show (5 : Nat) ≠ 222 by first | decide | assumption | omega)).trans h5_93
      rw [← e_mem108] at hh110
      have hh111 := (va_up_ne mem85 (.inr (4, [.ref (ad 1), .ref (ad 5), .int (at88 + 1), .int (ft89)])) (show (220 : Nat) ≠ 222 by first | decide | assumption | omega)).trans h220_97
      rw [← e_mem108] at hh111
      have hh112 := (va_up_ne mem85 (.inr (4, [.ref (ad 1), .ref (ad 5), .int (at88 + 1), .int (ft89)])) (show ((20 + 2 * kx51) : Nat) ≠ 222 by first | decide | assumption | omega)).trans he_106
      rw [← e_mem108] at hh112
      have hRS113 : RS cy ad lim rc52 ec53 m0 mem108 := by rw [e_mem108]; exact hRS86.at222
      refine lv_aload_n Bx.1 Bx.2.1 d_Rd_readBracket_73 rfl (lv_at hl 0 rfl) ?_
      exact x_aret hx hb hlocks hr (⟨kx51, rc52, ec53, rfl, by omega, by omega, by omega, hRS113⟩) hP hS d_Rd_readBracket_74
    refine lv_icmp_ne Bx.1 Bx.2.1 d_Rd_readBracket_48 rfl (fun h8 => ?_) (fun h8 => ?_)
    · refine lv_iconst (v := 0) Bx.1 Bx.2.1 d_Rd_readBracket_55 (by decide) ?_
      exact J83 _ _ _ hP hD hS
    · refine lv_iconst (v := 1) Bx.1 Bx.2.1 d_Rd_readBracket_51 (by decide) ?_
      refine lv_goto Bx.1 Bx.2.1 d_Rd_readBracket_52 rfl ?_
      exact J83 _ _ _ hP hD hS
set_option maxHeartbeats 4000000 in
set_option maxRecDepth 100000 in
theorem m_Rd_readOption_2 (l : Launch) {D : va_G} {cy : Nat → ClassId} {sz n : Nat} {ad : Nat → Nat} {mem : Nat → va_E} {Z : Nat} {f : Nat → Int32} {lim rc ec : Nat} {m0 : Nat → va_E} (hlt : l.stackTraces = false) (hn : 224 ≤ n) (hT : TX cy ad Z f m0) (hRS : RS cy ad lim rc ec m0 mem) : NXr l D cy sz n ad y_Rd_readOption c_Rd_readOption 3 (some (.object "AbnfChart$Element")) ({ frames := 39, cells := 1, slots := 6, locals := 943 } : Room) mem [.ref (ad 222), .int (2)] (fun r mem' => ∃ k rc' ec' : Nat, r = ad (20 + 2 * k) ∧ ec ≤ k ∧ k < ec' ∧ rc ≤ rc' ∧ RS cy ad lim rc' ec' m0 mem') (fun X mem' => (X = cIA ∨ X = cIS) ∧ ∃ rc' ec' : Nat, RS cy ad lim rc' ec' m0 mem') := by
  refine vx_ofW (cc := c_Rd_readOption) (maxL := 3) (ret := (some (.object "AbnfChart$Element"))) (by decide) rfl ?_
  intro p e s m args below meth c s₁ B hml hno hv
  obtain ⟨rfl, E, hP, hD⟩ := hv
  have hx := B.exec
  have hb := B.bytes
  have hr := B.returns
  have hlocks := B.notSynchronized
  have Bx : MB p s m [.ref (ad 222), .int (2)].toArray c c_Rd_readOption "AbnfChart$Reader" D cy := ⟨hx, hb, tb_all (atoms_spec B.pre) E.2.1, findClass_of_methodNamed B.named, E.1⟩
  have hS : va_S (Az sz) s.heap s.heap [] := va_S.rf
  have hl := lv_entry ([.ref (ad 222), .int (2)]) (n := 3) (Nat.le_of_ble_eq_true rfl)
  rw [lg_entry_eq]
  generalize (lg_sl ([.ref (ad 222), .int (2)]) ++ List.replicate (3 - (lg_sl ([.ref (ad 222), .int (2)])).length) Slot.unset).toArray = ls at hl ⊢
  have hl : lv_has ls 3 [(0, .ref (ad 222)), (1, .int (2))] := hl
  obtain ⟨at1, ft2, h9_3⟩ := hRS.2.1
  have h1_4 : mem 1 = .inr (0, [.ref (ad 2), .int (nI Z)]) := (hRS.2.2 1 (by omega)).trans hT.1
  have h2_5 : mem 2 = .inl (cy 0, 240, .inl f) := (hRS.2.2 2 (by omega)).trans hT.2.2
  have h5_6 := hRS.1.2.1
  have hbd12 := hRS.1.1
  obtain ⟨S7, g8, hS_9, h220_10, h221_11⟩ := hRS.1.2.2.2.2.2.2
  refine lv_aload_n Bx.1 Bx.2.1 d_Rd_readOption_0 rfl (lv_at hl 0 rfl) ?_
  refine lv_iconst (v := 3) Bx.1 Bx.2.1 d_Rd_readOption_1 (by decide) ?_
  refine lv_aload_n Bx.1 Bx.2.1 d_Rd_readOption_2 rfl (lv_at hl 0 rfl) ?_
  refine f_get Bx hP (by omega) h9_3 rfl inRd 2 (by decide) kw_146 rfl rfl d_Rd_readOption_3 ?_
  refine f_xVr (na := 2) (As := [.int (3), .int (at1)]) (rest := []) Bx hml E hP hD hS (by omega) h9_3 rfl (m_Rd_addElement l hlt hn hT hRS) kw_419 kw_421 sel_Rd_addElement kw_6 kw_422 (by decide +kernel) ⟨rfl, rfl⟩ ⟨Nat.le_of_ble_eq_true rfl, Nat.le_of_ble_eq_true rfl⟩ rfl hl.1 (Nat.le_of_ble_eq_true rfl) d_Rd_readOption_6 ⟨Nat.le_of_ble_eq_true rfl, Nat.le_of_ble_eq_true rfl⟩ (fun X ce q9 memx H locs hx9 hP hS g1 g2 g3 => f_out hlocks hno hP hS g1 g2 g3 ⟨Nat.le_of_ble_eq_true rfl, Nat.le_of_ble_eq_true rfl⟩ hx9) (fun r13 mem14 H locs hq hP hS => ?_)
  have hD : va_D (Az sz) (fw n ad mem14) := fw_D hD
  obtain ⟨hr917, hec16, hRS15⟩ := hq
  subst hr917
  obtain ⟨at18, ft19, h9_20⟩ := hRS15.2.1
  have h1_21 : mem14 1 = .inr (0, [.ref (ad 2), .int (nI Z)]) := (hRS15.2.2 1 (by omega)).trans hT.1
  have h2_22 : mem14 2 = .inl (cy 0, 240, .inl f) := (hRS15.2.2 2 (by omega)).trans hT.2.2
  have h5_23 := hRS15.1.2.1
  have hbd29 := hRS15.1.1
  obtain ⟨S24, g25, hS_26, h220_27, h221_28⟩ := hRS15.1.2.2.2.2.2.2
  obtain ⟨k30, lo31, hi32, as33, pa34, ne35, he_36, ho_37⟩ := (hRS15.1.2.2.2.2.2.1 ec (by omega)).1
  refine lv_astore_n (lv' := [(2, .ref (ad (20 + 2 * ec))), (0, .ref (ad 222)), (1, .int (2))]) Bx.1 Bx.2.1 d_Rd_readOption_9 rfl hl (by decide) rfl (fun ls hl => ?_)
  refine lv_aload_n Bx.1 Bx.2.1 d_Rd_readOption_10 rfl (lv_at hl 0 rfl) ?_
  refine lv_aload_n Bx.1 Bx.2.1 d_Rd_readOption_11 rfl (lv_at hl 1 rfl) ?_
  refine lv_iload_n Bx.1 Bx.2.1 d_Rd_readOption_12 rfl (lv_at hl 2 rfl) ?_
  refine lv_bipush (v := 93) Bx.1 Bx.2.1 d_Rd_readOption_13 (by decide) ?_
  refine f_xVr (na := 2) (As := [.int (2), .int (93)]) (rest := [.ref (ad (20 + 2 * ec))]) Bx hml E hP hD hS (by omega) h9_20 rfl (m_Rd_readBracket_2 l hlt hn hT hRS15) kw_447 kw_449 sel_Rd_readBracket kw_6 kw_450 (by decide +kernel) ⟨rfl, rfl⟩ ⟨Nat.le_of_ble_eq_true rfl, Nat.le_of_ble_eq_true rfl⟩ rfl hl.1 (Nat.le_of_ble_eq_true rfl) d_Rd_readOption_15 ⟨Nat.le_of_ble_eq_true rfl, Nat.le_of_ble_eq_true rfl⟩ (fun X ce q9 memx H locs hx9 hP hS g1 g2 g3 => f_out hlocks hno hP hS g1 g2 g3 ⟨Nat.le_of_ble_eq_true rfl, Nat.le_of_ble_eq_true rfl⟩ hx9) (fun r38 mem39 H locs hq hP hS => ?_)
  have hD : va_D (Az sz) (fw n ad mem39) := fw_D hD
  obtain ⟨kx40, rc41, ec42, hr944, hb45, hb46, hb47, hRS43⟩ := hq
  subst hr944
  have hbd48 := hRS43.1.1
  obtain ⟨at49, ft50, h9_51⟩ := hRS43.2.1
  have h1_52 : mem39 1 = .inr (0, [.ref (ad 2), .int (nI Z)]) := (hRS43.2.2 1 (by omega)).trans hT.1
  have h2_53 : mem39 2 = .inl (cy 0, 240, .inl f) := (hRS43.2.2 2 (by omega)).trans hT.2.2
  have h5_54 := hRS43.1.2.1
  have hbd60 := hRS43.1.1
  obtain ⟨S55, g56, hS_57, h220_58, h221_59⟩ := hRS43.1.2.2.2.2.2.2
  obtain ⟨k61, lo62, hi63, as64, pa65, ne66, he_67, ho_68⟩ := (hRS43.1.2.2.2.2.2.1 ec (by omega)).1
  obtain ⟨k69, lo70, hi71, as72, pa73, ne74, he_75, ho_76⟩ := (hRS43.1.2.2.2.2.2.1 kx40 (by omega)).1
  refine f_putN Bx hP hD hS (by omega) he_67 rfl inEl tyEl okEl nmEl 4 (by decide) kw_87 rfl rfl rfl rfl (Nat.le_of_ble_eq_true rfl) d_Rd_readOption_18 (fun H locs hP hS => ?_)
  obtain ⟨mem77, e_mem77⟩ : ∃ z, z = va_up mem39 ((20 + 2 * ec)) (.inr (2, [.int (k61), .int (lo62), .int (hi63), as64, .ref (ad (20 + 2 * kx40)), ne66, .ref (ad (21 + 2 * ec))])) := ⟨_, rfl⟩
  have hP : va_P D vcl (fw n ad mem77) H := by rw [e_mem77]; exact hP
  have hD : va_D (Az sz) (fw n ad mem77) := fw_D hD
  have h_mem77 : mem77 ((20 + 2 * ec)) = .inr (2, [.int (k61), .int (lo62), .int (hi63), as64, .ref (ad (20 + 2 * kx40)), ne66, .ref (ad (21 + 2 * ec))]) := by rw [e_mem77, va_up_self]
  have hh78 := (va_up_ne mem39 (.inr (2, [.int (k61), .int (lo62), .int (hi63), as64, .ref (ad (20 + 2 * kx40)), ne66, .ref (ad (21 + 2 * ec))])) (show (222 : Nat) ≠ (20 + 2 * ec) by first | decide | assumption | omega)).trans h9_51
  rw [← e_mem77] at hh78
  have hh79 := (va_up_ne mem39 (.inr (2, [.int (k61), .int (lo62), .int (hi63), as64, .ref (ad (20 + 2 * kx40)), ne66, .ref (ad (21 + 2 * ec))])) (show (1 : Nat) ≠ (20 + 2 * ec) by first | decide | assumption | omega)).trans h1_52
  rw [← e_mem77] at hh79
  have hh80 := (va_up_ne mem39 (.inr (2, [.int (k61), .int (lo62), .int (hi63), as64, .ref (ad (20 + 2 * kx40)), ne66, .ref (ad (21 + 2 * ec))])) (show (5 : Nat) ≠ (20 + 2 * ec) by first | decide | assumption | omega)).trans h5_54
  rw [← e_mem77] at hh80
  have hh81 := (va_up_ne mem39 (.inr (2, [.int (k61), .int (lo62), .int (hi63), as64, .ref (ad (20 + 2 * kx40)), ne66, .ref (ad (21 + 2 * ec))])) (show (220 : Nat) ≠ (20 + 2 * ec) by first | decide | assumption | omega)).trans h220_58
  rw [← e_mem77] at hh81
  have hh82 := (va_up_ne mem39 (.inr (2, [.int (k61), .int (lo62), .int (hi63), as64, .ref (ad (20 + 2 * kx40)), ne66, .ref (ad (21 + 2 * ec))])) (show ((20 + 2 * kx40) : Nat) ≠ (20 + 2 * ec) by first | decide | assumption | omega)).trans he_75
  rw [← e_mem77] at hh82
  have hRS83 : RS cy ad lim rc41 ec42 m0 mem77 := by rw [e_mem77]; exact hRS43.mk (by omega) (hRS43.1.upEl (by omega) (fun q9 => ⟨(ho_68 q9).1, Or.inr ⟨kx40, by omega, by omega, rfl⟩, (ho_68 q9).2.2⟩))
  refine lv_aload_n Bx.1 Bx.2.1 d_Rd_readOption_21 rfl (lv_at hl 0 rfl) ?_
  exact x_aret hx hb hlocks hr (⟨ec, rc41, ec42, rfl, by omega, by omega, by omega, hRS83⟩) hP hS d_Rd_readOption_22
set_option maxHeartbeats 4000000 in
set_option maxRecDepth 100000 in
theorem m_Rd_readElement_2 (l : Launch) {D : va_G} {cy : Nat → ClassId} {sz n : Nat} {ad : Nat → Nat} {mem : Nat → va_E} {Z : Nat} {f : Nat → Int32} {lim rc ec : Nat} {m0 : Nat → va_E} (hlt : l.stackTraces = false) (hn : 224 ≤ n) (hT : TX cy ad Z f m0) (hRS : RS cy ad lim rc ec m0 mem) : NXr l D cy sz n ad y_Rd_readElement c_Rd_readElement 2 (some (.object "AbnfChart$Element")) ({ frames := 40, cells := 1, slots := 6, locals := 966 } : Room) mem [.ref (ad 222), .int (2)] (fun r mem' => ∃ k rc' ec' : Nat, r = ad (20 + 2 * k) ∧ ec ≤ k ∧ k < ec' ∧ rc ≤ rc' ∧ RS cy ad lim rc' ec' m0 mem') (fun X mem' => (X = cIA ∨ X = cIS) ∧ ∃ rc' ec' : Nat, RS cy ad lim rc' ec' m0 mem') := by
  refine vx_ofW (cc := c_Rd_readElement) (maxL := 2) (ret := (some (.object "AbnfChart$Element"))) (by decide) rfl ?_
  intro p e s m args below meth c s₁ B hml hno hv
  obtain ⟨rfl, E, hP, hD⟩ := hv
  have hx := B.exec
  have hb := B.bytes
  have hr := B.returns
  have hlocks := B.notSynchronized
  have Bx : MB p s m [.ref (ad 222), .int (2)].toArray c c_Rd_readElement "AbnfChart$Reader" D cy := ⟨hx, hb, tb_all (atoms_spec B.pre) E.2.1, findClass_of_methodNamed B.named, E.1⟩
  have hS : va_S (Az sz) s.heap s.heap [] := va_S.rf
  have hl := lv_entry ([.ref (ad 222), .int (2)]) (n := 2) (Nat.le_of_ble_eq_true rfl)
  rw [lg_entry_eq]
  generalize (lg_sl ([.ref (ad 222), .int (2)]) ++ List.replicate (2 - (lg_sl ([.ref (ad 222), .int (2)])).length) Slot.unset).toArray = ls at hl ⊢
  have hl : lv_has ls 2 [(0, .ref (ad 222)), (1, .int (2))] := hl
  obtain ⟨at1, ft2, h9_3⟩ := hRS.2.1
  have h1_4 : mem 1 = .inr (0, [.ref (ad 2), .int (nI Z)]) := (hRS.2.2 1 (by omega)).trans hT.1
  have h2_5 : mem 2 = .inl (cy 0, 240, .inl f) := (hRS.2.2 2 (by omega)).trans hT.2.2
  have h5_6 := hRS.1.2.1
  have hbd12 := hRS.1.1
  obtain ⟨S7, g8, hS_9, h220_10, h221_11⟩ := hRS.1.2.2.2.2.2.2
  refine lv_aload_n Bx.1 Bx.2.1 d_Rd_readElement_0 rfl (lv_at hl 0 rfl) ?_
  refine f_callVi (na := 0) (As := []) (rest := []) Bx hml E hP hD hS (by omega) h9_3 rfl (m_Rd_peek l hn hT hRS) kw_353 kw_355 sel_Rd_peek kw_6 kw_356 (by decide +kernel) ⟨rfl, rfl⟩ ⟨Nat.le_of_ble_eq_true rfl, Nat.le_of_ble_eq_true rfl⟩ rfl hl.1 (Nat.le_of_ble_eq_true rfl) d_Rd_readElement_1 ⟨Nat.le_of_ble_eq_true rfl, Nat.le_of_ble_eq_true rfl⟩ (fun r13 mem14 H locs hq hP hS => ?_)
  have hD : va_D (Az sz) (fw n ad mem14) := fw_D hD
  rw [hq] at hP hD
  refine lv_topi (fun v15 e_v15 => ?_)
  by_cases c34 : v15 = 34
  · rw [c34]
    refine lv_lookup (off := 58) (tgt := 62) Bx.1 Bx.2.1 d_Rd_readElement_4 (by decide) (by decide) rfl ?_
    refine lv_aload_n Bx.1 Bx.2.1 d_Rd_readElement_62 rfl (lv_at hl 0 rfl) ?_
    refine lv_aload_n Bx.1 Bx.2.1 d_Rd_readElement_63 rfl (lv_at hl 0 rfl) ?_
    refine f_get Bx hP (by omega) h9_3 rfl inRd 2 (by decide) kw_146 rfl rfl d_Rd_readElement_64 ?_
    refine lv_iconst (v := 5) Bx.1 Bx.2.1 d_Rd_readElement_67 (by decide) ?_
    refine f_xVr (na := 2) (As := [.int (at1), .int (5)]) (rest := []) Bx hml E hP hD hS (by omega) h9_3 rfl (m_Rd_readString l hlt hn hT hRS) kw_455 kw_457 sel_Rd_readString kw_6 kw_458 (by decide +kernel) ⟨rfl, rfl⟩ ⟨Nat.le_of_ble_eq_true rfl, Nat.le_of_ble_eq_true rfl⟩ rfl hl.1 (Nat.le_of_ble_eq_true rfl) d_Rd_readElement_68 ⟨Nat.le_of_ble_eq_true rfl, Nat.le_of_ble_eq_true rfl⟩ (fun X ce q9 memx H locs hx9 hP hS g1 g2 g3 => f_out hlocks hno hP hS g1 g2 g3 ⟨Nat.le_of_ble_eq_true rfl, Nat.le_of_ble_eq_true rfl⟩ hx9) (fun r16 mem17 H locs hq hP hS => ?_)
    have hD : va_D (Az sz) (fw n ad mem17) := fw_D hD
    obtain ⟨kx18, rc19, ec20, hr922, hb23, hb24, hb25, hRS21⟩ := hq
    subst hr922
    have hbd26 := hRS21.1.1
    obtain ⟨at27, ft28, h9_29⟩ := hRS21.2.1
    have h1_30 : mem17 1 = .inr (0, [.ref (ad 2), .int (nI Z)]) := (hRS21.2.2 1 (by omega)).trans hT.1
    have h2_31 : mem17 2 = .inl (cy 0, 240, .inl f) := (hRS21.2.2 2 (by omega)).trans hT.2.2
    have h5_32 := hRS21.1.2.1
    have hbd38 := hRS21.1.1
    obtain ⟨S33, g34, hS_35, h220_36, h221_37⟩ := hRS21.1.2.2.2.2.2.2
    obtain ⟨k39, lo40, hi41, as42, pa43, ne44, he_45, ho_46⟩ := (hRS21.1.2.2.2.2.2.1 kx18 (by omega)).1
    exact x_aret hx hb hlocks hr (⟨kx18, rc19, ec20, rfl, by omega, by omega, by omega, hRS21⟩) hP hS d_Rd_readElement_71
  by_cases c37 : v15 = 37
  · rw [c37]
    refine lv_lookup (off := 68) (tgt := 72) Bx.1 Bx.2.1 d_Rd_readElement_4 (by decide) (by decide) rfl ?_
    refine lv_aload_n Bx.1 Bx.2.1 d_Rd_readElement_72 rfl (lv_at hl 0 rfl) ?_
    refine f_get Bx hP (by omega) h9_3 rfl inRd 0 (by decide) kw_144 rfl rfl d_Rd_readElement_73 ?_
    refine lv_aload_n Bx.1 Bx.2.1 d_Rd_readElement_76 rfl (lv_at hl 0 rfl) ?_
    refine f_get Bx hP (by omega) h9_3 rfl inRd 2 (by decide) kw_146 rfl rfl d_Rd_readElement_77 ?_
    refine lv_iconst (v := 1) Bx.1 Bx.2.1 d_Rd_readElement_80 (by decide) ?_
    refine lv_iadd Bx.1 Bx.2.1 d_Rd_readElement_81 ?_
    refine f_callVi (na := 1) (As := [.int (at1 + 1)]) (rest := []) Bx hml E hP hD hS (by omega) h1_4 rfl (m_Ch_codeAt l (by omega) h1_4 (by omega) h2_5 (by rw [nI_toInt (by have := hT.2.1; omega)]; have := hT.2.1; omega)) kw_341 kw_342 kw_343 kw_2 kw_344 (by decide +kernel) ⟨rfl, rfl⟩ ⟨Nat.le_of_ble_eq_true rfl, Nat.le_of_ble_eq_true rfl⟩ rfl hl.1 (Nat.le_of_ble_eq_true rfl) d_Rd_readElement_82 ⟨Nat.le_of_ble_eq_true rfl, Nat.le_of_ble_eq_true rfl⟩ (fun r47 mem48 H locs hq hP hS => ?_)
    have hD : va_D (Az sz) (fw n ad mem48) := fw_D hD
    rw [hq.2] at hP hD
    refine f_callSNi (na := 1) (As := [.int (r47)]) (rest := []) Bx hml E.2.1 (m_Ab_smallOf l (r47)) kw_372 kw_373 kw_1 kw_374 (by decide +kernel) ⟨rfl, rfl⟩ ⟨Nat.le_of_ble_eq_true rfl, Nat.le_of_ble_eq_true rfl⟩ rfl hl.1 (Nat.le_of_ble_eq_true rfl) d_Rd_readElement_85 ⟨Nat.le_of_ble_eq_true rfl, Nat.le_of_ble_eq_true rfl⟩ (fun r50 hs49 => ?_)
    refine lv_bipush (v := 115) Bx.1 Bx.2.1 d_Rd_readElement_88 (by decide) ?_
    refine lv_icmp_ne Bx.1 Bx.2.1 d_Rd_readElement_90 rfl (fun h8 => ?_) (fun h8 => ?_)
    · refine lv_aload_n Bx.1 Bx.2.1 d_Rd_readElement_100 rfl (lv_at hl 0 rfl) ?_
      refine f_xVr (na := 0) (As := []) (rest := []) Bx hml E hP hD hS (by omega) h9_3 rfl (m_Rd_readValue l hlt hn hT hRS) kw_467 kw_469 sel_Rd_readValue kw_6 kw_470 (by decide +kernel) ⟨rfl, rfl⟩ ⟨Nat.le_of_ble_eq_true rfl, Nat.le_of_ble_eq_true rfl⟩ rfl hl.1 (Nat.le_of_ble_eq_true rfl) d_Rd_readElement_101 ⟨Nat.le_of_ble_eq_true rfl, Nat.le_of_ble_eq_true rfl⟩ (fun X ce q9 memx H locs hx9 hP hS g1 g2 g3 => f_out hlocks hno hP hS g1 g2 g3 ⟨Nat.le_of_ble_eq_true rfl, Nat.le_of_ble_eq_true rfl⟩ hx9) (fun r51 mem52 H locs hq hP hS => ?_)
      have hD : va_D (Az sz) (fw n ad mem52) := fw_D hD
      obtain ⟨kx53, rc54, ec55, hr957, hb58, hb59, hb60, hRS56⟩ := hq
      subst hr957
      have hbd61 := hRS56.1.1
      obtain ⟨at62, ft63, h9_64⟩ := hRS56.2.1
      have h1_65 : mem52 1 = .inr (0, [.ref (ad 2), .int (nI Z)]) := (hRS56.2.2 1 (by omega)).trans hT.1
      have h2_66 : mem52 2 = .inl (cy 0, 240, .inl f) := (hRS56.2.2 2 (by omega)).trans hT.2.2
      have h5_67 := hRS56.1.2.1
      have hbd73 := hRS56.1.1
      obtain ⟨S68, g69, hS_70, h220_71, h221_72⟩ := hRS56.1.2.2.2.2.2.2
      obtain ⟨k74, lo75, hi76, as77, pa78, ne79, he_80, ho_81⟩ := (hRS56.1.2.2.2.2.2.1 kx53 (by omega)).1
      exact x_aret hx hb hlocks hr (⟨kx53, rc54, ec55, rfl, by omega, by omega, by omega, hRS56⟩) hP hS d_Rd_readElement_104
    · refine lv_aload_n Bx.1 Bx.2.1 d_Rd_readElement_93 rfl (lv_at hl 0 rfl) ?_
      refine f_xVr (na := 0) (As := []) (rest := []) Bx hml E hP hD hS (by omega) h9_3 rfl (m_Rd_readExactString l hlt hn hT hRS) kw_463 kw_465 sel_Rd_readExactString kw_6 kw_466 (by decide +kernel) ⟨rfl, rfl⟩ ⟨Nat.le_of_ble_eq_true rfl, Nat.le_of_ble_eq_true rfl⟩ rfl hl.1 (Nat.le_of_ble_eq_true rfl) d_Rd_readElement_94 ⟨Nat.le_of_ble_eq_true rfl, Nat.le_of_ble_eq_true rfl⟩ (fun X ce q9 memx H locs hx9 hP hS g1 g2 g3 => f_out hlocks hno hP hS g1 g2 g3 ⟨Nat.le_of_ble_eq_true rfl, Nat.le_of_ble_eq_true rfl⟩ hx9) (fun r82 mem83 H locs hq hP hS => ?_)
      have hD : va_D (Az sz) (fw n ad mem83) := fw_D hD
      obtain ⟨kx84, rc85, ec86, hr988, hb89, hb90, hb91, hRS87⟩ := hq
      subst hr988
      have hbd92 := hRS87.1.1
      obtain ⟨at93, ft94, h9_95⟩ := hRS87.2.1
      have h1_96 : mem83 1 = .inr (0, [.ref (ad 2), .int (nI Z)]) := (hRS87.2.2 1 (by omega)).trans hT.1
      have h2_97 : mem83 2 = .inl (cy 0, 240, .inl f) := (hRS87.2.2 2 (by omega)).trans hT.2.2
      have h5_98 := hRS87.1.2.1
      have hbd104 := hRS87.1.1
      obtain ⟨S99, g100, hS_101, h220_102, h221_103⟩ := hRS87.1.2.2.2.2.2.2
      obtain ⟨k105, lo106, hi107, as108, pa109, ne110, he_111, ho_112⟩ := (hRS87.1.2.2.2.2.2.1 kx84 (by omega)).1
      refine lv_goto Bx.1 Bx.2.1 d_Rd_readElement_97 rfl ?_
      exact x_aret hx hb hlocks hr (⟨kx84, rc85, ec86, rfl, by omega, by omega, by omega, hRS87⟩) hP hS d_Rd_readElement_104
  by_cases c40 : v15 = 40
  · rw [c40]
    refine lv_lookup (off := 44) (tgt := 48) Bx.1 Bx.2.1 d_Rd_readElement_4 (by decide) (by decide) rfl ?_
    refine lv_aload_n Bx.1 Bx.2.1 d_Rd_readElement_48 rfl (lv_at hl 0 rfl) ?_
    refine lv_iload_n Bx.1 Bx.2.1 d_Rd_readElement_49 rfl (lv_at hl 1 rfl) ?_
    refine lv_bipush (v := 41) Bx.1 Bx.2.1 d_Rd_readElement_50 (by decide) ?_
    refine f_xVr (na := 2) (As := [.int (2), .int (41)]) (rest := []) Bx hml E hP hD hS (by omega) h9_3 rfl (m_Rd_readBracket_2 l hlt hn hT hRS) kw_447 kw_449 sel_Rd_readBracket kw_6 kw_450 (by decide +kernel) ⟨rfl, rfl⟩ ⟨Nat.le_of_ble_eq_true rfl, Nat.le_of_ble_eq_true rfl⟩ rfl hl.1 (Nat.le_of_ble_eq_true rfl) d_Rd_readElement_52 ⟨Nat.le_of_ble_eq_true rfl, Nat.le_of_ble_eq_true rfl⟩ (fun X ce q9 memx H locs hx9 hP hS g1 g2 g3 => f_out hlocks hno hP hS g1 g2 g3 ⟨Nat.le_of_ble_eq_true rfl, Nat.le_of_ble_eq_true rfl⟩ hx9) (fun r113 mem114 H locs hq hP hS => ?_)
    have hD : va_D (Az sz) (fw n ad mem114) := fw_D hD
    obtain ⟨kx115, rc116, ec117, hr9119, hb120, hb121, hb122, hRS118⟩ := hq
    subst hr9119
    have hbd123 := hRS118.1.1
    obtain ⟨at124, ft125, h9_126⟩ := hRS118.2.1
    have h1_127 : mem114 1 = .inr (0, [.ref (ad 2), .int (nI Z)]) := (hRS118.2.2 1 (by omega)).trans hT.1
    have h2_128 : mem114 2 = .inl (cy 0, 240, .inl f) := (hRS118.2.2 2 (by omega)).trans hT.2.2
    have h5_129 := hRS118.1.2.1
    have hbd135 := hRS118.1.1
    obtain ⟨S130, g131, hS_132, h220_133, h221_134⟩ := hRS118.1.2.2.2.2.2.2
    obtain ⟨k136, lo137, hi138, as139, pa140, ne141, he_142, ho_143⟩ := (hRS118.1.2.2.2.2.2.1 kx115 (by omega)).1
    exact x_aret hx hb hlocks hr (⟨kx115, rc116, ec117, rfl, by omega, by omega, by omega, hRS118⟩) hP hS d_Rd_readElement_55
  by_cases c91 : v15 = 91
  · rw [c91]
    refine lv_lookup (off := 52) (tgt := 56) Bx.1 Bx.2.1 d_Rd_readElement_4 (by decide) (by decide) rfl ?_
    refine lv_aload_n Bx.1 Bx.2.1 d_Rd_readElement_56 rfl (lv_at hl 0 rfl) ?_
    refine lv_iload_n Bx.1 Bx.2.1 d_Rd_readElement_57 rfl (lv_at hl 1 rfl) ?_
    refine f_xVr (na := 1) (As := [.int (2)]) (rest := []) Bx hml E hP hD hS (by omega) h9_3 rfl (m_Rd_readOption_2 l hlt hn hT hRS) kw_451 kw_453 sel_Rd_readOption kw_6 kw_454 (by decide +kernel) ⟨rfl, rfl⟩ ⟨Nat.le_of_ble_eq_true rfl, Nat.le_of_ble_eq_true rfl⟩ rfl hl.1 (Nat.le_of_ble_eq_true rfl) d_Rd_readElement_58 ⟨Nat.le_of_ble_eq_true rfl, Nat.le_of_ble_eq_true rfl⟩ (fun X ce q9 memx H locs hx9 hP hS g1 g2 g3 => f_out hlocks hno hP hS g1 g2 g3 ⟨Nat.le_of_ble_eq_true rfl, Nat.le_of_ble_eq_true rfl⟩ hx9) (fun r144 mem145 H locs hq hP hS => ?_)
    have hD : va_D (Az sz) (fw n ad mem145) := fw_D hD
    obtain ⟨kx146, rc147, ec148, hr9150, hb151, hb152, hb153, hRS149⟩ := hq
    subst hr9150
    have hbd154 := hRS149.1.1
    obtain ⟨at155, ft156, h9_157⟩ := hRS149.2.1
    have h1_158 : mem145 1 = .inr (0, [.ref (ad 2), .int (nI Z)]) := (hRS149.2.2 1 (by omega)).trans hT.1
    have h2_159 : mem145 2 = .inl (cy 0, 240, .inl f) := (hRS149.2.2 2 (by omega)).trans hT.2.2
    have h5_160 := hRS149.1.2.1
    have hbd166 := hRS149.1.1
    obtain ⟨S161, g162, hS_163, h220_164, h221_165⟩ := hRS149.1.2.2.2.2.2.2
    obtain ⟨k167, lo168, hi169, as170, pa171, ne172, he_173, ho_174⟩ := (hRS149.1.2.2.2.2.2.1 kx146 (by omega)).1
    exact x_aret hx hb hlocks hr (⟨kx146, rc147, ec148, rfl, by omega, by omega, by omega, hRS149⟩) hP hS d_Rd_readElement_61
  refine lv_lookup (off := 101) (tgt := 105) Bx.1 Bx.2.1 d_Rd_readElement_4 (by decide) (by show Op.lookupswitch.offset [(34, 58), (37, 68), (40, 44), (91, 52)] 101 (v15).toInt = 101; rw [lv_osw c34 (by decide), lv_osw c37 (by decide), lv_osw c40 (by decide), lv_osw c91 (by decide)]; rfl) rfl ?_
  refine lv_aload_n Bx.1 Bx.2.1 d_Rd_readElement_105 rfl (lv_at hl 0 rfl) ?_
  refine f_xVr (na := 0) (As := []) (rest := []) Bx hml E hP hD hS (by omega) h9_3 rfl (m_Rd_readAskedName l hlt hn hT hRS) kw_478 kw_480 sel_Rd_readAskedName kw_6 kw_481 (by decide +kernel) ⟨rfl, rfl⟩ ⟨Nat.le_of_ble_eq_true rfl, Nat.le_of_ble_eq_true rfl⟩ rfl hl.1 (Nat.le_of_ble_eq_true rfl) d_Rd_readElement_106 ⟨Nat.le_of_ble_eq_true rfl, Nat.le_of_ble_eq_true rfl⟩ (fun X ce q9 memx H locs hx9 hP hS g1 g2 g3 => f_out hlocks hno hP hS g1 g2 g3 ⟨Nat.le_of_ble_eq_true rfl, Nat.le_of_ble_eq_true rfl⟩ hx9) (fun r175 mem176 H locs hq hP hS => ?_)
  have hD : va_D (Az sz) (fw n ad mem176) := fw_D hD
  obtain ⟨kx177, rc178, ec179, hr9181, hb182, hb183, hb184, hRS180⟩ := hq
  subst hr9181
  have hbd185 := hRS180.1.1
  obtain ⟨at186, ft187, h9_188⟩ := hRS180.2.1
  have h1_189 : mem176 1 = .inr (0, [.ref (ad 2), .int (nI Z)]) := (hRS180.2.2 1 (by omega)).trans hT.1
  have h2_190 : mem176 2 = .inl (cy 0, 240, .inl f) := (hRS180.2.2 2 (by omega)).trans hT.2.2
  have h5_191 := hRS180.1.2.1
  have hbd197 := hRS180.1.1
  obtain ⟨S192, g193, hS_194, h220_195, h221_196⟩ := hRS180.1.2.2.2.2.2.2
  obtain ⟨k198, lo199, hi200, as201, pa202, ne203, he_204, ho_205⟩ := (hRS180.1.2.2.2.2.2.1 kx177 (by omega)).1
  exact x_aret hx hb hlocks hr (⟨kx177, rc178, ec179, rfl, by omega, by omega, by omega, hRS180⟩) hP hS d_Rd_readElement_109
set_option maxHeartbeats 4000000 in
set_option maxRecDepth 100000 in
theorem m_Rd_readRepetition_2 (l : Launch) {D : va_G} {cy : Nat → ClassId} {sz n : Nat} {ad : Nat → Nat} {mem : Nat → va_E} {Z : Nat} {f : Nat → Int32} {lim rc ec : Nat} {m0 : Nat → va_E} (hlt : l.stackTraces = false) (hn : 224 ≤ n) (hT : TX cy ad Z f m0) (hRS : RS cy ad lim rc ec m0 mem) : NXr l D cy sz n ad y_Rd_readRepetition c_Rd_readRepetition 3 (some (.object "AbnfChart$Element")) ({ frames := 41, cells := 1, slots := 6, locals := 988 } : Room) mem [.ref (ad 222), .int (2)] (fun r mem' => ∃ k rc' ec' : Nat, r = ad (20 + 2 * k) ∧ ec ≤ k ∧ k < ec' ∧ rc ≤ rc' ∧ RS cy ad lim rc' ec' m0 mem') (fun X mem' => (X = cIA ∨ X = cIS) ∧ ∃ rc' ec' : Nat, RS cy ad lim rc' ec' m0 mem') := by
  refine vx_ofW (cc := c_Rd_readRepetition) (maxL := 3) (ret := (some (.object "AbnfChart$Element"))) (by decide) rfl ?_
  intro p e s m args below meth c s₁ B hml hno hv
  obtain ⟨rfl, E, hP, hD⟩ := hv
  have hx := B.exec
  have hb := B.bytes
  have hr := B.returns
  have hlocks := B.notSynchronized
  have Bx : MB p s m [.ref (ad 222), .int (2)].toArray c c_Rd_readRepetition "AbnfChart$Reader" D cy := ⟨hx, hb, tb_all (atoms_spec B.pre) E.2.1, findClass_of_methodNamed B.named, E.1⟩
  have hS : va_S (Az sz) s.heap s.heap [] := va_S.rf
  have hl := lv_entry ([.ref (ad 222), .int (2)]) (n := 3) (Nat.le_of_ble_eq_true rfl)
  rw [lg_entry_eq]
  generalize (lg_sl ([.ref (ad 222), .int (2)]) ++ List.replicate (3 - (lg_sl ([.ref (ad 222), .int (2)])).length) Slot.unset).toArray = ls at hl ⊢
  have hl : lv_has ls 3 [(0, .ref (ad 222)), (1, .int (2))] := hl
  obtain ⟨at1, ft2, h9_3⟩ := hRS.2.1
  have h1_4 : mem 1 = .inr (0, [.ref (ad 2), .int (nI Z)]) := (hRS.2.2 1 (by omega)).trans hT.1
  have h2_5 : mem 2 = .inl (cy 0, 240, .inl f) := (hRS.2.2 2 (by omega)).trans hT.2.2
  have h5_6 := hRS.1.2.1
  have hbd12 := hRS.1.1
  obtain ⟨S7, g8, hS_9, h220_10, h221_11⟩ := hRS.1.2.2.2.2.2.2
  refine lv_aload_n Bx.1 Bx.2.1 d_Rd_readRepetition_0 rfl (lv_at hl 0 rfl) ?_
  refine f_callVi (na := 0) (As := []) (rest := []) Bx hml E hP hD hS (by omega) h9_3 rfl (m_Rd_peek l hn hT hRS) kw_353 kw_355 sel_Rd_peek kw_6 kw_356 (by decide +kernel) ⟨rfl, rfl⟩ ⟨Nat.le_of_ble_eq_true rfl, Nat.le_of_ble_eq_true rfl⟩ rfl hl.1 (Nat.le_of_ble_eq_true rfl) d_Rd_readRepetition_1 ⟨Nat.le_of_ble_eq_true rfl, Nat.le_of_ble_eq_true rfl⟩ (fun r13 mem14 H locs hq hP hS => ?_)
  have hD : va_D (Az sz) (fw n ad mem14) := fw_D hD
  rw [hq] at hP hD
  refine f_callSi (na := 1) (As := [.int (r13)]) (rest := []) Bx hml E.2.1 (m_Rd_beginsRepeat l (r13)) kw_416 kw_417 kw_6 kw_418 (by decide +kernel) ⟨rfl, rfl⟩ ⟨Nat.le_of_ble_eq_true rfl, Nat.le_of_ble_eq_true rfl⟩ rfl hl.1 (Nat.le_of_ble_eq_true rfl) d_Rd_readRepetition_4 ⟨Nat.le_of_ble_eq_true rfl, Nat.le_of_ble_eq_true rfl⟩ (fun r16 hs15 => ?_)
  refine lv_if_ne Bx.1 Bx.2.1 d_Rd_readRepetition_7 rfl (fun h8 => ?_) (fun h8 => ?_)
  · refine lv_aload_n Bx.1 Bx.2.1 d_Rd_readRepetition_16 rfl (lv_at hl 0 rfl) ?_
    refine lv_iconst (v := 2) Bx.1 Bx.2.1 d_Rd_readRepetition_17 (by decide) ?_
    refine lv_aload_n Bx.1 Bx.2.1 d_Rd_readRepetition_18 rfl (lv_at hl 0 rfl) ?_
    refine f_get Bx hP (by omega) h9_3 rfl inRd 2 (by decide) kw_146 rfl rfl d_Rd_readRepetition_19 ?_
    refine f_xVr (na := 2) (As := [.int (2), .int (at1)]) (rest := []) Bx hml E hP hD hS (by omega) h9_3 rfl (m_Rd_addElement l hlt hn hT hRS) kw_419 kw_421 sel_Rd_addElement kw_6 kw_422 (by decide +kernel) ⟨rfl, rfl⟩ ⟨Nat.le_of_ble_eq_true rfl, Nat.le_of_ble_eq_true rfl⟩ rfl hl.1 (Nat.le_of_ble_eq_true rfl) d_Rd_readRepetition_22 ⟨Nat.le_of_ble_eq_true rfl, Nat.le_of_ble_eq_true rfl⟩ (fun X ce q9 memx H locs hx9 hP hS g1 g2 g3 => f_out hlocks hno hP hS g1 g2 g3 ⟨Nat.le_of_ble_eq_true rfl, Nat.le_of_ble_eq_true rfl⟩ hx9) (fun r17 mem18 H locs hq hP hS => ?_)
    have hD : va_D (Az sz) (fw n ad mem18) := fw_D hD
    obtain ⟨hr921, hec20, hRS19⟩ := hq
    subst hr921
    obtain ⟨at22, ft23, h9_24⟩ := hRS19.2.1
    have h1_25 : mem18 1 = .inr (0, [.ref (ad 2), .int (nI Z)]) := (hRS19.2.2 1 (by omega)).trans hT.1
    have h2_26 : mem18 2 = .inl (cy 0, 240, .inl f) := (hRS19.2.2 2 (by omega)).trans hT.2.2
    have h5_27 := hRS19.1.2.1
    have hbd33 := hRS19.1.1
    obtain ⟨S28, g29, hS_30, h220_31, h221_32⟩ := hRS19.1.2.2.2.2.2.2
    obtain ⟨k34, lo35, hi36, as37, pa38, ne39, he_40, ho_41⟩ := (hRS19.1.2.2.2.2.2.1 ec (by omega)).1
    refine lv_astore_n (lv' := [(2, .ref (ad (20 + 2 * ec))), (0, .ref (ad 222)), (1, .int (2))]) Bx.1 Bx.2.1 d_Rd_readRepetition_25 rfl hl (by decide) rfl (fun ls hl => ?_)
    refine lv_aload_n Bx.1 Bx.2.1 d_Rd_readRepetition_26 rfl (lv_at hl 1 rfl) ?_
    refine lv_aload_n Bx.1 Bx.2.1 d_Rd_readRepetition_27 rfl (lv_at hl 0 rfl) ?_
    refine f_xVv (na := 1) (As := [.ref (ad (20 + 2 * ec))]) (rest := []) Bx hml E hP hD hS (by omega) h9_24 rfl (m_Rd_readRepeat l hlt hn hT hRS19 (by omega)) kw_482 kw_484 sel_Rd_readRepeat kw_6 kw_485 (by decide +kernel) ⟨rfl, rfl⟩ ⟨Nat.le_of_ble_eq_true rfl, Nat.le_of_ble_eq_true rfl⟩ rfl hl.1 (Nat.le_of_ble_eq_true rfl) d_Rd_readRepetition_28 ⟨Nat.le_of_ble_eq_true rfl, Nat.le_of_ble_eq_true rfl⟩ (fun X ce q9 memx H locs hx9 hP hS g1 g2 g3 => f_out hlocks hno hP hS g1 g2 g3 ⟨Nat.le_of_ble_eq_true rfl, Nat.le_of_ble_eq_true rfl⟩ hx9) (fun mem44 H locs hRS42 hP hS => ?_)
    have hD : va_D (Az sz) (fw n ad mem44) := fw_D hD
    obtain ⟨at45, ft46, h9_47⟩ := hRS42.2.1
    have h1_48 : mem44 1 = .inr (0, [.ref (ad 2), .int (nI Z)]) := (hRS42.2.2 1 (by omega)).trans hT.1
    have h2_49 : mem44 2 = .inl (cy 0, 240, .inl f) := (hRS42.2.2 2 (by omega)).trans hT.2.2
    have h5_50 := hRS42.1.2.1
    have hbd56 := hRS42.1.1
    obtain ⟨S51, g52, hS_53, h220_54, h221_55⟩ := hRS42.1.2.2.2.2.2.2
    obtain ⟨k57, lo58, hi59, as60, pa61, ne62, he_63, ho_64⟩ := (hRS42.1.2.2.2.2.2.1 ec (by omega)).1
    refine lv_aload_n Bx.1 Bx.2.1 d_Rd_readRepetition_31 rfl (lv_at hl 0 rfl) ?_
    refine lv_aload_n Bx.1 Bx.2.1 d_Rd_readRepetition_32 rfl (lv_at hl 1 rfl) ?_
    refine lv_iload_n Bx.1 Bx.2.1 d_Rd_readRepetition_33 rfl (lv_at hl 2 rfl) ?_
    refine f_xVr (na := 1) (As := [.int (2)]) (rest := [.ref (ad (20 + 2 * ec))]) Bx hml E hP hD hS (by omega) h9_47 rfl (m_Rd_readElement_2 l hlt hn hT hRS42) kw_443 kw_445 sel_Rd_readElement kw_6 kw_446 (by decide +kernel) ⟨rfl, rfl⟩ ⟨Nat.le_of_ble_eq_true rfl, Nat.le_of_ble_eq_true rfl⟩ rfl hl.1 (Nat.le_of_ble_eq_true rfl) d_Rd_readRepetition_34 ⟨Nat.le_of_ble_eq_true rfl, Nat.le_of_ble_eq_true rfl⟩ (fun X ce q9 memx H locs hx9 hP hS g1 g2 g3 => f_out hlocks hno hP hS g1 g2 g3 ⟨Nat.le_of_ble_eq_true rfl, Nat.le_of_ble_eq_true rfl⟩ hx9) (fun r65 mem66 H locs hq hP hS => ?_)
    have hD : va_D (Az sz) (fw n ad mem66) := fw_D hD
    obtain ⟨kx67, rc68, ec69, hr971, hb72, hb73, hb74, hRS70⟩ := hq
    subst hr971
    have hbd75 := hRS70.1.1
    obtain ⟨at76, ft77, h9_78⟩ := hRS70.2.1
    have h1_79 : mem66 1 = .inr (0, [.ref (ad 2), .int (nI Z)]) := (hRS70.2.2 1 (by omega)).trans hT.1
    have h2_80 : mem66 2 = .inl (cy 0, 240, .inl f) := (hRS70.2.2 2 (by omega)).trans hT.2.2
    have h5_81 := hRS70.1.2.1
    have hbd87 := hRS70.1.1
    obtain ⟨S82, g83, hS_84, h220_85, h221_86⟩ := hRS70.1.2.2.2.2.2.2
    obtain ⟨k88, lo89, hi90, as91, pa92, ne93, he_94, ho_95⟩ := (hRS70.1.2.2.2.2.2.1 ec (by omega)).1
    obtain ⟨k96, lo97, hi98, as99, pa100, ne101, he_102, ho_103⟩ := (hRS70.1.2.2.2.2.2.1 kx67 (by omega)).1
    refine f_putN Bx hP hD hS (by omega) he_94 rfl inEl tyEl okEl nmEl 4 (by decide) kw_87 rfl rfl rfl rfl (Nat.le_of_ble_eq_true rfl) d_Rd_readRepetition_37 (fun H locs hP hS => ?_)
    obtain ⟨mem104, e_mem104⟩ : ∃ z, z = va_up mem66 ((20 + 2 * ec)) (.inr (2, [.int (k88), .int (lo89), .int (hi90), as91, .ref (ad (20 + 2 * kx67)), ne93, .ref (ad (21 + 2 * ec))])) := ⟨_, rfl⟩
    have hP : va_P D vcl (fw n ad mem104) H := by rw [e_mem104]; exact hP
    have hD : va_D (Az sz) (fw n ad mem104) := fw_D hD
    have h_mem104 : mem104 ((20 + 2 * ec)) = .inr (2, [.int (k88), .int (lo89), .int (hi90), as91, .ref (ad (20 + 2 * kx67)), ne93, .ref (ad (21 + 2 * ec))]) := by rw [e_mem104, va_up_self]
    have hh105 := (va_up_ne mem66 (.inr (2, [.int (k88), .int (lo89), .int (hi90), as91, .ref (ad (20 + 2 * kx67)), ne93, .ref (ad (21 + 2 * ec))])) (show (222 : Nat) ≠ (20 + 2 * ec) by first | decide | assumption | omega)).trans h9_78
    rw [← e_mem104] at hh105
    have hh106 := (va_up_ne mem66 (.inr (2, [.int (k88), .int (lo89), .int (hi90), as91, .ref (ad (20 + 2 * kx67)), ne93, .ref (ad (21 + 2 * ec))])) (show (1 : Nat) ≠ (20 + 2 * ec) by first | decide | assumption | omega)).trans h1_79
    rw [← e_mem104] at hh106
    have hh107 := (va_up_ne mem66 (.inr (2, [.int (k88), .int (lo89), .int (hi90), as91, .ref (ad (20 + 2 * kx67)), ne93, .ref (ad (21 + 2 * ec))])) (show (5 : Nat) ≠ (20 + 2 * ec) by first | decide | assumption | omega)).trans h5_81
    rw [← e_mem104] at hh107
    have hh108 := (va_up_ne mem66 (.inr (2, [.int (k88), .int (lo89), .int (hi90), as91, .ref (ad (20 + 2 * kx67)), ne93, .ref (ad (21 + 2 * ec))])) (show (220 : Nat) ≠ (20 + 2 * ec) by first | decide | assumption | omega)).trans h220_85
    rw [← e_mem104] at hh108
    have hh109 := (va_up_ne mem66 (.inr (2, [.int (k88), .int (lo89), .int (hi90), as91, .ref (ad (20 + 2 * kx67)), ne93, .ref (ad (21 + 2 * ec))])) (show ((20 + 2 * kx67) : Nat) ≠ (20 + 2 * ec) by first | decide | assumption | omega)).trans he_102
    rw [← e_mem104] at hh109
    have hRS110 : RS cy ad lim rc68 ec69 m0 mem104 := by rw [e_mem104]; exact hRS70.mk (by omega) (hRS70.1.upEl (by omega) (fun q9 => ⟨(ho_95 q9).1, Or.inr ⟨kx67, by omega, by omega, rfl⟩, (ho_95 q9).2.2⟩))
    refine lv_aload_n Bx.1 Bx.2.1 d_Rd_readRepetition_40 rfl (lv_at hl 0 rfl) ?_
    exact x_aret hx hb hlocks hr (⟨ec, rc68, ec69, rfl, by omega, by omega, by omega, hRS110⟩) hP hS d_Rd_readRepetition_41
  · refine lv_aload_n Bx.1 Bx.2.1 d_Rd_readRepetition_10 rfl (lv_at hl 0 rfl) ?_
    refine lv_iload_n Bx.1 Bx.2.1 d_Rd_readRepetition_11 rfl (lv_at hl 1 rfl) ?_
    refine f_xVr (na := 1) (As := [.int (2)]) (rest := []) Bx hml E hP hD hS (by omega) h9_3 rfl (m_Rd_readElement_2 l hlt hn hT hRS) kw_443 kw_445 sel_Rd_readElement kw_6 kw_446 (by decide +kernel) ⟨rfl, rfl⟩ ⟨Nat.le_of_ble_eq_true rfl, Nat.le_of_ble_eq_true rfl⟩ rfl hl.1 (Nat.le_of_ble_eq_true rfl) d_Rd_readRepetition_12 ⟨Nat.le_of_ble_eq_true rfl, Nat.le_of_ble_eq_true rfl⟩ (fun X ce q9 memx H locs hx9 hP hS g1 g2 g3 => f_out hlocks hno hP hS g1 g2 g3 ⟨Nat.le_of_ble_eq_true rfl, Nat.le_of_ble_eq_true rfl⟩ hx9) (fun r111 mem112 H locs hq hP hS => ?_)
    have hD : va_D (Az sz) (fw n ad mem112) := fw_D hD
    obtain ⟨kx113, rc114, ec115, hr9117, hb118, hb119, hb120, hRS116⟩ := hq
    subst hr9117
    have hbd121 := hRS116.1.1
    obtain ⟨at122, ft123, h9_124⟩ := hRS116.2.1
    have h1_125 : mem112 1 = .inr (0, [.ref (ad 2), .int (nI Z)]) := (hRS116.2.2 1 (by omega)).trans hT.1
    have h2_126 : mem112 2 = .inl (cy 0, 240, .inl f) := (hRS116.2.2 2 (by omega)).trans hT.2.2
    have h5_127 := hRS116.1.2.1
    have hbd133 := hRS116.1.1
    obtain ⟨S128, g129, hS_130, h220_131, h221_132⟩ := hRS116.1.2.2.2.2.2.2
    obtain ⟨k134, lo135, hi136, as137, pa138, ne139, he_140, ho_141⟩ := (hRS116.1.2.2.2.2.2.1 kx113 (by omega)).1
    exact x_aret hx hb hlocks hr (⟨kx113, rc114, ec115, rfl, by omega, by omega, by omega, hRS116⟩) hP hS d_Rd_readRepetition_15
set_option maxHeartbeats 4000000 in
set_option maxRecDepth 100000 in
theorem m_Rd_readSequence_2 (l : Launch) {D : va_G} {cy : Nat → ClassId} {sz n : Nat} {ad : Nat → Nat} {mem : Nat → va_E} {Z : Nat} {f : Nat → Int32} {lim rc ec : Nat} {m0 : Nat → va_E} (hlt : l.stackTraces = false) (hn : 224 ≤ n) (hT : TX cy ad Z f m0) (hRS : RS cy ad lim rc ec m0 mem) : NXr l D cy sz n ad y_Rd_readSequence c_Rd_readSequence 5 (some (.object "AbnfChart$Element")) ({ frames := 42, cells := 1, slots := 6, locals := 1012 } : Room) mem [.ref (ad 222), .int (2)] (fun r mem' => ∃ k rc' ec' : Nat, r = ad (20 + 2 * k) ∧ ec ≤ k ∧ k < ec' ∧ rc ≤ rc' ∧ RS cy ad lim rc' ec' m0 mem') (fun X mem' => (X = cIA ∨ X = cIS) ∧ ∃ rc' ec' : Nat, RS cy ad lim rc' ec' m0 mem') := by
  refine vx_ofW (cc := c_Rd_readSequence) (maxL := 5) (ret := (some (.object "AbnfChart$Element"))) (by decide) rfl ?_
  intro p e s m args below meth c s₁ B hml hno hv
  obtain ⟨rfl, E, hP, hD⟩ := hv
  have hx := B.exec
  have hb := B.bytes
  have hr := B.returns
  have hlocks := B.notSynchronized
  have Bx : MB p s m [.ref (ad 222), .int (2)].toArray c c_Rd_readSequence "AbnfChart$Reader" D cy := ⟨hx, hb, tb_all (atoms_spec B.pre) E.2.1, findClass_of_methodNamed B.named, E.1⟩
  have hS : va_S (Az sz) s.heap s.heap [] := va_S.rf
  have hl := lv_entry ([.ref (ad 222), .int (2)]) (n := 5) (Nat.le_of_ble_eq_true rfl)
  rw [lg_entry_eq]
  generalize (lg_sl ([.ref (ad 222), .int (2)]) ++ List.replicate (5 - (lg_sl ([.ref (ad 222), .int (2)])).length) Slot.unset).toArray = ls at hl ⊢
  have hl : lv_has ls 5 [(0, .ref (ad 222)), (1, .int (2))] := hl
  obtain ⟨at1, ft2, h9_3⟩ := hRS.2.1
  have h1_4 : mem 1 = .inr (0, [.ref (ad 2), .int (nI Z)]) := (hRS.2.2 1 (by omega)).trans hT.1
  have h2_5 : mem 2 = .inl (cy 0, 240, .inl f) := (hRS.2.2 2 (by omega)).trans hT.2.2
  have h5_6 := hRS.1.2.1
  have hbd12 := hRS.1.1
  obtain ⟨S7, g8, hS_9, h220_10, h221_11⟩ := hRS.1.2.2.2.2.2.2
  refine lv_aload_n Bx.1 Bx.2.1 d_Rd_readSequence_0 rfl (lv_at hl 0 rfl) ?_
  refine lv_iconst (v := 1) Bx.1 Bx.2.1 d_Rd_readSequence_1 (by decide) ?_
  refine f_xVr (na := 1) (As := [.int (1)]) (rest := []) Bx hml E hP hD hS (by omega) h9_3 rfl (m_Rd_beginRow l hlt hn hT hRS) kw_409 kw_411 sel_Rd_beginRow kw_6 kw_412 (by decide +kernel) ⟨rfl, rfl⟩ ⟨Nat.le_of_ble_eq_true rfl, Nat.le_of_ble_eq_true rfl⟩ rfl hl.1 (Nat.le_of_ble_eq_true rfl) d_Rd_readSequence_2 ⟨Nat.le_of_ble_eq_true rfl, Nat.le_of_ble_eq_true rfl⟩ (fun X ce q9 memx H locs hx9 hP hS g1 g2 g3 => f_out hlocks hno hP hS g1 g2 g3 ⟨Nat.le_of_ble_eq_true rfl, Nat.le_of_ble_eq_true rfl⟩ hx9) (fun r13 mem14 H locs hq hP hS => ?_)
  have hD : va_D (Az sz) (fw n ad mem14) := fw_D hD
  obtain ⟨kx15, rc16, ec17, hr919, hb20, hb21, hb22, hRS18⟩ := hq
  subst hr919
  have hbd23 := hRS18.1.1
  obtain ⟨at24, ft25, h9_26⟩ := hRS18.2.1
  have h1_27 : mem14 1 = .inr (0, [.ref (ad 2), .int (nI Z)]) := (hRS18.2.2 1 (by omega)).trans hT.1
  have h2_28 : mem14 2 = .inl (cy 0, 240, .inl f) := (hRS18.2.2 2 (by omega)).trans hT.2.2
  have h5_29 := hRS18.1.2.1
  have hbd35 := hRS18.1.1
  obtain ⟨S30, g31, hS_32, h220_33, h221_34⟩ := hRS18.1.2.2.2.2.2.2
  obtain ⟨k36, lo37, hi38, as39, pa40, ne41, he_42, ho_43⟩ := (hRS18.1.2.2.2.2.2.1 kx15 (by omega)).1
  refine lv_astore_n (lv' := [(2, .ref (ad (20 + 2 * kx15))), (0, .ref (ad 222)), (1, .int (2))]) Bx.1 Bx.2.1 d_Rd_readSequence_5 rfl hl (by decide) rfl (fun ls hl => ?_)
  refine lv_aload_n Bx.1 Bx.2.1 d_Rd_readSequence_6 rfl (lv_at hl 1 rfl) ?_
  refine lv_iload_n Bx.1 Bx.2.1 d_Rd_readSequence_7 rfl (lv_at hl 2 rfl) ?_
  refine f_xVr (na := 1) (As := [.int (2)]) (rest := []) Bx hml E hP hD hS (by omega) h9_26 rfl (m_Rd_readRepetition_2 l hlt hn hT hRS18) kw_439 kw_441 sel_Rd_readRepetition kw_6 kw_442 (by decide +kernel) ⟨rfl, rfl⟩ ⟨Nat.le_of_ble_eq_true rfl, Nat.le_of_ble_eq_true rfl⟩ rfl hl.1 (Nat.le_of_ble_eq_true rfl) d_Rd_readSequence_8 ⟨Nat.le_of_ble_eq_true rfl, Nat.le_of_ble_eq_true rfl⟩ (fun X ce q9 memx H locs hx9 hP hS g1 g2 g3 => f_out hlocks hno hP hS g1 g2 g3 ⟨Nat.le_of_ble_eq_true rfl, Nat.le_of_ble_eq_true rfl⟩ hx9) (fun r44 mem45 H locs hq hP hS => ?_)
  have hD : va_D (Az sz) (fw n ad mem45) := fw_D hD
  obtain ⟨kx46, rc47, ec48, hr950, hb51, hb52, hb53, hRS49⟩ := hq
  subst hr950
  have hbd54 := hRS49.1.1
  obtain ⟨at55, ft56, h9_57⟩ := hRS49.2.1
  have h1_58 : mem45 1 = .inr (0, [.ref (ad 2), .int (nI Z)]) := (hRS49.2.2 1 (by omega)).trans hT.1
  have h2_59 : mem45 2 = .inl (cy 0, 240, .inl f) := (hRS49.2.2 2 (by omega)).trans hT.2.2
  have h5_60 := hRS49.1.2.1
  have hbd66 := hRS49.1.1
  obtain ⟨S61, g62, hS_63, h220_64, h221_65⟩ := hRS49.1.2.2.2.2.2.2
  obtain ⟨k67, lo68, hi69, as70, pa71, ne72, he_73, ho_74⟩ := (hRS49.1.2.2.2.2.2.1 kx15 (by omega)).1
  obtain ⟨k75, lo76, hi77, as78, pa79, ne80, he_81, ho_82⟩ := (hRS49.1.2.2.2.2.2.1 kx46 (by omega)).1
  refine lv_astore_n (lv' := [(3, .ref (ad (20 + 2 * kx46))), (2, .ref (ad (20 + 2 * kx15))), (0, .ref (ad 222)), (1, .int (2))]) Bx.1 Bx.2.1 d_Rd_readSequence_11 rfl hl (by decide) rfl (fun ls hl => ?_)
  refine lv_aload_n Bx.1 Bx.2.1 d_Rd_readSequence_12 rfl (lv_at hl 1 rfl) ?_
  refine lv_aload_n Bx.1 Bx.2.1 d_Rd_readSequence_13 rfl (lv_at hl 0 rfl) ?_
  refine f_putN Bx hP hD hS (by omega) he_73 rfl inEl tyEl okEl nmEl 4 (by decide) kw_87 rfl rfl rfl rfl (Nat.le_of_ble_eq_true rfl) d_Rd_readSequence_14 (fun H locs hP hS => ?_)
  obtain ⟨mem83, e_mem83⟩ : ∃ z, z = va_up mem45 ((20 + 2 * kx15)) (.inr (2, [.int (k67), .int (lo68), .int (hi69), as70, .ref (ad (20 + 2 * kx46)), ne72, .ref (ad (21 + 2 * kx15))])) := ⟨_, rfl⟩
  have hP : va_P D vcl (fw n ad mem83) H := by rw [e_mem83]; exact hP
  have hD : va_D (Az sz) (fw n ad mem83) := fw_D hD
  have h_mem83 : mem83 ((20 + 2 * kx15)) = .inr (2, [.int (k67), .int (lo68), .int (hi69), as70, .ref (ad (20 + 2 * kx46)), ne72, .ref (ad (21 + 2 * kx15))]) := by rw [e_mem83, va_up_self]
  have hh84 := (va_up_ne mem45 (.inr (2, [.int (k67), .int (lo68), .int (hi69), as70, .ref (ad (20 + 2 * kx46)), ne72, .ref (ad (21 + 2 * kx15))])) (show (222 : Nat) ≠ (20 + 2 * kx15) by first | decide | assumption | omega)).trans h9_57
  rw [← e_mem83] at hh84
  have hh85 := (va_up_ne mem45 (.inr (2, [.int (k67), .int (lo68), .int (hi69), as70, .ref (ad (20 + 2 * kx46)), ne72, .ref (ad (21 + 2 * kx15))])) (show (1 : Nat) ≠ (20 + 2 * kx15) by first | decide | assumption | omega)).trans h1_58
  rw [← e_mem83] at hh85
  have hh86 := (va_up_ne mem45 (.inr (2, [.int (k67), .int (lo68), .int (hi69), as70, .ref (ad (20 + 2 * kx46)), ne72, .ref (ad (21 + 2 * kx15))])) (show (5 : Nat) ≠ (20 + 2 * kx15) by first | decide | assumption | omega)).trans h5_60
  rw [← e_mem83] at hh86
  have hh87 := (va_up_ne mem45 (.inr (2, [.int (k67), .int (lo68), .int (hi69), as70, .ref (ad (20 + 2 * kx46)), ne72, .ref (ad (21 + 2 * kx15))])) (show (220 : Nat) ≠ (20 + 2 * kx15) by first | decide | assumption | omega)).trans h220_64
  rw [← e_mem83] at hh87
  have hh88 := (va_up_ne mem45 (.inr (2, [.int (k67), .int (lo68), .int (hi69), as70, .ref (ad (20 + 2 * kx46)), ne72, .ref (ad (21 + 2 * kx15))])) (show ((20 + 2 * kx46) : Nat) ≠ (20 + 2 * kx15) by first | decide | assumption | omega)).trans he_81
  rw [← e_mem83] at hh88
  have hRS89 : RS cy ad lim rc47 ec48 m0 mem83 := by rw [e_mem83]; exact hRS49.mk (by omega) (hRS49.1.upEl (by omega) (fun q9 => ⟨(ho_74 q9).1, Or.inr ⟨kx46, by omega, by omega, rfl⟩, (ho_74 q9).2.2⟩))
  refine lv_iconst (v := 0) Bx.1 Bx.2.1 d_Rd_readSequence_17 (by decide) ?_
  refine lv_istore (lv' := [(4, .int (0)), (3, .ref (ad (20 + 2 * kx46))), (2, .ref (ad (20 + 2 * kx15))), (0, .ref (ad 222)), (1, .int (2))]) Bx.1 Bx.2.1 d_Rd_readSequence_18 hl (by decide) rfl (fun ls hl => ?_)
  have loop90 : ∀ (d : Nat) (mem : Nat → va_E) (rcl ecl : Nat) (ls : Array Slot) (H : Heap) (locs : List Loc) (la : Nat) (k9 : Int32), ((240 : Int32).toInt - (k9).toInt).toNat < d → RS cy ad lim rcl ecl m0 mem → kx15 < ecl ∧ la < ecl ∧ rc ≤ rcl → va_P D vcl (fw n ad mem) H → va_D (Az sz) (fw n ad mem) → va_S (Az sz) s.heap H locs → lv_has ls 5 [(4, .int (k9)), (3, .ref (ad (20 + 2 * la))), (2, .ref (ad (20 + 2 * kx15))), (0, .ref (ad 222)), (1, .int (2))] → W p l e (headSpec (Cond.code y_Rd_readSequence c_Rd_readSequence 5 (some (.object "AbnfChart$Element")) :: tg) ({ frames := 42, cells := 1, slots := 6, locals := 1012 } : Room)).room s m [.ref (ad 222), .int (2)].toArray below meth c H locs 0 0 (vx_MQ below (QX (QR (fun r mem' => ∃ k rc' ec' : Nat, r = ad (20 + 2 * k) ∧ ec ≤ k ∧ k < ec' ∧ rc ≤ rc' ∧ RS cy ad lim rc' ec' m0 mem') (PP D n ad) (Az sz))) (XQ D sz n ad (fun X mem' => (X = cIA ∨ X = cIS) ∧ ∃ rc' ec' : Nat, RS cy ad lim rc' ec' m0 mem')) [.ref (ad 222), .int (2)].toArray s 1 6 (Az sz)) (F0 m 20 ls []) := by
    intro d
    induction d with
    | zero => intro mem rcl ecl ls H locs la k9 hmeas; exact absurd hmeas (Nat.not_lt_zero _)
    | succ d ih =>
      intro mem rcl ecl ls H locs la k9 hmeas hRS hx0 hP hD hS hl
      have hbd := hRS.1.1
      obtain ⟨at91, ft92, h9_93⟩ := hRS.2.1
      have h1_94 : mem 1 = .inr (0, [.ref (ad 2), .int (nI Z)]) := (hRS.2.2 1 (by omega)).trans hT.1
      have h2_95 : mem 2 = .inl (cy 0, 240, .inl f) := (hRS.2.2 2 (by omega)).trans hT.2.2
      have h5_96 := hRS.1.2.1
      have hbd102 := hRS.1.1
      obtain ⟨S97, g98, hS_99, h220_100, h221_101⟩ := hRS.1.2.2.2.2.2.2
      obtain ⟨k103, lo104, hi105, as106, pa107, ne108, he_109, ho_110⟩ := (hRS.1.2.2.2.2.2.1 la (by omega)).1
      refine lv_iload Bx.1 Bx.2.1 d_Rd_readSequence_20 (lv_at hl 0 rfl) ?_
      refine lv_sipush (v := 240) Bx.1 Bx.2.1 d_Rd_readSequence_22 (by decide) ?_
      refine lv_icmp_ge Bx.1 Bx.2.1 d_Rd_readSequence_25 rfl (fun hk => ?_) (fun hk => ?_)
      · refine lv_aload_n Bx.1 Bx.2.1 d_Rd_readSequence_65 rfl (lv_at hl 2 rfl) ?_
        exact x_aret hx hb hlocks hr (⟨kx15, rcl, ecl, rfl, by omega, by omega, by omega, hRS⟩) hP hS d_Rd_readSequence_66
      · refine lv_aload_n Bx.1 Bx.2.1 d_Rd_readSequence_28 rfl (lv_at hl 3 rfl) ?_
        refine f_callVi (na := 0) (As := []) (rest := []) Bx hml E hP hD hS (by omega) h9_93 rfl (m_Rd_readGap l hn hT hRS) kw_397 kw_399 sel_Rd_readGap kw_6 kw_400 (by decide +kernel) ⟨rfl, rfl⟩ ⟨Nat.le_of_ble_eq_true rfl, Nat.le_of_ble_eq_true rfl⟩ rfl hl.1 (Nat.le_of_ble_eq_true rfl) d_Rd_readSequence_29 ⟨Nat.le_of_ble_eq_true rfl, Nat.le_of_ble_eq_true rfl⟩ (fun r112 mem113 H locs hRS111 hP hS => ?_)
        have hD : va_D (Az sz) (fw n ad mem113) := fw_D hD
        obtain ⟨at114, ft115, h9_116⟩ := hRS111.2.1
        have h1_117 : mem113 1 = .inr (0, [.ref (ad 2), .int (nI Z)]) := (hRS111.2.2 1 (by omega)).trans hT.1
        have h2_118 : mem113 2 = .inl (cy 0, 240, .inl f) := (hRS111.2.2 2 (by omega)).trans hT.2.2
        have h5_119 := hRS111.1.2.1
        have hbd125 := hRS111.1.1
        obtain ⟨S120, g121, hS_122, h220_123, h221_124⟩ := hRS111.1.2.2.2.2.2.2
        obtain ⟨k126, lo127, hi128, as129, pa130, ne131, he_132, ho_133⟩ := (hRS111.1.2.2.2.2.2.1 la (by omega)).1
        refine lv_if_eq Bx.1 Bx.2.1 d_Rd_readSequence_32 rfl (fun h8 => ?_) (fun h8 => ?_)
        · refine lv_aload_n Bx.1 Bx.2.1 d_Rd_readSequence_65 rfl (lv_at hl 2 rfl) ?_
          exact x_aret hx hb hlocks hr (⟨kx15, rcl, ecl, rfl, by omega, by omega, by omega, hRS111⟩) hP hS d_Rd_readSequence_66
        · refine lv_aload_n Bx.1 Bx.2.1 d_Rd_readSequence_35 rfl (lv_at hl 3 rfl) ?_
          refine f_callVi (na := 0) (As := []) (rest := []) Bx hml E hP hD hS (by omega) h9_116 rfl (m_Rd_peek l hn hT hRS111) kw_353 kw_355 sel_Rd_peek kw_6 kw_356 (by decide +kernel) ⟨rfl, rfl⟩ ⟨Nat.le_of_ble_eq_true rfl, Nat.le_of_ble_eq_true rfl⟩ rfl hl.1 (Nat.le_of_ble_eq_true rfl) d_Rd_readSequence_36 ⟨Nat.le_of_ble_eq_true rfl, Nat.le_of_ble_eq_true rfl⟩ (fun r134 mem135 H locs hq hP hS => ?_)
          have hD : va_D (Az sz) (fw n ad mem135) := fw_D hD
          rw [hq] at hP hD
          refine f_callSi (na := 1) (As := [.int (r134)]) (rest := []) Bx hml E.2.1 (m_Rd_beginsRepetition l (r134)) kw_413 kw_414 kw_6 kw_415 (by decide +kernel) ⟨rfl, rfl⟩ ⟨Nat.le_of_ble_eq_true rfl, Nat.le_of_ble_eq_true rfl⟩ rfl hl.1 (Nat.le_of_ble_eq_true rfl) d_Rd_readSequence_39 ⟨Nat.le_of_ble_eq_true rfl, Nat.le_of_ble_eq_true rfl⟩ (fun r137 hs136 => ?_)
          refine lv_if_eq Bx.1 Bx.2.1 d_Rd_readSequence_42 rfl (fun h8 => ?_) (fun h8 => ?_)
          · refine lv_aload_n Bx.1 Bx.2.1 d_Rd_readSequence_65 rfl (lv_at hl 2 rfl) ?_
            exact x_aret hx hb hlocks hr (⟨kx15, rcl, ecl, rfl, by omega, by omega, by omega, hRS111⟩) hP hS d_Rd_readSequence_66
          · refine lv_aload_n Bx.1 Bx.2.1 d_Rd_readSequence_45 rfl (lv_at hl 1 rfl) ?_
            refine lv_aload_n Bx.1 Bx.2.1 d_Rd_readSequence_46 rfl (lv_at hl 3 rfl) ?_
            refine lv_iload_n Bx.1 Bx.2.1 d_Rd_readSequence_47 rfl (lv_at hl 4 rfl) ?_
            refine f_xVr (na := 1) (As := [.int (2)]) (rest := [.ref (ad (20 + 2 * la))]) Bx hml E hP hD hS (by omega) h9_116 rfl (m_Rd_readRepetition_2 l hlt hn hT hRS111) kw_439 kw_441 sel_Rd_readRepetition kw_6 kw_442 (by decide +kernel) ⟨rfl, rfl⟩ ⟨Nat.le_of_ble_eq_true rfl, Nat.le_of_ble_eq_true rfl⟩ rfl hl.1 (Nat.le_of_ble_eq_true rfl) d_Rd_readSequence_48 ⟨Nat.le_of_ble_eq_true rfl, Nat.le_of_ble_eq_true rfl⟩ (fun X ce q9 memx H locs hx9 hP hS g1 g2 g3 => f_out hlocks hno hP hS g1 g2 g3 ⟨Nat.le_of_ble_eq_true rfl, Nat.le_of_ble_eq_true rfl⟩ hx9) (fun r138 mem139 H locs hq hP hS => ?_)
            have hD : va_D (Az sz) (fw n ad mem139) := fw_D hD
            obtain ⟨kx140, rc141, ec142, hr9144, hb145, hb146, hb147, hRS143⟩ := hq
            subst hr9144
            have hbd148 := hRS143.1.1
            obtain ⟨at149, ft150, h9_151⟩ := hRS143.2.1
            have h1_152 : mem139 1 = .inr (0, [.ref (ad 2), .int (nI Z)]) := (hRS143.2.2 1 (by omega)).trans hT.1
            have h2_153 : mem139 2 = .inl (cy 0, 240, .inl f) := (hRS143.2.2 2 (by omega)).trans hT.2.2
            have h5_154 := hRS143.1.2.1
            have hbd160 := hRS143.1.1
            obtain ⟨S155, g156, hS_157, h220_158, h221_159⟩ := hRS143.1.2.2.2.2.2.2
            obtain ⟨k161, lo162, hi163, as164, pa165, ne166, he_167, ho_168⟩ := (hRS143.1.2.2.2.2.2.1 la (by omega)).1
            obtain ⟨k169, lo170, hi171, as172, pa173, ne174, he_175, ho_176⟩ := (hRS143.1.2.2.2.2.2.1 kx140 (by omega)).1
            refine f_putN Bx hP hD hS (by omega) he_167 rfl inEl tyEl okEl nmEl 5 (by decide) kw_91 rfl rfl rfl rfl (Nat.le_of_ble_eq_true rfl) d_Rd_readSequence_51 (fun H locs hP hS => ?_)
            obtain ⟨mem177, e_mem177⟩ : ∃ z, z = va_up mem139 ((20 + 2 * la)) (.inr (2, [.int (k161), .int (lo162), .int (hi163), as164, pa165, .ref (ad (20 + 2 * kx140)), .ref (ad (21 + 2 * la))])) := ⟨_, rfl⟩
            have hP : va_P D vcl (fw n ad mem177) H := by rw [e_mem177]; exact hP
            have hD : va_D (Az sz) (fw n ad mem177) := fw_D hD
            have h_mem177 : mem177 ((20 + 2 * la)) = .inr (2, [.int (k161), .int (lo162), .int (hi163), as164, pa165, .ref (ad (20 + 2 * kx140)), .ref (ad (21 + 2 * la))]) := by rw [e_mem177, va_up_self]
            have hh178 := (va_up_ne mem139 (.inr (2, [.int (k161), .int (lo162), .int (hi163), as164, pa165, .ref (ad (20 + 2 * kx140)), .ref (ad (21 + 2 * la))])) (show (222 : Nat) ≠ (20 + 2 * la) by first | decide | assumption | omega)).trans h9_151
            rw [← e_mem177] at hh178
            have hh179 := (va_up_ne mem139 (.inr (2, [.int (k161), .int (lo162), .int (hi163), as164, pa165, .ref (ad (20 + 2 * kx140)), .ref (ad (21 + 2 * la))])) (show (1 : Nat) ≠ (20 + 2 * la) by first | decide | assumption | omega)).trans h1_152
            rw [← e_mem177] at hh179
            have hh180 := (va_up_ne mem139 (.inr (2, [.int (k161), .int (lo162), .int (hi163), as164, pa165, .ref (ad (20 + 2 * kx140)), .ref (ad (21 + 2 * la))])) (show (5 : Nat) ≠ (20 + 2 * la) by first | decide | assumption | omega)).trans h5_154
            rw [← e_mem177] at hh180
            have hh181 := (va_up_ne mem139 (.inr (2, [.int (k161), .int (lo162), .int (hi163), as164, pa165, .ref (ad (20 + 2 * kx140)), .ref (ad (21 + 2 * la))])) (show (220 : Nat) ≠ (20 + 2 * la) by first | decide | assumption | omega)).trans h220_158
            rw [← e_mem177] at hh181
            have hh182 := (va_up_ne mem139 (.inr (2, [.int (k161), .int (lo162), .int (hi163), as164, pa165, .ref (ad (20 + 2 * kx140)), .ref (ad (21 + 2 * la))])) (show ((20 + 2 * kx140) : Nat) ≠ (20 + 2 * la) by first | decide | assumption | omega)).trans he_175
            rw [← e_mem177] at hh182
            have hRS183 : RS cy ad lim rc141 ec142 m0 mem177 := by rw [e_mem177]; exact hRS143.mk (by omega) (hRS143.1.upEl (by omega) (fun q9 => ⟨(ho_168 q9).1, (ho_168 q9).2.1, Or.inr ⟨kx140, by omega, by omega, rfl⟩⟩))
            refine lv_aload_n Bx.1 Bx.2.1 d_Rd_readSequence_54 rfl (lv_at hl 1 rfl) ?_
            refine f_getN Bx hP (by omega) h_mem177 rfl inEl 5 (by decide) kw_91 rfl rfl d_Rd_readSequence_55 ?_
            refine lv_astore_n (lv' := [(3, .ref (ad (20 + 2 * kx140))), (4, .int (k9)), (2, .ref (ad (20 + 2 * kx15))), (0, .ref (ad 222)), (1, .int (2))]) Bx.1 Bx.2.1 d_Rd_readSequence_58 rfl hl (by decide) rfl (fun ls hl => ?_)
            refine lv_iinc (lv' := [(4, .int ((k9 + (1)))), (3, .ref (ad (20 + 2 * kx140))), (2, .ref (ad (20 + 2 * kx15))), (0, .ref (ad 222)), (1, .int (2))]) Bx.1 Bx.2.1 d_Rd_readSequence_59 hl (k := 1) rfl rfl (by decide) rfl (fun ls hl => ?_)
            refine lv_goto Bx.1 Bx.2.1 d_Rd_readSequence_62 rfl ?_
            exact ih _ _ _ _ _ _ _ _ (by have := inc_meas hk; omega) hRS183 ⟨by omega, by omega, by omega⟩ hP hD hS (lv_sub hl [0, 1, 2, 3, 4] rfl)
  exact loop90 _ _ _ _ _ _ _ _ _ (Nat.lt_succ_self _) hRS89 ⟨by omega, by omega, by omega⟩ hP hD hS (lv_sub hl [0, 1, 2, 3, 4] rfl)
set_option maxHeartbeats 4000000 in
set_option maxRecDepth 100000 in
theorem m_Rd_readAlternatives_2 (l : Launch) {D : va_G} {cy : Nat → ClassId} {sz n : Nat} {ad : Nat → Nat} {mem : Nat → va_E} {Z : Nat} {f : Nat → Int32} {lim rc ec : Nat} {m0 : Nat → va_E} (hlt : l.stackTraces = false) (hn : 224 ≤ n) (hT : TX cy ad Z f m0) (hRS : RS cy ad lim rc ec m0 mem) : NXr l D cy sz n ad y_Rd_readAlternatives c_Rd_readAlternatives 5 (some (.object "AbnfChart$Element")) ({ frames := 43, cells := 1, slots := 6, locals := 1038 } : Room) mem [.ref (ad 222), .int (2)] (fun r mem' => ∃ k rc' ec' : Nat, r = ad (20 + 2 * k) ∧ ec ≤ k ∧ k < ec' ∧ rc ≤ rc' ∧ RS cy ad lim rc' ec' m0 mem') (fun X mem' => (X = cIA ∨ X = cIS) ∧ ∃ rc' ec' : Nat, RS cy ad lim rc' ec' m0 mem') := by
  refine vx_ofW (cc := c_Rd_readAlternatives) (maxL := 5) (ret := (some (.object "AbnfChart$Element"))) (by decide) rfl ?_
  intro p e s m args below meth c s₁ B hml hno hv
  obtain ⟨rfl, E, hP, hD⟩ := hv
  have hx := B.exec
  have hb := B.bytes
  have hr := B.returns
  have hlocks := B.notSynchronized
  have Bx : MB p s m [.ref (ad 222), .int (2)].toArray c c_Rd_readAlternatives "AbnfChart$Reader" D cy := ⟨hx, hb, tb_all (atoms_spec B.pre) E.2.1, findClass_of_methodNamed B.named, E.1⟩
  have hS : va_S (Az sz) s.heap s.heap [] := va_S.rf
  have hl := lv_entry ([.ref (ad 222), .int (2)]) (n := 5) (Nat.le_of_ble_eq_true rfl)
  rw [lg_entry_eq]
  generalize (lg_sl ([.ref (ad 222), .int (2)]) ++ List.replicate (5 - (lg_sl ([.ref (ad 222), .int (2)])).length) Slot.unset).toArray = ls at hl ⊢
  have hl : lv_has ls 5 [(0, .ref (ad 222)), (1, .int (2))] := hl
  obtain ⟨at1, ft2, h9_3⟩ := hRS.2.1
  have h1_4 : mem 1 = .inr (0, [.ref (ad 2), .int (nI Z)]) := (hRS.2.2 1 (by omega)).trans hT.1
  have h2_5 : mem 2 = .inl (cy 0, 240, .inl f) := (hRS.2.2 2 (by omega)).trans hT.2.2
  have h5_6 := hRS.1.2.1
  have hbd12 := hRS.1.1
  obtain ⟨S7, g8, hS_9, h220_10, h221_11⟩ := hRS.1.2.2.2.2.2.2
  refine lv_aload_n Bx.1 Bx.2.1 d_Rd_readAlternatives_0 rfl (lv_at hl 0 rfl) ?_
  refine lv_iconst (v := 0) Bx.1 Bx.2.1 d_Rd_readAlternatives_1 (by decide) ?_
  refine f_xVr (na := 1) (As := [.int (0)]) (rest := []) Bx hml E hP hD hS (by omega) h9_3 rfl (m_Rd_beginRow l hlt hn hT hRS) kw_409 kw_411 sel_Rd_beginRow kw_6 kw_412 (by decide +kernel) ⟨rfl, rfl⟩ ⟨Nat.le_of_ble_eq_true rfl, Nat.le_of_ble_eq_true rfl⟩ rfl hl.1 (Nat.le_of_ble_eq_true rfl) d_Rd_readAlternatives_2 ⟨Nat.le_of_ble_eq_true rfl, Nat.le_of_ble_eq_true rfl⟩ (fun X ce q9 memx H locs hx9 hP hS g1 g2 g3 => f_out hlocks hno hP hS g1 g2 g3 ⟨Nat.le_of_ble_eq_true rfl, Nat.le_of_ble_eq_true rfl⟩ hx9) (fun r13 mem14 H locs hq hP hS => ?_)
  have hD : va_D (Az sz) (fw n ad mem14) := fw_D hD
  obtain ⟨kx15, rc16, ec17, hr919, hb20, hb21, hb22, hRS18⟩ := hq
  subst hr919
  have hbd23 := hRS18.1.1
  obtain ⟨at24, ft25, h9_26⟩ := hRS18.2.1
  have h1_27 : mem14 1 = .inr (0, [.ref (ad 2), .int (nI Z)]) := (hRS18.2.2 1 (by omega)).trans hT.1
  have h2_28 : mem14 2 = .inl (cy 0, 240, .inl f) := (hRS18.2.2 2 (by omega)).trans hT.2.2
  have h5_29 := hRS18.1.2.1
  have hbd35 := hRS18.1.1
  obtain ⟨S30, g31, hS_32, h220_33, h221_34⟩ := hRS18.1.2.2.2.2.2.2
  obtain ⟨k36, lo37, hi38, as39, pa40, ne41, he_42, ho_43⟩ := (hRS18.1.2.2.2.2.2.1 kx15 (by omega)).1
  refine lv_astore_n (lv' := [(2, .ref (ad (20 + 2 * kx15))), (0, .ref (ad 222)), (1, .int (2))]) Bx.1 Bx.2.1 d_Rd_readAlternatives_5 rfl hl (by decide) rfl (fun ls hl => ?_)
  refine lv_aload_n Bx.1 Bx.2.1 d_Rd_readAlternatives_6 rfl (lv_at hl 1 rfl) ?_
  refine lv_iload_n Bx.1 Bx.2.1 d_Rd_readAlternatives_7 rfl (lv_at hl 2 rfl) ?_
  refine f_xVr (na := 1) (As := [.int (2)]) (rest := []) Bx hml E hP hD hS (by omega) h9_26 rfl (m_Rd_readSequence_2 l hlt hn hT hRS18) kw_435 kw_437 sel_Rd_readSequence kw_6 kw_438 (by decide +kernel) ⟨rfl, rfl⟩ ⟨Nat.le_of_ble_eq_true rfl, Nat.le_of_ble_eq_true rfl⟩ rfl hl.1 (Nat.le_of_ble_eq_true rfl) d_Rd_readAlternatives_8 ⟨Nat.le_of_ble_eq_true rfl, Nat.le_of_ble_eq_true rfl⟩ (fun X ce q9 memx H locs hx9 hP hS g1 g2 g3 => f_out hlocks hno hP hS g1 g2 g3 ⟨Nat.le_of_ble_eq_true rfl, Nat.le_of_ble_eq_true rfl⟩ hx9) (fun r44 mem45 H locs hq hP hS => ?_)
  have hD : va_D (Az sz) (fw n ad mem45) := fw_D hD
  obtain ⟨kx46, rc47, ec48, hr950, hb51, hb52, hb53, hRS49⟩ := hq
  subst hr950
  have hbd54 := hRS49.1.1
  obtain ⟨at55, ft56, h9_57⟩ := hRS49.2.1
  have h1_58 : mem45 1 = .inr (0, [.ref (ad 2), .int (nI Z)]) := (hRS49.2.2 1 (by omega)).trans hT.1
  have h2_59 : mem45 2 = .inl (cy 0, 240, .inl f) := (hRS49.2.2 2 (by omega)).trans hT.2.2
  have h5_60 := hRS49.1.2.1
  have hbd66 := hRS49.1.1
  obtain ⟨S61, g62, hS_63, h220_64, h221_65⟩ := hRS49.1.2.2.2.2.2.2
  obtain ⟨k67, lo68, hi69, as70, pa71, ne72, he_73, ho_74⟩ := (hRS49.1.2.2.2.2.2.1 kx15 (by omega)).1
  obtain ⟨k75, lo76, hi77, as78, pa79, ne80, he_81, ho_82⟩ := (hRS49.1.2.2.2.2.2.1 kx46 (by omega)).1
  refine lv_astore_n (lv' := [(3, .ref (ad (20 + 2 * kx46))), (2, .ref (ad (20 + 2 * kx15))), (0, .ref (ad 222)), (1, .int (2))]) Bx.1 Bx.2.1 d_Rd_readAlternatives_11 rfl hl (by decide) rfl (fun ls hl => ?_)
  refine lv_aload_n Bx.1 Bx.2.1 d_Rd_readAlternatives_12 rfl (lv_at hl 1 rfl) ?_
  refine lv_aload_n Bx.1 Bx.2.1 d_Rd_readAlternatives_13 rfl (lv_at hl 0 rfl) ?_
  refine f_putN Bx hP hD hS (by omega) he_73 rfl inEl tyEl okEl nmEl 4 (by decide) kw_87 rfl rfl rfl rfl (Nat.le_of_ble_eq_true rfl) d_Rd_readAlternatives_14 (fun H locs hP hS => ?_)
  obtain ⟨mem83, e_mem83⟩ : ∃ z, z = va_up mem45 ((20 + 2 * kx15)) (.inr (2, [.int (k67), .int (lo68), .int (hi69), as70, .ref (ad (20 + 2 * kx46)), ne72, .ref (ad (21 + 2 * kx15))])) := ⟨_, rfl⟩
  have hP : va_P D vcl (fw n ad mem83) H := by rw [e_mem83]; exact hP
  have hD : va_D (Az sz) (fw n ad mem83) := fw_D hD
  have h_mem83 : mem83 ((20 + 2 * kx15)) = .inr (2, [.int (k67), .int (lo68), .int (hi69), as70, .ref (ad (20 + 2 * kx46)), ne72, .ref (ad (21 + 2 * kx15))]) := by rw [e_mem83, va_up_self]
  have hh84 := (va_up_ne mem45 (.inr (2, [.int (k67), .int (lo68), .int (hi69), as70, .ref (ad (20 + 2 * kx46)), ne72, .ref (ad (21 + 2 * kx15))])) (show (222 : Nat) ≠ (20 + 2 * kx15) by first | decide | assumption | omega)).trans h9_57
  rw [← e_mem83] at hh84
  have hh85 := (va_up_ne mem45 (.inr (2, [.int (k67), .int (lo68), .int (hi69), as70, .ref (ad (20 + 2 * kx46)), ne72, .ref (ad (21 + 2 * kx15))])) (show (1 : Nat) ≠ (20 + 2 * kx15) by first | decide | assumption | omega)).trans h1_58
  rw [← e_mem83] at hh85
  have hh86 := (va_up_ne mem45 (.inr (2, [.int (k67), .int (lo68), .int (hi69), as70, .ref (ad (20 + 2 * kx46)), ne72, .ref (ad (21 + 2 * kx15))])) (show (5 : Nat) ≠ (20 + 2 * kx15) by first | decide | assumption | omega)).trans h5_60
  rw [← e_mem83] at hh86
  have hh87 := (va_up_ne mem45 (.inr (2, [.int (k67), .int (lo68), .int (hi69), as70, .ref (ad (20 + 2 * kx46)), ne72, .ref (ad (21 + 2 * kx15))])) (show (220 : Nat) ≠ (20 + 2 * kx15) by first | decide | assumption | omega)).trans h220_64
  rw [← e_mem83] at hh87
  have hh88 := (va_up_ne mem45 (.inr (2, [.int (k67), .int (lo68), .int (hi69), as70, .ref (ad (20 + 2 * kx46)), ne72, .ref (ad (21 + 2 * kx15))])) (show ((20 + 2 * kx46) : Nat) ≠ (20 + 2 * kx15) by first | decide | assumption | omega)).trans he_81
  rw [← e_mem83] at hh88
  have hRS89 : RS cy ad lim rc47 ec48 m0 mem83 := by rw [e_mem83]; exact hRS49.mk (by omega) (hRS49.1.upEl (by omega) (fun q9 => ⟨(ho_74 q9).1, Or.inr ⟨kx46, by omega, by omega, rfl⟩, (ho_74 q9).2.2⟩))
  refine lv_iconst (v := 0) Bx.1 Bx.2.1 d_Rd_readAlternatives_17 (by decide) ?_
  refine lv_istore (lv' := [(4, .int (0)), (3, .ref (ad (20 + 2 * kx46))), (2, .ref (ad (20 + 2 * kx15))), (0, .ref (ad 222)), (1, .int (2))]) Bx.1 Bx.2.1 d_Rd_readAlternatives_18 hl (by decide) rfl (fun ls hl => ?_)
  have loop90 : ∀ (d : Nat) (mem : Nat → va_E) (rcl ecl : Nat) (ls : Array Slot) (H : Heap) (locs : List Loc) (la : Nat) (k9 : Int32), ((240 : Int32).toInt - (k9).toInt).toNat < d → RS cy ad lim rcl ecl m0 mem → kx15 < ecl ∧ la < ecl ∧ rc ≤ rcl → va_P D vcl (fw n ad mem) H → va_D (Az sz) (fw n ad mem) → va_S (Az sz) s.heap H locs → lv_has ls 5 [(4, .int (k9)), (3, .ref (ad (20 + 2 * la))), (2, .ref (ad (20 + 2 * kx15))), (0, .ref (ad 222)), (1, .int (2))] → W p l e (headSpec (Cond.code y_Rd_readAlternatives c_Rd_readAlternatives 5 (some (.object "AbnfChart$Element")) :: tg) ({ frames := 43, cells := 1, slots := 6, locals := 1038 } : Room)).room s m [.ref (ad 222), .int (2)].toArray below meth c H locs 0 0 (vx_MQ below (QX (QR (fun r mem' => ∃ k rc' ec' : Nat, r = ad (20 + 2 * k) ∧ ec ≤ k ∧ k < ec' ∧ rc ≤ rc' ∧ RS cy ad lim rc' ec' m0 mem') (PP D n ad) (Az sz))) (XQ D sz n ad (fun X mem' => (X = cIA ∨ X = cIS) ∧ ∃ rc' ec' : Nat, RS cy ad lim rc' ec' m0 mem')) [.ref (ad 222), .int (2)].toArray s 1 6 (Az sz)) (F0 m 20 ls []) := by
    intro d
    induction d with
    | zero => intro mem rcl ecl ls H locs la k9 hmeas; exact absurd hmeas (Nat.not_lt_zero _)
    | succ d ih =>
      intro mem rcl ecl ls H locs la k9 hmeas hRS hx0 hP hD hS hl
      have hbd := hRS.1.1
      obtain ⟨at91, ft92, h9_93⟩ := hRS.2.1
      have h1_94 : mem 1 = .inr (0, [.ref (ad 2), .int (nI Z)]) := (hRS.2.2 1 (by omega)).trans hT.1
      have h2_95 : mem 2 = .inl (cy 0, 240, .inl f) := (hRS.2.2 2 (by omega)).trans hT.2.2
      have h5_96 := hRS.1.2.1
      have hbd102 := hRS.1.1
      obtain ⟨S97, g98, hS_99, h220_100, h221_101⟩ := hRS.1.2.2.2.2.2.2
      obtain ⟨k103, lo104, hi105, as106, pa107, ne108, he_109, ho_110⟩ := (hRS.1.2.2.2.2.2.1 la (by omega)).1
      refine lv_iload Bx.1 Bx.2.1 d_Rd_readAlternatives_20 (lv_at hl 0 rfl) ?_
      refine lv_sipush (v := 240) Bx.1 Bx.2.1 d_Rd_readAlternatives_22 (by decide) ?_
      refine lv_icmp_ge Bx.1 Bx.2.1 d_Rd_readAlternatives_25 rfl (fun hk => ?_) (fun hk => ?_)
      · refine lv_aload_n Bx.1 Bx.2.1 d_Rd_readAlternatives_72 rfl (lv_at hl 2 rfl) ?_
        exact x_aret hx hb hlocks hr (⟨kx15, rcl, ecl, rfl, by omega, by omega, by omega, hRS⟩) hP hS d_Rd_readAlternatives_73
      · refine lv_aload_n Bx.1 Bx.2.1 d_Rd_readAlternatives_28 rfl (lv_at hl 3 rfl) ?_
        refine f_callVi (na := 0) (As := []) (rest := []) Bx hml E hP hD hS (by omega) h9_93 rfl (m_Rd_peek l hn hT hRS) kw_353 kw_355 sel_Rd_peek kw_6 kw_356 (by decide +kernel) ⟨rfl, rfl⟩ ⟨Nat.le_of_ble_eq_true rfl, Nat.le_of_ble_eq_true rfl⟩ rfl hl.1 (Nat.le_of_ble_eq_true rfl) d_Rd_readAlternatives_29 ⟨Nat.le_of_ble_eq_true rfl, Nat.le_of_ble_eq_true rfl⟩ (fun r111 mem112 H locs hq hP hS => ?_)
        have hD : va_D (Az sz) (fw n ad mem112) := fw_D hD
        rw [hq] at hP hD
        refine lv_bipush (v := 47) Bx.1 Bx.2.1 d_Rd_readAlternatives_32 (by decide) ?_
        refine lv_icmp_ne Bx.1 Bx.2.1 d_Rd_readAlternatives_34 rfl (fun h8 => ?_) (fun h8 => ?_)
        · refine lv_aload_n Bx.1 Bx.2.1 d_Rd_readAlternatives_72 rfl (lv_at hl 2 rfl) ?_
          exact x_aret hx hb hlocks hr (⟨kx15, rcl, ecl, rfl, by omega, by omega, by omega, hRS⟩) hP hS d_Rd_readAlternatives_73
        · refine lv_aload_n Bx.1 Bx.2.1 d_Rd_readAlternatives_37 rfl (lv_at hl 3 rfl) ?_
          refine lv_dup Bx.1 Bx.2.1 d_Rd_readAlternatives_38 rfl ?_
          refine f_get Bx hP (by omega) h9_93 rfl inRd 2 (by decide) kw_146 rfl rfl d_Rd_readAlternatives_39 ?_
          refine lv_iconst (v := 1) Bx.1 Bx.2.1 d_Rd_readAlternatives_42 (by decide) ?_
          refine lv_iadd Bx.1 Bx.2.1 d_Rd_readAlternatives_43 ?_
          refine f_put Bx hP hD hS (by omega) h9_93 rfl inRd tyRd okRd nmRd 2 (by decide) kw_146 rfl rfl rfl rfl (Nat.le_of_ble_eq_true rfl) d_Rd_readAlternatives_44 (fun H locs hP hS => ?_)
          obtain ⟨mem113, e_mem113⟩ : ∃ z, z = va_up mem (222) (.inr (4, [.ref (ad 1), .ref (ad 5), .int (at91 + 1), .int (ft92)])) := ⟨_, rfl⟩
          have hP : va_P D vcl (fw n ad mem113) H := by rw [e_mem113]; exact hP
          have hD : va_D (Az sz) (fw n ad mem113) := fw_D hD
          have h_mem113 : mem113 (222) = .inr (4, [.ref (ad 1), .ref (ad 5), .int (at91 + 1), .int (ft92)]) := by rw [e_mem113, va_up_self]
          have hh114 := (va_up_ne mem (.inr (4, [.ref (ad 1), .ref (ad 5), .int (at91 + 1), .int (ft92)])) (show (1 : Nat) ≠ 222 by first | decide | assumption | omega)).trans h1_94
          rw [← e_mem113] at hh114
          have hh115 := (va_up_ne mem (.inr (4, [.ref (ad 1), .ref (ad 5), .int (at91 + 1), .int (ft92)])) (show (5 : Nat) ≠ 222 by first | decide | assumption | omega)).trans h5_96
          rw [← e_mem113] at hh115
          have hh116 := (va_up_ne mem (.inr (4, [.ref (ad 1), .ref (ad 5), .int (at91 + 1), .int (ft92)])) (show (220 : Nat) ≠ 222 by first | decide | assumption | omega)).trans h220_100
          rw [← e_mem113] at hh116
          have hh117 := (va_up_ne mem (.inr (4, [.ref (ad 1), .ref (ad 5), .int (at91 + 1), .int (ft92)])) (show ((20 + 2 * la) : Nat) ≠ 222 by first | decide | assumption | omega)).trans he_109
          rw [← e_mem113] at hh117
          have hRS118 : RS cy ad lim rcl ecl m0 mem113 := by rw [e_mem113]; exact hRS.at222
          refine lv_aload_n Bx.1 Bx.2.1 d_Rd_readAlternatives_47 rfl (lv_at hl 3 rfl) ?_
          refine f_callVi (na := 0) (As := []) (rest := []) Bx hml E hP hD hS (by omega) h_mem113 rfl (m_Rd_readGap l hn hT hRS118) kw_397 kw_399 sel_Rd_readGap kw_6 kw_400 (by decide +kernel) ⟨rfl, rfl⟩ ⟨Nat.le_of_ble_eq_true rfl, Nat.le_of_ble_eq_true rfl⟩ rfl hl.1 (Nat.le_of_ble_eq_true rfl) d_Rd_readAlternatives_48 ⟨Nat.le_of_ble_eq_true rfl, Nat.le_of_ble_eq_true rfl⟩ (fun r120 mem121 H locs hRS119 hP hS => ?_)
          have hD : va_D (Az sz) (fw n ad mem121) := fw_D hD
          obtain ⟨at122, ft123, h9_124⟩ := hRS119.2.1
          have h1_125 : mem121 1 = .inr (0, [.ref (ad 2), .int (nI Z)]) := (hRS119.2.2 1 (by omega)).trans hT.1
          have h2_126 : mem121 2 = .inl (cy 0, 240, .inl f) := (hRS119.2.2 2 (by omega)).trans hT.2.2
          have h5_127 := hRS119.1.2.1
          have hbd133 := hRS119.1.1
          obtain ⟨S128, g129, hS_130, h220_131, h221_132⟩ := hRS119.1.2.2.2.2.2.2
          obtain ⟨k134, lo135, hi136, as137, pa138, ne139, he_140, ho_141⟩ := (hRS119.1.2.2.2.2.2.1 la (by omega)).1
          refine lv_pop Bx.1 Bx.2.1 d_Rd_readAlternatives_51 rfl ?_
          refine lv_aload_n Bx.1 Bx.2.1 d_Rd_readAlternatives_52 rfl (lv_at hl 1 rfl) ?_
          refine lv_aload_n Bx.1 Bx.2.1 d_Rd_readAlternatives_53 rfl (lv_at hl 3 rfl) ?_
          refine lv_iload_n Bx.1 Bx.2.1 d_Rd_readAlternatives_54 rfl (lv_at hl 4 rfl) ?_
          refine f_xVr (na := 1) (As := [.int (2)]) (rest := [.ref (ad (20 + 2 * la))]) Bx hml E hP hD hS (by omega) h9_124 rfl (m_Rd_readSequence_2 l hlt hn hT hRS119) kw_435 kw_437 sel_Rd_readSequence kw_6 kw_438 (by decide +kernel) ⟨rfl, rfl⟩ ⟨Nat.le_of_ble_eq_true rfl, Nat.le_of_ble_eq_true rfl⟩ rfl hl.1 (Nat.le_of_ble_eq_true rfl) d_Rd_readAlternatives_55 ⟨Nat.le_of_ble_eq_true rfl, Nat.le_of_ble_eq_true rfl⟩ (fun X ce q9 memx H locs hx9 hP hS g1 g2 g3 => f_out hlocks hno hP hS g1 g2 g3 ⟨Nat.le_of_ble_eq_true rfl, Nat.le_of_ble_eq_true rfl⟩ hx9) (fun r142 mem143 H locs hq hP hS => ?_)
          have hD : va_D (Az sz) (fw n ad mem143) := fw_D hD
          obtain ⟨kx144, rc145, ec146, hr9148, hb149, hb150, hb151, hRS147⟩ := hq
          subst hr9148
          have hbd152 := hRS147.1.1
          obtain ⟨at153, ft154, h9_155⟩ := hRS147.2.1
          have h1_156 : mem143 1 = .inr (0, [.ref (ad 2), .int (nI Z)]) := (hRS147.2.2 1 (by omega)).trans hT.1
          have h2_157 : mem143 2 = .inl (cy 0, 240, .inl f) := (hRS147.2.2 2 (by omega)).trans hT.2.2
          have h5_158 := hRS147.1.2.1
          have hbd164 := hRS147.1.1
          obtain ⟨S159, g160, hS_161, h220_162, h221_163⟩ := hRS147.1.2.2.2.2.2.2
          obtain ⟨k165, lo166, hi167, as168, pa169, ne170, he_171, ho_172⟩ := (hRS147.1.2.2.2.2.2.1 la (by omega)).1
          obtain ⟨k173, lo174, hi175, as176, pa177, ne178, he_179, ho_180⟩ := (hRS147.1.2.2.2.2.2.1 kx144 (by omega)).1
          refine f_putN Bx hP hD hS (by omega) he_171 rfl inEl tyEl okEl nmEl 5 (by decide) kw_91 rfl rfl rfl rfl (Nat.le_of_ble_eq_true rfl) d_Rd_readAlternatives_58 (fun H locs hP hS => ?_)
          obtain ⟨mem181, e_mem181⟩ : ∃ z, z = va_up mem143 ((20 + 2 * la)) (.inr (2, [.int (k165), .int (lo166), .int (hi167), as168, pa169, .ref (ad (20 + 2 * kx144)), .ref (ad (21 + 2 * la))])) := ⟨_, rfl⟩
          have hP : va_P D vcl (fw n ad mem181) H := by rw [e_mem181]; exact hP
          have hD : va_D (Az sz) (fw n ad mem181) := fw_D hD
          have h_mem181 : mem181 ((20 + 2 * la)) = .inr (2, [.int (k165), .int (lo166), .int (hi167), as168, pa169, .ref (ad (20 + 2 * kx144)), .ref (ad (21 + 2 * la))]) := by rw [e_mem181, va_up_self]
          have hh182 := (va_up_ne mem143 (.inr (2, [.int (k165), .int (lo166), .int (hi167), as168, pa169, .ref (ad (20 + 2 * kx144)), .ref (ad (21 + 2 * la))])) (show (222 : Nat) ≠ (20 + 2 * la) by first | decide | assumption | omega)).trans h9_155
          rw [← e_mem181] at hh182
          have hh183 := (va_up_ne mem143 (.inr (2, [.int (k165), .int (lo166), .int (hi167), as168, pa169, .ref (ad (20 + 2 * kx144)), .ref (ad (21 + 2 * la))])) (show (1 : Nat) ≠ (20 + 2 * la) by first | decide | assumption | omega)).trans h1_156
          rw [← e_mem181] at hh183
          have hh184 := (va_up_ne mem143 (.inr (2, [.int (k165), .int (lo166), .int (hi167), as168, pa169, .ref (ad (20 + 2 * kx144)), .ref (ad (21 + 2 * la))])) (show (5 : Nat) ≠ (20 + 2 * la) by first | decide | assumption | omega)).trans h5_158
          rw [← e_mem181] at hh184
          have hh185 := (va_up_ne mem143 (.inr (2, [.int (k165), .int (lo166), .int (hi167), as168, pa169, .ref (ad (20 + 2 * kx144)), .ref (ad (21 + 2 * la))])) (show (220 : Nat) ≠ (20 + 2 * la) by first | decide | assumption | omega)).trans h220_162
          rw [← e_mem181] at hh185
          have hh186 := (va_up_ne mem143 (.inr (2, [.int (k165), .int (lo166), .int (hi167), as168, pa169, .ref (ad (20 + 2 * kx144)), .ref (ad (21 + 2 * la))])) (show ((20 + 2 * kx144) : Nat) ≠ (20 + 2 * la) by first | decide | assumption | omega)).trans he_179
          rw [← e_mem181] at hh186
          have hRS187 : RS cy ad lim rc145 ec146 m0 mem181 := by rw [e_mem181]; exact hRS147.mk (by omega) (hRS147.1.upEl (by omega) (fun q9 => ⟨(ho_172 q9).1, (ho_172 q9).2.1, Or.inr ⟨kx144, by omega, by omega, rfl⟩⟩))
          refine lv_aload_n Bx.1 Bx.2.1 d_Rd_readAlternatives_61 rfl (lv_at hl 1 rfl) ?_
          refine f_getN Bx hP (by omega) h_mem181 rfl inEl 5 (by decide) kw_91 rfl rfl d_Rd_readAlternatives_62 ?_
          refine lv_astore_n (lv' := [(3, .ref (ad (20 + 2 * kx144))), (4, .int (k9)), (2, .ref (ad (20 + 2 * kx15))), (0, .ref (ad 222)), (1, .int (2))]) Bx.1 Bx.2.1 d_Rd_readAlternatives_65 rfl hl (by decide) rfl (fun ls hl => ?_)
          refine lv_iinc (lv' := [(4, .int ((k9 + (1)))), (3, .ref (ad (20 + 2 * kx144))), (2, .ref (ad (20 + 2 * kx15))), (0, .ref (ad 222)), (1, .int (2))]) Bx.1 Bx.2.1 d_Rd_readAlternatives_66 hl (k := 1) rfl rfl (by decide) rfl (fun ls hl => ?_)
          refine lv_goto Bx.1 Bx.2.1 d_Rd_readAlternatives_69 rfl ?_
          exact ih _ _ _ _ _ _ _ _ (by have := inc_meas hk; omega) hRS187 ⟨by omega, by omega, by omega⟩ hP hD hS (lv_sub hl [0, 1, 2, 3, 4] rfl)
  exact loop90 _ _ _ _ _ _ _ _ _ (Nat.lt_succ_self _) hRS89 ⟨by omega, by omega, by omega⟩ hP hD hS (lv_sub hl [0, 1, 2, 3, 4] rfl)
set_option maxHeartbeats 4000000 in
set_option maxRecDepth 100000 in
theorem m_Rd_readBracket_1 (l : Launch) {D : va_G} {cy : Nat → ClassId} {sz n : Nat} {ad : Nat → Nat} {mem : Nat → va_E} {Z : Nat} {f : Nat → Int32} {lim rc ec : Nat} {m0 : Nat → va_E} {en : Int32} (hlt : l.stackTraces = false) (hn : 224 ≤ n) (hT : TX cy ad Z f m0) (hRS : RS cy ad lim rc ec m0 mem) : NXr l D cy sz n ad y_Rd_readBracket c_Rd_readBracket 4 (some (.object "AbnfChart$Element")) ({ frames := 44, cells := 1, slots := 6, locals := 1070 } : Room) mem [.ref (ad 222), .int (1), .int (en)] (fun r mem' => ∃ k rc' ec' : Nat, r = ad (20 + 2 * k) ∧ ec ≤ k ∧ k < ec' ∧ rc ≤ rc' ∧ RS cy ad lim rc' ec' m0 mem') (fun X mem' => (X = cIA ∨ X = cIS) ∧ ∃ rc' ec' : Nat, RS cy ad lim rc' ec' m0 mem') := by
  refine vx_ofW (cc := c_Rd_readBracket) (maxL := 4) (ret := (some (.object "AbnfChart$Element"))) (by decide) rfl ?_
  intro p e s m args below meth c s₁ B hml hno hv
  obtain ⟨rfl, E, hP, hD⟩ := hv
  have hx := B.exec
  have hb := B.bytes
  have hr := B.returns
  have hlocks := B.notSynchronized
  have Bx : MB p s m [.ref (ad 222), .int (1), .int (en)].toArray c c_Rd_readBracket "AbnfChart$Reader" D cy := ⟨hx, hb, tb_all (atoms_spec B.pre) E.2.1, findClass_of_methodNamed B.named, E.1⟩
  have hS : va_S (Az sz) s.heap s.heap [] := va_S.rf
  have hl := lv_entry ([.ref (ad 222), .int (1), .int (en)]) (n := 4) (Nat.le_of_ble_eq_true rfl)
  rw [lg_entry_eq]
  generalize (lg_sl ([.ref (ad 222), .int (1), .int (en)]) ++ List.replicate (4 - (lg_sl ([.ref (ad 222), .int (1), .int (en)])).length) Slot.unset).toArray = ls at hl ⊢
  have hl : lv_has ls 4 [(0, .ref (ad 222)), (1, .int (1)), (2, .int (en))] := hl
  obtain ⟨at1, ft2, h9_3⟩ := hRS.2.1
  have h1_4 : mem 1 = .inr (0, [.ref (ad 2), .int (nI Z)]) := (hRS.2.2 1 (by omega)).trans hT.1
  have h2_5 : mem 2 = .inl (cy 0, 240, .inl f) := (hRS.2.2 2 (by omega)).trans hT.2.2
  have h5_6 := hRS.1.2.1
  have hbd12 := hRS.1.1
  obtain ⟨S7, g8, hS_9, h220_10, h221_11⟩ := hRS.1.2.2.2.2.2.2
  refine lv_aload_n Bx.1 Bx.2.1 d_Rd_readBracket_0 rfl (lv_at hl 0 rfl) ?_
  refine lv_iload_n Bx.1 Bx.2.1 d_Rd_readBracket_1 rfl (lv_at hl 1 rfl) ?_
  refine lv_bipush (v := 6) Bx.1 Bx.2.1 d_Rd_readBracket_2 (by decide) ?_
  refine lv_icmp_ge Bx.1 Bx.2.1 d_Rd_readBracket_4 rfl (fun h8 => ?_) (fun h8 => ?_)
  · exact absurd h8 (by decide)
  · refine lv_iconst (v := 1) Bx.1 Bx.2.1 d_Rd_readBracket_7 (by decide) ?_
    refine lv_goto Bx.1 Bx.2.1 d_Rd_readBracket_8 rfl ?_
    refine lv_aload_n Bx.1 Bx.2.1 d_Rd_readBracket_12 rfl (lv_at hl 0 rfl) ?_
    refine f_get Bx hP (by omega) h9_3 rfl inRd 2 (by decide) kw_146 rfl rfl d_Rd_readBracket_13 ?_
    refine f_xVv (na := 2) (As := [.int (1), .int (at1)]) (rest := []) Bx hml E hP hD hS (by omega) h9_3 rfl (m_Rd_needRoom l hlt hn hT hRS) kw_383 kw_385 sel_Rd_needRoom kw_6 kw_386 (by decide +kernel) ⟨rfl, rfl⟩ ⟨Nat.le_of_ble_eq_true rfl, Nat.le_of_ble_eq_true rfl⟩ rfl hl.1 (Nat.le_of_ble_eq_true rfl) d_Rd_readBracket_16 ⟨Nat.le_of_ble_eq_true rfl, Nat.le_of_ble_eq_true rfl⟩ (fun X ce q9 memx H locs hx9 hP hS g1 g2 g3 => f_out hlocks hno hP hS g1 g2 g3 ⟨Nat.le_of_ble_eq_true rfl, Nat.le_of_ble_eq_true rfl⟩ hx9) (fun mem14 H locs hq hP hS => ?_)
    have hD : va_D (Az sz) (fw n ad mem14) := fw_D hD
    obtain ⟨hRS15, -, hg16⟩ := hq
    obtain ⟨at17, ft18, h9_19⟩ := hRS15.2.1
    have h1_20 : mem14 1 = .inr (0, [.ref (ad 2), .int (nI Z)]) := (hRS15.2.2 1 (by omega)).trans hT.1
    have h2_21 : mem14 2 = .inl (cy 0, 240, .inl f) := (hRS15.2.2 2 (by omega)).trans hT.2.2
    have h5_22 := hRS15.1.2.1
    have hbd28 := hRS15.1.1
    obtain ⟨S23, g24, hS_25, h220_26, h221_27⟩ := hRS15.1.2.2.2.2.2.2
    refine lv_aload_n Bx.1 Bx.2.1 d_Rd_readBracket_19 rfl (lv_at hl 0 rfl) ?_
    refine lv_dup Bx.1 Bx.2.1 d_Rd_readBracket_20 rfl ?_
    refine f_get Bx hP (by omega) h9_19 rfl inRd 2 (by decide) kw_146 rfl rfl d_Rd_readBracket_21 ?_
    refine lv_iconst (v := 1) Bx.1 Bx.2.1 d_Rd_readBracket_24 (by decide) ?_
    refine lv_iadd Bx.1 Bx.2.1 d_Rd_readBracket_25 ?_
    refine f_put Bx hP hD hS (by omega) h9_19 rfl inRd tyRd okRd nmRd 2 (by decide) kw_146 rfl rfl rfl rfl (Nat.le_of_ble_eq_true rfl) d_Rd_readBracket_26 (fun H locs hP hS => ?_)
    obtain ⟨mem29, e_mem29⟩ : ∃ z, z = va_up mem14 (222) (.inr (4, [.ref (ad 1), .ref (ad 5), .int (at17 + 1), .int (ft18)])) := ⟨_, rfl⟩
    have hP : va_P D vcl (fw n ad mem29) H := by rw [e_mem29]; exact hP
    have hD : va_D (Az sz) (fw n ad mem29) := fw_D hD
    have h_mem29 : mem29 (222) = .inr (4, [.ref (ad 1), .ref (ad 5), .int (at17 + 1), .int (ft18)]) := by rw [e_mem29, va_up_self]
    have hh30 := (va_up_ne mem14 (.inr (4, [.ref (ad 1), .ref (ad 5), .int (at17 + 1), .int (ft18)])) (show (1 : Nat) ≠ 222 by first | decide | assumption | omega)).trans h1_20
    rw [← e_mem29] at hh30
    have hh31 := (va_up_ne mem14 (.inr (4, [.ref (ad 1), .ref (ad 5), .int (at17 + 1), .int (ft18)])) (show (5 : Nat) ≠ 222 by first | decide | assumption | omega)).trans h5_22
    rw [← e_mem29] at hh31
    have hh32 := (va_up_ne mem14 (.inr (4, [.ref (ad 1), .ref (ad 5), .int (at17 + 1), .int (ft18)])) (show (220 : Nat) ≠ 222 by first | decide | assumption | omega)).trans h220_26
    rw [← e_mem29] at hh32
    have hRS33 : RS cy ad lim rc ec m0 mem29 := by rw [e_mem29]; exact hRS15.at222
    refine lv_aload_n Bx.1 Bx.2.1 d_Rd_readBracket_29 rfl (lv_at hl 0 rfl) ?_
    refine f_callVi (na := 0) (As := []) (rest := []) Bx hml E hP hD hS (by omega) h_mem29 rfl (m_Rd_readGap l hn hT hRS33) kw_397 kw_399 sel_Rd_readGap kw_6 kw_400 (by decide +kernel) ⟨rfl, rfl⟩ ⟨Nat.le_of_ble_eq_true rfl, Nat.le_of_ble_eq_true rfl⟩ rfl hl.1 (Nat.le_of_ble_eq_true rfl) d_Rd_readBracket_30 ⟨Nat.le_of_ble_eq_true rfl, Nat.le_of_ble_eq_true rfl⟩ (fun r35 mem36 H locs hRS34 hP hS => ?_)
    have hD : va_D (Az sz) (fw n ad mem36) := fw_D hD
    obtain ⟨at37, ft38, h9_39⟩ := hRS34.2.1
    have h1_40 : mem36 1 = .inr (0, [.ref (ad 2), .int (nI Z)]) := (hRS34.2.2 1 (by omega)).trans hT.1
    have h2_41 : mem36 2 = .inl (cy 0, 240, .inl f) := (hRS34.2.2 2 (by omega)).trans hT.2.2
    have h5_42 := hRS34.1.2.1
    have hbd48 := hRS34.1.1
    obtain ⟨S43, g44, hS_45, h220_46, h221_47⟩ := hRS34.1.2.2.2.2.2.2
    refine lv_pop Bx.1 Bx.2.1 d_Rd_readBracket_33 rfl ?_
    refine lv_aload_n Bx.1 Bx.2.1 d_Rd_readBracket_34 rfl (lv_at hl 0 rfl) ?_
    refine lv_iload_n Bx.1 Bx.2.1 d_Rd_readBracket_35 rfl (lv_at hl 1 rfl) ?_
    refine lv_iconst (v := 1) Bx.1 Bx.2.1 d_Rd_readBracket_36 (by decide) ?_
    refine lv_iadd Bx.1 Bx.2.1 d_Rd_readBracket_37 ?_
    rw [show (1 + 1 : Int32) = 2 from rfl]
    refine f_xVr (na := 1) (As := [.int (2)]) (rest := []) Bx hml E hP hD hS (by omega) h9_39 rfl (m_Rd_readAlternatives_2 l hlt hn hT hRS34) kw_405 kw_407 sel_Rd_readAlternatives kw_6 kw_408 (by decide +kernel) ⟨rfl, rfl⟩ ⟨Nat.le_of_ble_eq_true rfl, Nat.le_of_ble_eq_true rfl⟩ rfl hl.1 (Nat.le_of_ble_eq_true rfl) d_Rd_readBracket_38 ⟨Nat.le_of_ble_eq_true rfl, Nat.le_of_ble_eq_true rfl⟩ (fun X ce q9 memx H locs hx9 hP hS g1 g2 g3 => f_out hlocks hno hP hS g1 g2 g3 ⟨Nat.le_of_ble_eq_true rfl, Nat.le_of_ble_eq_true rfl⟩ hx9) (fun r49 mem50 H locs hq hP hS => ?_)
    have hD : va_D (Az sz) (fw n ad mem50) := fw_D hD
    obtain ⟨kx51, rc52, ec53, hr955, hb56, hb57, hb58, hRS54⟩ := hq
    subst hr955
    have hbd59 := hRS54.1.1
    obtain ⟨at60, ft61, h9_62⟩ := hRS54.2.1
    have h1_63 : mem50 1 = .inr (0, [.ref (ad 2), .int (nI Z)]) := (hRS54.2.2 1 (by omega)).trans hT.1
    have h2_64 : mem50 2 = .inl (cy 0, 240, .inl f) := (hRS54.2.2 2 (by omega)).trans hT.2.2
    have h5_65 := hRS54.1.2.1
    have hbd71 := hRS54.1.1
    obtain ⟨S66, g67, hS_68, h220_69, h221_70⟩ := hRS54.1.2.2.2.2.2.2
    obtain ⟨k72, lo73, hi74, as75, pa76, ne77, he_78, ho_79⟩ := (hRS54.1.2.2.2.2.2.1 kx51 (by omega)).1
    refine lv_astore_n (lv' := [(3, .ref (ad (20 + 2 * kx51))), (0, .ref (ad 222)), (1, .int (1)), (2, .int (en))]) Bx.1 Bx.2.1 d_Rd_readBracket_41 rfl hl (by decide) rfl (fun ls hl => ?_)
    refine lv_aload_n Bx.1 Bx.2.1 d_Rd_readBracket_42 rfl (lv_at hl 1 rfl) ?_
    refine lv_aload_n Bx.1 Bx.2.1 d_Rd_readBracket_43 rfl (lv_at hl 1 rfl) ?_
    refine f_callVi (na := 0) (As := []) (rest := [.ref (ad 222)]) Bx hml E hP hD hS (by omega) h9_62 rfl (m_Rd_peek l hn hT hRS54) kw_353 kw_355 sel_Rd_peek kw_6 kw_356 (by decide +kernel) ⟨rfl, rfl⟩ ⟨Nat.le_of_ble_eq_true rfl, Nat.le_of_ble_eq_true rfl⟩ rfl hl.1 (Nat.le_of_ble_eq_true rfl) d_Rd_readBracket_44 ⟨Nat.le_of_ble_eq_true rfl, Nat.le_of_ble_eq_true rfl⟩ (fun r80 mem81 H locs hq hP hS => ?_)
    have hD : va_D (Az sz) (fw n ad mem81) := fw_D hD
    rw [hq] at hP hD
    refine lv_iload_n Bx.1 Bx.2.1 d_Rd_readBracket_47 rfl (lv_at hl 3 rfl) ?_
    have J83 : ∀ (jv82 : Int32) (H : Heap) (locs : List Loc), va_P D vcl (fw n ad mem50) H → va_D (Az sz) (fw n ad mem50) → va_S (Az sz) s.heap H locs → W p l e (headSpec (Cond.code y_Rd_readBracket c_Rd_readBracket 4 (some (.object "AbnfChart$Element")) :: tg) ({ frames := 44, cells := 1, slots := 6, locals := 1070 } : Room)).room s m [.ref (ad 222), .int (1), .int (en)].toArray below meth c H locs 0 0 (vx_MQ below (QX (QR (fun r mem' => ∃ k rc' ec' : Nat, r = ad (20 + 2 * k) ∧ ec ≤ k ∧ k < ec' ∧ rc ≤ rc' ∧ RS cy ad lim rc' ec' m0 mem') (PP D n ad) (Az sz))) (XQ D sz n ad (fun X mem' => (X = cIA ∨ X = cIS) ∧ ∃ rc' ec' : Nat, RS cy ad lim rc' ec' m0 mem')) [.ref (ad 222), .int (1), .int (en)].toArray s 1 6 (Az sz)) (F0 m 56 ls [.int (jv82), .ref (ad 222)]) := by
      intro jv82 H locs hP hD hS
      refine lv_aload_n Bx.1 Bx.2.1 d_Rd_readBracket_56 rfl (lv_at hl 1 rfl) ?_
      refine f_get Bx hP (by omega) h9_62 rfl inRd 2 (by decide) kw_146 rfl rfl d_Rd_readBracket_57 ?_
      refine f_xVv (na := 2) (As := [.int (jv82), .int (at60)]) (rest := []) Bx hml E hP hD hS (by omega) h9_62 rfl (m_Rd_needReadable l hlt hn hT hRS54) kw_360 kw_362 sel_Rd_needReadable kw_6 kw_363 (by decide +kernel) ⟨rfl, rfl⟩ ⟨Nat.le_of_ble_eq_true rfl, Nat.le_of_ble_eq_true rfl⟩ rfl hl.1 (Nat.le_of_ble_eq_true rfl) d_Rd_readBracket_60 ⟨Nat.le_of_ble_eq_true rfl, Nat.le_of_ble_eq_true rfl⟩ (fun X ce q9 memx H locs hx9 hP hS g1 g2 g3 => f_out hlocks hno hP hS g1 g2 g3 ⟨Nat.le_of_ble_eq_true rfl, Nat.le_of_ble_eq_true rfl⟩ hx9) (fun mem85 H locs hq hP hS => ?_)
      have hD : va_D (Az sz) (fw n ad mem85) := fw_D hD
      obtain ⟨hRS86, -, hg87⟩ := hq
      obtain ⟨at88, ft89, h9_90⟩ := hRS86.2.1
      have h1_91 : mem85 1 = .inr (0, [.ref (ad 2), .int (nI Z)]) := (hRS86.2.2 1 (by omega)).trans hT.1
      have h2_92 : mem85 2 = .inl (cy 0, 240, .inl f) := (hRS86.2.2 2 (by omega)).trans hT.2.2
      have h5_93 := hRS86.1.2.1
      have hbd99 := hRS86.1.1
      obtain ⟨S94, g95, hS_96, h220_97, h221_98⟩ := hRS86.1.2.2.2.2.2.2
      obtain ⟨k100, lo101, hi102, as103, pa104, ne105, he_106, ho_107⟩ := (hRS86.1.2.2.2.2.2.1 kx51 (by omega)).1
      refine lv_aload_n Bx.1 Bx.2.1 d_Rd_readBracket_63 rfl (lv_at hl 1 rfl) ?_
      refine lv_dup Bx.1 Bx.2.1 d_Rd_readBracket_64 rfl ?_
      refine f_get Bx hP (by omega) h9_90 rfl inRd 2 (by decide) kw_146 rfl rfl d_Rd_readBracket_65 ?_
      refine lv_iconst (v := 1) Bx.1 Bx.2.1 d_Rd_readBracket_68 (by decide) ?_
      refine lv_iadd Bx.1 Bx.2.1 d_Rd_readBracket_69 ?_
      refine f_put Bx hP hD hS (by omega) h9_90 rfl inRd tyRd okRd nmRd 2 (by decide) kw_146 rfl rfl rfl rfl (Nat.le_of_ble_eq_true rfl) d_Rd_readBracket_70 (fun H locs hP hS => ?_)
      obtain ⟨mem108, e_mem108⟩ : ∃ z, z = va_up mem85 (222) (.inr (4, [.ref (ad 1), .ref (ad 5), .int (at88 + 1), .int (ft89)])) := ⟨_, rfl⟩
      have hP : va_P D vcl (fw n ad mem108) H := by rw [e_mem108]; exact hP
      have hD : va_D (Az sz) (fw n ad mem108) := fw_D hD
      have h_mem108 : mem108 (222) = .inr (4, [.ref (ad 1), .ref (ad 5), .int (at88 + 1), .int (ft89)]) := by rw [e_mem108, va_up_self]
      have hh109 := (va_up_ne mem85 (.inr (4, [.ref (ad 1), .ref (ad 5), .int (at88 + 1), .int (ft89)])) (show (1 : Nat) ≠ 222 by first | decide | assumption | omega)).trans h1_91
      rw [← e_mem108] at hh109
      have hh110 := (va_up_ne mem85 (.inr (4, [.ref (ad 1), .ref (ad 5), .int (at88 + 1), .int (ft89)])) (show (5 : Nat) ≠ 222 by first | decide | assumption | omega)).trans h5_93
      rw [← e_mem108] at hh110
      have hh111 := (va_up_ne mem85 (.inr (4, [.ref (ad 1), .ref (ad 5), .int (at88 + 1), .int (ft89)])) (show (220 : Nat) ≠ 222 by first | decide | assumption | omega)).trans h220_97
      rw [← e_mem108] at hh111
      have hh112 := (va_up_ne mem85 (.inr (4, [.ref (ad 1), .ref (ad 5), .int (at88 + 1), .int (ft89)])) (show ((20 + 2 * kx51) : Nat) ≠ 222 by first | decide | assumption | omega)).trans he_106
      rw [← e_mem108] at hh112
      have hRS113 : RS cy ad lim rc52 ec53 m0 mem108 := by rw [e_mem108]; exact hRS86.at222
      refine lv_aload_n Bx.1 Bx.2.1 d_Rd_readBracket_73 rfl (lv_at hl 0 rfl) ?_
      exact x_aret hx hb hlocks hr (⟨kx51, rc52, ec53, rfl, by omega, by omega, by omega, hRS113⟩) hP hS d_Rd_readBracket_74
    refine lv_icmp_ne Bx.1 Bx.2.1 d_Rd_readBracket_48 rfl (fun h8 => ?_) (fun h8 => ?_)
    · refine lv_iconst (v := 0) Bx.1 Bx.2.1 d_Rd_readBracket_55 (by decide) ?_
      exact J83 _ _ _ hP hD hS
    · refine lv_iconst (v := 1) Bx.1 Bx.2.1 d_Rd_readBracket_51 (by decide) ?_
      refine lv_goto Bx.1 Bx.2.1 d_Rd_readBracket_52 rfl ?_
      exact J83 _ _ _ hP hD hS
set_option maxHeartbeats 4000000 in
set_option maxRecDepth 100000 in
theorem m_Rd_readOption_1 (l : Launch) {D : va_G} {cy : Nat → ClassId} {sz n : Nat} {ad : Nat → Nat} {mem : Nat → va_E} {Z : Nat} {f : Nat → Int32} {lim rc ec : Nat} {m0 : Nat → va_E} (hlt : l.stackTraces = false) (hn : 224 ≤ n) (hT : TX cy ad Z f m0) (hRS : RS cy ad lim rc ec m0 mem) : NXr l D cy sz n ad y_Rd_readOption c_Rd_readOption 3 (some (.object "AbnfChart$Element")) ({ frames := 45, cells := 1, slots := 6, locals := 1093 } : Room) mem [.ref (ad 222), .int (1)] (fun r mem' => ∃ k rc' ec' : Nat, r = ad (20 + 2 * k) ∧ ec ≤ k ∧ k < ec' ∧ rc ≤ rc' ∧ RS cy ad lim rc' ec' m0 mem') (fun X mem' => (X = cIA ∨ X = cIS) ∧ ∃ rc' ec' : Nat, RS cy ad lim rc' ec' m0 mem') := by
  refine vx_ofW (cc := c_Rd_readOption) (maxL := 3) (ret := (some (.object "AbnfChart$Element"))) (by decide) rfl ?_
  intro p e s m args below meth c s₁ B hml hno hv
  obtain ⟨rfl, E, hP, hD⟩ := hv
  have hx := B.exec
  have hb := B.bytes
  have hr := B.returns
  have hlocks := B.notSynchronized
  have Bx : MB p s m [.ref (ad 222), .int (1)].toArray c c_Rd_readOption "AbnfChart$Reader" D cy := ⟨hx, hb, tb_all (atoms_spec B.pre) E.2.1, findClass_of_methodNamed B.named, E.1⟩
  have hS : va_S (Az sz) s.heap s.heap [] := va_S.rf
  have hl := lv_entry ([.ref (ad 222), .int (1)]) (n := 3) (Nat.le_of_ble_eq_true rfl)
  rw [lg_entry_eq]
  generalize (lg_sl ([.ref (ad 222), .int (1)]) ++ List.replicate (3 - (lg_sl ([.ref (ad 222), .int (1)])).length) Slot.unset).toArray = ls at hl ⊢
  have hl : lv_has ls 3 [(0, .ref (ad 222)), (1, .int (1))] := hl
  obtain ⟨at1, ft2, h9_3⟩ := hRS.2.1
  have h1_4 : mem 1 = .inr (0, [.ref (ad 2), .int (nI Z)]) := (hRS.2.2 1 (by omega)).trans hT.1
  have h2_5 : mem 2 = .inl (cy 0, 240, .inl f) := (hRS.2.2 2 (by omega)).trans hT.2.2
  have h5_6 := hRS.1.2.1
  have hbd12 := hRS.1.1
  obtain ⟨S7, g8, hS_9, h220_10, h221_11⟩ := hRS.1.2.2.2.2.2.2
  refine lv_aload_n Bx.1 Bx.2.1 d_Rd_readOption_0 rfl (lv_at hl 0 rfl) ?_
  refine lv_iconst (v := 3) Bx.1 Bx.2.1 d_Rd_readOption_1 (by decide) ?_
  refine lv_aload_n Bx.1 Bx.2.1 d_Rd_readOption_2 rfl (lv_at hl 0 rfl) ?_
  refine f_get Bx hP (by omega) h9_3 rfl inRd 2 (by decide) kw_146 rfl rfl d_Rd_readOption_3 ?_
  refine f_xVr (na := 2) (As := [.int (3), .int (at1)]) (rest := []) Bx hml E hP hD hS (by omega) h9_3 rfl (m_Rd_addElement l hlt hn hT hRS) kw_419 kw_421 sel_Rd_addElement kw_6 kw_422 (by decide +kernel) ⟨rfl, rfl⟩ ⟨Nat.le_of_ble_eq_true rfl, Nat.le_of_ble_eq_true rfl⟩ rfl hl.1 (Nat.le_of_ble_eq_true rfl) d_Rd_readOption_6 ⟨Nat.le_of_ble_eq_true rfl, Nat.le_of_ble_eq_true rfl⟩ (fun X ce q9 memx H locs hx9 hP hS g1 g2 g3 => f_out hlocks hno hP hS g1 g2 g3 ⟨Nat.le_of_ble_eq_true rfl, Nat.le_of_ble_eq_true rfl⟩ hx9) (fun r13 mem14 H locs hq hP hS => ?_)
  have hD : va_D (Az sz) (fw n ad mem14) := fw_D hD
  obtain ⟨hr917, hec16, hRS15⟩ := hq
  subst hr917
  obtain ⟨at18, ft19, h9_20⟩ := hRS15.2.1
  have h1_21 : mem14 1 = .inr (0, [.ref (ad 2), .int (nI Z)]) := (hRS15.2.2 1 (by omega)).trans hT.1
  have h2_22 : mem14 2 = .inl (cy 0, 240, .inl f) := (hRS15.2.2 2 (by omega)).trans hT.2.2
  have h5_23 := hRS15.1.2.1
  have hbd29 := hRS15.1.1
  obtain ⟨S24, g25, hS_26, h220_27, h221_28⟩ := hRS15.1.2.2.2.2.2.2
  obtain ⟨k30, lo31, hi32, as33, pa34, ne35, he_36, ho_37⟩ := (hRS15.1.2.2.2.2.2.1 ec (by omega)).1
  refine lv_astore_n (lv' := [(2, .ref (ad (20 + 2 * ec))), (0, .ref (ad 222)), (1, .int (1))]) Bx.1 Bx.2.1 d_Rd_readOption_9 rfl hl (by decide) rfl (fun ls hl => ?_)
  refine lv_aload_n Bx.1 Bx.2.1 d_Rd_readOption_10 rfl (lv_at hl 0 rfl) ?_
  refine lv_aload_n Bx.1 Bx.2.1 d_Rd_readOption_11 rfl (lv_at hl 1 rfl) ?_
  refine lv_iload_n Bx.1 Bx.2.1 d_Rd_readOption_12 rfl (lv_at hl 2 rfl) ?_
  refine lv_bipush (v := 93) Bx.1 Bx.2.1 d_Rd_readOption_13 (by decide) ?_
  refine f_xVr (na := 2) (As := [.int (1), .int (93)]) (rest := [.ref (ad (20 + 2 * ec))]) Bx hml E hP hD hS (by omega) h9_20 rfl (m_Rd_readBracket_1 l hlt hn hT hRS15) kw_447 kw_449 sel_Rd_readBracket kw_6 kw_450 (by decide +kernel) ⟨rfl, rfl⟩ ⟨Nat.le_of_ble_eq_true rfl, Nat.le_of_ble_eq_true rfl⟩ rfl hl.1 (Nat.le_of_ble_eq_true rfl) d_Rd_readOption_15 ⟨Nat.le_of_ble_eq_true rfl, Nat.le_of_ble_eq_true rfl⟩ (fun X ce q9 memx H locs hx9 hP hS g1 g2 g3 => f_out hlocks hno hP hS g1 g2 g3 ⟨Nat.le_of_ble_eq_true rfl, Nat.le_of_ble_eq_true rfl⟩ hx9) (fun r38 mem39 H locs hq hP hS => ?_)
  have hD : va_D (Az sz) (fw n ad mem39) := fw_D hD
  obtain ⟨kx40, rc41, ec42, hr944, hb45, hb46, hb47, hRS43⟩ := hq
  subst hr944
  have hbd48 := hRS43.1.1
  obtain ⟨at49, ft50, h9_51⟩ := hRS43.2.1
  have h1_52 : mem39 1 = .inr (0, [.ref (ad 2), .int (nI Z)]) := (hRS43.2.2 1 (by omega)).trans hT.1
  have h2_53 : mem39 2 = .inl (cy 0, 240, .inl f) := (hRS43.2.2 2 (by omega)).trans hT.2.2
  have h5_54 := hRS43.1.2.1
  have hbd60 := hRS43.1.1
  obtain ⟨S55, g56, hS_57, h220_58, h221_59⟩ := hRS43.1.2.2.2.2.2.2
  obtain ⟨k61, lo62, hi63, as64, pa65, ne66, he_67, ho_68⟩ := (hRS43.1.2.2.2.2.2.1 ec (by omega)).1
  obtain ⟨k69, lo70, hi71, as72, pa73, ne74, he_75, ho_76⟩ := (hRS43.1.2.2.2.2.2.1 kx40 (by omega)).1
  refine f_putN Bx hP hD hS (by omega) he_67 rfl inEl tyEl okEl nmEl 4 (by decide) kw_87 rfl rfl rfl rfl (Nat.le_of_ble_eq_true rfl) d_Rd_readOption_18 (fun H locs hP hS => ?_)
  obtain ⟨mem77, e_mem77⟩ : ∃ z, z = va_up mem39 ((20 + 2 * ec)) (.inr (2, [.int (k61), .int (lo62), .int (hi63), as64, .ref (ad (20 + 2 * kx40)), ne66, .ref (ad (21 + 2 * ec))])) := ⟨_, rfl⟩
  have hP : va_P D vcl (fw n ad mem77) H := by rw [e_mem77]; exact hP
  have hD : va_D (Az sz) (fw n ad mem77) := fw_D hD
  have h_mem77 : mem77 ((20 + 2 * ec)) = .inr (2, [.int (k61), .int (lo62), .int (hi63), as64, .ref (ad (20 + 2 * kx40)), ne66, .ref (ad (21 + 2 * ec))]) := by rw [e_mem77, va_up_self]
  have hh78 := (va_up_ne mem39 (.inr (2, [.int (k61), .int (lo62), .int (hi63), as64, .ref (ad (20 + 2 * kx40)), ne66, .ref (ad (21 + 2 * ec))])) (show (222 : Nat) ≠ (20 + 2 * ec) by first | decide | assumption | omega)).trans h9_51
  rw [← e_mem77] at hh78
  have hh79 := (va_up_ne mem39 (.inr (2, [.int (k61), .int (lo62), .int (hi63), as64, .ref (ad (20 + 2 * kx40)), ne66, .ref (ad (21 + 2 * ec))])) (show (1 : Nat) ≠ (20 + 2 * ec) by first | decide | assumption | omega)).trans h1_52
  rw [← e_mem77] at hh79
  have hh80 := (va_up_ne mem39 (.inr (2, [.int (k61), .int (lo62), .int (hi63), as64, .ref (ad (20 + 2 * kx40)), ne66, .ref (ad (21 + 2 * ec))])) (show (5 : Nat) ≠ (20 + 2 * ec) by first | decide | assumption | omega)).trans h5_54
  rw [← e_mem77] at hh80
  have hh81 := (va_up_ne mem39 (.inr (2, [.int (k61), .int (lo62), .int (hi63), as64, .ref (ad (20 + 2 * kx40)), ne66, .ref (ad (21 + 2 * ec))])) (show (220 : Nat) ≠ (20 + 2 * ec) by first | decide | assumption | omega)).trans h220_58
  rw [← e_mem77] at hh81
  have hh82 := (va_up_ne mem39 (.inr (2, [.int (k61), .int (lo62), .int (hi63), as64, .ref (ad (20 + 2 * kx40)), ne66, .ref (ad (21 + 2 * ec))])) (show ((20 + 2 * kx40) : Nat) ≠ (20 + 2 * ec) by first | decide | assumption | omega)).trans he_75
  rw [← e_mem77] at hh82
  have hRS83 : RS cy ad lim rc41 ec42 m0 mem77 := by rw [e_mem77]; exact hRS43.mk (by omega) (hRS43.1.upEl (by omega) (fun q9 => ⟨(ho_68 q9).1, Or.inr ⟨kx40, by omega, by omega, rfl⟩, (ho_68 q9).2.2⟩))
  refine lv_aload_n Bx.1 Bx.2.1 d_Rd_readOption_21 rfl (lv_at hl 0 rfl) ?_
  exact x_aret hx hb hlocks hr (⟨ec, rc41, ec42, rfl, by omega, by omega, by omega, hRS83⟩) hP hS d_Rd_readOption_22
set_option maxHeartbeats 4000000 in
set_option maxRecDepth 100000 in
theorem m_Rd_readElement_1 (l : Launch) {D : va_G} {cy : Nat → ClassId} {sz n : Nat} {ad : Nat → Nat} {mem : Nat → va_E} {Z : Nat} {f : Nat → Int32} {lim rc ec : Nat} {m0 : Nat → va_E} (hlt : l.stackTraces = false) (hn : 224 ≤ n) (hT : TX cy ad Z f m0) (hRS : RS cy ad lim rc ec m0 mem) : NXr l D cy sz n ad y_Rd_readElement c_Rd_readElement 2 (some (.object "AbnfChart$Element")) ({ frames := 46, cells := 1, slots := 6, locals := 1116 } : Room) mem [.ref (ad 222), .int (1)] (fun r mem' => ∃ k rc' ec' : Nat, r = ad (20 + 2 * k) ∧ ec ≤ k ∧ k < ec' ∧ rc ≤ rc' ∧ RS cy ad lim rc' ec' m0 mem') (fun X mem' => (X = cIA ∨ X = cIS) ∧ ∃ rc' ec' : Nat, RS cy ad lim rc' ec' m0 mem') := by
  refine vx_ofW (cc := c_Rd_readElement) (maxL := 2) (ret := (some (.object "AbnfChart$Element"))) (by decide) rfl ?_
  intro p e s m args below meth c s₁ B hml hno hv
  obtain ⟨rfl, E, hP, hD⟩ := hv
  have hx := B.exec
  have hb := B.bytes
  have hr := B.returns
  have hlocks := B.notSynchronized
  have Bx : MB p s m [.ref (ad 222), .int (1)].toArray c c_Rd_readElement "AbnfChart$Reader" D cy := ⟨hx, hb, tb_all (atoms_spec B.pre) E.2.1, findClass_of_methodNamed B.named, E.1⟩
  have hS : va_S (Az sz) s.heap s.heap [] := va_S.rf
  have hl := lv_entry ([.ref (ad 222), .int (1)]) (n := 2) (Nat.le_of_ble_eq_true rfl)
  rw [lg_entry_eq]
  generalize (lg_sl ([.ref (ad 222), .int (1)]) ++ List.replicate (2 - (lg_sl ([.ref (ad 222), .int (1)])).length) Slot.unset).toArray = ls at hl ⊢
  have hl : lv_has ls 2 [(0, .ref (ad 222)), (1, .int (1))] := hl
  obtain ⟨at1, ft2, h9_3⟩ := hRS.2.1
  have h1_4 : mem 1 = .inr (0, [.ref (ad 2), .int (nI Z)]) := (hRS.2.2 1 (by omega)).trans hT.1
  have h2_5 : mem 2 = .inl (cy 0, 240, .inl f) := (hRS.2.2 2 (by omega)).trans hT.2.2
  have h5_6 := hRS.1.2.1
  have hbd12 := hRS.1.1
  obtain ⟨S7, g8, hS_9, h220_10, h221_11⟩ := hRS.1.2.2.2.2.2.2
  refine lv_aload_n Bx.1 Bx.2.1 d_Rd_readElement_0 rfl (lv_at hl 0 rfl) ?_
  refine f_callVi (na := 0) (As := []) (rest := []) Bx hml E hP hD hS (by omega) h9_3 rfl (m_Rd_peek l hn hT hRS) kw_353 kw_355 sel_Rd_peek kw_6 kw_356 (by decide +kernel) ⟨rfl, rfl⟩ ⟨Nat.le_of_ble_eq_true rfl, Nat.le_of_ble_eq_true rfl⟩ rfl hl.1 (Nat.le_of_ble_eq_true rfl) d_Rd_readElement_1 ⟨Nat.le_of_ble_eq_true rfl, Nat.le_of_ble_eq_true rfl⟩ (fun r13 mem14 H locs hq hP hS => ?_)
  have hD : va_D (Az sz) (fw n ad mem14) := fw_D hD
  rw [hq] at hP hD
  refine lv_topi (fun v15 e_v15 => ?_)
  by_cases c34 : v15 = 34
  · rw [c34]
    refine lv_lookup (off := 58) (tgt := 62) Bx.1 Bx.2.1 d_Rd_readElement_4 (by decide) (by decide) rfl ?_
    refine lv_aload_n Bx.1 Bx.2.1 d_Rd_readElement_62 rfl (lv_at hl 0 rfl) ?_
    refine lv_aload_n Bx.1 Bx.2.1 d_Rd_readElement_63 rfl (lv_at hl 0 rfl) ?_
    refine f_get Bx hP (by omega) h9_3 rfl inRd 2 (by decide) kw_146 rfl rfl d_Rd_readElement_64 ?_
    refine lv_iconst (v := 5) Bx.1 Bx.2.1 d_Rd_readElement_67 (by decide) ?_
    refine f_xVr (na := 2) (As := [.int (at1), .int (5)]) (rest := []) Bx hml E hP hD hS (by omega) h9_3 rfl (m_Rd_readString l hlt hn hT hRS) kw_455 kw_457 sel_Rd_readString kw_6 kw_458 (by decide +kernel) ⟨rfl, rfl⟩ ⟨Nat.le_of_ble_eq_true rfl, Nat.le_of_ble_eq_true rfl⟩ rfl hl.1 (Nat.le_of_ble_eq_true rfl) d_Rd_readElement_68 ⟨Nat.le_of_ble_eq_true rfl, Nat.le_of_ble_eq_true rfl⟩ (fun X ce q9 memx H locs hx9 hP hS g1 g2 g3 => f_out hlocks hno hP hS g1 g2 g3 ⟨Nat.le_of_ble_eq_true rfl, Nat.le_of_ble_eq_true rfl⟩ hx9) (fun r16 mem17 H locs hq hP hS => ?_)
    have hD : va_D (Az sz) (fw n ad mem17) := fw_D hD
    obtain ⟨kx18, rc19, ec20, hr922, hb23, hb24, hb25, hRS21⟩ := hq
    subst hr922
    have hbd26 := hRS21.1.1
    obtain ⟨at27, ft28, h9_29⟩ := hRS21.2.1
    have h1_30 : mem17 1 = .inr (0, [.ref (ad 2), .int (nI Z)]) := (hRS21.2.2 1 (by omega)).trans hT.1
    have h2_31 : mem17 2 = .inl (cy 0, 240, .inl f) := (hRS21.2.2 2 (by omega)).trans hT.2.2
    have h5_32 := hRS21.1.2.1
    have hbd38 := hRS21.1.1
    obtain ⟨S33, g34, hS_35, h220_36, h221_37⟩ := hRS21.1.2.2.2.2.2.2
    obtain ⟨k39, lo40, hi41, as42, pa43, ne44, he_45, ho_46⟩ := (hRS21.1.2.2.2.2.2.1 kx18 (by omega)).1
    exact x_aret hx hb hlocks hr (⟨kx18, rc19, ec20, rfl, by omega, by omega, by omega, hRS21⟩) hP hS d_Rd_readElement_71
  by_cases c37 : v15 = 37
  · rw [c37]
    refine lv_lookup (off := 68) (tgt := 72) Bx.1 Bx.2.1 d_Rd_readElement_4 (by decide) (by decide) rfl ?_
    refine lv_aload_n Bx.1 Bx.2.1 d_Rd_readElement_72 rfl (lv_at hl 0 rfl) ?_
    refine f_get Bx hP (by omega) h9_3 rfl inRd 0 (by decide) kw_144 rfl rfl d_Rd_readElement_73 ?_
    refine lv_aload_n Bx.1 Bx.2.1 d_Rd_readElement_76 rfl (lv_at hl 0 rfl) ?_
    refine f_get Bx hP (by omega) h9_3 rfl inRd 2 (by decide) kw_146 rfl rfl d_Rd_readElement_77 ?_
    refine lv_iconst (v := 1) Bx.1 Bx.2.1 d_Rd_readElement_80 (by decide) ?_
    refine lv_iadd Bx.1 Bx.2.1 d_Rd_readElement_81 ?_
    refine f_callVi (na := 1) (As := [.int (at1 + 1)]) (rest := []) Bx hml E hP hD hS (by omega) h1_4 rfl (m_Ch_codeAt l (by omega) h1_4 (by omega) h2_5 (by rw [nI_toInt (by have := hT.2.1; omega)]; have := hT.2.1; omega)) kw_341 kw_342 kw_343 kw_2 kw_344 (by decide +kernel) ⟨rfl, rfl⟩ ⟨Nat.le_of_ble_eq_true rfl, Nat.le_of_ble_eq_true rfl⟩ rfl hl.1 (Nat.le_of_ble_eq_true rfl) d_Rd_readElement_82 ⟨Nat.le_of_ble_eq_true rfl, Nat.le_of_ble_eq_true rfl⟩ (fun r47 mem48 H locs hq hP hS => ?_)
    have hD : va_D (Az sz) (fw n ad mem48) := fw_D hD
    rw [hq.2] at hP hD
    refine f_callSNi (na := 1) (As := [.int (r47)]) (rest := []) Bx hml E.2.1 (m_Ab_smallOf l (r47)) kw_372 kw_373 kw_1 kw_374 (by decide +kernel) ⟨rfl, rfl⟩ ⟨Nat.le_of_ble_eq_true rfl, Nat.le_of_ble_eq_true rfl⟩ rfl hl.1 (Nat.le_of_ble_eq_true rfl) d_Rd_readElement_85 ⟨Nat.le_of_ble_eq_true rfl, Nat.le_of_ble_eq_true rfl⟩ (fun r50 hs49 => ?_)
    refine lv_bipush (v := 115) Bx.1 Bx.2.1 d_Rd_readElement_88 (by decide) ?_
    refine lv_icmp_ne Bx.1 Bx.2.1 d_Rd_readElement_90 rfl (fun h8 => ?_) (fun h8 => ?_)
    · refine lv_aload_n Bx.1 Bx.2.1 d_Rd_readElement_100 rfl (lv_at hl 0 rfl) ?_
      refine f_xVr (na := 0) (As := []) (rest := []) Bx hml E hP hD hS (by omega) h9_3 rfl (m_Rd_readValue l hlt hn hT hRS) kw_467 kw_469 sel_Rd_readValue kw_6 kw_470 (by decide +kernel) ⟨rfl, rfl⟩ ⟨Nat.le_of_ble_eq_true rfl, Nat.le_of_ble_eq_true rfl⟩ rfl hl.1 (Nat.le_of_ble_eq_true rfl) d_Rd_readElement_101 ⟨Nat.le_of_ble_eq_true rfl, Nat.le_of_ble_eq_true rfl⟩ (fun X ce q9 memx H locs hx9 hP hS g1 g2 g3 => f_out hlocks hno hP hS g1 g2 g3 ⟨Nat.le_of_ble_eq_true rfl, Nat.le_of_ble_eq_true rfl⟩ hx9) (fun r51 mem52 H locs hq hP hS => ?_)
      have hD : va_D (Az sz) (fw n ad mem52) := fw_D hD
      obtain ⟨kx53, rc54, ec55, hr957, hb58, hb59, hb60, hRS56⟩ := hq
      subst hr957
      have hbd61 := hRS56.1.1
      obtain ⟨at62, ft63, h9_64⟩ := hRS56.2.1
      have h1_65 : mem52 1 = .inr (0, [.ref (ad 2), .int (nI Z)]) := (hRS56.2.2 1 (by omega)).trans hT.1
      have h2_66 : mem52 2 = .inl (cy 0, 240, .inl f) := (hRS56.2.2 2 (by omega)).trans hT.2.2
      have h5_67 := hRS56.1.2.1
      have hbd73 := hRS56.1.1
      obtain ⟨S68, g69, hS_70, h220_71, h221_72⟩ := hRS56.1.2.2.2.2.2.2
      obtain ⟨k74, lo75, hi76, as77, pa78, ne79, he_80, ho_81⟩ := (hRS56.1.2.2.2.2.2.1 kx53 (by omega)).1
      exact x_aret hx hb hlocks hr (⟨kx53, rc54, ec55, rfl, by omega, by omega, by omega, hRS56⟩) hP hS d_Rd_readElement_104
    · refine lv_aload_n Bx.1 Bx.2.1 d_Rd_readElement_93 rfl (lv_at hl 0 rfl) ?_
      refine f_xVr (na := 0) (As := []) (rest := []) Bx hml E hP hD hS (by omega) h9_3 rfl (m_Rd_readExactString l hlt hn hT hRS) kw_463 kw_465 sel_Rd_readExactString kw_6 kw_466 (by decide +kernel) ⟨rfl, rfl⟩ ⟨Nat.le_of_ble_eq_true rfl, Nat.le_of_ble_eq_true rfl⟩ rfl hl.1 (Nat.le_of_ble_eq_true rfl) d_Rd_readElement_94 ⟨Nat.le_of_ble_eq_true rfl, Nat.le_of_ble_eq_true rfl⟩ (fun X ce q9 memx H locs hx9 hP hS g1 g2 g3 => f_out hlocks hno hP hS g1 g2 g3 ⟨Nat.le_of_ble_eq_true rfl, Nat.le_of_ble_eq_true rfl⟩ hx9) (fun r82 mem83 H locs hq hP hS => ?_)
      have hD : va_D (Az sz) (fw n ad mem83) := fw_D hD
      obtain ⟨kx84, rc85, ec86, hr988, hb89, hb90, hb91, hRS87⟩ := hq
      subst hr988
      have hbd92 := hRS87.1.1
      obtain ⟨at93, ft94, h9_95⟩ := hRS87.2.1
      have h1_96 : mem83 1 = .inr (0, [.ref (ad 2), .int (nI Z)]) := (hRS87.2.2 1 (by omega)).trans hT.1
      have h2_97 : mem83 2 = .inl (cy 0, 240, .inl f) := (hRS87.2.2 2 (by omega)).trans hT.2.2
      have h5_98 := hRS87.1.2.1
      have hbd104 := hRS87.1.1
      obtain ⟨S99, g100, hS_101, h220_102, h221_103⟩ := hRS87.1.2.2.2.2.2.2
      obtain ⟨k105, lo106, hi107, as108, pa109, ne110, he_111, ho_112⟩ := (hRS87.1.2.2.2.2.2.1 kx84 (by omega)).1
      refine lv_goto Bx.1 Bx.2.1 d_Rd_readElement_97 rfl ?_
      exact x_aret hx hb hlocks hr (⟨kx84, rc85, ec86, rfl, by omega, by omega, by omega, hRS87⟩) hP hS d_Rd_readElement_104
  by_cases c40 : v15 = 40
  · rw [c40]
    refine lv_lookup (off := 44) (tgt := 48) Bx.1 Bx.2.1 d_Rd_readElement_4 (by decide) (by decide) rfl ?_
    refine lv_aload_n Bx.1 Bx.2.1 d_Rd_readElement_48 rfl (lv_at hl 0 rfl) ?_
    refine lv_iload_n Bx.1 Bx.2.1 d_Rd_readElement_49 rfl (lv_at hl 1 rfl) ?_
    refine lv_bipush (v := 41) Bx.1 Bx.2.1 d_Rd_readElement_50 (by decide) ?_
    refine f_xVr (na := 2) (As := [.int (1), .int (41)]) (rest := []) Bx hml E hP hD hS (by omega) h9_3 rfl (m_Rd_readBracket_1 l hlt hn hT hRS) kw_447 kw_449 sel_Rd_readBracket kw_6 kw_450 (by decide +kernel) ⟨rfl, rfl⟩ ⟨Nat.le_of_ble_eq_true rfl, Nat.le_of_ble_eq_true rfl⟩ rfl hl.1 (Nat.le_of_ble_eq_true rfl) d_Rd_readElement_52 ⟨Nat.le_of_ble_eq_true rfl, Nat.le_of_ble_eq_true rfl⟩ (fun X ce q9 memx H locs hx9 hP hS g1 g2 g3 => f_out hlocks hno hP hS g1 g2 g3 ⟨Nat.le_of_ble_eq_true rfl, Nat.le_of_ble_eq_true rfl⟩ hx9) (fun r113 mem114 H locs hq hP hS => ?_)
    have hD : va_D (Az sz) (fw n ad mem114) := fw_D hD
    obtain ⟨kx115, rc116, ec117, hr9119, hb120, hb121, hb122, hRS118⟩ := hq
    subst hr9119
    have hbd123 := hRS118.1.1
    obtain ⟨at124, ft125, h9_126⟩ := hRS118.2.1
    have h1_127 : mem114 1 = .inr (0, [.ref (ad 2), .int (nI Z)]) := (hRS118.2.2 1 (by omega)).trans hT.1
    have h2_128 : mem114 2 = .inl (cy 0, 240, .inl f) := (hRS118.2.2 2 (by omega)).trans hT.2.2
    have h5_129 := hRS118.1.2.1
    have hbd135 := hRS118.1.1
    obtain ⟨S130, g131, hS_132, h220_133, h221_134⟩ := hRS118.1.2.2.2.2.2.2
    obtain ⟨k136, lo137, hi138, as139, pa140, ne141, he_142, ho_143⟩ := (hRS118.1.2.2.2.2.2.1 kx115 (by omega)).1
    exact x_aret hx hb hlocks hr (⟨kx115, rc116, ec117, rfl, by omega, by omega, by omega, hRS118⟩) hP hS d_Rd_readElement_55
  by_cases c91 : v15 = 91
  · rw [c91]
    refine lv_lookup (off := 52) (tgt := 56) Bx.1 Bx.2.1 d_Rd_readElement_4 (by decide) (by decide) rfl ?_
    refine lv_aload_n Bx.1 Bx.2.1 d_Rd_readElement_56 rfl (lv_at hl 0 rfl) ?_
    refine lv_iload_n Bx.1 Bx.2.1 d_Rd_readElement_57 rfl (lv_at hl 1 rfl) ?_
    refine f_xVr (na := 1) (As := [.int (1)]) (rest := []) Bx hml E hP hD hS (by omega) h9_3 rfl (m_Rd_readOption_1 l hlt hn hT hRS) kw_451 kw_453 sel_Rd_readOption kw_6 kw_454 (by decide +kernel) ⟨rfl, rfl⟩ ⟨Nat.le_of_ble_eq_true rfl, Nat.le_of_ble_eq_true rfl⟩ rfl hl.1 (Nat.le_of_ble_eq_true rfl) d_Rd_readElement_58 ⟨Nat.le_of_ble_eq_true rfl, Nat.le_of_ble_eq_true rfl⟩ (fun X ce q9 memx H locs hx9 hP hS g1 g2 g3 => f_out hlocks hno hP hS g1 g2 g3 ⟨Nat.le_of_ble_eq_true rfl, Nat.le_of_ble_eq_true rfl⟩ hx9) (fun r144 mem145 H locs hq hP hS => ?_)
    have hD : va_D (Az sz) (fw n ad mem145) := fw_D hD
    obtain ⟨kx146, rc147, ec148, hr9150, hb151, hb152, hb153, hRS149⟩ := hq
    subst hr9150
    have hbd154 := hRS149.1.1
    obtain ⟨at155, ft156, h9_157⟩ := hRS149.2.1
    have h1_158 : mem145 1 = .inr (0, [.ref (ad 2), .int (nI Z)]) := (hRS149.2.2 1 (by omega)).trans hT.1
    have h2_159 : mem145 2 = .inl (cy 0, 240, .inl f) := (hRS149.2.2 2 (by omega)).trans hT.2.2
    have h5_160 := hRS149.1.2.1
    have hbd166 := hRS149.1.1
    obtain ⟨S161, g162, hS_163, h220_164, h221_165⟩ := hRS149.1.2.2.2.2.2.2
    obtain ⟨k167, lo168, hi169, as170, pa171, ne172, he_173, ho_174⟩ := (hRS149.1.2.2.2.2.2.1 kx146 (by omega)).1
    exact x_aret hx hb hlocks hr (⟨kx146, rc147, ec148, rfl, by omega, by omega, by omega, hRS149⟩) hP hS d_Rd_readElement_61
  refine lv_lookup (off := 101) (tgt := 105) Bx.1 Bx.2.1 d_Rd_readElement_4 (by decide) (by show Op.lookupswitch.offset [(34, 58), (37, 68), (40, 44), (91, 52)] 101 (v15).toInt = 101; rw [lv_osw c34 (by decide), lv_osw c37 (by decide), lv_osw c40 (by decide), lv_osw c91 (by decide)]; rfl) rfl ?_
  refine lv_aload_n Bx.1 Bx.2.1 d_Rd_readElement_105 rfl (lv_at hl 0 rfl) ?_
  refine f_xVr (na := 0) (As := []) (rest := []) Bx hml E hP hD hS (by omega) h9_3 rfl (m_Rd_readAskedName l hlt hn hT hRS) kw_478 kw_480 sel_Rd_readAskedName kw_6 kw_481 (by decide +kernel) ⟨rfl, rfl⟩ ⟨Nat.le_of_ble_eq_true rfl, Nat.le_of_ble_eq_true rfl⟩ rfl hl.1 (Nat.le_of_ble_eq_true rfl) d_Rd_readElement_106 ⟨Nat.le_of_ble_eq_true rfl, Nat.le_of_ble_eq_true rfl⟩ (fun X ce q9 memx H locs hx9 hP hS g1 g2 g3 => f_out hlocks hno hP hS g1 g2 g3 ⟨Nat.le_of_ble_eq_true rfl, Nat.le_of_ble_eq_true rfl⟩ hx9) (fun r175 mem176 H locs hq hP hS => ?_)
  have hD : va_D (Az sz) (fw n ad mem176) := fw_D hD
  obtain ⟨kx177, rc178, ec179, hr9181, hb182, hb183, hb184, hRS180⟩ := hq
  subst hr9181
  have hbd185 := hRS180.1.1
  obtain ⟨at186, ft187, h9_188⟩ := hRS180.2.1
  have h1_189 : mem176 1 = .inr (0, [.ref (ad 2), .int (nI Z)]) := (hRS180.2.2 1 (by omega)).trans hT.1
  have h2_190 : mem176 2 = .inl (cy 0, 240, .inl f) := (hRS180.2.2 2 (by omega)).trans hT.2.2
  have h5_191 := hRS180.1.2.1
  have hbd197 := hRS180.1.1
  obtain ⟨S192, g193, hS_194, h220_195, h221_196⟩ := hRS180.1.2.2.2.2.2.2
  obtain ⟨k198, lo199, hi200, as201, pa202, ne203, he_204, ho_205⟩ := (hRS180.1.2.2.2.2.2.1 kx177 (by omega)).1
  exact x_aret hx hb hlocks hr (⟨kx177, rc178, ec179, rfl, by omega, by omega, by omega, hRS180⟩) hP hS d_Rd_readElement_109
set_option maxHeartbeats 4000000 in
set_option maxRecDepth 100000 in
theorem m_Rd_readRepetition_1 (l : Launch) {D : va_G} {cy : Nat → ClassId} {sz n : Nat} {ad : Nat → Nat} {mem : Nat → va_E} {Z : Nat} {f : Nat → Int32} {lim rc ec : Nat} {m0 : Nat → va_E} (hlt : l.stackTraces = false) (hn : 224 ≤ n) (hT : TX cy ad Z f m0) (hRS : RS cy ad lim rc ec m0 mem) : NXr l D cy sz n ad y_Rd_readRepetition c_Rd_readRepetition 3 (some (.object "AbnfChart$Element")) ({ frames := 47, cells := 1, slots := 6, locals := 1138 } : Room) mem [.ref (ad 222), .int (1)] (fun r mem' => ∃ k rc' ec' : Nat, r = ad (20 + 2 * k) ∧ ec ≤ k ∧ k < ec' ∧ rc ≤ rc' ∧ RS cy ad lim rc' ec' m0 mem') (fun X mem' => (X = cIA ∨ X = cIS) ∧ ∃ rc' ec' : Nat, RS cy ad lim rc' ec' m0 mem') := by
  refine vx_ofW (cc := c_Rd_readRepetition) (maxL := 3) (ret := (some (.object "AbnfChart$Element"))) (by decide) rfl ?_
  intro p e s m args below meth c s₁ B hml hno hv
  obtain ⟨rfl, E, hP, hD⟩ := hv
  have hx := B.exec
  have hb := B.bytes
  have hr := B.returns
  have hlocks := B.notSynchronized
  have Bx : MB p s m [.ref (ad 222), .int (1)].toArray c c_Rd_readRepetition "AbnfChart$Reader" D cy := ⟨hx, hb, tb_all (atoms_spec B.pre) E.2.1, findClass_of_methodNamed B.named, E.1⟩
  have hS : va_S (Az sz) s.heap s.heap [] := va_S.rf
  have hl := lv_entry ([.ref (ad 222), .int (1)]) (n := 3) (Nat.le_of_ble_eq_true rfl)
  rw [lg_entry_eq]
  generalize (lg_sl ([.ref (ad 222), .int (1)]) ++ List.replicate (3 - (lg_sl ([.ref (ad 222), .int (1)])).length) Slot.unset).toArray = ls at hl ⊢
  have hl : lv_has ls 3 [(0, .ref (ad 222)), (1, .int (1))] := hl
  obtain ⟨at1, ft2, h9_3⟩ := hRS.2.1
  have h1_4 : mem 1 = .inr (0, [.ref (ad 2), .int (nI Z)]) := (hRS.2.2 1 (by omega)).trans hT.1
  have h2_5 : mem 2 = .inl (cy 0, 240, .inl f) := (hRS.2.2 2 (by omega)).trans hT.2.2
  have h5_6 := hRS.1.2.1
  have hbd12 := hRS.1.1
  obtain ⟨S7, g8, hS_9, h220_10, h221_11⟩ := hRS.1.2.2.2.2.2.2
  refine lv_aload_n Bx.1 Bx.2.1 d_Rd_readRepetition_0 rfl (lv_at hl 0 rfl) ?_
  refine f_callVi (na := 0) (As := []) (rest := []) Bx hml E hP hD hS (by omega) h9_3 rfl (m_Rd_peek l hn hT hRS) kw_353 kw_355 sel_Rd_peek kw_6 kw_356 (by decide +kernel) ⟨rfl, rfl⟩ ⟨Nat.le_of_ble_eq_true rfl, Nat.le_of_ble_eq_true rfl⟩ rfl hl.1 (Nat.le_of_ble_eq_true rfl) d_Rd_readRepetition_1 ⟨Nat.le_of_ble_eq_true rfl, Nat.le_of_ble_eq_true rfl⟩ (fun r13 mem14 H locs hq hP hS => ?_)
  have hD : va_D (Az sz) (fw n ad mem14) := fw_D hD
  rw [hq] at hP hD
  refine f_callSi (na := 1) (As := [.int (r13)]) (rest := []) Bx hml E.2.1 (m_Rd_beginsRepeat l (r13)) kw_416 kw_417 kw_6 kw_418 (by decide +kernel) ⟨rfl, rfl⟩ ⟨Nat.le_of_ble_eq_true rfl, Nat.le_of_ble_eq_true rfl⟩ rfl hl.1 (Nat.le_of_ble_eq_true rfl) d_Rd_readRepetition_4 ⟨Nat.le_of_ble_eq_true rfl, Nat.le_of_ble_eq_true rfl⟩ (fun r16 hs15 => ?_)
  refine lv_if_ne Bx.1 Bx.2.1 d_Rd_readRepetition_7 rfl (fun h8 => ?_) (fun h8 => ?_)
  · refine lv_aload_n Bx.1 Bx.2.1 d_Rd_readRepetition_16 rfl (lv_at hl 0 rfl) ?_
    refine lv_iconst (v := 2) Bx.1 Bx.2.1 d_Rd_readRepetition_17 (by decide) ?_
    refine lv_aload_n Bx.1 Bx.2.1 d_Rd_readRepetition_18 rfl (lv_at hl 0 rfl) ?_
    refine f_get Bx hP (by omega) h9_3 rfl inRd 2 (by decide) kw_146 rfl rfl d_Rd_readRepetition_19 ?_
    refine f_xVr (na := 2) (As := [.int (2), .int (at1)]) (rest := []) Bx hml E hP hD hS (by omega) h9_3 rfl (m_Rd_addElement l hlt hn hT hRS) kw_419 kw_421 sel_Rd_addElement kw_6 kw_422 (by decide +kernel) ⟨rfl, rfl⟩ ⟨Nat.le_of_ble_eq_true rfl, Nat.le_of_ble_eq_true rfl⟩ rfl hl.1 (Nat.le_of_ble_eq_true rfl) d_Rd_readRepetition_22 ⟨Nat.le_of_ble_eq_true rfl, Nat.le_of_ble_eq_true rfl⟩ (fun X ce q9 memx H locs hx9 hP hS g1 g2 g3 => f_out hlocks hno hP hS g1 g2 g3 ⟨Nat.le_of_ble_eq_true rfl, Nat.le_of_ble_eq_true rfl⟩ hx9) (fun r17 mem18 H locs hq hP hS => ?_)
    have hD : va_D (Az sz) (fw n ad mem18) := fw_D hD
    obtain ⟨hr921, hec20, hRS19⟩ := hq
    subst hr921
    obtain ⟨at22, ft23, h9_24⟩ := hRS19.2.1
    have h1_25 : mem18 1 = .inr (0, [.ref (ad 2), .int (nI Z)]) := (hRS19.2.2 1 (by omega)).trans hT.1
    have h2_26 : mem18 2 = .inl (cy 0, 240, .inl f) := (hRS19.2.2 2 (by omega)).trans hT.2.2
    have h5_27 := hRS19.1.2.1
    have hbd33 := hRS19.1.1
    obtain ⟨S28, g29, hS_30, h220_31, h221_32⟩ := hRS19.1.2.2.2.2.2.2
    obtain ⟨k34, lo35, hi36, as37, pa38, ne39, he_40, ho_41⟩ := (hRS19.1.2.2.2.2.2.1 ec (by omega)).1
    refine lv_astore_n (lv' := [(2, .ref (ad (20 + 2 * ec))), (0, .ref (ad 222)), (1, .int (1))]) Bx.1 Bx.2.1 d_Rd_readRepetition_25 rfl hl (by decide) rfl (fun ls hl => ?_)
    refine lv_aload_n Bx.1 Bx.2.1 d_Rd_readRepetition_26 rfl (lv_at hl 1 rfl) ?_
    refine lv_aload_n Bx.1 Bx.2.1 d_Rd_readRepetition_27 rfl (lv_at hl 0 rfl) ?_
    refine f_xVv (na := 1) (As := [.ref (ad (20 + 2 * ec))]) (rest := []) Bx hml E hP hD hS (by omega) h9_24 rfl (m_Rd_readRepeat l hlt hn hT hRS19 (by omega)) kw_482 kw_484 sel_Rd_readRepeat kw_6 kw_485 (by decide +kernel) ⟨rfl, rfl⟩ ⟨Nat.le_of_ble_eq_true rfl, Nat.le_of_ble_eq_true rfl⟩ rfl hl.1 (Nat.le_of_ble_eq_true rfl) d_Rd_readRepetition_28 ⟨Nat.le_of_ble_eq_true rfl, Nat.le_of_ble_eq_true rfl⟩ (fun X ce q9 memx H locs hx9 hP hS g1 g2 g3 => f_out hlocks hno hP hS g1 g2 g3 ⟨Nat.le_of_ble_eq_true rfl, Nat.le_of_ble_eq_true rfl⟩ hx9) (fun mem44 H locs hRS42 hP hS => ?_)
    have hD : va_D (Az sz) (fw n ad mem44) := fw_D hD
    obtain ⟨at45, ft46, h9_47⟩ := hRS42.2.1
    have h1_48 : mem44 1 = .inr (0, [.ref (ad 2), .int (nI Z)]) := (hRS42.2.2 1 (by omega)).trans hT.1
    have h2_49 : mem44 2 = .inl (cy 0, 240, .inl f) := (hRS42.2.2 2 (by omega)).trans hT.2.2
    have h5_50 := hRS42.1.2.1
    have hbd56 := hRS42.1.1
    obtain ⟨S51, g52, hS_53, h220_54, h221_55⟩ := hRS42.1.2.2.2.2.2.2
    obtain ⟨k57, lo58, hi59, as60, pa61, ne62, he_63, ho_64⟩ := (hRS42.1.2.2.2.2.2.1 ec (by omega)).1
    refine lv_aload_n Bx.1 Bx.2.1 d_Rd_readRepetition_31 rfl (lv_at hl 0 rfl) ?_
    refine lv_aload_n Bx.1 Bx.2.1 d_Rd_readRepetition_32 rfl (lv_at hl 1 rfl) ?_
    refine lv_iload_n Bx.1 Bx.2.1 d_Rd_readRepetition_33 rfl (lv_at hl 2 rfl) ?_
    refine f_xVr (na := 1) (As := [.int (1)]) (rest := [.ref (ad (20 + 2 * ec))]) Bx hml E hP hD hS (by omega) h9_47 rfl (m_Rd_readElement_1 l hlt hn hT hRS42) kw_443 kw_445 sel_Rd_readElement kw_6 kw_446 (by decide +kernel) ⟨rfl, rfl⟩ ⟨Nat.le_of_ble_eq_true rfl, Nat.le_of_ble_eq_true rfl⟩ rfl hl.1 (Nat.le_of_ble_eq_true rfl) d_Rd_readRepetition_34 ⟨Nat.le_of_ble_eq_true rfl, Nat.le_of_ble_eq_true rfl⟩ (fun X ce q9 memx H locs hx9 hP hS g1 g2 g3 => f_out hlocks hno hP hS g1 g2 g3 ⟨Nat.le_of_ble_eq_true rfl, Nat.le_of_ble_eq_true rfl⟩ hx9) (fun r65 mem66 H locs hq hP hS => ?_)
    have hD : va_D (Az sz) (fw n ad mem66) := fw_D hD
    obtain ⟨kx67, rc68, ec69, hr971, hb72, hb73, hb74, hRS70⟩ := hq
    subst hr971
    have hbd75 := hRS70.1.1
    obtain ⟨at76, ft77, h9_78⟩ := hRS70.2.1
    have h1_79 : mem66 1 = .inr (0, [.ref (ad 2), .int (nI Z)]) := (hRS70.2.2 1 (by omega)).trans hT.1
    have h2_80 : mem66 2 = .inl (cy 0, 240, .inl f) := (hRS70.2.2 2 (by omega)).trans hT.2.2
    have h5_81 := hRS70.1.2.1
    have hbd87 := hRS70.1.1
    obtain ⟨S82, g83, hS_84, h220_85, h221_86⟩ := hRS70.1.2.2.2.2.2.2
    obtain ⟨k88, lo89, hi90, as91, pa92, ne93, he_94, ho_95⟩ := (hRS70.1.2.2.2.2.2.1 ec (by omega)).1
    obtain ⟨k96, lo97, hi98, as99, pa100, ne101, he_102, ho_103⟩ := (hRS70.1.2.2.2.2.2.1 kx67 (by omega)).1
    refine f_putN Bx hP hD hS (by omega) he_94 rfl inEl tyEl okEl nmEl 4 (by decide) kw_87 rfl rfl rfl rfl (Nat.le_of_ble_eq_true rfl) d_Rd_readRepetition_37 (fun H locs hP hS => ?_)
    obtain ⟨mem104, e_mem104⟩ : ∃ z, z = va_up mem66 ((20 + 2 * ec)) (.inr (2, [.int (k88), .int (lo89), .int (hi90), as91, .ref (ad (20 + 2 * kx67)), ne93, .ref (ad (21 + 2 * ec))])) := ⟨_, rfl⟩
    have hP : va_P D vcl (fw n ad mem104) H := by rw [e_mem104]; exact hP
    have hD : va_D (Az sz) (fw n ad mem104) := fw_D hD
    have h_mem104 : mem104 ((20 + 2 * ec)) = .inr (2, [.int (k88), .int (lo89), .int (hi90), as91, .ref (ad (20 + 2 * kx67)), ne93, .ref (ad (21 + 2 * ec))]) := by rw [e_mem104, va_up_self]
    have hh105 := (va_up_ne mem66 (.inr (2, [.int (k88), .int (lo89), .int (hi90), as91, .ref (ad (20 + 2 * kx67)), ne93, .ref (ad (21 + 2 * ec))])) (show (222 : Nat) ≠ (20 + 2 * ec) by first | decide | assumption | omega)).trans h9_78
    rw [← e_mem104] at hh105
    have hh106 := (va_up_ne mem66 (.inr (2, [.int (k88), .int (lo89), .int (hi90), as91, .ref (ad (20 + 2 * kx67)), ne93, .ref (ad (21 + 2 * ec))])) (show (1 : Nat) ≠ (20 + 2 * ec) by first | decide | assumption | omega)).trans h1_79
    rw [← e_mem104] at hh106
    have hh107 := (va_up_ne mem66 (.inr (2, [.int (k88), .int (lo89), .int (hi90), as91, .ref (ad (20 + 2 * kx67)), ne93, .ref (ad (21 + 2 * ec))])) (show (5 : Nat) ≠ (20 + 2 * ec) by first | decide | assumption | omega)).trans h5_81
    rw [← e_mem104] at hh107
    have hh108 := (va_up_ne mem66 (.inr (2, [.int (k88), .int (lo89), .int (hi90), as91, .ref (ad (20 + 2 * kx67)), ne93, .ref (ad (21 + 2 * ec))])) (show (220 : Nat) ≠ (20 + 2 * ec) by first | decide | assumption | omega)).trans h220_85
    rw [← e_mem104] at hh108
    have hh109 := (va_up_ne mem66 (.inr (2, [.int (k88), .int (lo89), .int (hi90), as91, .ref (ad (20 + 2 * kx67)), ne93, .ref (ad (21 + 2 * ec))])) (show ((20 + 2 * kx67) : Nat) ≠ (20 + 2 * ec) by first | decide | assumption | omega)).trans he_102
    rw [← e_mem104] at hh109
    have hRS110 : RS cy ad lim rc68 ec69 m0 mem104 := by rw [e_mem104]; exact hRS70.mk (by omega) (hRS70.1.upEl (by omega) (fun q9 => ⟨(ho_95 q9).1, Or.inr ⟨kx67, by omega, by omega, rfl⟩, (ho_95 q9).2.2⟩))
    refine lv_aload_n Bx.1 Bx.2.1 d_Rd_readRepetition_40 rfl (lv_at hl 0 rfl) ?_
    exact x_aret hx hb hlocks hr (⟨ec, rc68, ec69, rfl, by omega, by omega, by omega, hRS110⟩) hP hS d_Rd_readRepetition_41
  · refine lv_aload_n Bx.1 Bx.2.1 d_Rd_readRepetition_10 rfl (lv_at hl 0 rfl) ?_
    refine lv_iload_n Bx.1 Bx.2.1 d_Rd_readRepetition_11 rfl (lv_at hl 1 rfl) ?_
    refine f_xVr (na := 1) (As := [.int (1)]) (rest := []) Bx hml E hP hD hS (by omega) h9_3 rfl (m_Rd_readElement_1 l hlt hn hT hRS) kw_443 kw_445 sel_Rd_readElement kw_6 kw_446 (by decide +kernel) ⟨rfl, rfl⟩ ⟨Nat.le_of_ble_eq_true rfl, Nat.le_of_ble_eq_true rfl⟩ rfl hl.1 (Nat.le_of_ble_eq_true rfl) d_Rd_readRepetition_12 ⟨Nat.le_of_ble_eq_true rfl, Nat.le_of_ble_eq_true rfl⟩ (fun X ce q9 memx H locs hx9 hP hS g1 g2 g3 => f_out hlocks hno hP hS g1 g2 g3 ⟨Nat.le_of_ble_eq_true rfl, Nat.le_of_ble_eq_true rfl⟩ hx9) (fun r111 mem112 H locs hq hP hS => ?_)
    have hD : va_D (Az sz) (fw n ad mem112) := fw_D hD
    obtain ⟨kx113, rc114, ec115, hr9117, hb118, hb119, hb120, hRS116⟩ := hq
    subst hr9117
    have hbd121 := hRS116.1.1
    obtain ⟨at122, ft123, h9_124⟩ := hRS116.2.1
    have h1_125 : mem112 1 = .inr (0, [.ref (ad 2), .int (nI Z)]) := (hRS116.2.2 1 (by omega)).trans hT.1
    have h2_126 : mem112 2 = .inl (cy 0, 240, .inl f) := (hRS116.2.2 2 (by omega)).trans hT.2.2
    have h5_127 := hRS116.1.2.1
    have hbd133 := hRS116.1.1
    obtain ⟨S128, g129, hS_130, h220_131, h221_132⟩ := hRS116.1.2.2.2.2.2.2
    obtain ⟨k134, lo135, hi136, as137, pa138, ne139, he_140, ho_141⟩ := (hRS116.1.2.2.2.2.2.1 kx113 (by omega)).1
    exact x_aret hx hb hlocks hr (⟨kx113, rc114, ec115, rfl, by omega, by omega, by omega, hRS116⟩) hP hS d_Rd_readRepetition_15
set_option maxHeartbeats 4000000 in
set_option maxRecDepth 100000 in
theorem m_Rd_readSequence_1 (l : Launch) {D : va_G} {cy : Nat → ClassId} {sz n : Nat} {ad : Nat → Nat} {mem : Nat → va_E} {Z : Nat} {f : Nat → Int32} {lim rc ec : Nat} {m0 : Nat → va_E} (hlt : l.stackTraces = false) (hn : 224 ≤ n) (hT : TX cy ad Z f m0) (hRS : RS cy ad lim rc ec m0 mem) : NXr l D cy sz n ad y_Rd_readSequence c_Rd_readSequence 5 (some (.object "AbnfChart$Element")) ({ frames := 48, cells := 1, slots := 6, locals := 1162 } : Room) mem [.ref (ad 222), .int (1)] (fun r mem' => ∃ k rc' ec' : Nat, r = ad (20 + 2 * k) ∧ ec ≤ k ∧ k < ec' ∧ rc ≤ rc' ∧ RS cy ad lim rc' ec' m0 mem') (fun X mem' => (X = cIA ∨ X = cIS) ∧ ∃ rc' ec' : Nat, RS cy ad lim rc' ec' m0 mem') := by
  refine vx_ofW (cc := c_Rd_readSequence) (maxL := 5) (ret := (some (.object "AbnfChart$Element"))) (by decide) rfl ?_
  intro p e s m args below meth c s₁ B hml hno hv
  obtain ⟨rfl, E, hP, hD⟩ := hv
  have hx := B.exec
  have hb := B.bytes
  have hr := B.returns
  have hlocks := B.notSynchronized
  have Bx : MB p s m [.ref (ad 222), .int (1)].toArray c c_Rd_readSequence "AbnfChart$Reader" D cy := ⟨hx, hb, tb_all (atoms_spec B.pre) E.2.1, findClass_of_methodNamed B.named, E.1⟩
  have hS : va_S (Az sz) s.heap s.heap [] := va_S.rf
  have hl := lv_entry ([.ref (ad 222), .int (1)]) (n := 5) (Nat.le_of_ble_eq_true rfl)
  rw [lg_entry_eq]
  generalize (lg_sl ([.ref (ad 222), .int (1)]) ++ List.replicate (5 - (lg_sl ([.ref (ad 222), .int (1)])).length) Slot.unset).toArray = ls at hl ⊢
  have hl : lv_has ls 5 [(0, .ref (ad 222)), (1, .int (1))] := hl
  obtain ⟨at1, ft2, h9_3⟩ := hRS.2.1
  have h1_4 : mem 1 = .inr (0, [.ref (ad 2), .int (nI Z)]) := (hRS.2.2 1 (by omega)).trans hT.1
  have h2_5 : mem 2 = .inl (cy 0, 240, .inl f) := (hRS.2.2 2 (by omega)).trans hT.2.2
  have h5_6 := hRS.1.2.1
  have hbd12 := hRS.1.1
  obtain ⟨S7, g8, hS_9, h220_10, h221_11⟩ := hRS.1.2.2.2.2.2.2
  refine lv_aload_n Bx.1 Bx.2.1 d_Rd_readSequence_0 rfl (lv_at hl 0 rfl) ?_
  refine lv_iconst (v := 1) Bx.1 Bx.2.1 d_Rd_readSequence_1 (by decide) ?_
  refine f_xVr (na := 1) (As := [.int (1)]) (rest := []) Bx hml E hP hD hS (by omega) h9_3 rfl (m_Rd_beginRow l hlt hn hT hRS) kw_409 kw_411 sel_Rd_beginRow kw_6 kw_412 (by decide +kernel) ⟨rfl, rfl⟩ ⟨Nat.le_of_ble_eq_true rfl, Nat.le_of_ble_eq_true rfl⟩ rfl hl.1 (Nat.le_of_ble_eq_true rfl) d_Rd_readSequence_2 ⟨Nat.le_of_ble_eq_true rfl, Nat.le_of_ble_eq_true rfl⟩ (fun X ce q9 memx H locs hx9 hP hS g1 g2 g3 => f_out hlocks hno hP hS g1 g2 g3 ⟨Nat.le_of_ble_eq_true rfl, Nat.le_of_ble_eq_true rfl⟩ hx9) (fun r13 mem14 H locs hq hP hS => ?_)
  have hD : va_D (Az sz) (fw n ad mem14) := fw_D hD
  obtain ⟨kx15, rc16, ec17, hr919, hb20, hb21, hb22, hRS18⟩ := hq
  subst hr919
  have hbd23 := hRS18.1.1
  obtain ⟨at24, ft25, h9_26⟩ := hRS18.2.1
  have h1_27 : mem14 1 = .inr (0, [.ref (ad 2), .int (nI Z)]) := (hRS18.2.2 1 (by omega)).trans hT.1
  have h2_28 : mem14 2 = .inl (cy 0, 240, .inl f) := (hRS18.2.2 2 (by omega)).trans hT.2.2
  have h5_29 := hRS18.1.2.1
  have hbd35 := hRS18.1.1
  obtain ⟨S30, g31, hS_32, h220_33, h221_34⟩ := hRS18.1.2.2.2.2.2.2
  obtain ⟨k36, lo37, hi38, as39, pa40, ne41, he_42, ho_43⟩ := (hRS18.1.2.2.2.2.2.1 kx15 (by omega)).1
  refine lv_astore_n (lv' := [(2, .ref (ad (20 + 2 * kx15))), (0, .ref (ad 222)), (1, .int (1))]) Bx.1 Bx.2.1 d_Rd_readSequence_5 rfl hl (by decide) rfl (fun ls hl => ?_)
  refine lv_aload_n Bx.1 Bx.2.1 d_Rd_readSequence_6 rfl (lv_at hl 1 rfl) ?_
  refine lv_iload_n Bx.1 Bx.2.1 d_Rd_readSequence_7 rfl (lv_at hl 2 rfl) ?_
  refine f_xVr (na := 1) (As := [.int (1)]) (rest := []) Bx hml E hP hD hS (by omega) h9_26 rfl (m_Rd_readRepetition_1 l hlt hn hT hRS18) kw_439 kw_441 sel_Rd_readRepetition kw_6 kw_442 (by decide +kernel) ⟨rfl, rfl⟩ ⟨Nat.le_of_ble_eq_true rfl, Nat.le_of_ble_eq_true rfl⟩ rfl hl.1 (Nat.le_of_ble_eq_true rfl) d_Rd_readSequence_8 ⟨Nat.le_of_ble_eq_true rfl, Nat.le_of_ble_eq_true rfl⟩ (fun X ce q9 memx H locs hx9 hP hS g1 g2 g3 => f_out hlocks hno hP hS g1 g2 g3 ⟨Nat.le_of_ble_eq_true rfl, Nat.le_of_ble_eq_true rfl⟩ hx9) (fun r44 mem45 H locs hq hP hS => ?_)
  have hD : va_D (Az sz) (fw n ad mem45) := fw_D hD
  obtain ⟨kx46, rc47, ec48, hr950, hb51, hb52, hb53, hRS49⟩ := hq
  subst hr950
  have hbd54 := hRS49.1.1
  obtain ⟨at55, ft56, h9_57⟩ := hRS49.2.1
  have h1_58 : mem45 1 = .inr (0, [.ref (ad 2), .int (nI Z)]) := (hRS49.2.2 1 (by omega)).trans hT.1
  have h2_59 : mem45 2 = .inl (cy 0, 240, .inl f) := (hRS49.2.2 2 (by omega)).trans hT.2.2
  have h5_60 := hRS49.1.2.1
  have hbd66 := hRS49.1.1
  obtain ⟨S61, g62, hS_63, h220_64, h221_65⟩ := hRS49.1.2.2.2.2.2.2
  obtain ⟨k67, lo68, hi69, as70, pa71, ne72, he_73, ho_74⟩ := (hRS49.1.2.2.2.2.2.1 kx15 (by omega)).1
  obtain ⟨k75, lo76, hi77, as78, pa79, ne80, he_81, ho_82⟩ := (hRS49.1.2.2.2.2.2.1 kx46 (by omega)).1
  refine lv_astore_n (lv' := [(3, .ref (ad (20 + 2 * kx46))), (2, .ref (ad (20 + 2 * kx15))), (0, .ref (ad 222)), (1, .int (1))]) Bx.1 Bx.2.1 d_Rd_readSequence_11 rfl hl (by decide) rfl (fun ls hl => ?_)
  refine lv_aload_n Bx.1 Bx.2.1 d_Rd_readSequence_12 rfl (lv_at hl 1 rfl) ?_
  refine lv_aload_n Bx.1 Bx.2.1 d_Rd_readSequence_13 rfl (lv_at hl 0 rfl) ?_
  refine f_putN Bx hP hD hS (by omega) he_73 rfl inEl tyEl okEl nmEl 4 (by decide) kw_87 rfl rfl rfl rfl (Nat.le_of_ble_eq_true rfl) d_Rd_readSequence_14 (fun H locs hP hS => ?_)
  obtain ⟨mem83, e_mem83⟩ : ∃ z, z = va_up mem45 ((20 + 2 * kx15)) (.inr (2, [.int (k67), .int (lo68), .int (hi69), as70, .ref (ad (20 + 2 * kx46)), ne72, .ref (ad (21 + 2 * kx15))])) := ⟨_, rfl⟩
  have hP : va_P D vcl (fw n ad mem83) H := by rw [e_mem83]; exact hP
  have hD : va_D (Az sz) (fw n ad mem83) := fw_D hD
  have h_mem83 : mem83 ((20 + 2 * kx15)) = .inr (2, [.int (k67), .int (lo68), .int (hi69), as70, .ref (ad (20 + 2 * kx46)), ne72, .ref (ad (21 + 2 * kx15))]) := by rw [e_mem83, va_up_self]
  have hh84 := (va_up_ne mem45 (.inr (2, [.int (k67), .int (lo68), .int (hi69), as70, .ref (ad (20 + 2 * kx46)), ne72, .ref (ad (21 + 2 * kx15))])) (show (222 : Nat) ≠ (20 + 2 * kx15) by first | decide | assumption | omega)).trans h9_57
  rw [← e_mem83] at hh84
  have hh85 := (va_up_ne mem45 (.inr (2, [.int (k67), .int (lo68), .int (hi69), as70, .ref (ad (20 + 2 * kx46)), ne72, .ref (ad (21 + 2 * kx15))])) (show (1 : Nat) ≠ (20 + 2 * kx15) by first | decide | assumption | omega)).trans h1_58
  rw [← e_mem83] at hh85
  have hh86 := (va_up_ne mem45 (.inr (2, [.int (k67), .int (lo68), .int (hi69), as70, .ref (ad (20 + 2 * kx46)), ne72, .ref (ad (21 + 2 * kx15))])) (show (5 : Nat) ≠ (20 + 2 * kx15) by first | decide | assumption | omega)).trans h5_60
  rw [← e_mem83] at hh86
  have hh87 := (va_up_ne mem45 (.inr (2, [.int (k67), .int (lo68), .int (hi69), as70, .ref (ad (20 + 2 * kx46)), ne72, .ref (ad (21 + 2 * kx15))])) (show (220 : Nat) ≠ (20 + 2 * kx15) by first | decide | assumption | omega)).trans h220_64
  rw [← e_mem83] at hh87
  have hh88 := (va_up_ne mem45 (.inr (2, [.int (k67), .int (lo68), .int (hi69), as70, .ref (ad (20 + 2 * kx46)), ne72, .ref (ad (21 + 2 * kx15))])) (show ((20 + 2 * kx46) : Nat) ≠ (20 + 2 * kx15) by first | decide | assumption | omega)).trans he_81
  rw [← e_mem83] at hh88
  have hRS89 : RS cy ad lim rc47 ec48 m0 mem83 := by rw [e_mem83]; exact hRS49.mk (by omega) (hRS49.1.upEl (by omega) (fun q9 => ⟨(ho_74 q9).1, Or.inr ⟨kx46, by omega, by omega, rfl⟩, (ho_74 q9).2.2⟩))
  refine lv_iconst (v := 0) Bx.1 Bx.2.1 d_Rd_readSequence_17 (by decide) ?_
  refine lv_istore (lv' := [(4, .int (0)), (3, .ref (ad (20 + 2 * kx46))), (2, .ref (ad (20 + 2 * kx15))), (0, .ref (ad 222)), (1, .int (1))]) Bx.1 Bx.2.1 d_Rd_readSequence_18 hl (by decide) rfl (fun ls hl => ?_)
  have loop90 : ∀ (d : Nat) (mem : Nat → va_E) (rcl ecl : Nat) (ls : Array Slot) (H : Heap) (locs : List Loc) (la : Nat) (k9 : Int32), ((240 : Int32).toInt - (k9).toInt).toNat < d → RS cy ad lim rcl ecl m0 mem → kx15 < ecl ∧ la < ecl ∧ rc ≤ rcl → va_P D vcl (fw n ad mem) H → va_D (Az sz) (fw n ad mem) → va_S (Az sz) s.heap H locs → lv_has ls 5 [(4, .int (k9)), (3, .ref (ad (20 + 2 * la))), (2, .ref (ad (20 + 2 * kx15))), (0, .ref (ad 222)), (1, .int (1))] → W p l e (headSpec (Cond.code y_Rd_readSequence c_Rd_readSequence 5 (some (.object "AbnfChart$Element")) :: tg) ({ frames := 48, cells := 1, slots := 6, locals := 1162 } : Room)).room s m [.ref (ad 222), .int (1)].toArray below meth c H locs 0 0 (vx_MQ below (QX (QR (fun r mem' => ∃ k rc' ec' : Nat, r = ad (20 + 2 * k) ∧ ec ≤ k ∧ k < ec' ∧ rc ≤ rc' ∧ RS cy ad lim rc' ec' m0 mem') (PP D n ad) (Az sz))) (XQ D sz n ad (fun X mem' => (X = cIA ∨ X = cIS) ∧ ∃ rc' ec' : Nat, RS cy ad lim rc' ec' m0 mem')) [.ref (ad 222), .int (1)].toArray s 1 6 (Az sz)) (F0 m 20 ls []) := by
    intro d
    induction d with
    | zero => intro mem rcl ecl ls H locs la k9 hmeas; exact absurd hmeas (Nat.not_lt_zero _)
    | succ d ih =>
      intro mem rcl ecl ls H locs la k9 hmeas hRS hx0 hP hD hS hl
      have hbd := hRS.1.1
      obtain ⟨at91, ft92, h9_93⟩ := hRS.2.1
      have h1_94 : mem 1 = .inr (0, [.ref (ad 2), .int (nI Z)]) := (hRS.2.2 1 (by omega)).trans hT.1
      have h2_95 : mem 2 = .inl (cy 0, 240, .inl f) := (hRS.2.2 2 (by omega)).trans hT.2.2
      have h5_96 := hRS.1.2.1
      have hbd102 := hRS.1.1
      obtain ⟨S97, g98, hS_99, h220_100, h221_101⟩ := hRS.1.2.2.2.2.2.2
      obtain ⟨k103, lo104, hi105, as106, pa107, ne108, he_109, ho_110⟩ := (hRS.1.2.2.2.2.2.1 la (by omega)).1
      refine lv_iload Bx.1 Bx.2.1 d_Rd_readSequence_20 (lv_at hl 0 rfl) ?_
      refine lv_sipush (v := 240) Bx.1 Bx.2.1 d_Rd_readSequence_22 (by decide) ?_
      refine lv_icmp_ge Bx.1 Bx.2.1 d_Rd_readSequence_25 rfl (fun hk => ?_) (fun hk => ?_)
      · refine lv_aload_n Bx.1 Bx.2.1 d_Rd_readSequence_65 rfl (lv_at hl 2 rfl) ?_
        exact x_aret hx hb hlocks hr (⟨kx15, rcl, ecl, rfl, by omega, by omega, by omega, hRS⟩) hP hS d_Rd_readSequence_66
      · refine lv_aload_n Bx.1 Bx.2.1 d_Rd_readSequence_28 rfl (lv_at hl 3 rfl) ?_
        refine f_callVi (na := 0) (As := []) (rest := []) Bx hml E hP hD hS (by omega) h9_93 rfl (m_Rd_readGap l hn hT hRS) kw_397 kw_399 sel_Rd_readGap kw_6 kw_400 (by decide +kernel) ⟨rfl, rfl⟩ ⟨Nat.le_of_ble_eq_true rfl, Nat.le_of_ble_eq_true rfl⟩ rfl hl.1 (Nat.le_of_ble_eq_true rfl) d_Rd_readSequence_29 ⟨Nat.le_of_ble_eq_true rfl, Nat.le_of_ble_eq_true rfl⟩ (fun r112 mem113 H locs hRS111 hP hS => ?_)
        have hD : va_D (Az sz) (fw n ad mem113) := fw_D hD
        obtain ⟨at114, ft115, h9_116⟩ := hRS111.2.1
        have h1_117 : mem113 1 = .inr (0, [.ref (ad 2), .int (nI Z)]) := (hRS111.2.2 1 (by omega)).trans hT.1
        have h2_118 : mem113 2 = .inl (cy 0, 240, .inl f) := (hRS111.2.2 2 (by omega)).trans hT.2.2
        have h5_119 := hRS111.1.2.1
        have hbd125 := hRS111.1.1
        obtain ⟨S120, g121, hS_122, h220_123, h221_124⟩ := hRS111.1.2.2.2.2.2.2
        obtain ⟨k126, lo127, hi128, as129, pa130, ne131, he_132, ho_133⟩ := (hRS111.1.2.2.2.2.2.1 la (by omega)).1
        refine lv_if_eq Bx.1 Bx.2.1 d_Rd_readSequence_32 rfl (fun h8 => ?_) (fun h8 => ?_)
        · refine lv_aload_n Bx.1 Bx.2.1 d_Rd_readSequence_65 rfl (lv_at hl 2 rfl) ?_
          exact x_aret hx hb hlocks hr (⟨kx15, rcl, ecl, rfl, by omega, by omega, by omega, hRS111⟩) hP hS d_Rd_readSequence_66
        · refine lv_aload_n Bx.1 Bx.2.1 d_Rd_readSequence_35 rfl (lv_at hl 3 rfl) ?_
          refine f_callVi (na := 0) (As := []) (rest := []) Bx hml E hP hD hS (by omega) h9_116 rfl (m_Rd_peek l hn hT hRS111) kw_353 kw_355 sel_Rd_peek kw_6 kw_356 (by decide +kernel) ⟨rfl, rfl⟩ ⟨Nat.le_of_ble_eq_true rfl, Nat.le_of_ble_eq_true rfl⟩ rfl hl.1 (Nat.le_of_ble_eq_true rfl) d_Rd_readSequence_36 ⟨Nat.le_of_ble_eq_true rfl, Nat.le_of_ble_eq_true rfl⟩ (fun r134 mem135 H locs hq hP hS => ?_)
          have hD : va_D (Az sz) (fw n ad mem135) := fw_D hD
          rw [hq] at hP hD
          refine f_callSi (na := 1) (As := [.int (r134)]) (rest := []) Bx hml E.2.1 (m_Rd_beginsRepetition l (r134)) kw_413 kw_414 kw_6 kw_415 (by decide +kernel) ⟨rfl, rfl⟩ ⟨Nat.le_of_ble_eq_true rfl, Nat.le_of_ble_eq_true rfl⟩ rfl hl.1 (Nat.le_of_ble_eq_true rfl) d_Rd_readSequence_39 ⟨Nat.le_of_ble_eq_true rfl, Nat.le_of_ble_eq_true rfl⟩ (fun r137 hs136 => ?_)
          refine lv_if_eq Bx.1 Bx.2.1 d_Rd_readSequence_42 rfl (fun h8 => ?_) (fun h8 => ?_)
          · refine lv_aload_n Bx.1 Bx.2.1 d_Rd_readSequence_65 rfl (lv_at hl 2 rfl) ?_
            exact x_aret hx hb hlocks hr (⟨kx15, rcl, ecl, rfl, by omega, by omega, by omega, hRS111⟩) hP hS d_Rd_readSequence_66
          · refine lv_aload_n Bx.1 Bx.2.1 d_Rd_readSequence_45 rfl (lv_at hl 1 rfl) ?_
            refine lv_aload_n Bx.1 Bx.2.1 d_Rd_readSequence_46 rfl (lv_at hl 3 rfl) ?_
            refine lv_iload_n Bx.1 Bx.2.1 d_Rd_readSequence_47 rfl (lv_at hl 4 rfl) ?_
            refine f_xVr (na := 1) (As := [.int (1)]) (rest := [.ref (ad (20 + 2 * la))]) Bx hml E hP hD hS (by omega) h9_116 rfl (m_Rd_readRepetition_1 l hlt hn hT hRS111) kw_439 kw_441 sel_Rd_readRepetition kw_6 kw_442 (by decide +kernel) ⟨rfl, rfl⟩ ⟨Nat.le_of_ble_eq_true rfl, Nat.le_of_ble_eq_true rfl⟩ rfl hl.1 (Nat.le_of_ble_eq_true rfl) d_Rd_readSequence_48 ⟨Nat.le_of_ble_eq_true rfl, Nat.le_of_ble_eq_true rfl⟩ (fun X ce q9 memx H locs hx9 hP hS g1 g2 g3 => f_out hlocks hno hP hS g1 g2 g3 ⟨Nat.le_of_ble_eq_true rfl, Nat.le_of_ble_eq_true rfl⟩ hx9) (fun r138 mem139 H locs hq hP hS => ?_)
            have hD : va_D (Az sz) (fw n ad mem139) := fw_D hD
            obtain ⟨kx140, rc141, ec142, hr9144, hb145, hb146, hb147, hRS143⟩ := hq
            subst hr9144
            have hbd148 := hRS143.1.1
            obtain ⟨at149, ft150, h9_151⟩ := hRS143.2.1
            have h1_152 : mem139 1 = .inr (0, [.ref (ad 2), .int (nI Z)]) := (hRS143.2.2 1 (by omega)).trans hT.1
            have h2_153 : mem139 2 = .inl (cy 0, 240, .inl f) := (hRS143.2.2 2 (by omega)).trans hT.2.2
            have h5_154 := hRS143.1.2.1
            have hbd160 := hRS143.1.1
            obtain ⟨S155, g156, hS_157, h220_158, h221_159⟩ := hRS143.1.2.2.2.2.2.2
            obtain ⟨k161, lo162, hi163, as164, pa165, ne166, he_167, ho_168⟩ := (hRS143.1.2.2.2.2.2.1 la (by omega)).1
            obtain ⟨k169, lo170, hi171, as172, pa173, ne174, he_175, ho_176⟩ := (hRS143.1.2.2.2.2.2.1 kx140 (by omega)).1
            refine f_putN Bx hP hD hS (by omega) he_167 rfl inEl tyEl okEl nmEl 5 (by decide) kw_91 rfl rfl rfl rfl (Nat.le_of_ble_eq_true rfl) d_Rd_readSequence_51 (fun H locs hP hS => ?_)
            obtain ⟨mem177, e_mem177⟩ : ∃ z, z = va_up mem139 ((20 + 2 * la)) (.inr (2, [.int (k161), .int (lo162), .int (hi163), as164, pa165, .ref (ad (20 + 2 * kx140)), .ref (ad (21 + 2 * la))])) := ⟨_, rfl⟩
            have hP : va_P D vcl (fw n ad mem177) H := by rw [e_mem177]; exact hP
            have hD : va_D (Az sz) (fw n ad mem177) := fw_D hD
            have h_mem177 : mem177 ((20 + 2 * la)) = .inr (2, [.int (k161), .int (lo162), .int (hi163), as164, pa165, .ref (ad (20 + 2 * kx140)), .ref (ad (21 + 2 * la))]) := by rw [e_mem177, va_up_self]
            have hh178 := (va_up_ne mem139 (.inr (2, [.int (k161), .int (lo162), .int (hi163), as164, pa165, .ref (ad (20 + 2 * kx140)), .ref (ad (21 + 2 * la))])) (show (222 : Nat) ≠ (20 + 2 * la) by first | decide | assumption | omega)).trans h9_151
            rw [← e_mem177] at hh178
            have hh179 := (va_up_ne mem139 (.inr (2, [.int (k161), .int (lo162), .int (hi163), as164, pa165, .ref (ad (20 + 2 * kx140)), .ref (ad (21 + 2 * la))])) (show (1 : Nat) ≠ (20 + 2 * la) by first | decide | assumption | omega)).trans h1_152
            rw [← e_mem177] at hh179
            have hh180 := (va_up_ne mem139 (.inr (2, [.int (k161), .int (lo162), .int (hi163), as164, pa165, .ref (ad (20 + 2 * kx140)), .ref (ad (21 + 2 * la))])) (show (5 : Nat) ≠ (20 + 2 * la) by first | decide | assumption | omega)).trans h5_154
            rw [← e_mem177] at hh180
            have hh181 := (va_up_ne mem139 (.inr (2, [.int (k161), .int (lo162), .int (hi163), as164, pa165, .ref (ad (20 + 2 * kx140)), .ref (ad (21 + 2 * la))])) (show (220 : Nat) ≠ (20 + 2 * la) by first | decide | assumption | omega)).trans h220_158
            rw [← e_mem177] at hh181
            have hh182 := (va_up_ne mem139 (.inr (2, [.int (k161), .int (lo162), .int (hi163), as164, pa165, .ref (ad (20 + 2 * kx140)), .ref (ad (21 + 2 * la))])) (show ((20 + 2 * kx140) : Nat) ≠ (20 + 2 * la) by first | decide | assumption | omega)).trans he_175
            rw [← e_mem177] at hh182
            have hRS183 : RS cy ad lim rc141 ec142 m0 mem177 := by rw [e_mem177]; exact hRS143.mk (by omega) (hRS143.1.upEl (by omega) (fun q9 => ⟨(ho_168 q9).1, (ho_168 q9).2.1, Or.inr ⟨kx140, by omega, by omega, rfl⟩⟩))
            refine lv_aload_n Bx.1 Bx.2.1 d_Rd_readSequence_54 rfl (lv_at hl 1 rfl) ?_
            refine f_getN Bx hP (by omega) h_mem177 rfl inEl 5 (by decide) kw_91 rfl rfl d_Rd_readSequence_55 ?_
            refine lv_astore_n (lv' := [(3, .ref (ad (20 + 2 * kx140))), (4, .int (k9)), (2, .ref (ad (20 + 2 * kx15))), (0, .ref (ad 222)), (1, .int (1))]) Bx.1 Bx.2.1 d_Rd_readSequence_58 rfl hl (by decide) rfl (fun ls hl => ?_)
            refine lv_iinc (lv' := [(4, .int ((k9 + (1)))), (3, .ref (ad (20 + 2 * kx140))), (2, .ref (ad (20 + 2 * kx15))), (0, .ref (ad 222)), (1, .int (1))]) Bx.1 Bx.2.1 d_Rd_readSequence_59 hl (k := 1) rfl rfl (by decide) rfl (fun ls hl => ?_)
            refine lv_goto Bx.1 Bx.2.1 d_Rd_readSequence_62 rfl ?_
            exact ih _ _ _ _ _ _ _ _ (by have := inc_meas hk; omega) hRS183 ⟨by omega, by omega, by omega⟩ hP hD hS (lv_sub hl [0, 1, 2, 3, 4] rfl)
  exact loop90 _ _ _ _ _ _ _ _ _ (Nat.lt_succ_self _) hRS89 ⟨by omega, by omega, by omega⟩ hP hD hS (lv_sub hl [0, 1, 2, 3, 4] rfl)
set_option maxHeartbeats 4000000 in
set_option maxRecDepth 100000 in
theorem m_Rd_readAlternatives_1 (l : Launch) {D : va_G} {cy : Nat → ClassId} {sz n : Nat} {ad : Nat → Nat} {mem : Nat → va_E} {Z : Nat} {f : Nat → Int32} {lim rc ec : Nat} {m0 : Nat → va_E} (hlt : l.stackTraces = false) (hn : 224 ≤ n) (hT : TX cy ad Z f m0) (hRS : RS cy ad lim rc ec m0 mem) : NXr l D cy sz n ad y_Rd_readAlternatives c_Rd_readAlternatives 5 (some (.object "AbnfChart$Element")) ({ frames := 49, cells := 1, slots := 6, locals := 1188 } : Room) mem [.ref (ad 222), .int (1)] (fun r mem' => ∃ k rc' ec' : Nat, r = ad (20 + 2 * k) ∧ ec ≤ k ∧ k < ec' ∧ rc ≤ rc' ∧ RS cy ad lim rc' ec' m0 mem') (fun X mem' => (X = cIA ∨ X = cIS) ∧ ∃ rc' ec' : Nat, RS cy ad lim rc' ec' m0 mem') := by
  refine vx_ofW (cc := c_Rd_readAlternatives) (maxL := 5) (ret := (some (.object "AbnfChart$Element"))) (by decide) rfl ?_
  intro p e s m args below meth c s₁ B hml hno hv
  obtain ⟨rfl, E, hP, hD⟩ := hv
  have hx := B.exec
  have hb := B.bytes
  have hr := B.returns
  have hlocks := B.notSynchronized
  have Bx : MB p s m [.ref (ad 222), .int (1)].toArray c c_Rd_readAlternatives "AbnfChart$Reader" D cy := ⟨hx, hb, tb_all (atoms_spec B.pre) E.2.1, findClass_of_methodNamed B.named, E.1⟩
  have hS : va_S (Az sz) s.heap s.heap [] := va_S.rf
  have hl := lv_entry ([.ref (ad 222), .int (1)]) (n := 5) (Nat.le_of_ble_eq_true rfl)
  rw [lg_entry_eq]
  generalize (lg_sl ([.ref (ad 222), .int (1)]) ++ List.replicate (5 - (lg_sl ([.ref (ad 222), .int (1)])).length) Slot.unset).toArray = ls at hl ⊢
  have hl : lv_has ls 5 [(0, .ref (ad 222)), (1, .int (1))] := hl
  obtain ⟨at1, ft2, h9_3⟩ := hRS.2.1
  have h1_4 : mem 1 = .inr (0, [.ref (ad 2), .int (nI Z)]) := (hRS.2.2 1 (by omega)).trans hT.1
  have h2_5 : mem 2 = .inl (cy 0, 240, .inl f) := (hRS.2.2 2 (by omega)).trans hT.2.2
  have h5_6 := hRS.1.2.1
  have hbd12 := hRS.1.1
  obtain ⟨S7, g8, hS_9, h220_10, h221_11⟩ := hRS.1.2.2.2.2.2.2
  refine lv_aload_n Bx.1 Bx.2.1 d_Rd_readAlternatives_0 rfl (lv_at hl 0 rfl) ?_
  refine lv_iconst (v := 0) Bx.1 Bx.2.1 d_Rd_readAlternatives_1 (by decide) ?_
  refine f_xVr (na := 1) (As := [.int (0)]) (rest := []) Bx hml E hP hD hS (by omega) h9_3 rfl (m_Rd_beginRow l hlt hn hT hRS) kw_409 kw_411 sel_Rd_beginRow kw_6 kw_412 (by decide +kernel) ⟨rfl, rfl⟩ ⟨Nat.le_of_ble_eq_true rfl, Nat.le_of_ble_eq_true rfl⟩ rfl hl.1 (Nat.le_of_ble_eq_true rfl) d_Rd_readAlternatives_2 ⟨Nat.le_of_ble_eq_true rfl, Nat.le_of_ble_eq_true rfl⟩ (fun X ce q9 memx H locs hx9 hP hS g1 g2 g3 => f_out hlocks hno hP hS g1 g2 g3 ⟨Nat.le_of_ble_eq_true rfl, Nat.le_of_ble_eq_true rfl⟩ hx9) (fun r13 mem14 H locs hq hP hS => ?_)
  have hD : va_D (Az sz) (fw n ad mem14) := fw_D hD
  obtain ⟨kx15, rc16, ec17, hr919, hb20, hb21, hb22, hRS18⟩ := hq
  subst hr919
  have hbd23 := hRS18.1.1
  obtain ⟨at24, ft25, h9_26⟩ := hRS18.2.1
  have h1_27 : mem14 1 = .inr (0, [.ref (ad 2), .int (nI Z)]) := (hRS18.2.2 1 (by omega)).trans hT.1
  have h2_28 : mem14 2 = .inl (cy 0, 240, .inl f) := (hRS18.2.2 2 (by omega)).trans hT.2.2
  have h5_29 := hRS18.1.2.1
  have hbd35 := hRS18.1.1
  obtain ⟨S30, g31, hS_32, h220_33, h221_34⟩ := hRS18.1.2.2.2.2.2.2
  obtain ⟨k36, lo37, hi38, as39, pa40, ne41, he_42, ho_43⟩ := (hRS18.1.2.2.2.2.2.1 kx15 (by omega)).1
  refine lv_astore_n (lv' := [(2, .ref (ad (20 + 2 * kx15))), (0, .ref (ad 222)), (1, .int (1))]) Bx.1 Bx.2.1 d_Rd_readAlternatives_5 rfl hl (by decide) rfl (fun ls hl => ?_)
  refine lv_aload_n Bx.1 Bx.2.1 d_Rd_readAlternatives_6 rfl (lv_at hl 1 rfl) ?_
  refine lv_iload_n Bx.1 Bx.2.1 d_Rd_readAlternatives_7 rfl (lv_at hl 2 rfl) ?_
  refine f_xVr (na := 1) (As := [.int (1)]) (rest := []) Bx hml E hP hD hS (by omega) h9_26 rfl (m_Rd_readSequence_1 l hlt hn hT hRS18) kw_435 kw_437 sel_Rd_readSequence kw_6 kw_438 (by decide +kernel) ⟨rfl, rfl⟩ ⟨Nat.le_of_ble_eq_true rfl, Nat.le_of_ble_eq_true rfl⟩ rfl hl.1 (Nat.le_of_ble_eq_true rfl) d_Rd_readAlternatives_8 ⟨Nat.le_of_ble_eq_true rfl, Nat.le_of_ble_eq_true rfl⟩ (fun X ce q9 memx H locs hx9 hP hS g1 g2 g3 => f_out hlocks hno hP hS g1 g2 g3 ⟨Nat.le_of_ble_eq_true rfl, Nat.le_of_ble_eq_true rfl⟩ hx9) (fun r44 mem45 H locs hq hP hS => ?_)
  have hD : va_D (Az sz) (fw n ad mem45) := fw_D hD
  obtain ⟨kx46, rc47, ec48, hr950, hb51, hb52, hb53, hRS49⟩ := hq
  subst hr950
  have hbd54 := hRS49.1.1
  obtain ⟨at55, ft56, h9_57⟩ := hRS49.2.1
  have h1_58 : mem45 1 = .inr (0, [.ref (ad 2), .int (nI Z)]) := (hRS49.2.2 1 (by omega)).trans hT.1
  have h2_59 : mem45 2 = .inl (cy 0, 240, .inl f) := (hRS49.2.2 2 (by omega)).trans hT.2.2
  have h5_60 := hRS49.1.2.1
  have hbd66 := hRS49.1.1
  obtain ⟨S61, g62, hS_63, h220_64, h221_65⟩ := hRS49.1.2.2.2.2.2.2
  obtain ⟨k67, lo68, hi69, as70, pa71, ne72, he_73, ho_74⟩ := (hRS49.1.2.2.2.2.2.1 kx15 (by omega)).1
  obtain ⟨k75, lo76, hi77, as78, pa79, ne80, he_81, ho_82⟩ := (hRS49.1.2.2.2.2.2.1 kx46 (by omega)).1
  refine lv_astore_n (lv' := [(3, .ref (ad (20 + 2 * kx46))), (2, .ref (ad (20 + 2 * kx15))), (0, .ref (ad 222)), (1, .int (1))]) Bx.1 Bx.2.1 d_Rd_readAlternatives_11 rfl hl (by decide) rfl (fun ls hl => ?_)
  refine lv_aload_n Bx.1 Bx.2.1 d_Rd_readAlternatives_12 rfl (lv_at hl 1 rfl) ?_
  refine lv_aload_n Bx.1 Bx.2.1 d_Rd_readAlternatives_13 rfl (lv_at hl 0 rfl) ?_
  refine f_putN Bx hP hD hS (by omega) he_73 rfl inEl tyEl okEl nmEl 4 (by decide) kw_87 rfl rfl rfl rfl (Nat.le_of_ble_eq_true rfl) d_Rd_readAlternatives_14 (fun H locs hP hS => ?_)
  obtain ⟨mem83, e_mem83⟩ : ∃ z, z = va_up mem45 ((20 + 2 * kx15)) (.inr (2, [.int (k67), .int (lo68), .int (hi69), as70, .ref (ad (20 + 2 * kx46)), ne72, .ref (ad (21 + 2 * kx15))])) := ⟨_, rfl⟩
  have hP : va_P D vcl (fw n ad mem83) H := by rw [e_mem83]; exact hP
  have hD : va_D (Az sz) (fw n ad mem83) := fw_D hD
  have h_mem83 : mem83 ((20 + 2 * kx15)) = .inr (2, [.int (k67), .int (lo68), .int (hi69), as70, .ref (ad (20 + 2 * kx46)), ne72, .ref (ad (21 + 2 * kx15))]) := by rw [e_mem83, va_up_self]
  have hh84 := (va_up_ne mem45 (.inr (2, [.int (k67), .int (lo68), .int (hi69), as70, .ref (ad (20 + 2 * kx46)), ne72, .ref (ad (21 + 2 * kx15))])) (show (222 : Nat) ≠ (20 + 2 * kx15) by first | decide | assumption | omega)).trans h9_57
  rw [← e_mem83] at hh84
  have hh85 := (va_up_ne mem45 (.inr (2, [.int (k67), .int (lo68), .int (hi69), as70, .ref (ad (20 + 2 * kx46)), ne72, .ref (ad (21 + 2 * kx15))])) (show (1 : Nat) ≠ (20 + 2 * kx15) by first | decide | assumption | omega)).trans h1_58
  rw [← e_mem83] at hh85
  have hh86 := (va_up_ne mem45 (.inr (2, [.int (k67), .int (lo68), .int (hi69), as70, .ref (ad (20 + 2 * kx46)), ne72, .ref (ad (21 + 2 * kx15))])) (show (5 : Nat) ≠ (20 + 2 * kx15) by first | decide | assumption | omega)).trans h5_60
  rw [← e_mem83] at hh86
  have hh87 := (va_up_ne mem45 (.inr (2, [.int (k67), .int (lo68), .int (hi69), as70, .ref (ad (20 + 2 * kx46)), ne72, .ref (ad (21 + 2 * kx15))])) (show (220 : Nat) ≠ (20 + 2 * kx15) by first | decide | assumption | omega)).trans h220_64
  rw [← e_mem83] at hh87
  have hh88 := (va_up_ne mem45 (.inr (2, [.int (k67), .int (lo68), .int (hi69), as70, .ref (ad (20 + 2 * kx46)), ne72, .ref (ad (21 + 2 * kx15))])) (show ((20 + 2 * kx46) : Nat) ≠ (20 + 2 * kx15) by first | decide | assumption | omega)).trans he_81
  rw [← e_mem83] at hh88
  have hRS89 : RS cy ad lim rc47 ec48 m0 mem83 := by rw [e_mem83]; exact hRS49.mk (by omega) (hRS49.1.upEl (by omega) (fun q9 => ⟨(ho_74 q9).1, Or.inr ⟨kx46, by omega, by omega, rfl⟩, (ho_74 q9).2.2⟩))
  refine lv_iconst (v := 0) Bx.1 Bx.2.1 d_Rd_readAlternatives_17 (by decide) ?_
  refine lv_istore (lv' := [(4, .int (0)), (3, .ref (ad (20 + 2 * kx46))), (2, .ref (ad (20 + 2 * kx15))), (0, .ref (ad 222)), (1, .int (1))]) Bx.1 Bx.2.1 d_Rd_readAlternatives_18 hl (by decide) rfl (fun ls hl => ?_)
  have loop90 : ∀ (d : Nat) (mem : Nat → va_E) (rcl ecl : Nat) (ls : Array Slot) (H : Heap) (locs : List Loc) (la : Nat) (k9 : Int32), ((240 : Int32).toInt - (k9).toInt).toNat < d → RS cy ad lim rcl ecl m0 mem → kx15 < ecl ∧ la < ecl ∧ rc ≤ rcl → va_P D vcl (fw n ad mem) H → va_D (Az sz) (fw n ad mem) → va_S (Az sz) s.heap H locs → lv_has ls 5 [(4, .int (k9)), (3, .ref (ad (20 + 2 * la))), (2, .ref (ad (20 + 2 * kx15))), (0, .ref (ad 222)), (1, .int (1))] → W p l e (headSpec (Cond.code y_Rd_readAlternatives c_Rd_readAlternatives 5 (some (.object "AbnfChart$Element")) :: tg) ({ frames := 49, cells := 1, slots := 6, locals := 1188 } : Room)).room s m [.ref (ad 222), .int (1)].toArray below meth c H locs 0 0 (vx_MQ below (QX (QR (fun r mem' => ∃ k rc' ec' : Nat, r = ad (20 + 2 * k) ∧ ec ≤ k ∧ k < ec' ∧ rc ≤ rc' ∧ RS cy ad lim rc' ec' m0 mem') (PP D n ad) (Az sz))) (XQ D sz n ad (fun X mem' => (X = cIA ∨ X = cIS) ∧ ∃ rc' ec' : Nat, RS cy ad lim rc' ec' m0 mem')) [.ref (ad 222), .int (1)].toArray s 1 6 (Az sz)) (F0 m 20 ls []) := by
    intro d
    induction d with
    | zero => intro mem rcl ecl ls H locs la k9 hmeas; exact absurd hmeas (Nat.not_lt_zero _)
    | succ d ih =>
      intro mem rcl ecl ls H locs la k9 hmeas hRS hx0 hP hD hS hl
      have hbd := hRS.1.1
      obtain ⟨at91, ft92, h9_93⟩ := hRS.2.1
      have h1_94 : mem 1 = .inr (0, [.ref (ad 2), .int (nI Z)]) := (hRS.2.2 1 (by omega)).trans hT.1
      have h2_95 : mem 2 = .inl (cy 0, 240, .inl f) := (hRS.2.2 2 (by omega)).trans hT.2.2
      have h5_96 := hRS.1.2.1
      have hbd102 := hRS.1.1
      obtain ⟨S97, g98, hS_99, h220_100, h221_101⟩ := hRS.1.2.2.2.2.2.2
      obtain ⟨k103, lo104, hi105, as106, pa107, ne108, he_109, ho_110⟩ := (hRS.1.2.2.2.2.2.1 la (by omega)).1
      refine lv_iload Bx.1 Bx.2.1 d_Rd_readAlternatives_20 (lv_at hl 0 rfl) ?_
      refine lv_sipush (v := 240) Bx.1 Bx.2.1 d_Rd_readAlternatives_22 (by decide) ?_
      refine lv_icmp_ge Bx.1 Bx.2.1 d_Rd_readAlternatives_25 rfl (fun hk => ?_) (fun hk => ?_)
      · refine lv_aload_n Bx.1 Bx.2.1 d_Rd_readAlternatives_72 rfl (lv_at hl 2 rfl) ?_
        exact x_aret hx hb hlocks hr (⟨kx15, rcl, ecl, rfl, by omega, by omega, by omega, hRS⟩) hP hS d_Rd_readAlternatives_73
      · refine lv_aload_n Bx.1 Bx.2.1 d_Rd_readAlternatives_28 rfl (lv_at hl 3 rfl) ?_
        refine f_callVi (na := 0) (As := []) (rest := []) Bx hml E hP hD hS (by omega) h9_93 rfl (m_Rd_peek l hn hT hRS) kw_353 kw_355 sel_Rd_peek kw_6 kw_356 (by decide +kernel) ⟨rfl, rfl⟩ ⟨Nat.le_of_ble_eq_true rfl, Nat.le_of_ble_eq_true rfl⟩ rfl hl.1 (Nat.le_of_ble_eq_true rfl) d_Rd_readAlternatives_29 ⟨Nat.le_of_ble_eq_true rfl, Nat.le_of_ble_eq_true rfl⟩ (fun r111 mem112 H locs hq hP hS => ?_)
        have hD : va_D (Az sz) (fw n ad mem112) := fw_D hD
        rw [hq] at hP hD
        refine lv_bipush (v := 47) Bx.1 Bx.2.1 d_Rd_readAlternatives_32 (by decide) ?_
        refine lv_icmp_ne Bx.1 Bx.2.1 d_Rd_readAlternatives_34 rfl (fun h8 => ?_) (fun h8 => ?_)
        · refine lv_aload_n Bx.1 Bx.2.1 d_Rd_readAlternatives_72 rfl (lv_at hl 2 rfl) ?_
          exact x_aret hx hb hlocks hr (⟨kx15, rcl, ecl, rfl, by omega, by omega, by omega, hRS⟩) hP hS d_Rd_readAlternatives_73
        · refine lv_aload_n Bx.1 Bx.2.1 d_Rd_readAlternatives_37 rfl (lv_at hl 3 rfl) ?_
          refine lv_dup Bx.1 Bx.2.1 d_Rd_readAlternatives_38 rfl ?_
          refine f_get Bx hP (by omega) h9_93 rfl inRd 2 (by decide) kw_146 rfl rfl d_Rd_readAlternatives_39 ?_
          refine lv_iconst (v := 1) Bx.1 Bx.2.1 d_Rd_readAlternatives_42 (by decide) ?_
          refine lv_iadd Bx.1 Bx.2.1 d_Rd_readAlternatives_43 ?_
          refine f_put Bx hP hD hS (by omega) h9_93 rfl inRd tyRd okRd nmRd 2 (by decide) kw_146 rfl rfl rfl rfl (Nat.le_of_ble_eq_true rfl) d_Rd_readAlternatives_44 (fun H locs hP hS => ?_)
          obtain ⟨mem113, e_mem113⟩ : ∃ z, z = va_up mem (222) (.inr (4, [.ref (ad 1), .ref (ad 5), .int (at91 + 1), .int (ft92)])) := ⟨_, rfl⟩
          have hP : va_P D vcl (fw n ad mem113) H := by rw [e_mem113]; exact hP
          have hD : va_D (Az sz) (fw n ad mem113) := fw_D hD
          have h_mem113 : mem113 (222) = .inr (4, [.ref (ad 1), .ref (ad 5), .int (at91 + 1), .int (ft92)]) := by rw [e_mem113, va_up_self]
          have hh114 := (va_up_ne mem (.inr (4, [.ref (ad 1), .ref (ad 5), .int (at91 + 1), .int (ft92)])) (show (1 : Nat) ≠ 222 by first | decide | assumption | omega)).trans h1_94
          rw [← e_mem113] at hh114
          have hh115 := (va_up_ne mem (.inr (4, [.ref (ad 1), .ref (ad 5), .int (at91 + 1), .int (ft92)])) (show (5 : Nat) ≠ 222 by first | decide | assumption | omega)).trans h5_96
          rw [← e_mem113] at hh115
          have hh116 := (va_up_ne mem (.inr (4, [.ref (ad 1), .ref (ad 5), .int (at91 + 1), .int (ft92)])) (show (220 : Nat) ≠ 222 by first | decide | assumption | omega)).trans h220_100
          rw [← e_mem113] at hh116
          have hh117 := (va_up_ne mem (.inr (4, [.ref (ad 1), .ref (ad 5), .int (at91 + 1), .int (ft92)])) (show ((20 + 2 * la) : Nat) ≠ 222 by first | decide | assumption | omega)).trans he_109
          rw [← e_mem113] at hh117
          have hRS118 : RS cy ad lim rcl ecl m0 mem113 := by rw [e_mem113]; exact hRS.at222
          refine lv_aload_n Bx.1 Bx.2.1 d_Rd_readAlternatives_47 rfl (lv_at hl 3 rfl) ?_
          refine f_callVi (na := 0) (As := []) (rest := []) Bx hml E hP hD hS (by omega) h_mem113 rfl (m_Rd_readGap l hn hT hRS118) kw_397 kw_399 sel_Rd_readGap kw_6 kw_400 (by decide +kernel) ⟨rfl, rfl⟩ ⟨Nat.le_of_ble_eq_true rfl, Nat.le_of_ble_eq_true rfl⟩ rfl hl.1 (Nat.le_of_ble_eq_true rfl) d_Rd_readAlternatives_48 ⟨Nat.le_of_ble_eq_true rfl, Nat.le_of_ble_eq_true rfl⟩ (fun r120 mem121 H locs hRS119 hP hS => ?_)
          have hD : va_D (Az sz) (fw n ad mem121) := fw_D hD
          obtain ⟨at122, ft123, h9_124⟩ := hRS119.2.1
          have h1_125 : mem121 1 = .inr (0, [.ref (ad 2), .int (nI Z)]) := (hRS119.2.2 1 (by omega)).trans hT.1
          have h2_126 : mem121 2 = .inl (cy 0, 240, .inl f) := (hRS119.2.2 2 (by omega)).trans hT.2.2
          have h5_127 := hRS119.1.2.1
          have hbd133 := hRS119.1.1
          obtain ⟨S128, g129, hS_130, h220_131, h221_132⟩ := hRS119.1.2.2.2.2.2.2
          obtain ⟨k134, lo135, hi136, as137, pa138, ne139, he_140, ho_141⟩ := (hRS119.1.2.2.2.2.2.1 la (by omega)).1
          refine lv_pop Bx.1 Bx.2.1 d_Rd_readAlternatives_51 rfl ?_
          refine lv_aload_n Bx.1 Bx.2.1 d_Rd_readAlternatives_52 rfl (lv_at hl 1 rfl) ?_
          refine lv_aload_n Bx.1 Bx.2.1 d_Rd_readAlternatives_53 rfl (lv_at hl 3 rfl) ?_
          refine lv_iload_n Bx.1 Bx.2.1 d_Rd_readAlternatives_54 rfl (lv_at hl 4 rfl) ?_
          refine f_xVr (na := 1) (As := [.int (1)]) (rest := [.ref (ad (20 + 2 * la))]) Bx hml E hP hD hS (by omega) h9_124 rfl (m_Rd_readSequence_1 l hlt hn hT hRS119) kw_435 kw_437 sel_Rd_readSequence kw_6 kw_438 (by decide +kernel) ⟨rfl, rfl⟩ ⟨Nat.le_of_ble_eq_true rfl, Nat.le_of_ble_eq_true rfl⟩ rfl hl.1 (Nat.le_of_ble_eq_true rfl) d_Rd_readAlternatives_55 ⟨Nat.le_of_ble_eq_true rfl, Nat.le_of_ble_eq_true rfl⟩ (fun X ce q9 memx H locs hx9 hP hS g1 g2 g3 => f_out hlocks hno hP hS g1 g2 g3 ⟨Nat.le_of_ble_eq_true rfl, Nat.le_of_ble_eq_true rfl⟩ hx9) (fun r142 mem143 H locs hq hP hS => ?_)
          have hD : va_D (Az sz) (fw n ad mem143) := fw_D hD
          obtain ⟨kx144, rc145, ec146, hr9148, hb149, hb150, hb151, hRS147⟩ := hq
          subst hr9148
          have hbd152 := hRS147.1.1
          obtain ⟨at153, ft154, h9_155⟩ := hRS147.2.1
          have h1_156 : mem143 1 = .inr (0, [.ref (ad 2), .int (nI Z)]) := (hRS147.2.2 1 (by omega)).trans hT.1
          have h2_157 : mem143 2 = .inl (cy 0, 240, .inl f) := (hRS147.2.2 2 (by omega)).trans hT.2.2
          have h5_158 := hRS147.1.2.1
          have hbd164 := hRS147.1.1
          obtain ⟨S159, g160, hS_161, h220_162, h221_163⟩ := hRS147.1.2.2.2.2.2.2
          obtain ⟨k165, lo166, hi167, as168, pa169, ne170, he_171, ho_172⟩ := (hRS147.1.2.2.2.2.2.1 la (by omega)).1
          obtain ⟨k173, lo174, hi175, as176, pa177, ne178, he_179, ho_180⟩ := (hRS147.1.2.2.2.2.2.1 kx144 (by omega)).1
          refine f_putN Bx hP hD hS (by omega) he_171 rfl inEl tyEl okEl nmEl 5 (by decide) kw_91 rfl rfl rfl rfl (Nat.le_of_ble_eq_true rfl) d_Rd_readAlternatives_58 (fun H locs hP hS => ?_)
          obtain ⟨mem181, e_mem181⟩ : ∃ z, z = va_up mem143 ((20 + 2 * la)) (.inr (2, [.int (k165), .int (lo166), .int (hi167), as168, pa169, .ref (ad (20 + 2 * kx144)), .ref (ad (21 + 2 * la))])) := ⟨_, rfl⟩
          have hP : va_P D vcl (fw n ad mem181) H := by rw [e_mem181]; exact hP
          have hD : va_D (Az sz) (fw n ad mem181) := fw_D hD
          have h_mem181 : mem181 ((20 + 2 * la)) = .inr (2, [.int (k165), .int (lo166), .int (hi167), as168, pa169, .ref (ad (20 + 2 * kx144)), .ref (ad (21 + 2 * la))]) := by rw [e_mem181, va_up_self]
          have hh182 := (va_up_ne mem143 (.inr (2, [.int (k165), .int (lo166), .int (hi167), as168, pa169, .ref (ad (20 + 2 * kx144)), .ref (ad (21 + 2 * la))])) (show (222 : Nat) ≠ (20 + 2 * la) by first | decide | assumption | omega)).trans h9_155
          rw [← e_mem181] at hh182
          have hh183 := (va_up_ne mem143 (.inr (2, [.int (k165), .int (lo166), .int (hi167), as168, pa169, .ref (ad (20 + 2 * kx144)), .ref (ad (21 + 2 * la))])) (show (1 : Nat) ≠ (20 + 2 * la) by first | decide | assumption | omega)).trans h1_156
          rw [← e_mem181] at hh183
          have hh184 := (va_up_ne mem143 (.inr (2, [.int (k165), .int (lo166), .int (hi167), as168, pa169, .ref (ad (20 + 2 * kx144)), .ref (ad (21 + 2 * la))])) (show (5 : Nat) ≠ (20 + 2 * la) by first | decide | assumption | omega)).trans h5_158
          rw [← e_mem181] at hh184
          have hh185 := (va_up_ne mem143 (.inr (2, [.int (k165), .int (lo166), .int (hi167), as168, pa169, .ref (ad (20 + 2 * kx144)), .ref (ad (21 + 2 * la))])) (show (220 : Nat) ≠ (20 + 2 * la) by first | decide | assumption | omega)).trans h220_162
          rw [← e_mem181] at hh185
          have hh186 := (va_up_ne mem143 (.inr (2, [.int (k165), .int (lo166), .int (hi167), as168, pa169, .ref (ad (20 + 2 * kx144)), .ref (ad (21 + 2 * la))])) (show ((20 + 2 * kx144) : Nat) ≠ (20 + 2 * la) by first | decide | assumption | omega)).trans he_179
          rw [← e_mem181] at hh186
          have hRS187 : RS cy ad lim rc145 ec146 m0 mem181 := by rw [e_mem181]; exact hRS147.mk (by omega) (hRS147.1.upEl (by omega) (fun q9 => ⟨(ho_172 q9).1, (ho_172 q9).2.1, Or.inr ⟨kx144, by omega, by omega, rfl⟩⟩))
          refine lv_aload_n Bx.1 Bx.2.1 d_Rd_readAlternatives_61 rfl (lv_at hl 1 rfl) ?_
          refine f_getN Bx hP (by omega) h_mem181 rfl inEl 5 (by decide) kw_91 rfl rfl d_Rd_readAlternatives_62 ?_
          refine lv_astore_n (lv' := [(3, .ref (ad (20 + 2 * kx144))), (4, .int (k9)), (2, .ref (ad (20 + 2 * kx15))), (0, .ref (ad 222)), (1, .int (1))]) Bx.1 Bx.2.1 d_Rd_readAlternatives_65 rfl hl (by decide) rfl (fun ls hl => ?_)
          refine lv_iinc (lv' := [(4, .int ((k9 + (1)))), (3, .ref (ad (20 + 2 * kx144))), (2, .ref (ad (20 + 2 * kx15))), (0, .ref (ad 222)), (1, .int (1))]) Bx.1 Bx.2.1 d_Rd_readAlternatives_66 hl (k := 1) rfl rfl (by decide) rfl (fun ls hl => ?_)
          refine lv_goto Bx.1 Bx.2.1 d_Rd_readAlternatives_69 rfl ?_
          exact ih _ _ _ _ _ _ _ _ (by have := inc_meas hk; omega) hRS187 ⟨by omega, by omega, by omega⟩ hP hD hS (lv_sub hl [0, 1, 2, 3, 4] rfl)
  exact loop90 _ _ _ _ _ _ _ _ _ (Nat.lt_succ_self _) hRS89 ⟨by omega, by omega, by omega⟩ hP hD hS (lv_sub hl [0, 1, 2, 3, 4] rfl)
set_option maxHeartbeats 4000000 in
set_option maxRecDepth 100000 in
theorem m_Rd_readBracket_0 (l : Launch) {D : va_G} {cy : Nat → ClassId} {sz n : Nat} {ad : Nat → Nat} {mem : Nat → va_E} {Z : Nat} {f : Nat → Int32} {lim rc ec : Nat} {m0 : Nat → va_E} {en : Int32} (hlt : l.stackTraces = false) (hn : 224 ≤ n) (hT : TX cy ad Z f m0) (hRS : RS cy ad lim rc ec m0 mem) : NXr l D cy sz n ad y_Rd_readBracket c_Rd_readBracket 4 (some (.object "AbnfChart$Element")) ({ frames := 50, cells := 1, slots := 6, locals := 1220 } : Room) mem [.ref (ad 222), .int (0), .int (en)] (fun r mem' => ∃ k rc' ec' : Nat, r = ad (20 + 2 * k) ∧ ec ≤ k ∧ k < ec' ∧ rc ≤ rc' ∧ RS cy ad lim rc' ec' m0 mem') (fun X mem' => (X = cIA ∨ X = cIS) ∧ ∃ rc' ec' : Nat, RS cy ad lim rc' ec' m0 mem') := by
  refine vx_ofW (cc := c_Rd_readBracket) (maxL := 4) (ret := (some (.object "AbnfChart$Element"))) (by decide) rfl ?_
  intro p e s m args below meth c s₁ B hml hno hv
  obtain ⟨rfl, E, hP, hD⟩ := hv
  have hx := B.exec
  have hb := B.bytes
  have hr := B.returns
  have hlocks := B.notSynchronized
  have Bx : MB p s m [.ref (ad 222), .int (0), .int (en)].toArray c c_Rd_readBracket "AbnfChart$Reader" D cy := ⟨hx, hb, tb_all (atoms_spec B.pre) E.2.1, findClass_of_methodNamed B.named, E.1⟩
  have hS : va_S (Az sz) s.heap s.heap [] := va_S.rf
  have hl := lv_entry ([.ref (ad 222), .int (0), .int (en)]) (n := 4) (Nat.le_of_ble_eq_true rfl)
  rw [lg_entry_eq]
  generalize (lg_sl ([.ref (ad 222), .int (0), .int (en)]) ++ List.replicate (4 - (lg_sl ([.ref (ad 222), .int (0), .int (en)])).length) Slot.unset).toArray = ls at hl ⊢
  have hl : lv_has ls 4 [(0, .ref (ad 222)), (1, .int (0)), (2, .int (en))] := hl
  obtain ⟨at1, ft2, h9_3⟩ := hRS.2.1
  have h1_4 : mem 1 = .inr (0, [.ref (ad 2), .int (nI Z)]) := (hRS.2.2 1 (by omega)).trans hT.1
  have h2_5 : mem 2 = .inl (cy 0, 240, .inl f) := (hRS.2.2 2 (by omega)).trans hT.2.2
  have h5_6 := hRS.1.2.1
  have hbd12 := hRS.1.1
  obtain ⟨S7, g8, hS_9, h220_10, h221_11⟩ := hRS.1.2.2.2.2.2.2
  refine lv_aload_n Bx.1 Bx.2.1 d_Rd_readBracket_0 rfl (lv_at hl 0 rfl) ?_
  refine lv_iload_n Bx.1 Bx.2.1 d_Rd_readBracket_1 rfl (lv_at hl 1 rfl) ?_
  refine lv_bipush (v := 6) Bx.1 Bx.2.1 d_Rd_readBracket_2 (by decide) ?_
  refine lv_icmp_ge Bx.1 Bx.2.1 d_Rd_readBracket_4 rfl (fun h8 => ?_) (fun h8 => ?_)
  · exact absurd h8 (by decide)
  · refine lv_iconst (v := 1) Bx.1 Bx.2.1 d_Rd_readBracket_7 (by decide) ?_
    refine lv_goto Bx.1 Bx.2.1 d_Rd_readBracket_8 rfl ?_
    refine lv_aload_n Bx.1 Bx.2.1 d_Rd_readBracket_12 rfl (lv_at hl 0 rfl) ?_
    refine f_get Bx hP (by omega) h9_3 rfl inRd 2 (by decide) kw_146 rfl rfl d_Rd_readBracket_13 ?_
    refine f_xVv (na := 2) (As := [.int (1), .int (at1)]) (rest := []) Bx hml E hP hD hS (by omega) h9_3 rfl (m_Rd_needRoom l hlt hn hT hRS) kw_383 kw_385 sel_Rd_needRoom kw_6 kw_386 (by decide +kernel) ⟨rfl, rfl⟩ ⟨Nat.le_of_ble_eq_true rfl, Nat.le_of_ble_eq_true rfl⟩ rfl hl.1 (Nat.le_of_ble_eq_true rfl) d_Rd_readBracket_16 ⟨Nat.le_of_ble_eq_true rfl, Nat.le_of_ble_eq_true rfl⟩ (fun X ce q9 memx H locs hx9 hP hS g1 g2 g3 => f_out hlocks hno hP hS g1 g2 g3 ⟨Nat.le_of_ble_eq_true rfl, Nat.le_of_ble_eq_true rfl⟩ hx9) (fun mem14 H locs hq hP hS => ?_)
    have hD : va_D (Az sz) (fw n ad mem14) := fw_D hD
    obtain ⟨hRS15, -, hg16⟩ := hq
    obtain ⟨at17, ft18, h9_19⟩ := hRS15.2.1
    have h1_20 : mem14 1 = .inr (0, [.ref (ad 2), .int (nI Z)]) := (hRS15.2.2 1 (by omega)).trans hT.1
    have h2_21 : mem14 2 = .inl (cy 0, 240, .inl f) := (hRS15.2.2 2 (by omega)).trans hT.2.2
    have h5_22 := hRS15.1.2.1
    have hbd28 := hRS15.1.1
    obtain ⟨S23, g24, hS_25, h220_26, h221_27⟩ := hRS15.1.2.2.2.2.2.2
    refine lv_aload_n Bx.1 Bx.2.1 d_Rd_readBracket_19 rfl (lv_at hl 0 rfl) ?_
    refine lv_dup Bx.1 Bx.2.1 d_Rd_readBracket_20 rfl ?_
    refine f_get Bx hP (by omega) h9_19 rfl inRd 2 (by decide) kw_146 rfl rfl d_Rd_readBracket_21 ?_
    refine lv_iconst (v := 1) Bx.1 Bx.2.1 d_Rd_readBracket_24 (by decide) ?_
    refine lv_iadd Bx.1 Bx.2.1 d_Rd_readBracket_25 ?_
    refine f_put Bx hP hD hS (by omega) h9_19 rfl inRd tyRd okRd nmRd 2 (by decide) kw_146 rfl rfl rfl rfl (Nat.le_of_ble_eq_true rfl) d_Rd_readBracket_26 (fun H locs hP hS => ?_)
    obtain ⟨mem29, e_mem29⟩ : ∃ z, z = va_up mem14 (222) (.inr (4, [.ref (ad 1), .ref (ad 5), .int (at17 + 1), .int (ft18)])) := ⟨_, rfl⟩
    have hP : va_P D vcl (fw n ad mem29) H := by rw [e_mem29]; exact hP
    have hD : va_D (Az sz) (fw n ad mem29) := fw_D hD
    have h_mem29 : mem29 (222) = .inr (4, [.ref (ad 1), .ref (ad 5), .int (at17 + 1), .int (ft18)]) := by rw [e_mem29, va_up_self]
    have hh30 := (va_up_ne mem14 (.inr (4, [.ref (ad 1), .ref (ad 5), .int (at17 + 1), .int (ft18)])) (show (1 : Nat) ≠ 222 by first | decide | assumption | omega)).trans h1_20
    rw [← e_mem29] at hh30
    have hh31 := (va_up_ne mem14 (.inr (4, [.ref (ad 1), .ref (ad 5), .int (at17 + 1), .int (ft18)])) (show (5 : Nat) ≠ 222 by first | decide | assumption | omega)).trans h5_22
    rw [← e_mem29] at hh31
    have hh32 := (va_up_ne mem14 (.inr (4, [.ref (ad 1), .ref (ad 5), .int (at17 + 1), .int (ft18)])) (show (220 : Nat) ≠ 222 by first | decide | assumption | omega)).trans h220_26
    rw [← e_mem29] at hh32
    have hRS33 : RS cy ad lim rc ec m0 mem29 := by rw [e_mem29]; exact hRS15.at222
    refine lv_aload_n Bx.1 Bx.2.1 d_Rd_readBracket_29 rfl (lv_at hl 0 rfl) ?_
    refine f_callVi (na := 0) (As := []) (rest := []) Bx hml E hP hD hS (by omega) h_mem29 rfl (m_Rd_readGap l hn hT hRS33) kw_397 kw_399 sel_Rd_readGap kw_6 kw_400 (by decide +kernel) ⟨rfl, rfl⟩ ⟨Nat.le_of_ble_eq_true rfl, Nat.le_of_ble_eq_true rfl⟩ rfl hl.1 (Nat.le_of_ble_eq_true rfl) d_Rd_readBracket_30 ⟨Nat.le_of_ble_eq_true rfl, Nat.le_of_ble_eq_true rfl⟩ (fun r35 mem36 H locs hRS34 hP hS => ?_)
    have hD : va_D (Az sz) (fw n ad mem36) := fw_D hD
    obtain ⟨at37, ft38, h9_39⟩ := hRS34.2.1
    have h1_40 : mem36 1 = .inr (0, [.ref (ad 2), .int (nI Z)]) := (hRS34.2.2 1 (by omega)).trans hT.1
    have h2_41 : mem36 2 = .inl (cy 0, 240, .inl f) := (hRS34.2.2 2 (by omega)).trans hT.2.2
    have h5_42 := hRS34.1.2.1
    have hbd48 := hRS34.1.1
    obtain ⟨S43, g44, hS_45, h220_46, h221_47⟩ := hRS34.1.2.2.2.2.2.2
    refine lv_pop Bx.1 Bx.2.1 d_Rd_readBracket_33 rfl ?_
    refine lv_aload_n Bx.1 Bx.2.1 d_Rd_readBracket_34 rfl (lv_at hl 0 rfl) ?_
    refine lv_iload_n Bx.1 Bx.2.1 d_Rd_readBracket_35 rfl (lv_at hl 1 rfl) ?_
    refine lv_iconst (v := 1) Bx.1 Bx.2.1 d_Rd_readBracket_36 (by decide) ?_
    refine lv_iadd Bx.1 Bx.2.1 d_Rd_readBracket_37 ?_
    rw [show (0 + 1 : Int32) = 1 from rfl]
    refine f_xVr (na := 1) (As := [.int (1)]) (rest := []) Bx hml E hP hD hS (by omega) h9_39 rfl (m_Rd_readAlternatives_1 l hlt hn hT hRS34) kw_405 kw_407 sel_Rd_readAlternatives kw_6 kw_408 (by decide +kernel) ⟨rfl, rfl⟩ ⟨Nat.le_of_ble_eq_true rfl, Nat.le_of_ble_eq_true rfl⟩ rfl hl.1 (Nat.le_of_ble_eq_true rfl) d_Rd_readBracket_38 ⟨Nat.le_of_ble_eq_true rfl, Nat.le_of_ble_eq_true rfl⟩ (fun X ce q9 memx H locs hx9 hP hS g1 g2 g3 => f_out hlocks hno hP hS g1 g2 g3 ⟨Nat.le_of_ble_eq_true rfl, Nat.le_of_ble_eq_true rfl⟩ hx9) (fun r49 mem50 H locs hq hP hS => ?_)
    have hD : va_D (Az sz) (fw n ad mem50) := fw_D hD
    obtain ⟨kx51, rc52, ec53, hr955, hb56, hb57, hb58, hRS54⟩ := hq
    subst hr955
    have hbd59 := hRS54.1.1
    obtain ⟨at60, ft61, h9_62⟩ := hRS54.2.1
    have h1_63 : mem50 1 = .inr (0, [.ref (ad 2), .int (nI Z)]) := (hRS54.2.2 1 (by omega)).trans hT.1
    have h2_64 : mem50 2 = .inl (cy 0, 240, .inl f) := (hRS54.2.2 2 (by omega)).trans hT.2.2
    have h5_65 := hRS54.1.2.1
    have hbd71 := hRS54.1.1
    obtain ⟨S66, g67, hS_68, h220_69, h221_70⟩ := hRS54.1.2.2.2.2.2.2
    obtain ⟨k72, lo73, hi74, as75, pa76, ne77, he_78, ho_79⟩ := (hRS54.1.2.2.2.2.2.1 kx51 (by omega)).1
    refine lv_astore_n (lv' := [(3, .ref (ad (20 + 2 * kx51))), (0, .ref (ad 222)), (1, .int (0)), (2, .int (en))]) Bx.1 Bx.2.1 d_Rd_readBracket_41 rfl hl (by decide) rfl (fun ls hl => ?_)
    refine lv_aload_n Bx.1 Bx.2.1 d_Rd_readBracket_42 rfl (lv_at hl 1 rfl) ?_
    refine lv_aload_n Bx.1 Bx.2.1 d_Rd_readBracket_43 rfl (lv_at hl 1 rfl) ?_
    refine f_callVi (na := 0) (As := []) (rest := [.ref (ad 222)]) Bx hml E hP hD hS (by omega) h9_62 rfl (m_Rd_peek l hn hT hRS54) kw_353 kw_355 sel_Rd_peek kw_6 kw_356 (by decide +kernel) ⟨rfl, rfl⟩ ⟨Nat.le_of_ble_eq_true rfl, Nat.le_of_ble_eq_true rfl⟩ rfl hl.1 (Nat.le_of_ble_eq_true rfl) d_Rd_readBracket_44 ⟨Nat.le_of_ble_eq_true rfl, Nat.le_of_ble_eq_true rfl⟩ (fun r80 mem81 H locs hq hP hS => ?_)
    have hD : va_D (Az sz) (fw n ad mem81) := fw_D hD
    rw [hq] at hP hD
    refine lv_iload_n Bx.1 Bx.2.1 d_Rd_readBracket_47 rfl (lv_at hl 3 rfl) ?_
    have J83 : ∀ (jv82 : Int32) (H : Heap) (locs : List Loc), va_P D vcl (fw n ad mem50) H → va_D (Az sz) (fw n ad mem50) → va_S (Az sz) s.heap H locs → W p l e (headSpec (Cond.code y_Rd_readBracket c_Rd_readBracket 4 (some (.object "AbnfChart$Element")) :: tg) ({ frames := 50, cells := 1, slots := 6, locals := 1220 } : Room)).room s m [.ref (ad 222), .int (0), .int (en)].toArray below meth c H locs 0 0 (vx_MQ below (QX (QR (fun r mem' => ∃ k rc' ec' : Nat, r = ad (20 + 2 * k) ∧ ec ≤ k ∧ k < ec' ∧ rc ≤ rc' ∧ RS cy ad lim rc' ec' m0 mem') (PP D n ad) (Az sz))) (XQ D sz n ad (fun X mem' => (X = cIA ∨ X = cIS) ∧ ∃ rc' ec' : Nat, RS cy ad lim rc' ec' m0 mem')) [.ref (ad 222), .int (0), .int (en)].toArray s 1 6 (Az sz)) (F0 m 56 ls [.int (jv82), .ref (ad 222)]) := by
      intro jv82 H locs hP hD hS
      refine lv_aload_n Bx.1 Bx.2.1 d_Rd_readBracket_56 rfl (lv_at hl 1 rfl) ?_
      refine f_get Bx hP (by omega) h9_62 rfl inRd 2 (by decide) kw_146 rfl rfl d_Rd_readBracket_57 ?_
      refine f_xVv (na := 2) (As := [.int (jv82), .int (at60)]) (rest := []) Bx hml E hP hD hS (by omega) h9_62 rfl (m_Rd_needReadable l hlt hn hT hRS54) kw_360 kw_362 sel_Rd_needReadable kw_6 kw_363 (by decide +kernel) ⟨rfl, rfl⟩ ⟨Nat.le_of_ble_eq_true rfl, Nat.le_of_ble_eq_true rfl⟩ rfl hl.1 (Nat.le_of_ble_eq_true rfl) d_Rd_readBracket_60 ⟨Nat.le_of_ble_eq_true rfl, Nat.le_of_ble_eq_true rfl⟩ (fun X ce q9 memx H locs hx9 hP hS g1 g2 g3 => f_out hlocks hno hP hS g1 g2 g3 ⟨Nat.le_of_ble_eq_true rfl, Nat.le_of_ble_eq_true rfl⟩ hx9) (fun mem85 H locs hq hP hS => ?_)
      have hD : va_D (Az sz) (fw n ad mem85) := fw_D hD
      obtain ⟨hRS86, -, hg87⟩ := hq
      obtain ⟨at88, ft89, h9_90⟩ := hRS86.2.1
      have h1_91 : mem85 1 = .inr (0, [.ref (ad 2), .int (nI Z)]) := (hRS86.2.2 1 (by omega)).trans hT.1
      have h2_92 : mem85 2 = .inl (cy 0, 240, .inl f) := (hRS86.2.2 2 (by omega)).trans hT.2.2
      have h5_93 := hRS86.1.2.1
      have hbd99 := hRS86.1.1
      obtain ⟨S94, g95, hS_96, h220_97, h221_98⟩ := hRS86.1.2.2.2.2.2.2
      obtain ⟨k100, lo101, hi102, as103, pa104, ne105, he_106, ho_107⟩ := (hRS86.1.2.2.2.2.2.1 kx51 (by omega)).1
      refine lv_aload_n Bx.1 Bx.2.1 d_Rd_readBracket_63 rfl (lv_at hl 1 rfl) ?_
      refine lv_dup Bx.1 Bx.2.1 d_Rd_readBracket_64 rfl ?_
      refine f_get Bx hP (by omega) h9_90 rfl inRd 2 (by decide) kw_146 rfl rfl d_Rd_readBracket_65 ?_
      refine lv_iconst (v := 1) Bx.1 Bx.2.1 d_Rd_readBracket_68 (by decide) ?_
      refine lv_iadd Bx.1 Bx.2.1 d_Rd_readBracket_69 ?_
      refine f_put Bx hP hD hS (by omega) h9_90 rfl inRd tyRd okRd nmRd 2 (by decide) kw_146 rfl rfl rfl rfl (Nat.le_of_ble_eq_true rfl) d_Rd_readBracket_70 (fun H locs hP hS => ?_)
      obtain ⟨mem108, e_mem108⟩ : ∃ z, z = va_up mem85 (222) (.inr (4, [.ref (ad 1), .ref (ad 5), .int (at88 + 1), .int (ft89)])) := ⟨_, rfl⟩
      have hP : va_P D vcl (fw n ad mem108) H := by rw [e_mem108]; exact hP
      have hD : va_D (Az sz) (fw n ad mem108) := fw_D hD
      have h_mem108 : mem108 (222) = .inr (4, [.ref (ad 1), .ref (ad 5), .int (at88 + 1), .int (ft89)]) := by rw [e_mem108, va_up_self]
      have hh109 := (va_up_ne mem85 (.inr (4, [.ref (ad 1), .ref (ad 5), .int (at88 + 1), .int (ft89)])) (show (1 : Nat) ≠ 222 by first | decide | assumption | omega)).trans h1_91
      rw [← e_mem108] at hh109
      have hh110 := (va_up_ne mem85 (.inr (4, [.ref (ad 1), .ref (ad 5), .int (at88 + 1), .int (ft89)])) (show (5 : Nat) ≠ 222 by first | decide | assumption | omega)).trans h5_93
      rw [← e_mem108] at hh110
      have hh111 := (va_up_ne mem85 (.inr (4, [.ref (ad 1), .ref (ad 5), .int (at88 + 1), .int (ft89)])) (show (220 : Nat) ≠ 222 by first | decide | assumption | omega)).trans h220_97
      rw [← e_mem108] at hh111
      have hh112 := (va_up_ne mem85 (.inr (4, [.ref (ad 1), .ref (ad 5), .int (at88 + 1), .int (ft89)])) (show ((20 + 2 * kx51) : Nat) ≠ 222 by first | decide | assumption | omega)).trans he_106
      rw [← e_mem108] at hh112
      have hRS113 : RS cy ad lim rc52 ec53 m0 mem108 := by rw [e_mem108]; exact hRS86.at222
      refine lv_aload_n Bx.1 Bx.2.1 d_Rd_readBracket_73 rfl (lv_at hl 0 rfl) ?_
      exact x_aret hx hb hlocks hr (⟨kx51, rc52, ec53, rfl, by omega, by omega, by omega, hRS113⟩) hP hS d_Rd_readBracket_74
    refine lv_icmp_ne Bx.1 Bx.2.1 d_Rd_readBracket_48 rfl (fun h8 => ?_) (fun h8 => ?_)
    · refine lv_iconst (v := 0) Bx.1 Bx.2.1 d_Rd_readBracket_55 (by decide) ?_
      exact J83 _ _ _ hP hD hS
    · refine lv_iconst (v := 1) Bx.1 Bx.2.1 d_Rd_readBracket_51 (by decide) ?_
      refine lv_goto Bx.1 Bx.2.1 d_Rd_readBracket_52 rfl ?_
      exact J83 _ _ _ hP hD hS
set_option maxHeartbeats 4000000 in
set_option maxRecDepth 100000 in
theorem m_Rd_readOption_0 (l : Launch) {D : va_G} {cy : Nat → ClassId} {sz n : Nat} {ad : Nat → Nat} {mem : Nat → va_E} {Z : Nat} {f : Nat → Int32} {lim rc ec : Nat} {m0 : Nat → va_E} (hlt : l.stackTraces = false) (hn : 224 ≤ n) (hT : TX cy ad Z f m0) (hRS : RS cy ad lim rc ec m0 mem) : NXr l D cy sz n ad y_Rd_readOption c_Rd_readOption 3 (some (.object "AbnfChart$Element")) ({ frames := 51, cells := 1, slots := 6, locals := 1243 } : Room) mem [.ref (ad 222), .int (0)] (fun r mem' => ∃ k rc' ec' : Nat, r = ad (20 + 2 * k) ∧ ec ≤ k ∧ k < ec' ∧ rc ≤ rc' ∧ RS cy ad lim rc' ec' m0 mem') (fun X mem' => (X = cIA ∨ X = cIS) ∧ ∃ rc' ec' : Nat, RS cy ad lim rc' ec' m0 mem') := by
  refine vx_ofW (cc := c_Rd_readOption) (maxL := 3) (ret := (some (.object "AbnfChart$Element"))) (by decide) rfl ?_
  intro p e s m args below meth c s₁ B hml hno hv
  obtain ⟨rfl, E, hP, hD⟩ := hv
  have hx := B.exec
  have hb := B.bytes
  have hr := B.returns
  have hlocks := B.notSynchronized
  have Bx : MB p s m [.ref (ad 222), .int (0)].toArray c c_Rd_readOption "AbnfChart$Reader" D cy := ⟨hx, hb, tb_all (atoms_spec B.pre) E.2.1, findClass_of_methodNamed B.named, E.1⟩
  have hS : va_S (Az sz) s.heap s.heap [] := va_S.rf
  have hl := lv_entry ([.ref (ad 222), .int (0)]) (n := 3) (Nat.le_of_ble_eq_true rfl)
  rw [lg_entry_eq]
  generalize (lg_sl ([.ref (ad 222), .int (0)]) ++ List.replicate (3 - (lg_sl ([.ref (ad 222), .int (0)])).length) Slot.unset).toArray = ls at hl ⊢
  have hl : lv_has ls 3 [(0, .ref (ad 222)), (1, .int (0))] := hl
  obtain ⟨at1, ft2, h9_3⟩ := hRS.2.1
  have h1_4 : mem 1 = .inr (0, [.ref (ad 2), .int (nI Z)]) := (hRS.2.2 1 (by omega)).trans hT.1
  have h2_5 : mem 2 = .inl (cy 0, 240, .inl f) := (hRS.2.2 2 (by omega)).trans hT.2.2
  have h5_6 := hRS.1.2.1
  have hbd12 := hRS.1.1
  obtain ⟨S7, g8, hS_9, h220_10, h221_11⟩ := hRS.1.2.2.2.2.2.2
  refine lv_aload_n Bx.1 Bx.2.1 d_Rd_readOption_0 rfl (lv_at hl 0 rfl) ?_
  refine lv_iconst (v := 3) Bx.1 Bx.2.1 d_Rd_readOption_1 (by decide) ?_
  refine lv_aload_n Bx.1 Bx.2.1 d_Rd_readOption_2 rfl (lv_at hl 0 rfl) ?_
  refine f_get Bx hP (by omega) h9_3 rfl inRd 2 (by decide) kw_146 rfl rfl d_Rd_readOption_3 ?_
  refine f_xVr (na := 2) (As := [.int (3), .int (at1)]) (rest := []) Bx hml E hP hD hS (by omega) h9_3 rfl (m_Rd_addElement l hlt hn hT hRS) kw_419 kw_421 sel_Rd_addElement kw_6 kw_422 (by decide +kernel) ⟨rfl, rfl⟩ ⟨Nat.le_of_ble_eq_true rfl, Nat.le_of_ble_eq_true rfl⟩ rfl hl.1 (Nat.le_of_ble_eq_true rfl) d_Rd_readOption_6 ⟨Nat.le_of_ble_eq_true rfl, Nat.le_of_ble_eq_true rfl⟩ (fun X ce q9 memx H locs hx9 hP hS g1 g2 g3 => f_out hlocks hno hP hS g1 g2 g3 ⟨Nat.le_of_ble_eq_true rfl, Nat.le_of_ble_eq_true rfl⟩ hx9) (fun r13 mem14 H locs hq hP hS => ?_)
  have hD : va_D (Az sz) (fw n ad mem14) := fw_D hD
  obtain ⟨hr917, hec16, hRS15⟩ := hq
  subst hr917
  obtain ⟨at18, ft19, h9_20⟩ := hRS15.2.1
  have h1_21 : mem14 1 = .inr (0, [.ref (ad 2), .int (nI Z)]) := (hRS15.2.2 1 (by omega)).trans hT.1
  have h2_22 : mem14 2 = .inl (cy 0, 240, .inl f) := (hRS15.2.2 2 (by omega)).trans hT.2.2
  have h5_23 := hRS15.1.2.1
  have hbd29 := hRS15.1.1
  obtain ⟨S24, g25, hS_26, h220_27, h221_28⟩ := hRS15.1.2.2.2.2.2.2
  obtain ⟨k30, lo31, hi32, as33, pa34, ne35, he_36, ho_37⟩ := (hRS15.1.2.2.2.2.2.1 ec (by omega)).1
  refine lv_astore_n (lv' := [(2, .ref (ad (20 + 2 * ec))), (0, .ref (ad 222)), (1, .int (0))]) Bx.1 Bx.2.1 d_Rd_readOption_9 rfl hl (by decide) rfl (fun ls hl => ?_)
  refine lv_aload_n Bx.1 Bx.2.1 d_Rd_readOption_10 rfl (lv_at hl 0 rfl) ?_
  refine lv_aload_n Bx.1 Bx.2.1 d_Rd_readOption_11 rfl (lv_at hl 1 rfl) ?_
  refine lv_iload_n Bx.1 Bx.2.1 d_Rd_readOption_12 rfl (lv_at hl 2 rfl) ?_
  refine lv_bipush (v := 93) Bx.1 Bx.2.1 d_Rd_readOption_13 (by decide) ?_
  refine f_xVr (na := 2) (As := [.int (0), .int (93)]) (rest := [.ref (ad (20 + 2 * ec))]) Bx hml E hP hD hS (by omega) h9_20 rfl (m_Rd_readBracket_0 l hlt hn hT hRS15) kw_447 kw_449 sel_Rd_readBracket kw_6 kw_450 (by decide +kernel) ⟨rfl, rfl⟩ ⟨Nat.le_of_ble_eq_true rfl, Nat.le_of_ble_eq_true rfl⟩ rfl hl.1 (Nat.le_of_ble_eq_true rfl) d_Rd_readOption_15 ⟨Nat.le_of_ble_eq_true rfl, Nat.le_of_ble_eq_true rfl⟩ (fun X ce q9 memx H locs hx9 hP hS g1 g2 g3 => f_out hlocks hno hP hS g1 g2 g3 ⟨Nat.le_of_ble_eq_true rfl, Nat.le_of_ble_eq_true rfl⟩ hx9) (fun r38 mem39 H locs hq hP hS => ?_)
  have hD : va_D (Az sz) (fw n ad mem39) := fw_D hD
  obtain ⟨kx40, rc41, ec42, hr944, hb45, hb46, hb47, hRS43⟩ := hq
  subst hr944
  have hbd48 := hRS43.1.1
  obtain ⟨at49, ft50, h9_51⟩ := hRS43.2.1
  have h1_52 : mem39 1 = .inr (0, [.ref (ad 2), .int (nI Z)]) := (hRS43.2.2 1 (by omega)).trans hT.1
  have h2_53 : mem39 2 = .inl (cy 0, 240, .inl f) := (hRS43.2.2 2 (by omega)).trans hT.2.2
  have h5_54 := hRS43.1.2.1
  have hbd60 := hRS43.1.1
  obtain ⟨S55, g56, hS_57, h220_58, h221_59⟩ := hRS43.1.2.2.2.2.2.2
  obtain ⟨k61, lo62, hi63, as64, pa65, ne66, he_67, ho_68⟩ := (hRS43.1.2.2.2.2.2.1 ec (by omega)).1
  obtain ⟨k69, lo70, hi71, as72, pa73, ne74, he_75, ho_76⟩ := (hRS43.1.2.2.2.2.2.1 kx40 (by omega)).1
  refine f_putN Bx hP hD hS (by omega) he_67 rfl inEl tyEl okEl nmEl 4 (by decide) kw_87 rfl rfl rfl rfl (Nat.le_of_ble_eq_true rfl) d_Rd_readOption_18 (fun H locs hP hS => ?_)
  obtain ⟨mem77, e_mem77⟩ : ∃ z, z = va_up mem39 ((20 + 2 * ec)) (.inr (2, [.int (k61), .int (lo62), .int (hi63), as64, .ref (ad (20 + 2 * kx40)), ne66, .ref (ad (21 + 2 * ec))])) := ⟨_, rfl⟩
  have hP : va_P D vcl (fw n ad mem77) H := by rw [e_mem77]; exact hP
  have hD : va_D (Az sz) (fw n ad mem77) := fw_D hD
  have h_mem77 : mem77 ((20 + 2 * ec)) = .inr (2, [.int (k61), .int (lo62), .int (hi63), as64, .ref (ad (20 + 2 * kx40)), ne66, .ref (ad (21 + 2 * ec))]) := by rw [e_mem77, va_up_self]
  have hh78 := (va_up_ne mem39 (.inr (2, [.int (k61), .int (lo62), .int (hi63), as64, .ref (ad (20 + 2 * kx40)), ne66, .ref (ad (21 + 2 * ec))])) (show (222 : Nat) ≠ (20 + 2 * ec) by first | decide | assumption | omega)).trans h9_51
  rw [← e_mem77] at hh78
  have hh79 := (va_up_ne mem39 (.inr (2, [.int (k61), .int (lo62), .int (hi63), as64, .ref (ad (20 + 2 * kx40)), ne66, .ref (ad (21 + 2 * ec))])) (show (1 : Nat) ≠ (20 + 2 * ec) by first | decide | assumption | omega)).trans h1_52
  rw [← e_mem77] at hh79
  have hh80 := (va_up_ne mem39 (.inr (2, [.int (k61), .int (lo62), .int (hi63), as64, .ref (ad (20 + 2 * kx40)), ne66, .ref (ad (21 + 2 * ec))])) (show (5 : Nat) ≠ (20 + 2 * ec) by first | decide | assumption | omega)).trans h5_54
  rw [← e_mem77] at hh80
  have hh81 := (va_up_ne mem39 (.inr (2, [.int (k61), .int (lo62), .int (hi63), as64, .ref (ad (20 + 2 * kx40)), ne66, .ref (ad (21 + 2 * ec))])) (show (220 : Nat) ≠ (20 + 2 * ec) by first | decide | assumption | omega)).trans h220_58
  rw [← e_mem77] at hh81
  have hh82 := (va_up_ne mem39 (.inr (2, [.int (k61), .int (lo62), .int (hi63), as64, .ref (ad (20 + 2 * kx40)), ne66, .ref (ad (21 + 2 * ec))])) (show ((20 + 2 * kx40) : Nat) ≠ (20 + 2 * ec) by first | decide | assumption | omega)).trans he_75
  rw [← e_mem77] at hh82
  have hRS83 : RS cy ad lim rc41 ec42 m0 mem77 := by rw [e_mem77]; exact hRS43.mk (by omega) (hRS43.1.upEl (by omega) (fun q9 => ⟨(ho_68 q9).1, Or.inr ⟨kx40, by omega, by omega, rfl⟩, (ho_68 q9).2.2⟩))
  refine lv_aload_n Bx.1 Bx.2.1 d_Rd_readOption_21 rfl (lv_at hl 0 rfl) ?_
  exact x_aret hx hb hlocks hr (⟨ec, rc41, ec42, rfl, by omega, by omega, by omega, hRS83⟩) hP hS d_Rd_readOption_22
set_option maxHeartbeats 4000000 in
set_option maxRecDepth 100000 in
theorem m_Rd_readElement_0 (l : Launch) {D : va_G} {cy : Nat → ClassId} {sz n : Nat} {ad : Nat → Nat} {mem : Nat → va_E} {Z : Nat} {f : Nat → Int32} {lim rc ec : Nat} {m0 : Nat → va_E} (hlt : l.stackTraces = false) (hn : 224 ≤ n) (hT : TX cy ad Z f m0) (hRS : RS cy ad lim rc ec m0 mem) : NXr l D cy sz n ad y_Rd_readElement c_Rd_readElement 2 (some (.object "AbnfChart$Element")) ({ frames := 52, cells := 1, slots := 6, locals := 1266 } : Room) mem [.ref (ad 222), .int (0)] (fun r mem' => ∃ k rc' ec' : Nat, r = ad (20 + 2 * k) ∧ ec ≤ k ∧ k < ec' ∧ rc ≤ rc' ∧ RS cy ad lim rc' ec' m0 mem') (fun X mem' => (X = cIA ∨ X = cIS) ∧ ∃ rc' ec' : Nat, RS cy ad lim rc' ec' m0 mem') := by
  refine vx_ofW (cc := c_Rd_readElement) (maxL := 2) (ret := (some (.object "AbnfChart$Element"))) (by decide) rfl ?_
  intro p e s m args below meth c s₁ B hml hno hv
  obtain ⟨rfl, E, hP, hD⟩ := hv
  have hx := B.exec
  have hb := B.bytes
  have hr := B.returns
  have hlocks := B.notSynchronized
  have Bx : MB p s m [.ref (ad 222), .int (0)].toArray c c_Rd_readElement "AbnfChart$Reader" D cy := ⟨hx, hb, tb_all (atoms_spec B.pre) E.2.1, findClass_of_methodNamed B.named, E.1⟩
  have hS : va_S (Az sz) s.heap s.heap [] := va_S.rf
  have hl := lv_entry ([.ref (ad 222), .int (0)]) (n := 2) (Nat.le_of_ble_eq_true rfl)
  rw [lg_entry_eq]
  generalize (lg_sl ([.ref (ad 222), .int (0)]) ++ List.replicate (2 - (lg_sl ([.ref (ad 222), .int (0)])).length) Slot.unset).toArray = ls at hl ⊢
  have hl : lv_has ls 2 [(0, .ref (ad 222)), (1, .int (0))] := hl
  obtain ⟨at1, ft2, h9_3⟩ := hRS.2.1
  have h1_4 : mem 1 = .inr (0, [.ref (ad 2), .int (nI Z)]) := (hRS.2.2 1 (by omega)).trans hT.1
  have h2_5 : mem 2 = .inl (cy 0, 240, .inl f) := (hRS.2.2 2 (by omega)).trans hT.2.2
  have h5_6 := hRS.1.2.1
  have hbd12 := hRS.1.1
  obtain ⟨S7, g8, hS_9, h220_10, h221_11⟩ := hRS.1.2.2.2.2.2.2
  refine lv_aload_n Bx.1 Bx.2.1 d_Rd_readElement_0 rfl (lv_at hl 0 rfl) ?_
  refine f_callVi (na := 0) (As := []) (rest := []) Bx hml E hP hD hS (by omega) h9_3 rfl (m_Rd_peek l hn hT hRS) kw_353 kw_355 sel_Rd_peek kw_6 kw_356 (by decide +kernel) ⟨rfl, rfl⟩ ⟨Nat.le_of_ble_eq_true rfl, Nat.le_of_ble_eq_true rfl⟩ rfl hl.1 (Nat.le_of_ble_eq_true rfl) d_Rd_readElement_1 ⟨Nat.le_of_ble_eq_true rfl, Nat.le_of_ble_eq_true rfl⟩ (fun r13 mem14 H locs hq hP hS => ?_)
  have hD : va_D (Az sz) (fw n ad mem14) := fw_D hD
  rw [hq] at hP hD
  refine lv_topi (fun v15 e_v15 => ?_)
  by_cases c34 : v15 = 34
  · rw [c34]
    refine lv_lookup (off := 58) (tgt := 62) Bx.1 Bx.2.1 d_Rd_readElement_4 (by decide) (by decide) rfl ?_
    refine lv_aload_n Bx.1 Bx.2.1 d_Rd_readElement_62 rfl (lv_at hl 0 rfl) ?_
    refine lv_aload_n Bx.1 Bx.2.1 d_Rd_readElement_63 rfl (lv_at hl 0 rfl) ?_
    refine f_get Bx hP (by omega) h9_3 rfl inRd 2 (by decide) kw_146 rfl rfl d_Rd_readElement_64 ?_
    refine lv_iconst (v := 5) Bx.1 Bx.2.1 d_Rd_readElement_67 (by decide) ?_
    refine f_xVr (na := 2) (As := [.int (at1), .int (5)]) (rest := []) Bx hml E hP hD hS (by omega) h9_3 rfl (m_Rd_readString l hlt hn hT hRS) kw_455 kw_457 sel_Rd_readString kw_6 kw_458 (by decide +kernel) ⟨rfl, rfl⟩ ⟨Nat.le_of_ble_eq_true rfl, Nat.le_of_ble_eq_true rfl⟩ rfl hl.1 (Nat.le_of_ble_eq_true rfl) d_Rd_readElement_68 ⟨Nat.le_of_ble_eq_true rfl, Nat.le_of_ble_eq_true rfl⟩ (fun X ce q9 memx H locs hx9 hP hS g1 g2 g3 => f_out hlocks hno hP hS g1 g2 g3 ⟨Nat.le_of_ble_eq_true rfl, Nat.le_of_ble_eq_true rfl⟩ hx9) (fun r16 mem17 H locs hq hP hS => ?_)
    have hD : va_D (Az sz) (fw n ad mem17) := fw_D hD
    obtain ⟨kx18, rc19, ec20, hr922, hb23, hb24, hb25, hRS21⟩ := hq
    subst hr922
    have hbd26 := hRS21.1.1
    obtain ⟨at27, ft28, h9_29⟩ := hRS21.2.1
    have h1_30 : mem17 1 = .inr (0, [.ref (ad 2), .int (nI Z)]) := (hRS21.2.2 1 (by omega)).trans hT.1
    have h2_31 : mem17 2 = .inl (cy 0, 240, .inl f) := (hRS21.2.2 2 (by omega)).trans hT.2.2
    have h5_32 := hRS21.1.2.1
    have hbd38 := hRS21.1.1
    obtain ⟨S33, g34, hS_35, h220_36, h221_37⟩ := hRS21.1.2.2.2.2.2.2
    obtain ⟨k39, lo40, hi41, as42, pa43, ne44, he_45, ho_46⟩ := (hRS21.1.2.2.2.2.2.1 kx18 (by omega)).1
    exact x_aret hx hb hlocks hr (⟨kx18, rc19, ec20, rfl, by omega, by omega, by omega, hRS21⟩) hP hS d_Rd_readElement_71
  by_cases c37 : v15 = 37
  · rw [c37]
    refine lv_lookup (off := 68) (tgt := 72) Bx.1 Bx.2.1 d_Rd_readElement_4 (by decide) (by decide) rfl ?_
    refine lv_aload_n Bx.1 Bx.2.1 d_Rd_readElement_72 rfl (lv_at hl 0 rfl) ?_
    refine f_get Bx hP (by omega) h9_3 rfl inRd 0 (by decide) kw_144 rfl rfl d_Rd_readElement_73 ?_
    refine lv_aload_n Bx.1 Bx.2.1 d_Rd_readElement_76 rfl (lv_at hl 0 rfl) ?_
    refine f_get Bx hP (by omega) h9_3 rfl inRd 2 (by decide) kw_146 rfl rfl d_Rd_readElement_77 ?_
    refine lv_iconst (v := 1) Bx.1 Bx.2.1 d_Rd_readElement_80 (by decide) ?_
    refine lv_iadd Bx.1 Bx.2.1 d_Rd_readElement_81 ?_
    refine f_callVi (na := 1) (As := [.int (at1 + 1)]) (rest := []) Bx hml E hP hD hS (by omega) h1_4 rfl (m_Ch_codeAt l (by omega) h1_4 (by omega) h2_5 (by rw [nI_toInt (by have := hT.2.1; omega)]; have := hT.2.1; omega)) kw_341 kw_342 kw_343 kw_2 kw_344 (by decide +kernel) ⟨rfl, rfl⟩ ⟨Nat.le_of_ble_eq_true rfl, Nat.le_of_ble_eq_true rfl⟩ rfl hl.1 (Nat.le_of_ble_eq_true rfl) d_Rd_readElement_82 ⟨Nat.le_of_ble_eq_true rfl, Nat.le_of_ble_eq_true rfl⟩ (fun r47 mem48 H locs hq hP hS => ?_)
    have hD : va_D (Az sz) (fw n ad mem48) := fw_D hD
    rw [hq.2] at hP hD
    refine f_callSNi (na := 1) (As := [.int (r47)]) (rest := []) Bx hml E.2.1 (m_Ab_smallOf l (r47)) kw_372 kw_373 kw_1 kw_374 (by decide +kernel) ⟨rfl, rfl⟩ ⟨Nat.le_of_ble_eq_true rfl, Nat.le_of_ble_eq_true rfl⟩ rfl hl.1 (Nat.le_of_ble_eq_true rfl) d_Rd_readElement_85 ⟨Nat.le_of_ble_eq_true rfl, Nat.le_of_ble_eq_true rfl⟩ (fun r50 hs49 => ?_)
    refine lv_bipush (v := 115) Bx.1 Bx.2.1 d_Rd_readElement_88 (by decide) ?_
    refine lv_icmp_ne Bx.1 Bx.2.1 d_Rd_readElement_90 rfl (fun h8 => ?_) (fun h8 => ?_)
    · refine lv_aload_n Bx.1 Bx.2.1 d_Rd_readElement_100 rfl (lv_at hl 0 rfl) ?_
      refine f_xVr (na := 0) (As := []) (rest := []) Bx hml E hP hD hS (by omega) h9_3 rfl (m_Rd_readValue l hlt hn hT hRS) kw_467 kw_469 sel_Rd_readValue kw_6 kw_470 (by decide +kernel) ⟨rfl, rfl⟩ ⟨Nat.le_of_ble_eq_true rfl, Nat.le_of_ble_eq_true rfl⟩ rfl hl.1 (Nat.le_of_ble_eq_true rfl) d_Rd_readElement_101 ⟨Nat.le_of_ble_eq_true rfl, Nat.le_of_ble_eq_true rfl⟩ (fun X ce q9 memx H locs hx9 hP hS g1 g2 g3 => f_out hlocks hno hP hS g1 g2 g3 ⟨Nat.le_of_ble_eq_true rfl, Nat.le_of_ble_eq_true rfl⟩ hx9) (fun r51 mem52 H locs hq hP hS => ?_)
      have hD : va_D (Az sz) (fw n ad mem52) := fw_D hD
      obtain ⟨kx53, rc54, ec55, hr957, hb58, hb59, hb60, hRS56⟩ := hq
      subst hr957
      have hbd61 := hRS56.1.1
      obtain ⟨at62, ft63, h9_64⟩ := hRS56.2.1
      have h1_65 : mem52 1 = .inr (0, [.ref (ad 2), .int (nI Z)]) := (hRS56.2.2 1 (by omega)).trans hT.1
      have h2_66 : mem52 2 = .inl (cy 0, 240, .inl f) := (hRS56.2.2 2 (by omega)).trans hT.2.2
      have h5_67 := hRS56.1.2.1
      have hbd73 := hRS56.1.1
      obtain ⟨S68, g69, hS_70, h220_71, h221_72⟩ := hRS56.1.2.2.2.2.2.2
      obtain ⟨k74, lo75, hi76, as77, pa78, ne79, he_80, ho_81⟩ := (hRS56.1.2.2.2.2.2.1 kx53 (by omega)).1
      exact x_aret hx hb hlocks hr (⟨kx53, rc54, ec55, rfl, by omega, by omega, by omega, hRS56⟩) hP hS d_Rd_readElement_104
    · refine lv_aload_n Bx.1 Bx.2.1 d_Rd_readElement_93 rfl (lv_at hl 0 rfl) ?_
      refine f_xVr (na := 0) (As := []) (rest := []) Bx hml E hP hD hS (by omega) h9_3 rfl (m_Rd_readExactString l hlt hn hT hRS) kw_463 kw_465 sel_Rd_readExactString kw_6 kw_466 (by decide +kernel) ⟨rfl, rfl⟩ ⟨Nat.le_of_ble_eq_true rfl, Nat.le_of_ble_eq_true rfl⟩ rfl hl.1 (Nat.le_of_ble_eq_true rfl) d_Rd_readElement_94 ⟨Nat.le_of_ble_eq_true rfl, Nat.le_of_ble_eq_true rfl⟩ (fun X ce q9 memx H locs hx9 hP hS g1 g2 g3 => f_out hlocks hno hP hS g1 g2 g3 ⟨Nat.le_of_ble_eq_true rfl, Nat.le_of_ble_eq_true rfl⟩ hx9) (fun r82 mem83 H locs hq hP hS => ?_)
      have hD : va_D (Az sz) (fw n ad mem83) := fw_D hD
      obtain ⟨kx84, rc85, ec86, hr988, hb89, hb90, hb91, hRS87⟩ := hq
      subst hr988
      have hbd92 := hRS87.1.1
      obtain ⟨at93, ft94, h9_95⟩ := hRS87.2.1
      have h1_96 : mem83 1 = .inr (0, [.ref (ad 2), .int (nI Z)]) := (hRS87.2.2 1 (by omega)).trans hT.1
      have h2_97 : mem83 2 = .inl (cy 0, 240, .inl f) := (hRS87.2.2 2 (by omega)).trans hT.2.2
      have h5_98 := hRS87.1.2.1
      have hbd104 := hRS87.1.1
      obtain ⟨S99, g100, hS_101, h220_102, h221_103⟩ := hRS87.1.2.2.2.2.2.2
      obtain ⟨k105, lo106, hi107, as108, pa109, ne110, he_111, ho_112⟩ := (hRS87.1.2.2.2.2.2.1 kx84 (by omega)).1
      refine lv_goto Bx.1 Bx.2.1 d_Rd_readElement_97 rfl ?_
      exact x_aret hx hb hlocks hr (⟨kx84, rc85, ec86, rfl, by omega, by omega, by omega, hRS87⟩) hP hS d_Rd_readElement_104
  by_cases c40 : v15 = 40
  · rw [c40]
    refine lv_lookup (off := 44) (tgt := 48) Bx.1 Bx.2.1 d_Rd_readElement_4 (by decide) (by decide) rfl ?_
    refine lv_aload_n Bx.1 Bx.2.1 d_Rd_readElement_48 rfl (lv_at hl 0 rfl) ?_
    refine lv_iload_n Bx.1 Bx.2.1 d_Rd_readElement_49 rfl (lv_at hl 1 rfl) ?_
    refine lv_bipush (v := 41) Bx.1 Bx.2.1 d_Rd_readElement_50 (by decide) ?_
    refine f_xVr (na := 2) (As := [.int (0), .int (41)]) (rest := []) Bx hml E hP hD hS (by omega) h9_3 rfl (m_Rd_readBracket_0 l hlt hn hT hRS) kw_447 kw_449 sel_Rd_readBracket kw_6 kw_450 (by decide +kernel) ⟨rfl, rfl⟩ ⟨Nat.le_of_ble_eq_true rfl, Nat.le_of_ble_eq_true rfl⟩ rfl hl.1 (Nat.le_of_ble_eq_true rfl) d_Rd_readElement_52 ⟨Nat.le_of_ble_eq_true rfl, Nat.le_of_ble_eq_true rfl⟩ (fun X ce q9 memx H locs hx9 hP hS g1 g2 g3 => f_out hlocks hno hP hS g1 g2 g3 ⟨Nat.le_of_ble_eq_true rfl, Nat.le_of_ble_eq_true rfl⟩ hx9) (fun r113 mem114 H locs hq hP hS => ?_)
    have hD : va_D (Az sz) (fw n ad mem114) := fw_D hD
    obtain ⟨kx115, rc116, ec117, hr9119, hb120, hb121, hb122, hRS118⟩ := hq
    subst hr9119
    have hbd123 := hRS118.1.1
    obtain ⟨at124, ft125, h9_126⟩ := hRS118.2.1
    have h1_127 : mem114 1 = .inr (0, [.ref (ad 2), .int (nI Z)]) := (hRS118.2.2 1 (by omega)).trans hT.1
    have h2_128 : mem114 2 = .inl (cy 0, 240, .inl f) := (hRS118.2.2 2 (by omega)).trans hT.2.2
    have h5_129 := hRS118.1.2.1
    have hbd135 := hRS118.1.1
    obtain ⟨S130, g131, hS_132, h220_133, h221_134⟩ := hRS118.1.2.2.2.2.2.2
    obtain ⟨k136, lo137, hi138, as139, pa140, ne141, he_142, ho_143⟩ := (hRS118.1.2.2.2.2.2.1 kx115 (by omega)).1
    exact x_aret hx hb hlocks hr (⟨kx115, rc116, ec117, rfl, by omega, by omega, by omega, hRS118⟩) hP hS d_Rd_readElement_55
  by_cases c91 : v15 = 91
  · rw [c91]
    refine lv_lookup (off := 52) (tgt := 56) Bx.1 Bx.2.1 d_Rd_readElement_4 (by decide) (by decide) rfl ?_
    refine lv_aload_n Bx.1 Bx.2.1 d_Rd_readElement_56 rfl (lv_at hl 0 rfl) ?_
    refine lv_iload_n Bx.1 Bx.2.1 d_Rd_readElement_57 rfl (lv_at hl 1 rfl) ?_
    refine f_xVr (na := 1) (As := [.int (0)]) (rest := []) Bx hml E hP hD hS (by omega) h9_3 rfl (m_Rd_readOption_0 l hlt hn hT hRS) kw_451 kw_453 sel_Rd_readOption kw_6 kw_454 (by decide +kernel) ⟨rfl, rfl⟩ ⟨Nat.le_of_ble_eq_true rfl, Nat.le_of_ble_eq_true rfl⟩ rfl hl.1 (Nat.le_of_ble_eq_true rfl) d_Rd_readElement_58 ⟨Nat.le_of_ble_eq_true rfl, Nat.le_of_ble_eq_true rfl⟩ (fun X ce q9 memx H locs hx9 hP hS g1 g2 g3 => f_out hlocks hno hP hS g1 g2 g3 ⟨Nat.le_of_ble_eq_true rfl, Nat.le_of_ble_eq_true rfl⟩ hx9) (fun r144 mem145 H locs hq hP hS => ?_)
    have hD : va_D (Az sz) (fw n ad mem145) := fw_D hD
    obtain ⟨kx146, rc147, ec148, hr9150, hb151, hb152, hb153, hRS149⟩ := hq
    subst hr9150
    have hbd154 := hRS149.1.1
    obtain ⟨at155, ft156, h9_157⟩ := hRS149.2.1
    have h1_158 : mem145 1 = .inr (0, [.ref (ad 2), .int (nI Z)]) := (hRS149.2.2 1 (by omega)).trans hT.1
    have h2_159 : mem145 2 = .inl (cy 0, 240, .inl f) := (hRS149.2.2 2 (by omega)).trans hT.2.2
    have h5_160 := hRS149.1.2.1
    have hbd166 := hRS149.1.1
    obtain ⟨S161, g162, hS_163, h220_164, h221_165⟩ := hRS149.1.2.2.2.2.2.2
    obtain ⟨k167, lo168, hi169, as170, pa171, ne172, he_173, ho_174⟩ := (hRS149.1.2.2.2.2.2.1 kx146 (by omega)).1
    exact x_aret hx hb hlocks hr (⟨kx146, rc147, ec148, rfl, by omega, by omega, by omega, hRS149⟩) hP hS d_Rd_readElement_61
  refine lv_lookup (off := 101) (tgt := 105) Bx.1 Bx.2.1 d_Rd_readElement_4 (by decide) (by show Op.lookupswitch.offset [(34, 58), (37, 68), (40, 44), (91, 52)] 101 (v15).toInt = 101; rw [lv_osw c34 (by decide), lv_osw c37 (by decide), lv_osw c40 (by decide), lv_osw c91 (by decide)]; rfl) rfl ?_
  refine lv_aload_n Bx.1 Bx.2.1 d_Rd_readElement_105 rfl (lv_at hl 0 rfl) ?_
  refine f_xVr (na := 0) (As := []) (rest := []) Bx hml E hP hD hS (by omega) h9_3 rfl (m_Rd_readAskedName l hlt hn hT hRS) kw_478 kw_480 sel_Rd_readAskedName kw_6 kw_481 (by decide +kernel) ⟨rfl, rfl⟩ ⟨Nat.le_of_ble_eq_true rfl, Nat.le_of_ble_eq_true rfl⟩ rfl hl.1 (Nat.le_of_ble_eq_true rfl) d_Rd_readElement_106 ⟨Nat.le_of_ble_eq_true rfl, Nat.le_of_ble_eq_true rfl⟩ (fun X ce q9 memx H locs hx9 hP hS g1 g2 g3 => f_out hlocks hno hP hS g1 g2 g3 ⟨Nat.le_of_ble_eq_true rfl, Nat.le_of_ble_eq_true rfl⟩ hx9) (fun r175 mem176 H locs hq hP hS => ?_)
  have hD : va_D (Az sz) (fw n ad mem176) := fw_D hD
  obtain ⟨kx177, rc178, ec179, hr9181, hb182, hb183, hb184, hRS180⟩ := hq
  subst hr9181
  have hbd185 := hRS180.1.1
  obtain ⟨at186, ft187, h9_188⟩ := hRS180.2.1
  have h1_189 : mem176 1 = .inr (0, [.ref (ad 2), .int (nI Z)]) := (hRS180.2.2 1 (by omega)).trans hT.1
  have h2_190 : mem176 2 = .inl (cy 0, 240, .inl f) := (hRS180.2.2 2 (by omega)).trans hT.2.2
  have h5_191 := hRS180.1.2.1
  have hbd197 := hRS180.1.1
  obtain ⟨S192, g193, hS_194, h220_195, h221_196⟩ := hRS180.1.2.2.2.2.2.2
  obtain ⟨k198, lo199, hi200, as201, pa202, ne203, he_204, ho_205⟩ := (hRS180.1.2.2.2.2.2.1 kx177 (by omega)).1
  exact x_aret hx hb hlocks hr (⟨kx177, rc178, ec179, rfl, by omega, by omega, by omega, hRS180⟩) hP hS d_Rd_readElement_109
set_option maxHeartbeats 4000000 in
set_option maxRecDepth 100000 in
theorem m_Rd_readRepetition_0 (l : Launch) {D : va_G} {cy : Nat → ClassId} {sz n : Nat} {ad : Nat → Nat} {mem : Nat → va_E} {Z : Nat} {f : Nat → Int32} {lim rc ec : Nat} {m0 : Nat → va_E} (hlt : l.stackTraces = false) (hn : 224 ≤ n) (hT : TX cy ad Z f m0) (hRS : RS cy ad lim rc ec m0 mem) : NXr l D cy sz n ad y_Rd_readRepetition c_Rd_readRepetition 3 (some (.object "AbnfChart$Element")) ({ frames := 53, cells := 1, slots := 6, locals := 1288 } : Room) mem [.ref (ad 222), .int (0)] (fun r mem' => ∃ k rc' ec' : Nat, r = ad (20 + 2 * k) ∧ ec ≤ k ∧ k < ec' ∧ rc ≤ rc' ∧ RS cy ad lim rc' ec' m0 mem') (fun X mem' => (X = cIA ∨ X = cIS) ∧ ∃ rc' ec' : Nat, RS cy ad lim rc' ec' m0 mem') := by
  refine vx_ofW (cc := c_Rd_readRepetition) (maxL := 3) (ret := (some (.object "AbnfChart$Element"))) (by decide) rfl ?_
  intro p e s m args below meth c s₁ B hml hno hv
  obtain ⟨rfl, E, hP, hD⟩ := hv
  have hx := B.exec
  have hb := B.bytes
  have hr := B.returns
  have hlocks := B.notSynchronized
  have Bx : MB p s m [.ref (ad 222), .int (0)].toArray c c_Rd_readRepetition "AbnfChart$Reader" D cy := ⟨hx, hb, tb_all (atoms_spec B.pre) E.2.1, findClass_of_methodNamed B.named, E.1⟩
  have hS : va_S (Az sz) s.heap s.heap [] := va_S.rf
  have hl := lv_entry ([.ref (ad 222), .int (0)]) (n := 3) (Nat.le_of_ble_eq_true rfl)
  rw [lg_entry_eq]
  generalize (lg_sl ([.ref (ad 222), .int (0)]) ++ List.replicate (3 - (lg_sl ([.ref (ad 222), .int (0)])).length) Slot.unset).toArray = ls at hl ⊢
  have hl : lv_has ls 3 [(0, .ref (ad 222)), (1, .int (0))] := hl
  obtain ⟨at1, ft2, h9_3⟩ := hRS.2.1
  have h1_4 : mem 1 = .inr (0, [.ref (ad 2), .int (nI Z)]) := (hRS.2.2 1 (by omega)).trans hT.1
  have h2_5 : mem 2 = .inl (cy 0, 240, .inl f) := (hRS.2.2 2 (by omega)).trans hT.2.2
  have h5_6 := hRS.1.2.1
  have hbd12 := hRS.1.1
  obtain ⟨S7, g8, hS_9, h220_10, h221_11⟩ := hRS.1.2.2.2.2.2.2
  refine lv_aload_n Bx.1 Bx.2.1 d_Rd_readRepetition_0 rfl (lv_at hl 0 rfl) ?_
  refine f_callVi (na := 0) (As := []) (rest := []) Bx hml E hP hD hS (by omega) h9_3 rfl (m_Rd_peek l hn hT hRS) kw_353 kw_355 sel_Rd_peek kw_6 kw_356 (by decide +kernel) ⟨rfl, rfl⟩ ⟨Nat.le_of_ble_eq_true rfl, Nat.le_of_ble_eq_true rfl⟩ rfl hl.1 (Nat.le_of_ble_eq_true rfl) d_Rd_readRepetition_1 ⟨Nat.le_of_ble_eq_true rfl, Nat.le_of_ble_eq_true rfl⟩ (fun r13 mem14 H locs hq hP hS => ?_)
  have hD : va_D (Az sz) (fw n ad mem14) := fw_D hD
  rw [hq] at hP hD
  refine f_callSi (na := 1) (As := [.int (r13)]) (rest := []) Bx hml E.2.1 (m_Rd_beginsRepeat l (r13)) kw_416 kw_417 kw_6 kw_418 (by decide +kernel) ⟨rfl, rfl⟩ ⟨Nat.le_of_ble_eq_true rfl, Nat.le_of_ble_eq_true rfl⟩ rfl hl.1 (Nat.le_of_ble_eq_true rfl) d_Rd_readRepetition_4 ⟨Nat.le_of_ble_eq_true rfl, Nat.le_of_ble_eq_true rfl⟩ (fun r16 hs15 => ?_)
  refine lv_if_ne Bx.1 Bx.2.1 d_Rd_readRepetition_7 rfl (fun h8 => ?_) (fun h8 => ?_)
  · refine lv_aload_n Bx.1 Bx.2.1 d_Rd_readRepetition_16 rfl (lv_at hl 0 rfl) ?_
    refine lv_iconst (v := 2) Bx.1 Bx.2.1 d_Rd_readRepetition_17 (by decide) ?_
    refine lv_aload_n Bx.1 Bx.2.1 d_Rd_readRepetition_18 rfl (lv_at hl 0 rfl) ?_
    refine f_get Bx hP (by omega) h9_3 rfl inRd 2 (by decide) kw_146 rfl rfl d_Rd_readRepetition_19 ?_
    refine f_xVr (na := 2) (As := [.int (2), .int (at1)]) (rest := []) Bx hml E hP hD hS (by omega) h9_3 rfl (m_Rd_addElement l hlt hn hT hRS) kw_419 kw_421 sel_Rd_addElement kw_6 kw_422 (by decide +kernel) ⟨rfl, rfl⟩ ⟨Nat.le_of_ble_eq_true rfl, Nat.le_of_ble_eq_true rfl⟩ rfl hl.1 (Nat.le_of_ble_eq_true rfl) d_Rd_readRepetition_22 ⟨Nat.le_of_ble_eq_true rfl, Nat.le_of_ble_eq_true rfl⟩ (fun X ce q9 memx H locs hx9 hP hS g1 g2 g3 => f_out hlocks hno hP hS g1 g2 g3 ⟨Nat.le_of_ble_eq_true rfl, Nat.le_of_ble_eq_true rfl⟩ hx9) (fun r17 mem18 H locs hq hP hS => ?_)
    have hD : va_D (Az sz) (fw n ad mem18) := fw_D hD
    obtain ⟨hr921, hec20, hRS19⟩ := hq
    subst hr921
    obtain ⟨at22, ft23, h9_24⟩ := hRS19.2.1
    have h1_25 : mem18 1 = .inr (0, [.ref (ad 2), .int (nI Z)]) := (hRS19.2.2 1 (by omega)).trans hT.1
    have h2_26 : mem18 2 = .inl (cy 0, 240, .inl f) := (hRS19.2.2 2 (by omega)).trans hT.2.2
    have h5_27 := hRS19.1.2.1
    have hbd33 := hRS19.1.1
    obtain ⟨S28, g29, hS_30, h220_31, h221_32⟩ := hRS19.1.2.2.2.2.2.2
    obtain ⟨k34, lo35, hi36, as37, pa38, ne39, he_40, ho_41⟩ := (hRS19.1.2.2.2.2.2.1 ec (by omega)).1
    refine lv_astore_n (lv' := [(2, .ref (ad (20 + 2 * ec))), (0, .ref (ad 222)), (1, .int (0))]) Bx.1 Bx.2.1 d_Rd_readRepetition_25 rfl hl (by decide) rfl (fun ls hl => ?_)
    refine lv_aload_n Bx.1 Bx.2.1 d_Rd_readRepetition_26 rfl (lv_at hl 1 rfl) ?_
    refine lv_aload_n Bx.1 Bx.2.1 d_Rd_readRepetition_27 rfl (lv_at hl 0 rfl) ?_
    refine f_xVv (na := 1) (As := [.ref (ad (20 + 2 * ec))]) (rest := []) Bx hml E hP hD hS (by omega) h9_24 rfl (m_Rd_readRepeat l hlt hn hT hRS19 (by omega)) kw_482 kw_484 sel_Rd_readRepeat kw_6 kw_485 (by decide +kernel) ⟨rfl, rfl⟩ ⟨Nat.le_of_ble_eq_true rfl, Nat.le_of_ble_eq_true rfl⟩ rfl hl.1 (Nat.le_of_ble_eq_true rfl) d_Rd_readRepetition_28 ⟨Nat.le_of_ble_eq_true rfl, Nat.le_of_ble_eq_true rfl⟩ (fun X ce q9 memx H locs hx9 hP hS g1 g2 g3 => f_out hlocks hno hP hS g1 g2 g3 ⟨Nat.le_of_ble_eq_true rfl, Nat.le_of_ble_eq_true rfl⟩ hx9) (fun mem44 H locs hRS42 hP hS => ?_)
    have hD : va_D (Az sz) (fw n ad mem44) := fw_D hD
    obtain ⟨at45, ft46, h9_47⟩ := hRS42.2.1
    have h1_48 : mem44 1 = .inr (0, [.ref (ad 2), .int (nI Z)]) := (hRS42.2.2 1 (by omega)).trans hT.1
    have h2_49 : mem44 2 = .inl (cy 0, 240, .inl f) := (hRS42.2.2 2 (by omega)).trans hT.2.2
    have h5_50 := hRS42.1.2.1
    have hbd56 := hRS42.1.1
    obtain ⟨S51, g52, hS_53, h220_54, h221_55⟩ := hRS42.1.2.2.2.2.2.2
    obtain ⟨k57, lo58, hi59, as60, pa61, ne62, he_63, ho_64⟩ := (hRS42.1.2.2.2.2.2.1 ec (by omega)).1
    refine lv_aload_n Bx.1 Bx.2.1 d_Rd_readRepetition_31 rfl (lv_at hl 0 rfl) ?_
    refine lv_aload_n Bx.1 Bx.2.1 d_Rd_readRepetition_32 rfl (lv_at hl 1 rfl) ?_
    refine lv_iload_n Bx.1 Bx.2.1 d_Rd_readRepetition_33 rfl (lv_at hl 2 rfl) ?_
    refine f_xVr (na := 1) (As := [.int (0)]) (rest := [.ref (ad (20 + 2 * ec))]) Bx hml E hP hD hS (by omega) h9_47 rfl (m_Rd_readElement_0 l hlt hn hT hRS42) kw_443 kw_445 sel_Rd_readElement kw_6 kw_446 (by decide +kernel) ⟨rfl, rfl⟩ ⟨Nat.le_of_ble_eq_true rfl, Nat.le_of_ble_eq_true rfl⟩ rfl hl.1 (Nat.le_of_ble_eq_true rfl) d_Rd_readRepetition_34 ⟨Nat.le_of_ble_eq_true rfl, Nat.le_of_ble_eq_true rfl⟩ (fun X ce q9 memx H locs hx9 hP hS g1 g2 g3 => f_out hlocks hno hP hS g1 g2 g3 ⟨Nat.le_of_ble_eq_true rfl, Nat.le_of_ble_eq_true rfl⟩ hx9) (fun r65 mem66 H locs hq hP hS => ?_)
    have hD : va_D (Az sz) (fw n ad mem66) := fw_D hD
    obtain ⟨kx67, rc68, ec69, hr971, hb72, hb73, hb74, hRS70⟩ := hq
    subst hr971
    have hbd75 := hRS70.1.1
    obtain ⟨at76, ft77, h9_78⟩ := hRS70.2.1
    have h1_79 : mem66 1 = .inr (0, [.ref (ad 2), .int (nI Z)]) := (hRS70.2.2 1 (by omega)).trans hT.1
    have h2_80 : mem66 2 = .inl (cy 0, 240, .inl f) := (hRS70.2.2 2 (by omega)).trans hT.2.2
    have h5_81 := hRS70.1.2.1
    have hbd87 := hRS70.1.1
    obtain ⟨S82, g83, hS_84, h220_85, h221_86⟩ := hRS70.1.2.2.2.2.2.2
    obtain ⟨k88, lo89, hi90, as91, pa92, ne93, he_94, ho_95⟩ := (hRS70.1.2.2.2.2.2.1 ec (by omega)).1
    obtain ⟨k96, lo97, hi98, as99, pa100, ne101, he_102, ho_103⟩ := (hRS70.1.2.2.2.2.2.1 kx67 (by omega)).1
    refine f_putN Bx hP hD hS (by omega) he_94 rfl inEl tyEl okEl nmEl 4 (by decide) kw_87 rfl rfl rfl rfl (Nat.le_of_ble_eq_true rfl) d_Rd_readRepetition_37 (fun H locs hP hS => ?_)
    obtain ⟨mem104, e_mem104⟩ : ∃ z, z = va_up mem66 ((20 + 2 * ec)) (.inr (2, [.int (k88), .int (lo89), .int (hi90), as91, .ref (ad (20 + 2 * kx67)), ne93, .ref (ad (21 + 2 * ec))])) := ⟨_, rfl⟩
    have hP : va_P D vcl (fw n ad mem104) H := by rw [e_mem104]; exact hP
    have hD : va_D (Az sz) (fw n ad mem104) := fw_D hD
    have h_mem104 : mem104 ((20 + 2 * ec)) = .inr (2, [.int (k88), .int (lo89), .int (hi90), as91, .ref (ad (20 + 2 * kx67)), ne93, .ref (ad (21 + 2 * ec))]) := by rw [e_mem104, va_up_self]
    have hh105 := (va_up_ne mem66 (.inr (2, [.int (k88), .int (lo89), .int (hi90), as91, .ref (ad (20 + 2 * kx67)), ne93, .ref (ad (21 + 2 * ec))])) (show (222 : Nat) ≠ (20 + 2 * ec) by first | decide | assumption | omega)).trans h9_78
    rw [← e_mem104] at hh105
    have hh106 := (va_up_ne mem66 (.inr (2, [.int (k88), .int (lo89), .int (hi90), as91, .ref (ad (20 + 2 * kx67)), ne93, .ref (ad (21 + 2 * ec))])) (show (1 : Nat) ≠ (20 + 2 * ec) by first | decide | assumption | omega)).trans h1_79
    rw [← e_mem104] at hh106
    have hh107 := (va_up_ne mem66 (.inr (2, [.int (k88), .int (lo89), .int (hi90), as91, .ref (ad (20 + 2 * kx67)), ne93, .ref (ad (21 + 2 * ec))])) (show (5 : Nat) ≠ (20 + 2 * ec) by first | decide | assumption | omega)).trans h5_81
    rw [← e_mem104] at hh107
    have hh108 := (va_up_ne mem66 (.inr (2, [.int (k88), .int (lo89), .int (hi90), as91, .ref (ad (20 + 2 * kx67)), ne93, .ref (ad (21 + 2 * ec))])) (show (220 : Nat) ≠ (20 + 2 * ec) by first | decide | assumption | omega)).trans h220_85
    rw [← e_mem104] at hh108
    have hh109 := (va_up_ne mem66 (.inr (2, [.int (k88), .int (lo89), .int (hi90), as91, .ref (ad (20 + 2 * kx67)), ne93, .ref (ad (21 + 2 * ec))])) (show ((20 + 2 * kx67) : Nat) ≠ (20 + 2 * ec) by first | decide | assumption | omega)).trans he_102
    rw [← e_mem104] at hh109
    have hRS110 : RS cy ad lim rc68 ec69 m0 mem104 := by rw [e_mem104]; exact hRS70.mk (by omega) (hRS70.1.upEl (by omega) (fun q9 => ⟨(ho_95 q9).1, Or.inr ⟨kx67, by omega, by omega, rfl⟩, (ho_95 q9).2.2⟩))
    refine lv_aload_n Bx.1 Bx.2.1 d_Rd_readRepetition_40 rfl (lv_at hl 0 rfl) ?_
    exact x_aret hx hb hlocks hr (⟨ec, rc68, ec69, rfl, by omega, by omega, by omega, hRS110⟩) hP hS d_Rd_readRepetition_41
  · refine lv_aload_n Bx.1 Bx.2.1 d_Rd_readRepetition_10 rfl (lv_at hl 0 rfl) ?_
    refine lv_iload_n Bx.1 Bx.2.1 d_Rd_readRepetition_11 rfl (lv_at hl 1 rfl) ?_
    refine f_xVr (na := 1) (As := [.int (0)]) (rest := []) Bx hml E hP hD hS (by omega) h9_3 rfl (m_Rd_readElement_0 l hlt hn hT hRS) kw_443 kw_445 sel_Rd_readElement kw_6 kw_446 (by decide +kernel) ⟨rfl, rfl⟩ ⟨Nat.le_of_ble_eq_true rfl, Nat.le_of_ble_eq_true rfl⟩ rfl hl.1 (Nat.le_of_ble_eq_true rfl) d_Rd_readRepetition_12 ⟨Nat.le_of_ble_eq_true rfl, Nat.le_of_ble_eq_true rfl⟩ (fun X ce q9 memx H locs hx9 hP hS g1 g2 g3 => f_out hlocks hno hP hS g1 g2 g3 ⟨Nat.le_of_ble_eq_true rfl, Nat.le_of_ble_eq_true rfl⟩ hx9) (fun r111 mem112 H locs hq hP hS => ?_)
    have hD : va_D (Az sz) (fw n ad mem112) := fw_D hD
    obtain ⟨kx113, rc114, ec115, hr9117, hb118, hb119, hb120, hRS116⟩ := hq
    subst hr9117
    have hbd121 := hRS116.1.1
    obtain ⟨at122, ft123, h9_124⟩ := hRS116.2.1
    have h1_125 : mem112 1 = .inr (0, [.ref (ad 2), .int (nI Z)]) := (hRS116.2.2 1 (by omega)).trans hT.1
    have h2_126 : mem112 2 = .inl (cy 0, 240, .inl f) := (hRS116.2.2 2 (by omega)).trans hT.2.2
    have h5_127 := hRS116.1.2.1
    have hbd133 := hRS116.1.1
    obtain ⟨S128, g129, hS_130, h220_131, h221_132⟩ := hRS116.1.2.2.2.2.2.2
    obtain ⟨k134, lo135, hi136, as137, pa138, ne139, he_140, ho_141⟩ := (hRS116.1.2.2.2.2.2.1 kx113 (by omega)).1
    exact x_aret hx hb hlocks hr (⟨kx113, rc114, ec115, rfl, by omega, by omega, by omega, hRS116⟩) hP hS d_Rd_readRepetition_15
set_option maxHeartbeats 4000000 in
set_option maxRecDepth 100000 in
theorem m_Rd_readSequence_0 (l : Launch) {D : va_G} {cy : Nat → ClassId} {sz n : Nat} {ad : Nat → Nat} {mem : Nat → va_E} {Z : Nat} {f : Nat → Int32} {lim rc ec : Nat} {m0 : Nat → va_E} (hlt : l.stackTraces = false) (hn : 224 ≤ n) (hT : TX cy ad Z f m0) (hRS : RS cy ad lim rc ec m0 mem) : NXr l D cy sz n ad y_Rd_readSequence c_Rd_readSequence 5 (some (.object "AbnfChart$Element")) ({ frames := 54, cells := 1, slots := 6, locals := 1312 } : Room) mem [.ref (ad 222), .int (0)] (fun r mem' => ∃ k rc' ec' : Nat, r = ad (20 + 2 * k) ∧ ec ≤ k ∧ k < ec' ∧ rc ≤ rc' ∧ RS cy ad lim rc' ec' m0 mem') (fun X mem' => (X = cIA ∨ X = cIS) ∧ ∃ rc' ec' : Nat, RS cy ad lim rc' ec' m0 mem') := by
  refine vx_ofW (cc := c_Rd_readSequence) (maxL := 5) (ret := (some (.object "AbnfChart$Element"))) (by decide) rfl ?_
  intro p e s m args below meth c s₁ B hml hno hv
  obtain ⟨rfl, E, hP, hD⟩ := hv
  have hx := B.exec
  have hb := B.bytes
  have hr := B.returns
  have hlocks := B.notSynchronized
  have Bx : MB p s m [.ref (ad 222), .int (0)].toArray c c_Rd_readSequence "AbnfChart$Reader" D cy := ⟨hx, hb, tb_all (atoms_spec B.pre) E.2.1, findClass_of_methodNamed B.named, E.1⟩
  have hS : va_S (Az sz) s.heap s.heap [] := va_S.rf
  have hl := lv_entry ([.ref (ad 222), .int (0)]) (n := 5) (Nat.le_of_ble_eq_true rfl)
  rw [lg_entry_eq]
  generalize (lg_sl ([.ref (ad 222), .int (0)]) ++ List.replicate (5 - (lg_sl ([.ref (ad 222), .int (0)])).length) Slot.unset).toArray = ls at hl ⊢
  have hl : lv_has ls 5 [(0, .ref (ad 222)), (1, .int (0))] := hl
  obtain ⟨at1, ft2, h9_3⟩ := hRS.2.1
  have h1_4 : mem 1 = .inr (0, [.ref (ad 2), .int (nI Z)]) := (hRS.2.2 1 (by omega)).trans hT.1
  have h2_5 : mem 2 = .inl (cy 0, 240, .inl f) := (hRS.2.2 2 (by omega)).trans hT.2.2
  have h5_6 := hRS.1.2.1
  have hbd12 := hRS.1.1
  obtain ⟨S7, g8, hS_9, h220_10, h221_11⟩ := hRS.1.2.2.2.2.2.2
  refine lv_aload_n Bx.1 Bx.2.1 d_Rd_readSequence_0 rfl (lv_at hl 0 rfl) ?_
  refine lv_iconst (v := 1) Bx.1 Bx.2.1 d_Rd_readSequence_1 (by decide) ?_
  refine f_xVr (na := 1) (As := [.int (1)]) (rest := []) Bx hml E hP hD hS (by omega) h9_3 rfl (m_Rd_beginRow l hlt hn hT hRS) kw_409 kw_411 sel_Rd_beginRow kw_6 kw_412 (by decide +kernel) ⟨rfl, rfl⟩ ⟨Nat.le_of_ble_eq_true rfl, Nat.le_of_ble_eq_true rfl⟩ rfl hl.1 (Nat.le_of_ble_eq_true rfl) d_Rd_readSequence_2 ⟨Nat.le_of_ble_eq_true rfl, Nat.le_of_ble_eq_true rfl⟩ (fun X ce q9 memx H locs hx9 hP hS g1 g2 g3 => f_out hlocks hno hP hS g1 g2 g3 ⟨Nat.le_of_ble_eq_true rfl, Nat.le_of_ble_eq_true rfl⟩ hx9) (fun r13 mem14 H locs hq hP hS => ?_)
  have hD : va_D (Az sz) (fw n ad mem14) := fw_D hD
  obtain ⟨kx15, rc16, ec17, hr919, hb20, hb21, hb22, hRS18⟩ := hq
  subst hr919
  have hbd23 := hRS18.1.1
  obtain ⟨at24, ft25, h9_26⟩ := hRS18.2.1
  have h1_27 : mem14 1 = .inr (0, [.ref (ad 2), .int (nI Z)]) := (hRS18.2.2 1 (by omega)).trans hT.1
  have h2_28 : mem14 2 = .inl (cy 0, 240, .inl f) := (hRS18.2.2 2 (by omega)).trans hT.2.2
  have h5_29 := hRS18.1.2.1
  have hbd35 := hRS18.1.1
  obtain ⟨S30, g31, hS_32, h220_33, h221_34⟩ := hRS18.1.2.2.2.2.2.2
  obtain ⟨k36, lo37, hi38, as39, pa40, ne41, he_42, ho_43⟩ := (hRS18.1.2.2.2.2.2.1 kx15 (by omega)).1
  refine lv_astore_n (lv' := [(2, .ref (ad (20 + 2 * kx15))), (0, .ref (ad 222)), (1, .int (0))]) Bx.1 Bx.2.1 d_Rd_readSequence_5 rfl hl (by decide) rfl (fun ls hl => ?_)
  refine lv_aload_n Bx.1 Bx.2.1 d_Rd_readSequence_6 rfl (lv_at hl 1 rfl) ?_
  refine lv_iload_n Bx.1 Bx.2.1 d_Rd_readSequence_7 rfl (lv_at hl 2 rfl) ?_
  refine f_xVr (na := 1) (As := [.int (0)]) (rest := []) Bx hml E hP hD hS (by omega) h9_26 rfl (m_Rd_readRepetition_0 l hlt hn hT hRS18) kw_439 kw_441 sel_Rd_readRepetition kw_6 kw_442 (by decide +kernel) ⟨rfl, rfl⟩ ⟨Nat.le_of_ble_eq_true rfl, Nat.le_of_ble_eq_true rfl⟩ rfl hl.1 (Nat.le_of_ble_eq_true rfl) d_Rd_readSequence_8 ⟨Nat.le_of_ble_eq_true rfl, Nat.le_of_ble_eq_true rfl⟩ (fun X ce q9 memx H locs hx9 hP hS g1 g2 g3 => f_out hlocks hno hP hS g1 g2 g3 ⟨Nat.le_of_ble_eq_true rfl, Nat.le_of_ble_eq_true rfl⟩ hx9) (fun r44 mem45 H locs hq hP hS => ?_)
  have hD : va_D (Az sz) (fw n ad mem45) := fw_D hD
  obtain ⟨kx46, rc47, ec48, hr950, hb51, hb52, hb53, hRS49⟩ := hq
  subst hr950
  have hbd54 := hRS49.1.1
  obtain ⟨at55, ft56, h9_57⟩ := hRS49.2.1
  have h1_58 : mem45 1 = .inr (0, [.ref (ad 2), .int (nI Z)]) := (hRS49.2.2 1 (by omega)).trans hT.1
  have h2_59 : mem45 2 = .inl (cy 0, 240, .inl f) := (hRS49.2.2 2 (by omega)).trans hT.2.2
  have h5_60 := hRS49.1.2.1
  have hbd66 := hRS49.1.1
  obtain ⟨S61, g62, hS_63, h220_64, h221_65⟩ := hRS49.1.2.2.2.2.2.2
  obtain ⟨k67, lo68, hi69, as70, pa71, ne72, he_73, ho_74⟩ := (hRS49.1.2.2.2.2.2.1 kx15 (by omega)).1
  obtain ⟨k75, lo76, hi77, as78, pa79, ne80, he_81, ho_82⟩ := (hRS49.1.2.2.2.2.2.1 kx46 (by omega)).1
  refine lv_astore_n (lv' := [(3, .ref (ad (20 + 2 * kx46))), (2, .ref (ad (20 + 2 * kx15))), (0, .ref (ad 222)), (1, .int (0))]) Bx.1 Bx.2.1 d_Rd_readSequence_11 rfl hl (by decide) rfl (fun ls hl => ?_)
  refine lv_aload_n Bx.1 Bx.2.1 d_Rd_readSequence_12 rfl (lv_at hl 1 rfl) ?_
  refine lv_aload_n Bx.1 Bx.2.1 d_Rd_readSequence_13 rfl (lv_at hl 0 rfl) ?_
  refine f_putN Bx hP hD hS (by omega) he_73 rfl inEl tyEl okEl nmEl 4 (by decide) kw_87 rfl rfl rfl rfl (Nat.le_of_ble_eq_true rfl) d_Rd_readSequence_14 (fun H locs hP hS => ?_)
  obtain ⟨mem83, e_mem83⟩ : ∃ z, z = va_up mem45 ((20 + 2 * kx15)) (.inr (2, [.int (k67), .int (lo68), .int (hi69), as70, .ref (ad (20 + 2 * kx46)), ne72, .ref (ad (21 + 2 * kx15))])) := ⟨_, rfl⟩
  have hP : va_P D vcl (fw n ad mem83) H := by rw [e_mem83]; exact hP
  have hD : va_D (Az sz) (fw n ad mem83) := fw_D hD
  have h_mem83 : mem83 ((20 + 2 * kx15)) = .inr (2, [.int (k67), .int (lo68), .int (hi69), as70, .ref (ad (20 + 2 * kx46)), ne72, .ref (ad (21 + 2 * kx15))]) := by rw [e_mem83, va_up_self]
  have hh84 := (va_up_ne mem45 (.inr (2, [.int (k67), .int (lo68), .int (hi69), as70, .ref (ad (20 + 2 * kx46)), ne72, .ref (ad (21 + 2 * kx15))])) (show (222 : Nat) ≠ (20 + 2 * kx15) by first | decide | assumption | omega)).trans h9_57
  rw [← e_mem83] at hh84
  have hh85 := (va_up_ne mem45 (.inr (2, [.int (k67), .int (lo68), .int (hi69), as70, .ref (ad (20 + 2 * kx46)), ne72, .ref (ad (21 + 2 * kx15))])) (show (1 : Nat) ≠ (20 + 2 * kx15) by first | decide | assumption | omega)).trans h1_58
  rw [← e_mem83] at hh85
  have hh86 := (va_up_ne mem45 (.inr (2, [.int (k67), .int (lo68), .int (hi69), as70, .ref (ad (20 + 2 * kx46)), ne72, .ref (ad (21 + 2 * kx15))])) (show (5 : Nat) ≠ (20 + 2 * kx15) by first | decide | assumption | omega)).trans h5_60
  rw [← e_mem83] at hh86
  have hh87 := (va_up_ne mem45 (.inr (2, [.int (k67), .int (lo68), .int (hi69), as70, .ref (ad (20 + 2 * kx46)), ne72, .ref (ad (21 + 2 * kx15))])) (show (220 : Nat) ≠ (20 + 2 * kx15) by first | decide | assumption | omega)).trans h220_64
  rw [← e_mem83] at hh87
  have hh88 := (va_up_ne mem45 (.inr (2, [.int (k67), .int (lo68), .int (hi69), as70, .ref (ad (20 + 2 * kx46)), ne72, .ref (ad (21 + 2 * kx15))])) (show ((20 + 2 * kx46) : Nat) ≠ (20 + 2 * kx15) by first | decide | assumption | omega)).trans he_81
  rw [← e_mem83] at hh88
  have hRS89 : RS cy ad lim rc47 ec48 m0 mem83 := by rw [e_mem83]; exact hRS49.mk (by omega) (hRS49.1.upEl (by omega) (fun q9 => ⟨(ho_74 q9).1, Or.inr ⟨kx46, by omega, by omega, rfl⟩, (ho_74 q9).2.2⟩))
  refine lv_iconst (v := 0) Bx.1 Bx.2.1 d_Rd_readSequence_17 (by decide) ?_
  refine lv_istore (lv' := [(4, .int (0)), (3, .ref (ad (20 + 2 * kx46))), (2, .ref (ad (20 + 2 * kx15))), (0, .ref (ad 222)), (1, .int (0))]) Bx.1 Bx.2.1 d_Rd_readSequence_18 hl (by decide) rfl (fun ls hl => ?_)
  have loop90 : ∀ (d : Nat) (mem : Nat → va_E) (rcl ecl : Nat) (ls : Array Slot) (H : Heap) (locs : List Loc) (la : Nat) (k9 : Int32), ((240 : Int32).toInt - (k9).toInt).toNat < d → RS cy ad lim rcl ecl m0 mem → kx15 < ecl ∧ la < ecl ∧ rc ≤ rcl → va_P D vcl (fw n ad mem) H → va_D (Az sz) (fw n ad mem) → va_S (Az sz) s.heap H locs → lv_has ls 5 [(4, .int (k9)), (3, .ref (ad (20 + 2 * la))), (2, .ref (ad (20 + 2 * kx15))), (0, .ref (ad 222)), (1, .int (0))] → W p l e (headSpec (Cond.code y_Rd_readSequence c_Rd_readSequence 5 (some (.object "AbnfChart$Element")) :: tg) ({ frames := 54, cells := 1, slots := 6, locals := 1312 } : Room)).room s m [.ref (ad 222), .int (0)].toArray below meth c H locs 0 0 (vx_MQ below (QX (QR (fun r mem' => ∃ k rc' ec' : Nat, r = ad (20 + 2 * k) ∧ ec ≤ k ∧ k < ec' ∧ rc ≤ rc' ∧ RS cy ad lim rc' ec' m0 mem') (PP D n ad) (Az sz))) (XQ D sz n ad (fun X mem' => (X = cIA ∨ X = cIS) ∧ ∃ rc' ec' : Nat, RS cy ad lim rc' ec' m0 mem')) [.ref (ad 222), .int (0)].toArray s 1 6 (Az sz)) (F0 m 20 ls []) := by
    intro d
    induction d with
    | zero => intro mem rcl ecl ls H locs la k9 hmeas; exact absurd hmeas (Nat.not_lt_zero _)
    | succ d ih =>
      intro mem rcl ecl ls H locs la k9 hmeas hRS hx0 hP hD hS hl
      have hbd := hRS.1.1
      obtain ⟨at91, ft92, h9_93⟩ := hRS.2.1
      have h1_94 : mem 1 = .inr (0, [.ref (ad 2), .int (nI Z)]) := (hRS.2.2 1 (by omega)).trans hT.1
      have h2_95 : mem 2 = .inl (cy 0, 240, .inl f) := (hRS.2.2 2 (by omega)).trans hT.2.2
      have h5_96 := hRS.1.2.1
      have hbd102 := hRS.1.1
      obtain ⟨S97, g98, hS_99, h220_100, h221_101⟩ := hRS.1.2.2.2.2.2.2
      obtain ⟨k103, lo104, hi105, as106, pa107, ne108, he_109, ho_110⟩ := (hRS.1.2.2.2.2.2.1 la (by omega)).1
      refine lv_iload Bx.1 Bx.2.1 d_Rd_readSequence_20 (lv_at hl 0 rfl) ?_
      refine lv_sipush (v := 240) Bx.1 Bx.2.1 d_Rd_readSequence_22 (by decide) ?_
      refine lv_icmp_ge Bx.1 Bx.2.1 d_Rd_readSequence_25 rfl (fun hk => ?_) (fun hk => ?_)
      · refine lv_aload_n Bx.1 Bx.2.1 d_Rd_readSequence_65 rfl (lv_at hl 2 rfl) ?_
        exact x_aret hx hb hlocks hr (⟨kx15, rcl, ecl, rfl, by omega, by omega, by omega, hRS⟩) hP hS d_Rd_readSequence_66
      · refine lv_aload_n Bx.1 Bx.2.1 d_Rd_readSequence_28 rfl (lv_at hl 3 rfl) ?_
        refine f_callVi (na := 0) (As := []) (rest := []) Bx hml E hP hD hS (by omega) h9_93 rfl (m_Rd_readGap l hn hT hRS) kw_397 kw_399 sel_Rd_readGap kw_6 kw_400 (by decide +kernel) ⟨rfl, rfl⟩ ⟨Nat.le_of_ble_eq_true rfl, Nat.le_of_ble_eq_true rfl⟩ rfl hl.1 (Nat.le_of_ble_eq_true rfl) d_Rd_readSequence_29 ⟨Nat.le_of_ble_eq_true rfl, Nat.le_of_ble_eq_true rfl⟩ (fun r112 mem113 H locs hRS111 hP hS => ?_)
        have hD : va_D (Az sz) (fw n ad mem113) := fw_D hD
        obtain ⟨at114, ft115, h9_116⟩ := hRS111.2.1
        have h1_117 : mem113 1 = .inr (0, [.ref (ad 2), .int (nI Z)]) := (hRS111.2.2 1 (by omega)).trans hT.1
        have h2_118 : mem113 2 = .inl (cy 0, 240, .inl f) := (hRS111.2.2 2 (by omega)).trans hT.2.2
        have h5_119 := hRS111.1.2.1
        have hbd125 := hRS111.1.1
        obtain ⟨S120, g121, hS_122, h220_123, h221_124⟩ := hRS111.1.2.2.2.2.2.2
        obtain ⟨k126, lo127, hi128, as129, pa130, ne131, he_132, ho_133⟩ := (hRS111.1.2.2.2.2.2.1 la (by omega)).1
        refine lv_if_eq Bx.1 Bx.2.1 d_Rd_readSequence_32 rfl (fun h8 => ?_) (fun h8 => ?_)
        · refine lv_aload_n Bx.1 Bx.2.1 d_Rd_readSequence_65 rfl (lv_at hl 2 rfl) ?_
          exact x_aret hx hb hlocks hr (⟨kx15, rcl, ecl, rfl, by omega, by omega, by omega, hRS111⟩) hP hS d_Rd_readSequence_66
        · refine lv_aload_n Bx.1 Bx.2.1 d_Rd_readSequence_35 rfl (lv_at hl 3 rfl) ?_
          refine f_callVi (na := 0) (As := []) (rest := []) Bx hml E hP hD hS (by omega) h9_116 rfl (m_Rd_peek l hn hT hRS111) kw_353 kw_355 sel_Rd_peek kw_6 kw_356 (by decide +kernel) ⟨rfl, rfl⟩ ⟨Nat.le_of_ble_eq_true rfl, Nat.le_of_ble_eq_true rfl⟩ rfl hl.1 (Nat.le_of_ble_eq_true rfl) d_Rd_readSequence_36 ⟨Nat.le_of_ble_eq_true rfl, Nat.le_of_ble_eq_true rfl⟩ (fun r134 mem135 H locs hq hP hS => ?_)
          have hD : va_D (Az sz) (fw n ad mem135) := fw_D hD
          rw [hq] at hP hD
          refine f_callSi (na := 1) (As := [.int (r134)]) (rest := []) Bx hml E.2.1 (m_Rd_beginsRepetition l (r134)) kw_413 kw_414 kw_6 kw_415 (by decide +kernel) ⟨rfl, rfl⟩ ⟨Nat.le_of_ble_eq_true rfl, Nat.le_of_ble_eq_true rfl⟩ rfl hl.1 (Nat.le_of_ble_eq_true rfl) d_Rd_readSequence_39 ⟨Nat.le_of_ble_eq_true rfl, Nat.le_of_ble_eq_true rfl⟩ (fun r137 hs136 => ?_)
          refine lv_if_eq Bx.1 Bx.2.1 d_Rd_readSequence_42 rfl (fun h8 => ?_) (fun h8 => ?_)
          · refine lv_aload_n Bx.1 Bx.2.1 d_Rd_readSequence_65 rfl (lv_at hl 2 rfl) ?_
            exact x_aret hx hb hlocks hr (⟨kx15, rcl, ecl, rfl, by omega, by omega, by omega, hRS111⟩) hP hS d_Rd_readSequence_66
          · refine lv_aload_n Bx.1 Bx.2.1 d_Rd_readSequence_45 rfl (lv_at hl 1 rfl) ?_
            refine lv_aload_n Bx.1 Bx.2.1 d_Rd_readSequence_46 rfl (lv_at hl 3 rfl) ?_
            refine lv_iload_n Bx.1 Bx.2.1 d_Rd_readSequence_47 rfl (lv_at hl 4 rfl) ?_
            refine f_xVr (na := 1) (As := [.int (0)]) (rest := [.ref (ad (20 + 2 * la))]) Bx hml E hP hD hS (by omega) h9_116 rfl (m_Rd_readRepetition_0 l hlt hn hT hRS111) kw_439 kw_441 sel_Rd_readRepetition kw_6 kw_442 (by decide +kernel) ⟨rfl, rfl⟩ ⟨Nat.le_of_ble_eq_true rfl, Nat.le_of_ble_eq_true rfl⟩ rfl hl.1 (Nat.le_of_ble_eq_true rfl) d_Rd_readSequence_48 ⟨Nat.le_of_ble_eq_true rfl, Nat.le_of_ble_eq_true rfl⟩ (fun X ce q9 memx H locs hx9 hP hS g1 g2 g3 => f_out hlocks hno hP hS g1 g2 g3 ⟨Nat.le_of_ble_eq_true rfl, Nat.le_of_ble_eq_true rfl⟩ hx9) (fun r138 mem139 H locs hq hP hS => ?_)
            have hD : va_D (Az sz) (fw n ad mem139) := fw_D hD
            obtain ⟨kx140, rc141, ec142, hr9144, hb145, hb146, hb147, hRS143⟩ := hq
            subst hr9144
            have hbd148 := hRS143.1.1
            obtain ⟨at149, ft150, h9_151⟩ := hRS143.2.1
            have h1_152 : mem139 1 = .inr (0, [.ref (ad 2), .int (nI Z)]) := (hRS143.2.2 1 (by omega)).trans hT.1
            have h2_153 : mem139 2 = .inl (cy 0, 240, .inl f) := (hRS143.2.2 2 (by omega)).trans hT.2.2
            have h5_154 := hRS143.1.2.1
            have hbd160 := hRS143.1.1
            obtain ⟨S155, g156, hS_157, h220_158, h221_159⟩ := hRS143.1.2.2.2.2.2.2
            obtain ⟨k161, lo162, hi163, as164, pa165, ne166, he_167, ho_168⟩ := (hRS143.1.2.2.2.2.2.1 la (by omega)).1
            obtain ⟨k169, lo170, hi171, as172, pa173, ne174, he_175, ho_176⟩ := (hRS143.1.2.2.2.2.2.1 kx140 (by omega)).1
            refine f_putN Bx hP hD hS (by omega) he_167 rfl inEl tyEl okEl nmEl 5 (by decide) kw_91 rfl rfl rfl rfl (Nat.le_of_ble_eq_true rfl) d_Rd_readSequence_51 (fun H locs hP hS => ?_)
            obtain ⟨mem177, e_mem177⟩ : ∃ z, z = va_up mem139 ((20 + 2 * la)) (.inr (2, [.int (k161), .int (lo162), .int (hi163), as164, pa165, .ref (ad (20 + 2 * kx140)), .ref (ad (21 + 2 * la))])) := ⟨_, rfl⟩
            have hP : va_P D vcl (fw n ad mem177) H := by rw [e_mem177]; exact hP
            have hD : va_D (Az sz) (fw n ad mem177) := fw_D hD
            have h_mem177 : mem177 ((20 + 2 * la)) = .inr (2, [.int (k161), .int (lo162), .int (hi163), as164, pa165, .ref (ad (20 + 2 * kx140)), .ref (ad (21 + 2 * la))]) := by rw [e_mem177, va_up_self]
            have hh178 := (va_up_ne mem139 (.inr (2, [.int (k161), .int (lo162), .int (hi163), as164, pa165, .ref (ad (20 + 2 * kx140)), .ref (ad (21 + 2 * la))])) (show (222 : Nat) ≠ (20 + 2 * la) by first | decide | assumption | omega)).trans h9_151
            rw [← e_mem177] at hh178
            have hh179 := (va_up_ne mem139 (.inr (2, [.int (k161), .int (lo162), .int (hi163), as164, pa165, .ref (ad (20 + 2 * kx140)), .ref (ad (21 + 2 * la))])) (show (1 : Nat) ≠ (20 + 2 * la) by first | decide | assumption | omega)).trans h1_152
            rw [← e_mem177] at hh179
            have hh180 := (va_up_ne mem139 (.inr (2, [.int (k161), .int (lo162), .int (hi163), as164, pa165, .ref (ad (20 + 2 * kx140)), .ref (ad (21 + 2 * la))])) (show (5 : Nat) ≠ (20 + 2 * la) by first | decide | assumption | omega)).trans h5_154
            rw [← e_mem177] at hh180
            have hh181 := (va_up_ne mem139 (.inr (2, [.int (k161), .int (lo162), .int (hi163), as164, pa165, .ref (ad (20 + 2 * kx140)), .ref (ad (21 + 2 * la))])) (show (220 : Nat) ≠ (20 + 2 * la) by first | decide | assumption | omega)).trans h220_158
            rw [← e_mem177] at hh181
            have hh182 := (va_up_ne mem139 (.inr (2, [.int (k161), .int (lo162), .int (hi163), as164, pa165, .ref (ad (20 + 2 * kx140)), .ref (ad (21 + 2 * la))])) (show ((20 + 2 * kx140) : Nat) ≠ (20 + 2 * la) by first | decide | assumption | omega)).trans he_175
            rw [← e_mem177] at hh182
            have hRS183 : RS cy ad lim rc141 ec142 m0 mem177 := by rw [e_mem177]; exact hRS143.mk (by omega) (hRS143.1.upEl (by omega) (fun q9 => ⟨(ho_168 q9).1, (ho_168 q9).2.1, Or.inr ⟨kx140, by omega, by omega, rfl⟩⟩))
            refine lv_aload_n Bx.1 Bx.2.1 d_Rd_readSequence_54 rfl (lv_at hl 1 rfl) ?_
            refine f_getN Bx hP (by omega) h_mem177 rfl inEl 5 (by decide) kw_91 rfl rfl d_Rd_readSequence_55 ?_
            refine lv_astore_n (lv' := [(3, .ref (ad (20 + 2 * kx140))), (4, .int (k9)), (2, .ref (ad (20 + 2 * kx15))), (0, .ref (ad 222)), (1, .int (0))]) Bx.1 Bx.2.1 d_Rd_readSequence_58 rfl hl (by decide) rfl (fun ls hl => ?_)
            refine lv_iinc (lv' := [(4, .int ((k9 + (1)))), (3, .ref (ad (20 + 2 * kx140))), (2, .ref (ad (20 + 2 * kx15))), (0, .ref (ad 222)), (1, .int (0))]) Bx.1 Bx.2.1 d_Rd_readSequence_59 hl (k := 1) rfl rfl (by decide) rfl (fun ls hl => ?_)
            refine lv_goto Bx.1 Bx.2.1 d_Rd_readSequence_62 rfl ?_
            exact ih _ _ _ _ _ _ _ _ (by have := inc_meas hk; omega) hRS183 ⟨by omega, by omega, by omega⟩ hP hD hS (lv_sub hl [0, 1, 2, 3, 4] rfl)
  exact loop90 _ _ _ _ _ _ _ _ _ (Nat.lt_succ_self _) hRS89 ⟨by omega, by omega, by omega⟩ hP hD hS (lv_sub hl [0, 1, 2, 3, 4] rfl)
set_option maxHeartbeats 4000000 in
set_option maxRecDepth 100000 in
theorem m_Rd_readAlternatives_0 (l : Launch) {D : va_G} {cy : Nat → ClassId} {sz n : Nat} {ad : Nat → Nat} {mem : Nat → va_E} {Z : Nat} {f : Nat → Int32} {lim rc ec : Nat} {m0 : Nat → va_E} (hlt : l.stackTraces = false) (hn : 224 ≤ n) (hT : TX cy ad Z f m0) (hRS : RS cy ad lim rc ec m0 mem) : NXr l D cy sz n ad y_Rd_readAlternatives c_Rd_readAlternatives 5 (some (.object "AbnfChart$Element")) ({ frames := 55, cells := 1, slots := 6, locals := 1338 } : Room) mem [.ref (ad 222), .int (0)] (fun r mem' => ∃ k rc' ec' : Nat, r = ad (20 + 2 * k) ∧ ec ≤ k ∧ k < ec' ∧ rc ≤ rc' ∧ RS cy ad lim rc' ec' m0 mem') (fun X mem' => (X = cIA ∨ X = cIS) ∧ ∃ rc' ec' : Nat, RS cy ad lim rc' ec' m0 mem') := by
  refine vx_ofW (cc := c_Rd_readAlternatives) (maxL := 5) (ret := (some (.object "AbnfChart$Element"))) (by decide) rfl ?_
  intro p e s m args below meth c s₁ B hml hno hv
  obtain ⟨rfl, E, hP, hD⟩ := hv
  have hx := B.exec
  have hb := B.bytes
  have hr := B.returns
  have hlocks := B.notSynchronized
  have Bx : MB p s m [.ref (ad 222), .int (0)].toArray c c_Rd_readAlternatives "AbnfChart$Reader" D cy := ⟨hx, hb, tb_all (atoms_spec B.pre) E.2.1, findClass_of_methodNamed B.named, E.1⟩
  have hS : va_S (Az sz) s.heap s.heap [] := va_S.rf
  have hl := lv_entry ([.ref (ad 222), .int (0)]) (n := 5) (Nat.le_of_ble_eq_true rfl)
  rw [lg_entry_eq]
  generalize (lg_sl ([.ref (ad 222), .int (0)]) ++ List.replicate (5 - (lg_sl ([.ref (ad 222), .int (0)])).length) Slot.unset).toArray = ls at hl ⊢
  have hl : lv_has ls 5 [(0, .ref (ad 222)), (1, .int (0))] := hl
  obtain ⟨at1, ft2, h9_3⟩ := hRS.2.1
  have h1_4 : mem 1 = .inr (0, [.ref (ad 2), .int (nI Z)]) := (hRS.2.2 1 (by omega)).trans hT.1
  have h2_5 : mem 2 = .inl (cy 0, 240, .inl f) := (hRS.2.2 2 (by omega)).trans hT.2.2
  have h5_6 := hRS.1.2.1
  have hbd12 := hRS.1.1
  obtain ⟨S7, g8, hS_9, h220_10, h221_11⟩ := hRS.1.2.2.2.2.2.2
  refine lv_aload_n Bx.1 Bx.2.1 d_Rd_readAlternatives_0 rfl (lv_at hl 0 rfl) ?_
  refine lv_iconst (v := 0) Bx.1 Bx.2.1 d_Rd_readAlternatives_1 (by decide) ?_
  refine f_xVr (na := 1) (As := [.int (0)]) (rest := []) Bx hml E hP hD hS (by omega) h9_3 rfl (m_Rd_beginRow l hlt hn hT hRS) kw_409 kw_411 sel_Rd_beginRow kw_6 kw_412 (by decide +kernel) ⟨rfl, rfl⟩ ⟨Nat.le_of_ble_eq_true rfl, Nat.le_of_ble_eq_true rfl⟩ rfl hl.1 (Nat.le_of_ble_eq_true rfl) d_Rd_readAlternatives_2 ⟨Nat.le_of_ble_eq_true rfl, Nat.le_of_ble_eq_true rfl⟩ (fun X ce q9 memx H locs hx9 hP hS g1 g2 g3 => f_out hlocks hno hP hS g1 g2 g3 ⟨Nat.le_of_ble_eq_true rfl, Nat.le_of_ble_eq_true rfl⟩ hx9) (fun r13 mem14 H locs hq hP hS => ?_)
  have hD : va_D (Az sz) (fw n ad mem14) := fw_D hD
  obtain ⟨kx15, rc16, ec17, hr919, hb20, hb21, hb22, hRS18⟩ := hq
  subst hr919
  have hbd23 := hRS18.1.1
  obtain ⟨at24, ft25, h9_26⟩ := hRS18.2.1
  have h1_27 : mem14 1 = .inr (0, [.ref (ad 2), .int (nI Z)]) := (hRS18.2.2 1 (by omega)).trans hT.1
  have h2_28 : mem14 2 = .inl (cy 0, 240, .inl f) := (hRS18.2.2 2 (by omega)).trans hT.2.2
  have h5_29 := hRS18.1.2.1
  have hbd35 := hRS18.1.1
  obtain ⟨S30, g31, hS_32, h220_33, h221_34⟩ := hRS18.1.2.2.2.2.2.2
  obtain ⟨k36, lo37, hi38, as39, pa40, ne41, he_42, ho_43⟩ := (hRS18.1.2.2.2.2.2.1 kx15 (by omega)).1
  refine lv_astore_n (lv' := [(2, .ref (ad (20 + 2 * kx15))), (0, .ref (ad 222)), (1, .int (0))]) Bx.1 Bx.2.1 d_Rd_readAlternatives_5 rfl hl (by decide) rfl (fun ls hl => ?_)
  refine lv_aload_n Bx.1 Bx.2.1 d_Rd_readAlternatives_6 rfl (lv_at hl 1 rfl) ?_
  refine lv_iload_n Bx.1 Bx.2.1 d_Rd_readAlternatives_7 rfl (lv_at hl 2 rfl) ?_
  refine f_xVr (na := 1) (As := [.int (0)]) (rest := []) Bx hml E hP hD hS (by omega) h9_26 rfl (m_Rd_readSequence_0 l hlt hn hT hRS18) kw_435 kw_437 sel_Rd_readSequence kw_6 kw_438 (by decide +kernel) ⟨rfl, rfl⟩ ⟨Nat.le_of_ble_eq_true rfl, Nat.le_of_ble_eq_true rfl⟩ rfl hl.1 (Nat.le_of_ble_eq_true rfl) d_Rd_readAlternatives_8 ⟨Nat.le_of_ble_eq_true rfl, Nat.le_of_ble_eq_true rfl⟩ (fun X ce q9 memx H locs hx9 hP hS g1 g2 g3 => f_out hlocks hno hP hS g1 g2 g3 ⟨Nat.le_of_ble_eq_true rfl, Nat.le_of_ble_eq_true rfl⟩ hx9) (fun r44 mem45 H locs hq hP hS => ?_)
  have hD : va_D (Az sz) (fw n ad mem45) := fw_D hD
  obtain ⟨kx46, rc47, ec48, hr950, hb51, hb52, hb53, hRS49⟩ := hq
  subst hr950
  have hbd54 := hRS49.1.1
  obtain ⟨at55, ft56, h9_57⟩ := hRS49.2.1
  have h1_58 : mem45 1 = .inr (0, [.ref (ad 2), .int (nI Z)]) := (hRS49.2.2 1 (by omega)).trans hT.1
  have h2_59 : mem45 2 = .inl (cy 0, 240, .inl f) := (hRS49.2.2 2 (by omega)).trans hT.2.2
  have h5_60 := hRS49.1.2.1
  have hbd66 := hRS49.1.1
  obtain ⟨S61, g62, hS_63, h220_64, h221_65⟩ := hRS49.1.2.2.2.2.2.2
  obtain ⟨k67, lo68, hi69, as70, pa71, ne72, he_73, ho_74⟩ := (hRS49.1.2.2.2.2.2.1 kx15 (by omega)).1
  obtain ⟨k75, lo76, hi77, as78, pa79, ne80, he_81, ho_82⟩ := (hRS49.1.2.2.2.2.2.1 kx46 (by omega)).1
  refine lv_astore_n (lv' := [(3, .ref (ad (20 + 2 * kx46))), (2, .ref (ad (20 + 2 * kx15))), (0, .ref (ad 222)), (1, .int (0))]) Bx.1 Bx.2.1 d_Rd_readAlternatives_11 rfl hl (by decide) rfl (fun ls hl => ?_)
  refine lv_aload_n Bx.1 Bx.2.1 d_Rd_readAlternatives_12 rfl (lv_at hl 1 rfl) ?_
  refine lv_aload_n Bx.1 Bx.2.1 d_Rd_readAlternatives_13 rfl (lv_at hl 0 rfl) ?_
  refine f_putN Bx hP hD hS (by omega) he_73 rfl inEl tyEl okEl nmEl 4 (by decide) kw_87 rfl rfl rfl rfl (Nat.le_of_ble_eq_true rfl) d_Rd_readAlternatives_14 (fun H locs hP hS => ?_)
  obtain ⟨mem83, e_mem83⟩ : ∃ z, z = va_up mem45 ((20 + 2 * kx15)) (.inr (2, [.int (k67), .int (lo68), .int (hi69), as70, .ref (ad (20 + 2 * kx46)), ne72, .ref (ad (21 + 2 * kx15))])) := ⟨_, rfl⟩
  have hP : va_P D vcl (fw n ad mem83) H := by rw [e_mem83]; exact hP
  have hD : va_D (Az sz) (fw n ad mem83) := fw_D hD
  have h_mem83 : mem83 ((20 + 2 * kx15)) = .inr (2, [.int (k67), .int (lo68), .int (hi69), as70, .ref (ad (20 + 2 * kx46)), ne72, .ref (ad (21 + 2 * kx15))]) := by rw [e_mem83, va_up_self]
  have hh84 := (va_up_ne mem45 (.inr (2, [.int (k67), .int (lo68), .int (hi69), as70, .ref (ad (20 + 2 * kx46)), ne72, .ref (ad (21 + 2 * kx15))])) (show (222 : Nat) ≠ (20 + 2 * kx15) by first | decide | assumption | omega)).trans h9_57
  rw [← e_mem83] at hh84
  have hh85 := (va_up_ne mem45 (.inr (2, [.int (k67), .int (lo68), .int (hi69), as70, .ref (ad (20 + 2 * kx46)), ne72, .ref (ad (21 + 2 * kx15))])) (show (1 : Nat) ≠ (20 + 2 * kx15) by first | decide | assumption | omega)).trans h1_58
  rw [← e_mem83] at hh85
  have hh86 := (va_up_ne mem45 (.inr (2, [.int (k67), .int (lo68), .int (hi69), as70, .ref (ad (20 + 2 * kx46)), ne72, .ref (ad (21 + 2 * kx15))])) (show (5 : Nat) ≠ (20 + 2 * kx15) by first | decide | assumption | omega)).trans h5_60
  rw [← e_mem83] at hh86
  have hh87 := (va_up_ne mem45 (.inr (2, [.int (k67), .int (lo68), .int (hi69), as70, .ref (ad (20 + 2 * kx46)), ne72, .ref (ad (21 + 2 * kx15))])) (show (220 : Nat) ≠ (20 + 2 * kx15) by first | decide | assumption | omega)).trans h220_64
  rw [← e_mem83] at hh87
  have hh88 := (va_up_ne mem45 (.inr (2, [.int (k67), .int (lo68), .int (hi69), as70, .ref (ad (20 + 2 * kx46)), ne72, .ref (ad (21 + 2 * kx15))])) (show ((20 + 2 * kx46) : Nat) ≠ (20 + 2 * kx15) by first | decide | assumption | omega)).trans he_81
  rw [← e_mem83] at hh88
  have hRS89 : RS cy ad lim rc47 ec48 m0 mem83 := by rw [e_mem83]; exact hRS49.mk (by omega) (hRS49.1.upEl (by omega) (fun q9 => ⟨(ho_74 q9).1, Or.inr ⟨kx46, by omega, by omega, rfl⟩, (ho_74 q9).2.2⟩))
  refine lv_iconst (v := 0) Bx.1 Bx.2.1 d_Rd_readAlternatives_17 (by decide) ?_
  refine lv_istore (lv' := [(4, .int (0)), (3, .ref (ad (20 + 2 * kx46))), (2, .ref (ad (20 + 2 * kx15))), (0, .ref (ad 222)), (1, .int (0))]) Bx.1 Bx.2.1 d_Rd_readAlternatives_18 hl (by decide) rfl (fun ls hl => ?_)
  have loop90 : ∀ (d : Nat) (mem : Nat → va_E) (rcl ecl : Nat) (ls : Array Slot) (H : Heap) (locs : List Loc) (la : Nat) (k9 : Int32), ((240 : Int32).toInt - (k9).toInt).toNat < d → RS cy ad lim rcl ecl m0 mem → kx15 < ecl ∧ la < ecl ∧ rc ≤ rcl → va_P D vcl (fw n ad mem) H → va_D (Az sz) (fw n ad mem) → va_S (Az sz) s.heap H locs → lv_has ls 5 [(4, .int (k9)), (3, .ref (ad (20 + 2 * la))), (2, .ref (ad (20 + 2 * kx15))), (0, .ref (ad 222)), (1, .int (0))] → W p l e (headSpec (Cond.code y_Rd_readAlternatives c_Rd_readAlternatives 5 (some (.object "AbnfChart$Element")) :: tg) ({ frames := 55, cells := 1, slots := 6, locals := 1338 } : Room)).room s m [.ref (ad 222), .int (0)].toArray below meth c H locs 0 0 (vx_MQ below (QX (QR (fun r mem' => ∃ k rc' ec' : Nat, r = ad (20 + 2 * k) ∧ ec ≤ k ∧ k < ec' ∧ rc ≤ rc' ∧ RS cy ad lim rc' ec' m0 mem') (PP D n ad) (Az sz))) (XQ D sz n ad (fun X mem' => (X = cIA ∨ X = cIS) ∧ ∃ rc' ec' : Nat, RS cy ad lim rc' ec' m0 mem')) [.ref (ad 222), .int (0)].toArray s 1 6 (Az sz)) (F0 m 20 ls []) := by
    intro d
    induction d with
    | zero => intro mem rcl ecl ls H locs la k9 hmeas; exact absurd hmeas (Nat.not_lt_zero _)
    | succ d ih =>
      intro mem rcl ecl ls H locs la k9 hmeas hRS hx0 hP hD hS hl
      have hbd := hRS.1.1
      obtain ⟨at91, ft92, h9_93⟩ := hRS.2.1
      have h1_94 : mem 1 = .inr (0, [.ref (ad 2), .int (nI Z)]) := (hRS.2.2 1 (by omega)).trans hT.1
      have h2_95 : mem 2 = .inl (cy 0, 240, .inl f) := (hRS.2.2 2 (by omega)).trans hT.2.2
      have h5_96 := hRS.1.2.1
      have hbd102 := hRS.1.1
      obtain ⟨S97, g98, hS_99, h220_100, h221_101⟩ := hRS.1.2.2.2.2.2.2
      obtain ⟨k103, lo104, hi105, as106, pa107, ne108, he_109, ho_110⟩ := (hRS.1.2.2.2.2.2.1 la (by omega)).1
      refine lv_iload Bx.1 Bx.2.1 d_Rd_readAlternatives_20 (lv_at hl 0 rfl) ?_
      refine lv_sipush (v := 240) Bx.1 Bx.2.1 d_Rd_readAlternatives_22 (by decide) ?_
      refine lv_icmp_ge Bx.1 Bx.2.1 d_Rd_readAlternatives_25 rfl (fun hk => ?_) (fun hk => ?_)
      · refine lv_aload_n Bx.1 Bx.2.1 d_Rd_readAlternatives_72 rfl (lv_at hl 2 rfl) ?_
        exact x_aret hx hb hlocks hr (⟨kx15, rcl, ecl, rfl, by omega, by omega, by omega, hRS⟩) hP hS d_Rd_readAlternatives_73
      · refine lv_aload_n Bx.1 Bx.2.1 d_Rd_readAlternatives_28 rfl (lv_at hl 3 rfl) ?_
        refine f_callVi (na := 0) (As := []) (rest := []) Bx hml E hP hD hS (by omega) h9_93 rfl (m_Rd_peek l hn hT hRS) kw_353 kw_355 sel_Rd_peek kw_6 kw_356 (by decide +kernel) ⟨rfl, rfl⟩ ⟨Nat.le_of_ble_eq_true rfl, Nat.le_of_ble_eq_true rfl⟩ rfl hl.1 (Nat.le_of_ble_eq_true rfl) d_Rd_readAlternatives_29 ⟨Nat.le_of_ble_eq_true rfl, Nat.le_of_ble_eq_true rfl⟩ (fun r111 mem112 H locs hq hP hS => ?_)
        have hD : va_D (Az sz) (fw n ad mem112) := fw_D hD
        rw [hq] at hP hD
        refine lv_bipush (v := 47) Bx.1 Bx.2.1 d_Rd_readAlternatives_32 (by decide) ?_
        refine lv_icmp_ne Bx.1 Bx.2.1 d_Rd_readAlternatives_34 rfl (fun h8 => ?_) (fun h8 => ?_)
        · refine lv_aload_n Bx.1 Bx.2.1 d_Rd_readAlternatives_72 rfl (lv_at hl 2 rfl) ?_
          exact x_aret hx hb hlocks hr (⟨kx15, rcl, ecl, rfl, by omega, by omega, by omega, hRS⟩) hP hS d_Rd_readAlternatives_73
        · refine lv_aload_n Bx.1 Bx.2.1 d_Rd_readAlternatives_37 rfl (lv_at hl 3 rfl) ?_
          refine lv_dup Bx.1 Bx.2.1 d_Rd_readAlternatives_38 rfl ?_
          refine f_get Bx hP (by omega) h9_93 rfl inRd 2 (by decide) kw_146 rfl rfl d_Rd_readAlternatives_39 ?_
          refine lv_iconst (v := 1) Bx.1 Bx.2.1 d_Rd_readAlternatives_42 (by decide) ?_
          refine lv_iadd Bx.1 Bx.2.1 d_Rd_readAlternatives_43 ?_
          refine f_put Bx hP hD hS (by omega) h9_93 rfl inRd tyRd okRd nmRd 2 (by decide) kw_146 rfl rfl rfl rfl (Nat.le_of_ble_eq_true rfl) d_Rd_readAlternatives_44 (fun H locs hP hS => ?_)
          obtain ⟨mem113, e_mem113⟩ : ∃ z, z = va_up mem (222) (.inr (4, [.ref (ad 1), .ref (ad 5), .int (at91 + 1), .int (ft92)])) := ⟨_, rfl⟩
          have hP : va_P D vcl (fw n ad mem113) H := by rw [e_mem113]; exact hP
          have hD : va_D (Az sz) (fw n ad mem113) := fw_D hD
          have h_mem113 : mem113 (222) = .inr (4, [.ref (ad 1), .ref (ad 5), .int (at91 + 1), .int (ft92)]) := by rw [e_mem113, va_up_self]
          have hh114 := (va_up_ne mem (.inr (4, [.ref (ad 1), .ref (ad 5), .int (at91 + 1), .int (ft92)])) (show (1 : Nat) ≠ 222 by first | decide | assumption | omega)).trans h1_94
          rw [← e_mem113] at hh114
          have hh115 := (va_up_ne mem (.inr (4, [.ref (ad 1), .ref (ad 5), .int (at91 + 1), .int (ft92)])) (show (5 : Nat) ≠ 222 by first | decide | assumption | omega)).trans h5_96
          rw [← e_mem113] at hh115
          have hh116 := (va_up_ne mem (.inr (4, [.ref (ad 1), .ref (ad 5), .int (at91 + 1), .int (ft92)])) (show (220 : Nat) ≠ 222 by first | decide | assumption | omega)).trans h220_100
          rw [← e_mem113] at hh116
          have hh117 := (va_up_ne mem (.inr (4, [.ref (ad 1), .ref (ad 5), .int (at91 + 1), .int (ft92)])) (show ((20 + 2 * la) : Nat) ≠ 222 by first | decide | assumption | omega)).trans he_109
          rw [← e_mem113] at hh117
          have hRS118 : RS cy ad lim rcl ecl m0 mem113 := by rw [e_mem113]; exact hRS.at222
          refine lv_aload_n Bx.1 Bx.2.1 d_Rd_readAlternatives_47 rfl (lv_at hl 3 rfl) ?_
          refine f_callVi (na := 0) (As := []) (rest := []) Bx hml E hP hD hS (by omega) h_mem113 rfl (m_Rd_readGap l hn hT hRS118) kw_397 kw_399 sel_Rd_readGap kw_6 kw_400 (by decide +kernel) ⟨rfl, rfl⟩ ⟨Nat.le_of_ble_eq_true rfl, Nat.le_of_ble_eq_true rfl⟩ rfl hl.1 (Nat.le_of_ble_eq_true rfl) d_Rd_readAlternatives_48 ⟨Nat.le_of_ble_eq_true rfl, Nat.le_of_ble_eq_true rfl⟩ (fun r120 mem121 H locs hRS119 hP hS => ?_)
          have hD : va_D (Az sz) (fw n ad mem121) := fw_D hD
          obtain ⟨at122, ft123, h9_124⟩ := hRS119.2.1
          have h1_125 : mem121 1 = .inr (0, [.ref (ad 2), .int (nI Z)]) := (hRS119.2.2 1 (by omega)).trans hT.1
          have h2_126 : mem121 2 = .inl (cy 0, 240, .inl f) := (hRS119.2.2 2 (by omega)).trans hT.2.2
          have h5_127 := hRS119.1.2.1
          have hbd133 := hRS119.1.1
          obtain ⟨S128, g129, hS_130, h220_131, h221_132⟩ := hRS119.1.2.2.2.2.2.2
          obtain ⟨k134, lo135, hi136, as137, pa138, ne139, he_140, ho_141⟩ := (hRS119.1.2.2.2.2.2.1 la (by omega)).1
          refine lv_pop Bx.1 Bx.2.1 d_Rd_readAlternatives_51 rfl ?_
          refine lv_aload_n Bx.1 Bx.2.1 d_Rd_readAlternatives_52 rfl (lv_at hl 1 rfl) ?_
          refine lv_aload_n Bx.1 Bx.2.1 d_Rd_readAlternatives_53 rfl (lv_at hl 3 rfl) ?_
          refine lv_iload_n Bx.1 Bx.2.1 d_Rd_readAlternatives_54 rfl (lv_at hl 4 rfl) ?_
          refine f_xVr (na := 1) (As := [.int (0)]) (rest := [.ref (ad (20 + 2 * la))]) Bx hml E hP hD hS (by omega) h9_124 rfl (m_Rd_readSequence_0 l hlt hn hT hRS119) kw_435 kw_437 sel_Rd_readSequence kw_6 kw_438 (by decide +kernel) ⟨rfl, rfl⟩ ⟨Nat.le_of_ble_eq_true rfl, Nat.le_of_ble_eq_true rfl⟩ rfl hl.1 (Nat.le_of_ble_eq_true rfl) d_Rd_readAlternatives_55 ⟨Nat.le_of_ble_eq_true rfl, Nat.le_of_ble_eq_true rfl⟩ (fun X ce q9 memx H locs hx9 hP hS g1 g2 g3 => f_out hlocks hno hP hS g1 g2 g3 ⟨Nat.le_of_ble_eq_true rfl, Nat.le_of_ble_eq_true rfl⟩ hx9) (fun r142 mem143 H locs hq hP hS => ?_)
          have hD : va_D (Az sz) (fw n ad mem143) := fw_D hD
          obtain ⟨kx144, rc145, ec146, hr9148, hb149, hb150, hb151, hRS147⟩ := hq
          subst hr9148
          have hbd152 := hRS147.1.1
          obtain ⟨at153, ft154, h9_155⟩ := hRS147.2.1
          have h1_156 : mem143 1 = .inr (0, [.ref (ad 2), .int (nI Z)]) := (hRS147.2.2 1 (by omega)).trans hT.1
          have h2_157 : mem143 2 = .inl (cy 0, 240, .inl f) := (hRS147.2.2 2 (by omega)).trans hT.2.2
          have h5_158 := hRS147.1.2.1
          have hbd164 := hRS147.1.1
          obtain ⟨S159, g160, hS_161, h220_162, h221_163⟩ := hRS147.1.2.2.2.2.2.2
          obtain ⟨k165, lo166, hi167, as168, pa169, ne170, he_171, ho_172⟩ := (hRS147.1.2.2.2.2.2.1 la (by omega)).1
          obtain ⟨k173, lo174, hi175, as176, pa177, ne178, he_179, ho_180⟩ := (hRS147.1.2.2.2.2.2.1 kx144 (by omega)).1
          refine f_putN Bx hP hD hS (by omega) he_171 rfl inEl tyEl okEl nmEl 5 (by decide) kw_91 rfl rfl rfl rfl (Nat.le_of_ble_eq_true rfl) d_Rd_readAlternatives_58 (fun H locs hP hS => ?_)
          obtain ⟨mem181, e_mem181⟩ : ∃ z, z = va_up mem143 ((20 + 2 * la)) (.inr (2, [.int (k165), .int (lo166), .int (hi167), as168, pa169, .ref (ad (20 + 2 * kx144)), .ref (ad (21 + 2 * la))])) := ⟨_, rfl⟩
          have hP : va_P D vcl (fw n ad mem181) H := by rw [e_mem181]; exact hP
          have hD : va_D (Az sz) (fw n ad mem181) := fw_D hD
          have h_mem181 : mem181 ((20 + 2 * la)) = .inr (2, [.int (k165), .int (lo166), .int (hi167), as168, pa169, .ref (ad (20 + 2 * kx144)), .ref (ad (21 + 2 * la))]) := by rw [e_mem181, va_up_self]
          have hh182 := (va_up_ne mem143 (.inr (2, [.int (k165), .int (lo166), .int (hi167), as168, pa169, .ref (ad (20 + 2 * kx144)), .ref (ad (21 + 2 * la))])) (show (222 : Nat) ≠ (20 + 2 * la) by first | decide | assumption | omega)).trans h9_155
          rw [← e_mem181] at hh182
          have hh183 := (va_up_ne mem143 (.inr (2, [.int (k165), .int (lo166), .int (hi167), as168, pa169, .ref (ad (20 + 2 * kx144)), .ref (ad (21 + 2 * la))])) (show (1 : Nat) ≠ (20 + 2 * la) by first | decide | assumption | omega)).trans h1_156
          rw [← e_mem181] at hh183
          have hh184 := (va_up_ne mem143 (.inr (2, [.int (k165), .int (lo166), .int (hi167), as168, pa169, .ref (ad (20 + 2 * kx144)), .ref (ad (21 + 2 * la))])) (show (5 : Nat) ≠ (20 + 2 * la) by first | decide | assumption | omega)).trans h5_158
          rw [← e_mem181] at hh184
          have hh185 := (va_up_ne mem143 (.inr (2, [.int (k165), .int (lo166), .int (hi167), as168, pa169, .ref (ad (20 + 2 * kx144)), .ref (ad (21 + 2 * la))])) (show (220 : Nat) ≠ (20 + 2 * la) by first | decide | assumption | omega)).trans h220_162
          rw [← e_mem181] at hh185
          have hh186 := (va_up_ne mem143 (.inr (2, [.int (k165), .int (lo166), .int (hi167), as168, pa169, .ref (ad (20 + 2 * kx144)), .ref (ad (21 + 2 * la))])) (show ((20 + 2 * kx144) : Nat) ≠ (20 + 2 * la) by first | decide | assumption | omega)).trans he_179
          rw [← e_mem181] at hh186
          have hRS187 : RS cy ad lim rc145 ec146 m0 mem181 := by rw [e_mem181]; exact hRS147.mk (by omega) (hRS147.1.upEl (by omega) (fun q9 => ⟨(ho_172 q9).1, (ho_172 q9).2.1, Or.inr ⟨kx144, by omega, by omega, rfl⟩⟩))
          refine lv_aload_n Bx.1 Bx.2.1 d_Rd_readAlternatives_61 rfl (lv_at hl 1 rfl) ?_
          refine f_getN Bx hP (by omega) h_mem181 rfl inEl 5 (by decide) kw_91 rfl rfl d_Rd_readAlternatives_62 ?_
          refine lv_astore_n (lv' := [(3, .ref (ad (20 + 2 * kx144))), (4, .int (k9)), (2, .ref (ad (20 + 2 * kx15))), (0, .ref (ad 222)), (1, .int (0))]) Bx.1 Bx.2.1 d_Rd_readAlternatives_65 rfl hl (by decide) rfl (fun ls hl => ?_)
          refine lv_iinc (lv' := [(4, .int ((k9 + (1)))), (3, .ref (ad (20 + 2 * kx144))), (2, .ref (ad (20 + 2 * kx15))), (0, .ref (ad 222)), (1, .int (0))]) Bx.1 Bx.2.1 d_Rd_readAlternatives_66 hl (k := 1) rfl rfl (by decide) rfl (fun ls hl => ?_)
          refine lv_goto Bx.1 Bx.2.1 d_Rd_readAlternatives_69 rfl ?_
          exact ih _ _ _ _ _ _ _ _ (by have := inc_meas hk; omega) hRS187 ⟨by omega, by omega, by omega⟩ hP hD hS (lv_sub hl [0, 1, 2, 3, 4] rfl)
  exact loop90 _ _ _ _ _ _ _ _ _ (Nat.lt_succ_self _) hRS89 ⟨by omega, by omega, by omega⟩ hP hD hS (lv_sub hl [0, 1, 2, 3, 4] rfl)
