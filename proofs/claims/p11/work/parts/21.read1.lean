theorem d_Rd_isNameCode_0 : decode c_Rd_isNameCode 0 = .ok (.iload_n 0, 1) := by decide +kernel
theorem d_Rd_isNameCode_1 : decode c_Rd_isNameCode 1 = .ok (.invokestatic 175, 3) := by decide +kernel
theorem d_Rd_isNameCode_4 : decode c_Rd_isNameCode 4 = .ok (.ifCond .ne 16, 3) := by decide +kernel
theorem d_Rd_isNameCode_7 : decode c_Rd_isNameCode 7 = .ok (.iload_n 0, 1) := by decide +kernel
theorem d_Rd_isNameCode_8 : decode c_Rd_isNameCode 8 = .ok (.invokestatic 119, 3) := by decide +kernel
theorem d_Rd_isNameCode_11 : decode c_Rd_isNameCode 11 = .ok (.ifCond .ne 9, 3) := by decide +kernel
theorem d_Rd_isNameCode_14 : decode c_Rd_isNameCode 14 = .ok (.iload_n 0, 1) := by decide +kernel
theorem d_Rd_isNameCode_15 : decode c_Rd_isNameCode 15 = .ok (.bipush 45, 2) := by decide +kernel
theorem d_Rd_isNameCode_17 : decode c_Rd_isNameCode 17 = .ok (.if_icmp .ne 7, 3) := by decide +kernel
theorem d_Rd_isNameCode_20 : decode c_Rd_isNameCode 20 = .ok (.iconst 1, 1) := by decide +kernel
theorem d_Rd_isNameCode_21 : decode c_Rd_isNameCode 21 = .ok (.goto 4, 3) := by decide +kernel
theorem d_Rd_isNameCode_24 : decode c_Rd_isNameCode 24 = .ok (.iconst 0, 1) := by decide +kernel
theorem d_Rd_isNameCode_25 : decode c_Rd_isNameCode 25 = .ok (.ireturn, 1) := by decide +kernel
theorem d_Rd_beginsRepeat_0 : decode c_Rd_beginsRepeat 0 = .ok (.iload_n 0, 1) := by decide +kernel
theorem d_Rd_beginsRepeat_1 : decode c_Rd_beginsRepeat 1 = .ok (.invokestatic 119, 3) := by decide +kernel
theorem d_Rd_beginsRepeat_4 : decode c_Rd_beginsRepeat 4 = .ok (.ifCond .ne 9, 3) := by decide +kernel
theorem d_Rd_beginsRepeat_7 : decode c_Rd_beginsRepeat 7 = .ok (.iload_n 0, 1) := by decide +kernel
theorem d_Rd_beginsRepeat_8 : decode c_Rd_beginsRepeat 8 = .ok (.bipush 42, 2) := by decide +kernel
theorem d_Rd_beginsRepeat_10 : decode c_Rd_beginsRepeat 10 = .ok (.if_icmp .ne 7, 3) := by decide +kernel
theorem d_Rd_beginsRepeat_13 : decode c_Rd_beginsRepeat 13 = .ok (.iconst 1, 1) := by decide +kernel
theorem d_Rd_beginsRepeat_14 : decode c_Rd_beginsRepeat 14 = .ok (.goto 4, 3) := by decide +kernel
theorem d_Rd_beginsRepeat_17 : decode c_Rd_beginsRepeat 17 = .ok (.iconst 0, 1) := by decide +kernel
theorem d_Rd_beginsRepeat_18 : decode c_Rd_beginsRepeat 18 = .ok (.ireturn, 1) := by decide +kernel
theorem d_Rd_beginsRepetition_0 : decode c_Rd_beginsRepetition 0 = .ok (.iload_n 0, 1) := by decide +kernel
theorem d_Rd_beginsRepetition_1 : decode c_Rd_beginsRepetition 1 = .ok (.invokestatic 101, 3) := by decide +kernel
theorem d_Rd_beginsRepetition_4 : decode c_Rd_beginsRepetition 4 = .ok (.ifCond .ne 34, 3) := by decide +kernel
theorem d_Rd_beginsRepetition_7 : decode c_Rd_beginsRepetition 7 = .ok (.iload_n 0, 1) := by decide +kernel
theorem d_Rd_beginsRepetition_8 : decode c_Rd_beginsRepetition 8 = .ok (.invokestatic 175, 3) := by decide +kernel
theorem d_Rd_beginsRepetition_11 : decode c_Rd_beginsRepetition 11 = .ok (.ifCond .ne 27, 3) := by decide +kernel
theorem d_Rd_beginsRepetition_14 : decode c_Rd_beginsRepetition 14 = .ok (.iload_n 0, 1) := by decide +kernel
theorem d_Rd_beginsRepetition_15 : decode c_Rd_beginsRepetition 15 = .ok (.bipush 40, 2) := by decide +kernel
theorem d_Rd_beginsRepetition_17 : decode c_Rd_beginsRepetition 17 = .ok (.if_icmp .eq 21, 3) := by decide +kernel
theorem d_Rd_beginsRepetition_20 : decode c_Rd_beginsRepetition 20 = .ok (.iload_n 0, 1) := by decide +kernel
theorem d_Rd_beginsRepetition_21 : decode c_Rd_beginsRepetition 21 = .ok (.bipush 91, 2) := by decide +kernel
theorem d_Rd_beginsRepetition_23 : decode c_Rd_beginsRepetition 23 = .ok (.if_icmp .eq 15, 3) := by decide +kernel
theorem d_Rd_beginsRepetition_26 : decode c_Rd_beginsRepetition 26 = .ok (.iload_n 0, 1) := by decide +kernel
theorem d_Rd_beginsRepetition_27 : decode c_Rd_beginsRepetition 27 = .ok (.bipush 34, 2) := by decide +kernel
theorem d_Rd_beginsRepetition_29 : decode c_Rd_beginsRepetition 29 = .ok (.if_icmp .eq 9, 3) := by decide +kernel
theorem d_Rd_beginsRepetition_32 : decode c_Rd_beginsRepetition 32 = .ok (.iload_n 0, 1) := by decide +kernel
theorem d_Rd_beginsRepetition_33 : decode c_Rd_beginsRepetition 33 = .ok (.bipush 37, 2) := by decide +kernel
theorem d_Rd_beginsRepetition_35 : decode c_Rd_beginsRepetition 35 = .ok (.if_icmp .ne 7, 3) := by decide +kernel
theorem d_Rd_beginsRepetition_38 : decode c_Rd_beginsRepetition 38 = .ok (.iconst 1, 1) := by decide +kernel
theorem d_Rd_beginsRepetition_39 : decode c_Rd_beginsRepetition 39 = .ok (.goto 4, 3) := by decide +kernel
theorem d_Rd_beginsRepetition_42 : decode c_Rd_beginsRepetition 42 = .ok (.iconst 0, 1) := by decide +kernel
theorem d_Rd_beginsRepetition_43 : decode c_Rd_beginsRepetition 43 = .ok (.ireturn, 1) := by decide +kernel
theorem d_Rd_isStringCode_0 : decode c_Rd_isStringCode 0 = .ok (.iload_n 0, 1) := by decide +kernel
theorem d_Rd_isStringCode_1 : decode c_Rd_isStringCode 1 = .ok (.bipush 32, 2) := by decide +kernel
theorem d_Rd_isStringCode_3 : decode c_Rd_isStringCode 3 = .ok (.if_icmp .lt 19, 3) := by decide +kernel
theorem d_Rd_isStringCode_6 : decode c_Rd_isStringCode 6 = .ok (.iload_n 0, 1) := by decide +kernel
theorem d_Rd_isStringCode_7 : decode c_Rd_isStringCode 7 = .ok (.bipush 126, 2) := by decide +kernel
theorem d_Rd_isStringCode_9 : decode c_Rd_isStringCode 9 = .ok (.if_icmp .gt 13, 3) := by decide +kernel
theorem d_Rd_isStringCode_12 : decode c_Rd_isStringCode 12 = .ok (.iload_n 0, 1) := by decide +kernel
theorem d_Rd_isStringCode_13 : decode c_Rd_isStringCode 13 = .ok (.bipush 34, 2) := by decide +kernel
theorem d_Rd_isStringCode_15 : decode c_Rd_isStringCode 15 = .ok (.if_icmp .eq 7, 3) := by decide +kernel
theorem d_Rd_isStringCode_18 : decode c_Rd_isStringCode 18 = .ok (.iconst 1, 1) := by decide +kernel
theorem d_Rd_isStringCode_19 : decode c_Rd_isStringCode 19 = .ok (.goto 4, 3) := by decide +kernel
theorem d_Rd_isStringCode_22 : decode c_Rd_isStringCode 22 = .ok (.iconst 0, 1) := by decide +kernel
theorem d_Rd_isStringCode_23 : decode c_Rd_isStringCode 23 = .ok (.ireturn, 1) := by decide +kernel
theorem d_Rd_digitOf_0 : decode c_Rd_digitOf 0 = .ok (.iload_n 0, 1) := by decide +kernel
theorem d_Rd_digitOf_1 : decode c_Rd_digitOf 1 = .ok (.bipush 48, 2) := by decide +kernel
theorem d_Rd_digitOf_3 : decode c_Rd_digitOf 3 = .ok (.if_icmp .lt 14, 3) := by decide +kernel
theorem d_Rd_digitOf_6 : decode c_Rd_digitOf 6 = .ok (.iload_n 0, 1) := by decide +kernel
theorem d_Rd_digitOf_7 : decode c_Rd_digitOf 7 = .ok (.bipush 57, 2) := by decide +kernel
theorem d_Rd_digitOf_9 : decode c_Rd_digitOf 9 = .ok (.if_icmp .gt 8, 3) := by decide +kernel
theorem d_Rd_digitOf_12 : decode c_Rd_digitOf 12 = .ok (.iload_n 0, 1) := by decide +kernel
theorem d_Rd_digitOf_13 : decode c_Rd_digitOf 13 = .ok (.bipush 48, 2) := by decide +kernel
theorem d_Rd_digitOf_15 : decode c_Rd_digitOf 15 = .ok (.isub, 1) := by decide +kernel
theorem d_Rd_digitOf_16 : decode c_Rd_digitOf 16 = .ok (.ireturn, 1) := by decide +kernel
theorem d_Rd_digitOf_17 : decode c_Rd_digitOf 17 = .ok (.iload_n 1, 1) := by decide +kernel
theorem d_Rd_digitOf_18 : decode c_Rd_digitOf 18 = .ok (.bipush 16, 2) := by decide +kernel
theorem d_Rd_digitOf_20 : decode c_Rd_digitOf 20 = .ok (.if_icmp .ne 23, 3) := by decide +kernel
theorem d_Rd_digitOf_23 : decode c_Rd_digitOf 23 = .ok (.iload_n 0, 1) := by decide +kernel
theorem d_Rd_digitOf_24 : decode c_Rd_digitOf 24 = .ok (.bipush 97, 2) := by decide +kernel
theorem d_Rd_digitOf_26 : decode c_Rd_digitOf 26 = .ok (.if_icmp .lt 17, 3) := by decide +kernel
theorem d_Rd_digitOf_29 : decode c_Rd_digitOf 29 = .ok (.iload_n 0, 1) := by decide +kernel
theorem d_Rd_digitOf_30 : decode c_Rd_digitOf 30 = .ok (.bipush 102, 2) := by decide +kernel
theorem d_Rd_digitOf_32 : decode c_Rd_digitOf 32 = .ok (.if_icmp .gt 11, 3) := by decide +kernel
theorem d_Rd_digitOf_35 : decode c_Rd_digitOf 35 = .ok (.iload_n 0, 1) := by decide +kernel
theorem d_Rd_digitOf_36 : decode c_Rd_digitOf 36 = .ok (.bipush 97, 2) := by decide +kernel
theorem d_Rd_digitOf_38 : decode c_Rd_digitOf 38 = .ok (.isub, 1) := by decide +kernel
theorem d_Rd_digitOf_39 : decode c_Rd_digitOf 39 = .ok (.bipush 10, 2) := by decide +kernel
theorem d_Rd_digitOf_41 : decode c_Rd_digitOf 41 = .ok (.iadd, 1) := by decide +kernel
theorem d_Rd_digitOf_42 : decode c_Rd_digitOf 42 = .ok (.ireturn, 1) := by decide +kernel
theorem d_Rd_digitOf_43 : decode c_Rd_digitOf 43 = .ok (.iload_n 1, 1) := by decide +kernel
theorem d_Rd_digitOf_44 : decode c_Rd_digitOf 44 = .ok (.bipush 16, 2) := by decide +kernel
theorem d_Rd_digitOf_46 : decode c_Rd_digitOf 46 = .ok (.if_icmp .ne 25, 3) := by decide +kernel
theorem d_Rd_digitOf_49 : decode c_Rd_digitOf 49 = .ok (.iload_n 0, 1) := by decide +kernel
theorem d_Rd_digitOf_50 : decode c_Rd_digitOf 50 = .ok (.bipush 65, 2) := by decide +kernel
theorem d_Rd_digitOf_52 : decode c_Rd_digitOf 52 = .ok (.if_icmp .lt 19, 3) := by decide +kernel
theorem d_Rd_digitOf_55 : decode c_Rd_digitOf 55 = .ok (.iload_n 0, 1) := by decide +kernel
theorem d_Rd_digitOf_56 : decode c_Rd_digitOf 56 = .ok (.bipush 70, 2) := by decide +kernel
theorem d_Rd_digitOf_58 : decode c_Rd_digitOf 58 = .ok (.if_icmp .gt 13, 3) := by decide +kernel
theorem d_Rd_digitOf_61 : decode c_Rd_digitOf 61 = .ok (.iload_n 0, 1) := by decide +kernel
theorem d_Rd_digitOf_62 : decode c_Rd_digitOf 62 = .ok (.bipush 65, 2) := by decide +kernel
theorem d_Rd_digitOf_64 : decode c_Rd_digitOf 64 = .ok (.isub, 1) := by decide +kernel
theorem d_Rd_digitOf_65 : decode c_Rd_digitOf 65 = .ok (.bipush 10, 2) := by decide +kernel
theorem d_Rd_digitOf_67 : decode c_Rd_digitOf 67 = .ok (.iadd, 1) := by decide +kernel
theorem d_Rd_digitOf_68 : decode c_Rd_digitOf 68 = .ok (.goto 4, 3) := by decide +kernel
theorem d_Rd_digitOf_71 : decode c_Rd_digitOf 71 = .ok (.iconst (-1), 1) := by decide +kernel
theorem d_Rd_digitOf_72 : decode c_Rd_digitOf 72 = .ok (.ireturn, 1) := by decide +kernel
theorem d_Rd_peek_0 : decode c_Rd_peek 0 = .ok (.aload_n 0, 1) := by decide +kernel
theorem d_Rd_peek_1 : decode c_Rd_peek 1 = .ok (.getfield 9, 3) := by decide +kernel
theorem d_Rd_peek_4 : decode c_Rd_peek 4 = .ok (.aload_n 0, 1) := by decide +kernel
theorem d_Rd_peek_5 : decode c_Rd_peek 5 = .ok (.getfield 19, 3) := by decide +kernel
theorem d_Rd_peek_8 : decode c_Rd_peek 8 = .ok (.invokevirtual 132, 3) := by decide +kernel
theorem d_Rd_peek_11 : decode c_Rd_peek 11 = .ok (.ireturn, 1) := by decide +kernel
theorem d_Rd_needReadable_0 : decode c_Rd_needReadable 0 = .ok (.iload_n 1, 1) := by decide +kernel
theorem d_Rd_needReadable_1 : decode c_Rd_needReadable 1 = .ok (.ifCond .ne 16, 3) := by decide +kernel
theorem d_Rd_needReadable_4 : decode c_Rd_needReadable 4 = .ok (.aload_n 0, 1) := by decide +kernel
theorem d_Rd_needReadable_5 : decode c_Rd_needReadable 5 = .ok (.iload_n 2, 1) := by decide +kernel
theorem d_Rd_needReadable_6 : decode c_Rd_needReadable 6 = .ok (.putfield 23, 3) := by decide +kernel
theorem d_Rd_needReadable_9 : decode c_Rd_needReadable 9 = .ok (.new 201, 3) := by decide +kernel
theorem d_Rd_needReadable_12 : decode c_Rd_needReadable 12 = .ok (.dup, 1) := by decide +kernel
theorem d_Rd_needReadable_13 : decode c_Rd_needReadable 13 = .ok (.invokespecial 203, 3) := by decide +kernel
theorem d_Rd_needReadable_16 : decode c_Rd_needReadable 16 = .ok (.athrow, 1) := by decide +kernel
theorem d_Rd_needReadable_17 : decode c_Rd_needReadable 17 = .ok (.return_, 1) := by decide +kernel
theorem d_Rd_needRoom_0 : decode c_Rd_needRoom 0 = .ok (.iload_n 1, 1) := by decide +kernel
theorem d_Rd_needRoom_1 : decode c_Rd_needRoom 1 = .ok (.ifCond .ne 16, 3) := by decide +kernel
theorem d_Rd_needRoom_4 : decode c_Rd_needRoom 4 = .ok (.aload_n 0, 1) := by decide +kernel
theorem d_Rd_needRoom_5 : decode c_Rd_needRoom 5 = .ok (.iload_n 2, 1) := by decide +kernel
theorem d_Rd_needRoom_6 : decode c_Rd_needRoom 6 = .ok (.putfield 23, 3) := by decide +kernel
theorem d_Rd_needRoom_9 : decode c_Rd_needRoom 9 = .ok (.new 204, 3) := by decide +kernel
theorem d_Rd_needRoom_12 : decode c_Rd_needRoom 12 = .ok (.dup, 1) := by decide +kernel
theorem d_Rd_needRoom_13 : decode c_Rd_needRoom 13 = .ok (.invokespecial 206, 3) := by decide +kernel
theorem d_Rd_needRoom_16 : decode c_Rd_needRoom 16 = .ok (.athrow, 1) := by decide +kernel
theorem d_Rd_needRoom_17 : decode c_Rd_needRoom 17 = .ok (.return_, 1) := by decide +kernel
theorem d_Rd_readDigit_0 : decode c_Rd_readDigit 0 = .ok (.aload_n 0, 1) := by decide +kernel
theorem d_Rd_readDigit_1 : decode c_Rd_readDigit 1 = .ok (.invokevirtual 54, 3) := by decide +kernel
theorem d_Rd_readDigit_4 : decode c_Rd_readDigit 4 = .ok (.invokestatic 119, 3) := by decide +kernel
theorem d_Rd_readDigit_7 : decode c_Rd_readDigit 7 = .ok (.ifCond .ne 5, 3) := by decide +kernel
theorem d_Rd_readDigit_10 : decode c_Rd_readDigit 10 = .ok (.iconst (-1), 1) := by decide +kernel
theorem d_Rd_readDigit_11 : decode c_Rd_readDigit 11 = .ok (.ireturn, 1) := by decide +kernel
theorem d_Rd_readDigit_12 : decode c_Rd_readDigit 12 = .ok (.aload_n 0, 1) := by decide +kernel
theorem d_Rd_readDigit_13 : decode c_Rd_readDigit 13 = .ok (.invokevirtual 54, 3) := by decide +kernel
theorem d_Rd_readDigit_16 : decode c_Rd_readDigit 16 = .ok (.bipush 48, 2) := by decide +kernel
theorem d_Rd_readDigit_18 : decode c_Rd_readDigit 18 = .ok (.isub, 1) := by decide +kernel
theorem d_Rd_readDigit_19 : decode c_Rd_readDigit 19 = .ok (.istore_n 1, 1) := by decide +kernel
theorem d_Rd_readDigit_20 : decode c_Rd_readDigit 20 = .ok (.aload_n 0, 1) := by decide +kernel
theorem d_Rd_readDigit_21 : decode c_Rd_readDigit 21 = .ok (.dup, 1) := by decide +kernel
theorem d_Rd_readDigit_22 : decode c_Rd_readDigit 22 = .ok (.getfield 19, 3) := by decide +kernel
theorem d_Rd_readDigit_25 : decode c_Rd_readDigit 25 = .ok (.iconst 1, 1) := by decide +kernel
theorem d_Rd_readDigit_26 : decode c_Rd_readDigit 26 = .ok (.iadd, 1) := by decide +kernel
theorem d_Rd_readDigit_27 : decode c_Rd_readDigit 27 = .ok (.putfield 19, 3) := by decide +kernel
theorem d_Rd_readDigit_30 : decode c_Rd_readDigit 30 = .ok (.iload_n 1, 1) := by decide +kernel
theorem d_Rd_readDigit_31 : decode c_Rd_readDigit 31 = .ok (.ireturn, 1) := by decide +kernel
theorem d_Rd_readRepeat_0 : decode c_Rd_readRepeat 0 = .ok (.aload_n 0, 1) := by decide +kernel
theorem d_Rd_readRepeat_1 : decode c_Rd_readRepeat 1 = .ok (.getfield 19, 3) := by decide +kernel
theorem d_Rd_readRepeat_4 : decode c_Rd_readRepeat 4 = .ok (.istore_n 2, 1) := by decide +kernel
theorem d_Rd_readRepeat_5 : decode c_Rd_readRepeat 5 = .ok (.aload_n 0, 1) := by decide +kernel
theorem d_Rd_readRepeat_6 : decode c_Rd_readRepeat 6 = .ok (.invokevirtual 110, 3) := by decide +kernel
theorem d_Rd_readRepeat_9 : decode c_Rd_readRepeat 9 = .ok (.istore_n 3, 1) := by decide +kernel
theorem d_Rd_readRepeat_10 : decode c_Rd_readRepeat 10 = .ok (.aload_n 0, 1) := by decide +kernel
theorem d_Rd_readRepeat_11 : decode c_Rd_readRepeat 11 = .ok (.invokevirtual 54, 3) := by decide +kernel
theorem d_Rd_readRepeat_14 : decode c_Rd_readRepeat 14 = .ok (.bipush 42, 2) := by decide +kernel
theorem d_Rd_readRepeat_16 : decode c_Rd_readRepeat 16 = .ok (.if_icmp .ne 38, 3) := by decide +kernel
theorem d_Rd_readRepeat_19 : decode c_Rd_readRepeat 19 = .ok (.aload_n 0, 1) := by decide +kernel
theorem d_Rd_readRepeat_20 : decode c_Rd_readRepeat 20 = .ok (.dup, 1) := by decide +kernel
theorem d_Rd_readRepeat_21 : decode c_Rd_readRepeat 21 = .ok (.getfield 19, 3) := by decide +kernel
theorem d_Rd_readRepeat_24 : decode c_Rd_readRepeat 24 = .ok (.iconst 1, 1) := by decide +kernel
theorem d_Rd_readRepeat_25 : decode c_Rd_readRepeat 25 = .ok (.iadd, 1) := by decide +kernel
theorem d_Rd_readRepeat_26 : decode c_Rd_readRepeat 26 = .ok (.putfield 19, 3) := by decide +kernel
theorem d_Rd_readRepeat_29 : decode c_Rd_readRepeat 29 = .ok (.aload_n 1, 1) := by decide +kernel
theorem d_Rd_readRepeat_30 : decode c_Rd_readRepeat 30 = .ok (.iload_n 3, 1) := by decide +kernel
theorem d_Rd_readRepeat_31 : decode c_Rd_readRepeat 31 = .ok (.iconst (-1), 1) := by decide +kernel
theorem d_Rd_readRepeat_32 : decode c_Rd_readRepeat 32 = .ok (.if_icmp .ne 7, 3) := by decide +kernel
theorem d_Rd_readRepeat_35 : decode c_Rd_readRepeat 35 = .ok (.iconst 0, 1) := by decide +kernel
theorem d_Rd_readRepeat_36 : decode c_Rd_readRepeat 36 = .ok (.goto 4, 3) := by decide +kernel
theorem d_Rd_readRepeat_39 : decode c_Rd_readRepeat 39 = .ok (.iload_n 3, 1) := by decide +kernel
theorem d_Rd_readRepeat_40 : decode c_Rd_readRepeat 40 = .ok (.putfield 113, 3) := by decide +kernel
theorem d_Rd_readRepeat_43 : decode c_Rd_readRepeat 43 = .ok (.aload_n 1, 1) := by decide +kernel
theorem d_Rd_readRepeat_44 : decode c_Rd_readRepeat 44 = .ok (.aload_n 0, 1) := by decide +kernel
theorem d_Rd_readRepeat_45 : decode c_Rd_readRepeat 45 = .ok (.invokevirtual 110, 3) := by decide +kernel
theorem d_Rd_readRepeat_48 : decode c_Rd_readRepeat 48 = .ok (.putfield 116, 3) := by decide +kernel
theorem d_Rd_readRepeat_51 : decode c_Rd_readRepeat 51 = .ok (.goto 13, 3) := by decide +kernel
theorem d_Rd_readRepeat_54 : decode c_Rd_readRepeat 54 = .ok (.aload_n 1, 1) := by decide +kernel
theorem d_Rd_readRepeat_55 : decode c_Rd_readRepeat 55 = .ok (.iload_n 3, 1) := by decide +kernel
theorem d_Rd_readRepeat_56 : decode c_Rd_readRepeat 56 = .ok (.putfield 113, 3) := by decide +kernel
theorem d_Rd_readRepeat_59 : decode c_Rd_readRepeat 59 = .ok (.aload_n 1, 1) := by decide +kernel
theorem d_Rd_readRepeat_60 : decode c_Rd_readRepeat 60 = .ok (.iload_n 3, 1) := by decide +kernel
theorem d_Rd_readRepeat_61 : decode c_Rd_readRepeat 61 = .ok (.putfield 116, 3) := by decide +kernel
theorem d_Rd_readRepeat_64 : decode c_Rd_readRepeat 64 = .ok (.aload_n 0, 1) := by decide +kernel
theorem d_Rd_readRepeat_65 : decode c_Rd_readRepeat 65 = .ok (.aload_n 1, 1) := by decide +kernel
theorem d_Rd_readRepeat_66 : decode c_Rd_readRepeat 66 = .ok (.getfield 116, 3) := by decide +kernel
theorem d_Rd_readRepeat_69 : decode c_Rd_readRepeat 69 = .ok (.iconst (-1), 1) := by decide +kernel
theorem d_Rd_readRepeat_70 : decode c_Rd_readRepeat 70 = .ok (.if_icmp .eq 14, 3) := by decide +kernel
theorem d_Rd_readRepeat_73 : decode c_Rd_readRepeat 73 = .ok (.aload_n 1, 1) := by decide +kernel
theorem d_Rd_readRepeat_74 : decode c_Rd_readRepeat 74 = .ok (.getfield 113, 3) := by decide +kernel
theorem d_Rd_readRepeat_77 : decode c_Rd_readRepeat 77 = .ok (.aload_n 1, 1) := by decide +kernel
theorem d_Rd_readRepeat_78 : decode c_Rd_readRepeat 78 = .ok (.getfield 116, 3) := by decide +kernel
theorem d_Rd_readRepeat_81 : decode c_Rd_readRepeat 81 = .ok (.if_icmp .gt 7, 3) := by decide +kernel
theorem d_Rd_readRepeat_84 : decode c_Rd_readRepeat 84 = .ok (.iconst 1, 1) := by decide +kernel
theorem d_Rd_readRepeat_85 : decode c_Rd_readRepeat 85 = .ok (.goto 4, 3) := by decide +kernel
theorem d_Rd_readRepeat_88 : decode c_Rd_readRepeat 88 = .ok (.iconst 0, 1) := by decide +kernel
theorem d_Rd_readRepeat_89 : decode c_Rd_readRepeat 89 = .ok (.iload_n 2, 1) := by decide +kernel
theorem d_Rd_readRepeat_90 : decode c_Rd_readRepeat 90 = .ok (.invokevirtual 58, 3) := by decide +kernel
theorem d_Rd_readRepeat_93 : decode c_Rd_readRepeat 93 = .ok (.return_, 1) := by decide +kernel
def TX (cy : Nat → ClassId) (ad : Nat → Nat) (Z : Nat) (f : Nat → Int32) (m0 : Nat → va_E) : Prop := m0 1 = .inr (0, [.ref (ad 2), .int (nI Z)]) ∧ Z ≤ 240 ∧ m0 2 = .inl (cy 0, 240, .inl f)
set_option maxHeartbeats 4000000 in
set_option maxRecDepth 100000 in
theorem m_Ab_isLetter (l : Launch) (x : Int32) : MS l y_Ab_isLetter c_Ab_isLetter 1 (some .boolean) ({ frames := 0, cells := 0, slots := 0, locals := 0 } : Room) [.int (x)] (fun r => True) := by
  refine Met.ofW (cc := c_Ab_isLetter) (maxL := 1) (ret := (some .boolean)) (by decide) rfl ?_
  intro p e s m args below meth c s₁ B hml hv
  obtain ⟨rfl, hN⟩ := hv
  have hx := B.exec
  have hb := B.bytes
  have hr := B.returns
  have hlocks := B.notSynchronized
  have Bx : p.tables.exec = Jvm.exec ∧ c.code = c_Ab_isLetter ∧ (∀ w ∈ TB, w.before [.int (x)].toArray s = true) ∧ s.vm.findClass "AbnfChart" = some m.cls ∧ True := ⟨hx, hb, tb_all (atoms_spec B.pre) hN, findClass_of_methodNamed B.named, trivial⟩
  have hl := lv_entry ([.int (x)]) (n := 1) (Nat.le_of_ble_eq_true rfl)
  rw [lg_entry_eq]
  generalize (lg_sl ([.int (x)]) ++ List.replicate (1 - (lg_sl ([.int (x)])).length) Slot.unset).toArray = ls at hl ⊢
  have hl : lv_has ls 1 [(0, .int (x))] := hl
  refine lv_iload_n Bx.1 Bx.2.1 d_Ab_isLetter_0 rfl (lv_at hl 0 rfl) ?_
  refine lv_bipush (v := 97) Bx.1 Bx.2.1 d_Ab_isLetter_1 (by decide) ?_
  refine lv_icmp_lt Bx.1 Bx.2.1 d_Ab_isLetter_3 rfl (fun h => ?_) (fun h => ?_)
  · refine lv_iload_n Bx.1 Bx.2.1 d_Ab_isLetter_12 rfl (lv_at hl 0 rfl) ?_
    refine lv_bipush (v := 65) Bx.1 Bx.2.1 d_Ab_isLetter_13 (by decide) ?_
    refine lv_icmp_lt Bx.1 Bx.2.1 d_Ab_isLetter_15 rfl (fun h => ?_) (fun h => ?_)
    · refine lv_iconst (v := 0) Bx.1 Bx.2.1 d_Ab_isLetter_28 (by decide) ?_
      exact W.zret (v := 0) hx hb hr rfl (fun t ht hW => ⟨0, rfl, trivial, ht⟩) (fun _ h => by cases h) d_Ab_isLetter_29
    · refine lv_iload_n Bx.1 Bx.2.1 d_Ab_isLetter_18 rfl (lv_at hl 0 rfl) ?_
      refine lv_bipush (v := 90) Bx.1 Bx.2.1 d_Ab_isLetter_19 (by decide) ?_
      refine lv_icmp_gt Bx.1 Bx.2.1 d_Ab_isLetter_21 rfl (fun h => ?_) (fun h => ?_)
      · refine lv_iconst (v := 0) Bx.1 Bx.2.1 d_Ab_isLetter_28 (by decide) ?_
        exact W.zret (v := 0) hx hb hr rfl (fun t ht hW => ⟨0, rfl, trivial, ht⟩) (fun _ h => by cases h) d_Ab_isLetter_29
      · refine lv_iconst (v := 1) Bx.1 Bx.2.1 d_Ab_isLetter_24 (by decide) ?_
        refine lv_goto Bx.1 Bx.2.1 d_Ab_isLetter_25 rfl ?_
        exact W.zret (v := 1) hx hb hr rfl (fun t ht hW => ⟨1, rfl, trivial, ht⟩) (fun _ h => by cases h) d_Ab_isLetter_29
  · refine lv_iload_n Bx.1 Bx.2.1 d_Ab_isLetter_6 rfl (lv_at hl 0 rfl) ?_
    refine lv_bipush (v := 122) Bx.1 Bx.2.1 d_Ab_isLetter_7 (by decide) ?_
    refine lv_icmp_le Bx.1 Bx.2.1 d_Ab_isLetter_9 rfl (fun h => ?_) (fun h => ?_)
    · refine lv_iconst (v := 1) Bx.1 Bx.2.1 d_Ab_isLetter_24 (by decide) ?_
      refine lv_goto Bx.1 Bx.2.1 d_Ab_isLetter_25 rfl ?_
      exact W.zret (v := 1) hx hb hr rfl (fun t ht hW => ⟨1, rfl, trivial, ht⟩) (fun _ h => by cases h) d_Ab_isLetter_29
    · refine lv_iload_n Bx.1 Bx.2.1 d_Ab_isLetter_12 rfl (lv_at hl 0 rfl) ?_
      refine lv_bipush (v := 65) Bx.1 Bx.2.1 d_Ab_isLetter_13 (by decide) ?_
      refine lv_icmp_lt Bx.1 Bx.2.1 d_Ab_isLetter_15 rfl (fun h => ?_) (fun h => ?_)
      · refine lv_iconst (v := 0) Bx.1 Bx.2.1 d_Ab_isLetter_28 (by decide) ?_
        exact W.zret (v := 0) hx hb hr rfl (fun t ht hW => ⟨0, rfl, trivial, ht⟩) (fun _ h => by cases h) d_Ab_isLetter_29
      · refine lv_iload_n Bx.1 Bx.2.1 d_Ab_isLetter_18 rfl (lv_at hl 0 rfl) ?_
        refine lv_bipush (v := 90) Bx.1 Bx.2.1 d_Ab_isLetter_19 (by decide) ?_
        refine lv_icmp_gt Bx.1 Bx.2.1 d_Ab_isLetter_21 rfl (fun h => ?_) (fun h => ?_)
        · refine lv_iconst (v := 0) Bx.1 Bx.2.1 d_Ab_isLetter_28 (by decide) ?_
          exact W.zret (v := 0) hx hb hr rfl (fun t ht hW => ⟨0, rfl, trivial, ht⟩) (fun _ h => by cases h) d_Ab_isLetter_29
        · refine lv_iconst (v := 1) Bx.1 Bx.2.1 d_Ab_isLetter_24 (by decide) ?_
          refine lv_goto Bx.1 Bx.2.1 d_Ab_isLetter_25 rfl ?_
          exact W.zret (v := 1) hx hb hr rfl (fun t ht hW => ⟨1, rfl, trivial, ht⟩) (fun _ h => by cases h) d_Ab_isLetter_29
set_option maxHeartbeats 4000000 in
set_option maxRecDepth 100000 in
theorem m_Ab_isDigit (l : Launch) (x : Int32) : MS l y_Ab_isDigit c_Ab_isDigit 1 (some .boolean) ({ frames := 0, cells := 0, slots := 0, locals := 0 } : Room) [.int (x)] (fun r => True) := by
  refine Met.ofW (cc := c_Ab_isDigit) (maxL := 1) (ret := (some .boolean)) (by decide) rfl ?_
  intro p e s m args below meth c s₁ B hml hv
  obtain ⟨rfl, hN⟩ := hv
  have hx := B.exec
  have hb := B.bytes
  have hr := B.returns
  have hlocks := B.notSynchronized
  have Bx : p.tables.exec = Jvm.exec ∧ c.code = c_Ab_isDigit ∧ (∀ w ∈ TB, w.before [.int (x)].toArray s = true) ∧ s.vm.findClass "AbnfChart" = some m.cls ∧ True := ⟨hx, hb, tb_all (atoms_spec B.pre) hN, findClass_of_methodNamed B.named, trivial⟩
  have hl := lv_entry ([.int (x)]) (n := 1) (Nat.le_of_ble_eq_true rfl)
  rw [lg_entry_eq]
  generalize (lg_sl ([.int (x)]) ++ List.replicate (1 - (lg_sl ([.int (x)])).length) Slot.unset).toArray = ls at hl ⊢
  have hl : lv_has ls 1 [(0, .int (x))] := hl
  refine lv_iload_n Bx.1 Bx.2.1 d_Ab_isDigit_0 rfl (lv_at hl 0 rfl) ?_
  refine lv_bipush (v := 48) Bx.1 Bx.2.1 d_Ab_isDigit_1 (by decide) ?_
  refine lv_icmp_lt Bx.1 Bx.2.1 d_Ab_isDigit_3 rfl (fun h => ?_) (fun h => ?_)
  · refine lv_iconst (v := 0) Bx.1 Bx.2.1 d_Ab_isDigit_16 (by decide) ?_
    exact W.zret (v := 0) hx hb hr rfl (fun t ht hW => ⟨0, rfl, trivial, ht⟩) (fun _ h => by cases h) d_Ab_isDigit_17
  · refine lv_iload_n Bx.1 Bx.2.1 d_Ab_isDigit_6 rfl (lv_at hl 0 rfl) ?_
    refine lv_bipush (v := 57) Bx.1 Bx.2.1 d_Ab_isDigit_7 (by decide) ?_
    refine lv_icmp_gt Bx.1 Bx.2.1 d_Ab_isDigit_9 rfl (fun h => ?_) (fun h => ?_)
    · refine lv_iconst (v := 0) Bx.1 Bx.2.1 d_Ab_isDigit_16 (by decide) ?_
      exact W.zret (v := 0) hx hb hr rfl (fun t ht hW => ⟨0, rfl, trivial, ht⟩) (fun _ h => by cases h) d_Ab_isDigit_17
    · refine lv_iconst (v := 1) Bx.1 Bx.2.1 d_Ab_isDigit_12 (by decide) ?_
      refine lv_goto Bx.1 Bx.2.1 d_Ab_isDigit_13 rfl ?_
      exact W.zret (v := 1) hx hb hr rfl (fun t ht hW => ⟨1, rfl, trivial, ht⟩) (fun _ h => by cases h) d_Ab_isDigit_17
set_option maxHeartbeats 4000000 in
set_option maxRecDepth 100000 in
theorem m_Ab_smallOf (l : Launch) (x : Int32) : MS l y_Ab_smallOf c_Ab_smallOf 1 (some .int) ({ frames := 0, cells := 0, slots := 0, locals := 0 } : Room) [.int (x)] (fun r => True) := by
  refine Met.ofW (cc := c_Ab_smallOf) (maxL := 1) (ret := (some .int)) (by decide) rfl ?_
  intro p e s m args below meth c s₁ B hml hv
  obtain ⟨rfl, hN⟩ := hv
  have hx := B.exec
  have hb := B.bytes
  have hr := B.returns
  have hlocks := B.notSynchronized
  have Bx : p.tables.exec = Jvm.exec ∧ c.code = c_Ab_smallOf ∧ (∀ w ∈ TB, w.before [.int (x)].toArray s = true) ∧ s.vm.findClass "AbnfChart" = some m.cls ∧ True := ⟨hx, hb, tb_all (atoms_spec B.pre) hN, findClass_of_methodNamed B.named, trivial⟩
  have hl := lv_entry ([.int (x)]) (n := 1) (Nat.le_of_ble_eq_true rfl)
  rw [lg_entry_eq]
  generalize (lg_sl ([.int (x)]) ++ List.replicate (1 - (lg_sl ([.int (x)])).length) Slot.unset).toArray = ls at hl ⊢
  have hl : lv_has ls 1 [(0, .int (x))] := hl
  refine lv_iload_n Bx.1 Bx.2.1 d_Ab_smallOf_0 rfl (lv_at hl 0 rfl) ?_
  refine lv_bipush (v := 65) Bx.1 Bx.2.1 d_Ab_smallOf_1 (by decide) ?_
  refine lv_icmp_lt Bx.1 Bx.2.1 d_Ab_smallOf_3 rfl (fun h => ?_) (fun h => ?_)
  · refine lv_iload_n Bx.1 Bx.2.1 d_Ab_smallOf_22 rfl (lv_at hl 0 rfl) ?_
    exact W.iret (v := x) hx hb hr (fun t ht hW => ⟨x, rfl, trivial, ht⟩) (fun _ h => by cases h) d_Ab_smallOf_23
  · refine lv_iload_n Bx.1 Bx.2.1 d_Ab_smallOf_6 rfl (lv_at hl 0 rfl) ?_
    refine lv_bipush (v := 90) Bx.1 Bx.2.1 d_Ab_smallOf_7 (by decide) ?_
    refine lv_icmp_gt Bx.1 Bx.2.1 d_Ab_smallOf_9 rfl (fun h => ?_) (fun h => ?_)
    · refine lv_iload_n Bx.1 Bx.2.1 d_Ab_smallOf_22 rfl (lv_at hl 0 rfl) ?_
      exact W.iret (v := x) hx hb hr (fun t ht hW => ⟨x, rfl, trivial, ht⟩) (fun _ h => by cases h) d_Ab_smallOf_23
    · refine lv_iload_n Bx.1 Bx.2.1 d_Ab_smallOf_12 rfl (lv_at hl 0 rfl) ?_
      refine lv_bipush (v := 65) Bx.1 Bx.2.1 d_Ab_smallOf_13 (by decide) ?_
      refine lv_isub Bx.1 Bx.2.1 d_Ab_smallOf_15 ?_
      refine lv_bipush (v := 97) Bx.1 Bx.2.1 d_Ab_smallOf_16 (by decide) ?_
      refine lv_iadd Bx.1 Bx.2.1 d_Ab_smallOf_18 ?_
      refine lv_goto Bx.1 Bx.2.1 d_Ab_smallOf_19 rfl ?_
      exact W.iret (v := x - 65 + 97) hx hb hr (fun t ht hW => ⟨x - 65 + 97, rfl, trivial, ht⟩) (fun _ h => by cases h) d_Ab_smallOf_23
set_option maxHeartbeats 4000000 in
set_option maxRecDepth 100000 in
theorem m_Rd_isNameCode (l : Launch) (x : Int32) : MS l y_Rd_isNameCode c_Rd_isNameCode 1 (some .boolean) ({ frames := 1, cells := 0, slots := 0, locals := 30 } : Room) [.int (x)] (fun r => True) := by
  refine Met.ofW (cc := c_Rd_isNameCode) (maxL := 1) (ret := (some .boolean)) (by decide) rfl ?_
  intro p e s m args below meth c s₁ B hml hv
  obtain ⟨rfl, hN⟩ := hv
  have hx := B.exec
  have hb := B.bytes
  have hr := B.returns
  have hlocks := B.notSynchronized
  have Bx : p.tables.exec = Jvm.exec ∧ c.code = c_Rd_isNameCode ∧ (∀ w ∈ TB, w.before [.int (x)].toArray s = true) ∧ s.vm.findClass "AbnfChart$Reader" = some m.cls ∧ True := ⟨hx, hb, tb_all (atoms_spec B.pre) hN, findClass_of_methodNamed B.named, trivial⟩
  have hl := lv_entry ([.int (x)]) (n := 1) (Nat.le_of_ble_eq_true rfl)
  rw [lg_entry_eq]
  generalize (lg_sl ([.int (x)]) ++ List.replicate (1 - (lg_sl ([.int (x)])).length) Slot.unset).toArray = ls at hl ⊢
  have hl : lv_has ls 1 [(0, .int (x))] := hl
  refine lv_iload_n Bx.1 Bx.2.1 d_Rd_isNameCode_0 rfl (lv_at hl 0 rfl) ?_
  refine f_callSNi (na := 1) (As := [.int (x)]) (rest := []) Bx hml hN (m_Ab_isLetter l (x)) kw_357 kw_358 kw_1 kw_359 (by decide +kernel) ⟨rfl, rfl⟩ ⟨Nat.le_of_ble_eq_true rfl, Nat.le_of_ble_eq_true rfl⟩ rfl hl.1 (Nat.le_of_ble_eq_true rfl) d_Rd_isNameCode_1 ⟨Nat.le_of_ble_eq_true rfl, Nat.le_of_ble_eq_true rfl⟩ (fun r2 hs1 => ?_)
  refine lv_if_ne Bx.1 Bx.2.1 d_Rd_isNameCode_4 rfl (fun h => ?_) (fun h => ?_)
  · refine lv_iconst (v := 1) Bx.1 Bx.2.1 d_Rd_isNameCode_20 (by decide) ?_
    refine lv_goto Bx.1 Bx.2.1 d_Rd_isNameCode_21 rfl ?_
    exact W.zret (v := 1) hx hb hr rfl (fun t ht hW => ⟨1, rfl, trivial, ht⟩) (fun _ h => by cases h) d_Rd_isNameCode_25
  · refine lv_iload_n Bx.1 Bx.2.1 d_Rd_isNameCode_7 rfl (lv_at hl 0 rfl) ?_
    refine f_callSNi (na := 1) (As := [.int (x)]) (rest := []) Bx hml hN (m_Ab_isDigit l (x)) kw_369 kw_370 kw_1 kw_371 (by decide +kernel) ⟨rfl, rfl⟩ ⟨Nat.le_of_ble_eq_true rfl, Nat.le_of_ble_eq_true rfl⟩ rfl hl.1 (Nat.le_of_ble_eq_true rfl) d_Rd_isNameCode_8 ⟨Nat.le_of_ble_eq_true rfl, Nat.le_of_ble_eq_true rfl⟩ (fun r4 hs3 => ?_)
    refine lv_if_ne Bx.1 Bx.2.1 d_Rd_isNameCode_11 rfl (fun h => ?_) (fun h => ?_)
    · refine lv_iconst (v := 1) Bx.1 Bx.2.1 d_Rd_isNameCode_20 (by decide) ?_
      refine lv_goto Bx.1 Bx.2.1 d_Rd_isNameCode_21 rfl ?_
      exact W.zret (v := 1) hx hb hr rfl (fun t ht hW => ⟨1, rfl, trivial, ht⟩) (fun _ h => by cases h) d_Rd_isNameCode_25
    · refine lv_iload_n Bx.1 Bx.2.1 d_Rd_isNameCode_14 rfl (lv_at hl 0 rfl) ?_
      refine lv_bipush (v := 45) Bx.1 Bx.2.1 d_Rd_isNameCode_15 (by decide) ?_
      refine lv_icmp_ne Bx.1 Bx.2.1 d_Rd_isNameCode_17 rfl (fun h => ?_) (fun h => ?_)
      · refine lv_iconst (v := 0) Bx.1 Bx.2.1 d_Rd_isNameCode_24 (by decide) ?_
        exact W.zret (v := 0) hx hb hr rfl (fun t ht hW => ⟨0, rfl, trivial, ht⟩) (fun _ h => by cases h) d_Rd_isNameCode_25
      · refine lv_iconst (v := 1) Bx.1 Bx.2.1 d_Rd_isNameCode_20 (by decide) ?_
        refine lv_goto Bx.1 Bx.2.1 d_Rd_isNameCode_21 rfl ?_
        exact W.zret (v := 1) hx hb hr rfl (fun t ht hW => ⟨1, rfl, trivial, ht⟩) (fun _ h => by cases h) d_Rd_isNameCode_25
set_option maxHeartbeats 4000000 in
set_option maxRecDepth 100000 in
theorem m_Rd_beginsRepeat (l : Launch) (x : Int32) : MS l y_Rd_beginsRepeat c_Rd_beginsRepeat 1 (some .boolean) ({ frames := 1, cells := 0, slots := 0, locals := 30 } : Room) [.int (x)] (fun r => True) := by
  refine Met.ofW (cc := c_Rd_beginsRepeat) (maxL := 1) (ret := (some .boolean)) (by decide) rfl ?_
  intro p e s m args below meth c s₁ B hml hv
  obtain ⟨rfl, hN⟩ := hv
  have hx := B.exec
  have hb := B.bytes
  have hr := B.returns
  have hlocks := B.notSynchronized
  have Bx : p.tables.exec = Jvm.exec ∧ c.code = c_Rd_beginsRepeat ∧ (∀ w ∈ TB, w.before [.int (x)].toArray s = true) ∧ s.vm.findClass "AbnfChart$Reader" = some m.cls ∧ True := ⟨hx, hb, tb_all (atoms_spec B.pre) hN, findClass_of_methodNamed B.named, trivial⟩
  have hl := lv_entry ([.int (x)]) (n := 1) (Nat.le_of_ble_eq_true rfl)
  rw [lg_entry_eq]
  generalize (lg_sl ([.int (x)]) ++ List.replicate (1 - (lg_sl ([.int (x)])).length) Slot.unset).toArray = ls at hl ⊢
  have hl : lv_has ls 1 [(0, .int (x))] := hl
  refine lv_iload_n Bx.1 Bx.2.1 d_Rd_beginsRepeat_0 rfl (lv_at hl 0 rfl) ?_
  refine f_callSNi (na := 1) (As := [.int (x)]) (rest := []) Bx hml hN (m_Ab_isDigit l (x)) kw_369 kw_370 kw_1 kw_371 (by decide +kernel) ⟨rfl, rfl⟩ ⟨Nat.le_of_ble_eq_true rfl, Nat.le_of_ble_eq_true rfl⟩ rfl hl.1 (Nat.le_of_ble_eq_true rfl) d_Rd_beginsRepeat_1 ⟨Nat.le_of_ble_eq_true rfl, Nat.le_of_ble_eq_true rfl⟩ (fun r2 hs1 => ?_)
  refine lv_if_ne Bx.1 Bx.2.1 d_Rd_beginsRepeat_4 rfl (fun h => ?_) (fun h => ?_)
  · refine lv_iconst (v := 1) Bx.1 Bx.2.1 d_Rd_beginsRepeat_13 (by decide) ?_
    refine lv_goto Bx.1 Bx.2.1 d_Rd_beginsRepeat_14 rfl ?_
    exact W.zret (v := 1) hx hb hr rfl (fun t ht hW => ⟨1, rfl, trivial, ht⟩) (fun _ h => by cases h) d_Rd_beginsRepeat_18
  · refine lv_iload_n Bx.1 Bx.2.1 d_Rd_beginsRepeat_7 rfl (lv_at hl 0 rfl) ?_
    refine lv_bipush (v := 42) Bx.1 Bx.2.1 d_Rd_beginsRepeat_8 (by decide) ?_
    refine lv_icmp_ne Bx.1 Bx.2.1 d_Rd_beginsRepeat_10 rfl (fun h => ?_) (fun h => ?_)
    · refine lv_iconst (v := 0) Bx.1 Bx.2.1 d_Rd_beginsRepeat_17 (by decide) ?_
      exact W.zret (v := 0) hx hb hr rfl (fun t ht hW => ⟨0, rfl, trivial, ht⟩) (fun _ h => by cases h) d_Rd_beginsRepeat_18
    · refine lv_iconst (v := 1) Bx.1 Bx.2.1 d_Rd_beginsRepeat_13 (by decide) ?_
      refine lv_goto Bx.1 Bx.2.1 d_Rd_beginsRepeat_14 rfl ?_
      exact W.zret (v := 1) hx hb hr rfl (fun t ht hW => ⟨1, rfl, trivial, ht⟩) (fun _ h => by cases h) d_Rd_beginsRepeat_18
set_option maxHeartbeats 4000000 in
set_option maxRecDepth 100000 in
theorem m_Rd_beginsRepetition (l : Launch) (x : Int32) : MS l y_Rd_beginsRepetition c_Rd_beginsRepetition 1 (some .boolean) ({ frames := 2, cells := 0, slots := 0, locals := 60 } : Room) [.int (x)] (fun r => True) := by
  refine Met.ofW (cc := c_Rd_beginsRepetition) (maxL := 1) (ret := (some .boolean)) (by decide) rfl ?_
  intro p e s m args below meth c s₁ B hml hv
  obtain ⟨rfl, hN⟩ := hv
  have hx := B.exec
  have hb := B.bytes
  have hr := B.returns
  have hlocks := B.notSynchronized
  have Bx : p.tables.exec = Jvm.exec ∧ c.code = c_Rd_beginsRepetition ∧ (∀ w ∈ TB, w.before [.int (x)].toArray s = true) ∧ s.vm.findClass "AbnfChart$Reader" = some m.cls ∧ True := ⟨hx, hb, tb_all (atoms_spec B.pre) hN, findClass_of_methodNamed B.named, trivial⟩
  have hl := lv_entry ([.int (x)]) (n := 1) (Nat.le_of_ble_eq_true rfl)
  rw [lg_entry_eq]
  generalize (lg_sl ([.int (x)]) ++ List.replicate (1 - (lg_sl ([.int (x)])).length) Slot.unset).toArray = ls at hl ⊢
  have hl : lv_has ls 1 [(0, .int (x))] := hl
  refine lv_iload_n Bx.1 Bx.2.1 d_Rd_beginsRepetition_0 rfl (lv_at hl 0 rfl) ?_
  refine f_callSi (na := 1) (As := [.int (x)]) (rest := []) Bx hml hN (m_Rd_beginsRepeat l (x)) kw_416 kw_417 kw_6 kw_418 (by decide +kernel) ⟨rfl, rfl⟩ ⟨Nat.le_of_ble_eq_true rfl, Nat.le_of_ble_eq_true rfl⟩ rfl hl.1 (Nat.le_of_ble_eq_true rfl) d_Rd_beginsRepetition_1 ⟨Nat.le_of_ble_eq_true rfl, Nat.le_of_ble_eq_true rfl⟩ (fun r2 hs1 => ?_)
  refine lv_if_ne Bx.1 Bx.2.1 d_Rd_beginsRepetition_4 rfl (fun h => ?_) (fun h => ?_)
  · refine lv_iconst (v := 1) Bx.1 Bx.2.1 d_Rd_beginsRepetition_38 (by decide) ?_
    refine lv_goto Bx.1 Bx.2.1 d_Rd_beginsRepetition_39 rfl ?_
    exact W.zret (v := 1) hx hb hr rfl (fun t ht hW => ⟨1, rfl, trivial, ht⟩) (fun _ h => by cases h) d_Rd_beginsRepetition_43
  · refine lv_iload_n Bx.1 Bx.2.1 d_Rd_beginsRepetition_7 rfl (lv_at hl 0 rfl) ?_
    refine f_callSNi (na := 1) (As := [.int (x)]) (rest := []) Bx hml hN (m_Ab_isLetter l (x)) kw_357 kw_358 kw_1 kw_359 (by decide +kernel) ⟨rfl, rfl⟩ ⟨Nat.le_of_ble_eq_true rfl, Nat.le_of_ble_eq_true rfl⟩ rfl hl.1 (Nat.le_of_ble_eq_true rfl) d_Rd_beginsRepetition_8 ⟨Nat.le_of_ble_eq_true rfl, Nat.le_of_ble_eq_true rfl⟩ (fun r4 hs3 => ?_)
    refine lv_if_ne Bx.1 Bx.2.1 d_Rd_beginsRepetition_11 rfl (fun h => ?_) (fun h => ?_)
    · refine lv_iconst (v := 1) Bx.1 Bx.2.1 d_Rd_beginsRepetition_38 (by decide) ?_
      refine lv_goto Bx.1 Bx.2.1 d_Rd_beginsRepetition_39 rfl ?_
      exact W.zret (v := 1) hx hb hr rfl (fun t ht hW => ⟨1, rfl, trivial, ht⟩) (fun _ h => by cases h) d_Rd_beginsRepetition_43
    · refine lv_iload_n Bx.1 Bx.2.1 d_Rd_beginsRepetition_14 rfl (lv_at hl 0 rfl) ?_
      refine lv_bipush (v := 40) Bx.1 Bx.2.1 d_Rd_beginsRepetition_15 (by decide) ?_
      refine lv_icmp_eq Bx.1 Bx.2.1 d_Rd_beginsRepetition_17 rfl (fun h => ?_) (fun h => ?_)
      · refine lv_iconst (v := 1) Bx.1 Bx.2.1 d_Rd_beginsRepetition_38 (by decide) ?_
        refine lv_goto Bx.1 Bx.2.1 d_Rd_beginsRepetition_39 rfl ?_
        exact W.zret (v := 1) hx hb hr rfl (fun t ht hW => ⟨1, rfl, trivial, ht⟩) (fun _ h => by cases h) d_Rd_beginsRepetition_43
      · refine lv_iload_n Bx.1 Bx.2.1 d_Rd_beginsRepetition_20 rfl (lv_at hl 0 rfl) ?_
        refine lv_bipush (v := 91) Bx.1 Bx.2.1 d_Rd_beginsRepetition_21 (by decide) ?_
        refine lv_icmp_eq Bx.1 Bx.2.1 d_Rd_beginsRepetition_23 rfl (fun h => ?_) (fun h => ?_)
        · refine lv_iconst (v := 1) Bx.1 Bx.2.1 d_Rd_beginsRepetition_38 (by decide) ?_
          refine lv_goto Bx.1 Bx.2.1 d_Rd_beginsRepetition_39 rfl ?_
          exact W.zret (v := 1) hx hb hr rfl (fun t ht hW => ⟨1, rfl, trivial, ht⟩) (fun _ h => by cases h) d_Rd_beginsRepetition_43
        · refine lv_iload_n Bx.1 Bx.2.1 d_Rd_beginsRepetition_26 rfl (lv_at hl 0 rfl) ?_
          refine lv_bipush (v := 34) Bx.1 Bx.2.1 d_Rd_beginsRepetition_27 (by decide) ?_
          refine lv_icmp_eq Bx.1 Bx.2.1 d_Rd_beginsRepetition_29 rfl (fun h => ?_) (fun h => ?_)
          · refine lv_iconst (v := 1) Bx.1 Bx.2.1 d_Rd_beginsRepetition_38 (by decide) ?_
            refine lv_goto Bx.1 Bx.2.1 d_Rd_beginsRepetition_39 rfl ?_
            exact W.zret (v := 1) hx hb hr rfl (fun t ht hW => ⟨1, rfl, trivial, ht⟩) (fun _ h => by cases h) d_Rd_beginsRepetition_43
          · refine lv_iload_n Bx.1 Bx.2.1 d_Rd_beginsRepetition_32 rfl (lv_at hl 0 rfl) ?_
            refine lv_bipush (v := 37) Bx.1 Bx.2.1 d_Rd_beginsRepetition_33 (by decide) ?_
            refine lv_icmp_ne Bx.1 Bx.2.1 d_Rd_beginsRepetition_35 rfl (fun h => ?_) (fun h => ?_)
            · refine lv_iconst (v := 0) Bx.1 Bx.2.1 d_Rd_beginsRepetition_42 (by decide) ?_
              exact W.zret (v := 0) hx hb hr rfl (fun t ht hW => ⟨0, rfl, trivial, ht⟩) (fun _ h => by cases h) d_Rd_beginsRepetition_43
            · refine lv_iconst (v := 1) Bx.1 Bx.2.1 d_Rd_beginsRepetition_38 (by decide) ?_
              refine lv_goto Bx.1 Bx.2.1 d_Rd_beginsRepetition_39 rfl ?_
              exact W.zret (v := 1) hx hb hr rfl (fun t ht hW => ⟨1, rfl, trivial, ht⟩) (fun _ h => by cases h) d_Rd_beginsRepetition_43
set_option maxHeartbeats 4000000 in
set_option maxRecDepth 100000 in
theorem m_Rd_isStringCode (l : Launch) (x : Int32) : MS l y_Rd_isStringCode c_Rd_isStringCode 1 (some .boolean) ({ frames := 0, cells := 0, slots := 0, locals := 0 } : Room) [.int (x)] (fun r => True) := by
  refine Met.ofW (cc := c_Rd_isStringCode) (maxL := 1) (ret := (some .boolean)) (by decide) rfl ?_
  intro p e s m args below meth c s₁ B hml hv
  obtain ⟨rfl, hN⟩ := hv
  have hx := B.exec
  have hb := B.bytes
  have hr := B.returns
  have hlocks := B.notSynchronized
  have Bx : p.tables.exec = Jvm.exec ∧ c.code = c_Rd_isStringCode ∧ (∀ w ∈ TB, w.before [.int (x)].toArray s = true) ∧ s.vm.findClass "AbnfChart$Reader" = some m.cls ∧ True := ⟨hx, hb, tb_all (atoms_spec B.pre) hN, findClass_of_methodNamed B.named, trivial⟩
  have hl := lv_entry ([.int (x)]) (n := 1) (Nat.le_of_ble_eq_true rfl)
  rw [lg_entry_eq]
  generalize (lg_sl ([.int (x)]) ++ List.replicate (1 - (lg_sl ([.int (x)])).length) Slot.unset).toArray = ls at hl ⊢
  have hl : lv_has ls 1 [(0, .int (x))] := hl
  refine lv_iload_n Bx.1 Bx.2.1 d_Rd_isStringCode_0 rfl (lv_at hl 0 rfl) ?_
  refine lv_bipush (v := 32) Bx.1 Bx.2.1 d_Rd_isStringCode_1 (by decide) ?_
  refine lv_icmp_lt Bx.1 Bx.2.1 d_Rd_isStringCode_3 rfl (fun h => ?_) (fun h => ?_)
  · refine lv_iconst (v := 0) Bx.1 Bx.2.1 d_Rd_isStringCode_22 (by decide) ?_
    exact W.zret (v := 0) hx hb hr rfl (fun t ht hW => ⟨0, rfl, trivial, ht⟩) (fun _ h => by cases h) d_Rd_isStringCode_23
  · refine lv_iload_n Bx.1 Bx.2.1 d_Rd_isStringCode_6 rfl (lv_at hl 0 rfl) ?_
    refine lv_bipush (v := 126) Bx.1 Bx.2.1 d_Rd_isStringCode_7 (by decide) ?_
    refine lv_icmp_gt Bx.1 Bx.2.1 d_Rd_isStringCode_9 rfl (fun h => ?_) (fun h => ?_)
    · refine lv_iconst (v := 0) Bx.1 Bx.2.1 d_Rd_isStringCode_22 (by decide) ?_
      exact W.zret (v := 0) hx hb hr rfl (fun t ht hW => ⟨0, rfl, trivial, ht⟩) (fun _ h => by cases h) d_Rd_isStringCode_23
    · refine lv_iload_n Bx.1 Bx.2.1 d_Rd_isStringCode_12 rfl (lv_at hl 0 rfl) ?_
      refine lv_bipush (v := 34) Bx.1 Bx.2.1 d_Rd_isStringCode_13 (by decide) ?_
      refine lv_icmp_eq Bx.1 Bx.2.1 d_Rd_isStringCode_15 rfl (fun h => ?_) (fun h => ?_)
      · refine lv_iconst (v := 0) Bx.1 Bx.2.1 d_Rd_isStringCode_22 (by decide) ?_
        exact W.zret (v := 0) hx hb hr rfl (fun t ht hW => ⟨0, rfl, trivial, ht⟩) (fun _ h => by cases h) d_Rd_isStringCode_23
      · refine lv_iconst (v := 1) Bx.1 Bx.2.1 d_Rd_isStringCode_18 (by decide) ?_
        refine lv_goto Bx.1 Bx.2.1 d_Rd_isStringCode_19 rfl ?_
        exact W.zret (v := 1) hx hb hr rfl (fun t ht hW => ⟨1, rfl, trivial, ht⟩) (fun _ h => by cases h) d_Rd_isStringCode_23
set_option maxHeartbeats 4000000 in
set_option maxRecDepth 100000 in
theorem m_Rd_digitOf (l : Launch) (x y : Int32) : MS l y_Rd_digitOf c_Rd_digitOf 2 (some .int) ({ frames := 0, cells := 0, slots := 0, locals := 0 } : Room) [.int (x), .int (y)] (fun r => True) := by
  refine Met.ofW (cc := c_Rd_digitOf) (maxL := 2) (ret := (some .int)) (by decide) rfl ?_
  intro p e s m args below meth c s₁ B hml hv
  obtain ⟨rfl, hN⟩ := hv
  have hx := B.exec
  have hb := B.bytes
  have hr := B.returns
  have hlocks := B.notSynchronized
  have Bx : p.tables.exec = Jvm.exec ∧ c.code = c_Rd_digitOf ∧ (∀ w ∈ TB, w.before [.int (x), .int (y)].toArray s = true) ∧ s.vm.findClass "AbnfChart$Reader" = some m.cls ∧ True := ⟨hx, hb, tb_all (atoms_spec B.pre) hN, findClass_of_methodNamed B.named, trivial⟩
  have hl := lv_entry ([.int (x), .int (y)]) (n := 2) (Nat.le_of_ble_eq_true rfl)
  rw [lg_entry_eq]
  generalize (lg_sl ([.int (x), .int (y)]) ++ List.replicate (2 - (lg_sl ([.int (x), .int (y)])).length) Slot.unset).toArray = ls at hl ⊢
  have hl : lv_has ls 2 [(0, .int (x)), (1, .int (y))] := hl
  refine lv_iload_n Bx.1 Bx.2.1 d_Rd_digitOf_0 rfl (lv_at hl 0 rfl) ?_
  refine lv_bipush (v := 48) Bx.1 Bx.2.1 d_Rd_digitOf_1 (by decide) ?_
  refine lv_icmp_lt Bx.1 Bx.2.1 d_Rd_digitOf_3 rfl (fun h => ?_) (fun h => ?_)
  · refine lv_iload_n Bx.1 Bx.2.1 d_Rd_digitOf_17 rfl (lv_at hl 1 rfl) ?_
    refine lv_bipush (v := 16) Bx.1 Bx.2.1 d_Rd_digitOf_18 (by decide) ?_
    refine lv_icmp_ne Bx.1 Bx.2.1 d_Rd_digitOf_20 rfl (fun h => ?_) (fun h => ?_)
    · refine lv_iload_n Bx.1 Bx.2.1 d_Rd_digitOf_43 rfl (lv_at hl 1 rfl) ?_
      refine lv_bipush (v := 16) Bx.1 Bx.2.1 d_Rd_digitOf_44 (by decide) ?_
      refine lv_icmp_ne Bx.1 Bx.2.1 d_Rd_digitOf_46 rfl (fun h => ?_) (fun h => ?_)
      · refine lv_iconst (v := -1) Bx.1 Bx.2.1 d_Rd_digitOf_71 (by decide) ?_
        exact W.iret (v := (-1)) hx hb hr (fun t ht hW => ⟨(-1), rfl, trivial, ht⟩) (fun _ h => by cases h) d_Rd_digitOf_72
      · refine lv_iload_n Bx.1 Bx.2.1 d_Rd_digitOf_49 rfl (lv_at hl 0 rfl) ?_
        refine lv_bipush (v := 65) Bx.1 Bx.2.1 d_Rd_digitOf_50 (by decide) ?_
        refine lv_icmp_lt Bx.1 Bx.2.1 d_Rd_digitOf_52 rfl (fun h => ?_) (fun h => ?_)
        · refine lv_iconst (v := -1) Bx.1 Bx.2.1 d_Rd_digitOf_71 (by decide) ?_
          exact W.iret (v := (-1)) hx hb hr (fun t ht hW => ⟨(-1), rfl, trivial, ht⟩) (fun _ h => by cases h) d_Rd_digitOf_72
        · refine lv_iload_n Bx.1 Bx.2.1 d_Rd_digitOf_55 rfl (lv_at hl 0 rfl) ?_
          refine lv_bipush (v := 70) Bx.1 Bx.2.1 d_Rd_digitOf_56 (by decide) ?_
          refine lv_icmp_gt Bx.1 Bx.2.1 d_Rd_digitOf_58 rfl (fun h => ?_) (fun h => ?_)
          · refine lv_iconst (v := -1) Bx.1 Bx.2.1 d_Rd_digitOf_71 (by decide) ?_
            exact W.iret (v := (-1)) hx hb hr (fun t ht hW => ⟨(-1), rfl, trivial, ht⟩) (fun _ h => by cases h) d_Rd_digitOf_72
          · refine lv_iload_n Bx.1 Bx.2.1 d_Rd_digitOf_61 rfl (lv_at hl 0 rfl) ?_
            refine lv_bipush (v := 65) Bx.1 Bx.2.1 d_Rd_digitOf_62 (by decide) ?_
            refine lv_isub Bx.1 Bx.2.1 d_Rd_digitOf_64 ?_
            refine lv_bipush (v := 10) Bx.1 Bx.2.1 d_Rd_digitOf_65 (by decide) ?_
            refine lv_iadd Bx.1 Bx.2.1 d_Rd_digitOf_67 ?_
            refine lv_goto Bx.1 Bx.2.1 d_Rd_digitOf_68 rfl ?_
            exact W.iret (v := x - 65 + 10) hx hb hr (fun t ht hW => ⟨x - 65 + 10, rfl, trivial, ht⟩) (fun _ h => by cases h) d_Rd_digitOf_72
    · refine lv_iload_n Bx.1 Bx.2.1 d_Rd_digitOf_23 rfl (lv_at hl 0 rfl) ?_
      refine lv_bipush (v := 97) Bx.1 Bx.2.1 d_Rd_digitOf_24 (by decide) ?_
      refine lv_icmp_lt Bx.1 Bx.2.1 d_Rd_digitOf_26 rfl (fun h => ?_) (fun h => ?_)
      · refine lv_iload_n Bx.1 Bx.2.1 d_Rd_digitOf_43 rfl (lv_at hl 1 rfl) ?_
        refine lv_bipush (v := 16) Bx.1 Bx.2.1 d_Rd_digitOf_44 (by decide) ?_
        refine lv_icmp_ne Bx.1 Bx.2.1 d_Rd_digitOf_46 rfl (fun h => ?_) (fun h => ?_)
        · refine lv_iconst (v := -1) Bx.1 Bx.2.1 d_Rd_digitOf_71 (by decide) ?_
          exact W.iret (v := (-1)) hx hb hr (fun t ht hW => ⟨(-1), rfl, trivial, ht⟩) (fun _ h => by cases h) d_Rd_digitOf_72
        · refine lv_iload_n Bx.1 Bx.2.1 d_Rd_digitOf_49 rfl (lv_at hl 0 rfl) ?_
          refine lv_bipush (v := 65) Bx.1 Bx.2.1 d_Rd_digitOf_50 (by decide) ?_
          refine lv_icmp_lt Bx.1 Bx.2.1 d_Rd_digitOf_52 rfl (fun h => ?_) (fun h => ?_)
          · refine lv_iconst (v := -1) Bx.1 Bx.2.1 d_Rd_digitOf_71 (by decide) ?_
            exact W.iret (v := (-1)) hx hb hr (fun t ht hW => ⟨(-1), rfl, trivial, ht⟩) (fun _ h => by cases h) d_Rd_digitOf_72
          · refine lv_iload_n Bx.1 Bx.2.1 d_Rd_digitOf_55 rfl (lv_at hl 0 rfl) ?_
            refine lv_bipush (v := 70) Bx.1 Bx.2.1 d_Rd_digitOf_56 (by decide) ?_
            refine lv_icmp_gt Bx.1 Bx.2.1 d_Rd_digitOf_58 rfl (fun h => ?_) (fun h => ?_)
            · refine lv_iconst (v := -1) Bx.1 Bx.2.1 d_Rd_digitOf_71 (by decide) ?_
              exact W.iret (v := (-1)) hx hb hr (fun t ht hW => ⟨(-1), rfl, trivial, ht⟩) (fun _ h => by cases h) d_Rd_digitOf_72
            · refine lv_iload_n Bx.1 Bx.2.1 d_Rd_digitOf_61 rfl (lv_at hl 0 rfl) ?_
              refine lv_bipush (v := 65) Bx.1 Bx.2.1 d_Rd_digitOf_62 (by decide) ?_
              refine lv_isub Bx.1 Bx.2.1 d_Rd_digitOf_64 ?_
              refine lv_bipush (v := 10) Bx.1 Bx.2.1 d_Rd_digitOf_65 (by decide) ?_
              refine lv_iadd Bx.1 Bx.2.1 d_Rd_digitOf_67 ?_
              refine lv_goto Bx.1 Bx.2.1 d_Rd_digitOf_68 rfl ?_
              exact W.iret (v := x - 65 + 10) hx hb hr (fun t ht hW => ⟨x - 65 + 10, rfl, trivial, ht⟩) (fun _ h => by cases h) d_Rd_digitOf_72
      · refine lv_iload_n Bx.1 Bx.2.1 d_Rd_digitOf_29 rfl (lv_at hl 0 rfl) ?_
        refine lv_bipush (v := 102) Bx.1 Bx.2.1 d_Rd_digitOf_30 (by decide) ?_
        refine lv_icmp_gt Bx.1 Bx.2.1 d_Rd_digitOf_32 rfl (fun h => ?_) (fun h => ?_)
        · refine lv_iload_n Bx.1 Bx.2.1 d_Rd_digitOf_43 rfl (lv_at hl 1 rfl) ?_
          refine lv_bipush (v := 16) Bx.1 Bx.2.1 d_Rd_digitOf_44 (by decide) ?_
          refine lv_icmp_ne Bx.1 Bx.2.1 d_Rd_digitOf_46 rfl (fun h => ?_) (fun h => ?_)
          · refine lv_iconst (v := -1) Bx.1 Bx.2.1 d_Rd_digitOf_71 (by decide) ?_
            exact W.iret (v := (-1)) hx hb hr (fun t ht hW => ⟨(-1), rfl, trivial, ht⟩) (fun _ h => by cases h) d_Rd_digitOf_72
          · refine lv_iload_n Bx.1 Bx.2.1 d_Rd_digitOf_49 rfl (lv_at hl 0 rfl) ?_
            refine lv_bipush (v := 65) Bx.1 Bx.2.1 d_Rd_digitOf_50 (by decide) ?_
            refine lv_icmp_lt Bx.1 Bx.2.1 d_Rd_digitOf_52 rfl (fun h => ?_) (fun h => ?_)
            · refine lv_iconst (v := -1) Bx.1 Bx.2.1 d_Rd_digitOf_71 (by decide) ?_
              exact W.iret (v := (-1)) hx hb hr (fun t ht hW => ⟨(-1), rfl, trivial, ht⟩) (fun _ h => by cases h) d_Rd_digitOf_72
            · refine lv_iload_n Bx.1 Bx.2.1 d_Rd_digitOf_55 rfl (lv_at hl 0 rfl) ?_
              refine lv_bipush (v := 70) Bx.1 Bx.2.1 d_Rd_digitOf_56 (by decide) ?_
              refine lv_icmp_gt Bx.1 Bx.2.1 d_Rd_digitOf_58 rfl (fun h => ?_) (fun h => ?_)
              · refine lv_iconst (v := -1) Bx.1 Bx.2.1 d_Rd_digitOf_71 (by decide) ?_
                exact W.iret (v := (-1)) hx hb hr (fun t ht hW => ⟨(-1), rfl, trivial, ht⟩) (fun _ h => by cases h) d_Rd_digitOf_72
              · refine lv_iload_n Bx.1 Bx.2.1 d_Rd_digitOf_61 rfl (lv_at hl 0 rfl) ?_
                refine lv_bipush (v := 65) Bx.1 Bx.2.1 d_Rd_digitOf_62 (by decide) ?_
                refine lv_isub Bx.1 Bx.2.1 d_Rd_digitOf_64 ?_
                refine lv_bipush (v := 10) Bx.1 Bx.2.1 d_Rd_digitOf_65 (by decide) ?_
                refine lv_iadd Bx.1 Bx.2.1 d_Rd_digitOf_67 ?_
                refine lv_goto Bx.1 Bx.2.1 d_Rd_digitOf_68 rfl ?_
                exact W.iret (v := x - 65 + 10) hx hb hr (fun t ht hW => ⟨x - 65 + 10, rfl, trivial, ht⟩) (fun _ h => by cases h) d_Rd_digitOf_72
        · refine lv_iload_n Bx.1 Bx.2.1 d_Rd_digitOf_35 rfl (lv_at hl 0 rfl) ?_
          refine lv_bipush (v := 97) Bx.1 Bx.2.1 d_Rd_digitOf_36 (by decide) ?_
          refine lv_isub Bx.1 Bx.2.1 d_Rd_digitOf_38 ?_
          refine lv_bipush (v := 10) Bx.1 Bx.2.1 d_Rd_digitOf_39 (by decide) ?_
          refine lv_iadd Bx.1 Bx.2.1 d_Rd_digitOf_41 ?_
          exact W.iret (v := x - 97 + 10) hx hb hr (fun t ht hW => ⟨x - 97 + 10, rfl, trivial, ht⟩) (fun _ h => by cases h) d_Rd_digitOf_42
  · refine lv_iload_n Bx.1 Bx.2.1 d_Rd_digitOf_6 rfl (lv_at hl 0 rfl) ?_
    refine lv_bipush (v := 57) Bx.1 Bx.2.1 d_Rd_digitOf_7 (by decide) ?_
    refine lv_icmp_gt Bx.1 Bx.2.1 d_Rd_digitOf_9 rfl (fun h => ?_) (fun h => ?_)
    · refine lv_iload_n Bx.1 Bx.2.1 d_Rd_digitOf_17 rfl (lv_at hl 1 rfl) ?_
      refine lv_bipush (v := 16) Bx.1 Bx.2.1 d_Rd_digitOf_18 (by decide) ?_
      refine lv_icmp_ne Bx.1 Bx.2.1 d_Rd_digitOf_20 rfl (fun h => ?_) (fun h => ?_)
      · refine lv_iload_n Bx.1 Bx.2.1 d_Rd_digitOf_43 rfl (lv_at hl 1 rfl) ?_
        refine lv_bipush (v := 16) Bx.1 Bx.2.1 d_Rd_digitOf_44 (by decide) ?_
        refine lv_icmp_ne Bx.1 Bx.2.1 d_Rd_digitOf_46 rfl (fun h => ?_) (fun h => ?_)
        · refine lv_iconst (v := -1) Bx.1 Bx.2.1 d_Rd_digitOf_71 (by decide) ?_
          exact W.iret (v := (-1)) hx hb hr (fun t ht hW => ⟨(-1), rfl, trivial, ht⟩) (fun _ h => by cases h) d_Rd_digitOf_72
        · refine lv_iload_n Bx.1 Bx.2.1 d_Rd_digitOf_49 rfl (lv_at hl 0 rfl) ?_
          refine lv_bipush (v := 65) Bx.1 Bx.2.1 d_Rd_digitOf_50 (by decide) ?_
          refine lv_icmp_lt Bx.1 Bx.2.1 d_Rd_digitOf_52 rfl (fun h => ?_) (fun h => ?_)
          · refine lv_iconst (v := -1) Bx.1 Bx.2.1 d_Rd_digitOf_71 (by decide) ?_
            exact W.iret (v := (-1)) hx hb hr (fun t ht hW => ⟨(-1), rfl, trivial, ht⟩) (fun _ h => by cases h) d_Rd_digitOf_72
          · refine lv_iload_n Bx.1 Bx.2.1 d_Rd_digitOf_55 rfl (lv_at hl 0 rfl) ?_
            refine lv_bipush (v := 70) Bx.1 Bx.2.1 d_Rd_digitOf_56 (by decide) ?_
            refine lv_icmp_gt Bx.1 Bx.2.1 d_Rd_digitOf_58 rfl (fun h => ?_) (fun h => ?_)
            · refine lv_iconst (v := -1) Bx.1 Bx.2.1 d_Rd_digitOf_71 (by decide) ?_
              exact W.iret (v := (-1)) hx hb hr (fun t ht hW => ⟨(-1), rfl, trivial, ht⟩) (fun _ h => by cases h) d_Rd_digitOf_72
            · refine lv_iload_n Bx.1 Bx.2.1 d_Rd_digitOf_61 rfl (lv_at hl 0 rfl) ?_
              refine lv_bipush (v := 65) Bx.1 Bx.2.1 d_Rd_digitOf_62 (by decide) ?_
              refine lv_isub Bx.1 Bx.2.1 d_Rd_digitOf_64 ?_
              refine lv_bipush (v := 10) Bx.1 Bx.2.1 d_Rd_digitOf_65 (by decide) ?_
              refine lv_iadd Bx.1 Bx.2.1 d_Rd_digitOf_67 ?_
              refine lv_goto Bx.1 Bx.2.1 d_Rd_digitOf_68 rfl ?_
              exact W.iret (v := x - 65 + 10) hx hb hr (fun t ht hW => ⟨x - 65 + 10, rfl, trivial, ht⟩) (fun _ h => by cases h) d_Rd_digitOf_72
      · refine lv_iload_n Bx.1 Bx.2.1 d_Rd_digitOf_23 rfl (lv_at hl 0 rfl) ?_
        refine lv_bipush (v := 97) Bx.1 Bx.2.1 d_Rd_digitOf_24 (by decide) ?_
        refine lv_icmp_lt Bx.1 Bx.2.1 d_Rd_digitOf_26 rfl (fun h => ?_) (fun h => ?_)
        · refine lv_iload_n Bx.1 Bx.2.1 d_Rd_digitOf_43 rfl (lv_at hl 1 rfl) ?_
          refine lv_bipush (v := 16) Bx.1 Bx.2.1 d_Rd_digitOf_44 (by decide) ?_
          refine lv_icmp_ne Bx.1 Bx.2.1 d_Rd_digitOf_46 rfl (fun h => ?_) (fun h => ?_)
          · refine lv_iconst (v := -1) Bx.1 Bx.2.1 d_Rd_digitOf_71 (by decide) ?_
            exact W.iret (v := (-1)) hx hb hr (fun t ht hW => ⟨(-1), rfl, trivial, ht⟩) (fun _ h => by cases h) d_Rd_digitOf_72
          · refine lv_iload_n Bx.1 Bx.2.1 d_Rd_digitOf_49 rfl (lv_at hl 0 rfl) ?_
            refine lv_bipush (v := 65) Bx.1 Bx.2.1 d_Rd_digitOf_50 (by decide) ?_
            refine lv_icmp_lt Bx.1 Bx.2.1 d_Rd_digitOf_52 rfl (fun h => ?_) (fun h => ?_)
            · refine lv_iconst (v := -1) Bx.1 Bx.2.1 d_Rd_digitOf_71 (by decide) ?_
              exact W.iret (v := (-1)) hx hb hr (fun t ht hW => ⟨(-1), rfl, trivial, ht⟩) (fun _ h => by cases h) d_Rd_digitOf_72
            · refine lv_iload_n Bx.1 Bx.2.1 d_Rd_digitOf_55 rfl (lv_at hl 0 rfl) ?_
              refine lv_bipush (v := 70) Bx.1 Bx.2.1 d_Rd_digitOf_56 (by decide) ?_
              refine lv_icmp_gt Bx.1 Bx.2.1 d_Rd_digitOf_58 rfl (fun h => ?_) (fun h => ?_)
              · refine lv_iconst (v := -1) Bx.1 Bx.2.1 d_Rd_digitOf_71 (by decide) ?_
                exact W.iret (v := (-1)) hx hb hr (fun t ht hW => ⟨(-1), rfl, trivial, ht⟩) (fun _ h => by cases h) d_Rd_digitOf_72
              · refine lv_iload_n Bx.1 Bx.2.1 d_Rd_digitOf_61 rfl (lv_at hl 0 rfl) ?_
                refine lv_bipush (v := 65) Bx.1 Bx.2.1 d_Rd_digitOf_62 (by decide) ?_
                refine lv_isub Bx.1 Bx.2.1 d_Rd_digitOf_64 ?_
                refine lv_bipush (v := 10) Bx.1 Bx.2.1 d_Rd_digitOf_65 (by decide) ?_
                refine lv_iadd Bx.1 Bx.2.1 d_Rd_digitOf_67 ?_
                refine lv_goto Bx.1 Bx.2.1 d_Rd_digitOf_68 rfl ?_
                exact W.iret (v := x - 65 + 10) hx hb hr (fun t ht hW => ⟨x - 65 + 10, rfl, trivial, ht⟩) (fun _ h => by cases h) d_Rd_digitOf_72
        · refine lv_iload_n Bx.1 Bx.2.1 d_Rd_digitOf_29 rfl (lv_at hl 0 rfl) ?_
          refine lv_bipush (v := 102) Bx.1 Bx.2.1 d_Rd_digitOf_30 (by decide) ?_
          refine lv_icmp_gt Bx.1 Bx.2.1 d_Rd_digitOf_32 rfl (fun h => ?_) (fun h => ?_)
          · refine lv_iload_n Bx.1 Bx.2.1 d_Rd_digitOf_43 rfl (lv_at hl 1 rfl) ?_
            refine lv_bipush (v := 16) Bx.1 Bx.2.1 d_Rd_digitOf_44 (by decide) ?_
            refine lv_icmp_ne Bx.1 Bx.2.1 d_Rd_digitOf_46 rfl (fun h => ?_) (fun h => ?_)
            · refine lv_iconst (v := -1) Bx.1 Bx.2.1 d_Rd_digitOf_71 (by decide) ?_
              exact W.iret (v := (-1)) hx hb hr (fun t ht hW => ⟨(-1), rfl, trivial, ht⟩) (fun _ h => by cases h) d_Rd_digitOf_72
            · refine lv_iload_n Bx.1 Bx.2.1 d_Rd_digitOf_49 rfl (lv_at hl 0 rfl) ?_
              refine lv_bipush (v := 65) Bx.1 Bx.2.1 d_Rd_digitOf_50 (by decide) ?_
              refine lv_icmp_lt Bx.1 Bx.2.1 d_Rd_digitOf_52 rfl (fun h => ?_) (fun h => ?_)
              · refine lv_iconst (v := -1) Bx.1 Bx.2.1 d_Rd_digitOf_71 (by decide) ?_
                exact W.iret (v := (-1)) hx hb hr (fun t ht hW => ⟨(-1), rfl, trivial, ht⟩) (fun _ h => by cases h) d_Rd_digitOf_72
              · refine lv_iload_n Bx.1 Bx.2.1 d_Rd_digitOf_55 rfl (lv_at hl 0 rfl) ?_
                refine lv_bipush (v := 70) Bx.1 Bx.2.1 d_Rd_digitOf_56 (by decide) ?_
                refine lv_icmp_gt Bx.1 Bx.2.1 d_Rd_digitOf_58 rfl (fun h => ?_) (fun h => ?_)
                · refine lv_iconst (v := -1) Bx.1 Bx.2.1 d_Rd_digitOf_71 (by decide) ?_
                  exact W.iret (v := (-1)) hx hb hr (fun t ht hW => ⟨(-1), rfl, trivial, ht⟩) (fun _ h => by cases h) d_Rd_digitOf_72
                · refine lv_iload_n Bx.1 Bx.2.1 d_Rd_digitOf_61 rfl (lv_at hl 0 rfl) ?_
                  refine lv_bipush (v := 65) Bx.1 Bx.2.1 d_Rd_digitOf_62 (by decide) ?_
                  refine lv_isub Bx.1 Bx.2.1 d_Rd_digitOf_64 ?_
                  refine lv_bipush (v := 10) Bx.1 Bx.2.1 d_Rd_digitOf_65 (by decide) ?_
                  refine lv_iadd Bx.1 Bx.2.1 d_Rd_digitOf_67 ?_
                  refine lv_goto Bx.1 Bx.2.1 d_Rd_digitOf_68 rfl ?_
                  exact W.iret (v := x - 65 + 10) hx hb hr (fun t ht hW => ⟨x - 65 + 10, rfl, trivial, ht⟩) (fun _ h => by cases h) d_Rd_digitOf_72
          · refine lv_iload_n Bx.1 Bx.2.1 d_Rd_digitOf_35 rfl (lv_at hl 0 rfl) ?_
            refine lv_bipush (v := 97) Bx.1 Bx.2.1 d_Rd_digitOf_36 (by decide) ?_
            refine lv_isub Bx.1 Bx.2.1 d_Rd_digitOf_38 ?_
            refine lv_bipush (v := 10) Bx.1 Bx.2.1 d_Rd_digitOf_39 (by decide) ?_
            refine lv_iadd Bx.1 Bx.2.1 d_Rd_digitOf_41 ?_
            exact W.iret (v := x - 97 + 10) hx hb hr (fun t ht hW => ⟨x - 97 + 10, rfl, trivial, ht⟩) (fun _ h => by cases h) d_Rd_digitOf_42
    · refine lv_iload_n Bx.1 Bx.2.1 d_Rd_digitOf_12 rfl (lv_at hl 0 rfl) ?_
      refine lv_bipush (v := 48) Bx.1 Bx.2.1 d_Rd_digitOf_13 (by decide) ?_
      refine lv_isub Bx.1 Bx.2.1 d_Rd_digitOf_15 ?_
      exact W.iret (v := x - 48) hx hb hr (fun t ht hW => ⟨x - 48, rfl, trivial, ht⟩) (fun _ h => by cases h) d_Rd_digitOf_16
set_option maxHeartbeats 4000000 in
set_option maxRecDepth 100000 in
theorem m_Rd_peek (l : Launch) {D : va_G} {cy : Nat → ClassId} {sz n : Nat} {ad : Nat → Nat} {mem : Nat → va_E} {Z : Nat} {f : Nat → Int32} {lim rc ec : Nat} {m0 : Nat → va_E} (hn : 224 ≤ n) (hT : TX cy ad Z f m0) (hRS : RS cy ad lim rc ec m0 mem) : MI l D cy sz n ad y_Rd_peek c_Rd_peek 1 (some .int) ({ frames := 1, cells := 0, slots := 0, locals := 30 } : Room) mem [.ref (ad 222)] (fun r mem' => mem' = mem) := by
  refine Met.ofW (cc := c_Rd_peek) (maxL := 1) (ret := (some .int)) (by decide) rfl ?_
  intro p e s m args below meth c s₁ B hml hv
  obtain ⟨rfl, E, hP, hD⟩ := hv
  have hx := B.exec
  have hb := B.bytes
  have hr := B.returns
  have hlocks := B.notSynchronized
  have Bx : MB p s m [.ref (ad 222)].toArray c c_Rd_peek "AbnfChart$Reader" D cy := ⟨hx, hb, tb_all (atoms_spec B.pre) E.2.1, findClass_of_methodNamed B.named, E.1⟩
  have hS : va_S (Az sz) s.heap s.heap [] := va_S.rf
  have hl := lv_entry ([.ref (ad 222)]) (n := 1) (Nat.le_of_ble_eq_true rfl)
  rw [lg_entry_eq]
  generalize (lg_sl ([.ref (ad 222)]) ++ List.replicate (1 - (lg_sl ([.ref (ad 222)])).length) Slot.unset).toArray = ls at hl ⊢
  have hl : lv_has ls 1 [(0, .ref (ad 222))] := hl
  obtain ⟨at1, ft2, h9_3⟩ := hRS.2.1
  have h1_4 : mem 1 = .inr (0, [.ref (ad 2), .int (nI Z)]) := (hRS.2.2 1 (by omega)).trans hT.1
  have h2_5 : mem 2 = .inl (cy 0, 240, .inl f) := (hRS.2.2 2 (by omega)).trans hT.2.2
  have h5_6 := hRS.1.2.1
  have hbd12 := hRS.1.1
  obtain ⟨S7, g8, hS_9, h220_10, h221_11⟩ := hRS.1.2.2.2.2.2.2
  refine lv_aload_n Bx.1 Bx.2.1 d_Rd_peek_0 rfl (lv_at hl 0 rfl) ?_
  refine f_get Bx hP (by omega) h9_3 rfl inRd 0 (by decide) kw_144 rfl rfl d_Rd_peek_1 ?_
  refine lv_aload_n Bx.1 Bx.2.1 d_Rd_peek_4 rfl (lv_at hl 0 rfl) ?_
  refine f_get Bx hP (by omega) h9_3 rfl inRd 2 (by decide) kw_146 rfl rfl d_Rd_peek_5 ?_
  refine f_callVi (na := 1) (As := [.int (at1)]) (rest := []) Bx hml E hP hD hS (by omega) h1_4 rfl (m_Ch_codeAt l (by omega) h1_4 (by omega) h2_5 (by rw [nI_toInt (by have := hT.2.1; omega)]; have := hT.2.1; omega)) kw_341 kw_342 kw_343 kw_2 kw_344 (by decide +kernel) ⟨rfl, rfl⟩ ⟨Nat.le_of_ble_eq_true rfl, Nat.le_of_ble_eq_true rfl⟩ rfl hl.1 (Nat.le_of_ble_eq_true rfl) d_Rd_peek_8 ⟨Nat.le_of_ble_eq_true rfl, Nat.le_of_ble_eq_true rfl⟩ (fun r13 mem14 H locs hq hP hS => ?_)
  have hD : va_D (Az sz) (fw n ad mem14) := fw_D hD
  exact W.iret (v := r13) hx hb hr (fun t ht hW => ⟨⟨r13, mem14, rfl, hq.2, by show va_P _ _ _ t.heap; rw [ht]; exact hP⟩, hS.F ht⟩) hS.2.2 d_Rd_peek_11
set_option maxHeartbeats 4000000 in
set_option maxRecDepth 100000 in
theorem m_Rd_needReadable (l : Launch) {D : va_G} {cy : Nat → ClassId} {sz n : Nat} {ad : Nat → Nat} {mem : Nat → va_E} {Z : Nat} {f : Nat → Int32} {lim rc ec : Nat} {m0 : Nat → va_E} {g k : Int32} (hlt : l.stackTraces = false) (hn : 224 ≤ n) (hT : TX cy ad Z f m0) (hRS : RS cy ad lim rc ec m0 mem) : NXv l D cy sz n ad y_Rd_needReadable c_Rd_needReadable 3 ({ frames := 6, cells := 1, slots := 6, locals := 90 } : Room) mem [.ref (ad 222), .int (g), .int (k)] (fun mem' => RS cy ad lim rc ec m0 mem' ∧ mem' = mem ∧ g ≠ 0) (fun X mem' => (X = cIA ∨ X = cIS) ∧ ∃ rc' ec' : Nat, RS cy ad lim rc' ec' m0 mem') := by
  refine vx_ofW (cc := c_Rd_needReadable) (maxL := 3) (ret := none) (by decide) rfl ?_
  intro p e s m args below meth c s₁ B hml hno hv
  obtain ⟨rfl, E, hP, hD⟩ := hv
  have hx := B.exec
  have hb := B.bytes
  have hr := B.returns
  have hlocks := B.notSynchronized
  have Bx : MB p s m [.ref (ad 222), .int (g), .int (k)].toArray c c_Rd_needReadable "AbnfChart$Reader" D cy := ⟨hx, hb, tb_all (atoms_spec B.pre) E.2.1, findClass_of_methodNamed B.named, E.1⟩
  have hS : va_S (Az sz) s.heap s.heap [] := va_S.rf
  have hl := lv_entry ([.ref (ad 222), .int (g), .int (k)]) (n := 3) (Nat.le_of_ble_eq_true rfl)
  rw [lg_entry_eq]
  generalize (lg_sl ([.ref (ad 222), .int (g), .int (k)]) ++ List.replicate (3 - (lg_sl ([.ref (ad 222), .int (g), .int (k)])).length) Slot.unset).toArray = ls at hl ⊢
  have hl : lv_has ls 3 [(0, .ref (ad 222)), (1, .int (g)), (2, .int (k))] := hl
  obtain ⟨at1, ft2, h9_3⟩ := hRS.2.1
  have h1_4 : mem 1 = .inr (0, [.ref (ad 2), .int (nI Z)]) := (hRS.2.2 1 (by omega)).trans hT.1
  have h2_5 : mem 2 = .inl (cy 0, 240, .inl f) := (hRS.2.2 2 (by omega)).trans hT.2.2
  have h5_6 := hRS.1.2.1
  have hbd12 := hRS.1.1
  obtain ⟨S7, g8, hS_9, h220_10, h221_11⟩ := hRS.1.2.2.2.2.2.2
  refine lv_iload_n Bx.1 Bx.2.1 d_Rd_needReadable_0 rfl (lv_at hl 1 rfl) ?_
  refine lv_if_ne Bx.1 Bx.2.1 d_Rd_needReadable_1 rfl (fun h => ?_) (fun h => ?_)
  · exact x_vret hx hb hlocks hr (⟨hRS, rfl, h⟩) hP hS d_Rd_needReadable_17
  · refine lv_aload_n Bx.1 Bx.2.1 d_Rd_needReadable_4 rfl (lv_at hl 0 rfl) ?_
    refine lv_iload_n Bx.1 Bx.2.1 d_Rd_needReadable_5 rfl (lv_at hl 2 rfl) ?_
    refine f_put Bx hP hD hS (by omega) h9_3 rfl inRd tyRd okRd nmRd 3 (by decide) kw_147 rfl rfl rfl rfl (Nat.le_of_ble_eq_true rfl) d_Rd_needReadable_6 (fun H locs hP hS => ?_)
    obtain ⟨mem13, e_mem13⟩ : ∃ z, z = va_up mem (222) (.inr (4, [.ref (ad 1), .ref (ad 5), .int (at1), .int (k)])) := ⟨_, rfl⟩
    have hP : va_P D vcl (fw n ad mem13) H := by rw [e_mem13]; exact hP
    have hD : va_D (Az sz) (fw n ad mem13) := fw_D hD
    have h_mem13 : mem13 (222) = .inr (4, [.ref (ad 1), .ref (ad 5), .int (at1), .int (k)]) := by rw [e_mem13, va_up_self]
    have hh14 := (va_up_ne mem (.inr (4, [.ref (ad 1), .ref (ad 5), .int (at1), .int (k)])) (show (1 : Nat) ≠ 222 by first | decide | assumption | omega)).trans h1_4
    rw [← e_mem13] at hh14
    have hh15 := (va_up_ne mem (.inr (4, [.ref (ad 1), .ref (ad 5), .int (at1), .int (k)])) (show (5 : Nat) ≠ 222 by first | decide | assumption | omega)).trans h5_6
    rw [← e_mem13] at hh15
    have hh16 := (va_up_ne mem (.inr (4, [.ref (ad 1), .ref (ad 5), .int (at1), .int (k)])) (show (220 : Nat) ≠ 222 by first | decide | assumption | omega)).trans h220_10
    rw [← e_mem13] at hh16
    have hRS17 : RS cy ad lim rc ec m0 mem13 := by rw [e_mem13]; exact hRS.at222
    exact f_throw (rest := []) hlt Bx hml hlocks hno E hP hS (by decide +kernel) kw_364 kw_12 at_Rd_IA hl.1 d_Rd_needReadable_9 d_Rd_needReadable_12 d_Rd_needReadable_13 d_Rd_needReadable_16 ⟨Nat.le_of_ble_eq_true rfl, Nat.le_of_ble_eq_true rfl, Nat.le_of_ble_eq_true rfl, Nat.le_of_ble_eq_true rfl⟩ ⟨Nat.le_of_ble_eq_true rfl, Nat.le_of_ble_eq_true rfl⟩ ⟨Or.inl rfl, _, _, hRS17⟩
set_option maxHeartbeats 4000000 in
set_option maxRecDepth 100000 in
theorem m_Rd_needRoom (l : Launch) {D : va_G} {cy : Nat → ClassId} {sz n : Nat} {ad : Nat → Nat} {mem : Nat → va_E} {Z : Nat} {f : Nat → Int32} {lim rc ec : Nat} {m0 : Nat → va_E} {g k : Int32} (hlt : l.stackTraces = false) (hn : 224 ≤ n) (hT : TX cy ad Z f m0) (hRS : RS cy ad lim rc ec m0 mem) : NXv l D cy sz n ad y_Rd_needRoom c_Rd_needRoom 3 ({ frames := 6, cells := 1, slots := 6, locals := 90 } : Room) mem [.ref (ad 222), .int (g), .int (k)] (fun mem' => RS cy ad lim rc ec m0 mem' ∧ mem' = mem ∧ g ≠ 0) (fun X mem' => (X = cIA ∨ X = cIS) ∧ ∃ rc' ec' : Nat, RS cy ad lim rc' ec' m0 mem') := by
  refine vx_ofW (cc := c_Rd_needRoom) (maxL := 3) (ret := none) (by decide) rfl ?_
  intro p e s m args below meth c s₁ B hml hno hv
  obtain ⟨rfl, E, hP, hD⟩ := hv
  have hx := B.exec
  have hb := B.bytes
  have hr := B.returns
  have hlocks := B.notSynchronized
  have Bx : MB p s m [.ref (ad 222), .int (g), .int (k)].toArray c c_Rd_needRoom "AbnfChart$Reader" D cy := ⟨hx, hb, tb_all (atoms_spec B.pre) E.2.1, findClass_of_methodNamed B.named, E.1⟩
  have hS : va_S (Az sz) s.heap s.heap [] := va_S.rf
  have hl := lv_entry ([.ref (ad 222), .int (g), .int (k)]) (n := 3) (Nat.le_of_ble_eq_true rfl)
  rw [lg_entry_eq]
  generalize (lg_sl ([.ref (ad 222), .int (g), .int (k)]) ++ List.replicate (3 - (lg_sl ([.ref (ad 222), .int (g), .int (k)])).length) Slot.unset).toArray = ls at hl ⊢
  have hl : lv_has ls 3 [(0, .ref (ad 222)), (1, .int (g)), (2, .int (k))] := hl
  obtain ⟨at1, ft2, h9_3⟩ := hRS.2.1
  have h1_4 : mem 1 = .inr (0, [.ref (ad 2), .int (nI Z)]) := (hRS.2.2 1 (by omega)).trans hT.1
  have h2_5 : mem 2 = .inl (cy 0, 240, .inl f) := (hRS.2.2 2 (by omega)).trans hT.2.2
  have h5_6 := hRS.1.2.1
  have hbd12 := hRS.1.1
  obtain ⟨S7, g8, hS_9, h220_10, h221_11⟩ := hRS.1.2.2.2.2.2.2
  refine lv_iload_n Bx.1 Bx.2.1 d_Rd_needRoom_0 rfl (lv_at hl 1 rfl) ?_
  refine lv_if_ne Bx.1 Bx.2.1 d_Rd_needRoom_1 rfl (fun h => ?_) (fun h => ?_)
  · exact x_vret hx hb hlocks hr (⟨hRS, rfl, h⟩) hP hS d_Rd_needRoom_17
  · refine lv_aload_n Bx.1 Bx.2.1 d_Rd_needRoom_4 rfl (lv_at hl 0 rfl) ?_
    refine lv_iload_n Bx.1 Bx.2.1 d_Rd_needRoom_5 rfl (lv_at hl 2 rfl) ?_
    refine f_put Bx hP hD hS (by omega) h9_3 rfl inRd tyRd okRd nmRd 3 (by decide) kw_147 rfl rfl rfl rfl (Nat.le_of_ble_eq_true rfl) d_Rd_needRoom_6 (fun H locs hP hS => ?_)
    obtain ⟨mem13, e_mem13⟩ : ∃ z, z = va_up mem (222) (.inr (4, [.ref (ad 1), .ref (ad 5), .int (at1), .int (k)])) := ⟨_, rfl⟩
    have hP : va_P D vcl (fw n ad mem13) H := by rw [e_mem13]; exact hP
    have hD : va_D (Az sz) (fw n ad mem13) := fw_D hD
    have h_mem13 : mem13 (222) = .inr (4, [.ref (ad 1), .ref (ad 5), .int (at1), .int (k)]) := by rw [e_mem13, va_up_self]
    have hh14 := (va_up_ne mem (.inr (4, [.ref (ad 1), .ref (ad 5), .int (at1), .int (k)])) (show (1 : Nat) ≠ 222 by first | decide | assumption | omega)).trans h1_4
    rw [← e_mem13] at hh14
    have hh15 := (va_up_ne mem (.inr (4, [.ref (ad 1), .ref (ad 5), .int (at1), .int (k)])) (show (5 : Nat) ≠ 222 by first | decide | assumption | omega)).trans h5_6
    rw [← e_mem13] at hh15
    have hh16 := (va_up_ne mem (.inr (4, [.ref (ad 1), .ref (ad 5), .int (at1), .int (k)])) (show (220 : Nat) ≠ 222 by first | decide | assumption | omega)).trans h220_10
    rw [← e_mem13] at hh16
    have hRS17 : RS cy ad lim rc ec m0 mem13 := by rw [e_mem13]; exact hRS.at222
    exact f_throw (rest := []) hlt Bx hml hlocks hno E hP hS (by decide +kernel) kw_387 kw_13 at_Rd_IS hl.1 d_Rd_needRoom_9 d_Rd_needRoom_12 d_Rd_needRoom_13 d_Rd_needRoom_16 ⟨Nat.le_of_ble_eq_true rfl, Nat.le_of_ble_eq_true rfl, Nat.le_of_ble_eq_true rfl, Nat.le_of_ble_eq_true rfl⟩ ⟨Nat.le_of_ble_eq_true rfl, Nat.le_of_ble_eq_true rfl⟩ ⟨Or.inr rfl, _, _, hRS17⟩
set_option maxHeartbeats 4000000 in
set_option maxRecDepth 100000 in
theorem m_Rd_readDigit (l : Launch) {D : va_G} {cy : Nat → ClassId} {sz n : Nat} {ad : Nat → Nat} {mem : Nat → va_E} {Z : Nat} {f : Nat → Int32} {lim rc ec : Nat} {m0 : Nat → va_E} (hn : 224 ≤ n) (hT : TX cy ad Z f m0) (hRS : RS cy ad lim rc ec m0 mem) : MI l D cy sz n ad y_Rd_readDigit c_Rd_readDigit 2 (some .int) ({ frames := 2, cells := 0, slots := 0, locals := 60 } : Room) mem [.ref (ad 222)] (fun r mem' => RS cy ad lim rc ec m0 mem') := by
  refine Met.ofW (cc := c_Rd_readDigit) (maxL := 2) (ret := (some .int)) (by decide) rfl ?_
  intro p e s m args below meth c s₁ B hml hv
  obtain ⟨rfl, E, hP, hD⟩ := hv
  have hx := B.exec
  have hb := B.bytes
  have hr := B.returns
  have hlocks := B.notSynchronized
  have Bx : MB p s m [.ref (ad 222)].toArray c c_Rd_readDigit "AbnfChart$Reader" D cy := ⟨hx, hb, tb_all (atoms_spec B.pre) E.2.1, findClass_of_methodNamed B.named, E.1⟩
  have hS : va_S (Az sz) s.heap s.heap [] := va_S.rf
  have hl := lv_entry ([.ref (ad 222)]) (n := 2) (Nat.le_of_ble_eq_true rfl)
  rw [lg_entry_eq]
  generalize (lg_sl ([.ref (ad 222)]) ++ List.replicate (2 - (lg_sl ([.ref (ad 222)])).length) Slot.unset).toArray = ls at hl ⊢
  have hl : lv_has ls 2 [(0, .ref (ad 222))] := hl
  obtain ⟨at1, ft2, h9_3⟩ := hRS.2.1
  have h1_4 : mem 1 = .inr (0, [.ref (ad 2), .int (nI Z)]) := (hRS.2.2 1 (by omega)).trans hT.1
  have h2_5 : mem 2 = .inl (cy 0, 240, .inl f) := (hRS.2.2 2 (by omega)).trans hT.2.2
  have h5_6 := hRS.1.2.1
  have hbd12 := hRS.1.1
  obtain ⟨S7, g8, hS_9, h220_10, h221_11⟩ := hRS.1.2.2.2.2.2.2
  refine lv_aload_n Bx.1 Bx.2.1 d_Rd_readDigit_0 rfl (lv_at hl 0 rfl) ?_
  refine f_callVi (na := 0) (As := []) (rest := []) Bx hml E hP hD hS (by omega) h9_3 rfl (m_Rd_peek l hn hT hRS) kw_353 kw_355 sel_Rd_peek kw_6 kw_356 (by decide +kernel) ⟨rfl, rfl⟩ ⟨Nat.le_of_ble_eq_true rfl, Nat.le_of_ble_eq_true rfl⟩ rfl hl.1 (Nat.le_of_ble_eq_true rfl) d_Rd_readDigit_1 ⟨Nat.le_of_ble_eq_true rfl, Nat.le_of_ble_eq_true rfl⟩ (fun r13 mem14 H locs hq hP hS => ?_)
  have hD : va_D (Az sz) (fw n ad mem14) := fw_D hD
  rw [hq] at hP hD
  refine f_callSNi (na := 1) (As := [.int (r13)]) (rest := []) Bx hml E.2.1 (m_Ab_isDigit l (r13)) kw_369 kw_370 kw_1 kw_371 (by decide +kernel) ⟨rfl, rfl⟩ ⟨Nat.le_of_ble_eq_true rfl, Nat.le_of_ble_eq_true rfl⟩ rfl hl.1 (Nat.le_of_ble_eq_true rfl) d_Rd_readDigit_4 ⟨Nat.le_of_ble_eq_true rfl, Nat.le_of_ble_eq_true rfl⟩ (fun r16 hs15 => ?_)
  refine lv_if_ne Bx.1 Bx.2.1 d_Rd_readDigit_7 rfl (fun h => ?_) (fun h => ?_)
  · refine lv_aload_n Bx.1 Bx.2.1 d_Rd_readDigit_12 rfl (lv_at hl 0 rfl) ?_
    refine f_callVi (na := 0) (As := []) (rest := []) Bx hml E hP hD hS (by omega) h9_3 rfl (m_Rd_peek l hn hT hRS) kw_353 kw_355 sel_Rd_peek kw_6 kw_356 (by decide +kernel) ⟨rfl, rfl⟩ ⟨Nat.le_of_ble_eq_true rfl, Nat.le_of_ble_eq_true rfl⟩ rfl hl.1 (Nat.le_of_ble_eq_true rfl) d_Rd_readDigit_13 ⟨Nat.le_of_ble_eq_true rfl, Nat.le_of_ble_eq_true rfl⟩ (fun r17 mem18 H locs hq hP hS => ?_)
    have hD : va_D (Az sz) (fw n ad mem18) := fw_D hD
    rw [hq] at hP hD
    refine lv_bipush (v := 48) Bx.1 Bx.2.1 d_Rd_readDigit_16 (by decide) ?_
    refine lv_isub Bx.1 Bx.2.1 d_Rd_readDigit_18 ?_
    refine lv_istore_n (lv' := [(1, .int (r17 - 48)), (0, .ref (ad 222))]) Bx.1 Bx.2.1 d_Rd_readDigit_19 rfl hl (by decide) rfl (fun ls hl => ?_)
    refine lv_aload_n Bx.1 Bx.2.1 d_Rd_readDigit_20 rfl (lv_at hl 1 rfl) ?_
    refine lv_dup Bx.1 Bx.2.1 d_Rd_readDigit_21 rfl ?_
    refine f_get Bx hP (by omega) h9_3 rfl inRd 2 (by decide) kw_146 rfl rfl d_Rd_readDigit_22 ?_
    refine lv_iconst (v := 1) Bx.1 Bx.2.1 d_Rd_readDigit_25 (by decide) ?_
    refine lv_iadd Bx.1 Bx.2.1 d_Rd_readDigit_26 ?_
    refine f_put Bx hP hD hS (by omega) h9_3 rfl inRd tyRd okRd nmRd 2 (by decide) kw_146 rfl rfl rfl rfl (Nat.le_of_ble_eq_true rfl) d_Rd_readDigit_27 (fun H locs hP hS => ?_)
    obtain ⟨mem19, e_mem19⟩ : ∃ z, z = va_up mem (222) (.inr (4, [.ref (ad 1), .ref (ad 5), .int (at1 + 1), .int (ft2)])) := ⟨_, rfl⟩
    have hP : va_P D vcl (fw n ad mem19) H := by rw [e_mem19]; exact hP
    have hD : va_D (Az sz) (fw n ad mem19) := fw_D hD
    have h_mem19 : mem19 (222) = .inr (4, [.ref (ad 1), .ref (ad 5), .int (at1 + 1), .int (ft2)]) := by rw [e_mem19, va_up_self]
    have hh20 := (va_up_ne mem (.inr (4, [.ref (ad 1), .ref (ad 5), .int (at1 + 1), .int (ft2)])) (show (1 : Nat) ≠ 222 by first | decide | assumption | omega)).trans h1_4
    rw [← e_mem19] at hh20
    have hh21 := (va_up_ne mem (.inr (4, [.ref (ad 1), .ref (ad 5), .int (at1 + 1), .int (ft2)])) (show (5 : Nat) ≠ 222 by first | decide | assumption | omega)).trans h5_6
    rw [← e_mem19] at hh21
    have hh22 := (va_up_ne mem (.inr (4, [.ref (ad 1), .ref (ad 5), .int (at1 + 1), .int (ft2)])) (show (220 : Nat) ≠ 222 by first | decide | assumption | omega)).trans h220_10
    rw [← e_mem19] at hh22
    have hRS23 : RS cy ad lim rc ec m0 mem19 := by rw [e_mem19]; exact hRS.at222
    refine lv_iload_n Bx.1 Bx.2.1 d_Rd_readDigit_30 rfl (lv_at hl 0 rfl) ?_
    exact W.iret (v := r17 - 48) hx hb hr (fun t ht hW => ⟨⟨r17 - 48, mem19, rfl, hRS23, by show va_P _ _ _ t.heap; rw [ht]; exact hP⟩, hS.F ht⟩) hS.2.2 d_Rd_readDigit_31
  · refine lv_iconst (v := -1) Bx.1 Bx.2.1 d_Rd_readDigit_10 (by decide) ?_
    exact W.iret (v := (-1)) hx hb hr (fun t ht hW => ⟨⟨(-1), mem, rfl, hRS, by show va_P _ _ _ t.heap; rw [ht]; exact hP⟩, hS.F ht⟩) hS.2.2 d_Rd_readDigit_11
