theorem d_Mo_digit_0 : decode c_Mo_digit 0 = .ok (.iload_n 0, 1) := by decide +kernel
theorem d_Mo_digit_1 : decode c_Mo_digit 1 = .ok (.bipush 48, 2) := by decide +kernel
theorem d_Mo_digit_3 : decode c_Mo_digit 3 = .ok (.bipush 57, 2) := by decide +kernel
theorem d_Mo_digit_5 : decode c_Mo_digit 5 = .ok (.invokestatic 74, 3) := by decide +kernel
theorem d_Mo_digit_8 : decode c_Mo_digit 8 = .ok (.ireturn, 1) := by decide +kernel
theorem d_Mo_small_0 : decode c_Mo_small 0 = .ok (.iload_n 0, 1) := by decide +kernel
theorem d_Mo_small_1 : decode c_Mo_small 1 = .ok (.bipush 65, 2) := by decide +kernel
theorem d_Mo_small_3 : decode c_Mo_small 3 = .ok (.bipush 90, 2) := by decide +kernel
theorem d_Mo_small_5 : decode c_Mo_small 5 = .ok (.invokestatic 74, 3) := by decide +kernel
theorem d_Mo_small_8 : decode c_Mo_small 8 = .ok (.ifCond .eq 10, 3) := by decide +kernel
theorem d_Mo_small_11 : decode c_Mo_small 11 = .ok (.iload_n 0, 1) := by decide +kernel
theorem d_Mo_small_12 : decode c_Mo_small 12 = .ok (.bipush 32, 2) := by decide +kernel
theorem d_Mo_small_14 : decode c_Mo_small 14 = .ok (.iadd, 1) := by decide +kernel
theorem d_Mo_small_15 : decode c_Mo_small 15 = .ok (.goto 4, 3) := by decide +kernel
theorem d_Mo_small_18 : decode c_Mo_small 18 = .ok (.iload_n 0, 1) := by decide +kernel
theorem d_Mo_small_19 : decode c_Mo_small 19 = .ok (.ireturn, 1) := by decide +kernel
theorem d_Mo_begins_0 : decode c_Mo_begins 0 = .ok (.iload_n 0, 1) := by decide +kernel
theorem d_Mo_begins_1 : decode c_Mo_begins 1 = .ok (.invokestatic 103, 3) := by decide +kernel
theorem d_Mo_begins_4 : decode c_Mo_begins 4 = .ok (.ifCond .ne 40, 3) := by decide +kernel
theorem d_Mo_begins_7 : decode c_Mo_begins 7 = .ok (.iload_n 0, 1) := by decide +kernel
theorem d_Mo_begins_8 : decode c_Mo_begins 8 = .ok (.invokestatic 107, 3) := by decide +kernel
theorem d_Mo_begins_11 : decode c_Mo_begins 11 = .ok (.ifCond .ne 33, 3) := by decide +kernel
theorem d_Mo_begins_14 : decode c_Mo_begins 14 = .ok (.iload_n 0, 1) := by decide +kernel
theorem d_Mo_begins_15 : decode c_Mo_begins 15 = .ok (.bipush 42, 2) := by decide +kernel
theorem d_Mo_begins_17 : decode c_Mo_begins 17 = .ok (.if_icmp .eq 27, 3) := by decide +kernel
theorem d_Mo_begins_20 : decode c_Mo_begins 20 = .ok (.iload_n 0, 1) := by decide +kernel
theorem d_Mo_begins_21 : decode c_Mo_begins 21 = .ok (.bipush 40, 2) := by decide +kernel
theorem d_Mo_begins_23 : decode c_Mo_begins 23 = .ok (.if_icmp .eq 21, 3) := by decide +kernel
theorem d_Mo_begins_26 : decode c_Mo_begins 26 = .ok (.iload_n 0, 1) := by decide +kernel
theorem d_Mo_begins_27 : decode c_Mo_begins 27 = .ok (.bipush 91, 2) := by decide +kernel
theorem d_Mo_begins_29 : decode c_Mo_begins 29 = .ok (.if_icmp .eq 15, 3) := by decide +kernel
theorem d_Mo_begins_32 : decode c_Mo_begins 32 = .ok (.iload_n 0, 1) := by decide +kernel
theorem d_Mo_begins_33 : decode c_Mo_begins 33 = .ok (.bipush 34, 2) := by decide +kernel
theorem d_Mo_begins_35 : decode c_Mo_begins 35 = .ok (.if_icmp .eq 9, 3) := by decide +kernel
theorem d_Mo_begins_38 : decode c_Mo_begins 38 = .ok (.iload_n 0, 1) := by decide +kernel
theorem d_Mo_begins_39 : decode c_Mo_begins 39 = .ok (.bipush 37, 2) := by decide +kernel
theorem d_Mo_begins_41 : decode c_Mo_begins 41 = .ok (.if_icmp .ne 7, 3) := by decide +kernel
theorem d_Mo_begins_44 : decode c_Mo_begins 44 = .ok (.iconst 1, 1) := by decide +kernel
theorem d_Mo_begins_45 : decode c_Mo_begins 45 = .ok (.goto 4, 3) := by decide +kernel
theorem d_Mo_begins_48 : decode c_Mo_begins 48 = .ok (.iconst 0, 1) := by decide +kernel
theorem d_Mo_begins_49 : decode c_Mo_begins 49 = .ok (.ireturn, 1) := by decide +kernel
theorem d_Mo_figure_0 : decode c_Mo_figure 0 = .ok (.iload_n 0, 1) := by decide +kernel
theorem d_Mo_figure_1 : decode c_Mo_figure 1 = .ok (.invokestatic 107, 3) := by decide +kernel
theorem d_Mo_figure_4 : decode c_Mo_figure 4 = .ok (.ifCond .eq 8, 3) := by decide +kernel
theorem d_Mo_figure_7 : decode c_Mo_figure 7 = .ok (.iload_n 0, 1) := by decide +kernel
theorem d_Mo_figure_8 : decode c_Mo_figure 8 = .ok (.bipush 48, 2) := by decide +kernel
theorem d_Mo_figure_10 : decode c_Mo_figure 10 = .ok (.isub, 1) := by decide +kernel
theorem d_Mo_figure_11 : decode c_Mo_figure 11 = .ok (.ireturn, 1) := by decide +kernel
theorem d_Mo_figure_12 : decode c_Mo_figure 12 = .ok (.iload_n 1, 1) := by decide +kernel
theorem d_Mo_figure_13 : decode c_Mo_figure 13 = .ok (.bipush 16, 2) := by decide +kernel
theorem d_Mo_figure_15 : decode c_Mo_figure 15 = .ok (.if_icmp .ne 27, 3) := by decide +kernel
theorem d_Mo_figure_18 : decode c_Mo_figure 18 = .ok (.iload_n 0, 1) := by decide +kernel
theorem d_Mo_figure_19 : decode c_Mo_figure 19 = .ok (.invokestatic 117, 3) := by decide +kernel
theorem d_Mo_figure_22 : decode c_Mo_figure 22 = .ok (.bipush 97, 2) := by decide +kernel
theorem d_Mo_figure_24 : decode c_Mo_figure 24 = .ok (.bipush 102, 2) := by decide +kernel
theorem d_Mo_figure_26 : decode c_Mo_figure 26 = .ok (.invokestatic 74, 3) := by decide +kernel
theorem d_Mo_figure_29 : decode c_Mo_figure 29 = .ok (.ifCond .eq 13, 3) := by decide +kernel
theorem d_Mo_figure_32 : decode c_Mo_figure 32 = .ok (.iload_n 0, 1) := by decide +kernel
theorem d_Mo_figure_33 : decode c_Mo_figure 33 = .ok (.invokestatic 117, 3) := by decide +kernel
theorem d_Mo_figure_36 : decode c_Mo_figure 36 = .ok (.bipush 87, 2) := by decide +kernel
theorem d_Mo_figure_38 : decode c_Mo_figure 38 = .ok (.isub, 1) := by decide +kernel
theorem d_Mo_figure_39 : decode c_Mo_figure 39 = .ok (.goto 4, 3) := by decide +kernel
theorem d_Mo_figure_42 : decode c_Mo_figure 42 = .ok (.iconst (-1), 1) := by decide +kernel
theorem d_Mo_figure_43 : decode c_Mo_figure 43 = .ok (.ireturn, 1) := by decide +kernel
theorem d_Mo_rest_0 : decode c_Mo_rest 0 = .ok (.iload_n 1, 1) := by decide +kernel
theorem d_Mo_rest_1 : decode c_Mo_rest 1 = .ok (.istore_n 2, 1) := by decide +kernel
theorem d_Mo_rest_2 : decode c_Mo_rest 2 = .ok (.iload_n 2, 1) := by decide +kernel
theorem d_Mo_rest_3 : decode c_Mo_rest 3 = .ok (.aload_n 0, 1) := by decide +kernel
theorem d_Mo_rest_4 : decode c_Mo_rest 4 = .ok (.getfield 84, 3) := by decide +kernel
theorem d_Mo_rest_7 : decode c_Mo_rest 7 = .ok (.if_icmp .ge 20, 3) := by decide +kernel
theorem d_Mo_rest_10 : decode c_Mo_rest 10 = .ok (.aload_n 0, 1) := by decide +kernel
theorem d_Mo_rest_11 : decode c_Mo_rest 11 = .ok (.getfield 7, 3) := by decide +kernel
theorem d_Mo_rest_14 : decode c_Mo_rest 14 = .ok (.iload_n 2, 1) := by decide +kernel
theorem d_Mo_rest_15 : decode c_Mo_rest 15 = .ok (.iaload, 1) := by decide +kernel
theorem d_Mo_rest_16 : decode c_Mo_rest 16 = .ok (.bipush 32, 2) := by decide +kernel
theorem d_Mo_rest_18 : decode c_Mo_rest 18 = .ok (.if_icmp .ne 9, 3) := by decide +kernel
theorem d_Mo_rest_21 : decode c_Mo_rest 21 = .ok (.iinc 2 1, 3) := by decide +kernel
theorem d_Mo_rest_24 : decode c_Mo_rest 24 = .ok (.goto (-22), 3) := by decide +kernel
theorem d_Mo_rest_27 : decode c_Mo_rest 27 = .ok (.iload_n 2, 1) := by decide +kernel
theorem d_Mo_rest_28 : decode c_Mo_rest 28 = .ok (.aload_n 0, 1) := by decide +kernel
theorem d_Mo_rest_29 : decode c_Mo_rest 29 = .ok (.getfield 84, 3) := by decide +kernel
theorem d_Mo_rest_32 : decode c_Mo_rest 32 = .ok (.if_icmp .ge 39, 3) := by decide +kernel
theorem d_Mo_rest_35 : decode c_Mo_rest 35 = .ok (.aload_n 0, 1) := by decide +kernel
theorem d_Mo_rest_36 : decode c_Mo_rest 36 = .ok (.getfield 7, 3) := by decide +kernel
theorem d_Mo_rest_39 : decode c_Mo_rest 39 = .ok (.iload_n 2, 1) := by decide +kernel
theorem d_Mo_rest_40 : decode c_Mo_rest 40 = .ok (.iaload, 1) := by decide +kernel
theorem d_Mo_rest_41 : decode c_Mo_rest 41 = .ok (.bipush 59, 2) := by decide +kernel
theorem d_Mo_rest_43 : decode c_Mo_rest 43 = .ok (.if_icmp .ne 28, 3) := by decide +kernel
theorem d_Mo_rest_46 : decode c_Mo_rest 46 = .ok (.iload_n 2, 1) := by decide +kernel
theorem d_Mo_rest_47 : decode c_Mo_rest 47 = .ok (.aload_n 0, 1) := by decide +kernel
theorem d_Mo_rest_48 : decode c_Mo_rest 48 = .ok (.getfield 84, 3) := by decide +kernel
theorem d_Mo_rest_51 : decode c_Mo_rest 51 = .ok (.if_icmp .ge 20, 3) := by decide +kernel
theorem d_Mo_rest_54 : decode c_Mo_rest 54 = .ok (.aload_n 0, 1) := by decide +kernel
theorem d_Mo_rest_55 : decode c_Mo_rest 55 = .ok (.getfield 7, 3) := by decide +kernel
theorem d_Mo_rest_58 : decode c_Mo_rest 58 = .ok (.iload_n 2, 1) := by decide +kernel
theorem d_Mo_rest_59 : decode c_Mo_rest 59 = .ok (.iaload, 1) := by decide +kernel
theorem d_Mo_rest_60 : decode c_Mo_rest 60 = .ok (.bipush 10, 2) := by decide +kernel
theorem d_Mo_rest_62 : decode c_Mo_rest 62 = .ok (.if_icmp .eq 9, 3) := by decide +kernel
theorem d_Mo_rest_65 : decode c_Mo_rest 65 = .ok (.iinc 2 1, 3) := by decide +kernel
theorem d_Mo_rest_68 : decode c_Mo_rest 68 = .ok (.goto (-22), 3) := by decide +kernel
theorem d_Mo_rest_71 : decode c_Mo_rest 71 = .ok (.iload_n 2, 1) := by decide +kernel
theorem d_Mo_rest_72 : decode c_Mo_rest 72 = .ok (.ireturn, 1) := by decide +kernel
theorem d_Mo_gap_0 : decode c_Mo_gap 0 = .ok (.iconst 1, 1) := by decide +kernel
theorem d_Mo_gap_1 : decode c_Mo_gap 1 = .ok (.istore_n 1, 1) := by decide +kernel
theorem d_Mo_gap_2 : decode c_Mo_gap 2 = .ok (.iload_n 1, 1) := by decide +kernel
theorem d_Mo_gap_3 : decode c_Mo_gap 3 = .ok (.ifCond .eq 79, 3) := by decide +kernel
theorem d_Mo_gap_6 : decode c_Mo_gap 6 = .ok (.aload_n 0, 1) := by decide +kernel
theorem d_Mo_gap_7 : decode c_Mo_gap 7 = .ok (.aload_n 0, 1) := by decide +kernel
theorem d_Mo_gap_8 : decode c_Mo_gap 8 = .ok (.aload_n 0, 1) := by decide +kernel
theorem d_Mo_gap_9 : decode c_Mo_gap 9 = .ok (.getfield 87, 3) := by decide +kernel
theorem d_Mo_gap_12 : decode c_Mo_gap 12 = .ok (.invokevirtual 93, 3) := by decide +kernel
theorem d_Mo_gap_15 : decode c_Mo_gap 15 = .ok (.putfield 87, 3) := by decide +kernel
theorem d_Mo_gap_18 : decode c_Mo_gap 18 = .ok (.aload_n 0, 1) := by decide +kernel
theorem d_Mo_gap_19 : decode c_Mo_gap 19 = .ok (.invokevirtual 96, 3) := by decide +kernel
theorem d_Mo_gap_22 : decode c_Mo_gap 22 = .ok (.bipush 10, 2) := by decide +kernel
theorem d_Mo_gap_24 : decode c_Mo_gap 24 = .ok (.if_icmp .ne 16, 3) := by decide +kernel
theorem d_Mo_gap_27 : decode c_Mo_gap 27 = .ok (.aload_n 0, 1) := by decide +kernel
theorem d_Mo_gap_28 : decode c_Mo_gap 28 = .ok (.aload_n 0, 1) := by decide +kernel
theorem d_Mo_gap_29 : decode c_Mo_gap 29 = .ok (.getfield 87, 3) := by decide +kernel
theorem d_Mo_gap_32 : decode c_Mo_gap 32 = .ok (.iconst 1, 1) := by decide +kernel
theorem d_Mo_gap_33 : decode c_Mo_gap 33 = .ok (.iadd, 1) := by decide +kernel
theorem d_Mo_gap_34 : decode c_Mo_gap 34 = .ok (.invokevirtual 100, 3) := by decide +kernel
theorem d_Mo_gap_37 : decode c_Mo_gap 37 = .ok (.goto 7, 3) := by decide +kernel
theorem d_Mo_gap_40 : decode c_Mo_gap 40 = .ok (.aload_n 0, 1) := by decide +kernel
theorem d_Mo_gap_41 : decode c_Mo_gap 41 = .ok (.getfield 84, 3) := by decide +kernel
theorem d_Mo_gap_44 : decode c_Mo_gap 44 = .ok (.istore_n 2, 1) := by decide +kernel
theorem d_Mo_gap_45 : decode c_Mo_gap 45 = .ok (.iload_n 2, 1) := by decide +kernel
theorem d_Mo_gap_46 : decode c_Mo_gap 46 = .ok (.aload_n 0, 1) := by decide +kernel
theorem d_Mo_gap_47 : decode c_Mo_gap 47 = .ok (.getfield 84, 3) := by decide +kernel
theorem d_Mo_gap_50 : decode c_Mo_gap 50 = .ok (.if_icmp .ge 18, 3) := by decide +kernel
theorem d_Mo_gap_53 : decode c_Mo_gap 53 = .ok (.aload_n 0, 1) := by decide +kernel
theorem d_Mo_gap_54 : decode c_Mo_gap 54 = .ok (.getfield 7, 3) := by decide +kernel
theorem d_Mo_gap_57 : decode c_Mo_gap 57 = .ok (.iload_n 2, 1) := by decide +kernel
theorem d_Mo_gap_58 : decode c_Mo_gap 58 = .ok (.iaload, 1) := by decide +kernel
theorem d_Mo_gap_59 : decode c_Mo_gap 59 = .ok (.bipush 32, 2) := by decide +kernel
theorem d_Mo_gap_61 : decode c_Mo_gap 61 = .ok (.if_icmp .ne 7, 3) := by decide +kernel
theorem d_Mo_gap_64 : decode c_Mo_gap 64 = .ok (.iconst 1, 1) := by decide +kernel
theorem d_Mo_gap_65 : decode c_Mo_gap 65 = .ok (.goto 4, 3) := by decide +kernel
theorem d_Mo_gap_68 : decode c_Mo_gap 68 = .ok (.iconst 0, 1) := by decide +kernel
theorem d_Mo_gap_69 : decode c_Mo_gap 69 = .ok (.istore_n 1, 1) := by decide +kernel
theorem d_Mo_gap_70 : decode c_Mo_gap 70 = .ok (.iload_n 1, 1) := by decide +kernel
theorem d_Mo_gap_71 : decode c_Mo_gap 71 = .ok (.ifCond .eq 8, 3) := by decide +kernel
theorem d_Mo_gap_74 : decode c_Mo_gap 74 = .ok (.aload_n 0, 1) := by decide +kernel
theorem d_Mo_gap_75 : decode c_Mo_gap 75 = .ok (.iload_n 2, 1) := by decide +kernel
theorem d_Mo_gap_76 : decode c_Mo_gap 76 = .ok (.putfield 87, 3) := by decide +kernel
theorem d_Mo_gap_79 : decode c_Mo_gap 79 = .ok (.goto (-77), 3) := by decide +kernel
theorem d_Mo_gap_82 : decode c_Mo_gap 82 = .ok (.return_, 1) := by decide +kernel
theorem d_Mo_element_0 : decode c_Mo_element 0 = .ok (.aload_n 0, 1) := by decide +kernel
theorem d_Mo_element_1 : decode c_Mo_element 1 = .ok (.getfield 110, 3) := by decide +kernel
theorem d_Mo_element_4 : decode c_Mo_element 4 = .ok (.bipush 100, 2) := by decide +kernel
theorem d_Mo_element_6 : decode c_Mo_element 6 = .ok (.if_icmp .ne 11, 3) := by decide +kernel
theorem d_Mo_element_9 : decode c_Mo_element 9 = .ok (.aload_n 0, 1) := by decide +kernel
theorem d_Mo_element_10 : decode c_Mo_element 10 = .ok (.iconst 2, 1) := by decide +kernel
theorem d_Mo_element_11 : decode c_Mo_element 11 = .ok (.iload_n 2, 1) := by decide +kernel
theorem d_Mo_element_12 : decode c_Mo_element 12 = .ok (.invokevirtual 113, 3) := by decide +kernel
theorem d_Mo_element_15 : decode c_Mo_element 15 = .ok (.iconst 0, 1) := by decide +kernel
theorem d_Mo_element_16 : decode c_Mo_element 16 = .ok (.ireturn, 1) := by decide +kernel
theorem d_Mo_element_17 : decode c_Mo_element 17 = .ok (.aload_n 0, 1) := by decide +kernel
theorem d_Mo_element_18 : decode c_Mo_element 18 = .ok (.getfield 24, 3) := by decide +kernel
theorem d_Mo_element_21 : decode c_Mo_element 21 = .ok (.aload_n 0, 1) := by decide +kernel
theorem d_Mo_element_22 : decode c_Mo_element 22 = .ok (.getfield 110, 3) := by decide +kernel
theorem d_Mo_element_25 : decode c_Mo_element 25 = .ok (.iload_n 1, 1) := by decide +kernel
theorem d_Mo_element_26 : decode c_Mo_element 26 = .ok (.iastore, 1) := by decide +kernel
theorem d_Mo_element_27 : decode c_Mo_element 27 = .ok (.aload_n 0, 1) := by decide +kernel
theorem d_Mo_element_28 : decode c_Mo_element 28 = .ok (.getfield 27, 3) := by decide +kernel
theorem d_Mo_element_31 : decode c_Mo_element 31 = .ok (.aload_n 0, 1) := by decide +kernel
theorem d_Mo_element_32 : decode c_Mo_element 32 = .ok (.getfield 110, 3) := by decide +kernel
theorem d_Mo_element_35 : decode c_Mo_element 35 = .ok (.iconst 0, 1) := by decide +kernel
theorem d_Mo_element_36 : decode c_Mo_element 36 = .ok (.iastore, 1) := by decide +kernel
theorem d_Mo_element_37 : decode c_Mo_element 37 = .ok (.aload_n 0, 1) := by decide +kernel
theorem d_Mo_element_38 : decode c_Mo_element 38 = .ok (.getfield 30, 3) := by decide +kernel
theorem d_Mo_element_41 : decode c_Mo_element 41 = .ok (.aload_n 0, 1) := by decide +kernel
theorem d_Mo_element_42 : decode c_Mo_element 42 = .ok (.getfield 110, 3) := by decide +kernel
theorem d_Mo_element_45 : decode c_Mo_element 45 = .ok (.iconst 0, 1) := by decide +kernel
theorem d_Mo_element_46 : decode c_Mo_element 46 = .ok (.iastore, 1) := by decide +kernel
theorem d_Mo_element_47 : decode c_Mo_element 47 = .ok (.aload_n 0, 1) := by decide +kernel
theorem d_Mo_element_48 : decode c_Mo_element 48 = .ok (.getfield 33, 3) := by decide +kernel
theorem d_Mo_element_51 : decode c_Mo_element 51 = .ok (.aload_n 0, 1) := by decide +kernel
theorem d_Mo_element_52 : decode c_Mo_element 52 = .ok (.getfield 110, 3) := by decide +kernel
theorem d_Mo_element_55 : decode c_Mo_element 55 = .ok (.iconst 0, 1) := by decide +kernel
theorem d_Mo_element_56 : decode c_Mo_element 56 = .ok (.bastore, 1) := by decide +kernel
theorem d_Mo_element_57 : decode c_Mo_element 57 = .ok (.aload_n 0, 1) := by decide +kernel
theorem d_Mo_element_58 : decode c_Mo_element 58 = .ok (.getfield 37, 3) := by decide +kernel
theorem d_Mo_element_61 : decode c_Mo_element 61 = .ok (.aload_n 0, 1) := by decide +kernel
theorem d_Mo_element_62 : decode c_Mo_element 62 = .ok (.getfield 110, 3) := by decide +kernel
theorem d_Mo_element_65 : decode c_Mo_element 65 = .ok (.iconst (-1), 1) := by decide +kernel
theorem d_Mo_element_66 : decode c_Mo_element 66 = .ok (.iastore, 1) := by decide +kernel
theorem d_Mo_element_67 : decode c_Mo_element 67 = .ok (.aload_n 0, 1) := by decide +kernel
theorem d_Mo_element_68 : decode c_Mo_element 68 = .ok (.getfield 40, 3) := by decide +kernel
theorem d_Mo_element_71 : decode c_Mo_element 71 = .ok (.aload_n 0, 1) := by decide +kernel
theorem d_Mo_element_72 : decode c_Mo_element 72 = .ok (.getfield 110, 3) := by decide +kernel
theorem d_Mo_element_75 : decode c_Mo_element 75 = .ok (.iconst (-1), 1) := by decide +kernel
theorem d_Mo_element_76 : decode c_Mo_element 76 = .ok (.iastore, 1) := by decide +kernel
theorem d_Mo_element_77 : decode c_Mo_element 77 = .ok (.aload_n 0, 1) := by decide +kernel
theorem d_Mo_element_78 : decode c_Mo_element 78 = .ok (.dup, 1) := by decide +kernel
theorem d_Mo_element_79 : decode c_Mo_element 79 = .ok (.getfield 110, 3) := by decide +kernel
theorem d_Mo_element_82 : decode c_Mo_element 82 = .ok (.iconst 1, 1) := by decide +kernel
theorem d_Mo_element_83 : decode c_Mo_element 83 = .ok (.iadd, 1) := by decide +kernel
theorem d_Mo_element_84 : decode c_Mo_element 84 = .ok (.putfield 110, 3) := by decide +kernel
theorem d_Mo_element_87 : decode c_Mo_element 87 = .ok (.aload_n 0, 1) := by decide +kernel
theorem d_Mo_element_88 : decode c_Mo_element 88 = .ok (.getfield 110, 3) := by decide +kernel
theorem d_Mo_element_91 : decode c_Mo_element 91 = .ok (.iconst 1, 1) := by decide +kernel
theorem d_Mo_element_92 : decode c_Mo_element 92 = .ok (.isub, 1) := by decide +kernel
theorem d_Mo_element_93 : decode c_Mo_element 93 = .ok (.ireturn, 1) := by decide +kernel
theorem d_Mo_append_0 : decode c_Mo_append 0 = .ok (.aload_n 0, 1) := by decide +kernel
theorem d_Mo_append_1 : decode c_Mo_append 1 = .ok (.getfield 37, 3) := by decide +kernel
theorem d_Mo_append_4 : decode c_Mo_append 4 = .ok (.iload_n 1, 1) := by decide +kernel
theorem d_Mo_append_5 : decode c_Mo_append 5 = .ok (.iaload, 1) := by decide +kernel
theorem d_Mo_append_6 : decode c_Mo_append 6 = .ok (.ifCond .ge 13, 3) := by decide +kernel
theorem d_Mo_append_9 : decode c_Mo_append 9 = .ok (.aload_n 0, 1) := by decide +kernel
theorem d_Mo_append_10 : decode c_Mo_append 10 = .ok (.getfield 37, 3) := by decide +kernel
theorem d_Mo_append_13 : decode c_Mo_append 13 = .ok (.iload_n 1, 1) := by decide +kernel
theorem d_Mo_append_14 : decode c_Mo_append 14 = .ok (.iload_n 2, 1) := by decide +kernel
theorem d_Mo_append_15 : decode c_Mo_append 15 = .ok (.iastore, 1) := by decide +kernel
theorem d_Mo_append_16 : decode c_Mo_append 16 = .ok (.goto 36, 3) := by decide +kernel
theorem d_Mo_append_19 : decode c_Mo_append 19 = .ok (.aload_n 0, 1) := by decide +kernel
theorem d_Mo_append_20 : decode c_Mo_append 20 = .ok (.getfield 37, 3) := by decide +kernel
theorem d_Mo_append_23 : decode c_Mo_append 23 = .ok (.iload_n 1, 1) := by decide +kernel
theorem d_Mo_append_24 : decode c_Mo_append 24 = .ok (.iaload, 1) := by decide +kernel
theorem d_Mo_append_25 : decode c_Mo_append 25 = .ok (.istore_n 3, 1) := by decide +kernel
theorem d_Mo_append_26 : decode c_Mo_append 26 = .ok (.aload_n 0, 1) := by decide +kernel
theorem d_Mo_append_27 : decode c_Mo_append 27 = .ok (.getfield 40, 3) := by decide +kernel
theorem d_Mo_append_30 : decode c_Mo_append 30 = .ok (.iload_n 3, 1) := by decide +kernel
theorem d_Mo_append_31 : decode c_Mo_append 31 = .ok (.iaload, 1) := by decide +kernel
theorem d_Mo_append_32 : decode c_Mo_append 32 = .ok (.ifCond .lt 13, 3) := by decide +kernel
theorem d_Mo_append_35 : decode c_Mo_append 35 = .ok (.aload_n 0, 1) := by decide +kernel
theorem d_Mo_append_36 : decode c_Mo_append 36 = .ok (.getfield 40, 3) := by decide +kernel
theorem d_Mo_append_39 : decode c_Mo_append 39 = .ok (.iload_n 3, 1) := by decide +kernel
theorem d_Mo_append_40 : decode c_Mo_append 40 = .ok (.iaload, 1) := by decide +kernel
theorem d_Mo_append_41 : decode c_Mo_append 41 = .ok (.istore_n 3, 1) := by decide +kernel
theorem d_Mo_append_42 : decode c_Mo_append 42 = .ok (.goto (-16), 3) := by decide +kernel
theorem d_Mo_append_45 : decode c_Mo_append 45 = .ok (.aload_n 0, 1) := by decide +kernel
theorem d_Mo_append_46 : decode c_Mo_append 46 = .ok (.getfield 40, 3) := by decide +kernel
theorem d_Mo_append_49 : decode c_Mo_append 49 = .ok (.iload_n 3, 1) := by decide +kernel
theorem d_Mo_append_50 : decode c_Mo_append 50 = .ok (.iload_n 2, 1) := by decide +kernel
theorem d_Mo_append_51 : decode c_Mo_append 51 = .ok (.iastore, 1) := by decide +kernel
theorem d_Mo_append_52 : decode c_Mo_append 52 = .ok (.return_, 1) := by decide +kernel
theorem d_Mo_name_0 : decode c_Mo_name 0 = .ok (.aload_n 0, 1) := by decide +kernel
theorem d_Mo_name_1 : decode c_Mo_name 1 = .ok (.getfield 87, 3) := by decide +kernel
theorem d_Mo_name_4 : decode c_Mo_name 4 = .ok (.istore_n 1, 1) := by decide +kernel
theorem d_Mo_name_5 : decode c_Mo_name 5 = .ok (.lconst 0, 1) := by decide +kernel
theorem d_Mo_name_6 : decode c_Mo_name 6 = .ok (.lstore_n 2, 1) := by decide +kernel
theorem d_Mo_name_7 : decode c_Mo_name 7 = .ok (.iconst 0, 1) := by decide +kernel
theorem d_Mo_name_8 : decode c_Mo_name 8 = .ok (.istore 4, 2) := by decide +kernel
theorem d_Mo_name_10 : decode c_Mo_name 10 = .ok (.iload 4, 2) := by decide +kernel
theorem d_Mo_name_12 : decode c_Mo_name 12 = .ok (.bipush 6, 2) := by decide +kernel
theorem d_Mo_name_14 : decode c_Mo_name 14 = .ok (.if_icmp .ge 70, 3) := by decide +kernel
theorem d_Mo_name_17 : decode c_Mo_name 17 = .ok (.aload_n 0, 1) := by decide +kernel
theorem d_Mo_name_18 : decode c_Mo_name 18 = .ok (.invokevirtual 96, 3) := by decide +kernel
theorem d_Mo_name_21 : decode c_Mo_name 21 = .ok (.invokestatic 103, 3) := by decide +kernel
theorem d_Mo_name_24 : decode c_Mo_name 24 = .ok (.ifCond .ne 27, 3) := by decide +kernel
theorem d_Mo_name_27 : decode c_Mo_name 27 = .ok (.iload 4, 2) := by decide +kernel
theorem d_Mo_name_29 : decode c_Mo_name 29 = .ok (.ifCond .le 55, 3) := by decide +kernel
theorem d_Mo_name_32 : decode c_Mo_name 32 = .ok (.aload_n 0, 1) := by decide +kernel
theorem d_Mo_name_33 : decode c_Mo_name 33 = .ok (.invokevirtual 96, 3) := by decide +kernel
theorem d_Mo_name_36 : decode c_Mo_name 36 = .ok (.invokestatic 107, 3) := by decide +kernel
theorem d_Mo_name_39 : decode c_Mo_name 39 = .ok (.ifCond .ne 12, 3) := by decide +kernel
theorem d_Mo_name_42 : decode c_Mo_name 42 = .ok (.aload_n 0, 1) := by decide +kernel
theorem d_Mo_name_43 : decode c_Mo_name 43 = .ok (.invokevirtual 96, 3) := by decide +kernel
theorem d_Mo_name_46 : decode c_Mo_name 46 = .ok (.bipush 45, 2) := by decide +kernel
theorem d_Mo_name_48 : decode c_Mo_name 48 = .ok (.if_icmp .ne 36, 3) := by decide +kernel
theorem d_Mo_name_51 : decode c_Mo_name 51 = .ok (.lload_n 2, 1) := by decide +kernel
theorem d_Mo_name_52 : decode c_Mo_name 52 = .ok (.aload_n 0, 1) := by decide +kernel
theorem d_Mo_name_53 : decode c_Mo_name 53 = .ok (.invokevirtual 96, 3) := by decide +kernel
theorem d_Mo_name_56 : decode c_Mo_name 56 = .ok (.invokestatic 117, 3) := by decide +kernel
theorem d_Mo_name_59 : decode c_Mo_name 59 = .ok (.i2l, 1) := by decide +kernel
theorem d_Mo_name_60 : decode c_Mo_name 60 = .ok (.bipush 8, 2) := by decide +kernel
theorem d_Mo_name_62 : decode c_Mo_name 62 = .ok (.iload 4, 2) := by decide +kernel
theorem d_Mo_name_64 : decode c_Mo_name 64 = .ok (.imul, 1) := by decide +kernel
theorem d_Mo_name_65 : decode c_Mo_name 65 = .ok (.lshl, 1) := by decide +kernel
theorem d_Mo_name_66 : decode c_Mo_name 66 = .ok (.lor, 1) := by decide +kernel
theorem d_Mo_name_67 : decode c_Mo_name 67 = .ok (.lstore_n 2, 1) := by decide +kernel
theorem d_Mo_name_68 : decode c_Mo_name 68 = .ok (.iinc 4 1, 3) := by decide +kernel
theorem d_Mo_name_71 : decode c_Mo_name 71 = .ok (.aload_n 0, 1) := by decide +kernel
theorem d_Mo_name_72 : decode c_Mo_name 72 = .ok (.dup, 1) := by decide +kernel
theorem d_Mo_name_73 : decode c_Mo_name 73 = .ok (.getfield 87, 3) := by decide +kernel
theorem d_Mo_name_76 : decode c_Mo_name 76 = .ok (.iconst 1, 1) := by decide +kernel
theorem d_Mo_name_77 : decode c_Mo_name 77 = .ok (.iadd, 1) := by decide +kernel
theorem d_Mo_name_78 : decode c_Mo_name 78 = .ok (.putfield 87, 3) := by decide +kernel
theorem d_Mo_name_81 : decode c_Mo_name 81 = .ok (.goto (-71), 3) := by decide +kernel
theorem d_Mo_name_84 : decode c_Mo_name 84 = .ok (.iconst 0, 1) := by decide +kernel
theorem d_Mo_name_85 : decode c_Mo_name 85 = .ok (.istore 5, 2) := by decide +kernel
theorem d_Mo_name_87 : decode c_Mo_name 87 = .ok (.iload 5, 2) := by decide +kernel
theorem d_Mo_name_89 : decode c_Mo_name 89 = .ok (.aload_n 0, 1) := by decide +kernel
theorem d_Mo_name_90 : decode c_Mo_name 90 = .ok (.getfield 120, 3) := by decide +kernel
theorem d_Mo_name_93 : decode c_Mo_name 93 = .ok (.if_icmp .ge 24, 3) := by decide +kernel
theorem d_Mo_name_96 : decode c_Mo_name 96 = .ok (.aload_n 0, 1) := by decide +kernel
theorem d_Mo_name_97 : decode c_Mo_name 97 = .ok (.getfield 17, 3) := by decide +kernel
theorem d_Mo_name_100 : decode c_Mo_name 100 = .ok (.iload 5, 2) := by decide +kernel
theorem d_Mo_name_102 : decode c_Mo_name 102 = .ok (.laload, 1) := by decide +kernel
theorem d_Mo_name_103 : decode c_Mo_name 103 = .ok (.lload_n 2, 1) := by decide +kernel
theorem d_Mo_name_104 : decode c_Mo_name 104 = .ok (.lcmp, 1) := by decide +kernel
theorem d_Mo_name_105 : decode c_Mo_name 105 = .ok (.ifCond .ne 6, 3) := by decide +kernel
theorem d_Mo_name_108 : decode c_Mo_name 108 = .ok (.iload 5, 2) := by decide +kernel
theorem d_Mo_name_110 : decode c_Mo_name 110 = .ok (.ireturn, 1) := by decide +kernel
theorem d_Mo_name_111 : decode c_Mo_name 111 = .ok (.iinc 5 1, 3) := by decide +kernel
theorem d_Mo_name_114 : decode c_Mo_name 114 = .ok (.goto (-27), 3) := by decide +kernel
theorem d_Mo_name_117 : decode c_Mo_name 117 = .ok (.aload_n 0, 1) := by decide +kernel
theorem d_Mo_name_118 : decode c_Mo_name 118 = .ok (.getfield 120, 3) := by decide +kernel
theorem d_Mo_name_121 : decode c_Mo_name 121 = .ok (.bipush 12, 2) := by decide +kernel
theorem d_Mo_name_123 : decode c_Mo_name 123 = .ok (.if_icmp .ne 11, 3) := by decide +kernel
theorem d_Mo_name_126 : decode c_Mo_name 126 = .ok (.aload_n 0, 1) := by decide +kernel
theorem d_Mo_name_127 : decode c_Mo_name 127 = .ok (.iconst 2, 1) := by decide +kernel
theorem d_Mo_name_128 : decode c_Mo_name 128 = .ok (.iload_n 1, 1) := by decide +kernel
theorem d_Mo_name_129 : decode c_Mo_name 129 = .ok (.invokevirtual 113, 3) := by decide +kernel
theorem d_Mo_name_132 : decode c_Mo_name 132 = .ok (.iconst 0, 1) := by decide +kernel
theorem d_Mo_name_133 : decode c_Mo_name 133 = .ok (.ireturn, 1) := by decide +kernel
theorem d_Mo_name_134 : decode c_Mo_name 134 = .ok (.aload_n 0, 1) := by decide +kernel
theorem d_Mo_name_135 : decode c_Mo_name 135 = .ok (.getfield 17, 3) := by decide +kernel
theorem d_Mo_name_138 : decode c_Mo_name 138 = .ok (.aload_n 0, 1) := by decide +kernel
theorem d_Mo_name_139 : decode c_Mo_name 139 = .ok (.getfield 120, 3) := by decide +kernel
theorem d_Mo_name_142 : decode c_Mo_name 142 = .ok (.lload_n 2, 1) := by decide +kernel
theorem d_Mo_name_143 : decode c_Mo_name 143 = .ok (.lastore, 1) := by decide +kernel
theorem d_Mo_name_144 : decode c_Mo_name 144 = .ok (.aload_n 0, 1) := by decide +kernel
theorem d_Mo_name_145 : decode c_Mo_name 145 = .ok (.getfield 21, 3) := by decide +kernel
theorem d_Mo_name_148 : decode c_Mo_name 148 = .ok (.aload_n 0, 1) := by decide +kernel
theorem d_Mo_name_149 : decode c_Mo_name 149 = .ok (.getfield 120, 3) := by decide +kernel
theorem d_Mo_name_152 : decode c_Mo_name 152 = .ok (.iconst (-1), 1) := by decide +kernel
theorem d_Mo_name_153 : decode c_Mo_name 153 = .ok (.iastore, 1) := by decide +kernel
theorem d_Mo_name_154 : decode c_Mo_name 154 = .ok (.aload_n 0, 1) := by decide +kernel
theorem d_Mo_name_155 : decode c_Mo_name 155 = .ok (.dup, 1) := by decide +kernel
theorem d_Mo_name_156 : decode c_Mo_name 156 = .ok (.getfield 120, 3) := by decide +kernel
theorem d_Mo_name_159 : decode c_Mo_name 159 = .ok (.iconst 1, 1) := by decide +kernel
theorem d_Mo_name_160 : decode c_Mo_name 160 = .ok (.iadd, 1) := by decide +kernel
theorem d_Mo_name_161 : decode c_Mo_name 161 = .ok (.putfield 120, 3) := by decide +kernel
theorem d_Mo_name_164 : decode c_Mo_name 164 = .ok (.aload_n 0, 1) := by decide +kernel
theorem d_Mo_name_165 : decode c_Mo_name 165 = .ok (.getfield 120, 3) := by decide +kernel
theorem d_Mo_name_168 : decode c_Mo_name 168 = .ok (.iconst 1, 1) := by decide +kernel
theorem d_Mo_name_169 : decode c_Mo_name 169 = .ok (.isub, 1) := by decide +kernel
theorem d_Mo_name_170 : decode c_Mo_name 170 = .ok (.ireturn, 1) := by decide +kernel
theorem d_Mo_placed_0 : decode c_Mo_placed 0 = .ok (.aload_n 0, 1) := by decide +kernel
theorem d_Mo_placed_1 : decode c_Mo_placed 1 = .ok (.getfield 123, 3) := by decide +kernel
theorem d_Mo_placed_4 : decode c_Mo_placed 4 = .ok (.iconst 1, 1) := by decide +kernel
theorem d_Mo_placed_5 : decode c_Mo_placed 5 = .ok (.isub, 1) := by decide +kernel
theorem d_Mo_placed_6 : decode c_Mo_placed 6 = .ok (.istore_n 2, 1) := by decide +kernel
theorem d_Mo_placed_7 : decode c_Mo_placed 7 = .ok (.aload_n 0, 1) := by decide +kernel
theorem d_Mo_placed_8 : decode c_Mo_placed 8 = .ok (.getfield 58, 3) := by decide +kernel
theorem d_Mo_placed_11 : decode c_Mo_placed 11 = .ok (.iload_n 2, 1) := by decide +kernel
theorem d_Mo_placed_12 : decode c_Mo_placed 12 = .ok (.iaload, 1) := by decide +kernel
theorem d_Mo_placed_13 : decode c_Mo_placed 13 = .ok (.ifCond .lt 17, 3) := by decide +kernel
theorem d_Mo_placed_16 : decode c_Mo_placed 16 = .ok (.aload_n 0, 1) := by decide +kernel
theorem d_Mo_placed_17 : decode c_Mo_placed 17 = .ok (.aload_n 0, 1) := by decide +kernel
theorem d_Mo_placed_18 : decode c_Mo_placed 18 = .ok (.getfield 58, 3) := by decide +kernel
theorem d_Mo_placed_21 : decode c_Mo_placed 21 = .ok (.iload_n 2, 1) := by decide +kernel
theorem d_Mo_placed_22 : decode c_Mo_placed 22 = .ok (.iaload, 1) := by decide +kernel
theorem d_Mo_placed_23 : decode c_Mo_placed 23 = .ok (.iload_n 1, 1) := by decide +kernel
theorem d_Mo_placed_24 : decode c_Mo_placed 24 = .ok (.invokevirtual 126, 3) := by decide +kernel
theorem d_Mo_placed_27 : decode c_Mo_placed 27 = .ok (.goto 14, 3) := by decide +kernel
theorem d_Mo_placed_30 : decode c_Mo_placed 30 = .ok (.aload_n 0, 1) := by decide +kernel
theorem d_Mo_placed_31 : decode c_Mo_placed 31 = .ok (.aload_n 0, 1) := by decide +kernel
theorem d_Mo_placed_32 : decode c_Mo_placed 32 = .ok (.getfield 55, 3) := by decide +kernel
theorem d_Mo_placed_35 : decode c_Mo_placed 35 = .ok (.iload_n 2, 1) := by decide +kernel
theorem d_Mo_placed_36 : decode c_Mo_placed 36 = .ok (.iaload, 1) := by decide +kernel
theorem d_Mo_placed_37 : decode c_Mo_placed 37 = .ok (.iload_n 1, 1) := by decide +kernel
theorem d_Mo_placed_38 : decode c_Mo_placed 38 = .ok (.invokevirtual 126, 3) := by decide +kernel
theorem d_Mo_placed_41 : decode c_Mo_placed 41 = .ok (.aload_n 0, 1) := by decide +kernel
theorem d_Mo_placed_42 : decode c_Mo_placed 42 = .ok (.getfield 58, 3) := by decide +kernel
theorem d_Mo_placed_45 : decode c_Mo_placed 45 = .ok (.iload_n 2, 1) := by decide +kernel
theorem d_Mo_placed_46 : decode c_Mo_placed 46 = .ok (.iconst (-1), 1) := by decide +kernel
theorem d_Mo_placed_47 : decode c_Mo_placed 47 = .ok (.iastore, 1) := by decide +kernel
theorem d_Mo_placed_48 : decode c_Mo_placed 48 = .ok (.return_, 1) := by decide +kernel
section ZR
variable {p : Program} {l : Launch} {e : Env} {R : Room} {s : State} {m : MethodId} {args : Array Value} {below : List Frame} {meth : Method} {c : Code} {H H0 : Heap} {locs : List Loc} {cells slots : Nat} {Q : State → Prop}
variable {cc : ByteArray} {pc : Nat} {ls : Array Slot} {rest : List Value} {D : va_G} {cy : Nat → ClassId} {own : String} {sz n j : Nat} {ad : Nat → Nat} {mem : Nat → va_E}
theorem f_zald {N' : Nat} {f : Nat → Int32} (B : MB p s m args c cc own D cy) (hP : va_P D vcl (fw n ad mem) H) (hj : j < n) (hm : mem j = .inl (cy 3, N', .inl f)) {i : Int32} (hi : vp_in i N') (hdg : decode cc pc = .ok (.baload, 1)) (kk : W p l e R s m args below meth c H locs cells slots Q (F0 m (pc + 1) ls (.int (f i.toNatClampNeg) :: rest))) : W p l e R s m args below meth c H locs cells slots Q (F0 m pc ls (.int i :: .ref (ad j) :: rest)) :=
  va_zald B.1 B.2.1 B.2.2.2.2 hP j 3 (fw_atm hj hm) rfl hi hdg kk
theorem f_zast {N' : Nat} {f : Nat → Int32} (B : MB p s m args c cc own D cy) (hP : va_P D vcl (fw n ad mem) H) (hD : va_D (Az sz) (fw n ad mem)) (hS : va_S (Az sz) H0 H locs) (hj : j < n) (hm : mem j = .inl (cy 3, N', .inl f)) {i x : Int32} (hi : vp_in i N') (hdg : decode cc pc = .ok (.bastore, 1))
    (kk : ∀ (H1 : Heap) (locs1 : List Loc), va_P D vcl (fw n ad (va_up mem j (.inl (cy 3, N', .inl (upd f i.toNatClampNeg (vp_nar .boolean x)))))) H1 → va_S (Az sz) H0 H1 locs1 → W p l e R s m args below meth c H1 locs1 cells slots Q (F0 m (pc + 1) ls rest)) : W p l e R s m args below meth c H locs cells slots Q (F0 m pc ls (.int x :: .int i :: .ref (ad j) :: rest)) :=
  va_zast B.1 B.2.1 B.2.2.2.2 hP hD hS j 3 (fw_atm hj hm) rfl hi hdg (fun H1 locs1 hP1 _ hS1 => kk H1 locs1 (by rw [← fw_set hj]; exact hP1) hS1)
end ZR
/-! the reference's cells: J its numbers, A its rows of ints (by cell), nm its names -/
def mLen (j : Nat) : Nat := if j = 225 then 240 else if j = 227 then 12 else if j = 234 then 400 else if j = 240 then 24 else if j = 241 then 2500 else if 235 ≤ j then 8 else 100
def mTy (j : Nat) : Nat := if j = 231 then 3 else 1
def MW (cy : Nat → ClassId) (ad : Nat → Nat) (J : Nat → Int32) (A : Nat → Nat → Int32) (nm : Nat → Int64) (m0 mem : Nat → va_E) : Prop :=
  mem 224 = moC ad J ∧ mem 226 = .inl (cy 2, 12, .inr (.inl nm)) ∧ (∀ j, 225 ≤ j → j ≤ 241 → j ≠ 226 → mem j = .inl (cy (mTy j), mLen j, .inl (A j))) ∧ (∀ i, i < 224 ∨ 242 ≤ i → mem i = m0 i) ∧ ∀ (v : Int32) (g : Nat → Int32), m0 224 = .inr (0, [.int v]) → m0 240 = .inl (cy 1, 24, .inl g) → J 26 = v ∧ A 240 = g
/-- m0 tells nothing of stale and input (as MW's last part would) -/
def NoG (m0 : Nat → va_E) : Prop := ∀ v : Int32, m0 224 ≠ .inr (0, [.int v])
section MWL
variable {cy : Nat → ClassId} {ad : Nat → Nat} {J J' : Nat → Int32} {A : Nat → Nat → Int32} {nm nm' : Nat → Int64} {m0 mem : Nat → va_E}
theorem MW.upJ (h : MW cy ad J A nm m0 mem) (h26 : J' 26 = J 26) : MW cy ad J' A nm m0 (va_up mem 224 (moC ad J')) :=
  ⟨va_up_self _ _ _, (va_up_ne _ _ (by omega)).trans h.2.1, fun j h1 h2 h3 => (va_up_ne _ _ (by omega)).trans (h.2.2.1 j h1 h2 h3), fun i hi => (va_up_ne _ _ (by omega)).trans (h.2.2.2.1 i hi), fun v g e1 e2 => ⟨h26.trans (h.2.2.2.2 v g e1 e2).1, (h.2.2.2.2 v g e1 e2).2⟩⟩
theorem MW.upG (h : MW cy ad J A nm m0 mem) (hng : NoG m0) : MW cy ad J' A nm m0 (va_up mem 224 (moC ad J')) :=
  ⟨va_up_self _ _ _, (va_up_ne _ _ (by omega)).trans h.2.1, fun j h1 h2 h3 => (va_up_ne _ _ (by omega)).trans (h.2.2.1 j h1 h2 h3), fun i hi => (va_up_ne _ _ (by omega)).trans (h.2.2.2.1 i hi), fun v g e1 _ => absurd e1 (hng v)⟩
theorem MW.upA (h : MW cy ad J A nm m0 mem) {j : Nat} {g : Nat → Int32} (h1 : 225 ≤ j) (h2 : j ≤ 241) (h3 : j ≠ 226) (h4 : j ≠ 240 ∨ NoG m0) : MW cy ad J (va_up A j g) nm m0 (va_up mem j (.inl (cy (mTy j), mLen j, .inl g))) := by
  refine ⟨(va_up_ne _ _ (by omega)).trans h.1, (va_up_ne _ _ (by omega)).trans h.2.1, fun k k1 k2 k3 => ?_, fun i hi => (va_up_ne _ _ (by omega)).trans (h.2.2.2.1 i hi), fun v g' e1 e2 => ⟨(h.2.2.2.2 v g' e1 e2).1, ?_⟩⟩
  rotate_left
  · rcases h4 with h4 | h4
    · rw [va_up_ne _ _ h4.symm]; exact (h.2.2.2.2 v g' e1 e2).2
    · exact absurd e1 (h4 v)
  by_cases e : k = j
  · subst e; rw [va_up_self, va_up_self]
  · rw [va_up_ne _ _ e, va_up_ne _ _ e]; exact h.2.2.1 k k1 k2 k3
theorem MW.upN (h : MW cy ad J A nm m0 mem) : MW cy ad J A nm' m0 (va_up mem 226 (.inl (cy 2, 12, .inr (.inl nm')))) :=
  ⟨(va_up_ne _ _ (by omega)).trans h.1, va_up_self _ _ _, fun j h1 h2 h3 => (va_up_ne _ _ h3).trans (h.2.2.1 j h1 h2 h3), fun i hi => (va_up_ne _ _ (by omega)).trans (h.2.2.2.1 i hi), h.2.2.2.2⟩
/-- from here on m0 tells of stale and input -/
theorem MW.toG {m1 mg : Nat → va_E} {v : Int32} (h : MW cy ad J A nm m0 mem) (e : mg = va_up (va_up m1 224 (.inr (0, [.int v]))) 240 (.inl (cy 1, 24, .inl (A 240)))) (hm : m1 = m0) (h26 : J 26 = v) : MW cy ad J A nm mg mem := by
  subst e hm
  refine ⟨h.1, h.2.1, h.2.2.1, fun i hi => ?_, fun v' g e1 e2 => ⟨?_, ?_⟩⟩
  · rw [va_up_ne _ _ (by omega), va_up_ne _ _ (by omega)]; exact h.2.2.2.1 i hi
  · rw [va_up_ne _ _ (by decide), va_up_self] at e1
    injection e1 with e1
    injection e1 with _ e1
    injection e1 with e1
    injection e1 with e1
    rw [h26]; exact e1
  · rw [va_up_self] at e2
    injection e2 with e2
    injection e2 with _ e2
    injection e2 with _ e2
    injection e2 with e2
theorem MW.ofG {A0 : Nat → Nat → Int32} {m1 mg : Nat → va_E} {v : Int32} (h : MW cy ad J A nm mg mem) (e : mg = va_up (va_up m1 224 (.inr (0, [.int v]))) 240 (.inl (cy 1, 24, .inl (A0 240)))) (hng : NoG m1) : MW cy ad J A nm m1 mem ∧ J 26 = v ∧ A 240 = A0 240 := by
  subst e
  refine ⟨⟨h.1, h.2.1, h.2.2.1, fun i hi => ?_, fun v' _ e1 _ => absurd e1 (hng v')⟩, h.2.2.2.2 v (A0 240) ?_ ?_⟩
  · rw [h.2.2.2.1 i hi, va_up_ne _ _ (by omega), va_up_ne _ _ (by omega)]
  · rw [va_up_ne _ _ (by decide), va_up_self]
  · rw [va_up_self]
theorem NoG.of (h : mem 224 = moC ad J) : NoG mem := fun v e => by
  rw [h] at e
  injection e with e
  injection e with e _
  exact absurd e (by decide)
end MWL
def ltF (x : Int32) : Int32 := if ¬ (x < 97 ∨ 122 < x) ∨ ¬ (x < 65 ∨ 90 < x) then 1 else 0
def smF (x : Int32) : Int32 := if x < 65 ∨ 90 < x then x else x + 32
def hereF (L : Nat) (T : Nat → Int32) (a : Nat) : Int32 := if a < L then T a else -1
theorem hereF_lt {L : Nat} {T : Nat → Int32} {a : Nat} (h : hereF L T a ≠ -1) : a < L := by
  rcases Nat.lt_or_ge a L with q | q
  · exact q
  · exact absurd (if_neg (by omega)) h
theorem ltF_ne {x : Int32} (h : ltF x ≠ 0) : x ≠ -1 := by
  rintro rfl
  exact h (by decide)
theorem smF_ne {x : Int32} (h : smF x = 100 ∨ smF x = 120 ∨ smF x = 115) : x ≠ -1 := by
  rintro rfl
  exact absurd h (by decide)
def b12 (x : Int32) : Prop := x = 1 ∨ x = 2
theorem b12.ne {x : Int32} (h : b12 x) : ¬ x = 0 := by rcases h with rfl | rfl <;> decide
theorem b12.nle {x : Int32} (h : b12 x) : ¬ x ≤ 0 := by rcases h with rfl | rfl <;> decide
def wr (J J' : Nat → Int32) : Prop := b12 (J' 17) ∧ ∀ i, i ≠ 17 → i ≠ 3 → J' i = J i
def elA (A : Nat → Nat → Int32) (E : Nat) (kd : Int32) : Nat → Nat → Int32 := va_up (va_up (va_up (va_up (va_up (va_up A 228 (upd (A 228) E kd)) 229 (upd (A 229) E 0)) 230 (upd (A 230) E 0)) 231 (upd (A 231) E (vp_nar .boolean 0))) 232 (upd (A 232) E (-1))) 233 (upd (A 233) E (-1))
def cl (b : Nat) (v : Int32) : Prop := v = -1 ∨ ∃ j, j < b ∧ v = nI j
def lk (E k : Nat) (v : Int32) : Prop := v = -1 ∨ ∃ j, k < j ∧ j < E ∧ v = nI j
def LK (E : Nat) (A : Nat → Nat → Int32) : Prop := ∀ k, k < E → lk E k (A 232 k) ∧ lk E k (A 233 k)
def CL (b : Nat) (A : Nat → Nat → Int32) : Prop := ∀ k, k < b → cl b (A 232 k) ∧ cl b (A 233 k)
def apd (A A' : Nat → Nat → Int32) (to part : Nat) : Prop := (A 232 to = -1 ∧ A' = va_up A 232 (upd (A 232) to (nI part))) ∨ (A 232 to ≠ -1 ∧ ∃ k, to < k ∧ k < part ∧ A 233 k = -1 ∧ A' = va_up A 233 (upd (A 233) k (nI part)))
theorem lt_m1 : (-1 : Int32) < 0 := by decide
theorem nI_mulR (a b : Nat) : nI a * nI b = nI (a * b) := (Int32.ofNat_mul a b).symm
theorem lkcl {E b k : Nat} {v : Int32} (h1 : lk E k v) (h2 : cl b v) (hb : b ≤ 100) (hE : E ≤ 100) : v = -1 ∨ ∃ j, k < j ∧ j < b ∧ v = nI j := by
  rcases h1 with q | ⟨j, a, b', q⟩
  · exact Or.inl q
  · rcases h2 with q2 | ⟨j2, a2, q2⟩
    · exact Or.inl q2
    · refine Or.inr ⟨j2, ?_, a2, q2⟩
      have := (nI_eq (by omega) (by omega)).mp (q.symm.trans q2)
      omega
set_option maxHeartbeats 4000000 in
set_option maxRecDepth 100000 in
theorem m_Mo_letter (l : Launch) (x : Int32) : MS l y_Mo_letter c_Mo_letter 1 (some .boolean) ({ frames := 1, cells := 0, slots := 0, locals := 30 } : Room) [.int (x)] (fun r => r = ltF x) := by
  refine Met.ofW (cc := c_Mo_letter) (maxL := 1) (ret := (some .boolean)) (by decide) rfl ?_
  intro p e s m args below meth c s₁ B hml hv
  obtain ⟨rfl, hN⟩ := hv
  have hx := B.exec
  have hb := B.bytes
  have hr := B.returns
  have hlocks := B.notSynchronized
  have Bx : p.tables.exec = Jvm.exec ∧ c.code = c_Mo_letter ∧ (∀ w ∈ TB, w.before [.int (x)].toArray s = true) ∧ s.vm.findClass "AbnfChartModel" = some m.cls ∧ True := ⟨hx, hb, tb_all (atoms_spec B.pre) hN, findClass_of_methodNamed B.named, trivial⟩
  have hl := lv_entry ([.int (x)]) (n := 1) (Nat.le_of_ble_eq_true rfl)
  rw [lg_entry_eq]
  generalize (lg_sl ([.int (x)]) ++ List.replicate (1 - (lg_sl ([.int (x)])).length) Slot.unset).toArray = ls at hl ⊢
  have hl : lv_has ls 1 [(0, .int (x))] := hl
  refine lv_iload_n Bx.1 Bx.2.1 d_Mo_letter_0 rfl (lv_at hl 0 rfl) ?_
  refine lv_bipush (v := 97) Bx.1 Bx.2.1 d_Mo_letter_1 (by decide) ?_
  refine lv_bipush (v := 122) Bx.1 Bx.2.1 d_Mo_letter_3 (by decide) ?_
  refine f_callSi (na := 3) (As := [.int (x), .int (97), .int (122)]) (rest := []) Bx hml hN (m_Mo_within l (x) (97) (122)) kw_754 kw_755 kw_8 kw_756 (by decide +kernel) ⟨rfl, rfl⟩ ⟨Nat.le_of_ble_eq_true rfl, Nat.le_of_ble_eq_true rfl⟩ rfl hl.1 (Nat.le_of_ble_eq_true rfl) d_Mo_letter_5 ⟨Nat.le_of_ble_eq_true rfl, Nat.le_of_ble_eq_true rfl⟩ (fun r1 hr5 => ?_)
  subst hr5
  refine lv_if_ne Bx.1 Bx.2.1 d_Mo_letter_8 rfl (fun h8 => ?_) (fun h8 => ?_)
  · refine lv_iconst (v := 1) Bx.1 Bx.2.1 d_Mo_letter_22 (by decide) ?_
    refine lv_goto Bx.1 Bx.2.1 d_Mo_letter_23 rfl ?_
    exact W.zret (v := 1) hx hb hr rfl (fun t ht hW => ⟨1, rfl, by unfold ltF; by_cases q1 : x < 97 ∨ 122 < x <;> by_cases q2 : x < 65 ∨ 90 < x <;> simp_all, ht⟩) (fun _ h => by cases h) d_Mo_letter_27
  · refine lv_iload_n Bx.1 Bx.2.1 d_Mo_letter_11 rfl (lv_at hl 0 rfl) ?_
    refine lv_bipush (v := 65) Bx.1 Bx.2.1 d_Mo_letter_12 (by decide) ?_
    refine lv_bipush (v := 90) Bx.1 Bx.2.1 d_Mo_letter_14 (by decide) ?_
    refine f_callSi (na := 3) (As := [.int (x), .int (65), .int (90)]) (rest := []) Bx hml hN (m_Mo_within l (x) (65) (90)) kw_754 kw_755 kw_8 kw_756 (by decide +kernel) ⟨rfl, rfl⟩ ⟨Nat.le_of_ble_eq_true rfl, Nat.le_of_ble_eq_true rfl⟩ rfl hl.1 (Nat.le_of_ble_eq_true rfl) d_Mo_letter_16 ⟨Nat.le_of_ble_eq_true rfl, Nat.le_of_ble_eq_true rfl⟩ (fun r2 hr16 => ?_)
    subst hr16
    refine lv_if_eq Bx.1 Bx.2.1 d_Mo_letter_19 rfl (fun h19 => ?_) (fun h19 => ?_)
    · refine lv_iconst (v := 0) Bx.1 Bx.2.1 d_Mo_letter_26 (by decide) ?_
      exact W.zret (v := 0) hx hb hr rfl (fun t ht hW => ⟨0, rfl, by unfold ltF; by_cases q1 : x < 97 ∨ 122 < x <;> by_cases q2 : x < 65 ∨ 90 < x <;> simp_all, ht⟩) (fun _ h => by cases h) d_Mo_letter_27
    · refine lv_iconst (v := 1) Bx.1 Bx.2.1 d_Mo_letter_22 (by decide) ?_
      refine lv_goto Bx.1 Bx.2.1 d_Mo_letter_23 rfl ?_
      exact W.zret (v := 1) hx hb hr rfl (fun t ht hW => ⟨1, rfl, by unfold ltF; by_cases q1 : x < 97 ∨ 122 < x <;> by_cases q2 : x < 65 ∨ 90 < x <;> simp_all, ht⟩) (fun _ h => by cases h) d_Mo_letter_27
set_option maxHeartbeats 4000000 in
set_option maxRecDepth 100000 in
theorem m_Mo_digit (l : Launch) (x : Int32) : MS l y_Mo_digit c_Mo_digit 1 (some .boolean) ({ frames := 1, cells := 0, slots := 0, locals := 30 } : Room) [.int (x)] (fun r => r = if x < 48 ∨ 57 < x then 0 else 1) := by
  refine Met.ofW (cc := c_Mo_digit) (maxL := 1) (ret := (some .boolean)) (by decide) rfl ?_
  intro p e s m args below meth c s₁ B hml hv
  obtain ⟨rfl, hN⟩ := hv
  have hx := B.exec
  have hb := B.bytes
  have hr := B.returns
  have hlocks := B.notSynchronized
  have Bx : p.tables.exec = Jvm.exec ∧ c.code = c_Mo_digit ∧ (∀ w ∈ TB, w.before [.int (x)].toArray s = true) ∧ s.vm.findClass "AbnfChartModel" = some m.cls ∧ True := ⟨hx, hb, tb_all (atoms_spec B.pre) hN, findClass_of_methodNamed B.named, trivial⟩
  have hl := lv_entry ([.int (x)]) (n := 1) (Nat.le_of_ble_eq_true rfl)
  rw [lg_entry_eq]
  generalize (lg_sl ([.int (x)]) ++ List.replicate (1 - (lg_sl ([.int (x)])).length) Slot.unset).toArray = ls at hl ⊢
  have hl : lv_has ls 1 [(0, .int (x))] := hl
  refine lv_iload_n Bx.1 Bx.2.1 d_Mo_digit_0 rfl (lv_at hl 0 rfl) ?_
  refine lv_bipush (v := 48) Bx.1 Bx.2.1 d_Mo_digit_1 (by decide) ?_
  refine lv_bipush (v := 57) Bx.1 Bx.2.1 d_Mo_digit_3 (by decide) ?_
  refine f_callSi (na := 3) (As := [.int (x), .int (48), .int (57)]) (rest := []) Bx hml hN (m_Mo_within l (x) (48) (57)) kw_754 kw_755 kw_8 kw_756 (by decide +kernel) ⟨rfl, rfl⟩ ⟨Nat.le_of_ble_eq_true rfl, Nat.le_of_ble_eq_true rfl⟩ rfl hl.1 (Nat.le_of_ble_eq_true rfl) d_Mo_digit_5 ⟨Nat.le_of_ble_eq_true rfl, Nat.le_of_ble_eq_true rfl⟩ (fun r1 hr5 => ?_)
  subst hr5
  exact W.zret (v := (if x < 48 ∨ 57 < x then 0 else 1)) hx hb hr (by split <;> rfl) (fun t ht hW => ⟨(if x < 48 ∨ 57 < x then 0 else 1), rfl, rfl, ht⟩) (fun _ h => by cases h) d_Mo_digit_8
set_option maxHeartbeats 4000000 in
set_option maxRecDepth 100000 in
theorem m_Mo_small (l : Launch) (x : Int32) : MS l y_Mo_small c_Mo_small 1 (some .int) ({ frames := 1, cells := 0, slots := 0, locals := 30 } : Room) [.int (x)] (fun r => r = smF x) := by
  refine Met.ofW (cc := c_Mo_small) (maxL := 1) (ret := (some .int)) (by decide) rfl ?_
  intro p e s m args below meth c s₁ B hml hv
  obtain ⟨rfl, hN⟩ := hv
  have hx := B.exec
  have hb := B.bytes
  have hr := B.returns
  have hlocks := B.notSynchronized
  have Bx : p.tables.exec = Jvm.exec ∧ c.code = c_Mo_small ∧ (∀ w ∈ TB, w.before [.int (x)].toArray s = true) ∧ s.vm.findClass "AbnfChartModel" = some m.cls ∧ True := ⟨hx, hb, tb_all (atoms_spec B.pre) hN, findClass_of_methodNamed B.named, trivial⟩
  have hl := lv_entry ([.int (x)]) (n := 1) (Nat.le_of_ble_eq_true rfl)
  rw [lg_entry_eq]
  generalize (lg_sl ([.int (x)]) ++ List.replicate (1 - (lg_sl ([.int (x)])).length) Slot.unset).toArray = ls at hl ⊢
  have hl : lv_has ls 1 [(0, .int (x))] := hl
  refine lv_iload_n Bx.1 Bx.2.1 d_Mo_small_0 rfl (lv_at hl 0 rfl) ?_
  refine lv_bipush (v := 65) Bx.1 Bx.2.1 d_Mo_small_1 (by decide) ?_
  refine lv_bipush (v := 90) Bx.1 Bx.2.1 d_Mo_small_3 (by decide) ?_
  refine f_callSi (na := 3) (As := [.int (x), .int (65), .int (90)]) (rest := []) Bx hml hN (m_Mo_within l (x) (65) (90)) kw_754 kw_755 kw_8 kw_756 (by decide +kernel) ⟨rfl, rfl⟩ ⟨Nat.le_of_ble_eq_true rfl, Nat.le_of_ble_eq_true rfl⟩ rfl hl.1 (Nat.le_of_ble_eq_true rfl) d_Mo_small_5 ⟨Nat.le_of_ble_eq_true rfl, Nat.le_of_ble_eq_true rfl⟩ (fun r1 hr5 => ?_)
  subst hr5
  refine lv_if_eq Bx.1 Bx.2.1 d_Mo_small_8 rfl (fun h8 => ?_) (fun h8 => ?_)
  · refine lv_iload_n Bx.1 Bx.2.1 d_Mo_small_18 rfl (lv_at hl 0 rfl) ?_
    exact W.iret (v := x) hx hb hr (fun t ht hW => ⟨x, rfl, by unfold smF; by_cases q2 : x < 65 ∨ 90 < x <;> simp_all, ht⟩) (fun _ h => by cases h) d_Mo_small_19
  · refine lv_iload_n Bx.1 Bx.2.1 d_Mo_small_11 rfl (lv_at hl 0 rfl) ?_
    refine lv_bipush (v := 32) Bx.1 Bx.2.1 d_Mo_small_12 (by decide) ?_
    refine lv_iadd Bx.1 Bx.2.1 d_Mo_small_14 ?_
    refine lv_goto Bx.1 Bx.2.1 d_Mo_small_15 rfl ?_
    exact W.iret (v := x + 32) hx hb hr (fun t ht hW => ⟨x + 32, rfl, by unfold smF; by_cases q2 : x < 65 ∨ 90 < x <;> simp_all, ht⟩) (fun _ h => by cases h) d_Mo_small_19
set_option maxHeartbeats 4000000 in
set_option maxRecDepth 100000 in
theorem m_Mo_begins (l : Launch) (x : Int32) : MS l y_Mo_begins c_Mo_begins 1 (some .boolean) ({ frames := 2, cells := 0, slots := 0, locals := 60 } : Room) [.int (x)] (fun r => True) := by
  refine Met.ofW (cc := c_Mo_begins) (maxL := 1) (ret := (some .boolean)) (by decide) rfl ?_
  intro p e s m args below meth c s₁ B hml hv
  obtain ⟨rfl, hN⟩ := hv
  have hx := B.exec
  have hb := B.bytes
  have hr := B.returns
  have hlocks := B.notSynchronized
  have Bx : p.tables.exec = Jvm.exec ∧ c.code = c_Mo_begins ∧ (∀ w ∈ TB, w.before [.int (x)].toArray s = true) ∧ s.vm.findClass "AbnfChartModel" = some m.cls ∧ True := ⟨hx, hb, tb_all (atoms_spec B.pre) hN, findClass_of_methodNamed B.named, trivial⟩
  have hl := lv_entry ([.int (x)]) (n := 1) (Nat.le_of_ble_eq_true rfl)
  rw [lg_entry_eq]
  generalize (lg_sl ([.int (x)]) ++ List.replicate (1 - (lg_sl ([.int (x)])).length) Slot.unset).toArray = ls at hl ⊢
  have hl : lv_has ls 1 [(0, .int (x))] := hl
  refine lv_iload_n Bx.1 Bx.2.1 d_Mo_begins_0 rfl (lv_at hl 0 rfl) ?_
  refine f_callSi (na := 1) (As := [.int (x)]) (rest := []) Bx hml hN (m_Mo_letter l (x)) kw_782 kw_783 kw_8 kw_784 (by decide +kernel) ⟨rfl, rfl⟩ ⟨Nat.le_of_ble_eq_true rfl, Nat.le_of_ble_eq_true rfl⟩ rfl hl.1 (Nat.le_of_ble_eq_true rfl) d_Mo_begins_1 ⟨Nat.le_of_ble_eq_true rfl, Nat.le_of_ble_eq_true rfl⟩ (fun r1 hr1 => ?_)
  subst hr1
  refine lv_if_ne Bx.1 Bx.2.1 d_Mo_begins_4 rfl (fun h4 => ?_) (fun h4 => ?_)
  · refine lv_iconst (v := 1) Bx.1 Bx.2.1 d_Mo_begins_44 (by decide) ?_
    refine lv_goto Bx.1 Bx.2.1 d_Mo_begins_45 rfl ?_
    exact W.zret (v := 1) hx hb hr rfl (fun t ht hW => ⟨1, rfl, trivial, ht⟩) (fun _ h => by cases h) d_Mo_begins_49
  · refine lv_iload_n Bx.1 Bx.2.1 d_Mo_begins_7 rfl (lv_at hl 0 rfl) ?_
    refine f_callSi (na := 1) (As := [.int (x)]) (rest := []) Bx hml hN (m_Mo_digit l (x)) kw_793 kw_794 kw_8 kw_795 (by decide +kernel) ⟨rfl, rfl⟩ ⟨Nat.le_of_ble_eq_true rfl, Nat.le_of_ble_eq_true rfl⟩ rfl hl.1 (Nat.le_of_ble_eq_true rfl) d_Mo_begins_8 ⟨Nat.le_of_ble_eq_true rfl, Nat.le_of_ble_eq_true rfl⟩ (fun r2 hr8 => ?_)
    subst hr8
    refine lv_if_ne Bx.1 Bx.2.1 d_Mo_begins_11 rfl (fun h11 => ?_) (fun h11 => ?_)
    · refine lv_iconst (v := 1) Bx.1 Bx.2.1 d_Mo_begins_44 (by decide) ?_
      refine lv_goto Bx.1 Bx.2.1 d_Mo_begins_45 rfl ?_
      exact W.zret (v := 1) hx hb hr rfl (fun t ht hW => ⟨1, rfl, trivial, ht⟩) (fun _ h => by cases h) d_Mo_begins_49
    · refine lv_iload_n Bx.1 Bx.2.1 d_Mo_begins_14 rfl (lv_at hl 0 rfl) ?_
      refine lv_bipush (v := 42) Bx.1 Bx.2.1 d_Mo_begins_15 (by decide) ?_
      refine lv_icmp_eq Bx.1 Bx.2.1 d_Mo_begins_17 rfl (fun h17 => ?_) (fun h17 => ?_)
      · refine lv_iconst (v := 1) Bx.1 Bx.2.1 d_Mo_begins_44 (by decide) ?_
        refine lv_goto Bx.1 Bx.2.1 d_Mo_begins_45 rfl ?_
        exact W.zret (v := 1) hx hb hr rfl (fun t ht hW => ⟨1, rfl, trivial, ht⟩) (fun _ h => by cases h) d_Mo_begins_49
      · refine lv_iload_n Bx.1 Bx.2.1 d_Mo_begins_20 rfl (lv_at hl 0 rfl) ?_
        refine lv_bipush (v := 40) Bx.1 Bx.2.1 d_Mo_begins_21 (by decide) ?_
        refine lv_icmp_eq Bx.1 Bx.2.1 d_Mo_begins_23 rfl (fun h23 => ?_) (fun h23 => ?_)
        · refine lv_iconst (v := 1) Bx.1 Bx.2.1 d_Mo_begins_44 (by decide) ?_
          refine lv_goto Bx.1 Bx.2.1 d_Mo_begins_45 rfl ?_
          exact W.zret (v := 1) hx hb hr rfl (fun t ht hW => ⟨1, rfl, trivial, ht⟩) (fun _ h => by cases h) d_Mo_begins_49
        · refine lv_iload_n Bx.1 Bx.2.1 d_Mo_begins_26 rfl (lv_at hl 0 rfl) ?_
          refine lv_bipush (v := 91) Bx.1 Bx.2.1 d_Mo_begins_27 (by decide) ?_
          refine lv_icmp_eq Bx.1 Bx.2.1 d_Mo_begins_29 rfl (fun h29 => ?_) (fun h29 => ?_)
          · refine lv_iconst (v := 1) Bx.1 Bx.2.1 d_Mo_begins_44 (by decide) ?_
            refine lv_goto Bx.1 Bx.2.1 d_Mo_begins_45 rfl ?_
            exact W.zret (v := 1) hx hb hr rfl (fun t ht hW => ⟨1, rfl, trivial, ht⟩) (fun _ h => by cases h) d_Mo_begins_49
          · refine lv_iload_n Bx.1 Bx.2.1 d_Mo_begins_32 rfl (lv_at hl 0 rfl) ?_
            refine lv_bipush (v := 34) Bx.1 Bx.2.1 d_Mo_begins_33 (by decide) ?_
            refine lv_icmp_eq Bx.1 Bx.2.1 d_Mo_begins_35 rfl (fun h35 => ?_) (fun h35 => ?_)
            · refine lv_iconst (v := 1) Bx.1 Bx.2.1 d_Mo_begins_44 (by decide) ?_
              refine lv_goto Bx.1 Bx.2.1 d_Mo_begins_45 rfl ?_
              exact W.zret (v := 1) hx hb hr rfl (fun t ht hW => ⟨1, rfl, trivial, ht⟩) (fun _ h => by cases h) d_Mo_begins_49
            · refine lv_iload_n Bx.1 Bx.2.1 d_Mo_begins_38 rfl (lv_at hl 0 rfl) ?_
              refine lv_bipush (v := 37) Bx.1 Bx.2.1 d_Mo_begins_39 (by decide) ?_
              refine lv_icmp_ne Bx.1 Bx.2.1 d_Mo_begins_41 rfl (fun h41 => ?_) (fun h41 => ?_)
              · refine lv_iconst (v := 0) Bx.1 Bx.2.1 d_Mo_begins_48 (by decide) ?_
                exact W.zret (v := 0) hx hb hr rfl (fun t ht hW => ⟨0, rfl, trivial, ht⟩) (fun _ h => by cases h) d_Mo_begins_49
              · refine lv_iconst (v := 1) Bx.1 Bx.2.1 d_Mo_begins_44 (by decide) ?_
                refine lv_goto Bx.1 Bx.2.1 d_Mo_begins_45 rfl ?_
                exact W.zret (v := 1) hx hb hr rfl (fun t ht hW => ⟨1, rfl, trivial, ht⟩) (fun _ h => by cases h) d_Mo_begins_49
set_option maxHeartbeats 4000000 in
set_option maxRecDepth 100000 in
theorem m_Mo_figure (l : Launch) (x y : Int32) : MS l y_Mo_figure c_Mo_figure 2 (some .int) ({ frames := 2, cells := 0, slots := 0, locals := 60 } : Room) [.int (x), .int (y)] (fun r => x = -1 → r < 0) := by
  refine Met.ofW (cc := c_Mo_figure) (maxL := 2) (ret := (some .int)) (by decide) rfl ?_
  intro p e s m args below meth c s₁ B hml hv
  obtain ⟨rfl, hN⟩ := hv
  have hx := B.exec
  have hb := B.bytes
  have hr := B.returns
  have hlocks := B.notSynchronized
  have Bx : p.tables.exec = Jvm.exec ∧ c.code = c_Mo_figure ∧ (∀ w ∈ TB, w.before [.int (x), .int (y)].toArray s = true) ∧ s.vm.findClass "AbnfChartModel" = some m.cls ∧ True := ⟨hx, hb, tb_all (atoms_spec B.pre) hN, findClass_of_methodNamed B.named, trivial⟩
  have hl := lv_entry ([.int (x), .int (y)]) (n := 2) (Nat.le_of_ble_eq_true rfl)
  rw [lg_entry_eq]
  generalize (lg_sl ([.int (x), .int (y)]) ++ List.replicate (2 - (lg_sl ([.int (x), .int (y)])).length) Slot.unset).toArray = ls at hl ⊢
  have hl : lv_has ls 2 [(0, .int (x)), (1, .int (y))] := hl
  refine lv_iload_n Bx.1 Bx.2.1 d_Mo_figure_0 rfl (lv_at hl 0 rfl) ?_
  refine f_callSi (na := 1) (As := [.int (x)]) (rest := []) Bx hml hN (m_Mo_digit l (x)) kw_793 kw_794 kw_8 kw_795 (by decide +kernel) ⟨rfl, rfl⟩ ⟨Nat.le_of_ble_eq_true rfl, Nat.le_of_ble_eq_true rfl⟩ rfl hl.1 (Nat.le_of_ble_eq_true rfl) d_Mo_figure_1 ⟨Nat.le_of_ble_eq_true rfl, Nat.le_of_ble_eq_true rfl⟩ (fun r1 hr1 => ?_)
  subst hr1
  refine lv_if_eq Bx.1 Bx.2.1 d_Mo_figure_4 rfl (fun h4 => ?_) (fun h4 => ?_)
  · refine lv_iload_n Bx.1 Bx.2.1 d_Mo_figure_12 rfl (lv_at hl 1 rfl) ?_
    refine lv_bipush (v := 16) Bx.1 Bx.2.1 d_Mo_figure_13 (by decide) ?_
    refine lv_icmp_ne Bx.1 Bx.2.1 d_Mo_figure_15 rfl (fun h15 => ?_) (fun h15 => ?_)
    · refine lv_iconst (v := -1) Bx.1 Bx.2.1 d_Mo_figure_42 (by decide) ?_
      exact W.iret (v := (-1)) hx hb hr (fun t ht hW => ⟨(-1), rfl, by intro hx9; subst hx9; first | exact absurd (by decide) h4 | exact absurd (by decide) h29 | decide, ht⟩) (fun _ h => by cases h) d_Mo_figure_43
    · refine lv_iload_n Bx.1 Bx.2.1 d_Mo_figure_18 rfl (lv_at hl 0 rfl) ?_
      refine f_callSi (na := 1) (As := [.int (x)]) (rest := []) Bx hml hN (m_Mo_small l (x)) kw_796 kw_797 kw_8 kw_798 (by decide +kernel) ⟨rfl, rfl⟩ ⟨Nat.le_of_ble_eq_true rfl, Nat.le_of_ble_eq_true rfl⟩ rfl hl.1 (Nat.le_of_ble_eq_true rfl) d_Mo_figure_19 ⟨Nat.le_of_ble_eq_true rfl, Nat.le_of_ble_eq_true rfl⟩ (fun r2 hr19 => ?_)
      subst hr19
      refine lv_bipush (v := 97) Bx.1 Bx.2.1 d_Mo_figure_22 (by decide) ?_
      refine lv_bipush (v := 102) Bx.1 Bx.2.1 d_Mo_figure_24 (by decide) ?_
      refine f_callSi (na := 3) (As := [.int (smF (x)), .int (97), .int (102)]) (rest := []) Bx hml hN (m_Mo_within l (smF (x)) (97) (102)) kw_754 kw_755 kw_8 kw_756 (by decide +kernel) ⟨rfl, rfl⟩ ⟨Nat.le_of_ble_eq_true rfl, Nat.le_of_ble_eq_true rfl⟩ rfl hl.1 (Nat.le_of_ble_eq_true rfl) d_Mo_figure_26 ⟨Nat.le_of_ble_eq_true rfl, Nat.le_of_ble_eq_true rfl⟩ (fun r3 hr26 => ?_)
      subst hr26
      refine lv_if_eq Bx.1 Bx.2.1 d_Mo_figure_29 rfl (fun h29 => ?_) (fun h29 => ?_)
      · refine lv_iconst (v := -1) Bx.1 Bx.2.1 d_Mo_figure_42 (by decide) ?_
        exact W.iret (v := (-1)) hx hb hr (fun t ht hW => ⟨(-1), rfl, by intro hx9; subst hx9; first | exact absurd (by decide) h4 | exact absurd (by decide) h29 | decide, ht⟩) (fun _ h => by cases h) d_Mo_figure_43
      · refine lv_iload_n Bx.1 Bx.2.1 d_Mo_figure_32 rfl (lv_at hl 0 rfl) ?_
        refine f_callSi (na := 1) (As := [.int (x)]) (rest := []) Bx hml hN (m_Mo_small l (x)) kw_796 kw_797 kw_8 kw_798 (by decide +kernel) ⟨rfl, rfl⟩ ⟨Nat.le_of_ble_eq_true rfl, Nat.le_of_ble_eq_true rfl⟩ rfl hl.1 (Nat.le_of_ble_eq_true rfl) d_Mo_figure_33 ⟨Nat.le_of_ble_eq_true rfl, Nat.le_of_ble_eq_true rfl⟩ (fun r4 hr33 => ?_)
        subst hr33
        refine lv_bipush (v := 87) Bx.1 Bx.2.1 d_Mo_figure_36 (by decide) ?_
        refine lv_isub Bx.1 Bx.2.1 d_Mo_figure_38 ?_
        refine lv_goto Bx.1 Bx.2.1 d_Mo_figure_39 rfl ?_
        exact W.iret (v := smF (x) - 87) hx hb hr (fun t ht hW => ⟨smF (x) - 87, rfl, by intro hx9; subst hx9; first | exact absurd (by decide) h4 | exact absurd (by decide) h29 | decide, ht⟩) (fun _ h => by cases h) d_Mo_figure_43
  · refine lv_iload_n Bx.1 Bx.2.1 d_Mo_figure_7 rfl (lv_at hl 0 rfl) ?_
    refine lv_bipush (v := 48) Bx.1 Bx.2.1 d_Mo_figure_8 (by decide) ?_
    refine lv_isub Bx.1 Bx.2.1 d_Mo_figure_10 ?_
    exact W.iret (v := x - 48) hx hb hr (fun t ht hW => ⟨x - 48, rfl, by intro hx9; subst hx9; first | exact absurd (by decide) h4 | exact absurd (by decide) h29 | decide, ht⟩) (fun _ h => by cases h) d_Mo_figure_11
set_option maxHeartbeats 4000000 in
set_option maxRecDepth 100000 in
theorem m_Mo_here (l : Launch) {D : va_G} {cy : Nat → ClassId} {sz n : Nat} {ad : Nat → Nat} {mem : Nat → va_E} {J : Nat → Int32} {A : Nat → Nat → Int32} {nm : Nat → Int64} {m0 : Nat → va_E} {L a : Nat} (hn : 242 ≤ n) (hM : MW cy ad J A nm m0 mem) (h1 : J 1 = nI L) (hL : L ≤ 240) (ha : J 16 = nI a) (haB : a ≤ 1000) : MI l D cy sz n ad y_Mo_here c_Mo_here 1 (some .int) ({ frames := 0, cells := 0, slots := 0, locals := 0 } : Room) mem [.ref (ad 224)] (fun r mem' => r = hereF L (A 225) a ∧ mem' = mem) := by
  refine Met.ofW (cc := c_Mo_here) (maxL := 1) (ret := (some .int)) (by decide) rfl ?_
  intro p e s m args below meth c s₁ B hml hv
  obtain ⟨rfl, E, hP, hD⟩ := hv
  have hx := B.exec
  have hb := B.bytes
  have hr := B.returns
  have hlocks := B.notSynchronized
  have Bx : MB p s m [.ref (ad 224)].toArray c c_Mo_here "AbnfChartModel" D cy := ⟨hx, hb, tb_all (atoms_spec B.pre) E.2.1, findClass_of_methodNamed B.named, E.1⟩
  have hS : va_S (Az sz) s.heap s.heap [] := va_S.rf
  have hl := lv_entry ([.ref (ad 224)]) (n := 1) (Nat.le_of_ble_eq_true rfl)
  rw [lg_entry_eq]
  generalize (lg_sl ([.ref (ad 224)]) ++ List.replicate (1 - (lg_sl ([.ref (ad 224)])).length) Slot.unset).toArray = ls at hl ⊢
  have hl : lv_has ls 1 [(0, .ref (ad 224))] := hl
  refine lv_aload_n Bx.1 Bx.2.1 d_Mo_here_0 rfl (lv_at hl 0 rfl) ?_
  refine f_get Bx hP (by omega) hM.1 rfl inMo 16 (by decide) kw_672 rfl rfl d_Mo_here_1 ?_
  rw [ha]
  refine lv_aload_n Bx.1 Bx.2.1 d_Mo_here_4 rfl (lv_at hl 0 rfl) ?_
  refine f_get Bx hP (by omega) hM.1 rfl inMo 1 (by decide) kw_657 rfl rfl d_Mo_here_5 ?_
  rw [h1]
  refine lv_icmp_ge Bx.1 Bx.2.1 d_Mo_here_8 rfl (fun hb1 => ?_) (fun hb1 => ?_)
  · have hN2 : L ≤ a := (nI_leI (by omega) (by omega)).mp (show nI (L) ≤ nI (a) from hb1)
    refine lv_iconst (v := -1) Bx.1 Bx.2.1 d_Mo_here_23 (by decide) ?_
    exact W.iret (v := (-1)) hx hb hr (fun t ht hW => ⟨⟨(-1), mem, rfl, ⟨by unfold hereF; first | rw [if_pos (by omega)] | rw [if_neg (by omega)], rfl⟩, by show va_P _ _ _ t.heap; rw [ht]; exact hP⟩, hS.F ht⟩) hS.2.2 d_Mo_here_24
  · have hN3 : ¬ L ≤ a := fun q9 => hb1 (show nI (L) ≤ nI (a) from (nI_leI (by omega) (by omega)).mpr q9)
    refine lv_aload_n Bx.1 Bx.2.1 d_Mo_here_11 rfl (lv_at hl 0 rfl) ?_
    refine f_get Bx hP (by omega) hM.1 rfl inMo 2 (by decide) kw_658 rfl rfl d_Mo_here_12 ?_
    refine lv_aload_n Bx.1 Bx.2.1 d_Mo_here_15 rfl (lv_at hl 0 rfl) ?_
    refine f_get Bx hP (by omega) hM.1 rfl inMo 16 (by decide) kw_672 rfl rfl d_Mo_here_16 ?_
    rw [ha]
    refine f_iald Bx hP (by omega) (show mem 225 = .inl (cy 1, 240, .inl (A 225)) from hM.2.2.1 225 (by decide) (by decide) (by decide)) (vp_in_nI (n := a) (by omega) (by decide)) d_Mo_here_19 ?_
    rw [nI_clamp (n := a) (by omega)]
    refine lv_goto Bx.1 Bx.2.1 d_Mo_here_20 rfl ?_
    exact W.iret (v := A 225 (a)) hx hb hr (fun t ht hW => ⟨⟨A 225 (a), mem, rfl, ⟨by unfold hereF; first | rw [if_pos (by omega)] | rw [if_neg (by omega)], rfl⟩, by show va_P _ _ _ t.heap; rw [ht]; exact hP⟩, hS.F ht⟩) hS.2.2 d_Mo_here_24
set_option maxHeartbeats 4000000 in
set_option maxRecDepth 100000 in
theorem m_Mo_rest (l : Launch) {D : va_G} {cy : Nat → ClassId} {sz n : Nat} {ad : Nat → Nat} {mem : Nat → va_E} {J : Nat → Int32} {A : Nat → Nat → Int32} {nm : Nat → Int64} {m0 : Nat → va_E} {L k0 : Nat} (hn : 242 ≤ n) (hM : MW cy ad J A nm m0 mem) (h1 : J 1 = nI L) (hL : L ≤ 240) (hk0 : k0 ≤ L) : MI l D cy sz n ad y_Mo_rest c_Mo_rest 3 (some .int) ({ frames := 0, cells := 0, slots := 0, locals := 0 } : Room) mem [.ref (ad 224), .int (nI k0)] (fun r mem' => (∃ k, r = nI k ∧ k0 ≤ k ∧ k ≤ L) ∧ mem' = mem) := by
  refine Met.ofW (cc := c_Mo_rest) (maxL := 3) (ret := (some .int)) (by decide) rfl ?_
  intro p e s m args below meth c s₁ B hml hv
  obtain ⟨rfl, E, hP, hD⟩ := hv
  have hx := B.exec
  have hb := B.bytes
  have hr := B.returns
  have hlocks := B.notSynchronized
  have Bx : MB p s m [.ref (ad 224), .int (nI k0)].toArray c c_Mo_rest "AbnfChartModel" D cy := ⟨hx, hb, tb_all (atoms_spec B.pre) E.2.1, findClass_of_methodNamed B.named, E.1⟩
  have hS : va_S (Az sz) s.heap s.heap [] := va_S.rf
  have hl := lv_entry ([.ref (ad 224), .int (nI k0)]) (n := 3) (Nat.le_of_ble_eq_true rfl)
  rw [lg_entry_eq]
  generalize (lg_sl ([.ref (ad 224), .int (nI k0)]) ++ List.replicate (3 - (lg_sl ([.ref (ad 224), .int (nI k0)])).length) Slot.unset).toArray = ls at hl ⊢
  have hl : lv_has ls 3 [(0, .ref (ad 224)), (1, .int (nI k0))] := hl
  refine lv_iload_n Bx.1 Bx.2.1 d_Mo_rest_0 rfl (lv_at hl 1 rfl) ?_
  refine lv_istore_n (lv' := [(2, .int (nI k0)), (0, .ref (ad 224)), (1, .int (nI k0))]) Bx.1 Bx.2.1 d_Mo_rest_1 rfl hl (by decide) rfl (fun ls hl => ?_)
  have loop1 : ∀ (d2 : Nat) (k1 : Nat) (ls : Array Slot) (H : Heap) (locs : List Loc), (L - k1 < d2) → (k0 ≤ k1 ∧ k1 ≤ L) → (va_P D vcl (fw n ad mem) H) → (va_D (Az sz) (fw n ad mem)) → (va_S (Az sz) s.heap H locs) → (lv_has ls 3 [(2, .int (nI k1)), (0, .ref (ad 224)), (1, .int (nI k0))]) → W p l e (headSpec (Cond.code y_Mo_rest c_Mo_rest 3 (some .int) :: tg) ({ frames := 0, cells := 0, slots := 0, locals := 0 } : Room)).room s m [.ref (ad 224), .int (nI k0)].toArray below meth c H locs 0 0 (MQ below (va_Qi (fun r mem' => (∃ k, r = nI k ∧ k0 ≤ k ∧ k ≤ L) ∧ mem' = mem) (PP D n ad) (Az sz)) [.ref (ad 224), .int (nI k0)].toArray s 0 0 (Az sz)) (F0 m 2 ls []) := by
    intro d2
    induction d2 with
    | zero => intro k1 ls H locs hmeas5; exact absurd hmeas5 (Nat.not_lt_zero _)
    | succ d2 ih4 =>
      intro k1 ls H locs hmeas5 hz3 hP hD hS hl
      refine lv_iload_n Bx.1 Bx.2.1 d_Mo_rest_2 rfl (lv_at hl 0 rfl) ?_
      refine lv_aload_n Bx.1 Bx.2.1 d_Mo_rest_3 rfl (lv_at hl 1 rfl) ?_
      refine f_get Bx hP (by omega) hM.1 rfl inMo 1 (by decide) kw_657 rfl rfl d_Mo_rest_4 ?_
      rw [h1]
      refine lv_icmp_ge Bx.1 Bx.2.1 d_Mo_rest_7 rfl (fun hb6 => ?_) (fun hb6 => ?_)
      · have hN7 : L ≤ k1 := (nI_leI (by omega) (by omega)).mp (show nI (L) ≤ nI (k1) from hb6)
        refine lv_iload_n Bx.1 Bx.2.1 d_Mo_rest_27 rfl (lv_at hl 0 rfl) ?_
        refine lv_aload_n Bx.1 Bx.2.1 d_Mo_rest_28 rfl (lv_at hl 1 rfl) ?_
        refine f_get Bx hP (by omega) hM.1 rfl inMo 1 (by decide) kw_657 rfl rfl d_Mo_rest_29 ?_
        rw [h1]
        refine lv_icmp_ge Bx.1 Bx.2.1 d_Mo_rest_32 rfl (fun hb8 => ?_) (fun hb8 => ?_)
        · have hN9 : L ≤ k1 := (nI_leI (by omega) (by omega)).mp (show nI (L) ≤ nI (k1) from hb8)
          refine lv_iload_n Bx.1 Bx.2.1 d_Mo_rest_71 rfl (lv_at hl 0 rfl) ?_
          exact W.iret (v := nI k1) hx hb hr (fun t ht hW => ⟨⟨nI k1, mem, rfl, ⟨⟨k1, rfl, by omega, by omega⟩, rfl⟩, by show va_P _ _ _ t.heap; rw [ht]; exact hP⟩, hS.F ht⟩) hS.2.2 d_Mo_rest_72
        · have hN10 : ¬ L ≤ k1 := fun q9 => hb8 (show nI (L) ≤ nI (k1) from (nI_leI (by omega) (by omega)).mpr q9)
          refine lv_aload_n Bx.1 Bx.2.1 d_Mo_rest_35 rfl (lv_at hl 1 rfl) ?_
          refine f_get Bx hP (by omega) hM.1 rfl inMo 2 (by decide) kw_658 rfl rfl d_Mo_rest_36 ?_
          refine lv_iload_n Bx.1 Bx.2.1 d_Mo_rest_39 rfl (lv_at hl 0 rfl) ?_
          refine f_iald Bx hP (by omega) (show mem 225 = .inl (cy 1, 240, .inl (A 225)) from hM.2.2.1 225 (by decide) (by decide) (by decide)) (vp_in_nI (n := k1) (by omega) (by decide)) d_Mo_rest_40 ?_
          rw [nI_clamp (n := k1) (by omega)]
          refine lv_bipush (v := 59) Bx.1 Bx.2.1 d_Mo_rest_41 (by decide) ?_
          refine lv_icmp_ne Bx.1 Bx.2.1 d_Mo_rest_43 rfl (fun hb11 => ?_) (fun hb11 => ?_)
          · refine lv_iload_n Bx.1 Bx.2.1 d_Mo_rest_71 rfl (lv_at hl 0 rfl) ?_
            exact W.iret (v := nI k1) hx hb hr (fun t ht hW => ⟨⟨nI k1, mem, rfl, ⟨⟨k1, rfl, by omega, by omega⟩, rfl⟩, by show va_P _ _ _ t.heap; rw [ht]; exact hP⟩, hS.F ht⟩) hS.2.2 d_Mo_rest_72
          · have loop12 : ∀ (d13 : Nat) (k3 : Nat) (ls : Array Slot) (H : Heap) (locs : List Loc), (L - k3 < d13) → (k0 ≤ k3 ∧ k3 ≤ L) → (va_P D vcl (fw n ad mem) H) → (va_D (Az sz) (fw n ad mem)) → (va_S (Az sz) s.heap H locs) → (lv_has ls 3 [(2, .int (nI k3)), (0, .ref (ad 224)), (1, .int (nI k0))]) → W p l e (headSpec (Cond.code y_Mo_rest c_Mo_rest 3 (some .int) :: tg) ({ frames := 0, cells := 0, slots := 0, locals := 0 } : Room)).room s m [.ref (ad 224), .int (nI k0)].toArray below meth c H locs 0 0 (MQ below (va_Qi (fun r mem' => (∃ k, r = nI k ∧ k0 ≤ k ∧ k ≤ L) ∧ mem' = mem) (PP D n ad) (Az sz)) [.ref (ad 224), .int (nI k0)].toArray s 0 0 (Az sz)) (F0 m 46 ls []) := by
              intro d13
              induction d13 with
              | zero => intro k3 ls H locs hmeas16; exact absurd hmeas16 (Nat.not_lt_zero _)
              | succ d13 ih15 =>
                intro k3 ls H locs hmeas16 hz14 hP hD hS hl
                refine lv_iload_n Bx.1 Bx.2.1 d_Mo_rest_46 rfl (lv_at hl 0 rfl) ?_
                refine lv_aload_n Bx.1 Bx.2.1 d_Mo_rest_47 rfl (lv_at hl 1 rfl) ?_
                refine f_get Bx hP (by omega) hM.1 rfl inMo 1 (by decide) kw_657 rfl rfl d_Mo_rest_48 ?_
                rw [h1]
                refine lv_icmp_ge Bx.1 Bx.2.1 d_Mo_rest_51 rfl (fun hb17 => ?_) (fun hb17 => ?_)
                · have hN18 : L ≤ k3 := (nI_leI (by omega) (by omega)).mp (show nI (L) ≤ nI (k3) from hb17)
                  refine lv_iload_n Bx.1 Bx.2.1 d_Mo_rest_71 rfl (lv_at hl 0 rfl) ?_
                  exact W.iret (v := nI k3) hx hb hr (fun t ht hW => ⟨⟨nI k3, mem, rfl, ⟨⟨k3, rfl, by omega, by omega⟩, rfl⟩, by show va_P _ _ _ t.heap; rw [ht]; exact hP⟩, hS.F ht⟩) hS.2.2 d_Mo_rest_72
                · have hN19 : ¬ L ≤ k3 := fun q9 => hb17 (show nI (L) ≤ nI (k3) from (nI_leI (by omega) (by omega)).mpr q9)
                  refine lv_aload_n Bx.1 Bx.2.1 d_Mo_rest_54 rfl (lv_at hl 1 rfl) ?_
                  refine f_get Bx hP (by omega) hM.1 rfl inMo 2 (by decide) kw_658 rfl rfl d_Mo_rest_55 ?_
                  refine lv_iload_n Bx.1 Bx.2.1 d_Mo_rest_58 rfl (lv_at hl 0 rfl) ?_
                  refine f_iald Bx hP (by omega) (show mem 225 = .inl (cy 1, 240, .inl (A 225)) from hM.2.2.1 225 (by decide) (by decide) (by decide)) (vp_in_nI (n := k3) (by omega) (by decide)) d_Mo_rest_59 ?_
                  rw [nI_clamp (n := k3) (by omega)]
                  refine lv_bipush (v := 10) Bx.1 Bx.2.1 d_Mo_rest_60 (by decide) ?_
                  refine lv_icmp_eq Bx.1 Bx.2.1 d_Mo_rest_62 rfl (fun hb20 => ?_) (fun hb20 => ?_)
                  · refine lv_iload_n Bx.1 Bx.2.1 d_Mo_rest_71 rfl (lv_at hl 0 rfl) ?_
                    exact W.iret (v := nI k3) hx hb hr (fun t ht hW => ⟨⟨nI k3, mem, rfl, ⟨⟨k3, rfl, by omega, by omega⟩, rfl⟩, by show va_P _ _ _ t.heap; rw [ht]; exact hP⟩, hS.F ht⟩) hS.2.2 d_Mo_rest_72
                  · refine lv_iinc (lv' := [(2, .int ((nI k3 + (1)))), (0, .ref (ad 224)), (1, .int (nI k0))]) Bx.1 Bx.2.1 d_Mo_rest_65 hl (k := 0) rfl rfl (by decide) rfl (fun ls hl => ?_)
                    rw [show (nI k3 + (1) : Int32) = nI (k3 + 1) from nI_1 (k3)] at hl
                    refine lv_goto Bx.1 Bx.2.1 d_Mo_rest_68 rfl ?_
                    exact ih15 (k3 + 1) _ _ _ (by have := hmeas16; omega) (by omega) hP hD hS (lv_sub hl [0, 1, 2] rfl)
            exact loop12 _ (k1) _ _ _ (Nat.lt_succ_self _) (⟨by omega, by omega⟩) hP hD hS (lv_sub hl [0, 1, 2] rfl)
      · have hN21 : ¬ L ≤ k1 := fun q9 => hb6 (show nI (L) ≤ nI (k1) from (nI_leI (by omega) (by omega)).mpr q9)
        refine lv_aload_n Bx.1 Bx.2.1 d_Mo_rest_10 rfl (lv_at hl 1 rfl) ?_
        refine f_get Bx hP (by omega) hM.1 rfl inMo 2 (by decide) kw_658 rfl rfl d_Mo_rest_11 ?_
        refine lv_iload_n Bx.1 Bx.2.1 d_Mo_rest_14 rfl (lv_at hl 0 rfl) ?_
        refine f_iald Bx hP (by omega) (show mem 225 = .inl (cy 1, 240, .inl (A 225)) from hM.2.2.1 225 (by decide) (by decide) (by decide)) (vp_in_nI (n := k1) (by omega) (by decide)) d_Mo_rest_15 ?_
        rw [nI_clamp (n := k1) (by omega)]
        refine lv_bipush (v := 32) Bx.1 Bx.2.1 d_Mo_rest_16 (by decide) ?_
        refine lv_icmp_ne Bx.1 Bx.2.1 d_Mo_rest_18 rfl (fun hb22 => ?_) (fun hb22 => ?_)
        · refine lv_iload_n Bx.1 Bx.2.1 d_Mo_rest_27 rfl (lv_at hl 0 rfl) ?_
          refine lv_aload_n Bx.1 Bx.2.1 d_Mo_rest_28 rfl (lv_at hl 1 rfl) ?_
          refine f_get Bx hP (by omega) hM.1 rfl inMo 1 (by decide) kw_657 rfl rfl d_Mo_rest_29 ?_
          rw [h1]
          refine lv_icmp_ge Bx.1 Bx.2.1 d_Mo_rest_32 rfl (fun hb23 => ?_) (fun hb23 => ?_)
          · have hN24 : L ≤ k1 := (nI_leI (by omega) (by omega)).mp (show nI (L) ≤ nI (k1) from hb23)
            refine lv_iload_n Bx.1 Bx.2.1 d_Mo_rest_71 rfl (lv_at hl 0 rfl) ?_
            exact W.iret (v := nI k1) hx hb hr (fun t ht hW => ⟨⟨nI k1, mem, rfl, ⟨⟨k1, rfl, by omega, by omega⟩, rfl⟩, by show va_P _ _ _ t.heap; rw [ht]; exact hP⟩, hS.F ht⟩) hS.2.2 d_Mo_rest_72
          · have hN25 : ¬ L ≤ k1 := fun q9 => hb23 (show nI (L) ≤ nI (k1) from (nI_leI (by omega) (by omega)).mpr q9)
            refine lv_aload_n Bx.1 Bx.2.1 d_Mo_rest_35 rfl (lv_at hl 1 rfl) ?_
            refine f_get Bx hP (by omega) hM.1 rfl inMo 2 (by decide) kw_658 rfl rfl d_Mo_rest_36 ?_
            refine lv_iload_n Bx.1 Bx.2.1 d_Mo_rest_39 rfl (lv_at hl 0 rfl) ?_
            refine f_iald Bx hP (by omega) (show mem 225 = .inl (cy 1, 240, .inl (A 225)) from hM.2.2.1 225 (by decide) (by decide) (by decide)) (vp_in_nI (n := k1) (by omega) (by decide)) d_Mo_rest_40 ?_
            rw [nI_clamp (n := k1) (by omega)]
            refine lv_bipush (v := 59) Bx.1 Bx.2.1 d_Mo_rest_41 (by decide) ?_
            refine lv_icmp_ne Bx.1 Bx.2.1 d_Mo_rest_43 rfl (fun hb26 => ?_) (fun hb26 => ?_)
            · refine lv_iload_n Bx.1 Bx.2.1 d_Mo_rest_71 rfl (lv_at hl 0 rfl) ?_
              exact W.iret (v := nI k1) hx hb hr (fun t ht hW => ⟨⟨nI k1, mem, rfl, ⟨⟨k1, rfl, by omega, by omega⟩, rfl⟩, by show va_P _ _ _ t.heap; rw [ht]; exact hP⟩, hS.F ht⟩) hS.2.2 d_Mo_rest_72
            · have loop27 : ∀ (d28 : Nat) (k3 : Nat) (ls : Array Slot) (H : Heap) (locs : List Loc), (L - k3 < d28) → (k0 ≤ k3 ∧ k3 ≤ L) → (va_P D vcl (fw n ad mem) H) → (va_D (Az sz) (fw n ad mem)) → (va_S (Az sz) s.heap H locs) → (lv_has ls 3 [(2, .int (nI k3)), (0, .ref (ad 224)), (1, .int (nI k0))]) → W p l e (headSpec (Cond.code y_Mo_rest c_Mo_rest 3 (some .int) :: tg) ({ frames := 0, cells := 0, slots := 0, locals := 0 } : Room)).room s m [.ref (ad 224), .int (nI k0)].toArray below meth c H locs 0 0 (MQ below (va_Qi (fun r mem' => (∃ k, r = nI k ∧ k0 ≤ k ∧ k ≤ L) ∧ mem' = mem) (PP D n ad) (Az sz)) [.ref (ad 224), .int (nI k0)].toArray s 0 0 (Az sz)) (F0 m 46 ls []) := by
                intro d28
                induction d28 with
                | zero => intro k3 ls H locs hmeas31; exact absurd hmeas31 (Nat.not_lt_zero _)
                | succ d28 ih30 =>
                  intro k3 ls H locs hmeas31 hz29 hP hD hS hl
                  refine lv_iload_n Bx.1 Bx.2.1 d_Mo_rest_46 rfl (lv_at hl 0 rfl) ?_
                  refine lv_aload_n Bx.1 Bx.2.1 d_Mo_rest_47 rfl (lv_at hl 1 rfl) ?_
                  refine f_get Bx hP (by omega) hM.1 rfl inMo 1 (by decide) kw_657 rfl rfl d_Mo_rest_48 ?_
                  rw [h1]
                  refine lv_icmp_ge Bx.1 Bx.2.1 d_Mo_rest_51 rfl (fun hb32 => ?_) (fun hb32 => ?_)
                  · have hN33 : L ≤ k3 := (nI_leI (by omega) (by omega)).mp (show nI (L) ≤ nI (k3) from hb32)
                    refine lv_iload_n Bx.1 Bx.2.1 d_Mo_rest_71 rfl (lv_at hl 0 rfl) ?_
                    exact W.iret (v := nI k3) hx hb hr (fun t ht hW => ⟨⟨nI k3, mem, rfl, ⟨⟨k3, rfl, by omega, by omega⟩, rfl⟩, by show va_P _ _ _ t.heap; rw [ht]; exact hP⟩, hS.F ht⟩) hS.2.2 d_Mo_rest_72
                  · have hN34 : ¬ L ≤ k3 := fun q9 => hb32 (show nI (L) ≤ nI (k3) from (nI_leI (by omega) (by omega)).mpr q9)
                    refine lv_aload_n Bx.1 Bx.2.1 d_Mo_rest_54 rfl (lv_at hl 1 rfl) ?_
                    refine f_get Bx hP (by omega) hM.1 rfl inMo 2 (by decide) kw_658 rfl rfl d_Mo_rest_55 ?_
                    refine lv_iload_n Bx.1 Bx.2.1 d_Mo_rest_58 rfl (lv_at hl 0 rfl) ?_
                    refine f_iald Bx hP (by omega) (show mem 225 = .inl (cy 1, 240, .inl (A 225)) from hM.2.2.1 225 (by decide) (by decide) (by decide)) (vp_in_nI (n := k3) (by omega) (by decide)) d_Mo_rest_59 ?_
                    rw [nI_clamp (n := k3) (by omega)]
                    refine lv_bipush (v := 10) Bx.1 Bx.2.1 d_Mo_rest_60 (by decide) ?_
                    refine lv_icmp_eq Bx.1 Bx.2.1 d_Mo_rest_62 rfl (fun hb35 => ?_) (fun hb35 => ?_)
                    · refine lv_iload_n Bx.1 Bx.2.1 d_Mo_rest_71 rfl (lv_at hl 0 rfl) ?_
                      exact W.iret (v := nI k3) hx hb hr (fun t ht hW => ⟨⟨nI k3, mem, rfl, ⟨⟨k3, rfl, by omega, by omega⟩, rfl⟩, by show va_P _ _ _ t.heap; rw [ht]; exact hP⟩, hS.F ht⟩) hS.2.2 d_Mo_rest_72
                    · refine lv_iinc (lv' := [(2, .int ((nI k3 + (1)))), (0, .ref (ad 224)), (1, .int (nI k0))]) Bx.1 Bx.2.1 d_Mo_rest_65 hl (k := 0) rfl rfl (by decide) rfl (fun ls hl => ?_)
                      rw [show (nI k3 + (1) : Int32) = nI (k3 + 1) from nI_1 (k3)] at hl
                      refine lv_goto Bx.1 Bx.2.1 d_Mo_rest_68 rfl ?_
                      exact ih30 (k3 + 1) _ _ _ (by have := hmeas31; omega) (by omega) hP hD hS (lv_sub hl [0, 1, 2] rfl)
              exact loop27 _ (k1) _ _ _ (Nat.lt_succ_self _) (⟨by omega, by omega⟩) hP hD hS (lv_sub hl [0, 1, 2] rfl)
        · refine lv_iinc (lv' := [(2, .int ((nI k1 + (1)))), (0, .ref (ad 224)), (1, .int (nI k0))]) Bx.1 Bx.2.1 d_Mo_rest_21 hl (k := 0) rfl rfl (by decide) rfl (fun ls hl => ?_)
          rw [show (nI k1 + (1) : Int32) = nI (k1 + 1) from nI_1 (k1)] at hl
          refine lv_goto Bx.1 Bx.2.1 d_Mo_rest_24 rfl ?_
          exact ih4 (k1 + 1) _ _ _ (by have := hmeas5; omega) (by omega) hP hD hS (lv_sub hl [0, 1, 2] rfl)
  exact loop1 _ (k0) _ _ _ (Nat.lt_succ_self _) (⟨by omega, by omega⟩) hP hD hS (lv_sub hl [0, 1, 2] rfl)
set_option maxHeartbeats 4000000 in
set_option maxRecDepth 100000 in
theorem m_Mo_line (l : Launch) {D : va_G} {cy : Nat → ClassId} {sz n : Nat} {ad : Nat → Nat} {mem : Nat → va_E} {J : Nat → Int32} {A : Nat → Nat → Int32} {nm : Nat → Int64} {m0 : Nat → va_E} {L k0 : Nat} (hn : 242 ≤ n) (hM : MW cy ad J A nm m0 mem) (h1 : J 1 = nI L) (hL : L ≤ 240) (hk0 : k0 ≤ L) : MI l D cy sz n ad y_Mo_line c_Mo_line 4 (some .int) ({ frames := 1, cells := 0, slots := 0, locals := 30 } : Room) mem [.ref (ad 224), .int (nI k0)] (fun r mem' => (∃ k, r = nI k ∧ k0 ≤ k ∧ k ≤ L) ∧ mem' = mem) := by
  refine Met.ofW (cc := c_Mo_line) (maxL := 4) (ret := (some .int)) (by decide) rfl ?_
  intro p e s m args below meth c s₁ B hml hv
  obtain ⟨rfl, E, hP, hD⟩ := hv
  have hx := B.exec
  have hb := B.bytes
  have hr := B.returns
  have hlocks := B.notSynchronized
  have Bx : MB p s m [.ref (ad 224), .int (nI k0)].toArray c c_Mo_line "AbnfChartModel" D cy := ⟨hx, hb, tb_all (atoms_spec B.pre) E.2.1, findClass_of_methodNamed B.named, E.1⟩
  have hS : va_S (Az sz) s.heap s.heap [] := va_S.rf
  have hl := lv_entry ([.ref (ad 224), .int (nI k0)]) (n := 4) (Nat.le_of_ble_eq_true rfl)
  rw [lg_entry_eq]
  generalize (lg_sl ([.ref (ad 224), .int (nI k0)]) ++ List.replicate (4 - (lg_sl ([.ref (ad 224), .int (nI k0)])).length) Slot.unset).toArray = ls at hl ⊢
  have hl : lv_has ls 4 [(0, .ref (ad 224)), (1, .int (nI k0))] := hl
  refine lv_iload_n Bx.1 Bx.2.1 d_Mo_line_0 rfl (lv_at hl 1 rfl) ?_
  refine lv_istore_n (lv' := [(2, .int (nI k0)), (0, .ref (ad 224)), (1, .int (nI k0))]) Bx.1 Bx.2.1 d_Mo_line_1 rfl hl (by decide) rfl (fun ls hl => ?_)
  have loop1 : ∀ (d2 : Nat) (k1 : Nat) (ls : Array Slot) (H : Heap) (locs : List Loc), (L - k1 < d2) → (k0 ≤ k1 ∧ k1 ≤ L) → (va_P D vcl (fw n ad mem) H) → (va_D (Az sz) (fw n ad mem)) → (va_S (Az sz) s.heap H locs) → (lv_has ls 4 [(2, .int (nI k1)), (0, .ref (ad 224)), (1, .int (nI k0))]) → W p l e (headSpec (Cond.code y_Mo_line c_Mo_line 4 (some .int) :: tg) ({ frames := 1, cells := 0, slots := 0, locals := 30 } : Room)).room s m [.ref (ad 224), .int (nI k0)].toArray below meth c H locs 0 0 (MQ below (va_Qi (fun r mem' => (∃ k, r = nI k ∧ k0 ≤ k ∧ k ≤ L) ∧ mem' = mem) (PP D n ad) (Az sz)) [.ref (ad 224), .int (nI k0)].toArray s 0 0 (Az sz)) (F0 m 2 ls []) := by
    intro d2
    induction d2 with
    | zero => intro k1 ls H locs hmeas5; exact absurd hmeas5 (Nat.not_lt_zero _)
    | succ d2 ih4 =>
      intro k1 ls H locs hmeas5 hz3 hP hD hS hl
      refine lv_iload_n Bx.1 Bx.2.1 d_Mo_line_2 rfl (lv_at hl 0 rfl) ?_
      refine lv_aload_n Bx.1 Bx.2.1 d_Mo_line_3 rfl (lv_at hl 1 rfl) ?_
      refine f_get Bx hP (by omega) hM.1 rfl inMo 1 (by decide) kw_657 rfl rfl d_Mo_line_4 ?_
      rw [h1]
      refine lv_icmp_ge Bx.1 Bx.2.1 d_Mo_line_7 rfl (fun hb6 => ?_) (fun hb6 => ?_)
      · have hN7 : L ≤ k1 := (nI_leI (by omega) (by omega)).mp (show nI (L) ≤ nI (k1) from hb6)
        refine lv_aload_n Bx.1 Bx.2.1 d_Mo_line_59 rfl (lv_at hl 1 rfl) ?_
        refine f_get Bx hP (by omega) hM.1 rfl inMo 1 (by decide) kw_657 rfl rfl d_Mo_line_60 ?_
        rw [h1]
        exact W.iret (v := nI L) hx hb hr (fun t ht hW => ⟨⟨nI L, mem, rfl, ⟨⟨L, rfl, by omega, by omega⟩, rfl⟩, by show va_P _ _ _ t.heap; rw [ht]; exact hP⟩, hS.F ht⟩) hS.2.2 d_Mo_line_63
      · have hN8 : ¬ L ≤ k1 := fun q9 => hb6 (show nI (L) ≤ nI (k1) from (nI_leI (by omega) (by omega)).mpr q9)
        refine lv_aload_n Bx.1 Bx.2.1 d_Mo_line_10 rfl (lv_at hl 1 rfl) ?_
        refine lv_iload_n Bx.1 Bx.2.1 d_Mo_line_11 rfl (lv_at hl 0 rfl) ?_
        refine f_callVi (na := 1) (As := [.int (nI k1)]) (rest := []) Bx hml E hP hD hS (by omega) hM.1 rfl (m_Mo_rest l hn hM h1 hL (k0 := k1) (by omega)) kw_774 kw_776 sel_Mo_rest kw_8 kw_777 (by decide +kernel) ⟨rfl, rfl⟩ ⟨Nat.le_of_ble_eq_true rfl, Nat.le_of_ble_eq_true rfl⟩ rfl hl.1 (Nat.le_of_ble_eq_true rfl) d_Mo_line_12 ⟨Nat.le_of_ble_eq_true rfl, Nat.le_of_ble_eq_true rfl⟩ (fun r9 mem10 H locs hq hP hS => ?_)
        have hD : va_D (Az sz) (fw n ad mem10) := fw_D hD
        obtain ⟨⟨kr11, hre, hk12, hk13⟩, hq⟩ := hq
        rw [hq] at hP hD
        subst hre
        refine lv_istore_n (lv' := [(3, .int (nI kr11)), (2, .int (nI k1)), (0, .ref (ad 224)), (1, .int (nI k0))]) Bx.1 Bx.2.1 d_Mo_line_15 rfl hl (by decide) rfl (fun ls hl => ?_)
        refine lv_iload_n Bx.1 Bx.2.1 d_Mo_line_16 rfl (lv_at hl 0 rfl) ?_
        refine lv_aload_n Bx.1 Bx.2.1 d_Mo_line_17 rfl (lv_at hl 2 rfl) ?_
        refine f_get Bx hP (by omega) hM.1 rfl inMo 1 (by decide) kw_657 rfl rfl d_Mo_line_18 ?_
        rw [h1]
        refine lv_icmp_ge Bx.1 Bx.2.1 d_Mo_line_21 rfl (fun hb14 => ?_) (fun hb14 => ?_)
        · have hN15 : L ≤ kr11 := (nI_leI (by omega) (by omega)).mp (show nI (L) ≤ nI (kr11) from hb14)
          refine lv_iload_n Bx.1 Bx.2.1 d_Mo_line_37 rfl (lv_at hl 0 rfl) ?_
          refine lv_aload_n Bx.1 Bx.2.1 d_Mo_line_38 rfl (lv_at hl 2 rfl) ?_
          refine f_get Bx hP (by omega) hM.1 rfl inMo 1 (by decide) kw_657 rfl rfl d_Mo_line_39 ?_
          rw [h1]
          refine lv_icmp_ge Bx.1 Bx.2.1 d_Mo_line_42 rfl (fun hb16 => ?_) (fun hb16 => ?_)
          · have hN17 : L ≤ kr11 := (nI_leI (by omega) (by omega)).mp (show nI (L) ≤ nI (kr11) from hb16)
            refine lv_aload_n Bx.1 Bx.2.1 d_Mo_line_51 rfl (lv_at hl 2 rfl) ?_
            refine f_get Bx hP (by omega) hM.1 rfl inMo 1 (by decide) kw_657 rfl rfl d_Mo_line_52 ?_
            rw [h1]
            refine lv_istore_n (lv' := [(2, .int (nI L)), (3, .int (nI kr11)), (0, .ref (ad 224)), (1, .int (nI k0))]) Bx.1 Bx.2.1 d_Mo_line_55 rfl hl (by decide) rfl (fun ls hl => ?_)
            refine lv_goto Bx.1 Bx.2.1 d_Mo_line_56 rfl ?_
            exact ih4 (L) _ _ _ (by have := hmeas5; omega) (by omega) hP hD hS (lv_sub hl [0, 2, 3] rfl)
          · have hN18 : ¬ L ≤ kr11 := fun q9 => hb16 (show nI (L) ≤ nI (kr11) from (nI_leI (by omega) (by omega)).mpr q9)
            refine lv_iload_n Bx.1 Bx.2.1 d_Mo_line_45 rfl (lv_at hl 0 rfl) ?_
            refine lv_iconst (v := 1) Bx.1 Bx.2.1 d_Mo_line_46 (by decide) ?_
            refine lv_iadd Bx.1 Bx.2.1 d_Mo_line_47 ?_
            rw [show nI kr11 + 1 = nI (kr11 + 1) from nI_add (kr11) (1)]
            refine lv_goto Bx.1 Bx.2.1 d_Mo_line_48 rfl ?_
            refine lv_istore_n (lv' := [(2, .int (nI (kr11 + 1))), (3, .int (nI kr11)), (0, .ref (ad 224)), (1, .int (nI k0))]) Bx.1 Bx.2.1 d_Mo_line_55 rfl hl (by decide) rfl (fun ls hl => ?_)
            refine lv_goto Bx.1 Bx.2.1 d_Mo_line_56 rfl ?_
            exact ih4 (kr11 + 1) _ _ _ (by have := hmeas5; omega) (by omega) hP hD hS (lv_sub hl [0, 2, 3] rfl)
        · have hN19 : ¬ L ≤ kr11 := fun q9 => hb14 (show nI (L) ≤ nI (kr11) from (nI_leI (by omega) (by omega)).mpr q9)
          refine lv_aload_n Bx.1 Bx.2.1 d_Mo_line_24 rfl (lv_at hl 2 rfl) ?_
          refine f_get Bx hP (by omega) hM.1 rfl inMo 2 (by decide) kw_658 rfl rfl d_Mo_line_25 ?_
          refine lv_iload_n Bx.1 Bx.2.1 d_Mo_line_28 rfl (lv_at hl 0 rfl) ?_
          refine f_iald Bx hP (by omega) (show mem 225 = .inl (cy 1, 240, .inl (A 225)) from hM.2.2.1 225 (by decide) (by decide) (by decide)) (vp_in_nI (n := kr11) (by omega) (by decide)) d_Mo_line_29 ?_
          rw [nI_clamp (n := kr11) (by omega)]
          refine lv_bipush (v := 10) Bx.1 Bx.2.1 d_Mo_line_30 (by decide) ?_
          refine lv_icmp_eq Bx.1 Bx.2.1 d_Mo_line_32 rfl (fun hb20 => ?_) (fun hb20 => ?_)
          · refine lv_iload_n Bx.1 Bx.2.1 d_Mo_line_37 rfl (lv_at hl 0 rfl) ?_
            refine lv_aload_n Bx.1 Bx.2.1 d_Mo_line_38 rfl (lv_at hl 2 rfl) ?_
            refine f_get Bx hP (by omega) hM.1 rfl inMo 1 (by decide) kw_657 rfl rfl d_Mo_line_39 ?_
            rw [h1]
            refine lv_icmp_ge Bx.1 Bx.2.1 d_Mo_line_42 rfl (fun hb21 => ?_) (fun hb21 => ?_)
            · have hN22 : L ≤ kr11 := (nI_leI (by omega) (by omega)).mp (show nI (L) ≤ nI (kr11) from hb21)
              refine lv_aload_n Bx.1 Bx.2.1 d_Mo_line_51 rfl (lv_at hl 2 rfl) ?_
              refine f_get Bx hP (by omega) hM.1 rfl inMo 1 (by decide) kw_657 rfl rfl d_Mo_line_52 ?_
              rw [h1]
              refine lv_istore_n (lv' := [(2, .int (nI L)), (3, .int (nI kr11)), (0, .ref (ad 224)), (1, .int (nI k0))]) Bx.1 Bx.2.1 d_Mo_line_55 rfl hl (by decide) rfl (fun ls hl => ?_)
              refine lv_goto Bx.1 Bx.2.1 d_Mo_line_56 rfl ?_
              exact ih4 (L) _ _ _ (by have := hmeas5; omega) (by omega) hP hD hS (lv_sub hl [0, 2, 3] rfl)
            · have hN23 : ¬ L ≤ kr11 := fun q9 => hb21 (show nI (L) ≤ nI (kr11) from (nI_leI (by omega) (by omega)).mpr q9)
              refine lv_iload_n Bx.1 Bx.2.1 d_Mo_line_45 rfl (lv_at hl 0 rfl) ?_
              refine lv_iconst (v := 1) Bx.1 Bx.2.1 d_Mo_line_46 (by decide) ?_
              refine lv_iadd Bx.1 Bx.2.1 d_Mo_line_47 ?_
              rw [show nI kr11 + 1 = nI (kr11 + 1) from nI_add (kr11) (1)]
              refine lv_goto Bx.1 Bx.2.1 d_Mo_line_48 rfl ?_
              refine lv_istore_n (lv' := [(2, .int (nI (kr11 + 1))), (3, .int (nI kr11)), (0, .ref (ad 224)), (1, .int (nI k0))]) Bx.1 Bx.2.1 d_Mo_line_55 rfl hl (by decide) rfl (fun ls hl => ?_)
              refine lv_goto Bx.1 Bx.2.1 d_Mo_line_56 rfl ?_
              exact ih4 (kr11 + 1) _ _ _ (by have := hmeas5; omega) (by omega) hP hD hS (lv_sub hl [0, 2, 3] rfl)
          · refine lv_iload_n Bx.1 Bx.2.1 d_Mo_line_35 rfl (lv_at hl 1 rfl) ?_
            exact W.iret (v := nI k1) hx hb hr (fun t ht hW => ⟨⟨nI k1, mem, rfl, ⟨⟨k1, rfl, by omega, by omega⟩, rfl⟩, by show va_P _ _ _ t.heap; rw [ht]; exact hP⟩, hS.F ht⟩) hS.2.2 d_Mo_line_36
  exact loop1 _ (k0) _ _ _ (Nat.lt_succ_self _) (⟨by omega, by omega⟩) hP hD hS (lv_sub hl [0, 1, 2] rfl)
set_option maxHeartbeats 4000000 in
set_option maxRecDepth 100000 in
theorem m_Mo_gap (l : Launch) {D : va_G} {cy : Nat → ClassId} {sz n : Nat} {ad : Nat → Nat} {mem : Nat → va_E} {J : Nat → Int32} {A : Nat → Nat → Int32} {nm : Nat → Int64} {m0 : Nat → va_E} {L a : Nat} (hn : 242 ≤ n) (hM : MW cy ad J A nm m0 mem) (h1 : J 1 = nI L) (hL : L ≤ 240) (ha : J 16 = nI a) (haL : a ≤ L) : MV l D cy sz n ad y_Mo_gap c_Mo_gap 3 ({ frames := 2, cells := 0, slots := 0, locals := 60 } : Room) mem [.ref (ad 224)] (fun mem' => ∃ a', a ≤ a' ∧ a' ≤ L ∧ MW cy ad (va_up J 16 (nI a')) A nm m0 mem') := by
  refine Met.ofW (cc := c_Mo_gap) (maxL := 3) (ret := none) (by decide) rfl ?_
  intro p e s m args below meth c s₁ B hml hv
  obtain ⟨rfl, E, hP, hD⟩ := hv
  have hx := B.exec
  have hb := B.bytes
  have hr := B.returns
  have hlocks := B.notSynchronized
  have Bx : MB p s m [.ref (ad 224)].toArray c c_Mo_gap "AbnfChartModel" D cy := ⟨hx, hb, tb_all (atoms_spec B.pre) E.2.1, findClass_of_methodNamed B.named, E.1⟩
  have hS : va_S (Az sz) s.heap s.heap [] := va_S.rf
  have hl := lv_entry ([.ref (ad 224)]) (n := 3) (Nat.le_of_ble_eq_true rfl)
  rw [lg_entry_eq]
  generalize (lg_sl ([.ref (ad 224)]) ++ List.replicate (3 - (lg_sl ([.ref (ad 224)])).length) Slot.unset).toArray = ls at hl ⊢
  have hl : lv_has ls 3 [(0, .ref (ad 224))] := hl
  refine lv_iconst (v := 1) Bx.1 Bx.2.1 d_Mo_gap_0 (by decide) ?_
  refine lv_istore_n (lv' := [(1, .int (1)), (0, .ref (ad 224))]) Bx.1 Bx.2.1 d_Mo_gap_1 rfl hl (by decide) rfl (fun ls hl => ?_)
  have loop1 : ∀ (d2 : Nat) (mem9 : Nat → va_E) (J9 : Nat → Int32) (a1 : Nat) (b : Nat) (ls : Array Slot) (H : Heap) (locs : List Loc), ((L + 1 - a1 + b) < d2) → (J9 = va_up J 16 (nI a1) ∧ J9 1 = nI L ∧ J9 16 = nI a1) → (MW cy ad J9 A nm m0 mem9) → (a ≤ a1 ∧ a1 ≤ L) → (b ≤ 1) → (va_P D vcl (fw n ad mem9) H) → (va_D (Az sz) (fw n ad mem9)) → (va_S (Az sz) s.heap H locs) → (lv_has ls 3 [(1, .int (nI b)), (0, .ref (ad 224))]) → W p l e (headSpec (Cond.code y_Mo_gap c_Mo_gap 3 none :: tg) ({ frames := 2, cells := 0, slots := 0, locals := 60 } : Room)).room s m [.ref (ad 224)].toArray below meth c H locs 0 0 (MQ below (va_Qv (fun mem' => ∃ a', a ≤ a' ∧ a' ≤ L ∧ MW cy ad (va_up J 16 (nI a')) A nm m0 mem') (PP D n ad) (Az sz)) [.ref (ad 224)].toArray s 0 0 (Az sz)) (F0 m 2 ls []) := by
    intro d2
    induction d2 with
    | zero => intro mem9 J9 a1 b ls H locs hmeas8; exact absurd hmeas8 (Nat.not_lt_zero _)
    | succ d2 ih7 =>
      intro mem9 J9 a1 b ls H locs hmeas8 hz3 hz4 hz5 hz6 hP hD hS hl
      obtain ⟨eJ9, g1, g16⟩ := hz3
      refine lv_iload_n Bx.1 Bx.2.1 d_Mo_gap_2 rfl (lv_at hl 0 rfl) ?_
      refine lv_if_eq Bx.1 Bx.2.1 d_Mo_gap_3 rfl (fun hb9 => ?_) (fun hb9 => ?_)
      · have hN10 : b = 0 := (nI_eq (by omega) (by omega)).mp (show nI (b) = nI (0) from hb9)
        exact W.vret hx hb hr (fun t ht hW => ⟨⟨mem9, rfl, ⟨a1, by omega, by omega, by rw [← eJ9]; exact hz4⟩, by show va_P _ _ _ t.heap; rw [ht]; exact hP⟩, hS.F ht⟩) hS.2.2 d_Mo_gap_82
      · have hN11 : ¬ b = 0 := fun q9 => hb9 (show nI (b) = nI (0) from (nI_eq (by omega) (by omega)).mpr q9)
        refine lv_aload_n Bx.1 Bx.2.1 d_Mo_gap_6 rfl (lv_at hl 1 rfl) ?_
        refine lv_aload_n Bx.1 Bx.2.1 d_Mo_gap_7 rfl (lv_at hl 1 rfl) ?_
        refine lv_aload_n Bx.1 Bx.2.1 d_Mo_gap_8 rfl (lv_at hl 1 rfl) ?_
        refine f_get Bx hP (by omega) hz4.1 rfl inMo 16 (by decide) kw_672 rfl rfl d_Mo_gap_9 ?_
        rw [g16]
        refine f_callVi (na := 1) (As := [.int (nI a1)]) (rest := [.ref (ad 224)]) Bx hml E hP hD hS (by omega) hz4.1 rfl (m_Mo_rest l hn hz4 g1 hL (k0 := a1) (by omega)) kw_774 kw_776 sel_Mo_rest kw_8 kw_777 (by decide +kernel) ⟨rfl, rfl⟩ ⟨Nat.le_of_ble_eq_true rfl, Nat.le_of_ble_eq_true rfl⟩ rfl hl.1 (Nat.le_of_ble_eq_true rfl) d_Mo_gap_12 ⟨Nat.le_of_ble_eq_true rfl, Nat.le_of_ble_eq_true rfl⟩ (fun r12 mem13 H locs hq hP hS => ?_)
        have hD : va_D (Az sz) (fw n ad mem13) := fw_D hD
        obtain ⟨⟨kr14, hre, hk15, hk16⟩, hq⟩ := hq
        rw [hq] at hP hD
        subst hre
        refine f_put Bx hP hD hS (by omega) hz4.1 rfl inMo tyMo okMo nmMo 16 (by decide) kw_672 rfl rfl rfl rfl (Nat.le_of_ble_eq_true rfl) d_Mo_gap_15 (fun H locs hP hS => ?_)
        obtain ⟨J17, eJ17⟩ : ∃ z, z = va_up J9 16 (nI kr14) := ⟨_, rfl⟩
        obtain ⟨mem18, e_mem18⟩ : ∃ z, z = va_up mem9 224 (moC ad J17) := ⟨_, rfl⟩
        have hP : va_P D vcl (fw n ad mem18) H := by rw [e_mem18, eJ17]; exact hP
        have hD : va_D (Az sz) (fw n ad mem18) := fw_D hD
        have hW19 : MW cy ad J17 A nm m0 mem18 := by rw [e_mem18]; exact hz4.upJ (by rw [eJ17]; exact va_up_ne _ _ (by decide))
        have kk20 : J17 1 = nI L := by rw [eJ17]; exact g1
        have kk21 : J17 16 = nI kr14 := by rw [eJ17, va_up_self]
        refine lv_aload_n Bx.1 Bx.2.1 d_Mo_gap_18 rfl (lv_at hl 1 rfl) ?_
        refine f_callVi (na := 0) (As := []) (rest := []) Bx hml E hP hD hS (by omega) hW19.1 rfl (m_Mo_here l hn hW19 kk20 hL kk21 (by omega)) kw_778 kw_780 sel_Mo_here kw_8 kw_781 (by decide +kernel) ⟨rfl, rfl⟩ ⟨Nat.le_of_ble_eq_true rfl, Nat.le_of_ble_eq_true rfl⟩ rfl hl.1 (Nat.le_of_ble_eq_true rfl) d_Mo_gap_19 ⟨Nat.le_of_ble_eq_true rfl, Nat.le_of_ble_eq_true rfl⟩ (fun r22 mem23 H locs hq hP hS => ?_)
        have hD : va_D (Az sz) (fw n ad mem23) := fw_D hD
        obtain ⟨hre, hq⟩ := hq
        rw [hq] at hP hD
        subst hre
        refine lv_bipush (v := 10) Bx.1 Bx.2.1 d_Mo_gap_22 (by decide) ?_
        refine lv_icmp_ne Bx.1 Bx.2.1 d_Mo_gap_24 rfl (fun hb24 => ?_) (fun hb24 => ?_)
        · refine lv_aload_n Bx.1 Bx.2.1 d_Mo_gap_40 rfl (lv_at hl 1 rfl) ?_
          refine f_get Bx hP (by omega) hW19.1 rfl inMo 1 (by decide) kw_657 rfl rfl d_Mo_gap_41 ?_
          rw [kk20]
          refine lv_istore_n (lv' := [(2, .int (nI L)), (1, .int (nI b)), (0, .ref (ad 224))]) Bx.1 Bx.2.1 d_Mo_gap_44 rfl hl (by decide) rfl (fun ls hl => ?_)
          refine lv_iload_n Bx.1 Bx.2.1 d_Mo_gap_45 rfl (lv_at hl 0 rfl) ?_
          refine lv_aload_n Bx.1 Bx.2.1 d_Mo_gap_46 rfl (lv_at hl 2 rfl) ?_
          refine f_get Bx hP (by omega) hW19.1 rfl inMo 1 (by decide) kw_657 rfl rfl d_Mo_gap_47 ?_
          rw [kk20]
          refine lv_icmp_ge Bx.1 Bx.2.1 d_Mo_gap_50 rfl (fun hb25 => ?_) (fun hb25 => ?_)
          · have hN26 : L ≤ L := (nI_leI (by omega) (by omega)).mp (show nI (L) ≤ nI (L) from hb25)
            refine lv_iconst (v := 0) Bx.1 Bx.2.1 d_Mo_gap_68 (by decide) ?_
            refine lv_istore_n (lv' := [(1, .int (0)), (2, .int (nI L)), (0, .ref (ad 224))]) Bx.1 Bx.2.1 d_Mo_gap_69 rfl hl (by decide) rfl (fun ls hl => ?_)
            refine lv_iload_n Bx.1 Bx.2.1 d_Mo_gap_70 rfl (lv_at hl 0 rfl) ?_
            refine lv_if_eq Bx.1 Bx.2.1 d_Mo_gap_71 rfl (fun hb27 => ?_) (fun hb27 => ?_)
            · refine lv_goto Bx.1 Bx.2.1 d_Mo_gap_79 rfl ?_
              have hJe : J17 = va_up J 16 (nI (kr14)) := by rw [eJ17, eJ9, up_up]
              exact ih7 mem18 (J17) (kr14) (0) _ _ _ (by have := hmeas8; omega) (⟨hJe, kk20, kk21⟩) (hW19) (⟨by omega, by omega⟩) (by omega) hP hD hS (lv_sub hl [0, 2] rfl)
            · exact absurd hb27 (by decide)
          · have hN28 : ¬ L ≤ L := fun q9 => hb25 (show nI (L) ≤ nI (L) from (nI_leI (by omega) (by omega)).mpr q9)
            refine lv_aload_n Bx.1 Bx.2.1 d_Mo_gap_53 rfl (lv_at hl 2 rfl) ?_
            refine f_get Bx hP (by omega) hW19.1 rfl inMo 2 (by decide) kw_658 rfl rfl d_Mo_gap_54 ?_
            refine lv_iload_n Bx.1 Bx.2.1 d_Mo_gap_57 rfl (lv_at hl 0 rfl) ?_
            refine f_iald Bx hP (by omega) (show mem18 225 = .inl (cy 1, 240, .inl (A 225)) from hW19.2.2.1 225 (by decide) (by decide) (by decide)) (vp_in_nI (n := L) (by omega) (by decide)) d_Mo_gap_58 ?_
            rw [nI_clamp (n := L) (by omega)]
            refine lv_bipush (v := 32) Bx.1 Bx.2.1 d_Mo_gap_59 (by decide) ?_
            refine lv_icmp_ne Bx.1 Bx.2.1 d_Mo_gap_61 rfl (fun hb29 => ?_) (fun hb29 => ?_)
            · refine lv_iconst (v := 0) Bx.1 Bx.2.1 d_Mo_gap_68 (by decide) ?_
              refine lv_istore_n (lv' := [(1, .int (0)), (2, .int (nI L)), (0, .ref (ad 224))]) Bx.1 Bx.2.1 d_Mo_gap_69 rfl hl (by decide) rfl (fun ls hl => ?_)
              refine lv_iload_n Bx.1 Bx.2.1 d_Mo_gap_70 rfl (lv_at hl 0 rfl) ?_
              refine lv_if_eq Bx.1 Bx.2.1 d_Mo_gap_71 rfl (fun hb30 => ?_) (fun hb30 => ?_)
              · refine lv_goto Bx.1 Bx.2.1 d_Mo_gap_79 rfl ?_
                have hJe : J17 = va_up J 16 (nI (kr14)) := by rw [eJ17, eJ9, up_up]
                exact ih7 mem18 (J17) (kr14) (0) _ _ _ (by have := hmeas8; omega) (⟨hJe, kk20, kk21⟩) (hW19) (⟨by omega, by omega⟩) (by omega) hP hD hS (lv_sub hl [0, 2] rfl)
              · exact absurd hb30 (by decide)
            · refine lv_iconst (v := 1) Bx.1 Bx.2.1 d_Mo_gap_64 (by decide) ?_
              refine lv_goto Bx.1 Bx.2.1 d_Mo_gap_65 rfl ?_
              refine lv_istore_n (lv' := [(1, .int (1)), (2, .int (nI L)), (0, .ref (ad 224))]) Bx.1 Bx.2.1 d_Mo_gap_69 rfl hl (by decide) rfl (fun ls hl => ?_)
              refine lv_iload_n Bx.1 Bx.2.1 d_Mo_gap_70 rfl (lv_at hl 0 rfl) ?_
              refine lv_if_eq Bx.1 Bx.2.1 d_Mo_gap_71 rfl (fun hb31 => ?_) (fun hb31 => ?_)
              · exact absurd hb31 (by decide)
              · refine lv_aload_n Bx.1 Bx.2.1 d_Mo_gap_74 rfl (lv_at hl 2 rfl) ?_
                refine lv_iload_n Bx.1 Bx.2.1 d_Mo_gap_75 rfl (lv_at hl 1 rfl) ?_
                refine f_put Bx hP hD hS (by omega) hW19.1 rfl inMo tyMo okMo nmMo 16 (by decide) kw_672 rfl rfl rfl rfl (Nat.le_of_ble_eq_true rfl) d_Mo_gap_76 (fun H locs hP hS => ?_)
                obtain ⟨J32, eJ32⟩ : ∃ z, z = va_up J17 16 (nI L) := ⟨_, rfl⟩
                obtain ⟨mem33, e_mem33⟩ : ∃ z, z = va_up mem18 224 (moC ad J32) := ⟨_, rfl⟩
                have hP : va_P D vcl (fw n ad mem33) H := by rw [e_mem33, eJ32]; exact hP
                have hD : va_D (Az sz) (fw n ad mem33) := fw_D hD
                have hW34 : MW cy ad J32 A nm m0 mem33 := by rw [e_mem33]; exact hW19.upJ (by rw [eJ32]; exact va_up_ne _ _ (by decide))
                have kk35 : J32 1 = nI L := by rw [eJ32]; exact kk20
                have kk36 : J32 16 = nI L := by rw [eJ32, va_up_self]
                refine lv_goto Bx.1 Bx.2.1 d_Mo_gap_79 rfl ?_
                have hJe : J32 = va_up J 16 (nI (L)) := by rw [eJ32, eJ17, eJ9, up_up, up_up]
                exact ih7 mem33 (J32) (L) (1) _ _ _ (by have := hmeas8; omega) (⟨hJe, kk35, kk36⟩) (hW34) (⟨by omega, by omega⟩) (by omega) hP hD hS (lv_sub hl [0, 2] rfl)
        · have hlt37 := hereF_lt (by rw [hb24]; decide)
          refine lv_aload_n Bx.1 Bx.2.1 d_Mo_gap_27 rfl (lv_at hl 1 rfl) ?_
          refine lv_aload_n Bx.1 Bx.2.1 d_Mo_gap_28 rfl (lv_at hl 1 rfl) ?_
          refine f_get Bx hP (by omega) hW19.1 rfl inMo 16 (by decide) kw_672 rfl rfl d_Mo_gap_29 ?_
          rw [kk21]
          refine lv_iconst (v := 1) Bx.1 Bx.2.1 d_Mo_gap_32 (by decide) ?_
          refine lv_iadd Bx.1 Bx.2.1 d_Mo_gap_33 ?_
          rw [show nI kr14 + 1 = nI (kr14 + 1) from nI_add (kr14) (1)]
          refine f_callVi (na := 1) (As := [.int (nI (kr14 + 1))]) (rest := []) Bx hml E hP hD hS (by omega) hW19.1 rfl (m_Mo_line l hn hW19 kk20 hL (k0 := kr14 + 1) (by omega)) kw_770 kw_772 sel_Mo_line kw_8 kw_773 (by decide +kernel) ⟨rfl, rfl⟩ ⟨Nat.le_of_ble_eq_true rfl, Nat.le_of_ble_eq_true rfl⟩ rfl hl.1 (Nat.le_of_ble_eq_true rfl) d_Mo_gap_34 ⟨Nat.le_of_ble_eq_true rfl, Nat.le_of_ble_eq_true rfl⟩ (fun r38 mem39 H locs hq hP hS => ?_)
          have hD : va_D (Az sz) (fw n ad mem39) := fw_D hD
          obtain ⟨⟨kl40, hre, hk41, hk42⟩, hq⟩ := hq
          rw [hq] at hP hD
          subst hre
          refine lv_goto Bx.1 Bx.2.1 d_Mo_gap_37 rfl ?_
          refine lv_istore_n (lv' := [(2, .int (nI kl40)), (1, .int (nI b)), (0, .ref (ad 224))]) Bx.1 Bx.2.1 d_Mo_gap_44 rfl hl (by decide) rfl (fun ls hl => ?_)
          refine lv_iload_n Bx.1 Bx.2.1 d_Mo_gap_45 rfl (lv_at hl 0 rfl) ?_
          refine lv_aload_n Bx.1 Bx.2.1 d_Mo_gap_46 rfl (lv_at hl 2 rfl) ?_
          refine f_get Bx hP (by omega) hW19.1 rfl inMo 1 (by decide) kw_657 rfl rfl d_Mo_gap_47 ?_
          rw [kk20]
          refine lv_icmp_ge Bx.1 Bx.2.1 d_Mo_gap_50 rfl (fun hb43 => ?_) (fun hb43 => ?_)
          · have hN44 : L ≤ kl40 := (nI_leI (by omega) (by omega)).mp (show nI (L) ≤ nI (kl40) from hb43)
            refine lv_iconst (v := 0) Bx.1 Bx.2.1 d_Mo_gap_68 (by decide) ?_
            refine lv_istore_n (lv' := [(1, .int (0)), (2, .int (nI kl40)), (0, .ref (ad 224))]) Bx.1 Bx.2.1 d_Mo_gap_69 rfl hl (by decide) rfl (fun ls hl => ?_)
            refine lv_iload_n Bx.1 Bx.2.1 d_Mo_gap_70 rfl (lv_at hl 0 rfl) ?_
            refine lv_if_eq Bx.1 Bx.2.1 d_Mo_gap_71 rfl (fun hb45 => ?_) (fun hb45 => ?_)
            · refine lv_goto Bx.1 Bx.2.1 d_Mo_gap_79 rfl ?_
              have hJe : J17 = va_up J 16 (nI (kr14)) := by rw [eJ17, eJ9, up_up]
              exact ih7 mem18 (J17) (kr14) (0) _ _ _ (by have := hmeas8; omega) (⟨hJe, kk20, kk21⟩) (hW19) (⟨by omega, by omega⟩) (by omega) hP hD hS (lv_sub hl [0, 2] rfl)
            · exact absurd hb45 (by decide)
          · have hN46 : ¬ L ≤ kl40 := fun q9 => hb43 (show nI (L) ≤ nI (kl40) from (nI_leI (by omega) (by omega)).mpr q9)
            refine lv_aload_n Bx.1 Bx.2.1 d_Mo_gap_53 rfl (lv_at hl 2 rfl) ?_
            refine f_get Bx hP (by omega) hW19.1 rfl inMo 2 (by decide) kw_658 rfl rfl d_Mo_gap_54 ?_
            refine lv_iload_n Bx.1 Bx.2.1 d_Mo_gap_57 rfl (lv_at hl 0 rfl) ?_
            refine f_iald Bx hP (by omega) (show mem18 225 = .inl (cy 1, 240, .inl (A 225)) from hW19.2.2.1 225 (by decide) (by decide) (by decide)) (vp_in_nI (n := kl40) (by omega) (by decide)) d_Mo_gap_58 ?_
            rw [nI_clamp (n := kl40) (by omega)]
            refine lv_bipush (v := 32) Bx.1 Bx.2.1 d_Mo_gap_59 (by decide) ?_
            refine lv_icmp_ne Bx.1 Bx.2.1 d_Mo_gap_61 rfl (fun hb47 => ?_) (fun hb47 => ?_)
            · refine lv_iconst (v := 0) Bx.1 Bx.2.1 d_Mo_gap_68 (by decide) ?_
              refine lv_istore_n (lv' := [(1, .int (0)), (2, .int (nI kl40)), (0, .ref (ad 224))]) Bx.1 Bx.2.1 d_Mo_gap_69 rfl hl (by decide) rfl (fun ls hl => ?_)
              refine lv_iload_n Bx.1 Bx.2.1 d_Mo_gap_70 rfl (lv_at hl 0 rfl) ?_
              refine lv_if_eq Bx.1 Bx.2.1 d_Mo_gap_71 rfl (fun hb48 => ?_) (fun hb48 => ?_)
              · refine lv_goto Bx.1 Bx.2.1 d_Mo_gap_79 rfl ?_
                have hJe : J17 = va_up J 16 (nI (kr14)) := by rw [eJ17, eJ9, up_up]
                exact ih7 mem18 (J17) (kr14) (0) _ _ _ (by have := hmeas8; omega) (⟨hJe, kk20, kk21⟩) (hW19) (⟨by omega, by omega⟩) (by omega) hP hD hS (lv_sub hl [0, 2] rfl)
              · exact absurd hb48 (by decide)
            · refine lv_iconst (v := 1) Bx.1 Bx.2.1 d_Mo_gap_64 (by decide) ?_
              refine lv_goto Bx.1 Bx.2.1 d_Mo_gap_65 rfl ?_
              refine lv_istore_n (lv' := [(1, .int (1)), (2, .int (nI kl40)), (0, .ref (ad 224))]) Bx.1 Bx.2.1 d_Mo_gap_69 rfl hl (by decide) rfl (fun ls hl => ?_)
              refine lv_iload_n Bx.1 Bx.2.1 d_Mo_gap_70 rfl (lv_at hl 0 rfl) ?_
              refine lv_if_eq Bx.1 Bx.2.1 d_Mo_gap_71 rfl (fun hb49 => ?_) (fun hb49 => ?_)
              · exact absurd hb49 (by decide)
              · refine lv_aload_n Bx.1 Bx.2.1 d_Mo_gap_74 rfl (lv_at hl 2 rfl) ?_
                refine lv_iload_n Bx.1 Bx.2.1 d_Mo_gap_75 rfl (lv_at hl 1 rfl) ?_
                refine f_put Bx hP hD hS (by omega) hW19.1 rfl inMo tyMo okMo nmMo 16 (by decide) kw_672 rfl rfl rfl rfl (Nat.le_of_ble_eq_true rfl) d_Mo_gap_76 (fun H locs hP hS => ?_)
                obtain ⟨J50, eJ50⟩ : ∃ z, z = va_up J17 16 (nI kl40) := ⟨_, rfl⟩
                obtain ⟨mem51, e_mem51⟩ : ∃ z, z = va_up mem18 224 (moC ad J50) := ⟨_, rfl⟩
                have hP : va_P D vcl (fw n ad mem51) H := by rw [e_mem51, eJ50]; exact hP
                have hD : va_D (Az sz) (fw n ad mem51) := fw_D hD
                have hW52 : MW cy ad J50 A nm m0 mem51 := by rw [e_mem51]; exact hW19.upJ (by rw [eJ50]; exact va_up_ne _ _ (by decide))
                have kk53 : J50 1 = nI L := by rw [eJ50]; exact kk20
                have kk54 : J50 16 = nI kl40 := by rw [eJ50, va_up_self]
                refine lv_goto Bx.1 Bx.2.1 d_Mo_gap_79 rfl ?_
                have hJe : J50 = va_up J 16 (nI (kl40)) := by rw [eJ50, eJ17, eJ9, up_up, up_up]
                exact ih7 mem51 (J50) (kl40) (1) _ _ _ (by have := hmeas8; omega) (⟨hJe, kk53, kk54⟩) (hW52) (⟨by omega, by omega⟩) (by omega) hP hD hS (lv_sub hl [0, 2] rfl)
  exact loop1 _ mem (J) (a) (1) _ _ _ (Nat.lt_succ_self _) (⟨by rw [up_id J ha], h1, ha⟩) (hM) (⟨by omega, by omega⟩) (by omega) hP hD hS (lv_sub hl [0, 1] rfl)
