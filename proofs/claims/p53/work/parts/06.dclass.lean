theorem dX0_middle_0 : decode cX0_middle 0 = .ok (.iload_n 1, 1) := by decide +kernel
theorem dX0_middle_1 : decode cX0_middle 1 = .ok (.aload_n 0, 1) := by decide +kernel
theorem dX0_middle_2 : decode cX0_middle 2 = .ok (.getfield 7, 3) := by decide +kernel
theorem dX0_middle_5 : decode cX0_middle 5 = .ok (.invokestatic 13, 3) := by decide +kernel
theorem dX0_middle_8 : decode cX0_middle 8 = .ok (.istore_n 2, 1) := by decide +kernel
theorem dX0_middle_9 : decode cX0_middle 9 = .ok (.iload_n 1, 1) := by decide +kernel
theorem dX0_middle_10 : decode cX0_middle 10 = .ok (.iload_n 2, 1) := by decide +kernel
theorem dX0_middle_11 : decode cX0_middle 11 = .ok (.isub, 1) := by decide +kernel
theorem dX0_middle_12 : decode cX0_middle 12 = .ok (.iconst 2, 1) := by decide +kernel
theorem dX0_middle_13 : decode cX0_middle 13 = .ok (.idiv, 1) := by decide +kernel
theorem dX0_middle_14 : decode cX0_middle 14 = .ok (.istore_n 3, 1) := by decide +kernel
theorem dX0_middle_15 : decode cX0_middle 15 = .ok (.aload_n 0, 1) := by decide +kernel
theorem dX0_middle_16 : decode cX0_middle 16 = .ok (.iload_n 1, 1) := by decide +kernel
theorem dX0_middle_17 : decode cX0_middle 17 = .ok (.invokevirtual 19, 3) := by decide +kernel
theorem dX0_middle_20 : decode cX0_middle 20 = .ok (.istore 4, 2) := by decide +kernel
theorem dX0_middle_22 : decode cX0_middle 22 = .ok (.iload_n 2, 1) := by decide +kernel
theorem dX0_middle_23 : decode cX0_middle 23 = .ok (.istore 5, 2) := by decide +kernel
theorem dX0_middle_25 : decode cX0_middle 25 = .ok (.iload 5, 2) := by decide +kernel
theorem dX0_middle_27 : decode cX0_middle 27 = .ok (.iload_n 1, 1) := by decide +kernel
theorem dX0_middle_28 : decode cX0_middle 28 = .ok (.if_icmp .gt 96, 3) := by decide +kernel
theorem dX0_middle_31 : decode cX0_middle 31 = .ok (.aload_n 0, 1) := by decide +kernel
theorem dX0_middle_32 : decode cX0_middle 32 = .ok (.iload 5, 2) := by decide +kernel
theorem dX0_middle_34 : decode cX0_middle 34 = .ok (.invokevirtual 19, 3) := by decide +kernel
theorem dX0_middle_37 : decode cX0_middle 37 = .ok (.istore 6, 2) := by decide +kernel
theorem dX0_middle_39 : decode cX0_middle 39 = .ok (.iconst 0, 1) := by decide +kernel
theorem dX0_middle_40 : decode cX0_middle 40 = .ok (.istore 7, 2) := by decide +kernel
theorem dX0_middle_42 : decode cX0_middle 42 = .ok (.iconst 0, 1) := by decide +kernel
theorem dX0_middle_43 : decode cX0_middle 43 = .ok (.istore 8, 2) := by decide +kernel
theorem dX0_middle_45 : decode cX0_middle 45 = .ok (.iload_n 2, 1) := by decide +kernel
theorem dX0_middle_46 : decode cX0_middle 46 = .ok (.istore 9, 2) := by decide +kernel
theorem dX0_middle_48 : decode cX0_middle 48 = .ok (.iload 9, 2) := by decide +kernel
theorem dX0_middle_50 : decode cX0_middle 50 = .ok (.iload_n 1, 1) := by decide +kernel
theorem dX0_middle_51 : decode cX0_middle 51 = .ok (.if_icmp .gt 51, 3) := by decide +kernel
theorem dX0_middle_54 : decode cX0_middle 54 = .ok (.iload 7, 2) := by decide +kernel
theorem dX0_middle_56 : decode cX0_middle 56 = .ok (.aload_n 0, 1) := by decide +kernel
theorem dX0_middle_57 : decode cX0_middle 57 = .ok (.iload 9, 2) := by decide +kernel
theorem dX0_middle_59 : decode cX0_middle 59 = .ok (.invokevirtual 19, 3) := by decide +kernel
theorem dX0_middle_62 : decode cX0_middle 62 = .ok (.iload 6, 2) := by decide +kernel
theorem dX0_middle_64 : decode cX0_middle 64 = .ok (.if_icmp .ge 7, 3) := by decide +kernel
theorem dX0_middle_67 : decode cX0_middle 67 = .ok (.iconst 1, 1) := by decide +kernel
theorem dX0_middle_68 : decode cX0_middle 68 = .ok (.goto 4, 3) := by decide +kernel
theorem dX0_middle_71 : decode cX0_middle 71 = .ok (.iconst 0, 1) := by decide +kernel
theorem dX0_middle_72 : decode cX0_middle 72 = .ok (.iadd, 1) := by decide +kernel
theorem dX0_middle_73 : decode cX0_middle 73 = .ok (.istore 7, 2) := by decide +kernel
theorem dX0_middle_75 : decode cX0_middle 75 = .ok (.iload 8, 2) := by decide +kernel
theorem dX0_middle_77 : decode cX0_middle 77 = .ok (.aload_n 0, 1) := by decide +kernel
theorem dX0_middle_78 : decode cX0_middle 78 = .ok (.iload 9, 2) := by decide +kernel
theorem dX0_middle_80 : decode cX0_middle 80 = .ok (.invokevirtual 19, 3) := by decide +kernel
theorem dX0_middle_83 : decode cX0_middle 83 = .ok (.iload 6, 2) := by decide +kernel
theorem dX0_middle_85 : decode cX0_middle 85 = .ok (.if_icmp .gt 7, 3) := by decide +kernel
theorem dX0_middle_88 : decode cX0_middle 88 = .ok (.iconst 1, 1) := by decide +kernel
theorem dX0_middle_89 : decode cX0_middle 89 = .ok (.goto 4, 3) := by decide +kernel
theorem dX0_middle_92 : decode cX0_middle 92 = .ok (.iconst 0, 1) := by decide +kernel
theorem dX0_middle_93 : decode cX0_middle 93 = .ok (.iadd, 1) := by decide +kernel
theorem dX0_middle_94 : decode cX0_middle 94 = .ok (.istore 8, 2) := by decide +kernel
theorem dX0_middle_96 : decode cX0_middle 96 = .ok (.iinc 9 1, 3) := by decide +kernel
theorem dX0_middle_99 : decode cX0_middle 99 = .ok (.goto (-51), 3) := by decide +kernel
theorem dX0_middle_102 : decode cX0_middle 102 = .ok (.iload 7, 2) := by decide +kernel
theorem dX0_middle_104 : decode cX0_middle 104 = .ok (.iload_n 3, 1) := by decide +kernel
theorem dX0_middle_105 : decode cX0_middle 105 = .ok (.if_icmp .gt 13, 3) := by decide +kernel
theorem dX0_middle_108 : decode cX0_middle 108 = .ok (.iload 8, 2) := by decide +kernel
theorem dX0_middle_110 : decode cX0_middle 110 = .ok (.iload_n 3, 1) := by decide +kernel
theorem dX0_middle_111 : decode cX0_middle 111 = .ok (.if_icmp .le 7, 3) := by decide +kernel
theorem dX0_middle_114 : decode cX0_middle 114 = .ok (.iload 6, 2) := by decide +kernel
theorem dX0_middle_116 : decode cX0_middle 116 = .ok (.istore 4, 2) := by decide +kernel
theorem dX0_middle_118 : decode cX0_middle 118 = .ok (.iinc 5 1, 3) := by decide +kernel
theorem dX0_middle_121 : decode cX0_middle 121 = .ok (.goto (-96), 3) := by decide +kernel
theorem dX0_middle_124 : decode cX0_middle 124 = .ok (.iload 4, 2) := by decide +kernel
theorem dX0_middle_126 : decode cX0_middle 126 = .ok (.ireturn, 1) := by decide +kernel
theorem dX0_standsOut_0 : decode cX0_standsOut 0 = .ok (.aload_n 0, 1) := by decide +kernel
theorem dX0_standsOut_1 : decode cX0_standsOut 1 = .ok (.iload_n 1, 1) := by decide +kernel
theorem dX0_standsOut_2 : decode cX0_standsOut 2 = .ok (.invokevirtual 19, 3) := by decide +kernel
theorem dX0_standsOut_5 : decode cX0_standsOut 5 = .ok (.aload_n 0, 1) := by decide +kernel
theorem dX0_standsOut_6 : decode cX0_standsOut 6 = .ok (.iload_n 1, 1) := by decide +kernel
theorem dX0_standsOut_7 : decode cX0_standsOut 7 = .ok (.invokestatic 23, 3) := by decide +kernel
theorem dX0_standsOut_10 : decode cX0_standsOut 10 = .ok (.isub, 1) := by decide +kernel
theorem dX0_standsOut_11 : decode cX0_standsOut 11 = .ok (.invokestatic 29, 3) := by decide +kernel
theorem dX0_standsOut_14 : decode cX0_standsOut 14 = .ok (.aload_n 0, 1) := by decide +kernel
theorem dX0_standsOut_15 : decode cX0_standsOut 15 = .ok (.getfield 34, 3) := by decide +kernel
theorem dX0_standsOut_18 : decode cX0_standsOut 18 = .ok (.if_icmp .le 7, 3) := by decide +kernel
theorem dX0_standsOut_21 : decode cX0_standsOut 21 = .ok (.iconst 1, 1) := by decide +kernel
theorem dX0_standsOut_22 : decode cX0_standsOut 22 = .ok (.goto 4, 3) := by decide +kernel
theorem dX0_standsOut_25 : decode cX0_standsOut 25 = .ok (.iconst 0, 1) := by decide +kernel
theorem dX0_standsOut_26 : decode cX0_standsOut 26 = .ok (.ireturn, 1) := by decide +kernel
theorem dX0_number_0 : decode cX0_number 0 = .ok (.iconst 0, 1) := by decide +kernel
theorem dX0_number_1 : decode cX0_number 1 = .ok (.istore_n 1, 1) := by decide +kernel
theorem dX0_number_2 : decode cX0_number 2 = .ok (.iconst 0, 1) := by decide +kernel
theorem dX0_number_3 : decode cX0_number 3 = .ok (.istore_n 2, 1) := by decide +kernel
theorem dX0_number_4 : decode cX0_number 4 = .ok (.iload_n 2, 1) := by decide +kernel
theorem dX0_number_5 : decode cX0_number 5 = .ok (.aload_n 0, 1) := by decide +kernel
theorem dX0_number_6 : decode cX0_number 6 = .ok (.getfield 37, 3) := by decide +kernel
theorem dX0_number_9 : decode cX0_number 9 = .ok (.if_icmp .ge 20, 3) := by decide +kernel
theorem dX0_number_12 : decode cX0_number 12 = .ok (.aload_n 0, 1) := by decide +kernel
theorem dX0_number_13 : decode cX0_number 13 = .ok (.iload_n 2, 1) := by decide +kernel
theorem dX0_number_14 : decode cX0_number 14 = .ok (.invokestatic 40, 3) := by decide +kernel
theorem dX0_number_17 : decode cX0_number 17 = .ok (.ifCond .eq 6, 3) := by decide +kernel
theorem dX0_number_20 : decode cX0_number 20 = .ok (.iinc 1 1, 3) := by decide +kernel
theorem dX0_number_23 : decode cX0_number 23 = .ok (.iinc 2 1, 3) := by decide +kernel
theorem dX0_number_26 : decode cX0_number 26 = .ok (.goto (-22), 3) := by decide +kernel
theorem dX0_number_29 : decode cX0_number 29 = .ok (.iload_n 1, 1) := by decide +kernel
theorem dX0_number_30 : decode cX0_number 30 = .ok (.ireturn, 1) := by decide +kernel
theorem dX0_flatten_0 : decode cX0_flatten 0 = .ok (.aload_n 0, 1) := by decide +kernel
theorem dX0_flatten_1 : decode cX0_flatten 1 = .ok (.iload_n 1, 1) := by decide +kernel
theorem dX0_flatten_2 : decode cX0_flatten 2 = .ok (.aload_n 0, 1) := by decide +kernel
theorem dX0_flatten_3 : decode cX0_flatten 3 = .ok (.iload_n 1, 1) := by decide +kernel
theorem dX0_flatten_4 : decode cX0_flatten 4 = .ok (.invokestatic 23, 3) := by decide +kernel
theorem dX0_flatten_7 : decode cX0_flatten 7 = .ok (.invokevirtual 44, 3) := by decide +kernel
theorem dX0_flatten_10 : decode cX0_flatten 10 = .ok (.return_, 1) := by decide +kernel
theorem dX0_flattenAll_0 : decode cX0_flattenAll 0 = .ok (.iconst 0, 1) := by decide +kernel
theorem dX0_flattenAll_1 : decode cX0_flattenAll 1 = .ok (.istore_n 1, 1) := by decide +kernel
theorem dX0_flattenAll_2 : decode cX0_flattenAll 2 = .ok (.iconst 0, 1) := by decide +kernel
theorem dX0_flattenAll_3 : decode cX0_flattenAll 3 = .ok (.istore_n 2, 1) := by decide +kernel
theorem dX0_flattenAll_4 : decode cX0_flattenAll 4 = .ok (.iload_n 2, 1) := by decide +kernel
theorem dX0_flattenAll_5 : decode cX0_flattenAll 5 = .ok (.aload_n 0, 1) := by decide +kernel
theorem dX0_flattenAll_6 : decode cX0_flattenAll 6 = .ok (.getfield 37, 3) := by decide +kernel
theorem dX0_flattenAll_9 : decode cX0_flattenAll 9 = .ok (.if_icmp .ge 25, 3) := by decide +kernel
theorem dX0_flattenAll_12 : decode cX0_flattenAll 12 = .ok (.aload_n 0, 1) := by decide +kernel
theorem dX0_flattenAll_13 : decode cX0_flattenAll 13 = .ok (.iload_n 2, 1) := by decide +kernel
theorem dX0_flattenAll_14 : decode cX0_flattenAll 14 = .ok (.invokestatic 40, 3) := by decide +kernel
theorem dX0_flattenAll_17 : decode cX0_flattenAll 17 = .ok (.ifCond .eq 11, 3) := by decide +kernel
theorem dX0_flattenAll_20 : decode cX0_flattenAll 20 = .ok (.aload_n 0, 1) := by decide +kernel
theorem dX0_flattenAll_21 : decode cX0_flattenAll 21 = .ok (.iload_n 2, 1) := by decide +kernel
theorem dX0_flattenAll_22 : decode cX0_flattenAll 22 = .ok (.invokestatic 48, 3) := by decide +kernel
theorem dX0_flattenAll_25 : decode cX0_flattenAll 25 = .ok (.iinc 1 1, 3) := by decide +kernel
theorem dX0_flattenAll_28 : decode cX0_flattenAll 28 = .ok (.iinc 2 1, 3) := by decide +kernel
theorem dX0_flattenAll_31 : decode cX0_flattenAll 31 = .ok (.goto (-27), 3) := by decide +kernel
theorem dX0_flattenAll_34 : decode cX0_flattenAll 34 = .ok (.iload_n 1, 1) := by decide +kernel
theorem dX0_flattenAll_35 : decode cX0_flattenAll 35 = .ok (.ireturn, 1) := by decide +kernel
theorem dX1_behind_0 : decode cX1_behind 0 = .ok (.aload_n 0, 1) := by decide +kernel
theorem dX1_behind_1 : decode cX1_behind 1 = .ok (.iload_n 2, 1) := by decide +kernel
theorem dX1_behind_2 : decode cX1_behind 2 = .ok (.invokevirtual 9, 3) := by decide +kernel
theorem dX1_behind_5 : decode cX1_behind 5 = .ok (.istore_n 3, 1) := by decide +kernel
theorem dX1_behind_6 : decode cX1_behind 6 = .ok (.iload_n 1, 1) := by decide +kernel
theorem dX1_behind_7 : decode cX1_behind 7 = .ok (.iconst 3, 1) := by decide +kernel
theorem dX1_behind_8 : decode cX1_behind 8 = .ok (.if_icmp .ne 12, 3) := by decide +kernel
theorem dX1_behind_11 : decode cX1_behind 11 = .ok (.aload_n 0, 1) := by decide +kernel
theorem dX1_behind_12 : decode cX1_behind 12 = .ok (.iload_n 3, 1) := by decide +kernel
theorem dX1_behind_13 : decode cX1_behind 13 = .ok (.iload_n 2, 1) := by decide +kernel
theorem dX1_behind_14 : decode cX1_behind 14 = .ok (.invokestatic 15, 3) := by decide +kernel
theorem dX1_behind_17 : decode cX1_behind 17 = .ok (.goto 4, 3) := by decide +kernel
theorem dX1_behind_20 : decode cX1_behind 20 = .ok (.iconst 0, 1) := by decide +kernel
theorem dX1_behind_21 : decode cX1_behind 21 = .ok (.istore 4, 2) := by decide +kernel
theorem dX1_behind_23 : decode cX1_behind 23 = .ok (.iload 4, 2) := by decide +kernel
theorem dX1_behind_25 : decode cX1_behind 25 = .ok (.ifCond .le 21, 3) := by decide +kernel
theorem dX1_behind_28 : decode cX1_behind 28 = .ok (.ldc2_w 21, 3) := by decide +kernel
theorem dX1_behind_31 : decode cX1_behind 31 = .ok (.aload_n 0, 1) := by decide +kernel
theorem dX1_behind_32 : decode cX1_behind 32 = .ok (.iload_n 3, 1) := by decide +kernel
theorem dX1_behind_33 : decode cX1_behind 33 = .ok (.iload_n 2, 1) := by decide +kernel
theorem dX1_behind_34 : decode cX1_behind 34 = .ok (.invokestatic 23, 3) := by decide +kernel
theorem dX1_behind_37 : decode cX1_behind 37 = .ok (.lmul, 1) := by decide +kernel
theorem dX1_behind_38 : decode cX1_behind 38 = .ok (.iload 4, 2) := by decide +kernel
theorem dX1_behind_40 : decode cX1_behind 40 = .ok (.i2l, 1) := by decide +kernel
theorem dX1_behind_41 : decode cX1_behind 41 = .ok (.invokestatic 27, 3) := by decide +kernel
theorem dX1_behind_44 : decode cX1_behind 44 = .ok (.l2i, 1) := by decide +kernel
theorem dX1_behind_45 : decode cX1_behind 45 = .ok (.ireturn, 1) := by decide +kernel
theorem dX1_behind_46 : decode cX1_behind 46 = .ok (.iload_n 1, 1) := by decide +kernel
theorem dX1_behind_47 : decode cX1_behind 47 = .ok (.iconst 2, 1) := by decide +kernel
theorem dX1_behind_48 : decode cX1_behind 48 = .ok (.if_icmp .ne 11, 3) := by decide +kernel
theorem dX1_behind_51 : decode cX1_behind 51 = .ok (.aload_n 0, 1) := by decide +kernel
theorem dX1_behind_52 : decode cX1_behind 52 = .ok (.iload_n 2, 1) := by decide +kernel
theorem dX1_behind_53 : decode cX1_behind 53 = .ok (.iconst 1, 1) := by decide +kernel
theorem dX1_behind_54 : decode cX1_behind 54 = .ok (.isub, 1) := by decide +kernel
theorem dX1_behind_55 : decode cX1_behind 55 = .ok (.invokestatic 31, 3) := by decide +kernel
theorem dX1_behind_58 : decode cX1_behind 58 = .ok (.ireturn, 1) := by decide +kernel
theorem dX1_behind_59 : decode cX1_behind 59 = .ok (.aload_n 0, 1) := by decide +kernel
theorem dX1_behind_60 : decode cX1_behind 60 = .ok (.iload_n 2, 1) := by decide +kernel
theorem dX1_behind_61 : decode cX1_behind 61 = .ok (.iconst 1, 1) := by decide +kernel
theorem dX1_behind_62 : decode cX1_behind 62 = .ok (.isub, 1) := by decide +kernel
theorem dX1_behind_63 : decode cX1_behind 63 = .ok (.iload_n 1, 1) := by decide +kernel
theorem dX1_behind_64 : decode cX1_behind 64 = .ok (.ifCond .ne 10, 3) := by decide +kernel
theorem dX1_behind_67 : decode cX1_behind 67 = .ok (.aload_n 0, 1) := by decide +kernel
theorem dX1_behind_68 : decode cX1_behind 68 = .ok (.getfield 37, 3) := by decide +kernel
theorem dX1_behind_71 : decode cX1_behind 71 = .ok (.goto 7, 3) := by decide +kernel
theorem dX1_behind_74 : decode cX1_behind 74 = .ok (.aload_n 0, 1) := by decide +kernel
theorem dX1_behind_75 : decode cX1_behind 75 = .ok (.getfield 41, 3) := by decide +kernel
theorem dX1_behind_78 : decode cX1_behind 78 = .ok (.invokestatic 44, 3) := by decide +kernel
theorem dX1_behind_81 : decode cX1_behind 81 = .ok (.ireturn, 1) := by decide +kernel
theorem dX1_missOf_0 : decode cX1_missOf 0 = .ok (.lconst 0, 1) := by decide +kernel
theorem dX1_missOf_1 : decode cX1_missOf 1 = .ok (.lstore_n 2, 1) := by decide +kernel
theorem dX1_missOf_2 : decode cX1_missOf 2 = .ok (.iconst 1, 1) := by decide +kernel
theorem dX1_missOf_3 : decode cX1_missOf 3 = .ok (.istore 4, 2) := by decide +kernel
theorem dX1_missOf_5 : decode cX1_missOf 5 = .ok (.iload 4, 2) := by decide +kernel
theorem dX1_missOf_7 : decode cX1_missOf 7 = .ok (.aload_n 0, 1) := by decide +kernel
theorem dX1_missOf_8 : decode cX1_missOf 8 = .ok (.getfield 47, 3) := by decide +kernel
theorem dX1_missOf_11 : decode cX1_missOf 11 = .ok (.if_icmp .ge 34, 3) := by decide +kernel
theorem dX1_missOf_14 : decode cX1_missOf 14 = .ok (.lload_n 2, 1) := by decide +kernel
theorem dX1_missOf_15 : decode cX1_missOf 15 = .ok (.aload_n 0, 1) := by decide +kernel
theorem dX1_missOf_16 : decode cX1_missOf 16 = .ok (.iload_n 1, 1) := by decide +kernel
theorem dX1_missOf_17 : decode cX1_missOf 17 = .ok (.iload 4, 2) := by decide +kernel
theorem dX1_missOf_19 : decode cX1_missOf 19 = .ok (.invokestatic 50, 3) := by decide +kernel
theorem dX1_missOf_22 : decode cX1_missOf 22 = .ok (.sipush 1000, 3) := by decide +kernel
theorem dX1_missOf_25 : decode cX1_missOf 25 = .ok (.aload_n 0, 1) := by decide +kernel
theorem dX1_missOf_26 : decode cX1_missOf 26 = .ok (.iload 4, 2) := by decide +kernel
theorem dX1_missOf_28 : decode cX1_missOf 28 = .ok (.invokevirtual 55, 3) := by decide +kernel
theorem dX1_missOf_31 : decode cX1_missOf 31 = .ok (.imul, 1) := by decide +kernel
theorem dX1_missOf_32 : decode cX1_missOf 32 = .ok (.isub, 1) := by decide +kernel
theorem dX1_missOf_33 : decode cX1_missOf 33 = .ok (.invokestatic 58, 3) := by decide +kernel
theorem dX1_missOf_36 : decode cX1_missOf 36 = .ok (.i2l, 1) := by decide +kernel
theorem dX1_missOf_37 : decode cX1_missOf 37 = .ok (.ladd, 1) := by decide +kernel
theorem dX1_missOf_38 : decode cX1_missOf 38 = .ok (.lstore_n 2, 1) := by decide +kernel
theorem dX1_missOf_39 : decode cX1_missOf 39 = .ok (.iinc 4 1, 3) := by decide +kernel
theorem dX1_missOf_42 : decode cX1_missOf 42 = .ok (.goto (-37), 3) := by decide +kernel
theorem dX1_missOf_45 : decode cX1_missOf 45 = .ok (.lload_n 2, 1) := by decide +kernel
theorem dX1_missOf_46 : decode cX1_missOf 46 = .ok (.aload_n 0, 1) := by decide +kernel
theorem dX1_missOf_47 : decode cX1_missOf 47 = .ok (.getfield 47, 3) := by decide +kernel
theorem dX1_missOf_50 : decode cX1_missOf 50 = .ok (.iconst 1, 1) := by decide +kernel
theorem dX1_missOf_51 : decode cX1_missOf 51 = .ok (.isub, 1) := by decide +kernel
theorem dX1_missOf_52 : decode cX1_missOf 52 = .ok (.i2l, 1) := by decide +kernel
theorem dX1_missOf_53 : decode cX1_missOf 53 = .ok (.invokestatic 27, 3) := by decide +kernel
theorem dX1_missOf_56 : decode cX1_missOf 56 = .ok (.l2i, 1) := by decide +kernel
theorem dX1_missOf_57 : decode cX1_missOf 57 = .ok (.ireturn, 1) := by decide +kernel
theorem dX1_best_0 : decode cX1_best 0 = .ok (.iconst 0, 1) := by decide +kernel
theorem dX1_best_1 : decode cX1_best 1 = .ok (.istore_n 1, 1) := by decide +kernel
theorem dX1_best_2 : decode cX1_best 2 = .ok (.aload_n 0, 1) := by decide +kernel
theorem dX1_best_3 : decode cX1_best 3 = .ok (.iconst 0, 1) := by decide +kernel
theorem dX1_best_4 : decode cX1_best 4 = .ok (.invokestatic 63, 3) := by decide +kernel
theorem dX1_best_7 : decode cX1_best 7 = .ok (.istore_n 2, 1) := by decide +kernel
theorem dX1_best_8 : decode cX1_best 8 = .ok (.iconst 1, 1) := by decide +kernel
theorem dX1_best_9 : decode cX1_best 9 = .ok (.istore_n 3, 1) := by decide +kernel
theorem dX1_best_10 : decode cX1_best 10 = .ok (.iload_n 3, 1) := by decide +kernel
theorem dX1_best_11 : decode cX1_best 11 = .ok (.iconst 4, 1) := by decide +kernel
theorem dX1_best_12 : decode cX1_best 12 = .ok (.if_icmp .ge 27, 3) := by decide +kernel
theorem dX1_best_15 : decode cX1_best 15 = .ok (.aload_n 0, 1) := by decide +kernel
theorem dX1_best_16 : decode cX1_best 16 = .ok (.iload_n 3, 1) := by decide +kernel
theorem dX1_best_17 : decode cX1_best 17 = .ok (.invokestatic 63, 3) := by decide +kernel
theorem dX1_best_20 : decode cX1_best 20 = .ok (.istore 4, 2) := by decide +kernel
theorem dX1_best_22 : decode cX1_best 22 = .ok (.iload 4, 2) := by decide +kernel
theorem dX1_best_24 : decode cX1_best 24 = .ok (.iload_n 2, 1) := by decide +kernel
theorem dX1_best_25 : decode cX1_best 25 = .ok (.if_icmp .ge 8, 3) := by decide +kernel
theorem dX1_best_28 : decode cX1_best 28 = .ok (.iload 4, 2) := by decide +kernel
theorem dX1_best_30 : decode cX1_best 30 = .ok (.istore_n 2, 1) := by decide +kernel
theorem dX1_best_31 : decode cX1_best 31 = .ok (.iload_n 3, 1) := by decide +kernel
theorem dX1_best_32 : decode cX1_best 32 = .ok (.istore_n 1, 1) := by decide +kernel
theorem dX1_best_33 : decode cX1_best 33 = .ok (.iinc 3 1, 3) := by decide +kernel
theorem dX1_best_36 : decode cX1_best 36 = .ok (.goto (-26), 3) := by decide +kernel
theorem dX1_best_39 : decode cX1_best 39 = .ok (.iload_n 1, 1) := by decide +kernel
theorem dX1_best_40 : decode cX1_best 40 = .ok (.ireturn, 1) := by decide +kernel
theorem dX2_init_0 : decode cX2_init 0 = .ok (.aload_n 0, 1) := by decide +kernel
theorem dX2_init_1 : decode cX2_init 1 = .ok (.invokespecial 3, 3) := by decide +kernel
theorem dX2_init_4 : decode cX2_init 4 = .ok (.aload_n 0, 1) := by decide +kernel
theorem dX2_init_5 : decode cX2_init 5 = .ok (.bipush 60, 2) := by decide +kernel
theorem dX2_init_7 : decode cX2_init 7 = .ok (.newarray .int, 2) := by decide +kernel
theorem dX2_init_9 : decode cX2_init 9 = .ok (.putfield 9, 3) := by decide +kernel
theorem dX2_init_12 : decode cX2_init 12 = .ok (.aload_n 0, 1) := by decide +kernel
theorem dX2_init_13 : decode cX2_init 13 = .ok (.iconst 0, 1) := by decide +kernel
theorem dX2_init_14 : decode cX2_init 14 = .ok (.putfield 15, 3) := by decide +kernel
theorem dX2_init_17 : decode cX2_init 17 = .ok (.aload_n 0, 1) := by decide +kernel
theorem dX2_init_18 : decode cX2_init 18 = .ok (.iconst 0, 1) := by decide +kernel
theorem dX2_init_19 : decode cX2_init 19 = .ok (.putfield 19, 3) := by decide +kernel
theorem dX2_init_22 : decode cX2_init 22 = .ok (.return_, 1) := by decide +kernel
theorem dX2_byLooking_0 : decode cX2_byLooking 0 = .ok (.iconst 0, 1) := by decide +kernel
theorem dX2_byLooking_1 : decode cX2_byLooking 1 = .ok (.istore_n 2, 1) := by decide +kernel
theorem dX2_byLooking_2 : decode cX2_byLooking 2 = .ok (.iload_n 1, 1) := by decide +kernel
theorem dX2_byLooking_3 : decode cX2_byLooking 3 = .ok (.aload_n 0, 1) := by decide +kernel
theorem dX2_byLooking_4 : decode cX2_byLooking 4 = .ok (.getfield 22, 3) := by decide +kernel
theorem dX2_byLooking_7 : decode cX2_byLooking 7 = .ok (.invokestatic 27, 3) := by decide +kernel
theorem dX2_byLooking_10 : decode cX2_byLooking 10 = .ok (.istore_n 3, 1) := by decide +kernel
theorem dX2_byLooking_11 : decode cX2_byLooking 11 = .ok (.iload_n 3, 1) := by decide +kernel
theorem dX2_byLooking_12 : decode cX2_byLooking 12 = .ok (.iload_n 1, 1) := by decide +kernel
theorem dX2_byLooking_13 : decode cX2_byLooking 13 = .ok (.if_icmp .gt 19, 3) := by decide +kernel
theorem dX2_byLooking_16 : decode cX2_byLooking 16 = .ok (.iload_n 2, 1) := by decide +kernel
theorem dX2_byLooking_17 : decode cX2_byLooking 17 = .ok (.aload_n 0, 1) := by decide +kernel
theorem dX2_byLooking_18 : decode cX2_byLooking 18 = .ok (.iload_n 3, 1) := by decide +kernel
theorem dX2_byLooking_19 : decode cX2_byLooking 19 = .ok (.invokevirtual 33, 3) := by decide +kernel
theorem dX2_byLooking_22 : decode cX2_byLooking 22 = .ok (.invokestatic 37, 3) := by decide +kernel
theorem dX2_byLooking_25 : decode cX2_byLooking 25 = .ok (.istore_n 2, 1) := by decide +kernel
theorem dX2_byLooking_26 : decode cX2_byLooking 26 = .ok (.iinc 3 1, 3) := by decide +kernel
theorem dX2_byLooking_29 : decode cX2_byLooking 29 = .ok (.goto (-18), 3) := by decide +kernel
theorem dX2_byLooking_32 : decode cX2_byLooking 32 = .ok (.iload_n 2, 1) := by decide +kernel
theorem dX2_byLooking_33 : decode cX2_byLooking 33 = .ok (.ireturn, 1) := by decide +kernel
theorem dX2_byRow_0 : decode cX2_byRow 0 = .ok (.aload_n 0, 1) := by decide +kernel
theorem dX2_byRow_1 : decode cX2_byRow 1 = .ok (.iconst 0, 1) := by decide +kernel
theorem dX2_byRow_2 : decode cX2_byRow 2 = .ok (.putfield 15, 3) := by decide +kernel
theorem dX2_byRow_5 : decode cX2_byRow 5 = .ok (.aload_n 0, 1) := by decide +kernel
theorem dX2_byRow_6 : decode cX2_byRow 6 = .ok (.iconst 0, 1) := by decide +kernel
theorem dX2_byRow_7 : decode cX2_byRow 7 = .ok (.putfield 19, 3) := by decide +kernel
theorem dX2_byRow_10 : decode cX2_byRow 10 = .ok (.iconst 0, 1) := by decide +kernel
theorem dX2_byRow_11 : decode cX2_byRow 11 = .ok (.istore_n 3, 1) := by decide +kernel
theorem dX2_byRow_12 : decode cX2_byRow 12 = .ok (.iload_n 3, 1) := by decide +kernel
theorem dX2_byRow_13 : decode cX2_byRow 13 = .ok (.iload_n 2, 1) := by decide +kernel
theorem dX2_byRow_14 : decode cX2_byRow 14 = .ok (.if_icmp .gt 27, 3) := by decide +kernel
theorem dX2_byRow_17 : decode cX2_byRow 17 = .ok (.aload_n 0, 1) := by decide +kernel
theorem dX2_byRow_18 : decode cX2_byRow 18 = .ok (.aload_n 1, 1) := by decide +kernel
theorem dX2_byRow_19 : decode cX2_byRow 19 = .ok (.iload_n 3, 1) := by decide +kernel
theorem dX2_byRow_20 : decode cX2_byRow 20 = .ok (.invokevirtual 42, 3) := by decide +kernel
theorem dX2_byRow_23 : decode cX2_byRow 23 = .ok (.aload_n 0, 1) := by decide +kernel
theorem dX2_byRow_24 : decode cX2_byRow 24 = .ok (.iload_n 3, 1) := by decide +kernel
theorem dX2_byRow_25 : decode cX2_byRow 25 = .ok (.aload_n 1, 1) := by decide +kernel
theorem dX2_byRow_26 : decode cX2_byRow 26 = .ok (.getfield 22, 3) := by decide +kernel
theorem dX2_byRow_29 : decode cX2_byRow 29 = .ok (.invokestatic 27, 3) := by decide +kernel
theorem dX2_byRow_32 : decode cX2_byRow 32 = .ok (.invokevirtual 46, 3) := by decide +kernel
theorem dX2_byRow_35 : decode cX2_byRow 35 = .ok (.iinc 3 1, 3) := by decide +kernel
theorem dX2_byRow_38 : decode cX2_byRow 38 = .ok (.goto (-26), 3) := by decide +kernel
theorem dX2_byRow_41 : decode cX2_byRow 41 = .ok (.aload_n 1, 1) := by decide +kernel
theorem dX2_byRow_42 : decode cX2_byRow 42 = .ok (.aload_n 0, 1) := by decide +kernel
theorem dX2_byRow_43 : decode cX2_byRow 43 = .ok (.aload_n 0, 1) := by decide +kernel
theorem dX2_byRow_44 : decode cX2_byRow 44 = .ok (.getfield 15, 3) := by decide +kernel
theorem dX2_byRow_47 : decode cX2_byRow 47 = .ok (.invokevirtual 50, 3) := by decide +kernel
theorem dX2_byRow_50 : decode cX2_byRow 50 = .ok (.invokevirtual 33, 3) := by decide +kernel
theorem dX2_byRow_53 : decode cX2_byRow 53 = .ok (.ireturn, 1) := by decide +kernel
theorem dX2_enter_0 : decode cX2_enter 0 = .ok (.aload_n 0, 1) := by decide +kernel
theorem dX2_enter_1 : decode cX2_enter 1 = .ok (.getfield 19, 3) := by decide +kernel
theorem dX2_enter_4 : decode cX2_enter 4 = .ok (.aload_n 0, 1) := by decide +kernel
theorem dX2_enter_5 : decode cX2_enter 5 = .ok (.getfield 15, 3) := by decide +kernel
theorem dX2_enter_8 : decode cX2_enter 8 = .ok (.if_icmp .le 38, 3) := by decide +kernel
theorem dX2_enter_11 : decode cX2_enter 11 = .ok (.aload_n 1, 1) := by decide +kernel
theorem dX2_enter_12 : decode cX2_enter 12 = .ok (.aload_n 0, 1) := by decide +kernel
theorem dX2_enter_13 : decode cX2_enter 13 = .ok (.aload_n 0, 1) := by decide +kernel
theorem dX2_enter_14 : decode cX2_enter 14 = .ok (.getfield 19, 3) := by decide +kernel
theorem dX2_enter_17 : decode cX2_enter 17 = .ok (.iconst 1, 1) := by decide +kernel
theorem dX2_enter_18 : decode cX2_enter 18 = .ok (.isub, 1) := by decide +kernel
theorem dX2_enter_19 : decode cX2_enter 19 = .ok (.invokevirtual 50, 3) := by decide +kernel
theorem dX2_enter_22 : decode cX2_enter 22 = .ok (.invokevirtual 33, 3) := by decide +kernel
theorem dX2_enter_25 : decode cX2_enter 25 = .ok (.aload_n 1, 1) := by decide +kernel
theorem dX2_enter_26 : decode cX2_enter 26 = .ok (.iload_n 2, 1) := by decide +kernel
theorem dX2_enter_27 : decode cX2_enter 27 = .ok (.invokevirtual 33, 3) := by decide +kernel
theorem dX2_enter_30 : decode cX2_enter 30 = .ok (.if_icmp .gt 16, 3) := by decide +kernel
theorem dX2_enter_33 : decode cX2_enter 33 = .ok (.aload_n 0, 1) := by decide +kernel
theorem dX2_enter_34 : decode cX2_enter 34 = .ok (.dup, 1) := by decide +kernel
theorem dX2_enter_35 : decode cX2_enter 35 = .ok (.getfield 19, 3) := by decide +kernel
theorem dX2_enter_38 : decode cX2_enter 38 = .ok (.iconst 1, 1) := by decide +kernel
theorem dX2_enter_39 : decode cX2_enter 39 = .ok (.isub, 1) := by decide +kernel
theorem dX2_enter_40 : decode cX2_enter 40 = .ok (.putfield 19, 3) := by decide +kernel
theorem dX2_enter_43 : decode cX2_enter 43 = .ok (.goto (-43), 3) := by decide +kernel
theorem dX2_enter_46 : decode cX2_enter 46 = .ok (.aload_n 0, 1) := by decide +kernel
theorem dX2_enter_47 : decode cX2_enter 47 = .ok (.getfield 19, 3) := by decide +kernel
theorem dX2_enter_50 : decode cX2_enter 50 = .ok (.ifCond .lt 35, 3) := by decide +kernel
theorem dX2_enter_53 : decode cX2_enter 53 = .ok (.aload_n 0, 1) := by decide +kernel
theorem dX2_enter_54 : decode cX2_enter 54 = .ok (.getfield 19, 3) := by decide +kernel
theorem dX2_enter_57 : decode cX2_enter 57 = .ok (.aload_n 0, 1) := by decide +kernel
theorem dX2_enter_58 : decode cX2_enter 58 = .ok (.getfield 9, 3) := by decide +kernel
theorem dX2_enter_61 : decode cX2_enter 61 = .ok (.arraylength, 1) := by decide +kernel
theorem dX2_enter_62 : decode cX2_enter 62 = .ok (.if_icmp .ge 23, 3) := by decide +kernel
theorem dX2_enter_65 : decode cX2_enter 65 = .ok (.aload_n 0, 1) := by decide +kernel
theorem dX2_enter_66 : decode cX2_enter 66 = .ok (.getfield 9, 3) := by decide +kernel
theorem dX2_enter_69 : decode cX2_enter 69 = .ok (.aload_n 0, 1) := by decide +kernel
theorem dX2_enter_70 : decode cX2_enter 70 = .ok (.getfield 19, 3) := by decide +kernel
theorem dX2_enter_73 : decode cX2_enter 73 = .ok (.iload_n 2, 1) := by decide +kernel
theorem dX2_enter_74 : decode cX2_enter 74 = .ok (.iastore, 1) := by decide +kernel
theorem dX2_enter_75 : decode cX2_enter 75 = .ok (.aload_n 0, 1) := by decide +kernel
theorem dX2_enter_76 : decode cX2_enter 76 = .ok (.dup, 1) := by decide +kernel
theorem dX2_enter_77 : decode cX2_enter 77 = .ok (.getfield 19, 3) := by decide +kernel
theorem dX2_enter_80 : decode cX2_enter 80 = .ok (.iconst 1, 1) := by decide +kernel
theorem dX2_enter_81 : decode cX2_enter 81 = .ok (.iadd, 1) := by decide +kernel
theorem dX2_enter_82 : decode cX2_enter 82 = .ok (.putfield 19, 3) := by decide +kernel
theorem dX2_enter_85 : decode cX2_enter 85 = .ok (.return_, 1) := by decide +kernel
theorem dX2_leave_0 : decode cX2_leave 0 = .ok (.aload_n 0, 1) := by decide +kernel
theorem dX2_leave_1 : decode cX2_leave 1 = .ok (.getfield 15, 3) := by decide +kernel
theorem dX2_leave_4 : decode cX2_leave 4 = .ok (.aload_n 0, 1) := by decide +kernel
theorem dX2_leave_5 : decode cX2_leave 5 = .ok (.getfield 19, 3) := by decide +kernel
theorem dX2_leave_8 : decode cX2_leave 8 = .ok (.if_icmp .ge 25, 3) := by decide +kernel
theorem dX2_leave_11 : decode cX2_leave 11 = .ok (.aload_n 0, 1) := by decide +kernel
theorem dX2_leave_12 : decode cX2_leave 12 = .ok (.aload_n 0, 1) := by decide +kernel
theorem dX2_leave_13 : decode cX2_leave 13 = .ok (.getfield 15, 3) := by decide +kernel
theorem dX2_leave_16 : decode cX2_leave 16 = .ok (.invokevirtual 50, 3) := by decide +kernel
theorem dX2_leave_19 : decode cX2_leave 19 = .ok (.iload_n 1, 1) := by decide +kernel
theorem dX2_leave_20 : decode cX2_leave 20 = .ok (.if_icmp .ge 13, 3) := by decide +kernel
theorem dX2_leave_23 : decode cX2_leave 23 = .ok (.aload_n 0, 1) := by decide +kernel
theorem dX2_leave_24 : decode cX2_leave 24 = .ok (.dup, 1) := by decide +kernel
theorem dX2_leave_25 : decode cX2_leave 25 = .ok (.getfield 15, 3) := by decide +kernel
theorem dX2_leave_28 : decode cX2_leave 28 = .ok (.iconst 1, 1) := by decide +kernel
theorem dX2_leave_29 : decode cX2_leave 29 = .ok (.iadd, 1) := by decide +kernel
theorem dX2_leave_30 : decode cX2_leave 30 = .ok (.putfield 15, 3) := by decide +kernel
theorem dX2_leave_33 : decode cX2_leave 33 = .ok (.return_, 1) := by decide +kernel
theorem dX2_candidate_0 : decode cX2_candidate 0 = .ok (.iload_n 1, 1) := by decide +kernel
theorem dX2_candidate_1 : decode cX2_candidate 1 = .ok (.ifCond .lt 21, 3) := by decide +kernel
theorem dX2_candidate_4 : decode cX2_candidate 4 = .ok (.iload_n 1, 1) := by decide +kernel
theorem dX2_candidate_5 : decode cX2_candidate 5 = .ok (.aload_n 0, 1) := by decide +kernel
theorem dX2_candidate_6 : decode cX2_candidate 6 = .ok (.getfield 9, 3) := by decide +kernel
theorem dX2_candidate_9 : decode cX2_candidate 9 = .ok (.arraylength, 1) := by decide +kernel
theorem dX2_candidate_10 : decode cX2_candidate 10 = .ok (.if_icmp .ge 12, 3) := by decide +kernel
theorem dX2_candidate_13 : decode cX2_candidate 13 = .ok (.aload_n 0, 1) := by decide +kernel
theorem dX2_candidate_14 : decode cX2_candidate 14 = .ok (.getfield 9, 3) := by decide +kernel
theorem dX2_candidate_17 : decode cX2_candidate 17 = .ok (.iload_n 1, 1) := by decide +kernel
theorem dX2_candidate_18 : decode cX2_candidate 18 = .ok (.iaload, 1) := by decide +kernel
theorem dX2_candidate_19 : decode cX2_candidate 19 = .ok (.goto 4, 3) := by decide +kernel
theorem dX2_candidate_22 : decode cX2_candidate 22 = .ok (.iconst 0, 1) := by decide +kernel
theorem dX2_candidate_23 : decode cX2_candidate 23 = .ok (.ireturn, 1) := by decide +kernel
theorem dX2_fallInOneGo_0 : decode cX2_fallInOneGo 0 = .ok (.iconst 0, 1) := by decide +kernel
theorem dX2_fallInOneGo_1 : decode cX2_fallInOneGo 1 = .ok (.istore_n 1, 1) := by decide +kernel
theorem dX2_fallInOneGo_2 : decode cX2_fallInOneGo 2 = .ok (.iconst 0, 1) := by decide +kernel
theorem dX2_fallInOneGo_3 : decode cX2_fallInOneGo 3 = .ok (.istore_n 2, 1) := by decide +kernel
theorem dX2_fallInOneGo_4 : decode cX2_fallInOneGo 4 = .ok (.iconst 0, 1) := by decide +kernel
theorem dX2_fallInOneGo_5 : decode cX2_fallInOneGo 5 = .ok (.istore_n 3, 1) := by decide +kernel
theorem dX2_fallInOneGo_6 : decode cX2_fallInOneGo 6 = .ok (.iload_n 3, 1) := by decide +kernel
theorem dX2_fallInOneGo_7 : decode cX2_fallInOneGo 7 = .ok (.aload_n 0, 1) := by decide +kernel
theorem dX2_fallInOneGo_8 : decode cX2_fallInOneGo 8 = .ok (.getfield 53, 3) := by decide +kernel
theorem dX2_fallInOneGo_11 : decode cX2_fallInOneGo 11 = .ok (.if_icmp .ge 31, 3) := by decide +kernel
theorem dX2_fallInOneGo_14 : decode cX2_fallInOneGo 14 = .ok (.iload_n 1, 1) := by decide +kernel
theorem dX2_fallInOneGo_15 : decode cX2_fallInOneGo 15 = .ok (.aload_n 0, 1) := by decide +kernel
theorem dX2_fallInOneGo_16 : decode cX2_fallInOneGo 16 = .ok (.iload_n 3, 1) := by decide +kernel
theorem dX2_fallInOneGo_17 : decode cX2_fallInOneGo 17 = .ok (.invokevirtual 33, 3) := by decide +kernel
theorem dX2_fallInOneGo_20 : decode cX2_fallInOneGo 20 = .ok (.invokestatic 37, 3) := by decide +kernel
theorem dX2_fallInOneGo_23 : decode cX2_fallInOneGo 23 = .ok (.istore_n 1, 1) := by decide +kernel
theorem dX2_fallInOneGo_24 : decode cX2_fallInOneGo 24 = .ok (.iload_n 2, 1) := by decide +kernel
theorem dX2_fallInOneGo_25 : decode cX2_fallInOneGo 25 = .ok (.iload_n 1, 1) := by decide +kernel
theorem dX2_fallInOneGo_26 : decode cX2_fallInOneGo 26 = .ok (.aload_n 0, 1) := by decide +kernel
theorem dX2_fallInOneGo_27 : decode cX2_fallInOneGo 27 = .ok (.iload_n 3, 1) := by decide +kernel
theorem dX2_fallInOneGo_28 : decode cX2_fallInOneGo 28 = .ok (.invokevirtual 33, 3) := by decide +kernel
theorem dX2_fallInOneGo_31 : decode cX2_fallInOneGo 31 = .ok (.isub, 1) := by decide +kernel
theorem dX2_fallInOneGo_32 : decode cX2_fallInOneGo 32 = .ok (.invokestatic 37, 3) := by decide +kernel
theorem dX2_fallInOneGo_35 : decode cX2_fallInOneGo 35 = .ok (.istore_n 2, 1) := by decide +kernel
theorem dX2_fallInOneGo_36 : decode cX2_fallInOneGo 36 = .ok (.iinc 3 1, 3) := by decide +kernel
theorem dX2_fallInOneGo_39 : decode cX2_fallInOneGo 39 = .ok (.goto (-33), 3) := by decide +kernel
theorem dX2_fallInOneGo_42 : decode cX2_fallInOneGo 42 = .ok (.iload_n 2, 1) := by decide +kernel
theorem dX2_fallInOneGo_43 : decode cX2_fallInOneGo 43 = .ok (.ireturn, 1) := by decide +kernel
theorem dX2_fallByPairs_0 : decode cX2_fallByPairs 0 = .ok (.iconst 0, 1) := by decide +kernel
theorem dX2_fallByPairs_1 : decode cX2_fallByPairs 1 = .ok (.istore_n 1, 1) := by decide +kernel
theorem dX2_fallByPairs_2 : decode cX2_fallByPairs 2 = .ok (.iconst 0, 1) := by decide +kernel
theorem dX2_fallByPairs_3 : decode cX2_fallByPairs 3 = .ok (.istore_n 2, 1) := by decide +kernel
theorem dX2_fallByPairs_4 : decode cX2_fallByPairs 4 = .ok (.iload_n 2, 1) := by decide +kernel
theorem dX2_fallByPairs_5 : decode cX2_fallByPairs 5 = .ok (.aload_n 0, 1) := by decide +kernel
theorem dX2_fallByPairs_6 : decode cX2_fallByPairs 6 = .ok (.getfield 53, 3) := by decide +kernel
theorem dX2_fallByPairs_9 : decode cX2_fallByPairs 9 = .ok (.if_icmp .ge 43, 3) := by decide +kernel
theorem dX2_fallByPairs_12 : decode cX2_fallByPairs 12 = .ok (.iload_n 2, 1) := by decide +kernel
theorem dX2_fallByPairs_13 : decode cX2_fallByPairs 13 = .ok (.iconst 1, 1) := by decide +kernel
theorem dX2_fallByPairs_14 : decode cX2_fallByPairs 14 = .ok (.iadd, 1) := by decide +kernel
theorem dX2_fallByPairs_15 : decode cX2_fallByPairs 15 = .ok (.istore_n 3, 1) := by decide +kernel
theorem dX2_fallByPairs_16 : decode cX2_fallByPairs 16 = .ok (.iload_n 3, 1) := by decide +kernel
theorem dX2_fallByPairs_17 : decode cX2_fallByPairs 17 = .ok (.aload_n 0, 1) := by decide +kernel
theorem dX2_fallByPairs_18 : decode cX2_fallByPairs 18 = .ok (.getfield 53, 3) := by decide +kernel
theorem dX2_fallByPairs_21 : decode cX2_fallByPairs 21 = .ok (.if_icmp .ge 25, 3) := by decide +kernel
theorem dX2_fallByPairs_24 : decode cX2_fallByPairs 24 = .ok (.iload_n 1, 1) := by decide +kernel
theorem dX2_fallByPairs_25 : decode cX2_fallByPairs 25 = .ok (.aload_n 0, 1) := by decide +kernel
theorem dX2_fallByPairs_26 : decode cX2_fallByPairs 26 = .ok (.iload_n 2, 1) := by decide +kernel
theorem dX2_fallByPairs_27 : decode cX2_fallByPairs 27 = .ok (.invokevirtual 33, 3) := by decide +kernel
theorem dX2_fallByPairs_30 : decode cX2_fallByPairs 30 = .ok (.aload_n 0, 1) := by decide +kernel
theorem dX2_fallByPairs_31 : decode cX2_fallByPairs 31 = .ok (.iload_n 3, 1) := by decide +kernel
theorem dX2_fallByPairs_32 : decode cX2_fallByPairs 32 = .ok (.invokevirtual 33, 3) := by decide +kernel
theorem dX2_fallByPairs_35 : decode cX2_fallByPairs 35 = .ok (.isub, 1) := by decide +kernel
theorem dX2_fallByPairs_36 : decode cX2_fallByPairs 36 = .ok (.invokestatic 37, 3) := by decide +kernel
theorem dX2_fallByPairs_39 : decode cX2_fallByPairs 39 = .ok (.istore_n 1, 1) := by decide +kernel
theorem dX2_fallByPairs_40 : decode cX2_fallByPairs 40 = .ok (.iinc 3 1, 3) := by decide +kernel
theorem dX2_fallByPairs_43 : decode cX2_fallByPairs 43 = .ok (.goto (-27), 3) := by decide +kernel
theorem dX2_fallByPairs_46 : decode cX2_fallByPairs 46 = .ok (.iinc 2 1, 3) := by decide +kernel
theorem dX2_fallByPairs_49 : decode cX2_fallByPairs 49 = .ok (.goto (-45), 3) := by decide +kernel
theorem dX2_fallByPairs_52 : decode cX2_fallByPairs 52 = .ok (.iload_n 1, 1) := by decide +kernel
theorem dX2_fallByPairs_53 : decode cX2_fallByPairs 53 = .ok (.ireturn, 1) := by decide +kernel
theorem dX2_riseInARow_0 : decode cX2_riseInARow 0 = .ok (.iconst 0, 1) := by decide +kernel
theorem dX2_riseInARow_1 : decode cX2_riseInARow 1 = .ok (.istore_n 1, 1) := by decide +kernel
theorem dX2_riseInARow_2 : decode cX2_riseInARow 2 = .ok (.iconst 0, 1) := by decide +kernel
theorem dX2_riseInARow_3 : decode cX2_riseInARow 3 = .ok (.istore_n 2, 1) := by decide +kernel
theorem dX2_riseInARow_4 : decode cX2_riseInARow 4 = .ok (.iconst 1, 1) := by decide +kernel
theorem dX2_riseInARow_5 : decode cX2_riseInARow 5 = .ok (.istore_n 3, 1) := by decide +kernel
theorem dX2_riseInARow_6 : decode cX2_riseInARow 6 = .ok (.iload_n 3, 1) := by decide +kernel
theorem dX2_riseInARow_7 : decode cX2_riseInARow 7 = .ok (.aload_n 0, 1) := by decide +kernel
theorem dX2_riseInARow_8 : decode cX2_riseInARow 8 = .ok (.getfield 53, 3) := by decide +kernel
theorem dX2_riseInARow_11 : decode cX2_riseInARow 11 = .ok (.if_icmp .ge 38, 3) := by decide +kernel
theorem dX2_riseInARow_14 : decode cX2_riseInARow 14 = .ok (.aload_n 0, 1) := by decide +kernel
theorem dX2_riseInARow_15 : decode cX2_riseInARow 15 = .ok (.iload_n 3, 1) := by decide +kernel
theorem dX2_riseInARow_16 : decode cX2_riseInARow 16 = .ok (.invokevirtual 33, 3) := by decide +kernel
theorem dX2_riseInARow_19 : decode cX2_riseInARow 19 = .ok (.aload_n 0, 1) := by decide +kernel
theorem dX2_riseInARow_20 : decode cX2_riseInARow 20 = .ok (.iload_n 3, 1) := by decide +kernel
theorem dX2_riseInARow_21 : decode cX2_riseInARow 21 = .ok (.iconst 1, 1) := by decide +kernel
theorem dX2_riseInARow_22 : decode cX2_riseInARow 22 = .ok (.isub, 1) := by decide +kernel
theorem dX2_riseInARow_23 : decode cX2_riseInARow 23 = .ok (.invokevirtual 33, 3) := by decide +kernel
theorem dX2_riseInARow_26 : decode cX2_riseInARow 26 = .ok (.if_icmp .le 9, 3) := by decide +kernel
theorem dX2_riseInARow_29 : decode cX2_riseInARow 29 = .ok (.iload_n 2, 1) := by decide +kernel
theorem dX2_riseInARow_30 : decode cX2_riseInARow 30 = .ok (.iconst 1, 1) := by decide +kernel
theorem dX2_riseInARow_31 : decode cX2_riseInARow 31 = .ok (.iadd, 1) := by decide +kernel
theorem dX2_riseInARow_32 : decode cX2_riseInARow 32 = .ok (.goto 4, 3) := by decide +kernel
theorem dX2_riseInARow_35 : decode cX2_riseInARow 35 = .ok (.iconst 0, 1) := by decide +kernel
theorem dX2_riseInARow_36 : decode cX2_riseInARow 36 = .ok (.istore_n 2, 1) := by decide +kernel
theorem dX2_riseInARow_37 : decode cX2_riseInARow 37 = .ok (.iload_n 1, 1) := by decide +kernel
theorem dX2_riseInARow_38 : decode cX2_riseInARow 38 = .ok (.iload_n 2, 1) := by decide +kernel
theorem dX2_riseInARow_39 : decode cX2_riseInARow 39 = .ok (.invokestatic 37, 3) := by decide +kernel
theorem dX2_riseInARow_42 : decode cX2_riseInARow 42 = .ok (.istore_n 1, 1) := by decide +kernel
theorem dX2_riseInARow_43 : decode cX2_riseInARow 43 = .ok (.iinc 3 1, 3) := by decide +kernel
theorem dX2_riseInARow_46 : decode cX2_riseInARow 46 = .ok (.goto (-40), 3) := by decide +kernel
theorem dX2_riseInARow_49 : decode cX2_riseInARow 49 = .ok (.iload_n 1, 1) := by decide +kernel
theorem dX2_riseInARow_50 : decode cX2_riseInARow 50 = .ok (.ireturn, 1) := by decide +kernel
theorem dX3_init_0 : decode cX3_init 0 = .ok (.aload_n 0, 1) := by decide +kernel
theorem dX3_init_1 : decode cX3_init 1 = .ok (.invokespecial 3, 3) := by decide +kernel
theorem dX3_init_4 : decode cX3_init 4 = .ok (.aload_n 0, 1) := by decide +kernel
theorem dX3_init_5 : decode cX3_init 5 = .ok (.bipush 6, 2) := by decide +kernel
theorem dX3_init_7 : decode cX3_init 7 = .ok (.anewarray 9, 3) := by decide +kernel
theorem dX3_init_10 : decode cX3_init 10 = .ok (.putfield 11, 3) := by decide +kernel
theorem dX3_init_13 : decode cX3_init 13 = .ok (.aload_n 0, 1) := by decide +kernel
theorem dX3_init_14 : decode cX3_init 14 = .ok (.iconst 0, 1) := by decide +kernel
theorem dX3_init_15 : decode cX3_init 15 = .ok (.putfield 17, 3) := by decide +kernel
theorem dX3_init_18 : decode cX3_init 18 = .ok (.aload_n 0, 1) := by decide +kernel
theorem dX3_init_19 : decode cX3_init 19 = .ok (.iconst 0, 1) := by decide +kernel
theorem dX3_init_20 : decode cX3_init 20 = .ok (.putfield 21, 3) := by decide +kernel
theorem dX3_init_23 : decode cX3_init 23 = .ok (.iconst 0, 1) := by decide +kernel
theorem dX3_init_24 : decode cX3_init 24 = .ok (.istore_n 1, 1) := by decide +kernel
theorem dX3_init_25 : decode cX3_init 25 = .ok (.iload_n 1, 1) := by decide +kernel
theorem dX3_init_26 : decode cX3_init 26 = .ok (.aload_n 0, 1) := by decide +kernel
theorem dX3_init_27 : decode cX3_init 27 = .ok (.getfield 11, 3) := by decide +kernel
theorem dX3_init_30 : decode cX3_init 30 = .ok (.arraylength, 1) := by decide +kernel
theorem dX3_init_31 : decode cX3_init 31 = .ok (.if_icmp .ge 22, 3) := by decide +kernel
theorem dX3_init_34 : decode cX3_init 34 = .ok (.aload_n 0, 1) := by decide +kernel
theorem dX3_init_35 : decode cX3_init 35 = .ok (.getfield 11, 3) := by decide +kernel
theorem dX3_init_38 : decode cX3_init 38 = .ok (.iload_n 1, 1) := by decide +kernel
theorem dX3_init_39 : decode cX3_init 39 = .ok (.new 9, 3) := by decide +kernel
theorem dX3_init_42 : decode cX3_init 42 = .ok (.dup, 1) := by decide +kernel
theorem dX3_init_43 : decode cX3_init 43 = .ok (.invokespecial 24, 3) := by decide +kernel
theorem dX3_init_46 : decode cX3_init 46 = .ok (.aastore, 1) := by decide +kernel
theorem dX3_init_47 : decode cX3_init 47 = .ok (.iinc 1 1, 3) := by decide +kernel
theorem dX3_init_50 : decode cX3_init 50 = .ok (.goto (-25), 3) := by decide +kernel
theorem dX3_init_53 : decode cX3_init 53 = .ok (.return_, 1) := by decide +kernel
theorem dX3_save_0 : decode cX3_save 0 = .ok (.aload_n 0, 1) := by decide +kernel
theorem dX3_save_1 : decode cX3_save 1 = .ok (.getfield 21, 3) := by decide +kernel
theorem dX3_save_4 : decode cX3_save 4 = .ok (.bipush 6, 2) := by decide +kernel
theorem dX3_save_6 : decode cX3_save 6 = .ok (.if_icmp .ne 19, 3) := by decide +kernel
theorem dX3_save_9 : decode cX3_save 9 = .ok (.aload_n 0, 1) := by decide +kernel
theorem dX3_save_10 : decode cX3_save 10 = .ok (.aload_n 0, 1) := by decide +kernel
theorem dX3_save_11 : decode cX3_save 11 = .ok (.getfield 17, 3) := by decide +kernel
theorem dX3_save_14 : decode cX3_save 14 = .ok (.iconst 1, 1) := by decide +kernel
theorem dX3_save_15 : decode cX3_save 15 = .ok (.iadd, 1) := by decide +kernel
theorem dX3_save_16 : decode cX3_save 16 = .ok (.bipush 6, 2) := by decide +kernel
theorem dX3_save_18 : decode cX3_save 18 = .ok (.irem, 1) := by decide +kernel
theorem dX3_save_19 : decode cX3_save 19 = .ok (.putfield 17, 3) := by decide +kernel
theorem dX3_save_22 : decode cX3_save 22 = .ok (.goto 13, 3) := by decide +kernel
theorem dX3_save_25 : decode cX3_save 25 = .ok (.aload_n 0, 1) := by decide +kernel
theorem dX3_save_26 : decode cX3_save 26 = .ok (.dup, 1) := by decide +kernel
theorem dX3_save_27 : decode cX3_save 27 = .ok (.getfield 21, 3) := by decide +kernel
theorem dX3_save_30 : decode cX3_save 30 = .ok (.iconst 1, 1) := by decide +kernel
theorem dX3_save_31 : decode cX3_save 31 = .ok (.iadd, 1) := by decide +kernel
theorem dX3_save_32 : decode cX3_save 32 = .ok (.putfield 21, 3) := by decide +kernel
theorem dX3_save_35 : decode cX3_save 35 = .ok (.aload_n 0, 1) := by decide +kernel
theorem dX3_save_36 : decode cX3_save 36 = .ok (.invokevirtual 25, 3) := by decide +kernel
theorem dX3_save_39 : decode cX3_save 39 = .ok (.astore_n 2, 1) := by decide +kernel
theorem dX3_save_40 : decode cX3_save 40 = .ok (.aload_n 2, 1) := by decide +kernel
theorem dX3_save_41 : decode cX3_save 41 = .ok (.ifnull 8, 3) := by decide +kernel
theorem dX3_save_44 : decode cX3_save 44 = .ok (.aload_n 2, 1) := by decide +kernel
theorem dX3_save_45 : decode cX3_save 45 = .ok (.aload_n 1, 1) := by decide +kernel
theorem dX3_save_46 : decode cX3_save 46 = .ok (.invokevirtual 29, 3) := by decide +kernel
theorem dX3_save_49 : decode cX3_save 49 = .ok (.return_, 1) := by decide +kernel
theorem dX3_takeBack_0 : decode cX3_takeBack 0 = .ok (.aload_n 0, 1) := by decide +kernel
theorem dX3_takeBack_1 : decode cX3_takeBack 1 = .ok (.invokevirtual 25, 3) := by decide +kernel
theorem dX3_takeBack_4 : decode cX3_takeBack 4 = .ok (.astore_n 2, 1) := by decide +kernel
theorem dX3_takeBack_5 : decode cX3_takeBack 5 = .ok (.aload_n 2, 1) := by decide +kernel
theorem dX3_takeBack_6 : decode cX3_takeBack 6 = .ok (.ifnull 25, 3) := by decide +kernel
theorem dX3_takeBack_9 : decode cX3_takeBack 9 = .ok (.aload_n 0, 1) := by decide +kernel
theorem dX3_takeBack_10 : decode cX3_takeBack 10 = .ok (.getfield 21, 3) := by decide +kernel
theorem dX3_takeBack_13 : decode cX3_takeBack 13 = .ok (.ifCond .le 18, 3) := by decide +kernel
theorem dX3_takeBack_16 : decode cX3_takeBack 16 = .ok (.aload_n 1, 1) := by decide +kernel
theorem dX3_takeBack_17 : decode cX3_takeBack 17 = .ok (.aload_n 2, 1) := by decide +kernel
theorem dX3_takeBack_18 : decode cX3_takeBack 18 = .ok (.invokevirtual 29, 3) := by decide +kernel
theorem dX3_takeBack_21 : decode cX3_takeBack 21 = .ok (.aload_n 0, 1) := by decide +kernel
theorem dX3_takeBack_22 : decode cX3_takeBack 22 = .ok (.dup, 1) := by decide +kernel
theorem dX3_takeBack_23 : decode cX3_takeBack 23 = .ok (.getfield 21, 3) := by decide +kernel
theorem dX3_takeBack_26 : decode cX3_takeBack 26 = .ok (.iconst 1, 1) := by decide +kernel
theorem dX3_takeBack_27 : decode cX3_takeBack 27 = .ok (.isub, 1) := by decide +kernel
theorem dX3_takeBack_28 : decode cX3_takeBack 28 = .ok (.putfield 21, 3) := by decide +kernel
theorem dX3_takeBack_31 : decode cX3_takeBack 31 = .ok (.return_, 1) := by decide +kernel
theorem dX3_newest_0 : decode cX3_newest 0 = .ok (.aload_n 0, 1) := by decide +kernel
theorem dX3_newest_1 : decode cX3_newest 1 = .ok (.getfield 17, 3) := by decide +kernel
theorem dX3_newest_4 : decode cX3_newest 4 = .ok (.aload_n 0, 1) := by decide +kernel
theorem dX3_newest_5 : decode cX3_newest 5 = .ok (.getfield 21, 3) := by decide +kernel
theorem dX3_newest_8 : decode cX3_newest 8 = .ok (.iadd, 1) := by decide +kernel
theorem dX3_newest_9 : decode cX3_newest 9 = .ok (.bipush 6, 2) := by decide +kernel
theorem dX3_newest_11 : decode cX3_newest 11 = .ok (.iadd, 1) := by decide +kernel
theorem dX3_newest_12 : decode cX3_newest 12 = .ok (.iconst 1, 1) := by decide +kernel
theorem dX3_newest_13 : decode cX3_newest 13 = .ok (.isub, 1) := by decide +kernel
theorem dX3_newest_14 : decode cX3_newest 14 = .ok (.bipush 6, 2) := by decide +kernel
theorem dX3_newest_16 : decode cX3_newest 16 = .ok (.irem, 1) := by decide +kernel
theorem dX3_newest_17 : decode cX3_newest 17 = .ok (.istore_n 1, 1) := by decide +kernel
theorem dX3_newest_18 : decode cX3_newest 18 = .ok (.iload_n 1, 1) := by decide +kernel
theorem dX3_newest_19 : decode cX3_newest 19 = .ok (.ifCond .lt 21, 3) := by decide +kernel
theorem dX3_newest_22 : decode cX3_newest 22 = .ok (.iload_n 1, 1) := by decide +kernel
theorem dX3_newest_23 : decode cX3_newest 23 = .ok (.aload_n 0, 1) := by decide +kernel
theorem dX3_newest_24 : decode cX3_newest 24 = .ok (.getfield 11, 3) := by decide +kernel
theorem dX3_newest_27 : decode cX3_newest 27 = .ok (.arraylength, 1) := by decide +kernel
theorem dX3_newest_28 : decode cX3_newest 28 = .ok (.if_icmp .ge 12, 3) := by decide +kernel
theorem dX3_newest_31 : decode cX3_newest 31 = .ok (.aload_n 0, 1) := by decide +kernel
theorem dX3_newest_32 : decode cX3_newest 32 = .ok (.getfield 11, 3) := by decide +kernel
theorem dX3_newest_35 : decode cX3_newest 35 = .ok (.iload_n 1, 1) := by decide +kernel
theorem dX3_newest_36 : decode cX3_newest 36 = .ok (.aaload, 1) := by decide +kernel
theorem dX3_newest_37 : decode cX3_newest 37 = .ok (.goto 4, 3) := by decide +kernel
theorem dX3_newest_40 : decode cX3_newest 40 = .ok (.aconst_null, 1) := by decide +kernel
theorem dX3_newest_41 : decode cX3_newest 41 = .ok (.areturn, 1) := by decide +kernel
theorem dX4_firstOf_0 : decode cX4_firstOf 0 = .ok (.iload_n 0, 1) := by decide +kernel
theorem dX4_firstOf_1 : decode cX4_firstOf 1 = .ok (.iload_n 1, 1) := by decide +kernel
theorem dX4_firstOf_2 : decode cX4_firstOf 2 = .ok (.if_icmp .ge 7, 3) := by decide +kernel
theorem dX4_firstOf_5 : decode cX4_firstOf 5 = .ok (.iconst 0, 1) := by decide +kernel
theorem dX4_firstOf_6 : decode cX4_firstOf 6 = .ok (.goto 8, 3) := by decide +kernel
theorem dX4_firstOf_9 : decode cX4_firstOf 9 = .ok (.iload_n 0, 1) := by decide +kernel
theorem dX4_firstOf_10 : decode cX4_firstOf 10 = .ok (.iload_n 1, 1) := by decide +kernel
theorem dX4_firstOf_11 : decode cX4_firstOf 11 = .ok (.isub, 1) := by decide +kernel
theorem dX4_firstOf_12 : decode cX4_firstOf 12 = .ok (.iconst 1, 1) := by decide +kernel
theorem dX4_firstOf_13 : decode cX4_firstOf 13 = .ok (.iadd, 1) := by decide +kernel
theorem dX4_firstOf_14 : decode cX4_firstOf 14 = .ok (.ireturn, 1) := by decide +kernel
theorem dX4_byAdding_0 : decode cX4_byAdding 0 = .ok (.iload_n 1, 1) := by decide +kernel
theorem dX4_byAdding_1 : decode cX4_byAdding 1 = .ok (.iload_n 2, 1) := by decide +kernel
theorem dX4_byAdding_2 : decode cX4_byAdding 2 = .ok (.invokestatic 9, 3) := by decide +kernel
theorem dX4_byAdding_5 : decode cX4_byAdding 5 = .ok (.istore_n 3, 1) := by decide +kernel
theorem dX4_byAdding_6 : decode cX4_byAdding 6 = .ok (.lconst 0, 1) := by decide +kernel
theorem dX4_byAdding_7 : decode cX4_byAdding 7 = .ok (.lstore 4, 2) := by decide +kernel
theorem dX4_byAdding_9 : decode cX4_byAdding 9 = .ok (.iload_n 3, 1) := by decide +kernel
theorem dX4_byAdding_10 : decode cX4_byAdding 10 = .ok (.istore 6, 2) := by decide +kernel
theorem dX4_byAdding_12 : decode cX4_byAdding 12 = .ok (.iload 6, 2) := by decide +kernel
theorem dX4_byAdding_14 : decode cX4_byAdding 14 = .ok (.iload_n 1, 1) := by decide +kernel
theorem dX4_byAdding_15 : decode cX4_byAdding 15 = .ok (.if_icmp .gt 21, 3) := by decide +kernel
theorem dX4_byAdding_18 : decode cX4_byAdding 18 = .ok (.lload 4, 2) := by decide +kernel
theorem dX4_byAdding_20 : decode cX4_byAdding 20 = .ok (.aload_n 0, 1) := by decide +kernel
theorem dX4_byAdding_21 : decode cX4_byAdding 21 = .ok (.iload 6, 2) := by decide +kernel
theorem dX4_byAdding_23 : decode cX4_byAdding 23 = .ok (.invokevirtual 15, 3) := by decide +kernel
theorem dX4_byAdding_26 : decode cX4_byAdding 26 = .ok (.i2l, 1) := by decide +kernel
theorem dX4_byAdding_27 : decode cX4_byAdding 27 = .ok (.ladd, 1) := by decide +kernel
theorem dX4_byAdding_28 : decode cX4_byAdding 28 = .ok (.lstore 4, 2) := by decide +kernel
theorem dX4_byAdding_30 : decode cX4_byAdding 30 = .ok (.iinc 6 1, 3) := by decide +kernel
theorem dX4_byAdding_33 : decode cX4_byAdding 33 = .ok (.goto (-21), 3) := by decide +kernel
theorem dX4_byAdding_36 : decode cX4_byAdding 36 = .ok (.ldc2_w 21, 3) := by decide +kernel
theorem dX4_byAdding_39 : decode cX4_byAdding 39 = .ok (.lload 4, 2) := by decide +kernel
theorem dX4_byAdding_41 : decode cX4_byAdding 41 = .ok (.lmul, 1) := by decide +kernel
theorem dX4_byAdding_42 : decode cX4_byAdding 42 = .ok (.iload_n 1, 1) := by decide +kernel
theorem dX4_byAdding_43 : decode cX4_byAdding 43 = .ok (.iload_n 3, 1) := by decide +kernel
theorem dX4_byAdding_44 : decode cX4_byAdding 44 = .ok (.isub, 1) := by decide +kernel
theorem dX4_byAdding_45 : decode cX4_byAdding 45 = .ok (.iconst 1, 1) := by decide +kernel
theorem dX4_byAdding_46 : decode cX4_byAdding 46 = .ok (.iadd, 1) := by decide +kernel
theorem dX4_byAdding_47 : decode cX4_byAdding 47 = .ok (.i2l, 1) := by decide +kernel
theorem dX4_byAdding_48 : decode cX4_byAdding 48 = .ok (.invokestatic 23, 3) := by decide +kernel
theorem dX4_byAdding_51 : decode cX4_byAdding 51 = .ok (.l2i, 1) := by decide +kernel
theorem dX4_byAdding_52 : decode cX4_byAdding 52 = .ok (.ireturn, 1) := by decide +kernel
theorem dX4_bySums_0 : decode cX4_bySums 0 = .ok (.iload_n 1, 1) := by decide +kernel
theorem dX4_bySums_1 : decode cX4_bySums 1 = .ok (.iload_n 2, 1) := by decide +kernel
theorem dX4_bySums_2 : decode cX4_bySums 2 = .ok (.invokestatic 9, 3) := by decide +kernel
theorem dX4_bySums_5 : decode cX4_bySums 5 = .ok (.istore_n 3, 1) := by decide +kernel
theorem dX4_bySums_6 : decode cX4_bySums 6 = .ok (.aload_n 0, 1) := by decide +kernel
theorem dX4_bySums_7 : decode cX4_bySums 7 = .ok (.iload_n 1, 1) := by decide +kernel
theorem dX4_bySums_8 : decode cX4_bySums 8 = .ok (.iconst 1, 1) := by decide +kernel
theorem dX4_bySums_9 : decode cX4_bySums 9 = .ok (.iadd, 1) := by decide +kernel
theorem dX4_bySums_10 : decode cX4_bySums 10 = .ok (.invokestatic 27, 3) := by decide +kernel
theorem dX4_bySums_13 : decode cX4_bySums 13 = .ok (.aload_n 0, 1) := by decide +kernel
theorem dX4_bySums_14 : decode cX4_bySums 14 = .ok (.iload_n 3, 1) := by decide +kernel
theorem dX4_bySums_15 : decode cX4_bySums 15 = .ok (.invokestatic 27, 3) := by decide +kernel
theorem dX4_bySums_18 : decode cX4_bySums 18 = .ok (.lsub, 1) := by decide +kernel
theorem dX4_bySums_19 : decode cX4_bySums 19 = .ok (.lstore 4, 2) := by decide +kernel
theorem dX4_bySums_21 : decode cX4_bySums 21 = .ok (.ldc2_w 21, 3) := by decide +kernel
theorem dX4_bySums_24 : decode cX4_bySums 24 = .ok (.lload 4, 2) := by decide +kernel
theorem dX4_bySums_26 : decode cX4_bySums 26 = .ok (.lmul, 1) := by decide +kernel
theorem dX4_bySums_27 : decode cX4_bySums 27 = .ok (.iload_n 1, 1) := by decide +kernel
theorem dX4_bySums_28 : decode cX4_bySums 28 = .ok (.iload_n 3, 1) := by decide +kernel
theorem dX4_bySums_29 : decode cX4_bySums 29 = .ok (.isub, 1) := by decide +kernel
theorem dX4_bySums_30 : decode cX4_bySums 30 = .ok (.iconst 1, 1) := by decide +kernel
theorem dX4_bySums_31 : decode cX4_bySums 31 = .ok (.iadd, 1) := by decide +kernel
theorem dX4_bySums_32 : decode cX4_bySums 32 = .ok (.i2l, 1) := by decide +kernel
theorem dX4_bySums_33 : decode cX4_bySums 33 = .ok (.invokestatic 23, 3) := by decide +kernel
theorem dX4_bySums_36 : decode cX4_bySums 36 = .ok (.l2i, 1) := by decide +kernel
theorem dX4_bySums_37 : decode cX4_bySums 37 = .ok (.ireturn, 1) := by decide +kernel
theorem dX4_sumAhead_0 : decode cX4_sumAhead 0 = .ok (.lconst 0, 1) := by decide +kernel
theorem dX4_sumAhead_1 : decode cX4_sumAhead 1 = .ok (.lstore_n 2, 1) := by decide +kernel
theorem dX4_sumAhead_2 : decode cX4_sumAhead 2 = .ok (.iconst 0, 1) := by decide +kernel
theorem dX4_sumAhead_3 : decode cX4_sumAhead 3 = .ok (.istore 4, 2) := by decide +kernel
theorem dX4_sumAhead_5 : decode cX4_sumAhead 5 = .ok (.iload 4, 2) := by decide +kernel
theorem dX4_sumAhead_7 : decode cX4_sumAhead 7 = .ok (.iload_n 1, 1) := by decide +kernel
theorem dX4_sumAhead_8 : decode cX4_sumAhead 8 = .ok (.if_icmp .ge 19, 3) := by decide +kernel
theorem dX4_sumAhead_11 : decode cX4_sumAhead 11 = .ok (.lload_n 2, 1) := by decide +kernel
theorem dX4_sumAhead_12 : decode cX4_sumAhead 12 = .ok (.aload_n 0, 1) := by decide +kernel
theorem dX4_sumAhead_13 : decode cX4_sumAhead 13 = .ok (.iload 4, 2) := by decide +kernel
theorem dX4_sumAhead_15 : decode cX4_sumAhead 15 = .ok (.invokevirtual 15, 3) := by decide +kernel
theorem dX4_sumAhead_18 : decode cX4_sumAhead 18 = .ok (.i2l, 1) := by decide +kernel
theorem dX4_sumAhead_19 : decode cX4_sumAhead 19 = .ok (.ladd, 1) := by decide +kernel
theorem dX4_sumAhead_20 : decode cX4_sumAhead 20 = .ok (.lstore_n 2, 1) := by decide +kernel
theorem dX4_sumAhead_21 : decode cX4_sumAhead 21 = .ok (.iinc 4 1, 3) := by decide +kernel
theorem dX4_sumAhead_24 : decode cX4_sumAhead 24 = .ok (.goto (-19), 3) := by decide +kernel
theorem dX4_sumAhead_27 : decode cX4_sumAhead 27 = .ok (.lload_n 2, 1) := by decide +kernel
theorem dX4_sumAhead_28 : decode cX4_sumAhead 28 = .ok (.lreturn, 1) := by decide +kernel
theorem dX4_smoothedForwards_0 : decode cX4_smoothedForwards 0 = .ok (.sipush 1000, 3) := by decide +kernel
theorem dX4_smoothedForwards_3 : decode cX4_smoothedForwards 3 = .ok (.aload_n 0, 1) := by decide +kernel
theorem dX4_smoothedForwards_4 : decode cX4_smoothedForwards 4 = .ok (.iconst 0, 1) := by decide +kernel
theorem dX4_smoothedForwards_5 : decode cX4_smoothedForwards 5 = .ok (.invokevirtual 15, 3) := by decide +kernel
theorem dX4_smoothedForwards_8 : decode cX4_smoothedForwards 8 = .ok (.imul, 1) := by decide +kernel
theorem dX4_smoothedForwards_9 : decode cX4_smoothedForwards 9 = .ok (.istore_n 2, 1) := by decide +kernel
theorem dX4_smoothedForwards_10 : decode cX4_smoothedForwards 10 = .ok (.iconst 1, 1) := by decide +kernel
theorem dX4_smoothedForwards_11 : decode cX4_smoothedForwards 11 = .ok (.istore_n 3, 1) := by decide +kernel
theorem dX4_smoothedForwards_12 : decode cX4_smoothedForwards 12 = .ok (.iload_n 3, 1) := by decide +kernel
theorem dX4_smoothedForwards_13 : decode cX4_smoothedForwards 13 = .ok (.iload_n 1, 1) := by decide +kernel
theorem dX4_smoothedForwards_14 : decode cX4_smoothedForwards 14 = .ok (.if_icmp .gt 23, 3) := by decide +kernel
theorem dX4_smoothedForwards_17 : decode cX4_smoothedForwards 17 = .ok (.aload_n 0, 1) := by decide +kernel
theorem dX4_smoothedForwards_18 : decode cX4_smoothedForwards 18 = .ok (.getfield 35, 3) := by decide +kernel
theorem dX4_smoothedForwards_21 : decode cX4_smoothedForwards 21 = .ok (.iload_n 2, 1) := by decide +kernel
theorem dX4_smoothedForwards_22 : decode cX4_smoothedForwards 22 = .ok (.aload_n 0, 1) := by decide +kernel
theorem dX4_smoothedForwards_23 : decode cX4_smoothedForwards 23 = .ok (.iload_n 3, 1) := by decide +kernel
theorem dX4_smoothedForwards_24 : decode cX4_smoothedForwards 24 = .ok (.invokevirtual 15, 3) := by decide +kernel
theorem dX4_smoothedForwards_27 : decode cX4_smoothedForwards 27 = .ok (.invokestatic 38, 3) := by decide +kernel
theorem dX4_smoothedForwards_30 : decode cX4_smoothedForwards 30 = .ok (.istore_n 2, 1) := by decide +kernel
theorem dX4_smoothedForwards_31 : decode cX4_smoothedForwards 31 = .ok (.iinc 3 1, 3) := by decide +kernel
theorem dX4_smoothedForwards_34 : decode cX4_smoothedForwards 34 = .ok (.goto (-22), 3) := by decide +kernel
theorem dX4_smoothedForwards_37 : decode cX4_smoothedForwards 37 = .ok (.iload_n 2, 1) := by decide +kernel
theorem dX4_smoothedForwards_38 : decode cX4_smoothedForwards 38 = .ok (.ireturn, 1) := by decide +kernel
theorem dX4_smoothedByRecursion_0 : decode cX4_smoothedByRecursion 0 = .ok (.iload_n 1, 1) := by decide +kernel
theorem dX4_smoothedByRecursion_1 : decode cX4_smoothedByRecursion 1 = .ok (.ifCond .le 9, 3) := by decide +kernel
theorem dX4_smoothedByRecursion_4 : decode cX4_smoothedByRecursion 4 = .ok (.iload_n 2, 1) := by decide +kernel
theorem dX4_smoothedByRecursion_5 : decode cX4_smoothedByRecursion 5 = .ok (.bipush 60, 2) := by decide +kernel
theorem dX4_smoothedByRecursion_7 : decode cX4_smoothedByRecursion 7 = .ok (.if_icmp .lt 13, 3) := by decide +kernel
theorem dX4_smoothedByRecursion_10 : decode cX4_smoothedByRecursion 10 = .ok (.sipush 1000, 3) := by decide +kernel
theorem dX4_smoothedByRecursion_13 : decode cX4_smoothedByRecursion 13 = .ok (.aload_n 0, 1) := by decide +kernel
theorem dX4_smoothedByRecursion_14 : decode cX4_smoothedByRecursion 14 = .ok (.iconst 0, 1) := by decide +kernel
theorem dX4_smoothedByRecursion_15 : decode cX4_smoothedByRecursion 15 = .ok (.invokevirtual 15, 3) := by decide +kernel
theorem dX4_smoothedByRecursion_18 : decode cX4_smoothedByRecursion 18 = .ok (.imul, 1) := by decide +kernel
theorem dX4_smoothedByRecursion_19 : decode cX4_smoothedByRecursion 19 = .ok (.ireturn, 1) := by decide +kernel
theorem dX4_smoothedByRecursion_20 : decode cX4_smoothedByRecursion 20 = .ok (.aload_n 0, 1) := by decide +kernel
theorem dX4_smoothedByRecursion_21 : decode cX4_smoothedByRecursion 21 = .ok (.iload_n 1, 1) := by decide +kernel
theorem dX4_smoothedByRecursion_22 : decode cX4_smoothedByRecursion 22 = .ok (.iconst 1, 1) := by decide +kernel
theorem dX4_smoothedByRecursion_23 : decode cX4_smoothedByRecursion 23 = .ok (.isub, 1) := by decide +kernel
theorem dX4_smoothedByRecursion_24 : decode cX4_smoothedByRecursion 24 = .ok (.iload_n 2, 1) := by decide +kernel
theorem dX4_smoothedByRecursion_25 : decode cX4_smoothedByRecursion 25 = .ok (.iconst 1, 1) := by decide +kernel
theorem dX4_smoothedByRecursion_26 : decode cX4_smoothedByRecursion 26 = .ok (.iadd, 1) := by decide +kernel
theorem dX4_smoothedByRecursion_27 : decode cX4_smoothedByRecursion 27 = .ok (.invokestatic 42, 3) := by decide +kernel
theorem dX4_smoothedByRecursion_30 : decode cX4_smoothedByRecursion 30 = .ok (.istore_n 3, 1) := by decide +kernel
theorem dX4_smoothedByRecursion_31 : decode cX4_smoothedByRecursion 31 = .ok (.aload_n 0, 1) := by decide +kernel
theorem dX4_smoothedByRecursion_32 : decode cX4_smoothedByRecursion 32 = .ok (.getfield 35, 3) := by decide +kernel
theorem dX4_smoothedByRecursion_35 : decode cX4_smoothedByRecursion 35 = .ok (.iload_n 3, 1) := by decide +kernel
theorem dX4_smoothedByRecursion_36 : decode cX4_smoothedByRecursion 36 = .ok (.aload_n 0, 1) := by decide +kernel
theorem dX4_smoothedByRecursion_37 : decode cX4_smoothedByRecursion 37 = .ok (.iload_n 1, 1) := by decide +kernel
theorem dX4_smoothedByRecursion_38 : decode cX4_smoothedByRecursion 38 = .ok (.invokevirtual 15, 3) := by decide +kernel
theorem dX4_smoothedByRecursion_41 : decode cX4_smoothedByRecursion 41 = .ok (.invokestatic 38, 3) := by decide +kernel
theorem dX4_smoothedByRecursion_44 : decode cX4_smoothedByRecursion 44 = .ok (.ireturn, 1) := by decide +kernel
theorem dX4_nextSmooth_0 : decode cX4_nextSmooth 0 = .ok (.iload_n 0, 1) := by decide +kernel
theorem dX4_nextSmooth_1 : decode cX4_nextSmooth 1 = .ok (.iload_n 1, 1) := by decide +kernel
theorem dX4_nextSmooth_2 : decode cX4_nextSmooth 2 = .ok (.imul, 1) := by decide +kernel
theorem dX4_nextSmooth_3 : decode cX4_nextSmooth 3 = .ok (.bipush 10, 2) := by decide +kernel
theorem dX4_nextSmooth_5 : decode cX4_nextSmooth 5 = .ok (.iload_n 0, 1) := by decide +kernel
theorem dX4_nextSmooth_6 : decode cX4_nextSmooth 6 = .ok (.isub, 1) := by decide +kernel
theorem dX4_nextSmooth_7 : decode cX4_nextSmooth 7 = .ok (.sipush 1000, 3) := by decide +kernel
theorem dX4_nextSmooth_10 : decode cX4_nextSmooth 10 = .ok (.imul, 1) := by decide +kernel
theorem dX4_nextSmooth_11 : decode cX4_nextSmooth 11 = .ok (.iload_n 2, 1) := by decide +kernel
theorem dX4_nextSmooth_12 : decode cX4_nextSmooth 12 = .ok (.imul, 1) := by decide +kernel
theorem dX4_nextSmooth_13 : decode cX4_nextSmooth 13 = .ok (.iadd, 1) := by decide +kernel
theorem dX4_nextSmooth_14 : decode cX4_nextSmooth 14 = .ok (.bipush 10, 2) := by decide +kernel
theorem dX4_nextSmooth_16 : decode cX4_nextSmooth 16 = .ok (.idiv, 1) := by decide +kernel
theorem dX4_nextSmooth_17 : decode cX4_nextSmooth 17 = .ok (.ireturn, 1) := by decide +kernel
theorem dX5_daysOf_0 : decode cX5_daysOf 0 = .ok (.iconst 0, 1) := by decide +kernel
theorem dX5_daysOf_1 : decode cX5_daysOf 1 = .ok (.istore_n 3, 1) := by decide +kernel
theorem dX5_daysOf_2 : decode cX5_daysOf 2 = .ok (.iconst 0, 1) := by decide +kernel
theorem dX5_daysOf_3 : decode cX5_daysOf 3 = .ok (.istore 4, 2) := by decide +kernel
theorem dX5_daysOf_5 : decode cX5_daysOf 5 = .ok (.iload 4, 2) := by decide +kernel
theorem dX5_daysOf_7 : decode cX5_daysOf 7 = .ok (.iload_n 2, 1) := by decide +kernel
theorem dX5_daysOf_8 : decode cX5_daysOf 8 = .ok (.if_icmp .ge 22, 3) := by decide +kernel
theorem dX5_daysOf_11 : decode cX5_daysOf 11 = .ok (.aload_n 0, 1) := by decide +kernel
theorem dX5_daysOf_12 : decode cX5_daysOf 12 = .ok (.iload 4, 2) := by decide +kernel
theorem dX5_daysOf_14 : decode cX5_daysOf 14 = .ok (.invokevirtual 7, 3) := by decide +kernel
theorem dX5_daysOf_17 : decode cX5_daysOf 17 = .ok (.iload_n 1, 1) := by decide +kernel
theorem dX5_daysOf_18 : decode cX5_daysOf 18 = .ok (.if_icmp .ne 6, 3) := by decide +kernel
theorem dX5_daysOf_21 : decode cX5_daysOf 21 = .ok (.iinc 3 1, 3) := by decide +kernel
theorem dX5_daysOf_24 : decode cX5_daysOf 24 = .ok (.iinc 4 1, 3) := by decide +kernel
theorem dX5_daysOf_27 : decode cX5_daysOf 27 = .ok (.goto (-22), 3) := by decide +kernel
theorem dX5_daysOf_30 : decode cX5_daysOf 30 = .ok (.iload_n 3, 1) := by decide +kernel
theorem dX5_daysOf_31 : decode cX5_daysOf 31 = .ok (.ireturn, 1) := by decide +kernel
theorem dX5_sumOf_0 : decode cX5_sumOf 0 = .ok (.lconst 0, 1) := by decide +kernel
theorem dX5_sumOf_1 : decode cX5_sumOf 1 = .ok (.lstore_n 3, 1) := by decide +kernel
theorem dX5_sumOf_2 : decode cX5_sumOf 2 = .ok (.iconst 0, 1) := by decide +kernel
theorem dX5_sumOf_3 : decode cX5_sumOf 3 = .ok (.istore 5, 2) := by decide +kernel
theorem dX5_sumOf_5 : decode cX5_sumOf 5 = .ok (.iload 5, 2) := by decide +kernel
theorem dX5_sumOf_7 : decode cX5_sumOf 7 = .ok (.iload_n 2, 1) := by decide +kernel
theorem dX5_sumOf_8 : decode cX5_sumOf 8 = .ok (.if_icmp .ge 29, 3) := by decide +kernel
theorem dX5_sumOf_11 : decode cX5_sumOf 11 = .ok (.aload_n 0, 1) := by decide +kernel
theorem dX5_sumOf_12 : decode cX5_sumOf 12 = .ok (.iload 5, 2) := by decide +kernel
theorem dX5_sumOf_14 : decode cX5_sumOf 14 = .ok (.invokevirtual 7, 3) := by decide +kernel
theorem dX5_sumOf_17 : decode cX5_sumOf 17 = .ok (.iload_n 1, 1) := by decide +kernel
theorem dX5_sumOf_18 : decode cX5_sumOf 18 = .ok (.if_icmp .ne 13, 3) := by decide +kernel
theorem dX5_sumOf_21 : decode cX5_sumOf 21 = .ok (.lload_n 3, 1) := by decide +kernel
theorem dX5_sumOf_22 : decode cX5_sumOf 22 = .ok (.aload_n 0, 1) := by decide +kernel
theorem dX5_sumOf_23 : decode cX5_sumOf 23 = .ok (.iload 5, 2) := by decide +kernel
theorem dX5_sumOf_25 : decode cX5_sumOf 25 = .ok (.invokevirtual 13, 3) := by decide +kernel
theorem dX5_sumOf_28 : decode cX5_sumOf 28 = .ok (.i2l, 1) := by decide +kernel
theorem dX5_sumOf_29 : decode cX5_sumOf 29 = .ok (.ladd, 1) := by decide +kernel
theorem dX5_sumOf_30 : decode cX5_sumOf 30 = .ok (.lstore_n 3, 1) := by decide +kernel
theorem dX5_sumOf_31 : decode cX5_sumOf 31 = .ok (.iinc 5 1, 3) := by decide +kernel
theorem dX5_sumOf_34 : decode cX5_sumOf 34 = .ok (.goto (-29), 3) := by decide +kernel
theorem dX5_sumOf_37 : decode cX5_sumOf 37 = .ok (.lload_n 3, 1) := by decide +kernel
theorem dX5_sumOf_38 : decode cX5_sumOf 38 = .ok (.lreturn, 1) := by decide +kernel
theorem dX6_init_0 : decode cX6_init 0 = .ok (.aload_n 0, 1) := by decide +kernel
theorem dX6_init_1 : decode cX6_init 1 = .ok (.invokespecial 3, 3) := by decide +kernel
theorem dX6_init_4 : decode cX6_init 4 = .ok (.aload_n 0, 1) := by decide +kernel
theorem dX6_init_5 : decode cX6_init 5 = .ok (.bipush 60, 2) := by decide +kernel
theorem dX6_init_7 : decode cX6_init 7 = .ok (.newarray .int, 2) := by decide +kernel
theorem dX6_init_9 : decode cX6_init 9 = .ok (.putfield 9, 3) := by decide +kernel
theorem dX6_init_12 : decode cX6_init 12 = .ok (.aload_n 0, 1) := by decide +kernel
theorem dX6_init_13 : decode cX6_init 13 = .ok (.iconst 0, 1) := by decide +kernel
theorem dX6_init_14 : decode cX6_init 14 = .ok (.putfield 15, 3) := by decide +kernel
theorem dX6_init_17 : decode cX6_init 17 = .ok (.aload_n 0, 1) := by decide +kernel
theorem dX6_init_18 : decode cX6_init 18 = .ok (.iconst 3, 1) := by decide +kernel
theorem dX6_init_19 : decode cX6_init 19 = .ok (.putfield 19, 3) := by decide +kernel
theorem dX6_init_22 : decode cX6_init 22 = .ok (.aload_n 0, 1) := by decide +kernel
theorem dX6_init_23 : decode cX6_init 23 = .ok (.bipush 7, 2) := by decide +kernel
theorem dX6_init_25 : decode cX6_init 25 = .ok (.putfield 22, 3) := by decide +kernel
theorem dX6_init_28 : decode cX6_init 28 = .ok (.aload_n 0, 1) := by decide +kernel
theorem dX6_init_29 : decode cX6_init 29 = .ok (.bipush 6, 2) := by decide +kernel
theorem dX6_init_31 : decode cX6_init 31 = .ok (.putfield 25, 3) := by decide +kernel
theorem dX6_init_34 : decode cX6_init 34 = .ok (.aload_n 0, 1) := by decide +kernel
theorem dX6_init_35 : decode cX6_init 35 = .ok (.bipush 100, 2) := by decide +kernel
theorem dX6_init_37 : decode cX6_init 37 = .ok (.putfield 28, 3) := by decide +kernel
theorem dX6_init_40 : decode cX6_init 40 = .ok (.aload_n 0, 1) := by decide +kernel
theorem dX6_init_41 : decode cX6_init 41 = .ok (.iconst 5, 1) := by decide +kernel
theorem dX6_init_42 : decode cX6_init 42 = .ok (.putfield 31, 3) := by decide +kernel
theorem dX6_init_45 : decode cX6_init 45 = .ok (.aload_n 0, 1) := by decide +kernel
theorem dX6_init_46 : decode cX6_init 46 = .ok (.iconst 0, 1) := by decide +kernel
theorem dX6_init_47 : decode cX6_init 47 = .ok (.putfield 34, 3) := by decide +kernel
theorem dX6_init_50 : decode cX6_init 50 = .ok (.aload_n 0, 1) := by decide +kernel
theorem dX6_init_51 : decode cX6_init 51 = .ok (.iconst 0, 1) := by decide +kernel
theorem dX6_init_52 : decode cX6_init 52 = .ok (.putfield 38, 3) := by decide +kernel
theorem dX6_init_55 : decode cX6_init 55 = .ok (.aload_n 0, 1) := by decide +kernel
theorem dX6_init_56 : decode cX6_init 56 = .ok (.iconst 0, 1) := by decide +kernel
theorem dX6_init_57 : decode cX6_init 57 = .ok (.putfield 41, 3) := by decide +kernel
theorem dX6_init_60 : decode cX6_init 60 = .ok (.return_, 1) := by decide +kernel
theorem dX6_copyFrom_0 : decode cX6_copyFrom 0 = .ok (.aload_n 1, 1) := by decide +kernel
theorem dX6_copyFrom_1 : decode cX6_copyFrom 1 = .ok (.getfield 9, 3) := by decide +kernel
theorem dX6_copyFrom_4 : decode cX6_copyFrom 4 = .ok (.iconst 0, 1) := by decide +kernel
theorem dX6_copyFrom_5 : decode cX6_copyFrom 5 = .ok (.aload_n 0, 1) := by decide +kernel
theorem dX6_copyFrom_6 : decode cX6_copyFrom 6 = .ok (.getfield 9, 3) := by decide +kernel
theorem dX6_copyFrom_9 : decode cX6_copyFrom 9 = .ok (.iconst 0, 1) := by decide +kernel
theorem dX6_copyFrom_10 : decode cX6_copyFrom 10 = .ok (.bipush 60, 2) := by decide +kernel
theorem dX6_copyFrom_12 : decode cX6_copyFrom 12 = .ok (.invokestatic 44, 3) := by decide +kernel
theorem dX6_copyFrom_15 : decode cX6_copyFrom 15 = .ok (.aload_n 0, 1) := by decide +kernel
theorem dX6_copyFrom_16 : decode cX6_copyFrom 16 = .ok (.aload_n 1, 1) := by decide +kernel
theorem dX6_copyFrom_17 : decode cX6_copyFrom 17 = .ok (.getfield 15, 3) := by decide +kernel
theorem dX6_copyFrom_20 : decode cX6_copyFrom 20 = .ok (.putfield 15, 3) := by decide +kernel
theorem dX6_copyFrom_23 : decode cX6_copyFrom 23 = .ok (.aload_n 0, 1) := by decide +kernel
theorem dX6_copyFrom_24 : decode cX6_copyFrom 24 = .ok (.aload_n 1, 1) := by decide +kernel
theorem dX6_copyFrom_25 : decode cX6_copyFrom 25 = .ok (.getfield 19, 3) := by decide +kernel
theorem dX6_copyFrom_28 : decode cX6_copyFrom 28 = .ok (.putfield 19, 3) := by decide +kernel
theorem dX6_copyFrom_31 : decode cX6_copyFrom 31 = .ok (.aload_n 0, 1) := by decide +kernel
theorem dX6_copyFrom_32 : decode cX6_copyFrom 32 = .ok (.aload_n 1, 1) := by decide +kernel
theorem dX6_copyFrom_33 : decode cX6_copyFrom 33 = .ok (.getfield 22, 3) := by decide +kernel
theorem dX6_copyFrom_36 : decode cX6_copyFrom 36 = .ok (.putfield 22, 3) := by decide +kernel
theorem dX6_copyFrom_39 : decode cX6_copyFrom 39 = .ok (.aload_n 0, 1) := by decide +kernel
theorem dX6_copyFrom_40 : decode cX6_copyFrom 40 = .ok (.aload_n 1, 1) := by decide +kernel
theorem dX6_copyFrom_41 : decode cX6_copyFrom 41 = .ok (.getfield 25, 3) := by decide +kernel
theorem dX6_copyFrom_44 : decode cX6_copyFrom 44 = .ok (.putfield 25, 3) := by decide +kernel
theorem dX6_copyFrom_47 : decode cX6_copyFrom 47 = .ok (.aload_n 0, 1) := by decide +kernel
theorem dX6_copyFrom_48 : decode cX6_copyFrom 48 = .ok (.aload_n 1, 1) := by decide +kernel
theorem dX6_copyFrom_49 : decode cX6_copyFrom 49 = .ok (.getfield 28, 3) := by decide +kernel
theorem dX6_copyFrom_52 : decode cX6_copyFrom 52 = .ok (.putfield 28, 3) := by decide +kernel
theorem dX6_copyFrom_55 : decode cX6_copyFrom 55 = .ok (.aload_n 0, 1) := by decide +kernel
theorem dX6_copyFrom_56 : decode cX6_copyFrom 56 = .ok (.aload_n 1, 1) := by decide +kernel
theorem dX6_copyFrom_57 : decode cX6_copyFrom 57 = .ok (.getfield 31, 3) := by decide +kernel
theorem dX6_copyFrom_60 : decode cX6_copyFrom 60 = .ok (.putfield 31, 3) := by decide +kernel
theorem dX6_copyFrom_63 : decode cX6_copyFrom 63 = .ok (.aload_n 0, 1) := by decide +kernel
theorem dX6_copyFrom_64 : decode cX6_copyFrom 64 = .ok (.aload_n 1, 1) := by decide +kernel
theorem dX6_copyFrom_65 : decode cX6_copyFrom 65 = .ok (.getfield 34, 3) := by decide +kernel
theorem dX6_copyFrom_68 : decode cX6_copyFrom 68 = .ok (.putfield 34, 3) := by decide +kernel
theorem dX6_copyFrom_71 : decode cX6_copyFrom 71 = .ok (.aload_n 0, 1) := by decide +kernel
theorem dX6_copyFrom_72 : decode cX6_copyFrom 72 = .ok (.aload_n 1, 1) := by decide +kernel
theorem dX6_copyFrom_73 : decode cX6_copyFrom 73 = .ok (.getfield 38, 3) := by decide +kernel
theorem dX6_copyFrom_76 : decode cX6_copyFrom 76 = .ok (.putfield 38, 3) := by decide +kernel
theorem dX6_copyFrom_79 : decode cX6_copyFrom 79 = .ok (.aload_n 0, 1) := by decide +kernel
theorem dX6_copyFrom_80 : decode cX6_copyFrom 80 = .ok (.aload_n 1, 1) := by decide +kernel
theorem dX6_copyFrom_81 : decode cX6_copyFrom 81 = .ok (.getfield 41, 3) := by decide +kernel
theorem dX6_copyFrom_84 : decode cX6_copyFrom 84 = .ok (.putfield 41, 3) := by decide +kernel
theorem dX6_copyFrom_87 : decode cX6_copyFrom 87 = .ok (.return_, 1) := by decide +kernel
theorem dX6_hasDay_0 : decode cX6_hasDay 0 = .ok (.iload_n 1, 1) := by decide +kernel
theorem dX6_hasDay_1 : decode cX6_hasDay 1 = .ok (.ifCond .lt 15, 3) := by decide +kernel
theorem dX6_hasDay_4 : decode cX6_hasDay 4 = .ok (.iload_n 1, 1) := by decide +kernel
theorem dX6_hasDay_5 : decode cX6_hasDay 5 = .ok (.aload_n 0, 1) := by decide +kernel
theorem dX6_hasDay_6 : decode cX6_hasDay 6 = .ok (.getfield 15, 3) := by decide +kernel
theorem dX6_hasDay_9 : decode cX6_hasDay 9 = .ok (.if_icmp .ge 7, 3) := by decide +kernel
theorem dX6_hasDay_12 : decode cX6_hasDay 12 = .ok (.iconst 1, 1) := by decide +kernel
theorem dX6_hasDay_13 : decode cX6_hasDay 13 = .ok (.goto 4, 3) := by decide +kernel
theorem dX6_hasDay_16 : decode cX6_hasDay 16 = .ok (.iconst 0, 1) := by decide +kernel
theorem dX6_hasDay_17 : decode cX6_hasDay 17 = .ok (.ireturn, 1) := by decide +kernel
theorem dX6_at_0 : decode cX6_at 0 = .ok (.iload_n 1, 1) := by decide +kernel
theorem dX6_at_1 : decode cX6_at 1 = .ok (.ifCond .lt 21, 3) := by decide +kernel
theorem dX6_at_4 : decode cX6_at 4 = .ok (.iload_n 1, 1) := by decide +kernel
theorem dX6_at_5 : decode cX6_at 5 = .ok (.aload_n 0, 1) := by decide +kernel
theorem dX6_at_6 : decode cX6_at 6 = .ok (.getfield 9, 3) := by decide +kernel
theorem dX6_at_9 : decode cX6_at 9 = .ok (.arraylength, 1) := by decide +kernel
theorem dX6_at_10 : decode cX6_at 10 = .ok (.if_icmp .ge 12, 3) := by decide +kernel
theorem dX6_at_13 : decode cX6_at 13 = .ok (.aload_n 0, 1) := by decide +kernel
theorem dX6_at_14 : decode cX6_at 14 = .ok (.getfield 9, 3) := by decide +kernel
theorem dX6_at_17 : decode cX6_at 17 = .ok (.iload_n 1, 1) := by decide +kernel
theorem dX6_at_18 : decode cX6_at 18 = .ok (.iaload, 1) := by decide +kernel
theorem dX6_at_19 : decode cX6_at 19 = .ok (.goto 4, 3) := by decide +kernel
theorem dX6_at_22 : decode cX6_at 22 = .ok (.iconst 0, 1) := by decide +kernel
theorem dX6_at_23 : decode cX6_at 23 = .ok (.ireturn, 1) := by decide +kernel
theorem dX6_put_0 : decode cX6_put 0 = .ok (.iload_n 1, 1) := by decide +kernel
theorem dX6_put_1 : decode cX6_put 1 = .ok (.ifCond .lt 19, 3) := by decide +kernel
theorem dX6_put_4 : decode cX6_put 4 = .ok (.iload_n 1, 1) := by decide +kernel
theorem dX6_put_5 : decode cX6_put 5 = .ok (.aload_n 0, 1) := by decide +kernel
theorem dX6_put_6 : decode cX6_put 6 = .ok (.getfield 9, 3) := by decide +kernel
theorem dX6_put_9 : decode cX6_put 9 = .ok (.arraylength, 1) := by decide +kernel
theorem dX6_put_10 : decode cX6_put 10 = .ok (.if_icmp .ge 10, 3) := by decide +kernel
theorem dX6_put_13 : decode cX6_put 13 = .ok (.aload_n 0, 1) := by decide +kernel
theorem dX6_put_14 : decode cX6_put 14 = .ok (.getfield 9, 3) := by decide +kernel
theorem dX6_put_17 : decode cX6_put 17 = .ok (.iload_n 1, 1) := by decide +kernel
theorem dX6_put_18 : decode cX6_put 18 = .ok (.iload_n 2, 1) := by decide +kernel
theorem dX6_put_19 : decode cX6_put 19 = .ok (.iastore, 1) := by decide +kernel
theorem dX6_put_20 : decode cX6_put 20 = .ok (.return_, 1) := by decide +kernel
theorem dX6_add_0 : decode cX6_add 0 = .ok (.aload_n 0, 1) := by decide +kernel
theorem dX6_add_1 : decode cX6_add 1 = .ok (.getfield 15, 3) := by decide +kernel
theorem dX6_add_4 : decode cX6_add 4 = .ok (.ifCond .lt 35, 3) := by decide +kernel
theorem dX6_add_7 : decode cX6_add 7 = .ok (.aload_n 0, 1) := by decide +kernel
theorem dX6_add_8 : decode cX6_add 8 = .ok (.getfield 15, 3) := by decide +kernel
theorem dX6_add_11 : decode cX6_add 11 = .ok (.aload_n 0, 1) := by decide +kernel
theorem dX6_add_12 : decode cX6_add 12 = .ok (.getfield 9, 3) := by decide +kernel
theorem dX6_add_15 : decode cX6_add 15 = .ok (.arraylength, 1) := by decide +kernel
theorem dX6_add_16 : decode cX6_add 16 = .ok (.if_icmp .ge 23, 3) := by decide +kernel
theorem dX6_add_19 : decode cX6_add 19 = .ok (.aload_n 0, 1) := by decide +kernel
theorem dX6_add_20 : decode cX6_add 20 = .ok (.getfield 9, 3) := by decide +kernel
theorem dX6_add_23 : decode cX6_add 23 = .ok (.aload_n 0, 1) := by decide +kernel
theorem dX6_add_24 : decode cX6_add 24 = .ok (.getfield 15, 3) := by decide +kernel
theorem dX6_add_27 : decode cX6_add 27 = .ok (.iload_n 1, 1) := by decide +kernel
theorem dX6_add_28 : decode cX6_add 28 = .ok (.iastore, 1) := by decide +kernel
theorem dX6_add_29 : decode cX6_add 29 = .ok (.aload_n 0, 1) := by decide +kernel
theorem dX6_add_30 : decode cX6_add 30 = .ok (.dup, 1) := by decide +kernel
theorem dX6_add_31 : decode cX6_add 31 = .ok (.getfield 15, 3) := by decide +kernel
theorem dX6_add_34 : decode cX6_add 34 = .ok (.iconst 1, 1) := by decide +kernel
theorem dX6_add_35 : decode cX6_add 35 = .ok (.iadd, 1) := by decide +kernel
theorem dX6_add_36 : decode cX6_add 36 = .ok (.putfield 15, 3) := by decide +kernel
theorem dX6_add_39 : decode cX6_add 39 = .ok (.return_, 1) := by decide +kernel
theorem dX6_drop_0 : decode cX6_drop 0 = .ok (.aload_n 0, 1) := by decide +kernel
theorem dX6_drop_1 : decode cX6_drop 1 = .ok (.getfield 15, 3) := by decide +kernel
theorem dX6_drop_4 : decode cX6_drop 4 = .ok (.iload_n 1, 1) := by decide +kernel
theorem dX6_drop_5 : decode cX6_drop 5 = .ok (.isub, 1) := by decide +kernel
theorem dX6_drop_6 : decode cX6_drop 6 = .ok (.istore_n 2, 1) := by decide +kernel
theorem dX6_drop_7 : decode cX6_drop 7 = .ok (.iconst 0, 1) := by decide +kernel
theorem dX6_drop_8 : decode cX6_drop 8 = .ok (.istore_n 3, 1) := by decide +kernel
theorem dX6_drop_9 : decode cX6_drop 9 = .ok (.iload_n 3, 1) := by decide +kernel
theorem dX6_drop_10 : decode cX6_drop 10 = .ok (.iload_n 2, 1) := by decide +kernel
theorem dX6_drop_11 : decode cX6_drop 11 = .ok (.if_icmp .ge 21, 3) := by decide +kernel
theorem dX6_drop_14 : decode cX6_drop 14 = .ok (.aload_n 0, 1) := by decide +kernel
theorem dX6_drop_15 : decode cX6_drop 15 = .ok (.iload_n 3, 1) := by decide +kernel
theorem dX6_drop_16 : decode cX6_drop 16 = .ok (.aload_n 0, 1) := by decide +kernel
theorem dX6_drop_17 : decode cX6_drop 17 = .ok (.iload_n 3, 1) := by decide +kernel
theorem dX6_drop_18 : decode cX6_drop 18 = .ok (.iload_n 1, 1) := by decide +kernel
theorem dX6_drop_19 : decode cX6_drop 19 = .ok (.iadd, 1) := by decide +kernel
theorem dX6_drop_20 : decode cX6_drop 20 = .ok (.invokevirtual 50, 3) := by decide +kernel
theorem dX6_drop_23 : decode cX6_drop 23 = .ok (.invokevirtual 54, 3) := by decide +kernel
theorem dX6_drop_26 : decode cX6_drop 26 = .ok (.iinc 3 1, 3) := by decide +kernel
theorem dX6_drop_29 : decode cX6_drop 29 = .ok (.goto (-20), 3) := by decide +kernel
theorem dX6_drop_32 : decode cX6_drop 32 = .ok (.aload_n 0, 1) := by decide +kernel
theorem dX6_drop_33 : decode cX6_drop 33 = .ok (.iload_n 2, 1) := by decide +kernel
theorem dX6_drop_34 : decode cX6_drop 34 = .ok (.putfield 15, 3) := by decide +kernel
theorem dX6_drop_37 : decode cX6_drop 37 = .ok (.return_, 1) := by decide +kernel
theorem dX6_partOf_0 : decode cX6_partOf 0 = .ok (.aload_n 0, 1) := by decide +kernel
theorem dX6_partOf_1 : decode cX6_partOf 1 = .ok (.getfield 31, 3) := by decide +kernel
theorem dX6_partOf_4 : decode cX6_partOf 4 = .ok (.ifCond .le 12, 3) := by decide +kernel
theorem dX6_partOf_7 : decode cX6_partOf 7 = .ok (.iload_n 1, 1) := by decide +kernel
theorem dX6_partOf_8 : decode cX6_partOf 8 = .ok (.aload_n 0, 1) := by decide +kernel
theorem dX6_partOf_9 : decode cX6_partOf 9 = .ok (.getfield 31, 3) := by decide +kernel
theorem dX6_partOf_12 : decode cX6_partOf 12 = .ok (.irem, 1) := by decide +kernel
theorem dX6_partOf_13 : decode cX6_partOf 13 = .ok (.goto 4, 3) := by decide +kernel
theorem dX6_partOf_16 : decode cX6_partOf 16 = .ok (.iconst 0, 1) := by decide +kernel
theorem dX6_partOf_17 : decode cX6_partOf 17 = .ok (.ireturn, 1) := by decide +kernel
theorem dX7_init_0 : decode cX7_init 0 = .ok (.aload_n 0, 1) := by decide +kernel
theorem dX7_init_1 : decode cX7_init 1 = .ok (.invokespecial 3, 3) := by decide +kernel
theorem dX7_init_4 : decode cX7_init 4 = .ok (.aload_n 0, 1) := by decide +kernel
theorem dX7_init_5 : decode cX7_init 5 = .ok (.iconst 0, 1) := by decide +kernel
theorem dX7_init_6 : decode cX7_init 6 = .ok (.putfield 9, 3) := by decide +kernel
theorem dX7_init_9 : decode cX7_init 9 = .ok (.aload_n 0, 1) := by decide +kernel
theorem dX7_init_10 : decode cX7_init 10 = .ok (.iconst 0, 1) := by decide +kernel
theorem dX7_init_11 : decode cX7_init 11 = .ok (.putfield 15, 3) := by decide +kernel
theorem dX7_init_14 : decode cX7_init 14 = .ok (.aload_n 0, 1) := by decide +kernel
theorem dX7_init_15 : decode cX7_init 15 = .ok (.iconst 0, 1) := by decide +kernel
theorem dX7_init_16 : decode cX7_init 16 = .ok (.putfield 18, 3) := by decide +kernel
theorem dX7_init_19 : decode cX7_init 19 = .ok (.aload_n 0, 1) := by decide +kernel
theorem dX7_init_20 : decode cX7_init 20 = .ok (.iconst 0, 1) := by decide +kernel
theorem dX7_init_21 : decode cX7_init 21 = .ok (.putfield 21, 3) := by decide +kernel
theorem dX7_init_24 : decode cX7_init 24 = .ok (.return_, 1) := by decide +kernel
theorem dX8_init_0 : decode cX8_init 0 = .ok (.aload_n 0, 1) := by decide +kernel
theorem dX8_init_1 : decode cX8_init 1 = .ok (.invokespecial 3, 3) := by decide +kernel
theorem dX8_init_4 : decode cX8_init 4 = .ok (.aload_n 0, 1) := by decide +kernel
theorem dX8_init_5 : decode cX8_init 5 = .ok (.bipush 60, 2) := by decide +kernel
theorem dX8_init_7 : decode cX8_init 7 = .ok (.newarray .int, 2) := by decide +kernel
theorem dX8_init_9 : decode cX8_init 9 = .ok (.putfield 9, 3) := by decide +kernel
theorem dX8_init_12 : decode cX8_init 12 = .ok (.aload_n 0, 1) := by decide +kernel
theorem dX8_init_13 : decode cX8_init 13 = .ok (.iconst 0, 1) := by decide +kernel
theorem dX8_init_14 : decode cX8_init 14 = .ok (.putfield 15, 3) := by decide +kernel
theorem dX8_init_17 : decode cX8_init 17 = .ok (.aload_n 0, 1) := by decide +kernel
theorem dX8_init_18 : decode cX8_init 18 = .ok (.new 19, 3) := by decide +kernel
theorem dX8_init_21 : decode cX8_init 21 = .ok (.dup, 1) := by decide +kernel
theorem dX8_init_22 : decode cX8_init 22 = .ok (.invokespecial 21, 3) := by decide +kernel
theorem dX8_init_25 : decode cX8_init 25 = .ok (.putfield 22, 3) := by decide +kernel
theorem dX8_init_28 : decode cX8_init 28 = .ok (.return_, 1) := by decide +kernel
theorem dX9_init_0 : decode cX9_init 0 = .ok (.aload_n 0, 1) := by decide +kernel
theorem dX9_init_1 : decode cX9_init 1 = .ok (.invokespecial 3, 3) := by decide +kernel
theorem dX9_init_4 : decode cX9_init 4 = .ok (.aload_n 0, 1) := by decide +kernel
theorem dX9_init_5 : decode cX9_init 5 = .ok (.ldc2_w 9, 3) := by decide +kernel
theorem dX9_init_8 : decode cX9_init 8 = .ok (.putfield 11, 3) := by decide +kernel
theorem dX9_init_11 : decode cX9_init 11 = .ok (.aload_n 0, 1) := by decide +kernel
theorem dX9_init_12 : decode cX9_init 12 = .ok (.iconst 0, 1) := by decide +kernel
theorem dX9_init_13 : decode cX9_init 13 = .ok (.putfield 17, 3) := by decide +kernel
theorem dX9_init_16 : decode cX9_init 16 = .ok (.return_, 1) := by decide +kernel
theorem dX9_crossingAt_0 : decode cX9_crossingAt 0 = .ok (.iload_n 1, 1) := by decide +kernel
theorem dX9_crossingAt_1 : decode cX9_crossingAt 1 = .ok (.iconst 1, 1) := by decide +kernel
theorem dX9_crossingAt_2 : decode cX9_crossingAt 2 = .ok (.if_icmp .ge 5, 3) := by decide +kernel
theorem dX9_crossingAt_5 : decode cX9_crossingAt 5 = .ok (.iconst 0, 1) := by decide +kernel
theorem dX9_crossingAt_6 : decode cX9_crossingAt 6 = .ok (.ireturn, 1) := by decide +kernel
theorem dX9_crossingAt_7 : decode cX9_crossingAt 7 = .ok (.aload_n 0, 1) := by decide +kernel
theorem dX9_crossingAt_8 : decode cX9_crossingAt 8 = .ok (.iload_n 1, 1) := by decide +kernel
theorem dX9_crossingAt_9 : decode cX9_crossingAt 9 = .ok (.invokestatic 21, 3) := by decide +kernel
theorem dX9_crossingAt_12 : decode cX9_crossingAt 12 = .ok (.istore_n 2, 1) := by decide +kernel
theorem dX9_crossingAt_13 : decode cX9_crossingAt 13 = .ok (.iload_n 2, 1) := by decide +kernel
theorem dX9_crossingAt_14 : decode cX9_crossingAt 14 = .ok (.aload_n 0, 1) := by decide +kernel
theorem dX9_crossingAt_15 : decode cX9_crossingAt 15 = .ok (.iload_n 1, 1) := by decide +kernel
theorem dX9_crossingAt_16 : decode cX9_crossingAt 16 = .ok (.iconst 1, 1) := by decide +kernel
theorem dX9_crossingAt_17 : decode cX9_crossingAt 17 = .ok (.isub, 1) := by decide +kernel
theorem dX9_crossingAt_18 : decode cX9_crossingAt 18 = .ok (.invokestatic 21, 3) := by decide +kernel
theorem dX9_crossingAt_21 : decode cX9_crossingAt 21 = .ok (.if_icmp .ne 7, 3) := by decide +kernel
theorem dX9_crossingAt_24 : decode cX9_crossingAt 24 = .ok (.iconst 0, 1) := by decide +kernel
theorem dX9_crossingAt_25 : decode cX9_crossingAt 25 = .ok (.goto 4, 3) := by decide +kernel
theorem dX9_crossingAt_28 : decode cX9_crossingAt 28 = .ok (.iload_n 2, 1) := by decide +kernel
theorem dX9_crossingAt_29 : decode cX9_crossingAt 29 = .ok (.ireturn, 1) := by decide +kernel
theorem dX9_sideAt_0 : decode cX9_sideAt 0 = .ok (.aload_n 0, 1) := by decide +kernel
theorem dX9_sideAt_1 : decode cX9_sideAt 1 = .ok (.iload_n 1, 1) := by decide +kernel
theorem dX9_sideAt_2 : decode cX9_sideAt 2 = .ok (.aload_n 0, 1) := by decide +kernel
theorem dX9_sideAt_3 : decode cX9_sideAt 3 = .ok (.getfield 25, 3) := by decide +kernel
theorem dX9_sideAt_6 : decode cX9_sideAt 6 = .ok (.invokestatic 30, 3) := by decide +kernel
theorem dX9_sideAt_9 : decode cX9_sideAt 9 = .ok (.istore_n 2, 1) := by decide +kernel
theorem dX9_sideAt_10 : decode cX9_sideAt 10 = .ok (.aload_n 0, 1) := by decide +kernel
theorem dX9_sideAt_11 : decode cX9_sideAt 11 = .ok (.iload_n 1, 1) := by decide +kernel
theorem dX9_sideAt_12 : decode cX9_sideAt 12 = .ok (.aload_n 0, 1) := by decide +kernel
theorem dX9_sideAt_13 : decode cX9_sideAt 13 = .ok (.getfield 36, 3) := by decide +kernel
theorem dX9_sideAt_16 : decode cX9_sideAt 16 = .ok (.invokestatic 30, 3) := by decide +kernel
theorem dX9_sideAt_19 : decode cX9_sideAt 19 = .ok (.istore_n 3, 1) := by decide +kernel
theorem dX9_sideAt_20 : decode cX9_sideAt 20 = .ok (.iload_n 2, 1) := by decide +kernel
theorem dX9_sideAt_21 : decode cX9_sideAt 21 = .ok (.iload_n 3, 1) := by decide +kernel
theorem dX9_sideAt_22 : decode cX9_sideAt 22 = .ok (.if_icmp .ne 5, 3) := by decide +kernel
theorem dX9_sideAt_25 : decode cX9_sideAt 25 = .ok (.iconst 0, 1) := by decide +kernel
theorem dX9_sideAt_26 : decode cX9_sideAt 26 = .ok (.ireturn, 1) := by decide +kernel
theorem dX9_sideAt_27 : decode cX9_sideAt 27 = .ok (.iload_n 2, 1) := by decide +kernel
theorem dX9_sideAt_28 : decode cX9_sideAt 28 = .ok (.iload_n 3, 1) := by decide +kernel
theorem dX9_sideAt_29 : decode cX9_sideAt 29 = .ok (.if_icmp .le 7, 3) := by decide +kernel
theorem dX9_sideAt_32 : decode cX9_sideAt 32 = .ok (.iconst 1, 1) := by decide +kernel
theorem dX9_sideAt_33 : decode cX9_sideAt 33 = .ok (.goto 4, 3) := by decide +kernel
theorem dX9_sideAt_36 : decode cX9_sideAt 36 = .ok (.iconst (-1), 1) := by decide +kernel
theorem dX9_sideAt_37 : decode cX9_sideAt 37 = .ok (.ireturn, 1) := by decide +kernel
theorem dX9_numberOfCrossings_0 : decode cX9_numberOfCrossings 0 = .ok (.iconst 0, 1) := by decide +kernel
theorem dX9_numberOfCrossings_1 : decode cX9_numberOfCrossings 1 = .ok (.istore_n 1, 1) := by decide +kernel
theorem dX9_numberOfCrossings_2 : decode cX9_numberOfCrossings 2 = .ok (.iconst 1, 1) := by decide +kernel
theorem dX9_numberOfCrossings_3 : decode cX9_numberOfCrossings 3 = .ok (.istore_n 2, 1) := by decide +kernel
theorem dX9_numberOfCrossings_4 : decode cX9_numberOfCrossings 4 = .ok (.iload_n 2, 1) := by decide +kernel
theorem dX9_numberOfCrossings_5 : decode cX9_numberOfCrossings 5 = .ok (.aload_n 0, 1) := by decide +kernel
theorem dX9_numberOfCrossings_6 : decode cX9_numberOfCrossings 6 = .ok (.getfield 39, 3) := by decide +kernel
theorem dX9_numberOfCrossings_9 : decode cX9_numberOfCrossings 9 = .ok (.if_icmp .ge 20, 3) := by decide +kernel
theorem dX9_numberOfCrossings_12 : decode cX9_numberOfCrossings 12 = .ok (.aload_n 0, 1) := by decide +kernel
theorem dX9_numberOfCrossings_13 : decode cX9_numberOfCrossings 13 = .ok (.iload_n 2, 1) := by decide +kernel
theorem dX9_numberOfCrossings_14 : decode cX9_numberOfCrossings 14 = .ok (.invokestatic 42, 3) := by decide +kernel
theorem dX9_numberOfCrossings_17 : decode cX9_numberOfCrossings 17 = .ok (.ifCond .eq 6, 3) := by decide +kernel
theorem dX9_numberOfCrossings_20 : decode cX9_numberOfCrossings 20 = .ok (.iinc 1 1, 3) := by decide +kernel
theorem dX9_numberOfCrossings_23 : decode cX9_numberOfCrossings 23 = .ok (.iinc 2 1, 3) := by decide +kernel
theorem dX9_numberOfCrossings_26 : decode cX9_numberOfCrossings 26 = .ok (.goto (-22), 3) := by decide +kernel
theorem dX9_numberOfCrossings_29 : decode cX9_numberOfCrossings 29 = .ok (.iload_n 1, 1) := by decide +kernel
theorem dX9_numberOfCrossings_30 : decode cX9_numberOfCrossings 30 = .ok (.ireturn, 1) := by decide +kernel
theorem dX9_start_0 : decode cX9_start 0 = .ok (.aload_n 0, 1) := by decide +kernel
theorem dX9_start_1 : decode cX9_start 1 = .ok (.ldc2_w 9, 3) := by decide +kernel
theorem dX9_start_4 : decode cX9_start 4 = .ok (.putfield 11, 3) := by decide +kernel
theorem dX9_start_7 : decode cX9_start 7 = .ok (.aload_n 0, 1) := by decide +kernel
theorem dX9_start_8 : decode cX9_start 8 = .ok (.iconst 0, 1) := by decide +kernel
theorem dX9_start_9 : decode cX9_start 9 = .ok (.putfield 17, 3) := by decide +kernel
theorem dX9_start_12 : decode cX9_start 12 = .ok (.return_, 1) := by decide +kernel
theorem dX9_runTo_0 : decode cX9_runTo 0 = .ok (.aload_n 0, 1) := by decide +kernel
theorem dX9_runTo_1 : decode cX9_runTo 1 = .ok (.invokevirtual 45, 3) := by decide +kernel
theorem dX9_runTo_4 : decode cX9_runTo 4 = .ok (.iconst 0, 1) := by decide +kernel
theorem dX9_runTo_5 : decode cX9_runTo 5 = .ok (.istore_n 3, 1) := by decide +kernel
theorem dX9_runTo_6 : decode cX9_runTo 6 = .ok (.iload_n 3, 1) := by decide +kernel
theorem dX9_runTo_7 : decode cX9_runTo 7 = .ok (.iload_n 2, 1) := by decide +kernel
theorem dX9_runTo_8 : decode cX9_runTo 8 = .ok (.if_icmp .gt 15, 3) := by decide +kernel
theorem dX9_runTo_11 : decode cX9_runTo 11 = .ok (.aload_n 0, 1) := by decide +kernel
theorem dX9_runTo_12 : decode cX9_runTo 12 = .ok (.aload_n 1, 1) := by decide +kernel
theorem dX9_runTo_13 : decode cX9_runTo 13 = .ok (.iload_n 3, 1) := by decide +kernel
theorem dX9_runTo_14 : decode cX9_runTo 14 = .ok (.invokevirtual 48, 3) := by decide +kernel
theorem dX9_runTo_17 : decode cX9_runTo 17 = .ok (.iinc 3 1, 3) := by decide +kernel
theorem dX9_runTo_20 : decode cX9_runTo 20 = .ok (.goto (-14), 3) := by decide +kernel
theorem dX9_runTo_23 : decode cX9_runTo 23 = .ok (.return_, 1) := by decide +kernel
theorem dX9_pass_0 : decode cX9_pass 0 = .ok (.aload_n 1, 1) := by decide +kernel
theorem dX9_pass_1 : decode cX9_pass 1 = .ok (.iload_n 2, 1) := by decide +kernel
theorem dX9_pass_2 : decode cX9_pass 2 = .ok (.invokestatic 42, 3) := by decide +kernel
theorem dX9_pass_5 : decode cX9_pass 5 = .ok (.istore_n 3, 1) := by decide +kernel
theorem dX9_pass_6 : decode cX9_pass 6 = .ok (.aload_n 1, 1) := by decide +kernel
theorem dX9_pass_7 : decode cX9_pass 7 = .ok (.iload_n 2, 1) := by decide +kernel
theorem dX9_pass_8 : decode cX9_pass 8 = .ok (.invokevirtual 52, 3) := by decide +kernel
theorem dX9_pass_11 : decode cX9_pass 11 = .ok (.i2l, 1) := by decide +kernel
theorem dX9_pass_12 : decode cX9_pass 12 = .ok (.lstore 4, 2) := by decide +kernel
theorem dX9_pass_14 : decode cX9_pass 14 = .ok (.iload_n 3, 1) := by decide +kernel
theorem dX9_pass_15 : decode cX9_pass 15 = .ok (.ifCond .le 55, 3) := by decide +kernel
theorem dX9_pass_18 : decode cX9_pass 18 = .ok (.aload_n 0, 1) := by decide +kernel
theorem dX9_pass_19 : decode cX9_pass 19 = .ok (.getfield 11, 3) := by decide +kernel
theorem dX9_pass_22 : decode cX9_pass 22 = .ok (.lload 4, 2) := by decide +kernel
theorem dX9_pass_24 : decode cX9_pass 24 = .ok (.invokestatic 56, 3) := by decide +kernel
theorem dX9_pass_27 : decode cX9_pass 27 = .ok (.sipush 999, 3) := by decide +kernel
theorem dX9_pass_30 : decode cX9_pass 30 = .ok (.aload_n 0, 1) := by decide +kernel
theorem dX9_pass_31 : decode cX9_pass 31 = .ok (.getfield 17, 3) := by decide +kernel
theorem dX9_pass_34 : decode cX9_pass 34 = .ok (.isub, 1) := by decide +kernel
theorem dX9_pass_35 : decode cX9_pass 35 = .ok (.i2l, 1) := by decide +kernel
theorem dX9_pass_36 : decode cX9_pass 36 = .ok (.invokestatic 60, 3) := by decide +kernel
theorem dX9_pass_39 : decode cX9_pass 39 = .ok (.lstore 6, 2) := by decide +kernel
theorem dX9_pass_41 : decode cX9_pass 41 = .ok (.aload_n 0, 1) := by decide +kernel
theorem dX9_pass_42 : decode cX9_pass 42 = .ok (.dup, 1) := by decide +kernel
theorem dX9_pass_43 : decode cX9_pass 43 = .ok (.getfield 11, 3) := by decide +kernel
theorem dX9_pass_46 : decode cX9_pass 46 = .ok (.lload 6, 2) := by decide +kernel
theorem dX9_pass_48 : decode cX9_pass 48 = .ok (.lload 4, 2) := by decide +kernel
theorem dX9_pass_50 : decode cX9_pass 50 = .ok (.lmul, 1) := by decide +kernel
theorem dX9_pass_51 : decode cX9_pass 51 = .ok (.lsub, 1) := by decide +kernel
theorem dX9_pass_52 : decode cX9_pass 52 = .ok (.putfield 11, 3) := by decide +kernel
theorem dX9_pass_55 : decode cX9_pass 55 = .ok (.aload_n 0, 1) := by decide +kernel
theorem dX9_pass_56 : decode cX9_pass 56 = .ok (.dup, 1) := by decide +kernel
theorem dX9_pass_57 : decode cX9_pass 57 = .ok (.getfield 17, 3) := by decide +kernel
theorem dX9_pass_60 : decode cX9_pass 60 = .ok (.lload 6, 2) := by decide +kernel
theorem dX9_pass_62 : decode cX9_pass 62 = .ok (.l2i, 1) := by decide +kernel
theorem dX9_pass_63 : decode cX9_pass 63 = .ok (.iadd, 1) := by decide +kernel
theorem dX9_pass_64 : decode cX9_pass 64 = .ok (.putfield 17, 3) := by decide +kernel
theorem dX9_pass_67 : decode cX9_pass 67 = .ok (.goto 29, 3) := by decide +kernel
theorem dX9_pass_70 : decode cX9_pass 70 = .ok (.iload_n 3, 1) := by decide +kernel
theorem dX9_pass_71 : decode cX9_pass 71 = .ok (.ifCond .ge 25, 3) := by decide +kernel
theorem dX9_pass_74 : decode cX9_pass 74 = .ok (.aload_n 0, 1) := by decide +kernel
theorem dX9_pass_75 : decode cX9_pass 75 = .ok (.dup, 1) := by decide +kernel
theorem dX9_pass_76 : decode cX9_pass 76 = .ok (.getfield 11, 3) := by decide +kernel
theorem dX9_pass_79 : decode cX9_pass 79 = .ok (.aload_n 0, 1) := by decide +kernel
theorem dX9_pass_80 : decode cX9_pass 80 = .ok (.getfield 17, 3) := by decide +kernel
theorem dX9_pass_83 : decode cX9_pass 83 = .ok (.i2l, 1) := by decide +kernel
theorem dX9_pass_84 : decode cX9_pass 84 = .ok (.lload 4, 2) := by decide +kernel
theorem dX9_pass_86 : decode cX9_pass 86 = .ok (.lmul, 1) := by decide +kernel
theorem dX9_pass_87 : decode cX9_pass 87 = .ok (.ladd, 1) := by decide +kernel
theorem dX9_pass_88 : decode cX9_pass 88 = .ok (.putfield 11, 3) := by decide +kernel
theorem dX9_pass_91 : decode cX9_pass 91 = .ok (.aload_n 0, 1) := by decide +kernel
theorem dX9_pass_92 : decode cX9_pass 92 = .ok (.iconst 0, 1) := by decide +kernel
theorem dX9_pass_93 : decode cX9_pass 93 = .ok (.putfield 17, 3) := by decide +kernel
theorem dX9_pass_96 : decode cX9_pass 96 = .ok (.return_, 1) := by decide +kernel
theorem dX9_valueAt_0 : decode cX9_valueAt 0 = .ok (.aload_n 0, 1) := by decide +kernel
theorem dX9_valueAt_1 : decode cX9_valueAt 1 = .ok (.getfield 11, 3) := by decide +kernel
theorem dX9_valueAt_4 : decode cX9_valueAt 4 = .ok (.aload_n 0, 1) := by decide +kernel
theorem dX9_valueAt_5 : decode cX9_valueAt 5 = .ok (.getfield 17, 3) := by decide +kernel
theorem dX9_valueAt_8 : decode cX9_valueAt 8 = .ok (.i2l, 1) := by decide +kernel
theorem dX9_valueAt_9 : decode cX9_valueAt 9 = .ok (.aload_n 1, 1) := by decide +kernel
theorem dX9_valueAt_10 : decode cX9_valueAt 10 = .ok (.iload_n 2, 1) := by decide +kernel
theorem dX9_valueAt_11 : decode cX9_valueAt 11 = .ok (.invokevirtual 52, 3) := by decide +kernel
theorem dX9_valueAt_14 : decode cX9_valueAt 14 = .ok (.i2l, 1) := by decide +kernel
theorem dX9_valueAt_15 : decode cX9_valueAt 15 = .ok (.lmul, 1) := by decide +kernel
theorem dX9_valueAt_16 : decode cX9_valueAt 16 = .ok (.ladd, 1) := by decide +kernel
theorem dX9_valueAt_17 : decode cX9_valueAt 17 = .ok (.lreturn, 1) := by decide +kernel
theorem dX10_init_0 : decode cX10_init 0 = .ok (.aload_n 0, 1) := by decide +kernel
theorem dX10_init_1 : decode cX10_init 1 = .ok (.invokespecial 3, 3) := by decide +kernel
theorem dX10_init_4 : decode cX10_init 4 = .ok (.aload_n 0, 1) := by decide +kernel
theorem dX10_init_5 : decode cX10_init 5 = .ok (.iconst 0, 1) := by decide +kernel
theorem dX10_init_6 : decode cX10_init 6 = .ok (.putfield 9, 3) := by decide +kernel
theorem dX10_init_9 : decode cX10_init 9 = .ok (.aload_n 0, 1) := by decide +kernel
theorem dX10_init_10 : decode cX10_init 10 = .ok (.bipush 60, 2) := by decide +kernel
theorem dX10_init_12 : decode cX10_init 12 = .ok (.newarray .int, 2) := by decide +kernel
theorem dX10_init_14 : decode cX10_init 14 = .ok (.putfield 15, 3) := by decide +kernel
theorem dX10_init_17 : decode cX10_init 17 = .ok (.aload_n 0, 1) := by decide +kernel
theorem dX10_init_18 : decode cX10_init 18 = .ok (.iconst 0, 1) := by decide +kernel
theorem dX10_init_19 : decode cX10_init 19 = .ok (.putfield 19, 3) := by decide +kernel
theorem dX10_init_22 : decode cX10_init 22 = .ok (.return_, 1) := by decide +kernel
theorem dX11_init_0 : decode cX11_init 0 = .ok (.aload_n 0, 1) := by decide +kernel
theorem dX11_init_1 : decode cX11_init 1 = .ok (.invokespecial 1, 3) := by decide +kernel
theorem dX11_init_4 : decode cX11_init 4 = .ok (.aload_n 0, 1) := by decide +kernel
theorem dX11_init_5 : decode cX11_init 5 = .ok (.new 7, 3) := by decide +kernel
theorem dX11_init_8 : decode cX11_init 8 = .ok (.dup, 1) := by decide +kernel
theorem dX11_init_9 : decode cX11_init 9 = .ok (.invokespecial 9, 3) := by decide +kernel
theorem dX11_init_12 : decode cX11_init 12 = .ok (.putfield 10, 3) := by decide +kernel
theorem dX11_init_15 : decode cX11_init 15 = .ok (.aload_n 0, 1) := by decide +kernel
theorem dX11_init_16 : decode cX11_init 16 = .ok (.new 7, 3) := by decide +kernel
theorem dX11_init_19 : decode cX11_init 19 = .ok (.dup, 1) := by decide +kernel
theorem dX11_init_20 : decode cX11_init 20 = .ok (.invokespecial 9, 3) := by decide +kernel
theorem dX11_init_23 : decode cX11_init 23 = .ok (.putfield 16, 3) := by decide +kernel
theorem dX11_init_26 : decode cX11_init 26 = .ok (.aload_n 0, 1) := by decide +kernel
theorem dX11_init_27 : decode cX11_init 27 = .ok (.new 7, 3) := by decide +kernel
theorem dX11_init_30 : decode cX11_init 30 = .ok (.dup, 1) := by decide +kernel
theorem dX11_init_31 : decode cX11_init 31 = .ok (.invokespecial 9, 3) := by decide +kernel
theorem dX11_init_34 : decode cX11_init 34 = .ok (.putfield 19, 3) := by decide +kernel
theorem dX11_init_37 : decode cX11_init 37 = .ok (.aload_n 0, 1) := by decide +kernel
theorem dX11_init_38 : decode cX11_init 38 = .ok (.iconst 0, 1) := by decide +kernel
theorem dX11_init_39 : decode cX11_init 39 = .ok (.putfield 22, 3) := by decide +kernel
theorem dX11_init_42 : decode cX11_init 42 = .ok (.aload_n 0, 1) := by decide +kernel
theorem dX11_init_43 : decode cX11_init 43 = .ok (.new 26, 3) := by decide +kernel
theorem dX11_init_46 : decode cX11_init 46 = .ok (.dup, 1) := by decide +kernel
theorem dX11_init_47 : decode cX11_init 47 = .ok (.invokespecial 28, 3) := by decide +kernel
theorem dX11_init_50 : decode cX11_init 50 = .ok (.putfield 29, 3) := by decide +kernel
theorem dX11_init_53 : decode cX11_init 53 = .ok (.aload_n 0, 1) := by decide +kernel
theorem dX11_init_54 : decode cX11_init 54 = .ok (.new 33, 3) := by decide +kernel
theorem dX11_init_57 : decode cX11_init 57 = .ok (.dup, 1) := by decide +kernel
theorem dX11_init_58 : decode cX11_init 58 = .ok (.invokespecial 35, 3) := by decide +kernel
theorem dX11_init_61 : decode cX11_init 61 = .ok (.putfield 36, 3) := by decide +kernel
theorem dX11_init_64 : decode cX11_init 64 = .ok (.aload_n 0, 1) := by decide +kernel
theorem dX11_init_65 : decode cX11_init 65 = .ok (.new 40, 3) := by decide +kernel
theorem dX11_init_68 : decode cX11_init 68 = .ok (.dup, 1) := by decide +kernel
theorem dX11_init_69 : decode cX11_init 69 = .ok (.invokespecial 42, 3) := by decide +kernel
theorem dX11_init_72 : decode cX11_init 72 = .ok (.putfield 43, 3) := by decide +kernel
theorem dX11_init_75 : decode cX11_init 75 = .ok (.aload_n 0, 1) := by decide +kernel
theorem dX11_init_76 : decode cX11_init 76 = .ok (.new 47, 3) := by decide +kernel
theorem dX11_init_79 : decode cX11_init 79 = .ok (.dup, 1) := by decide +kernel
theorem dX11_init_80 : decode cX11_init 80 = .ok (.invokespecial 49, 3) := by decide +kernel
theorem dX11_init_83 : decode cX11_init 83 = .ok (.putfield 50, 3) := by decide +kernel
theorem dX11_init_86 : decode cX11_init 86 = .ok (.aload_n 0, 1) := by decide +kernel
theorem dX11_init_87 : decode cX11_init 87 = .ok (.new 54, 3) := by decide +kernel
theorem dX11_init_90 : decode cX11_init 90 = .ok (.dup, 1) := by decide +kernel
theorem dX11_init_91 : decode cX11_init 91 = .ok (.invokespecial 56, 3) := by decide +kernel
theorem dX11_init_94 : decode cX11_init 94 = .ok (.putfield 57, 3) := by decide +kernel
theorem dX11_init_97 : decode cX11_init 97 = .ok (.return_, 1) := by decide +kernel
theorem dX11_addPrice_0 : decode cX11_addPrice 0 = .ok (.iload_n 1, 1) := by decide +kernel
theorem dX11_addPrice_1 : decode cX11_addPrice 1 = .ok (.iconst 1, 1) := by decide +kernel
theorem dX11_addPrice_2 : decode cX11_addPrice 2 = .ok (.sipush 9999, 3) := by decide +kernel
theorem dX11_addPrice_5 : decode cX11_addPrice 5 = .ok (.invokestatic 61, 3) := by decide +kernel
theorem dX11_addPrice_8 : decode cX11_addPrice 8 = .ok (.aload_n 0, 1) := by decide +kernel
theorem dX11_addPrice_9 : decode cX11_addPrice 9 = .ok (.getfield 10, 3) := by decide +kernel
theorem dX11_addPrice_12 : decode cX11_addPrice 12 = .ok (.getfield 65, 3) := by decide +kernel
theorem dX11_addPrice_15 : decode cX11_addPrice 15 = .ok (.bipush 60, 2) := by decide +kernel
theorem dX11_addPrice_17 : decode cX11_addPrice 17 = .ok (.if_icmp .lt 13, 3) := by decide +kernel
theorem dX11_addPrice_20 : decode cX11_addPrice 20 = .ok (.new 69, 3) := by decide +kernel
theorem dX11_addPrice_23 : decode cX11_addPrice 23 = .ok (.dup, 1) := by decide +kernel
theorem dX11_addPrice_24 : decode cX11_addPrice 24 = .ok (.ldc 71, 2) := by decide +kernel
theorem dX11_addPrice_26 : decode cX11_addPrice 26 = .ok (.invokespecial 73, 3) := by decide +kernel
theorem dX11_addPrice_29 : decode cX11_addPrice 29 = .ok (.athrow, 1) := by decide +kernel
theorem dX11_addPrice_30 : decode cX11_addPrice 30 = .ok (.aload_n 0, 1) := by decide +kernel
theorem dX11_addPrice_31 : decode cX11_addPrice 31 = .ok (.getfield 29, 3) := by decide +kernel
theorem dX11_addPrice_34 : decode cX11_addPrice 34 = .ok (.aload_n 0, 1) := by decide +kernel
theorem dX11_addPrice_35 : decode cX11_addPrice 35 = .ok (.getfield 10, 3) := by decide +kernel
theorem dX11_addPrice_38 : decode cX11_addPrice 38 = .ok (.invokevirtual 76, 3) := by decide +kernel
theorem dX11_addPrice_41 : decode cX11_addPrice 41 = .ok (.aload_n 0, 1) := by decide +kernel
theorem dX11_addPrice_42 : decode cX11_addPrice 42 = .ok (.getfield 10, 3) := by decide +kernel
theorem dX11_addPrice_45 : decode cX11_addPrice 45 = .ok (.iload_n 1, 1) := by decide +kernel
theorem dX11_addPrice_46 : decode cX11_addPrice 46 = .ok (.invokevirtual 80, 3) := by decide +kernel
theorem dX11_addPrice_49 : decode cX11_addPrice 49 = .ok (.aload_n 0, 1) := by decide +kernel
theorem dX11_addPrice_50 : decode cX11_addPrice 50 = .ok (.getfield 10, 3) := by decide +kernel
theorem dX11_addPrice_53 : decode cX11_addPrice 53 = .ok (.getfield 65, 3) := by decide +kernel
theorem dX11_addPrice_56 : decode cX11_addPrice 56 = .ok (.iconst 1, 1) := by decide +kernel
theorem dX11_addPrice_57 : decode cX11_addPrice 57 = .ok (.isub, 1) := by decide +kernel
theorem dX11_addPrice_58 : decode cX11_addPrice 58 = .ok (.ireturn, 1) := by decide +kernel
theorem dX11_setPrice_0 : decode cX11_setPrice 0 = .ok (.aload_n 0, 1) := by decide +kernel
theorem dX11_setPrice_1 : decode cX11_setPrice 1 = .ok (.iload_n 1, 1) := by decide +kernel
theorem dX11_setPrice_2 : decode cX11_setPrice 2 = .ok (.invokevirtual 84, 3) := by decide +kernel
theorem dX11_setPrice_5 : decode cX11_setPrice 5 = .ok (.iload_n 2, 1) := by decide +kernel
theorem dX11_setPrice_6 : decode cX11_setPrice 6 = .ok (.iconst 1, 1) := by decide +kernel
theorem dX11_setPrice_7 : decode cX11_setPrice 7 = .ok (.sipush 9999, 3) := by decide +kernel
theorem dX11_setPrice_10 : decode cX11_setPrice 10 = .ok (.invokestatic 61, 3) := by decide +kernel
theorem dX11_setPrice_13 : decode cX11_setPrice 13 = .ok (.aload_n 0, 1) := by decide +kernel
theorem dX11_setPrice_14 : decode cX11_setPrice 14 = .ok (.getfield 29, 3) := by decide +kernel
theorem dX11_setPrice_17 : decode cX11_setPrice 17 = .ok (.aload_n 0, 1) := by decide +kernel
theorem dX11_setPrice_18 : decode cX11_setPrice 18 = .ok (.getfield 10, 3) := by decide +kernel
theorem dX11_setPrice_21 : decode cX11_setPrice 21 = .ok (.invokevirtual 76, 3) := by decide +kernel
theorem dX11_setPrice_24 : decode cX11_setPrice 24 = .ok (.aload_n 0, 1) := by decide +kernel
theorem dX11_setPrice_25 : decode cX11_setPrice 25 = .ok (.getfield 10, 3) := by decide +kernel
theorem dX11_setPrice_28 : decode cX11_setPrice 28 = .ok (.iload_n 1, 1) := by decide +kernel
theorem dX11_setPrice_29 : decode cX11_setPrice 29 = .ok (.invokevirtual 87, 3) := by decide +kernel
theorem dX11_setPrice_32 : decode cX11_setPrice 32 = .ok (.istore_n 3, 1) := by decide +kernel
theorem dX11_setPrice_33 : decode cX11_setPrice 33 = .ok (.aload_n 0, 1) := by decide +kernel
theorem dX11_setPrice_34 : decode cX11_setPrice 34 = .ok (.getfield 10, 3) := by decide +kernel
theorem dX11_setPrice_37 : decode cX11_setPrice 37 = .ok (.iload_n 1, 1) := by decide +kernel
theorem dX11_setPrice_38 : decode cX11_setPrice 38 = .ok (.iload_n 2, 1) := by decide +kernel
theorem dX11_setPrice_39 : decode cX11_setPrice 39 = .ok (.invokevirtual 91, 3) := by decide +kernel
theorem dX11_setPrice_42 : decode cX11_setPrice 42 = .ok (.iload_n 3, 1) := by decide +kernel
theorem dX11_setPrice_43 : decode cX11_setPrice 43 = .ok (.ireturn, 1) := by decide +kernel
theorem dX11_dropOldest_0 : decode cX11_dropOldest 0 = .ok (.iload_n 1, 1) := by decide +kernel
theorem dX11_dropOldest_1 : decode cX11_dropOldest 1 = .ok (.iconst 1, 1) := by decide +kernel
theorem dX11_dropOldest_2 : decode cX11_dropOldest 2 = .ok (.bipush 60, 2) := by decide +kernel
theorem dX11_dropOldest_4 : decode cX11_dropOldest 4 = .ok (.invokestatic 61, 3) := by decide +kernel
theorem dX11_dropOldest_7 : decode cX11_dropOldest 7 = .ok (.iload_n 1, 1) := by decide +kernel
theorem dX11_dropOldest_8 : decode cX11_dropOldest 8 = .ok (.aload_n 0, 1) := by decide +kernel
theorem dX11_dropOldest_9 : decode cX11_dropOldest 9 = .ok (.getfield 10, 3) := by decide +kernel
theorem dX11_dropOldest_12 : decode cX11_dropOldest 12 = .ok (.getfield 65, 3) := by decide +kernel
theorem dX11_dropOldest_15 : decode cX11_dropOldest 15 = .ok (.if_icmp .le 13, 3) := by decide +kernel
theorem dX11_dropOldest_18 : decode cX11_dropOldest 18 = .ok (.new 69, 3) := by decide +kernel
theorem dX11_dropOldest_21 : decode cX11_dropOldest 21 = .ok (.dup, 1) := by decide +kernel
theorem dX11_dropOldest_22 : decode cX11_dropOldest 22 = .ok (.ldc 95, 2) := by decide +kernel
theorem dX11_dropOldest_24 : decode cX11_dropOldest 24 = .ok (.invokespecial 73, 3) := by decide +kernel
theorem dX11_dropOldest_27 : decode cX11_dropOldest 27 = .ok (.athrow, 1) := by decide +kernel
theorem dX11_dropOldest_28 : decode cX11_dropOldest 28 = .ok (.aload_n 0, 1) := by decide +kernel
theorem dX11_dropOldest_29 : decode cX11_dropOldest 29 = .ok (.getfield 29, 3) := by decide +kernel
theorem dX11_dropOldest_32 : decode cX11_dropOldest 32 = .ok (.aload_n 0, 1) := by decide +kernel
theorem dX11_dropOldest_33 : decode cX11_dropOldest 33 = .ok (.getfield 10, 3) := by decide +kernel
theorem dX11_dropOldest_36 : decode cX11_dropOldest 36 = .ok (.invokevirtual 76, 3) := by decide +kernel
theorem dX11_dropOldest_39 : decode cX11_dropOldest 39 = .ok (.aload_n 0, 1) := by decide +kernel
theorem dX11_dropOldest_40 : decode cX11_dropOldest 40 = .ok (.getfield 10, 3) := by decide +kernel
theorem dX11_dropOldest_43 : decode cX11_dropOldest 43 = .ok (.iload_n 1, 1) := by decide +kernel
theorem dX11_dropOldest_44 : decode cX11_dropOldest 44 = .ok (.invokevirtual 97, 3) := by decide +kernel
theorem dX11_dropOldest_47 : decode cX11_dropOldest 47 = .ok (.aload_n 0, 1) := by decide +kernel
theorem dX11_dropOldest_48 : decode cX11_dropOldest 48 = .ok (.getfield 10, 3) := by decide +kernel
theorem dX11_dropOldest_51 : decode cX11_dropOldest 51 = .ok (.getfield 65, 3) := by decide +kernel
theorem dX11_dropOldest_54 : decode cX11_dropOldest 54 = .ok (.ireturn, 1) := by decide +kernel
theorem dX11_press_0 : decode cX11_press 0 = .ok (.aload_n 0, 1) := by decide +kernel
theorem dX11_press_1 : decode cX11_press 1 = .ok (.iload_n 1, 1) := by decide +kernel
theorem dX11_press_2 : decode cX11_press 2 = .ok (.invokevirtual 84, 3) := by decide +kernel
theorem dX11_press_5 : decode cX11_press 5 = .ok (.aload_n 0, 1) := by decide +kernel
theorem dX11_press_6 : decode cX11_press 6 = .ok (.getfield 10, 3) := by decide +kernel
theorem dX11_press_9 : decode cX11_press 9 = .ok (.iload_n 1, 1) := by decide +kernel
theorem dX11_press_10 : decode cX11_press 10 = .ok (.invokestatic 100, 3) := by decide +kernel
theorem dX11_press_13 : decode cX11_press 13 = .ok (.ifCond .ne 13, 3) := by decide +kernel
theorem dX11_press_16 : decode cX11_press 16 = .ok (.new 69, 3) := by decide +kernel
theorem dX11_press_19 : decode cX11_press 19 = .ok (.dup, 1) := by decide +kernel
theorem dX11_press_20 : decode cX11_press 20 = .ok (.ldc 106, 2) := by decide +kernel
theorem dX11_press_22 : decode cX11_press 22 = .ok (.invokespecial 73, 3) := by decide +kernel
theorem dX11_press_25 : decode cX11_press 25 = .ok (.athrow, 1) := by decide +kernel
theorem dX11_press_26 : decode cX11_press 26 = .ok (.aload_n 0, 1) := by decide +kernel
theorem dX11_press_27 : decode cX11_press 27 = .ok (.getfield 29, 3) := by decide +kernel
theorem dX11_press_30 : decode cX11_press 30 = .ok (.aload_n 0, 1) := by decide +kernel
theorem dX11_press_31 : decode cX11_press 31 = .ok (.getfield 10, 3) := by decide +kernel
theorem dX11_press_34 : decode cX11_press 34 = .ok (.invokevirtual 76, 3) := by decide +kernel
theorem dX11_press_37 : decode cX11_press 37 = .ok (.aload_n 0, 1) := by decide +kernel
theorem dX11_press_38 : decode cX11_press 38 = .ok (.getfield 10, 3) := by decide +kernel
theorem dX11_press_41 : decode cX11_press 41 = .ok (.iload_n 1, 1) := by decide +kernel
theorem dX11_press_42 : decode cX11_press 42 = .ok (.invokestatic 108, 3) := by decide +kernel
theorem dX11_press_45 : decode cX11_press 45 = .ok (.aload_n 0, 1) := by decide +kernel
theorem dX11_press_46 : decode cX11_press 46 = .ok (.getfield 10, 3) := by decide +kernel
theorem dX11_press_49 : decode cX11_press 49 = .ok (.iload_n 1, 1) := by decide +kernel
theorem dX11_press_50 : decode cX11_press 50 = .ok (.invokevirtual 87, 3) := by decide +kernel
theorem dX11_press_53 : decode cX11_press 53 = .ok (.ireturn, 1) := by decide +kernel
theorem dX11_pressAll_0 : decode cX11_pressAll 0 = .ok (.aload_n 0, 1) := by decide +kernel
theorem dX11_pressAll_1 : decode cX11_pressAll 1 = .ok (.getfield 29, 3) := by decide +kernel
theorem dX11_pressAll_4 : decode cX11_pressAll 4 = .ok (.aload_n 0, 1) := by decide +kernel
theorem dX11_pressAll_5 : decode cX11_pressAll 5 = .ok (.getfield 10, 3) := by decide +kernel
theorem dX11_pressAll_8 : decode cX11_pressAll 8 = .ok (.invokevirtual 76, 3) := by decide +kernel
theorem dX11_pressAll_11 : decode cX11_pressAll 11 = .ok (.aload_n 0, 1) := by decide +kernel
theorem dX11_pressAll_12 : decode cX11_pressAll 12 = .ok (.getfield 10, 3) := by decide +kernel
theorem dX11_pressAll_15 : decode cX11_pressAll 15 = .ok (.invokestatic 112, 3) := by decide +kernel
theorem dX11_pressAll_18 : decode cX11_pressAll 18 = .ok (.ireturn, 1) := by decide +kernel
theorem dX11_setWindows_0 : decode cX11_setWindows 0 = .ok (.iload_n 1, 1) := by decide +kernel
theorem dX11_setWindows_1 : decode cX11_setWindows 1 = .ok (.iconst 1, 1) := by decide +kernel
theorem dX11_setWindows_2 : decode cX11_setWindows 2 = .ok (.bipush 10, 2) := by decide +kernel
theorem dX11_setWindows_4 : decode cX11_setWindows 4 = .ok (.invokestatic 61, 3) := by decide +kernel
theorem dX11_setWindows_7 : decode cX11_setWindows 7 = .ok (.iload_n 2, 1) := by decide +kernel
theorem dX11_setWindows_8 : decode cX11_setWindows 8 = .ok (.iconst 2, 1) := by decide +kernel
theorem dX11_setWindows_9 : decode cX11_setWindows 9 = .ok (.bipush 20, 2) := by decide +kernel
theorem dX11_setWindows_11 : decode cX11_setWindows 11 = .ok (.invokestatic 61, 3) := by decide +kernel
theorem dX11_setWindows_14 : decode cX11_setWindows 14 = .ok (.iload_n 1, 1) := by decide +kernel
theorem dX11_setWindows_15 : decode cX11_setWindows 15 = .ok (.iload_n 2, 1) := by decide +kernel
theorem dX11_setWindows_16 : decode cX11_setWindows 16 = .ok (.if_icmp .lt 13, 3) := by decide +kernel
theorem dX11_setWindows_19 : decode cX11_setWindows 19 = .ok (.new 116, 3) := by decide +kernel
theorem dX11_setWindows_22 : decode cX11_setWindows 22 = .ok (.dup, 1) := by decide +kernel
theorem dX11_setWindows_23 : decode cX11_setWindows 23 = .ok (.ldc 118, 2) := by decide +kernel
theorem dX11_setWindows_25 : decode cX11_setWindows 25 = .ok (.invokespecial 120, 3) := by decide +kernel
theorem dX11_setWindows_28 : decode cX11_setWindows 28 = .ok (.athrow, 1) := by decide +kernel
theorem dX11_setWindows_29 : decode cX11_setWindows 29 = .ok (.aload_n 0, 1) := by decide +kernel
theorem dX11_setWindows_30 : decode cX11_setWindows 30 = .ok (.getfield 29, 3) := by decide +kernel
theorem dX11_setWindows_33 : decode cX11_setWindows 33 = .ok (.aload_n 0, 1) := by decide +kernel
theorem dX11_setWindows_34 : decode cX11_setWindows 34 = .ok (.getfield 10, 3) := by decide +kernel
theorem dX11_setWindows_37 : decode cX11_setWindows 37 = .ok (.invokevirtual 76, 3) := by decide +kernel
theorem dX11_setWindows_40 : decode cX11_setWindows 40 = .ok (.aload_n 0, 1) := by decide +kernel
theorem dX11_setWindows_41 : decode cX11_setWindows 41 = .ok (.getfield 10, 3) := by decide +kernel
theorem dX11_setWindows_44 : decode cX11_setWindows 44 = .ok (.getfield 121, 3) := by decide +kernel
theorem dX11_setWindows_47 : decode cX11_setWindows 47 = .ok (.istore_n 3, 1) := by decide +kernel
theorem dX11_setWindows_48 : decode cX11_setWindows 48 = .ok (.aload_n 0, 1) := by decide +kernel
theorem dX11_setWindows_49 : decode cX11_setWindows 49 = .ok (.getfield 10, 3) := by decide +kernel
theorem dX11_setWindows_52 : decode cX11_setWindows 52 = .ok (.iload_n 1, 1) := by decide +kernel
theorem dX11_setWindows_53 : decode cX11_setWindows 53 = .ok (.putfield 124, 3) := by decide +kernel
theorem dX11_setWindows_56 : decode cX11_setWindows 56 = .ok (.aload_n 0, 1) := by decide +kernel
theorem dX11_setWindows_57 : decode cX11_setWindows 57 = .ok (.getfield 10, 3) := by decide +kernel
theorem dX11_setWindows_60 : decode cX11_setWindows 60 = .ok (.iload_n 2, 1) := by decide +kernel
theorem dX11_setWindows_61 : decode cX11_setWindows 61 = .ok (.putfield 121, 3) := by decide +kernel
theorem dX11_setWindows_64 : decode cX11_setWindows 64 = .ok (.iload_n 3, 1) := by decide +kernel
theorem dX11_setWindows_65 : decode cX11_setWindows 65 = .ok (.ireturn, 1) := by decide +kernel
theorem dX11_setMemory_0 : decode cX11_setMemory 0 = .ok (.iload_n 1, 1) := by decide +kernel
theorem dX11_setMemory_1 : decode cX11_setMemory 1 = .ok (.iconst 0, 1) := by decide +kernel
theorem dX11_setMemory_2 : decode cX11_setMemory 2 = .ok (.bipush 9, 2) := by decide +kernel
theorem dX11_setMemory_4 : decode cX11_setMemory 4 = .ok (.invokestatic 61, 3) := by decide +kernel
theorem dX11_setMemory_7 : decode cX11_setMemory 7 = .ok (.aload_n 0, 1) := by decide +kernel
theorem dX11_setMemory_8 : decode cX11_setMemory 8 = .ok (.getfield 29, 3) := by decide +kernel
theorem dX11_setMemory_11 : decode cX11_setMemory 11 = .ok (.aload_n 0, 1) := by decide +kernel
theorem dX11_setMemory_12 : decode cX11_setMemory 12 = .ok (.getfield 10, 3) := by decide +kernel
theorem dX11_setMemory_15 : decode cX11_setMemory 15 = .ok (.invokevirtual 76, 3) := by decide +kernel
theorem dX11_setMemory_18 : decode cX11_setMemory 18 = .ok (.aload_n 0, 1) := by decide +kernel
theorem dX11_setMemory_19 : decode cX11_setMemory 19 = .ok (.getfield 10, 3) := by decide +kernel
theorem dX11_setMemory_22 : decode cX11_setMemory 22 = .ok (.getfield 127, 3) := by decide +kernel
theorem dX11_setMemory_25 : decode cX11_setMemory 25 = .ok (.istore_n 2, 1) := by decide +kernel
theorem dX11_setMemory_26 : decode cX11_setMemory 26 = .ok (.aload_n 0, 1) := by decide +kernel
theorem dX11_setMemory_27 : decode cX11_setMemory 27 = .ok (.getfield 10, 3) := by decide +kernel
theorem dX11_setMemory_30 : decode cX11_setMemory 30 = .ok (.iload_n 1, 1) := by decide +kernel
theorem dX11_setMemory_31 : decode cX11_setMemory 31 = .ok (.putfield 127, 3) := by decide +kernel
theorem dX11_setMemory_34 : decode cX11_setMemory 34 = .ok (.iload_n 2, 1) := by decide +kernel
theorem dX11_setMemory_35 : decode cX11_setMemory 35 = .ok (.ireturn, 1) := by decide +kernel
theorem dX11_setLimit_0 : decode cX11_setLimit 0 = .ok (.iload_n 1, 1) := by decide +kernel
theorem dX11_setLimit_1 : decode cX11_setLimit 1 = .ok (.iconst 0, 1) := by decide +kernel
theorem dX11_setLimit_2 : decode cX11_setLimit 2 = .ok (.sipush 9999, 3) := by decide +kernel
theorem dX11_setLimit_5 : decode cX11_setLimit 5 = .ok (.invokestatic 61, 3) := by decide +kernel
theorem dX11_setLimit_8 : decode cX11_setLimit 8 = .ok (.aload_n 0, 1) := by decide +kernel
theorem dX11_setLimit_9 : decode cX11_setLimit 9 = .ok (.getfield 29, 3) := by decide +kernel
theorem dX11_setLimit_12 : decode cX11_setLimit 12 = .ok (.aload_n 0, 1) := by decide +kernel
theorem dX11_setLimit_13 : decode cX11_setLimit 13 = .ok (.getfield 10, 3) := by decide +kernel
theorem dX11_setLimit_16 : decode cX11_setLimit 16 = .ok (.invokevirtual 76, 3) := by decide +kernel
theorem dX11_setLimit_19 : decode cX11_setLimit 19 = .ok (.aload_n 0, 1) := by decide +kernel
theorem dX11_setLimit_20 : decode cX11_setLimit 20 = .ok (.getfield 10, 3) := by decide +kernel
theorem dX11_setLimit_23 : decode cX11_setLimit 23 = .ok (.getfield 130, 3) := by decide +kernel
theorem dX11_setLimit_26 : decode cX11_setLimit 26 = .ok (.istore_n 2, 1) := by decide +kernel
theorem dX11_setLimit_27 : decode cX11_setLimit 27 = .ok (.aload_n 0, 1) := by decide +kernel
theorem dX11_setLimit_28 : decode cX11_setLimit 28 = .ok (.getfield 10, 3) := by decide +kernel
theorem dX11_setLimit_31 : decode cX11_setLimit 31 = .ok (.iload_n 1, 1) := by decide +kernel
theorem dX11_setLimit_32 : decode cX11_setLimit 32 = .ok (.putfield 130, 3) := by decide +kernel
theorem dX11_setLimit_35 : decode cX11_setLimit 35 = .ok (.iload_n 2, 1) := by decide +kernel
theorem dX11_setLimit_36 : decode cX11_setLimit 36 = .ok (.ireturn, 1) := by decide +kernel
theorem dX11_setSeason_0 : decode cX11_setSeason 0 = .ok (.iload_n 1, 1) := by decide +kernel
theorem dX11_setSeason_1 : decode cX11_setSeason 1 = .ok (.iconst 2, 1) := by decide +kernel
theorem dX11_setSeason_2 : decode cX11_setSeason 2 = .ok (.bipush 7, 2) := by decide +kernel
theorem dX11_setSeason_4 : decode cX11_setSeason 4 = .ok (.invokestatic 61, 3) := by decide +kernel
theorem dX11_setSeason_7 : decode cX11_setSeason 7 = .ok (.aload_n 0, 1) := by decide +kernel
theorem dX11_setSeason_8 : decode cX11_setSeason 8 = .ok (.getfield 29, 3) := by decide +kernel
theorem dX11_setSeason_11 : decode cX11_setSeason 11 = .ok (.aload_n 0, 1) := by decide +kernel
theorem dX11_setSeason_12 : decode cX11_setSeason 12 = .ok (.getfield 10, 3) := by decide +kernel
theorem dX11_setSeason_15 : decode cX11_setSeason 15 = .ok (.invokevirtual 76, 3) := by decide +kernel
theorem dX11_setSeason_18 : decode cX11_setSeason 18 = .ok (.aload_n 0, 1) := by decide +kernel
theorem dX11_setSeason_19 : decode cX11_setSeason 19 = .ok (.getfield 10, 3) := by decide +kernel
theorem dX11_setSeason_22 : decode cX11_setSeason 22 = .ok (.getfield 133, 3) := by decide +kernel
theorem dX11_setSeason_25 : decode cX11_setSeason 25 = .ok (.istore_n 2, 1) := by decide +kernel
theorem dX11_setSeason_26 : decode cX11_setSeason 26 = .ok (.aload_n 0, 1) := by decide +kernel
theorem dX11_setSeason_27 : decode cX11_setSeason 27 = .ok (.getfield 10, 3) := by decide +kernel
theorem dX11_setSeason_30 : decode cX11_setSeason 30 = .ok (.iload_n 1, 1) := by decide +kernel
theorem dX11_setSeason_31 : decode cX11_setSeason 31 = .ok (.putfield 133, 3) := by decide +kernel
theorem dX11_setSeason_34 : decode cX11_setSeason 34 = .ok (.iload_n 2, 1) := by decide +kernel
theorem dX11_setSeason_35 : decode cX11_setSeason 35 = .ok (.ireturn, 1) := by decide +kernel
theorem dX11_hasStopped_0 : decode cX11_hasStopped 0 = .ok (.aload_n 0, 1) := by decide +kernel
theorem dX11_hasStopped_1 : decode cX11_hasStopped 1 = .ok (.getfield 10, 3) := by decide +kernel
theorem dX11_hasStopped_4 : decode cX11_hasStopped 4 = .ok (.getfield 157, 3) := by decide +kernel
theorem dX11_hasStopped_7 : decode cX11_hasStopped 7 = .ok (.ireturn, 1) := by decide +kernel
theorem dX11_stoppedPart_0 : decode cX11_stoppedPart 0 = .ok (.aload_n 0, 1) := by decide +kernel
theorem dX11_stoppedPart_1 : decode cX11_stoppedPart 1 = .ok (.invokevirtual 160, 3) := by decide +kernel
theorem dX11_stoppedPart_4 : decode cX11_stoppedPart 4 = .ok (.aload_n 0, 1) := by decide +kernel
theorem dX11_stoppedPart_5 : decode cX11_stoppedPart 5 = .ok (.getfield 10, 3) := by decide +kernel
theorem dX11_stoppedPart_8 : decode cX11_stoppedPart 8 = .ok (.getfield 163, 3) := by decide +kernel
theorem dX11_stoppedPart_11 : decode cX11_stoppedPart 11 = .ok (.ireturn, 1) := by decide +kernel
theorem dX11_whyStopped_0 : decode cX11_whyStopped 0 = .ok (.aload_n 0, 1) := by decide +kernel
theorem dX11_whyStopped_1 : decode cX11_whyStopped 1 = .ok (.invokevirtual 160, 3) := by decide +kernel
theorem dX11_whyStopped_4 : decode cX11_whyStopped 4 = .ok (.aload_n 0, 1) := by decide +kernel
theorem dX11_whyStopped_5 : decode cX11_whyStopped 5 = .ok (.getfield 10, 3) := by decide +kernel
theorem dX11_whyStopped_8 : decode cX11_whyStopped 8 = .ok (.getfield 166, 3) := by decide +kernel
theorem dX11_whyStopped_11 : decode cX11_whyStopped 11 = .ok (.ireturn, 1) := by decide +kernel
theorem dX11_undo_0 : decode cX11_undo 0 = .ok (.aload_n 0, 1) := by decide +kernel
theorem dX11_undo_1 : decode cX11_undo 1 = .ok (.getfield 29, 3) := by decide +kernel
theorem dX11_undo_4 : decode cX11_undo 4 = .ok (.getfield 169, 3) := by decide +kernel
theorem dX11_undo_7 : decode cX11_undo 7 = .ok (.ifCond .ne 13, 3) := by decide +kernel
theorem dX11_undo_10 : decode cX11_undo 10 = .ok (.new 69, 3) := by decide +kernel
theorem dX11_undo_13 : decode cX11_undo 13 = .ok (.dup, 1) := by decide +kernel
theorem dX11_undo_14 : decode cX11_undo 14 = .ok (.ldc 172, 2) := by decide +kernel
theorem dX11_undo_16 : decode cX11_undo 16 = .ok (.invokespecial 73, 3) := by decide +kernel
theorem dX11_undo_19 : decode cX11_undo 19 = .ok (.athrow, 1) := by decide +kernel
theorem dX11_undo_20 : decode cX11_undo 20 = .ok (.aload_n 0, 1) := by decide +kernel
theorem dX11_undo_21 : decode cX11_undo 21 = .ok (.getfield 29, 3) := by decide +kernel
theorem dX11_undo_24 : decode cX11_undo 24 = .ok (.aload_n 0, 1) := by decide +kernel
theorem dX11_undo_25 : decode cX11_undo 25 = .ok (.getfield 10, 3) := by decide +kernel
theorem dX11_undo_28 : decode cX11_undo 28 = .ok (.invokevirtual 174, 3) := by decide +kernel
theorem dX11_undo_31 : decode cX11_undo 31 = .ok (.aload_n 0, 1) := by decide +kernel
theorem dX11_undo_32 : decode cX11_undo 32 = .ok (.getfield 29, 3) := by decide +kernel
theorem dX11_undo_35 : decode cX11_undo 35 = .ok (.getfield 169, 3) := by decide +kernel
theorem dX11_undo_38 : decode cX11_undo 38 = .ok (.ireturn, 1) := by decide +kernel
theorem dX11_savedStates_0 : decode cX11_savedStates 0 = .ok (.aload_n 0, 1) := by decide +kernel
theorem dX11_savedStates_1 : decode cX11_savedStates 1 = .ok (.getfield 29, 3) := by decide +kernel
theorem dX11_savedStates_4 : decode cX11_savedStates 4 = .ok (.getfield 169, 3) := by decide +kernel
theorem dX11_savedStates_7 : decode cX11_savedStates 7 = .ok (.ireturn, 1) := by decide +kernel
theorem dX11_days_0 : decode cX11_days 0 = .ok (.aload_n 0, 1) := by decide +kernel
theorem dX11_days_1 : decode cX11_days 1 = .ok (.getfield 10, 3) := by decide +kernel
theorem dX11_days_4 : decode cX11_days 4 = .ok (.getfield 65, 3) := by decide +kernel
theorem dX11_days_7 : decode cX11_days 7 = .ok (.ireturn, 1) := by decide +kernel
theorem dX11_priceOf_0 : decode cX11_priceOf 0 = .ok (.aload_n 0, 1) := by decide +kernel
theorem dX11_priceOf_1 : decode cX11_priceOf 1 = .ok (.iload_n 1, 1) := by decide +kernel
theorem dX11_priceOf_2 : decode cX11_priceOf 2 = .ok (.invokevirtual 84, 3) := by decide +kernel
theorem dX11_priceOf_5 : decode cX11_priceOf 5 = .ok (.aload_n 0, 1) := by decide +kernel
theorem dX11_priceOf_6 : decode cX11_priceOf 6 = .ok (.getfield 10, 3) := by decide +kernel
theorem dX11_priceOf_9 : decode cX11_priceOf 9 = .ok (.iload_n 1, 1) := by decide +kernel
theorem dX11_priceOf_10 : decode cX11_priceOf 10 = .ok (.invokevirtual 87, 3) := by decide +kernel
theorem dX11_priceOf_13 : decode cX11_priceOf 13 = .ok (.ireturn, 1) := by decide +kernel
theorem dX11_shortWindow_0 : decode cX11_shortWindow 0 = .ok (.aload_n 0, 1) := by decide +kernel
theorem dX11_shortWindow_1 : decode cX11_shortWindow 1 = .ok (.getfield 10, 3) := by decide +kernel
theorem dX11_shortWindow_4 : decode cX11_shortWindow 4 = .ok (.getfield 124, 3) := by decide +kernel
theorem dX11_shortWindow_7 : decode cX11_shortWindow 7 = .ok (.ireturn, 1) := by decide +kernel
theorem dX11_longWindow_0 : decode cX11_longWindow 0 = .ok (.aload_n 0, 1) := by decide +kernel
theorem dX11_longWindow_1 : decode cX11_longWindow 1 = .ok (.getfield 10, 3) := by decide +kernel
theorem dX11_longWindow_4 : decode cX11_longWindow 4 = .ok (.getfield 121, 3) := by decide +kernel
theorem dX11_longWindow_7 : decode cX11_longWindow 7 = .ok (.ireturn, 1) := by decide +kernel
theorem dX11_mean_0 : decode cX11_mean 0 = .ok (.aload_n 0, 1) := by decide +kernel
theorem dX11_mean_1 : decode cX11_mean 1 = .ok (.iload_n 1, 1) := by decide +kernel
theorem dX11_mean_2 : decode cX11_mean 2 = .ok (.invokevirtual 84, 3) := by decide +kernel
theorem dX11_mean_5 : decode cX11_mean 5 = .ok (.iload_n 2, 1) := by decide +kernel
theorem dX11_mean_6 : decode cX11_mean 6 = .ok (.iconst 1, 1) := by decide +kernel
theorem dX11_mean_7 : decode cX11_mean 7 = .ok (.bipush 20, 2) := by decide +kernel
theorem dX11_mean_9 : decode cX11_mean 9 = .ok (.invokestatic 61, 3) := by decide +kernel
theorem dX11_mean_12 : decode cX11_mean 12 = .ok (.aload_n 0, 1) := by decide +kernel
theorem dX11_mean_13 : decode cX11_mean 13 = .ok (.getfield 10, 3) := by decide +kernel
theorem dX11_mean_16 : decode cX11_mean 16 = .ok (.iload_n 1, 1) := by decide +kernel
theorem dX11_mean_17 : decode cX11_mean 17 = .ok (.iload_n 2, 1) := by decide +kernel
theorem dX11_mean_18 : decode cX11_mean 18 = .ok (.invokestatic 182, 3) := by decide +kernel
theorem dX11_mean_21 : decode cX11_mean 21 = .ok (.ireturn, 1) := by decide +kernel
theorem dX11_meanBySums_0 : decode cX11_meanBySums 0 = .ok (.aload_n 0, 1) := by decide +kernel
theorem dX11_meanBySums_1 : decode cX11_meanBySums 1 = .ok (.iload_n 1, 1) := by decide +kernel
theorem dX11_meanBySums_2 : decode cX11_meanBySums 2 = .ok (.invokevirtual 84, 3) := by decide +kernel
theorem dX11_meanBySums_5 : decode cX11_meanBySums 5 = .ok (.iload_n 2, 1) := by decide +kernel
theorem dX11_meanBySums_6 : decode cX11_meanBySums 6 = .ok (.iconst 1, 1) := by decide +kernel
theorem dX11_meanBySums_7 : decode cX11_meanBySums 7 = .ok (.bipush 20, 2) := by decide +kernel
theorem dX11_meanBySums_9 : decode cX11_meanBySums 9 = .ok (.invokestatic 61, 3) := by decide +kernel
theorem dX11_meanBySums_12 : decode cX11_meanBySums 12 = .ok (.aload_n 0, 1) := by decide +kernel
theorem dX11_meanBySums_13 : decode cX11_meanBySums 13 = .ok (.getfield 10, 3) := by decide +kernel
theorem dX11_meanBySums_16 : decode cX11_meanBySums 16 = .ok (.iload_n 1, 1) := by decide +kernel
theorem dX11_meanBySums_17 : decode cX11_meanBySums 17 = .ok (.iload_n 2, 1) := by decide +kernel
theorem dX11_meanBySums_18 : decode cX11_meanBySums 18 = .ok (.invokestatic 188, 3) := by decide +kernel
theorem dX11_meanBySums_21 : decode cX11_meanBySums 21 = .ok (.ireturn, 1) := by decide +kernel
theorem dX11_smoothed_0 : decode cX11_smoothed 0 = .ok (.aload_n 0, 1) := by decide +kernel
theorem dX11_smoothed_1 : decode cX11_smoothed 1 = .ok (.iload_n 1, 1) := by decide +kernel
theorem dX11_smoothed_2 : decode cX11_smoothed 2 = .ok (.invokevirtual 84, 3) := by decide +kernel
theorem dX11_smoothed_5 : decode cX11_smoothed 5 = .ok (.aload_n 0, 1) := by decide +kernel
theorem dX11_smoothed_6 : decode cX11_smoothed 6 = .ok (.getfield 10, 3) := by decide +kernel
theorem dX11_smoothed_9 : decode cX11_smoothed 9 = .ok (.iload_n 1, 1) := by decide +kernel
theorem dX11_smoothed_10 : decode cX11_smoothed 10 = .ok (.invokestatic 195, 3) := by decide +kernel
theorem dX11_smoothed_13 : decode cX11_smoothed 13 = .ok (.ireturn, 1) := by decide +kernel
theorem dX11_smoothedBack_0 : decode cX11_smoothedBack 0 = .ok (.aload_n 0, 1) := by decide +kernel
theorem dX11_smoothedBack_1 : decode cX11_smoothedBack 1 = .ok (.iload_n 1, 1) := by decide +kernel
theorem dX11_smoothedBack_2 : decode cX11_smoothedBack 2 = .ok (.invokevirtual 84, 3) := by decide +kernel
theorem dX11_smoothedBack_5 : decode cX11_smoothedBack 5 = .ok (.aload_n 0, 1) := by decide +kernel
theorem dX11_smoothedBack_6 : decode cX11_smoothedBack 6 = .ok (.getfield 10, 3) := by decide +kernel
theorem dX11_smoothedBack_9 : decode cX11_smoothedBack 9 = .ok (.iload_n 1, 1) := by decide +kernel
theorem dX11_smoothedBack_10 : decode cX11_smoothedBack 10 = .ok (.iconst 0, 1) := by decide +kernel
theorem dX11_smoothedBack_11 : decode cX11_smoothedBack 11 = .ok (.invokestatic 198, 3) := by decide +kernel
theorem dX11_smoothedBack_14 : decode cX11_smoothedBack 14 = .ok (.ireturn, 1) := by decide +kernel
theorem dX11_median_0 : decode cX11_median 0 = .ok (.aload_n 0, 1) := by decide +kernel
theorem dX11_median_1 : decode cX11_median 1 = .ok (.iload_n 1, 1) := by decide +kernel
theorem dX11_median_2 : decode cX11_median 2 = .ok (.invokevirtual 84, 3) := by decide +kernel
theorem dX11_median_5 : decode cX11_median 5 = .ok (.aload_n 0, 1) := by decide +kernel
theorem dX11_median_6 : decode cX11_median 6 = .ok (.getfield 10, 3) := by decide +kernel
theorem dX11_median_9 : decode cX11_median 9 = .ok (.iload_n 1, 1) := by decide +kernel
theorem dX11_median_10 : decode cX11_median 10 = .ok (.invokestatic 201, 3) := by decide +kernel
theorem dX11_median_13 : decode cX11_median 13 = .ok (.ireturn, 1) := by decide +kernel
theorem dX11_isCrease_0 : decode cX11_isCrease 0 = .ok (.aload_n 0, 1) := by decide +kernel
theorem dX11_isCrease_1 : decode cX11_isCrease 1 = .ok (.iload_n 1, 1) := by decide +kernel
theorem dX11_isCrease_2 : decode cX11_isCrease 2 = .ok (.invokevirtual 84, 3) := by decide +kernel
theorem dX11_isCrease_5 : decode cX11_isCrease 5 = .ok (.aload_n 0, 1) := by decide +kernel
theorem dX11_isCrease_6 : decode cX11_isCrease 6 = .ok (.getfield 10, 3) := by decide +kernel
theorem dX11_isCrease_9 : decode cX11_isCrease 9 = .ok (.iload_n 1, 1) := by decide +kernel
theorem dX11_isCrease_10 : decode cX11_isCrease 10 = .ok (.invokestatic 100, 3) := by decide +kernel
theorem dX11_isCrease_13 : decode cX11_isCrease 13 = .ok (.ireturn, 1) := by decide +kernel
theorem dX11_creases_0 : decode cX11_creases 0 = .ok (.aload_n 0, 1) := by decide +kernel
theorem dX11_creases_1 : decode cX11_creases 1 = .ok (.getfield 10, 3) := by decide +kernel
theorem dX11_creases_4 : decode cX11_creases 4 = .ok (.invokestatic 204, 3) := by decide +kernel
theorem dX11_creases_7 : decode cX11_creases 7 = .ok (.ireturn, 1) := by decide +kernel
theorem dX11_high_0 : decode cX11_high 0 = .ok (.aload_n 0, 1) := by decide +kernel
theorem dX11_high_1 : decode cX11_high 1 = .ok (.iload_n 1, 1) := by decide +kernel
theorem dX11_high_2 : decode cX11_high 2 = .ok (.invokevirtual 84, 3) := by decide +kernel
theorem dX11_high_5 : decode cX11_high 5 = .ok (.aload_n 0, 1) := by decide +kernel
theorem dX11_high_6 : decode cX11_high 6 = .ok (.getfield 10, 3) := by decide +kernel
theorem dX11_high_9 : decode cX11_high 9 = .ok (.iload_n 1, 1) := by decide +kernel
theorem dX11_high_10 : decode cX11_high 10 = .ok (.invokestatic 207, 3) := by decide +kernel
theorem dX11_high_13 : decode cX11_high 13 = .ok (.ireturn, 1) := by decide +kernel
theorem dX11_highByCandidates_0 : decode cX11_highByCandidates 0 = .ok (.aload_n 0, 1) := by decide +kernel
theorem dX11_highByCandidates_1 : decode cX11_highByCandidates 1 = .ok (.iload_n 1, 1) := by decide +kernel
theorem dX11_highByCandidates_2 : decode cX11_highByCandidates 2 = .ok (.invokevirtual 84, 3) := by decide +kernel
theorem dX11_highByCandidates_5 : decode cX11_highByCandidates 5 = .ok (.aload_n 0, 1) := by decide +kernel
theorem dX11_highByCandidates_6 : decode cX11_highByCandidates 6 = .ok (.getfield 50, 3) := by decide +kernel
theorem dX11_highByCandidates_9 : decode cX11_highByCandidates 9 = .ok (.aload_n 0, 1) := by decide +kernel
theorem dX11_highByCandidates_10 : decode cX11_highByCandidates 10 = .ok (.getfield 10, 3) := by decide +kernel
theorem dX11_highByCandidates_13 : decode cX11_highByCandidates 13 = .ok (.iload_n 1, 1) := by decide +kernel
theorem dX11_highByCandidates_14 : decode cX11_highByCandidates 14 = .ok (.invokevirtual 210, 3) := by decide +kernel
theorem dX11_highByCandidates_17 : decode cX11_highByCandidates 17 = .ok (.ireturn, 1) := by decide +kernel
theorem dX11_crossing_0 : decode cX11_crossing 0 = .ok (.aload_n 0, 1) := by decide +kernel
theorem dX11_crossing_1 : decode cX11_crossing 1 = .ok (.iload_n 1, 1) := by decide +kernel
theorem dX11_crossing_2 : decode cX11_crossing 2 = .ok (.invokevirtual 84, 3) := by decide +kernel
theorem dX11_crossing_5 : decode cX11_crossing 5 = .ok (.aload_n 0, 1) := by decide +kernel
theorem dX11_crossing_6 : decode cX11_crossing 6 = .ok (.getfield 10, 3) := by decide +kernel
theorem dX11_crossing_9 : decode cX11_crossing 9 = .ok (.iload_n 1, 1) := by decide +kernel
theorem dX11_crossing_10 : decode cX11_crossing 10 = .ok (.invokestatic 213, 3) := by decide +kernel
theorem dX11_crossing_13 : decode cX11_crossing 13 = .ok (.ireturn, 1) := by decide +kernel
theorem dX11_crossings_0 : decode cX11_crossings 0 = .ok (.aload_n 0, 1) := by decide +kernel
theorem dX11_crossings_1 : decode cX11_crossings 1 = .ok (.getfield 10, 3) := by decide +kernel
theorem dX11_crossings_4 : decode cX11_crossings 4 = .ok (.invokestatic 216, 3) := by decide +kernel
theorem dX11_crossings_7 : decode cX11_crossings 7 = .ok (.ireturn, 1) := by decide +kernel
theorem dX11_pieces_0 : decode cX11_pieces 0 = .ok (.aload_n 0, 1) := by decide +kernel
theorem dX11_pieces_1 : decode cX11_pieces 1 = .ok (.iload_n 1, 1) := by decide +kernel
theorem dX11_pieces_2 : decode cX11_pieces 2 = .ok (.invokevirtual 84, 3) := by decide +kernel
theorem dX11_pieces_5 : decode cX11_pieces 5 = .ok (.aload_n 0, 1) := by decide +kernel
theorem dX11_pieces_6 : decode cX11_pieces 6 = .ok (.getfield 57, 3) := by decide +kernel
theorem dX11_pieces_9 : decode cX11_pieces 9 = .ok (.aload_n 0, 1) := by decide +kernel
theorem dX11_pieces_10 : decode cX11_pieces 10 = .ok (.getfield 10, 3) := by decide +kernel
theorem dX11_pieces_13 : decode cX11_pieces 13 = .ok (.iload_n 1, 1) := by decide +kernel
theorem dX11_pieces_14 : decode cX11_pieces 14 = .ok (.invokevirtual 219, 3) := by decide +kernel
theorem dX11_pieces_17 : decode cX11_pieces 17 = .ok (.aload_n 0, 1) := by decide +kernel
theorem dX11_pieces_18 : decode cX11_pieces 18 = .ok (.getfield 57, 3) := by decide +kernel
theorem dX11_pieces_21 : decode cX11_pieces 21 = .ok (.getfield 222, 3) := by decide +kernel
theorem dX11_pieces_24 : decode cX11_pieces 24 = .ok (.ireturn, 1) := by decide +kernel
theorem dX11_worth_0 : decode cX11_worth 0 = .ok (.aload_n 0, 1) := by decide +kernel
theorem dX11_worth_1 : decode cX11_worth 1 = .ok (.iload_n 1, 1) := by decide +kernel
theorem dX11_worth_2 : decode cX11_worth 2 = .ok (.invokevirtual 84, 3) := by decide +kernel
theorem dX11_worth_5 : decode cX11_worth 5 = .ok (.aload_n 0, 1) := by decide +kernel
theorem dX11_worth_6 : decode cX11_worth 6 = .ok (.getfield 57, 3) := by decide +kernel
theorem dX11_worth_9 : decode cX11_worth 9 = .ok (.aload_n 0, 1) := by decide +kernel
theorem dX11_worth_10 : decode cX11_worth 10 = .ok (.getfield 10, 3) := by decide +kernel
theorem dX11_worth_13 : decode cX11_worth 13 = .ok (.iload_n 1, 1) := by decide +kernel
theorem dX11_worth_14 : decode cX11_worth 14 = .ok (.invokevirtual 219, 3) := by decide +kernel
theorem dX11_worth_17 : decode cX11_worth 17 = .ok (.aload_n 0, 1) := by decide +kernel
theorem dX11_worth_18 : decode cX11_worth 18 = .ok (.getfield 57, 3) := by decide +kernel
theorem dX11_worth_21 : decode cX11_worth 21 = .ok (.aload_n 0, 1) := by decide +kernel
theorem dX11_worth_22 : decode cX11_worth 22 = .ok (.getfield 10, 3) := by decide +kernel
theorem dX11_worth_25 : decode cX11_worth 25 = .ok (.iload_n 1, 1) := by decide +kernel
theorem dX11_worth_26 : decode cX11_worth 26 = .ok (.invokevirtual 225, 3) := by decide +kernel
theorem dX11_worth_29 : decode cX11_worth 29 = .ok (.lreturn, 1) := by decide +kernel
theorem dX11_greatestFall_0 : decode cX11_greatestFall 0 = .ok (.aload_n 0, 1) := by decide +kernel
theorem dX11_greatestFall_1 : decode cX11_greatestFall 1 = .ok (.getfield 10, 3) := by decide +kernel
theorem dX11_greatestFall_4 : decode cX11_greatestFall 4 = .ok (.invokestatic 229, 3) := by decide +kernel
theorem dX11_greatestFall_7 : decode cX11_greatestFall 7 = .ok (.ireturn, 1) := by decide +kernel
theorem dX11_greatestFallByPairs_0 : decode cX11_greatestFallByPairs 0 = .ok (.aload_n 0, 1) := by decide +kernel
theorem dX11_greatestFallByPairs_1 : decode cX11_greatestFallByPairs 1 = .ok (.getfield 10, 3) := by decide +kernel
theorem dX11_greatestFallByPairs_4 : decode cX11_greatestFallByPairs 4 = .ok (.invokestatic 232, 3) := by decide +kernel
theorem dX11_greatestFallByPairs_7 : decode cX11_greatestFallByPairs 7 = .ok (.ireturn, 1) := by decide +kernel
theorem dX11_longestRise_0 : decode cX11_longestRise 0 = .ok (.aload_n 0, 1) := by decide +kernel
theorem dX11_longestRise_1 : decode cX11_longestRise 1 = .ok (.getfield 10, 3) := by decide +kernel
theorem dX11_longestRise_4 : decode cX11_longestRise 4 = .ok (.invokestatic 235, 3) := by decide +kernel
theorem dX11_longestRise_7 : decode cX11_longestRise 7 = .ok (.ireturn, 1) := by decide +kernel
theorem dX11_season_0 : decode cX11_season 0 = .ok (.aload_n 0, 1) := by decide +kernel
theorem dX11_season_1 : decode cX11_season 1 = .ok (.getfield 10, 3) := by decide +kernel
theorem dX11_season_4 : decode cX11_season 4 = .ok (.getfield 133, 3) := by decide +kernel
theorem dX11_season_7 : decode cX11_season 7 = .ok (.ireturn, 1) := by decide +kernel
theorem dX11_error_0 : decode cX11_error 0 = .ok (.iload_n 1, 1) := by decide +kernel
theorem dX11_error_1 : decode cX11_error 1 = .ok (.iconst 0, 1) := by decide +kernel
theorem dX11_error_2 : decode cX11_error 2 = .ok (.iconst 3, 1) := by decide +kernel
theorem dX11_error_3 : decode cX11_error 3 = .ok (.invokestatic 61, 3) := by decide +kernel
theorem dX11_error_6 : decode cX11_error 6 = .ok (.aload_n 0, 1) := by decide +kernel
theorem dX11_error_7 : decode cX11_error 7 = .ok (.iconst 2, 1) := by decide +kernel
theorem dX11_error_8 : decode cX11_error 8 = .ok (.invokevirtual 256, 3) := by decide +kernel
theorem dX11_error_11 : decode cX11_error 11 = .ok (.aload_n 0, 1) := by decide +kernel
theorem dX11_error_12 : decode cX11_error 12 = .ok (.getfield 10, 3) := by decide +kernel
theorem dX11_error_15 : decode cX11_error 15 = .ok (.iload_n 1, 1) := by decide +kernel
theorem dX11_error_16 : decode cX11_error 16 = .ok (.invokestatic 264, 3) := by decide +kernel
theorem dX11_error_19 : decode cX11_error 19 = .ok (.ireturn, 1) := by decide +kernel
theorem dX11_bestMethod_0 : decode cX11_bestMethod 0 = .ok (.aload_n 0, 1) := by decide +kernel
theorem dX11_bestMethod_1 : decode cX11_bestMethod 1 = .ok (.iconst 2, 1) := by decide +kernel
theorem dX11_bestMethod_2 : decode cX11_bestMethod 2 = .ok (.invokevirtual 256, 3) := by decide +kernel
theorem dX11_bestMethod_5 : decode cX11_bestMethod 5 = .ok (.aload_n 0, 1) := by decide +kernel
theorem dX11_bestMethod_6 : decode cX11_bestMethod 6 = .ok (.getfield 10, 3) := by decide +kernel
theorem dX11_bestMethod_9 : decode cX11_bestMethod 9 = .ok (.invokestatic 267, 3) := by decide +kernel
theorem dX11_bestMethod_12 : decode cX11_bestMethod 12 = .ok (.ireturn, 1) := by decide +kernel
theorem dX11_smoothShare_0 : decode cX11_smoothShare 0 = .ok (.aload_n 0, 1) := by decide +kernel
theorem dX11_smoothShare_1 : decode cX11_smoothShare 1 = .ok (.getfield 10, 3) := by decide +kernel
theorem dX11_smoothShare_4 : decode cX11_smoothShare 4 = .ok (.getfield 65, 3) := by decide +kernel
theorem dX11_smoothShare_7 : decode cX11_smoothShare 7 = .ok (.ifCond .ne 5, 3) := by decide +kernel
theorem dX11_smoothShare_10 : decode cX11_smoothShare 10 = .ok (.dconst 1, 1) := by decide +kernel
theorem dX11_smoothShare_11 : decode cX11_smoothShare 11 = .ok (.dreturn, 1) := by decide +kernel
theorem dX11_smoothShare_12 : decode cX11_smoothShare 12 = .ok (.aload_n 0, 1) := by decide +kernel
theorem dX11_smoothShare_13 : decode cX11_smoothShare 13 = .ok (.getfield 10, 3) := by decide +kernel
theorem dX11_smoothShare_16 : decode cX11_smoothShare 16 = .ok (.getfield 65, 3) := by decide +kernel
theorem dX11_smoothShare_19 : decode cX11_smoothShare 19 = .ok (.aload_n 0, 1) := by decide +kernel
theorem dX11_smoothShare_20 : decode cX11_smoothShare 20 = .ok (.getfield 10, 3) := by decide +kernel
theorem dX11_smoothShare_23 : decode cX11_smoothShare 23 = .ok (.invokestatic 204, 3) := by decide +kernel
theorem dX11_smoothShare_26 : decode cX11_smoothShare 26 = .ok (.isub, 1) := by decide +kernel
theorem dX11_smoothShare_27 : decode cX11_smoothShare 27 = .ok (.i2d, 1) := by decide +kernel
theorem dX11_smoothShare_28 : decode cX11_smoothShare 28 = .ok (.aload_n 0, 1) := by decide +kernel
theorem dX11_smoothShare_29 : decode cX11_smoothShare 29 = .ok (.getfield 10, 3) := by decide +kernel
theorem dX11_smoothShare_32 : decode cX11_smoothShare 32 = .ok (.getfield 65, 3) := by decide +kernel
theorem dX11_smoothShare_35 : decode cX11_smoothShare 35 = .ok (.i2d, 1) := by decide +kernel
theorem dX11_smoothShare_36 : decode cX11_smoothShare 36 = .ok (.ddiv, 1) := by decide +kernel
theorem dX11_smoothShare_37 : decode cX11_smoothShare 37 = .ok (.dreturn, 1) := by decide +kernel
theorem dX11_divided_0 : decode cX11_divided 0 = .ok (.lload_n 2, 1) := by decide +kernel
theorem dX11_divided_1 : decode cX11_divided 1 = .ok (.lconst 0, 1) := by decide +kernel
theorem dX11_divided_2 : decode cX11_divided 2 = .ok (.lcmp, 1) := by decide +kernel
theorem dX11_divided_3 : decode cX11_divided 3 = .ok (.ifCond .le 9, 3) := by decide +kernel
theorem dX11_divided_6 : decode cX11_divided 6 = .ok (.lload_n 0, 1) := by decide +kernel
theorem dX11_divided_7 : decode cX11_divided 7 = .ok (.lload_n 2, 1) := by decide +kernel
theorem dX11_divided_8 : decode cX11_divided 8 = .ok (.ldiv, 1) := by decide +kernel
theorem dX11_divided_9 : decode cX11_divided 9 = .ok (.goto 4, 3) := by decide +kernel
theorem dX11_divided_12 : decode cX11_divided 12 = .ok (.lconst 0, 1) := by decide +kernel
theorem dX11_divided_13 : decode cX11_divided 13 = .ok (.lreturn, 1) := by decide +kernel
theorem dX11_requireRange_0 : decode cX11_requireRange 0 = .ok (.iload_n 0, 1) := by decide +kernel
theorem dX11_requireRange_1 : decode cX11_requireRange 1 = .ok (.iload_n 1, 1) := by decide +kernel
theorem dX11_requireRange_2 : decode cX11_requireRange 2 = .ok (.if_icmp .lt 8, 3) := by decide +kernel
theorem dX11_requireRange_5 : decode cX11_requireRange 5 = .ok (.iload_n 0, 1) := by decide +kernel
theorem dX11_requireRange_6 : decode cX11_requireRange 6 = .ok (.iload_n 2, 1) := by decide +kernel
theorem dX11_requireRange_7 : decode cX11_requireRange 7 = .ok (.if_icmp .le 14, 3) := by decide +kernel
theorem dX11_requireRange_10 : decode cX11_requireRange 10 = .ok (.new 116, 3) := by decide +kernel
theorem dX11_requireRange_13 : decode cX11_requireRange 13 = .ok (.dup, 1) := by decide +kernel
theorem dX11_requireRange_14 : decode cX11_requireRange 14 = .ok (.ldc_w 326, 3) := by decide +kernel
theorem dX11_requireRange_17 : decode cX11_requireRange 17 = .ok (.invokespecial 120, 3) := by decide +kernel
theorem dX11_requireRange_20 : decode cX11_requireRange 20 = .ok (.athrow, 1) := by decide +kernel
theorem dX11_requireRange_21 : decode cX11_requireRange 21 = .ok (.return_, 1) := by decide +kernel
theorem dX11_requireDay_0 : decode cX11_requireDay 0 = .ok (.aload_n 0, 1) := by decide +kernel
theorem dX11_requireDay_1 : decode cX11_requireDay 1 = .ok (.getfield 10, 3) := by decide +kernel
theorem dX11_requireDay_4 : decode cX11_requireDay 4 = .ok (.iload_n 1, 1) := by decide +kernel
theorem dX11_requireDay_5 : decode cX11_requireDay 5 = .ok (.invokevirtual 328, 3) := by decide +kernel
theorem dX11_requireDay_8 : decode cX11_requireDay 8 = .ok (.ifCond .ne 14, 3) := by decide +kernel
theorem dX11_requireDay_11 : decode cX11_requireDay 11 = .ok (.new 238, 3) := by decide +kernel
theorem dX11_requireDay_14 : decode cX11_requireDay 14 = .ok (.dup, 1) := by decide +kernel
theorem dX11_requireDay_15 : decode cX11_requireDay 15 = .ok (.ldc_w 332, 3) := by decide +kernel
theorem dX11_requireDay_18 : decode cX11_requireDay 18 = .ok (.invokespecial 242, 3) := by decide +kernel
theorem dX11_requireDay_21 : decode cX11_requireDay 21 = .ok (.athrow, 1) := by decide +kernel
theorem dX11_requireDay_22 : decode cX11_requireDay 22 = .ok (.return_, 1) := by decide +kernel
theorem dX11_requirePrices_0 : decode cX11_requirePrices 0 = .ok (.aload_n 0, 1) := by decide +kernel
theorem dX11_requirePrices_1 : decode cX11_requirePrices 1 = .ok (.getfield 10, 3) := by decide +kernel
theorem dX11_requirePrices_4 : decode cX11_requirePrices 4 = .ok (.getfield 65, 3) := by decide +kernel
theorem dX11_requirePrices_7 : decode cX11_requirePrices 7 = .ok (.iload_n 1, 1) := by decide +kernel
theorem dX11_requirePrices_8 : decode cX11_requirePrices 8 = .ok (.if_icmp .ge 14, 3) := by decide +kernel
theorem dX11_requirePrices_11 : decode cX11_requirePrices 11 = .ok (.new 69, 3) := by decide +kernel
theorem dX11_requirePrices_14 : decode cX11_requirePrices 14 = .ok (.dup, 1) := by decide +kernel
theorem dX11_requirePrices_15 : decode cX11_requirePrices 15 = .ok (.ldc_w 334, 3) := by decide +kernel
theorem dX11_requirePrices_18 : decode cX11_requirePrices 18 = .ok (.invokespecial 73, 3) := by decide +kernel
theorem dX11_requirePrices_21 : decode cX11_requirePrices 21 = .ok (.athrow, 1) := by decide +kernel
theorem dX11_requirePrices_22 : decode cX11_requirePrices 22 = .ok (.return_, 1) := by decide +kernel
theorem dX11_requireStop_0 : decode cX11_requireStop 0 = .ok (.aload_n 0, 1) := by decide +kernel
theorem dX11_requireStop_1 : decode cX11_requireStop 1 = .ok (.getfield 10, 3) := by decide +kernel
theorem dX11_requireStop_4 : decode cX11_requireStop 4 = .ok (.getfield 157, 3) := by decide +kernel
theorem dX11_requireStop_7 : decode cX11_requireStop 7 = .ok (.ifCond .ne 14, 3) := by decide +kernel
theorem dX11_requireStop_10 : decode cX11_requireStop 10 = .ok (.new 69, 3) := by decide +kernel
theorem dX11_requireStop_13 : decode cX11_requireStop 13 = .ok (.dup, 1) := by decide +kernel
theorem dX11_requireStop_14 : decode cX11_requireStop 14 = .ok (.ldc_w 336, 3) := by decide +kernel
theorem dX11_requireStop_17 : decode cX11_requireStop 17 = .ok (.invokespecial 73, 3) := by decide +kernel
theorem dX11_requireStop_20 : decode cX11_requireStop 20 = .ok (.athrow, 1) := by decide +kernel
theorem dX11_requireStop_21 : decode cX11_requireStop 21 = .ok (.return_, 1) := by decide +kernel
theorem dJ9_abs_0f7a4_0 : decode cJ9_abs_0f7a4 0 = .ok (.iload_n 0, 1) := by decide +kernel
theorem dJ9_abs_0f7a4_1 : decode cJ9_abs_0f7a4 1 = .ok (.ifCond .ge 8, 3) := by decide +kernel
theorem dJ9_abs_0f7a4_4 : decode cJ9_abs_0f7a4 4 = .ok (.iload_n 0, 1) := by decide +kernel
theorem dJ9_abs_0f7a4_5 : decode cJ9_abs_0f7a4 5 = .ok (.ineg, 1) := by decide +kernel
theorem dJ9_abs_0f7a4_6 : decode cJ9_abs_0f7a4 6 = .ok (.goto 4, 3) := by decide +kernel
theorem dJ9_abs_0f7a4_9 : decode cJ9_abs_0f7a4 9 = .ok (.iload_n 0, 1) := by decide +kernel
theorem dJ9_abs_0f7a4_10 : decode cJ9_abs_0f7a4 10 = .ok (.ireturn, 1) := by decide +kernel
theorem dJ9_max_7cf53_0 : decode cJ9_max_7cf53 0 = .ok (.iload_n 0, 1) := by decide +kernel
theorem dJ9_max_7cf53_1 : decode cJ9_max_7cf53 1 = .ok (.iload_n 1, 1) := by decide +kernel
theorem dJ9_max_7cf53_2 : decode cJ9_max_7cf53 2 = .ok (.if_icmp .lt 7, 3) := by decide +kernel
theorem dJ9_max_7cf53_5 : decode cJ9_max_7cf53 5 = .ok (.iload_n 0, 1) := by decide +kernel
theorem dJ9_max_7cf53_6 : decode cJ9_max_7cf53 6 = .ok (.goto 4, 3) := by decide +kernel
theorem dJ9_max_7cf53_9 : decode cJ9_max_7cf53 9 = .ok (.iload_n 1, 1) := by decide +kernel
theorem dJ9_max_7cf53_10 : decode cJ9_max_7cf53 10 = .ok (.ireturn, 1) := by decide +kernel
theorem dJ9_min_f86c9_0 : decode cJ9_min_f86c9 0 = .ok (.lload_n 0, 1) := by decide +kernel
theorem dJ9_min_f86c9_1 : decode cJ9_min_f86c9 1 = .ok (.lload_n 2, 1) := by decide +kernel
theorem dJ9_min_f86c9_2 : decode cJ9_min_f86c9 2 = .ok (.lcmp, 1) := by decide +kernel
theorem dJ9_min_f86c9_3 : decode cJ9_min_f86c9 3 = .ok (.ifCond .gt 7, 3) := by decide +kernel
theorem dJ9_min_f86c9_6 : decode cJ9_min_f86c9 6 = .ok (.lload_n 0, 1) := by decide +kernel
theorem dJ9_min_f86c9_7 : decode cJ9_min_f86c9 7 = .ok (.goto 4, 3) := by decide +kernel
theorem dJ9_min_f86c9_10 : decode cJ9_min_f86c9 10 = .ok (.lload_n 2, 1) := by decide +kernel
theorem dJ9_min_f86c9_11 : decode cJ9_min_f86c9 11 = .ok (.lreturn, 1) := by decide +kernel
theorem dL_cell_0 : decode cL_cell 0 = .ok (.iload_n 1, 1) := by decide +kernel
theorem dL_cell_1 : decode cL_cell 1 = .ok (.aload_n 0, 1) := by decide +kernel
theorem dL_cell_2 : decode cL_cell 2 = .ok (.arraylength, 1) := by decide +kernel
theorem dL_cell_3 : decode cL_cell 3 = .ok (.if_icmp .ge 9, 3) := by decide +kernel
theorem dL_cell_6 : decode cL_cell 6 = .ok (.aload_n 0, 1) := by decide +kernel
theorem dL_cell_7 : decode cL_cell 7 = .ok (.iload_n 1, 1) := by decide +kernel
theorem dL_cell_8 : decode cL_cell 8 = .ok (.iaload, 1) := by decide +kernel
theorem dL_cell_9 : decode cL_cell 9 = .ok (.goto 15, 3) := by decide +kernel
theorem dL_cell_12 : decode cL_cell 12 = .ok (.sipush 7919, 3) := by decide +kernel
theorem dL_cell_15 : decode cL_cell 15 = .ok (.iload_n 1, 1) := by decide +kernel
theorem dL_cell_16 : decode cL_cell 16 = .ok (.iconst 3, 1) := by decide +kernel
theorem dL_cell_17 : decode cL_cell 17 = .ok (.iadd, 1) := by decide +kernel
theorem dL_cell_18 : decode cL_cell 18 = .ok (.imul, 1) := by decide +kernel
theorem dL_cell_19 : decode cL_cell 19 = .ok (.iload_n 1, 1) := by decide +kernel
theorem dL_cell_20 : decode cL_cell 20 = .ok (.bipush 11, 2) := by decide +kernel
theorem dL_cell_22 : decode cL_cell 22 = .ok (.iadd, 1) := by decide +kernel
theorem dL_cell_23 : decode cL_cell 23 = .ok (.imul, 1) := by decide +kernel
theorem dL_cell_24 : decode cL_cell 24 = .ok (.ireturn, 1) := by decide +kernel
theorem dL_low_0 : decode cL_low 0 = .ok (.iload_n 0, 1) := by decide +kernel
theorem dL_low_1 : decode cL_low 1 = .ok (.ldc 7, 2) := by decide +kernel
theorem dL_low_3 : decode cL_low 3 = .ok (.iand, 1) := by decide +kernel
theorem dL_low_4 : decode cL_low 4 = .ok (.iload_n 1, 1) := by decide +kernel
theorem dL_low_5 : decode cL_low 5 = .ok (.irem, 1) := by decide +kernel
theorem dL_low_6 : decode cL_low 6 = .ok (.ireturn, 1) := by decide +kernel
theorem dL_told_0 : decode cL_told 0 = .ok (.ldc2_w 8, 3) := by decide +kernel
theorem dL_told_3 : decode cL_told 3 = .ok (.lstore_n 1, 1) := by decide +kernel
theorem dL_told_4 : decode cL_told 4 = .ok (.ldc2_w 10, 3) := by decide +kernel
theorem dL_told_7 : decode cL_told 7 = .ok (.ldc2_w 10, 3) := by decide +kernel
theorem dL_told_10 : decode cL_told 10 = .ok (.ldc2_w 10, 3) := by decide +kernel
theorem dL_told_13 : decode cL_told 13 = .ok (.lload_n 1, 1) := by decide +kernel
theorem dL_told_14 : decode cL_told 14 = .ok (.lmul, 1) := by decide +kernel
theorem dL_told_15 : decode cL_told 15 = .ok (.aload_n 0, 1) := by decide +kernel
theorem dL_told_16 : decode cL_told 16 = .ok (.invokevirtual 12, 3) := by decide +kernel
theorem dL_told_19 : decode cL_told 19 = .ok (.i2l, 1) := by decide +kernel
theorem dL_told_20 : decode cL_told 20 = .ok (.ladd, 1) := by decide +kernel
theorem dL_told_21 : decode cL_told 21 = .ok (.lmul, 1) := by decide +kernel
theorem dL_told_22 : decode cL_told 22 = .ok (.aload_n 0, 1) := by decide +kernel
theorem dL_told_23 : decode cL_told 23 = .ok (.invokevirtual 18, 3) := by decide +kernel
theorem dL_told_26 : decode cL_told 26 = .ok (.i2l, 1) := by decide +kernel
theorem dL_told_27 : decode cL_told 27 = .ok (.ladd, 1) := by decide +kernel
theorem dL_told_28 : decode cL_told 28 = .ok (.lmul, 1) := by decide +kernel
theorem dL_told_29 : decode cL_told 29 = .ok (.aload_n 0, 1) := by decide +kernel
theorem dL_told_30 : decode cL_told 30 = .ok (.invokevirtual 21, 3) := by decide +kernel
theorem dL_told_33 : decode cL_told 33 = .ok (.i2l, 1) := by decide +kernel
theorem dL_told_34 : decode cL_told 34 = .ok (.ladd, 1) := by decide +kernel
theorem dL_told_35 : decode cL_told 35 = .ok (.lstore_n 1, 1) := by decide +kernel
theorem dL_told_36 : decode cL_told 36 = .ok (.ldc2_w 10, 3) := by decide +kernel
theorem dL_told_39 : decode cL_told 39 = .ok (.ldc2_w 10, 3) := by decide +kernel
theorem dL_told_42 : decode cL_told 42 = .ok (.lload_n 1, 1) := by decide +kernel
theorem dL_told_43 : decode cL_told 43 = .ok (.lmul, 1) := by decide +kernel
theorem dL_told_44 : decode cL_told 44 = .ok (.aload_n 0, 1) := by decide +kernel
theorem dL_told_45 : decode cL_told 45 = .ok (.invokevirtual 24, 3) := by decide +kernel
theorem dL_told_48 : decode cL_told 48 = .ok (.i2l, 1) := by decide +kernel
theorem dL_told_49 : decode cL_told 49 = .ok (.ladd, 1) := by decide +kernel
theorem dL_told_50 : decode cL_told 50 = .ok (.lmul, 1) := by decide +kernel
theorem dL_told_51 : decode cL_told 51 = .ok (.aload_n 0, 1) := by decide +kernel
theorem dL_told_52 : decode cL_told 52 = .ok (.invokevirtual 27, 3) := by decide +kernel
theorem dL_told_55 : decode cL_told 55 = .ok (.i2l, 1) := by decide +kernel
theorem dL_told_56 : decode cL_told 56 = .ok (.ladd, 1) := by decide +kernel
theorem dL_told_57 : decode cL_told 57 = .ok (.lstore_n 1, 1) := by decide +kernel
theorem dL_told_58 : decode cL_told 58 = .ok (.iconst 0, 1) := by decide +kernel
theorem dL_told_59 : decode cL_told 59 = .ok (.istore_n 3, 1) := by decide +kernel
theorem dL_told_60 : decode cL_told 60 = .ok (.iload_n 3, 1) := by decide +kernel
theorem dL_told_61 : decode cL_told 61 = .ok (.aload_n 0, 1) := by decide +kernel
theorem dL_told_62 : decode cL_told 62 = .ok (.invokevirtual 12, 3) := by decide +kernel
theorem dL_told_65 : decode cL_told 65 = .ok (.if_icmp .ge 33, 3) := by decide +kernel
theorem dL_told_68 : decode cL_told 68 = .ok (.ldc2_w 10, 3) := by decide +kernel
theorem dL_told_71 : decode cL_told 71 = .ok (.ldc2_w 10, 3) := by decide +kernel
theorem dL_told_74 : decode cL_told 74 = .ok (.lload_n 1, 1) := by decide +kernel
theorem dL_told_75 : decode cL_told 75 = .ok (.lmul, 1) := by decide +kernel
theorem dL_told_76 : decode cL_told 76 = .ok (.aload_n 0, 1) := by decide +kernel
theorem dL_told_77 : decode cL_told 77 = .ok (.iload_n 3, 1) := by decide +kernel
theorem dL_told_78 : decode cL_told 78 = .ok (.invokevirtual 30, 3) := by decide +kernel
theorem dL_told_81 : decode cL_told 81 = .ok (.i2l, 1) := by decide +kernel
theorem dL_told_82 : decode cL_told 82 = .ok (.ladd, 1) := by decide +kernel
theorem dL_told_83 : decode cL_told 83 = .ok (.lmul, 1) := by decide +kernel
theorem dL_told_84 : decode cL_told 84 = .ok (.aload_n 0, 1) := by decide +kernel
theorem dL_told_85 : decode cL_told 85 = .ok (.iload_n 3, 1) := by decide +kernel
theorem dL_told_86 : decode cL_told 86 = .ok (.invokevirtual 34, 3) := by decide +kernel
theorem dL_told_89 : decode cL_told 89 = .ok (.i2l, 1) := by decide +kernel
theorem dL_told_90 : decode cL_told 90 = .ok (.ladd, 1) := by decide +kernel
theorem dL_told_91 : decode cL_told 91 = .ok (.lstore_n 1, 1) := by decide +kernel
theorem dL_told_92 : decode cL_told 92 = .ok (.iinc 3 1, 3) := by decide +kernel
theorem dL_told_95 : decode cL_told 95 = .ok (.goto (-35), 3) := by decide +kernel
theorem dL_told_98 : decode cL_told 98 = .ok (.ldc2_w 10, 3) := by decide +kernel
theorem dL_told_101 : decode cL_told 101 = .ok (.lload_n 1, 1) := by decide +kernel
theorem dL_told_102 : decode cL_told 102 = .ok (.lmul, 1) := by decide +kernel
theorem dL_told_103 : decode cL_told 103 = .ok (.aload_n 0, 1) := by decide +kernel
theorem dL_told_104 : decode cL_told 104 = .ok (.invokevirtual 37, 3) := by decide +kernel
theorem dL_told_107 : decode cL_told 107 = .ok (.ifCond .eq 20, 3) := by decide +kernel
theorem dL_told_110 : decode cL_told 110 = .ok (.bipush 10, 2) := by decide +kernel
theorem dL_told_112 : decode cL_told 112 = .ok (.iconst 1, 1) := by decide +kernel
theorem dL_told_113 : decode cL_told 113 = .ok (.aload_n 0, 1) := by decide +kernel
theorem dL_told_114 : decode cL_told 114 = .ok (.invokevirtual 41, 3) := by decide +kernel
theorem dL_told_117 : decode cL_told 117 = .ok (.iadd, 1) := by decide +kernel
theorem dL_told_118 : decode cL_told 118 = .ok (.imul, 1) := by decide +kernel
theorem dL_told_119 : decode cL_told 119 = .ok (.aload_n 0, 1) := by decide +kernel
theorem dL_told_120 : decode cL_told 120 = .ok (.invokevirtual 44, 3) := by decide +kernel
theorem dL_told_123 : decode cL_told 123 = .ok (.iadd, 1) := by decide +kernel
theorem dL_told_124 : decode cL_told 124 = .ok (.goto 4, 3) := by decide +kernel
theorem dL_told_127 : decode cL_told 127 = .ok (.iconst 0, 1) := by decide +kernel
theorem dL_told_128 : decode cL_told 128 = .ok (.i2l, 1) := by decide +kernel
theorem dL_told_129 : decode cL_told 129 = .ok (.ladd, 1) := by decide +kernel
theorem dL_told_130 : decode cL_told 130 = .ok (.lreturn, 1) := by decide +kernel
theorem dL_price_0 : decode cL_price 0 = .ok (.iconst 1, 1) := by decide +kernel
theorem dL_price_1 : decode cL_price 1 = .ok (.iload_n 0, 1) := by decide +kernel
theorem dL_price_2 : decode cL_price 2 = .ok (.iload_n 0, 1) := by decide +kernel
theorem dL_price_3 : decode cL_price 3 = .ok (.bipush 20, 2) := by decide +kernel
theorem dL_price_5 : decode cL_price 5 = .ok (.ishr, 1) := by decide +kernel
theorem dL_price_6 : decode cL_price 6 = .ok (.iconst 1, 1) := by decide +kernel
theorem dL_price_7 : decode cL_price 7 = .ok (.iand, 1) := by decide +kernel
theorem dL_price_8 : decode cL_price 8 = .ok (.ifCond .ne 9, 3) := by decide +kernel
theorem dL_price_11 : decode cL_price 11 = .ok (.sipush 300, 3) := by decide +kernel
theorem dL_price_14 : decode cL_price 14 = .ok (.goto 6, 3) := by decide +kernel
theorem dL_price_17 : decode cL_price 17 = .ok (.sipush 9999, 3) := by decide +kernel
theorem dL_price_20 : decode cL_price 20 = .ok (.invokestatic 47, 3) := by decide +kernel
theorem dL_price_23 : decode cL_price 23 = .ok (.iadd, 1) := by decide +kernel
theorem dL_price_24 : decode cL_price 24 = .ok (.ireturn, 1) := by decide +kernel
theorem dL_act_0 : decode cL_act 0 = .ok (.aload_n 0, 1) := by decide +kernel
theorem dL_act_1 : decode cL_act 1 = .ok (.invokevirtual 12, 3) := by decide +kernel
theorem dL_act_4 : decode cL_act 4 = .ok (.istore_n 3, 1) := by decide +kernel
theorem dL_act_5 : decode cL_act 5 = .ok (.iload_n 3, 1) := by decide +kernel
theorem dL_act_6 : decode cL_act 6 = .ok (.ifCond .ne 7, 3) := by decide +kernel
theorem dL_act_9 : decode cL_act 9 = .ok (.iconst (-1), 1) := by decide +kernel
theorem dL_act_10 : decode cL_act 10 = .ok (.goto 10, 3) := by decide +kernel
theorem dL_act_13 : decode cL_act 13 = .ok (.iload_n 1, 1) := by decide +kernel
theorem dL_act_14 : decode cL_act 14 = .ok (.iconst 4, 1) := by decide +kernel
theorem dL_act_15 : decode cL_act 15 = .ok (.ishr, 1) := by decide +kernel
theorem dL_act_16 : decode cL_act 16 = .ok (.iload_n 3, 1) := by decide +kernel
theorem dL_act_17 : decode cL_act 17 = .ok (.invokestatic 47, 3) := by decide +kernel
theorem dL_act_20 : decode cL_act 20 = .ok (.istore 4, 2) := by decide +kernel
theorem dL_act_22 : decode cL_act 22 = .ok (.iload_n 1, 1) := by decide +kernel
theorem dL_act_23 : decode cL_act 23 = .ok (.bipush 15, 2) := by decide +kernel
theorem dL_act_25 : decode cL_act 25 = .ok (.iand, 1) := by decide +kernel
theorem dL_act_26 : decode cL_act 26 = .ok (.tableswitch 240 0 14 #[74, 74, 74, 74, 74, 74, 74, 93, 113, 134, 159, 166, 166, 198, 211], 74) := by decide +kernel
theorem dL_act_100 : decode cL_act 100 = .ok (.iload_n 3, 1) := by decide +kernel
theorem dL_act_101 : decode cL_act 101 = .ok (.bipush 30, 2) := by decide +kernel
theorem dL_act_103 : decode cL_act 103 = .ok (.if_icmp .ne 5, 3) := by decide +kernel
theorem dL_act_106 : decode cL_act 106 = .ok (.iconst 0, 1) := by decide +kernel
theorem dL_act_107 : decode cL_act 107 = .ok (.ireturn, 1) := by decide +kernel
theorem dL_act_108 : decode cL_act 108 = .ok (.aload_n 0, 1) := by decide +kernel
theorem dL_act_109 : decode cL_act 109 = .ok (.iload_n 2, 1) := by decide +kernel
theorem dL_act_110 : decode cL_act 110 = .ok (.invokestatic 53, 3) := by decide +kernel
theorem dL_act_113 : decode cL_act 113 = .ok (.invokevirtual 56, 3) := by decide +kernel
theorem dL_act_116 : decode cL_act 116 = .ok (.pop, 1) := by decide +kernel
theorem dL_act_117 : decode cL_act 117 = .ok (.iconst 1, 1) := by decide +kernel
theorem dL_act_118 : decode cL_act 118 = .ok (.ireturn, 1) := by decide +kernel
theorem dL_act_119 : decode cL_act 119 = .ok (.iload 4, 2) := by decide +kernel
theorem dL_act_121 : decode cL_act 121 = .ok (.ifCond .ge 5, 3) := by decide +kernel
theorem dL_act_124 : decode cL_act 124 = .ok (.iconst 0, 1) := by decide +kernel
theorem dL_act_125 : decode cL_act 125 = .ok (.ireturn, 1) := by decide +kernel
theorem dL_act_126 : decode cL_act 126 = .ok (.aload_n 0, 1) := by decide +kernel
theorem dL_act_127 : decode cL_act 127 = .ok (.iload 4, 2) := by decide +kernel
theorem dL_act_129 : decode cL_act 129 = .ok (.iload_n 2, 1) := by decide +kernel
theorem dL_act_130 : decode cL_act 130 = .ok (.invokestatic 53, 3) := by decide +kernel
theorem dL_act_133 : decode cL_act 133 = .ok (.invokevirtual 59, 3) := by decide +kernel
theorem dL_act_136 : decode cL_act 136 = .ok (.pop, 1) := by decide +kernel
theorem dL_act_137 : decode cL_act 137 = .ok (.iconst 1, 1) := by decide +kernel
theorem dL_act_138 : decode cL_act 138 = .ok (.ireturn, 1) := by decide +kernel
theorem dL_act_139 : decode cL_act 139 = .ok (.iload_n 3, 1) := by decide +kernel
theorem dL_act_140 : decode cL_act 140 = .ok (.iconst 3, 1) := by decide +kernel
theorem dL_act_141 : decode cL_act 141 = .ok (.if_icmp .ge 5, 3) := by decide +kernel
theorem dL_act_144 : decode cL_act 144 = .ok (.iconst 0, 1) := by decide +kernel
theorem dL_act_145 : decode cL_act 145 = .ok (.ireturn, 1) := by decide +kernel
theorem dL_act_146 : decode cL_act 146 = .ok (.aload_n 0, 1) := by decide +kernel
theorem dL_act_147 : decode cL_act 147 = .ok (.iconst 1, 1) := by decide +kernel
theorem dL_act_148 : decode cL_act 148 = .ok (.iload_n 2, 1) := by decide +kernel
theorem dL_act_149 : decode cL_act 149 = .ok (.iconst 3, 1) := by decide +kernel
theorem dL_act_150 : decode cL_act 150 = .ok (.invokestatic 47, 3) := by decide +kernel
theorem dL_act_153 : decode cL_act 153 = .ok (.iadd, 1) := by decide +kernel
theorem dL_act_154 : decode cL_act 154 = .ok (.invokevirtual 62, 3) := by decide +kernel
theorem dL_act_157 : decode cL_act 157 = .ok (.pop, 1) := by decide +kernel
theorem dL_act_158 : decode cL_act 158 = .ok (.iconst 1, 1) := by decide +kernel
theorem dL_act_159 : decode cL_act 159 = .ok (.ireturn, 1) := by decide +kernel
theorem dL_act_160 : decode cL_act 160 = .ok (.iload 4, 2) := by decide +kernel
theorem dL_act_162 : decode cL_act 162 = .ok (.ifCond .lt 12, 3) := by decide +kernel
theorem dL_act_165 : decode cL_act 165 = .ok (.aload_n 0, 1) := by decide +kernel
theorem dL_act_166 : decode cL_act 166 = .ok (.iload 4, 2) := by decide +kernel
theorem dL_act_168 : decode cL_act 168 = .ok (.invokevirtual 65, 3) := by decide +kernel
theorem dL_act_171 : decode cL_act 171 = .ok (.ifCond .ne 5, 3) := by decide +kernel
theorem dL_act_174 : decode cL_act 174 = .ok (.iconst 0, 1) := by decide +kernel
theorem dL_act_175 : decode cL_act 175 = .ok (.ireturn, 1) := by decide +kernel
theorem dL_act_176 : decode cL_act 176 = .ok (.aload_n 0, 1) := by decide +kernel
theorem dL_act_177 : decode cL_act 177 = .ok (.iload 4, 2) := by decide +kernel
theorem dL_act_179 : decode cL_act 179 = .ok (.invokevirtual 69, 3) := by decide +kernel
theorem dL_act_182 : decode cL_act 182 = .ok (.pop, 1) := by decide +kernel
theorem dL_act_183 : decode cL_act 183 = .ok (.iconst 1, 1) := by decide +kernel
theorem dL_act_184 : decode cL_act 184 = .ok (.ireturn, 1) := by decide +kernel
theorem dL_act_185 : decode cL_act 185 = .ok (.aload_n 0, 1) := by decide +kernel
theorem dL_act_186 : decode cL_act 186 = .ok (.invokevirtual 72, 3) := by decide +kernel
theorem dL_act_189 : decode cL_act 189 = .ok (.pop, 1) := by decide +kernel
theorem dL_act_190 : decode cL_act 190 = .ok (.iconst 1, 1) := by decide +kernel
theorem dL_act_191 : decode cL_act 191 = .ok (.ireturn, 1) := by decide +kernel
theorem dL_act_192 : decode cL_act 192 = .ok (.iconst 1, 1) := by decide +kernel
theorem dL_act_193 : decode cL_act 193 = .ok (.iload_n 2, 1) := by decide +kernel
theorem dL_act_194 : decode cL_act 194 = .ok (.bipush 10, 2) := by decide +kernel
theorem dL_act_196 : decode cL_act 196 = .ok (.invokestatic 47, 3) := by decide +kernel
theorem dL_act_199 : decode cL_act 199 = .ok (.iadd, 1) := by decide +kernel
theorem dL_act_200 : decode cL_act 200 = .ok (.istore 5, 2) := by decide +kernel
theorem dL_act_202 : decode cL_act 202 = .ok (.aload_n 0, 1) := by decide +kernel
theorem dL_act_203 : decode cL_act 203 = .ok (.iload 5, 2) := by decide +kernel
theorem dL_act_205 : decode cL_act 205 = .ok (.iload 5, 2) := by decide +kernel
theorem dL_act_207 : decode cL_act 207 = .ok (.iconst 1, 1) := by decide +kernel
theorem dL_act_208 : decode cL_act 208 = .ok (.iadd, 1) := by decide +kernel
theorem dL_act_209 : decode cL_act 209 = .ok (.iload_n 2, 1) := by decide +kernel
theorem dL_act_210 : decode cL_act 210 = .ok (.iconst 4, 1) := by decide +kernel
theorem dL_act_211 : decode cL_act 211 = .ok (.ishr, 1) := by decide +kernel
theorem dL_act_212 : decode cL_act 212 = .ok (.bipush 10, 2) := by decide +kernel
theorem dL_act_214 : decode cL_act 214 = .ok (.invokestatic 47, 3) := by decide +kernel
theorem dL_act_217 : decode cL_act 217 = .ok (.iadd, 1) := by decide +kernel
theorem dL_act_218 : decode cL_act 218 = .ok (.invokevirtual 75, 3) := by decide +kernel
theorem dL_act_221 : decode cL_act 221 = .ok (.pop, 1) := by decide +kernel
theorem dL_act_222 : decode cL_act 222 = .ok (.iconst 1, 1) := by decide +kernel
theorem dL_act_223 : decode cL_act 223 = .ok (.ireturn, 1) := by decide +kernel
theorem dL_act_224 : decode cL_act 224 = .ok (.aload_n 0, 1) := by decide +kernel
theorem dL_act_225 : decode cL_act 225 = .ok (.iload_n 2, 1) := by decide +kernel
theorem dL_act_226 : decode cL_act 226 = .ok (.bipush 10, 2) := by decide +kernel
theorem dL_act_228 : decode cL_act 228 = .ok (.invokestatic 47, 3) := by decide +kernel
theorem dL_act_231 : decode cL_act 231 = .ok (.invokevirtual 78, 3) := by decide +kernel
theorem dL_act_234 : decode cL_act 234 = .ok (.pop, 1) := by decide +kernel
theorem dL_act_235 : decode cL_act 235 = .ok (.iconst 1, 1) := by decide +kernel
theorem dL_act_236 : decode cL_act 236 = .ok (.ireturn, 1) := by decide +kernel
theorem dL_act_237 : decode cL_act 237 = .ok (.aload_n 0, 1) := by decide +kernel
theorem dL_act_238 : decode cL_act 238 = .ok (.iload_n 2, 1) := by decide +kernel
theorem dL_act_239 : decode cL_act 239 = .ok (.iload_n 2, 1) := by decide +kernel
theorem dL_act_240 : decode cL_act 240 = .ok (.bipush 20, 2) := by decide +kernel
theorem dL_act_242 : decode cL_act 242 = .ok (.ishr, 1) := by decide +kernel
theorem dL_act_243 : decode cL_act 243 = .ok (.iconst 1, 1) := by decide +kernel
theorem dL_act_244 : decode cL_act 244 = .ok (.iand, 1) := by decide +kernel
theorem dL_act_245 : decode cL_act 245 = .ok (.ifCond .ne 9, 3) := by decide +kernel
theorem dL_act_248 : decode cL_act 248 = .ok (.sipush 200, 3) := by decide +kernel
theorem dL_act_251 : decode cL_act 251 = .ok (.goto 6, 3) := by decide +kernel
theorem dL_act_254 : decode cL_act 254 = .ok (.sipush 10000, 3) := by decide +kernel
theorem dL_act_257 : decode cL_act 257 = .ok (.invokestatic 47, 3) := by decide +kernel
theorem dL_act_260 : decode cL_act 260 = .ok (.invokevirtual 81, 3) := by decide +kernel
theorem dL_act_263 : decode cL_act 263 = .ok (.pop, 1) := by decide +kernel
theorem dL_act_264 : decode cL_act 264 = .ok (.iconst 1, 1) := by decide +kernel
theorem dL_act_265 : decode cL_act 265 = .ok (.ireturn, 1) := by decide +kernel
theorem dL_act_266 : decode cL_act 266 = .ok (.aload_n 0, 1) := by decide +kernel
theorem dL_act_267 : decode cL_act 267 = .ok (.iconst 2, 1) := by decide +kernel
theorem dL_act_268 : decode cL_act 268 = .ok (.iload_n 2, 1) := by decide +kernel
theorem dL_act_269 : decode cL_act 269 = .ok (.bipush 6, 2) := by decide +kernel
theorem dL_act_271 : decode cL_act 271 = .ok (.invokestatic 47, 3) := by decide +kernel
theorem dL_act_274 : decode cL_act 274 = .ok (.iadd, 1) := by decide +kernel
theorem dL_act_275 : decode cL_act 275 = .ok (.invokevirtual 84, 3) := by decide +kernel
theorem dL_act_278 : decode cL_act 278 = .ok (.pop, 1) := by decide +kernel
theorem dL_act_279 : decode cL_act 279 = .ok (.iconst 1, 1) := by decide +kernel
theorem dL_act_280 : decode cL_act 280 = .ok (.ireturn, 1) := by decide +kernel
theorem dL_holds_0 : decode cL_holds 0 = .ok (.aload_n 0, 1) := by decide +kernel
theorem dL_holds_1 : decode cL_holds 1 = .ok (.invokevirtual 12, 3) := by decide +kernel
theorem dL_holds_4 : decode cL_holds 4 = .ok (.istore_n 2, 1) := by decide +kernel
theorem dL_holds_5 : decode cL_holds 5 = .ok (.iconst 0, 1) := by decide +kernel
theorem dL_holds_6 : decode cL_holds 6 = .ok (.istore_n 3, 1) := by decide +kernel
theorem dL_holds_7 : decode cL_holds 7 = .ok (.iconst 0, 1) := by decide +kernel
theorem dL_holds_8 : decode cL_holds 8 = .ok (.istore 4, 2) := by decide +kernel
theorem dL_holds_10 : decode cL_holds 10 = .ok (.aload_n 0, 1) := by decide +kernel
theorem dL_holds_11 : decode cL_holds 11 = .ok (.invokevirtual 18, 3) := by decide +kernel
theorem dL_holds_14 : decode cL_holds 14 = .ok (.aload_n 0, 1) := by decide +kernel
theorem dL_holds_15 : decode cL_holds 15 = .ok (.invokevirtual 21, 3) := by decide +kernel
theorem dL_holds_18 : decode cL_holds 18 = .ok (.if_icmp .ge 71, 3) := by decide +kernel
theorem dL_holds_21 : decode cL_holds 21 = .ok (.aload_n 0, 1) := by decide +kernel
theorem dL_holds_22 : decode cL_holds 22 = .ok (.invokevirtual 87, 3) := by decide +kernel
theorem dL_holds_25 : decode cL_holds 25 = .ok (.aload_n 0, 1) := by decide +kernel
theorem dL_holds_26 : decode cL_holds 26 = .ok (.invokevirtual 90, 3) := by decide +kernel
theorem dL_holds_29 : decode cL_holds 29 = .ok (.if_icmp .ne 60, 3) := by decide +kernel
theorem dL_holds_32 : decode cL_holds 32 = .ok (.aload_n 0, 1) := by decide +kernel
theorem dL_holds_33 : decode cL_holds 33 = .ok (.invokevirtual 87, 3) := by decide +kernel
theorem dL_holds_36 : decode cL_holds 36 = .ok (.ifCond .lt 53, 3) := by decide +kernel
theorem dL_holds_39 : decode cL_holds 39 = .ok (.aload_n 0, 1) := by decide +kernel
theorem dL_holds_40 : decode cL_holds 40 = .ok (.invokevirtual 87, 3) := by decide +kernel
theorem dL_holds_43 : decode cL_holds 43 = .ok (.sipush 9999, 3) := by decide +kernel
theorem dL_holds_46 : decode cL_holds 46 = .ok (.if_icmp .ge 43, 3) := by decide +kernel
theorem dL_holds_49 : decode cL_holds 49 = .ok (.aload_n 0, 1) := by decide +kernel
theorem dL_holds_50 : decode cL_holds 50 = .ok (.invokevirtual 93, 3) := by decide +kernel
theorem dL_holds_53 : decode cL_holds 53 = .ok (.iload_n 2, 1) := by decide +kernel
theorem dL_holds_54 : decode cL_holds 54 = .ok (.ifCond .ne 7, 3) := by decide +kernel
theorem dL_holds_57 : decode cL_holds 57 = .ok (.iconst 0, 1) := by decide +kernel
theorem dL_holds_58 : decode cL_holds 58 = .ok (.goto 6, 3) := by decide +kernel
theorem dL_holds_61 : decode cL_holds 61 = .ok (.iload_n 2, 1) := by decide +kernel
theorem dL_holds_62 : decode cL_holds 62 = .ok (.iconst 1, 1) := by decide +kernel
theorem dL_holds_63 : decode cL_holds 63 = .ok (.isub, 1) := by decide +kernel
theorem dL_holds_64 : decode cL_holds 64 = .ok (.if_icmp .gt 25, 3) := by decide +kernel
theorem dL_holds_67 : decode cL_holds 67 = .ok (.aload_n 0, 1) := by decide +kernel
theorem dL_holds_68 : decode cL_holds 68 = .ok (.invokevirtual 96, 3) := by decide +kernel
theorem dL_holds_71 : decode cL_holds 71 = .ok (.dconst 0, 1) := by decide +kernel
theorem dL_holds_72 : decode cL_holds 72 = .ok (.dcmp .l, 1) := by decide +kernel
theorem dL_holds_73 : decode cL_holds 73 = .ok (.ifCond .lt 16, 3) := by decide +kernel
theorem dL_holds_76 : decode cL_holds 76 = .ok (.aload_n 0, 1) := by decide +kernel
theorem dL_holds_77 : decode cL_holds 77 = .ok (.invokevirtual 96, 3) := by decide +kernel
theorem dL_holds_80 : decode cL_holds 80 = .ok (.dconst 1, 1) := by decide +kernel
theorem dL_holds_81 : decode cL_holds 81 = .ok (.dcmp .g, 1) := by decide +kernel
theorem dL_holds_82 : decode cL_holds 82 = .ok (.ifCond .gt 7, 3) := by decide +kernel
theorem dL_holds_85 : decode cL_holds 85 = .ok (.iconst 1, 1) := by decide +kernel
theorem dL_holds_86 : decode cL_holds 86 = .ok (.goto 4, 3) := by decide +kernel
theorem dL_holds_89 : decode cL_holds 89 = .ok (.iconst 0, 1) := by decide +kernel
theorem dL_holds_90 : decode cL_holds 90 = .ok (.istore 5, 2) := by decide +kernel
theorem dL_holds_92 : decode cL_holds 92 = .ok (.iconst 0, 1) := by decide +kernel
theorem dL_holds_93 : decode cL_holds 93 = .ok (.istore 6, 2) := by decide +kernel
theorem dL_holds_95 : decode cL_holds 95 = .ok (.iload 6, 2) := by decide +kernel
theorem dL_holds_97 : decode cL_holds 97 = .ok (.iload_n 2, 1) := by decide +kernel
theorem dL_holds_98 : decode cL_holds 98 = .ok (.if_icmp .ge 291, 3) := by decide +kernel
theorem dL_holds_101 : decode cL_holds 101 = .ok (.iconst 1, 1) := by decide +kernel
theorem dL_holds_102 : decode cL_holds 102 = .ok (.iload_n 1, 1) := by decide +kernel
theorem dL_holds_103 : decode cL_holds 103 = .ok (.iload 6, 2) := by decide +kernel
theorem dL_holds_105 : decode cL_holds 105 = .ok (.iadd, 1) := by decide +kernel
theorem dL_holds_106 : decode cL_holds 106 = .ok (.bipush 20, 2) := by decide +kernel
theorem dL_holds_108 : decode cL_holds 108 = .ok (.invokestatic 47, 3) := by decide +kernel
theorem dL_holds_111 : decode cL_holds 111 = .ok (.iadd, 1) := by decide +kernel
theorem dL_holds_112 : decode cL_holds 112 = .ok (.istore 7, 2) := by decide +kernel
theorem dL_holds_114 : decode cL_holds 114 = .ok (.aload_n 0, 1) := by decide +kernel
theorem dL_holds_115 : decode cL_holds 115 = .ok (.iload 6, 2) := by decide +kernel
theorem dL_holds_117 : decode cL_holds 117 = .ok (.invokevirtual 100, 3) := by decide +kernel
theorem dL_holds_120 : decode cL_holds 120 = .ok (.istore 8, 2) := by decide +kernel
theorem dL_holds_122 : decode cL_holds 122 = .ok (.iload_n 3, 1) := by decide +kernel
theorem dL_holds_123 : decode cL_holds 123 = .ok (.aload_n 0, 1) := by decide +kernel
theorem dL_holds_124 : decode cL_holds 124 = .ok (.iload 6, 2) := by decide +kernel
theorem dL_holds_126 : decode cL_holds 126 = .ok (.invokevirtual 65, 3) := by decide +kernel
theorem dL_holds_129 : decode cL_holds 129 = .ok (.ifCond .eq 7, 3) := by decide +kernel
theorem dL_holds_132 : decode cL_holds 132 = .ok (.iconst 1, 1) := by decide +kernel
theorem dL_holds_133 : decode cL_holds 133 = .ok (.goto 4, 3) := by decide +kernel
theorem dL_holds_136 : decode cL_holds 136 = .ok (.iconst 0, 1) := by decide +kernel
theorem dL_holds_137 : decode cL_holds 137 = .ok (.iadd, 1) := by decide +kernel
theorem dL_holds_138 : decode cL_holds 138 = .ok (.istore_n 3, 1) := by decide +kernel
theorem dL_holds_139 : decode cL_holds 139 = .ok (.iload 4, 2) := by decide +kernel
theorem dL_holds_141 : decode cL_holds 141 = .ok (.iload 8, 2) := by decide +kernel
theorem dL_holds_143 : decode cL_holds 143 = .ok (.ifCond .ne 7, 3) := by decide +kernel
theorem dL_holds_146 : decode cL_holds 146 = .ok (.iconst 0, 1) := by decide +kernel
theorem dL_holds_147 : decode cL_holds 147 = .ok (.goto 4, 3) := by decide +kernel
theorem dL_holds_150 : decode cL_holds 150 = .ok (.iconst 1, 1) := by decide +kernel
theorem dL_holds_151 : decode cL_holds 151 = .ok (.iadd, 1) := by decide +kernel
theorem dL_holds_152 : decode cL_holds 152 = .ok (.istore 4, 2) := by decide +kernel
theorem dL_holds_154 : decode cL_holds 154 = .ok (.aload_n 0, 1) := by decide +kernel
theorem dL_holds_155 : decode cL_holds 155 = .ok (.iload 6, 2) := by decide +kernel
theorem dL_holds_157 : decode cL_holds 157 = .ok (.aload_n 0, 1) := by decide +kernel
theorem dL_holds_158 : decode cL_holds 158 = .ok (.invokevirtual 18, 3) := by decide +kernel
theorem dL_holds_161 : decode cL_holds 161 = .ok (.invokevirtual 103, 3) := by decide +kernel
theorem dL_holds_164 : decode cL_holds 164 = .ok (.aload_n 0, 1) := by decide +kernel
theorem dL_holds_165 : decode cL_holds 165 = .ok (.iload 6, 2) := by decide +kernel
theorem dL_holds_167 : decode cL_holds 167 = .ok (.aload_n 0, 1) := by decide +kernel
theorem dL_holds_168 : decode cL_holds 168 = .ok (.invokevirtual 21, 3) := by decide +kernel
theorem dL_holds_171 : decode cL_holds 171 = .ok (.invokevirtual 103, 3) := by decide +kernel
theorem dL_holds_174 : decode cL_holds 174 = .ok (.isub, 1) := by decide +kernel
theorem dL_holds_175 : decode cL_holds 175 = .ok (.istore 9, 2) := by decide +kernel
theorem dL_holds_177 : decode cL_holds 177 = .ok (.aload_n 0, 1) := by decide +kernel
theorem dL_holds_178 : decode cL_holds 178 = .ok (.iload 6, 2) := by decide +kernel
theorem dL_holds_180 : decode cL_holds 180 = .ok (.iload 7, 2) := by decide +kernel
theorem dL_holds_182 : decode cL_holds 182 = .ok (.invokevirtual 103, 3) := by decide +kernel
theorem dL_holds_185 : decode cL_holds 185 = .ok (.aload_n 0, 1) := by decide +kernel
theorem dL_holds_186 : decode cL_holds 186 = .ok (.iload 6, 2) := by decide +kernel
theorem dL_holds_188 : decode cL_holds 188 = .ok (.iload 7, 2) := by decide +kernel
theorem dL_holds_190 : decode cL_holds 190 = .ok (.invokevirtual 106, 3) := by decide +kernel
theorem dL_holds_193 : decode cL_holds 193 = .ok (.if_icmp .ne 84, 3) := by decide +kernel
theorem dL_holds_196 : decode cL_holds 196 = .ok (.aload_n 0, 1) := by decide +kernel
theorem dL_holds_197 : decode cL_holds 197 = .ok (.iload 6, 2) := by decide +kernel
theorem dL_holds_199 : decode cL_holds 199 = .ok (.iconst 1, 1) := by decide +kernel
theorem dL_holds_200 : decode cL_holds 200 = .ok (.invokevirtual 103, 3) := by decide +kernel
theorem dL_holds_203 : decode cL_holds 203 = .ok (.sipush 1000, 3) := by decide +kernel
theorem dL_holds_206 : decode cL_holds 206 = .ok (.aload_n 0, 1) := by decide +kernel
theorem dL_holds_207 : decode cL_holds 207 = .ok (.iload 6, 2) := by decide +kernel
theorem dL_holds_209 : decode cL_holds 209 = .ok (.invokevirtual 30, 3) := by decide +kernel
theorem dL_holds_212 : decode cL_holds 212 = .ok (.imul, 1) := by decide +kernel
theorem dL_holds_213 : decode cL_holds 213 = .ok (.if_icmp .ne 64, 3) := by decide +kernel
theorem dL_holds_216 : decode cL_holds 216 = .ok (.aload_n 0, 1) := by decide +kernel
theorem dL_holds_217 : decode cL_holds 217 = .ok (.iload 6, 2) := by decide +kernel
theorem dL_holds_219 : decode cL_holds 219 = .ok (.invokevirtual 34, 3) := by decide +kernel
theorem dL_holds_222 : decode cL_holds 222 = .ok (.aload_n 0, 1) := by decide +kernel
theorem dL_holds_223 : decode cL_holds 223 = .ok (.iload 6, 2) := by decide +kernel
theorem dL_holds_225 : decode cL_holds 225 = .ok (.invokevirtual 109, 3) := by decide +kernel
theorem dL_holds_228 : decode cL_holds 228 = .ok (.if_icmp .ne 49, 3) := by decide +kernel
theorem dL_holds_231 : decode cL_holds 231 = .ok (.aload_n 0, 1) := by decide +kernel
theorem dL_holds_232 : decode cL_holds 232 = .ok (.iload 6, 2) := by decide +kernel
theorem dL_holds_234 : decode cL_holds 234 = .ok (.invokevirtual 34, 3) := by decide +kernel
theorem dL_holds_237 : decode cL_holds 237 = .ok (.sipush 1000, 3) := by decide +kernel
theorem dL_holds_240 : decode cL_holds 240 = .ok (.if_icmp .lt 37, 3) := by decide +kernel
theorem dL_holds_243 : decode cL_holds 243 = .ok (.aload_n 0, 1) := by decide +kernel
theorem dL_holds_244 : decode cL_holds 244 = .ok (.iload 6, 2) := by decide +kernel
theorem dL_holds_246 : decode cL_holds 246 = .ok (.invokevirtual 112, 3) := by decide +kernel
theorem dL_holds_249 : decode cL_holds 249 = .ok (.aload_n 0, 1) := by decide +kernel
theorem dL_holds_250 : decode cL_holds 250 = .ok (.iload 6, 2) := by decide +kernel
theorem dL_holds_252 : decode cL_holds 252 = .ok (.invokevirtual 115, 3) := by decide +kernel
theorem dL_holds_255 : decode cL_holds 255 = .ok (.if_icmp .ne 22, 3) := by decide +kernel
theorem dL_holds_258 : decode cL_holds 258 = .ok (.aload_n 0, 1) := by decide +kernel
theorem dL_holds_259 : decode cL_holds 259 = .ok (.iload 6, 2) := by decide +kernel
theorem dL_holds_261 : decode cL_holds 261 = .ok (.invokevirtual 112, 3) := by decide +kernel
theorem dL_holds_264 : decode cL_holds 264 = .ok (.aload_n 0, 1) := by decide +kernel
theorem dL_holds_265 : decode cL_holds 265 = .ok (.iload 6, 2) := by decide +kernel
theorem dL_holds_267 : decode cL_holds 267 = .ok (.invokevirtual 30, 3) := by decide +kernel
theorem dL_holds_270 : decode cL_holds 270 = .ok (.if_icmp .lt 7, 3) := by decide +kernel
theorem dL_holds_273 : decode cL_holds 273 = .ok (.iconst 1, 1) := by decide +kernel
theorem dL_holds_274 : decode cL_holds 274 = .ok (.goto 4, 3) := by decide +kernel
theorem dL_holds_277 : decode cL_holds 277 = .ok (.iconst 0, 1) := by decide +kernel
theorem dL_holds_278 : decode cL_holds 278 = .ok (.istore 10, 2) := by decide +kernel
theorem dL_holds_280 : decode cL_holds 280 = .ok (.iload 10, 2) := by decide +kernel
theorem dL_holds_282 : decode cL_holds 282 = .ok (.ifCond .eq 91, 3) := by decide +kernel
theorem dL_holds_285 : decode cL_holds 285 = .ok (.iload 8, 2) := by decide +kernel
theorem dL_holds_287 : decode cL_holds 287 = .ok (.ifCond .eq 11, 3) := by decide +kernel
theorem dL_holds_290 : decode cL_holds 290 = .ok (.iload 8, 2) := by decide +kernel
theorem dL_holds_292 : decode cL_holds 292 = .ok (.iload 9, 2) := by decide +kernel
theorem dL_holds_294 : decode cL_holds 294 = .ok (.imul, 1) := by decide +kernel
theorem dL_holds_295 : decode cL_holds 295 = .ok (.ifCond .le 78, 3) := by decide +kernel
theorem dL_holds_298 : decode cL_holds 298 = .ok (.aload_n 0, 1) := by decide +kernel
theorem dL_holds_299 : decode cL_holds 299 = .ok (.iload 6, 2) := by decide +kernel
theorem dL_holds_301 : decode cL_holds 301 = .ok (.invokevirtual 118, 3) := by decide +kernel
theorem dL_holds_304 : decode cL_holds 304 = .ok (.ifCond .lt 69, 3) := by decide +kernel
theorem dL_holds_307 : decode cL_holds 307 = .ok (.aload_n 0, 1) := by decide +kernel
theorem dL_holds_308 : decode cL_holds 308 = .ok (.iload 6, 2) := by decide +kernel
theorem dL_holds_310 : decode cL_holds 310 = .ok (.invokevirtual 118, 3) := by decide +kernel
theorem dL_holds_313 : decode cL_holds 313 = .ok (.sipush 999, 3) := by decide +kernel
theorem dL_holds_316 : decode cL_holds 316 = .ok (.if_icmp .gt 57, 3) := by decide +kernel
theorem dL_holds_319 : decode cL_holds 319 = .ok (.iload 8, 2) := by decide +kernel
theorem dL_holds_321 : decode cL_holds 321 = .ok (.iconst (-1), 1) := by decide +kernel
theorem dL_holds_322 : decode cL_holds 322 = .ok (.if_icmp .ne 12, 3) := by decide +kernel
theorem dL_holds_325 : decode cL_holds 325 = .ok (.aload_n 0, 1) := by decide +kernel
theorem dL_holds_326 : decode cL_holds 326 = .ok (.iload 6, 2) := by decide +kernel
theorem dL_holds_328 : decode cL_holds 328 = .ok (.invokevirtual 118, 3) := by decide +kernel
theorem dL_holds_331 : decode cL_holds 331 = .ok (.ifCond .ne 42, 3) := by decide +kernel
theorem dL_holds_334 : decode cL_holds 334 = .ok (.aload_n 0, 1) := by decide +kernel
theorem dL_holds_335 : decode cL_holds 335 = .ok (.iload 6, 2) := by decide +kernel
theorem dL_holds_337 : decode cL_holds 337 = .ok (.invokevirtual 121, 3) := by decide +kernel
theorem dL_holds_340 : decode cL_holds 340 = .ok (.lconst 0, 1) := by decide +kernel
theorem dL_holds_341 : decode cL_holds 341 = .ok (.lcmp, 1) := by decide +kernel
theorem dL_holds_342 : decode cL_holds 342 = .ok (.ifCond .lt 31, 3) := by decide +kernel
theorem dL_holds_345 : decode cL_holds 345 = .ok (.aload_n 0, 1) := by decide +kernel
theorem dL_holds_346 : decode cL_holds 346 = .ok (.iload 6, 2) := by decide +kernel
theorem dL_holds_348 : decode cL_holds 348 = .ok (.invokevirtual 65, 3) := by decide +kernel
theorem dL_holds_351 : decode cL_holds 351 = .ok (.ifCond .eq 18, 3) := by decide +kernel
theorem dL_holds_354 : decode cL_holds 354 = .ok (.aload_n 0, 1) := by decide +kernel
theorem dL_holds_355 : decode cL_holds 355 = .ok (.iload 6, 2) := by decide +kernel
theorem dL_holds_357 : decode cL_holds 357 = .ok (.invokevirtual 125, 3) := by decide +kernel
theorem dL_holds_360 : decode cL_holds 360 = .ok (.aload_n 0, 1) := by decide +kernel
theorem dL_holds_361 : decode cL_holds 361 = .ok (.iload 6, 2) := by decide +kernel
theorem dL_holds_363 : decode cL_holds 363 = .ok (.invokevirtual 30, 3) := by decide +kernel
theorem dL_holds_366 : decode cL_holds 366 = .ok (.if_icmp .eq 7, 3) := by decide +kernel
theorem dL_holds_369 : decode cL_holds 369 = .ok (.iconst 1, 1) := by decide +kernel
theorem dL_holds_370 : decode cL_holds 370 = .ok (.goto 4, 3) := by decide +kernel
theorem dL_holds_373 : decode cL_holds 373 = .ok (.iconst 0, 1) := by decide +kernel
theorem dL_holds_374 : decode cL_holds 374 = .ok (.istore 10, 2) := by decide +kernel
theorem dL_holds_376 : decode cL_holds 376 = .ok (.iload 10, 2) := by decide +kernel
theorem dL_holds_378 : decode cL_holds 378 = .ok (.ifCond .ne 5, 3) := by decide +kernel
theorem dL_holds_381 : decode cL_holds 381 = .ok (.iconst 0, 1) := by decide +kernel
theorem dL_holds_382 : decode cL_holds 382 = .ok (.ireturn, 1) := by decide +kernel
theorem dL_holds_383 : decode cL_holds 383 = .ok (.iinc 6 1, 3) := by decide +kernel
theorem dL_holds_386 : decode cL_holds 386 = .ok (.goto (-291), 3) := by decide +kernel
theorem dL_holds_389 : decode cL_holds 389 = .ok (.iload_n 2, 1) := by decide +kernel
theorem dL_holds_390 : decode cL_holds 390 = .ok (.iconst 1, 1) := by decide +kernel
theorem dL_holds_391 : decode cL_holds 391 = .ok (.if_icmp .le 51, 3) := by decide +kernel
theorem dL_holds_394 : decode cL_holds 394 = .ok (.aload_n 0, 1) := by decide +kernel
theorem dL_holds_395 : decode cL_holds 395 = .ok (.invokevirtual 128, 3) := by decide +kernel
theorem dL_holds_398 : decode cL_holds 398 = .ok (.istore 6, 2) := by decide +kernel
theorem dL_holds_400 : decode cL_holds 400 = .ok (.iconst 0, 1) := by decide +kernel
theorem dL_holds_401 : decode cL_holds 401 = .ok (.istore 7, 2) := by decide +kernel
theorem dL_holds_403 : decode cL_holds 403 = .ok (.iload 7, 2) := by decide +kernel
theorem dL_holds_405 : decode cL_holds 405 = .ok (.iconst 4, 1) := by decide +kernel
theorem dL_holds_406 : decode cL_holds 406 = .ok (.if_icmp .ge 36, 3) := by decide +kernel
theorem dL_holds_409 : decode cL_holds 409 = .ok (.iload 5, 2) := by decide +kernel
theorem dL_holds_411 : decode cL_holds 411 = .ok (.ifCond .eq 22, 3) := by decide +kernel
theorem dL_holds_414 : decode cL_holds 414 = .ok (.aload_n 0, 1) := by decide +kernel
theorem dL_holds_415 : decode cL_holds 415 = .ok (.iload 6, 2) := by decide +kernel
theorem dL_holds_417 : decode cL_holds 417 = .ok (.invokevirtual 131, 3) := by decide +kernel
theorem dL_holds_420 : decode cL_holds 420 = .ok (.aload_n 0, 1) := by decide +kernel
theorem dL_holds_421 : decode cL_holds 421 = .ok (.iload 7, 2) := by decide +kernel
theorem dL_holds_423 : decode cL_holds 423 = .ok (.invokevirtual 131, 3) := by decide +kernel
theorem dL_holds_426 : decode cL_holds 426 = .ok (.if_icmp .gt 7, 3) := by decide +kernel
theorem dL_holds_429 : decode cL_holds 429 = .ok (.iconst 1, 1) := by decide +kernel
theorem dL_holds_430 : decode cL_holds 430 = .ok (.goto 4, 3) := by decide +kernel
theorem dL_holds_433 : decode cL_holds 433 = .ok (.iconst 0, 1) := by decide +kernel
theorem dL_holds_434 : decode cL_holds 434 = .ok (.istore 5, 2) := by decide +kernel
theorem dL_holds_436 : decode cL_holds 436 = .ok (.iinc 7 1, 3) := by decide +kernel
theorem dL_holds_439 : decode cL_holds 439 = .ok (.goto (-36), 3) := by decide +kernel
theorem dL_holds_442 : decode cL_holds 442 = .ok (.iload 5, 2) := by decide +kernel
theorem dL_holds_444 : decode cL_holds 444 = .ok (.ifCond .eq 36, 3) := by decide +kernel
theorem dL_holds_447 : decode cL_holds 447 = .ok (.iload_n 3, 1) := by decide +kernel
theorem dL_holds_448 : decode cL_holds 448 = .ok (.aload_n 0, 1) := by decide +kernel
theorem dL_holds_449 : decode cL_holds 449 = .ok (.invokevirtual 27, 3) := by decide +kernel
theorem dL_holds_452 : decode cL_holds 452 = .ok (.if_icmp .ne 28, 3) := by decide +kernel
theorem dL_holds_455 : decode cL_holds 455 = .ok (.iload 4, 2) := by decide +kernel
theorem dL_holds_457 : decode cL_holds 457 = .ok (.aload_n 0, 1) := by decide +kernel
theorem dL_holds_458 : decode cL_holds 458 = .ok (.invokevirtual 134, 3) := by decide +kernel
theorem dL_holds_461 : decode cL_holds 461 = .ok (.if_icmp .ne 19, 3) := by decide +kernel
theorem dL_holds_464 : decode cL_holds 464 = .ok (.iload_n 2, 1) := by decide +kernel
theorem dL_holds_465 : decode cL_holds 465 = .ok (.ifCond .eq 11, 3) := by decide +kernel
theorem dL_holds_468 : decode cL_holds 468 = .ok (.aload_n 0, 1) := by decide +kernel
theorem dL_holds_469 : decode cL_holds 469 = .ok (.iconst 0, 1) := by decide +kernel
theorem dL_holds_470 : decode cL_holds 470 = .ok (.invokevirtual 100, 3) := by decide +kernel
theorem dL_holds_473 : decode cL_holds 473 = .ok (.ifCond .ne 7, 3) := by decide +kernel
theorem dL_holds_476 : decode cL_holds 476 = .ok (.iconst 1, 1) := by decide +kernel
theorem dL_holds_477 : decode cL_holds 477 = .ok (.goto 4, 3) := by decide +kernel
theorem dL_holds_480 : decode cL_holds 480 = .ok (.iconst 0, 1) := by decide +kernel
theorem dL_holds_481 : decode cL_holds 481 = .ok (.ireturn, 1) := by decide +kernel
