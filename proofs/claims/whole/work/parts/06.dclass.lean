theorem dX0_middle_0 : decode cX0_middle 0 = .ok (.iload_n 1, 1) := by decide +kernel
theorem dX0_middle_1 : decode cX0_middle 1 = .ok (.aload_n 0, 1) := by decide +kernel
theorem dX0_middle_2 : decode cX0_middle 2 = .ok (.getfield 7, 3) := by decide +kernel
theorem dX0_middle_5 : decode cX0_middle 5 = .ok (.invokestatic 13, 3) := by decide +kernel
theorem dX0_middle_8 : decode cX0_middle 8 = .ok (.istore_n 2, 1) := by decide +kernel
theorem dX0_middle_9 : decode cX0_middle 9 = .ok (.iload_n 1, 1) := by decide +kernel
theorem dX0_middle_10 : decode cX0_middle 10 = .ok (.iload_n 2, 1) := by decide +kernel
theorem dX0_middle_11 : decode cX0_middle 11 = .ok (.isub, 1) := by decide +kernel
theorem dX0_middle_12 : decode cX0_middle 12 = .ok (.iconst 2, 1) := by decide +kernel
theorem dX0_middle_13 : decode cX0_middle 13 = .ok (.idiv, 1) := by decide +kernel
theorem dX0_middle_14 : decode cX0_middle 14 = .ok (.istore_n 3, 1) := by decide +kernel
theorem dX0_middle_15 : decode cX0_middle 15 = .ok (.aload_n 0, 1) := by decide +kernel
theorem dX0_middle_16 : decode cX0_middle 16 = .ok (.iload_n 1, 1) := by decide +kernel
theorem dX0_middle_17 : decode cX0_middle 17 = .ok (.invokevirtual 19, 3) := by decide +kernel
theorem dX0_middle_20 : decode cX0_middle 20 = .ok (.istore 4, 2) := by decide +kernel
theorem dX0_middle_22 : decode cX0_middle 22 = .ok (.iload_n 2, 1) := by decide +kernel
theorem dX0_middle_23 : decode cX0_middle 23 = .ok (.istore 5, 2) := by decide +kernel
theorem dX0_middle_25 : decode cX0_middle 25 = .ok (.iload 5, 2) := by decide +kernel
theorem dX0_middle_27 : decode cX0_middle 27 = .ok (.iload_n 1, 1) := by decide +kernel
theorem dX0_middle_28 : decode cX0_middle 28 = .ok (.if_icmp .gt 96, 3) := by decide +kernel
theorem dX0_middle_31 : decode cX0_middle 31 = .ok (.aload_n 0, 1) := by decide +kernel
theorem dX0_middle_32 : decode cX0_middle 32 = .ok (.iload 5, 2) := by decide +kernel
theorem dX0_middle_34 : decode cX0_middle 34 = .ok (.invokevirtual 19, 3) := by decide +kernel
theorem dX0_middle_37 : decode cX0_middle 37 = .ok (.istore 6, 2) := by decide +kernel
theorem dX0_middle_39 : decode cX0_middle 39 = .ok (.iconst 0, 1) := by decide +kernel
theorem dX0_middle_40 : decode cX0_middle 40 = .ok (.istore 7, 2) := by decide +kernel
theorem dX0_middle_42 : decode cX0_middle 42 = .ok (.iconst 0, 1) := by decide +kernel
theorem dX0_middle_43 : decode cX0_middle 43 = .ok (.istore 8, 2) := by decide +kernel
theorem dX0_middle_45 : decode cX0_middle 45 = .ok (.iload_n 2, 1) := by decide +kernel
theorem dX0_middle_46 : decode cX0_middle 46 = .ok (.istore 9, 2) := by decide +kernel
theorem dX0_middle_48 : decode cX0_middle 48 = .ok (.iload 9, 2) := by decide +kernel
theorem dX0_middle_50 : decode cX0_middle 50 = .ok (.iload_n 1, 1) := by decide +kernel
theorem dX0_middle_51 : decode cX0_middle 51 = .ok (.if_icmp .gt 51, 3) := by decide +kernel
theorem dX0_middle_54 : decode cX0_middle 54 = .ok (.iload 7, 2) := by decide +kernel
theorem dX0_middle_56 : decode cX0_middle 56 = .ok (.aload_n 0, 1) := by decide +kernel
theorem dX0_middle_57 : decode cX0_middle 57 = .ok (.iload 9, 2) := by decide +kernel
theorem dX0_middle_59 : decode cX0_middle 59 = .ok (.invokevirtual 19, 3) := by decide +kernel
theorem dX0_middle_62 : decode cX0_middle 62 = .ok (.iload 6, 2) := by decide +kernel
theorem dX0_middle_64 : decode cX0_middle 64 = .ok (.if_icmp .ge 7, 3) := by decide +kernel
theorem dX0_middle_67 : decode cX0_middle 67 = .ok (.iconst 1, 1) := by decide +kernel
theorem dX0_middle_68 : decode cX0_middle 68 = .ok (.goto 4, 3) := by decide +kernel
theorem dX0_middle_71 : decode cX0_middle 71 = .ok (.iconst 0, 1) := by decide +kernel
theorem dX0_middle_72 : decode cX0_middle 72 = .ok (.iadd, 1) := by decide +kernel
theorem dX0_middle_73 : decode cX0_middle 73 = .ok (.istore 7, 2) := by decide +kernel
theorem dX0_middle_75 : decode cX0_middle 75 = .ok (.iload 8, 2) := by decide +kernel
theorem dX0_middle_77 : decode cX0_middle 77 = .ok (.aload_n 0, 1) := by decide +kernel
theorem dX0_middle_78 : decode cX0_middle 78 = .ok (.iload 9, 2) := by decide +kernel
theorem dX0_middle_80 : decode cX0_middle 80 = .ok (.invokevirtual 19, 3) := by decide +kernel
theorem dX0_middle_83 : decode cX0_middle 83 = .ok (.iload 6, 2) := by decide +kernel
theorem dX0_middle_85 : decode cX0_middle 85 = .ok (.if_icmp .gt 7, 3) := by decide +kernel
theorem dX0_middle_88 : decode cX0_middle 88 = .ok (.iconst 1, 1) := by decide +kernel
theorem dX0_middle_89 : decode cX0_middle 89 = .ok (.goto 4, 3) := by decide +kernel
theorem dX0_middle_92 : decode cX0_middle 92 = .ok (.iconst 0, 1) := by decide +kernel
theorem dX0_middle_93 : decode cX0_middle 93 = .ok (.iadd, 1) := by decide +kernel
theorem dX0_middle_94 : decode cX0_middle 94 = .ok (.istore 8, 2) := by decide +kernel
theorem dX0_middle_96 : decode cX0_middle 96 = .ok (.iinc 9 1, 3) := by decide +kernel
theorem dX0_middle_99 : decode cX0_middle 99 = .ok (.goto (-51), 3) := by decide +kernel
theorem dX0_middle_102 : decode cX0_middle 102 = .ok (.iload 7, 2) := by decide +kernel
theorem dX0_middle_104 : decode cX0_middle 104 = .ok (.iload_n 3, 1) := by decide +kernel
theorem dX0_middle_105 : decode cX0_middle 105 = .ok (.if_icmp .gt 13, 3) := by decide +kernel
theorem dX0_middle_108 : decode cX0_middle 108 = .ok (.iload 8, 2) := by decide +kernel
theorem dX0_middle_110 : decode cX0_middle 110 = .ok (.iload_n 3, 1) := by decide +kernel
theorem dX0_middle_111 : decode cX0_middle 111 = .ok (.if_icmp .le 7, 3) := by decide +kernel
theorem dX0_middle_114 : decode cX0_middle 114 = .ok (.iload 6, 2) := by decide +kernel
theorem dX0_middle_116 : decode cX0_middle 116 = .ok (.istore 4, 2) := by decide +kernel
theorem dX0_middle_118 : decode cX0_middle 118 = .ok (.iinc 5 1, 3) := by decide +kernel
theorem dX0_middle_121 : decode cX0_middle 121 = .ok (.goto (-96), 3) := by decide +kernel
theorem dX0_middle_124 : decode cX0_middle 124 = .ok (.iload 4, 2) := by decide +kernel
theorem dX0_middle_126 : decode cX0_middle 126 = .ok (.ireturn, 1) := by decide +kernel
theorem dX0_standsOut_0 : decode cX0_standsOut 0 = .ok (.aload_n 0, 1) := by decide +kernel
theorem dX0_standsOut_1 : decode cX0_standsOut 1 = .ok (.iload_n 1, 1) := by decide +kernel
theorem dX0_standsOut_2 : decode cX0_standsOut 2 = .ok (.invokevirtual 19, 3) := by decide +kernel
theorem dX0_standsOut_5 : decode cX0_standsOut 5 = .ok (.aload_n 0, 1) := by decide +kernel
theorem dX0_standsOut_6 : decode cX0_standsOut 6 = .ok (.iload_n 1, 1) := by decide +kernel
theorem dX0_standsOut_7 : decode cX0_standsOut 7 = .ok (.invokestatic 23, 3) := by decide +kernel
theorem dX0_standsOut_10 : decode cX0_standsOut 10 = .ok (.isub, 1) := by decide +kernel
theorem dX0_standsOut_11 : decode cX0_standsOut 11 = .ok (.invokestatic 29, 3) := by decide +kernel
theorem dX0_standsOut_14 : decode cX0_standsOut 14 = .ok (.aload_n 0, 1) := by decide +kernel
theorem dX0_standsOut_15 : decode cX0_standsOut 15 = .ok (.getfield 34, 3) := by decide +kernel
theorem dX0_standsOut_18 : decode cX0_standsOut 18 = .ok (.if_icmp .le 7, 3) := by decide +kernel
theorem dX0_standsOut_21 : decode cX0_standsOut 21 = .ok (.iconst 1, 1) := by decide +kernel
theorem dX0_standsOut_22 : decode cX0_standsOut 22 = .ok (.goto 4, 3) := by decide +kernel
theorem dX0_standsOut_25 : decode cX0_standsOut 25 = .ok (.iconst 0, 1) := by decide +kernel
theorem dX0_standsOut_26 : decode cX0_standsOut 26 = .ok (.ireturn, 1) := by decide +kernel
theorem dX0_number_0 : decode cX0_number 0 = .ok (.iconst 0, 1) := by decide +kernel
theorem dX0_number_1 : decode cX0_number 1 = .ok (.istore_n 1, 1) := by decide +kernel
theorem dX0_number_2 : decode cX0_number 2 = .ok (.iconst 0, 1) := by decide +kernel
theorem dX0_number_3 : decode cX0_number 3 = .ok (.istore_n 2, 1) := by decide +kernel
theorem dX0_number_4 : decode cX0_number 4 = .ok (.iload_n 2, 1) := by decide +kernel
theorem dX0_number_5 : decode cX0_number 5 = .ok (.aload_n 0, 1) := by decide +kernel
theorem dX0_number_6 : decode cX0_number 6 = .ok (.getfield 37, 3) := by decide +kernel
theorem dX0_number_9 : decode cX0_number 9 = .ok (.if_icmp .ge 20, 3) := by decide +kernel
theorem dX0_number_12 : decode cX0_number 12 = .ok (.aload_n 0, 1) := by decide +kernel
theorem dX0_number_13 : decode cX0_number 13 = .ok (.iload_n 2, 1) := by decide +kernel
theorem dX0_number_14 : decode cX0_number 14 = .ok (.invokestatic 40, 3) := by decide +kernel
theorem dX0_number_17 : decode cX0_number 17 = .ok (.ifCond .eq 6, 3) := by decide +kernel
theorem dX0_number_20 : decode cX0_number 20 = .ok (.iinc 1 1, 3) := by decide +kernel
theorem dX0_number_23 : decode cX0_number 23 = .ok (.iinc 2 1, 3) := by decide +kernel
theorem dX0_number_26 : decode cX0_number 26 = .ok (.goto (-22), 3) := by decide +kernel
theorem dX0_number_29 : decode cX0_number 29 = .ok (.iload_n 1, 1) := by decide +kernel
theorem dX0_number_30 : decode cX0_number 30 = .ok (.ireturn, 1) := by decide +kernel
theorem dX0_flatten_0 : decode cX0_flatten 0 = .ok (.aload_n 0, 1) := by decide +kernel
theorem dX0_flatten_1 : decode cX0_flatten 1 = .ok (.iload_n 1, 1) := by decide +kernel
theorem dX0_flatten_2 : decode cX0_flatten 2 = .ok (.aload_n 0, 1) := by decide +kernel
theorem dX0_flatten_3 : decode cX0_flatten 3 = .ok (.iload_n 1, 1) := by decide +kernel
theorem dX0_flatten_4 : decode cX0_flatten 4 = .ok (.invokestatic 23, 3) := by decide +kernel
theorem dX0_flatten_7 : decode cX0_flatten 7 = .ok (.invokevirtual 44, 3) := by decide +kernel
theorem dX0_flatten_10 : decode cX0_flatten 10 = .ok (.return_, 1) := by decide +kernel
theorem dX0_flattenAll_0 : decode cX0_flattenAll 0 = .ok (.iconst 0, 1) := by decide +kernel
theorem dX0_flattenAll_1 : decode cX0_flattenAll 1 = .ok (.istore_n 1, 1) := by decide +kernel
theorem dX0_flattenAll_2 : decode cX0_flattenAll 2 = .ok (.iconst 0, 1) := by decide +kernel
theorem dX0_flattenAll_3 : decode cX0_flattenAll 3 = .ok (.istore_n 2, 1) := by decide +kernel
theorem dX0_flattenAll_4 : decode cX0_flattenAll 4 = .ok (.iload_n 2, 1) := by decide +kernel
theorem dX0_flattenAll_5 : decode cX0_flattenAll 5 = .ok (.aload_n 0, 1) := by decide +kernel
theorem dX0_flattenAll_6 : decode cX0_flattenAll 6 = .ok (.getfield 37, 3) := by decide +kernel
theorem dX0_flattenAll_9 : decode cX0_flattenAll 9 = .ok (.if_icmp .ge 25, 3) := by decide +kernel
theorem dX0_flattenAll_12 : decode cX0_flattenAll 12 = .ok (.aload_n 0, 1) := by decide +kernel
theorem dX0_flattenAll_13 : decode cX0_flattenAll 13 = .ok (.iload_n 2, 1) := by decide +kernel
theorem dX0_flattenAll_14 : decode cX0_flattenAll 14 = .ok (.invokestatic 40, 3) := by decide +kernel
theorem dX0_flattenAll_17 : decode cX0_flattenAll 17 = .ok (.ifCond .eq 11, 3) := by decide +kernel
theorem dX0_flattenAll_20 : decode cX0_flattenAll 20 = .ok (.aload_n 0, 1) := by decide +kernel
theorem dX0_flattenAll_21 : decode cX0_flattenAll 21 = .ok (.iload_n 2, 1) := by decide +kernel
theorem dX0_flattenAll_22 : decode cX0_flattenAll 22 = .ok (.invokestatic 48, 3) := by decide +kernel
theorem dX0_flattenAll_25 : decode cX0_flattenAll 25 = .ok (.iinc 1 1, 3) := by decide +kernel
theorem dX0_flattenAll_28 : decode cX0_flattenAll 28 = .ok (.iinc 2 1, 3) := by decide +kernel
theorem dX0_flattenAll_31 : decode cX0_flattenAll 31 = .ok (.goto (-27), 3) := by decide +kernel
theorem dX0_flattenAll_34 : decode cX0_flattenAll 34 = .ok (.iload_n 1, 1) := by decide +kernel
theorem dX0_flattenAll_35 : decode cX0_flattenAll 35 = .ok (.ireturn, 1) := by decide +kernel
theorem dX1_behind_0 : decode cX1_behind 0 = .ok (.aload_n 0, 1) := by decide +kernel
theorem dX1_behind_1 : decode cX1_behind 1 = .ok (.iload_n 2, 1) := by decide +kernel
theorem dX1_behind_2 : decode cX1_behind 2 = .ok (.invokevirtual 9, 3) := by decide +kernel
theorem dX1_behind_5 : decode cX1_behind 5 = .ok (.istore_n 3, 1) := by decide +kernel
theorem dX1_behind_6 : decode cX1_behind 6 = .ok (.iload_n 1, 1) := by decide +kernel
theorem dX1_behind_7 : decode cX1_behind 7 = .ok (.iconst 3, 1) := by decide +kernel
theorem dX1_behind_8 : decode cX1_behind 8 = .ok (.if_icmp .ne 12, 3) := by decide +kernel
theorem dX1_behind_11 : decode cX1_behind 11 = .ok (.aload_n 0, 1) := by decide +kernel
theorem dX1_behind_12 : decode cX1_behind 12 = .ok (.iload_n 3, 1) := by decide +kernel
theorem dX1_behind_13 : decode cX1_behind 13 = .ok (.iload_n 2, 1) := by decide +kernel
theorem dX1_behind_14 : decode cX1_behind 14 = .ok (.invokestatic 15, 3) := by decide +kernel
theorem dX1_behind_17 : decode cX1_behind 17 = .ok (.goto 4, 3) := by decide +kernel
theorem dX1_behind_20 : decode cX1_behind 20 = .ok (.iconst 0, 1) := by decide +kernel
theorem dX1_behind_21 : decode cX1_behind 21 = .ok (.istore 4, 2) := by decide +kernel
theorem dX1_behind_23 : decode cX1_behind 23 = .ok (.iload 4, 2) := by decide +kernel
theorem dX1_behind_25 : decode cX1_behind 25 = .ok (.ifCond .le 21, 3) := by decide +kernel
theorem dX1_behind_28 : decode cX1_behind 28 = .ok (.ldc2_w 21, 3) := by decide +kernel
theorem dX1_behind_31 : decode cX1_behind 31 = .ok (.aload_n 0, 1) := by decide +kernel
theorem dX1_behind_32 : decode cX1_behind 32 = .ok (.iload_n 3, 1) := by decide +kernel
theorem dX1_behind_33 : decode cX1_behind 33 = .ok (.iload_n 2, 1) := by decide +kernel
theorem dX1_behind_34 : decode cX1_behind 34 = .ok (.invokestatic 23, 3) := by decide +kernel
theorem dX1_behind_37 : decode cX1_behind 37 = .ok (.lmul, 1) := by decide +kernel
theorem dX1_behind_38 : decode cX1_behind 38 = .ok (.iload 4, 2) := by decide +kernel
theorem dX1_behind_40 : decode cX1_behind 40 = .ok (.i2l, 1) := by decide +kernel
theorem dX1_behind_41 : decode cX1_behind 41 = .ok (.invokestatic 27, 3) := by decide +kernel
theorem dX1_behind_44 : decode cX1_behind 44 = .ok (.l2i, 1) := by decide +kernel
theorem dX1_behind_45 : decode cX1_behind 45 = .ok (.ireturn, 1) := by decide +kernel
theorem dX1_behind_46 : decode cX1_behind 46 = .ok (.iload_n 1, 1) := by decide +kernel
theorem dX1_behind_47 : decode cX1_behind 47 = .ok (.iconst 2, 1) := by decide +kernel
theorem dX1_behind_48 : decode cX1_behind 48 = .ok (.if_icmp .ne 11, 3) := by decide +kernel
theorem dX1_behind_51 : decode cX1_behind 51 = .ok (.aload_n 0, 1) := by decide +kernel
theorem dX1_behind_52 : decode cX1_behind 52 = .ok (.iload_n 2, 1) := by decide +kernel
theorem dX1_behind_53 : decode cX1_behind 53 = .ok (.iconst 1, 1) := by decide +kernel
theorem dX1_behind_54 : decode cX1_behind 54 = .ok (.isub, 1) := by decide +kernel
theorem dX1_behind_55 : decode cX1_behind 55 = .ok (.invokestatic 31, 3) := by decide +kernel
theorem dX1_behind_58 : decode cX1_behind 58 = .ok (.ireturn, 1) := by decide +kernel
theorem dX1_behind_59 : decode cX1_behind 59 = .ok (.aload_n 0, 1) := by decide +kernel
theorem dX1_behind_60 : decode cX1_behind 60 = .ok (.iload_n 2, 1) := by decide +kernel
theorem dX1_behind_61 : decode cX1_behind 61 = .ok (.iconst 1, 1) := by decide +kernel
theorem dX1_behind_62 : decode cX1_behind 62 = .ok (.isub, 1) := by decide +kernel
theorem dX1_behind_63 : decode cX1_behind 63 = .ok (.iload_n 1, 1) := by decide +kernel
theorem dX1_behind_64 : decode cX1_behind 64 = .ok (.ifCond .ne 10, 3) := by decide +kernel
theorem dX1_behind_67 : decode cX1_behind 67 = .ok (.aload_n 0, 1) := by decide +kernel
theorem dX1_behind_68 : decode cX1_behind 68 = .ok (.getfield 37, 3) := by decide +kernel
theorem dX1_behind_71 : decode cX1_behind 71 = .ok (.goto 7, 3) := by decide +kernel
theorem dX1_behind_74 : decode cX1_behind 74 = .ok (.aload_n 0, 1) := by decide +kernel
theorem dX1_behind_75 : decode cX1_behind 75 = .ok (.getfield 41, 3) := by decide +kernel
theorem dX1_behind_78 : decode cX1_behind 78 = .ok (.invokestatic 44, 3) := by decide +kernel
theorem dX1_behind_81 : decode cX1_behind 81 = .ok (.ireturn, 1) := by decide +kernel
theorem dX1_missOf_0 : decode cX1_missOf 0 = .ok (.lconst 0, 1) := by decide +kernel
theorem dX1_missOf_1 : decode cX1_missOf 1 = .ok (.lstore_n 2, 1) := by decide +kernel
theorem dX1_missOf_2 : decode cX1_missOf 2 = .ok (.iconst 1, 1) := by decide +kernel
theorem dX1_missOf_3 : decode cX1_missOf 3 = .ok (.istore 4, 2) := by decide +kernel
theorem dX1_missOf_5 : decode cX1_missOf 5 = .ok (.iload 4, 2) := by decide +kernel
theorem dX1_missOf_7 : decode cX1_missOf 7 = .ok (.aload_n 0, 1) := by decide +kernel
theorem dX1_missOf_8 : decode cX1_missOf 8 = .ok (.getfield 47, 3) := by decide +kernel
theorem dX1_missOf_11 : decode cX1_missOf 11 = .ok (.if_icmp .ge 34, 3) := by decide +kernel
theorem dX1_missOf_14 : decode cX1_missOf 14 = .ok (.lload_n 2, 1) := by decide +kernel
theorem dX1_missOf_15 : decode cX1_missOf 15 = .ok (.aload_n 0, 1) := by decide +kernel
theorem dX1_missOf_16 : decode cX1_missOf 16 = .ok (.iload_n 1, 1) := by decide +kernel
theorem dX1_missOf_17 : decode cX1_missOf 17 = .ok (.iload 4, 2) := by decide +kernel
theorem dX1_missOf_19 : decode cX1_missOf 19 = .ok (.invokestatic 50, 3) := by decide +kernel
theorem dX1_missOf_22 : decode cX1_missOf 22 = .ok (.sipush 1000, 3) := by decide +kernel
theorem dX1_missOf_25 : decode cX1_missOf 25 = .ok (.aload_n 0, 1) := by decide +kernel
theorem dX1_missOf_26 : decode cX1_missOf 26 = .ok (.iload 4, 2) := by decide +kernel
theorem dX1_missOf_28 : decode cX1_missOf 28 = .ok (.invokevirtual 55, 3) := by decide +kernel
theorem dX1_missOf_31 : decode cX1_missOf 31 = .ok (.imul, 1) := by decide +kernel
theorem dX1_missOf_32 : decode cX1_missOf 32 = .ok (.isub, 1) := by decide +kernel
theorem dX1_missOf_33 : decode cX1_missOf 33 = .ok (.invokestatic 58, 3) := by decide +kernel
theorem dX1_missOf_36 : decode cX1_missOf 36 = .ok (.i2l, 1) := by decide +kernel
theorem dX1_missOf_37 : decode cX1_missOf 37 = .ok (.ladd, 1) := by decide +kernel
theorem dX1_missOf_38 : decode cX1_missOf 38 = .ok (.lstore_n 2, 1) := by decide +kernel
theorem dX1_missOf_39 : decode cX1_missOf 39 = .ok (.iinc 4 1, 3) := by decide +kernel
theorem dX1_missOf_42 : decode cX1_missOf 42 = .ok (.goto (-37), 3) := by decide +kernel
theorem dX1_missOf_45 : decode cX1_missOf 45 = .ok (.lload_n 2, 1) := by decide +kernel
theorem dX1_missOf_46 : decode cX1_missOf 46 = .ok (.aload_n 0, 1) := by decide +kernel
theorem dX1_missOf_47 : decode cX1_missOf 47 = .ok (.getfield 47, 3) := by decide +kernel
theorem dX1_missOf_50 : decode cX1_missOf 50 = .ok (.iconst 1, 1) := by decide +kernel
theorem dX1_missOf_51 : decode cX1_missOf 51 = .ok (.isub, 1) := by decide +kernel
theorem dX1_missOf_52 : decode cX1_missOf 52 = .ok (.i2l, 1) := by decide +kernel
theorem dX1_missOf_53 : decode cX1_missOf 53 = .ok (.invokestatic 27, 3) := by decide +kernel
theorem dX1_missOf_56 : decode cX1_missOf 56 = .ok (.l2i, 1) := by decide +kernel
theorem dX1_missOf_57 : decode cX1_missOf 57 = .ok (.ireturn, 1) := by decide +kernel
theorem dX1_best_0 : decode cX1_best 0 = .ok (.iconst 0, 1) := by decide +kernel
theorem dX1_best_1 : decode cX1_best 1 = .ok (.istore_n 1, 1) := by decide +kernel
theorem dX1_best_2 : decode cX1_best 2 = .ok (.aload_n 0, 1) := by decide +kernel
theorem dX1_best_3 : decode cX1_best 3 = .ok (.iconst 0, 1) := by decide +kernel
theorem dX1_best_4 : decode cX1_best 4 = .ok (.invokestatic 63, 3) := by decide +kernel
theorem dX1_best_7 : decode cX1_best 7 = .ok (.istore_n 2, 1) := by decide +kernel
theorem dX1_best_8 : decode cX1_best 8 = .ok (.iconst 1, 1) := by decide +kernel
theorem dX1_best_9 : decode cX1_best 9 = .ok (.istore_n 3, 1) := by decide +kernel
theorem dX1_best_10 : decode cX1_best 10 = .ok (.iload_n 3, 1) := by decide +kernel
theorem dX1_best_11 : decode cX1_best 11 = .ok (.iconst 4, 1) := by decide +kernel
theorem dX1_best_12 : decode cX1_best 12 = .ok (.if_icmp .ge 27, 3) := by decide +kernel
theorem dX1_best_15 : decode cX1_best 15 = .ok (.aload_n 0, 1) := by decide +kernel
theorem dX1_best_16 : decode cX1_best 16 = .ok (.iload_n 3, 1) := by decide +kernel
theorem dX1_best_17 : decode cX1_best 17 = .ok (.invokestatic 63, 3) := by decide +kernel
theorem dX1_best_20 : decode cX1_best 20 = .ok (.istore 4, 2) := by decide +kernel
theorem dX1_best_22 : decode cX1_best 22 = .ok (.iload 4, 2) := by decide +kernel
theorem dX1_best_24 : decode cX1_best 24 = .ok (.iload_n 2, 1) := by decide +kernel
theorem dX1_best_25 : decode cX1_best 25 = .ok (.if_icmp .ge 8, 3) := by decide +kernel
theorem dX1_best_28 : decode cX1_best 28 = .ok (.iload 4, 2) := by decide +kernel
theorem dX1_best_30 : decode cX1_best 30 = .ok (.istore_n 2, 1) := by decide +kernel
theorem dX1_best_31 : decode cX1_best 31 = .ok (.iload_n 3, 1) := by decide +kernel
theorem dX1_best_32 : decode cX1_best 32 = .ok (.istore_n 1, 1) := by decide +kernel
theorem dX1_best_33 : decode cX1_best 33 = .ok (.iinc 3 1, 3) := by decide +kernel
theorem dX1_best_36 : decode cX1_best 36 = .ok (.goto (-26), 3) := by decide +kernel
theorem dX1_best_39 : decode cX1_best 39 = .ok (.iload_n 1, 1) := by decide +kernel
theorem dX1_best_40 : decode cX1_best 40 = .ok (.ireturn, 1) := by decide +kernel
theorem dX2_init_0 : decode cX2_init 0 = .ok (.aload_n 0, 1) := by decide +kernel
theorem dX2_init_1 : decode cX2_init 1 = .ok (.invokespecial 3, 3) := by decide +kernel
theorem dX2_init_4 : decode cX2_init 4 = .ok (.aload_n 0, 1) := by decide +kernel
theorem dX2_init_5 : decode cX2_init 5 = .ok (.bipush 60, 2) := by decide +kernel
theorem dX2_init_7 : decode cX2_init 7 = .ok (.newarray .int, 2) := by decide +kernel
theorem dX2_init_9 : decode cX2_init 9 = .ok (.putfield 9, 3) := by decide +kernel
theorem dX2_init_12 : decode cX2_init 12 = .ok (.aload_n 0, 1) := by decide +kernel
theorem dX2_init_13 : decode cX2_init 13 = .ok (.iconst 0, 1) := by decide +kernel
theorem dX2_init_14 : decode cX2_init 14 = .ok (.putfield 15, 3) := by decide +kernel
theorem dX2_init_17 : decode cX2_init 17 = .ok (.aload_n 0, 1) := by decide +kernel
theorem dX2_init_18 : decode cX2_init 18 = .ok (.iconst 0, 1) := by decide +kernel
theorem dX2_init_19 : decode cX2_init 19 = .ok (.putfield 19, 3) := by decide +kernel
theorem dX2_init_22 : decode cX2_init 22 = .ok (.return_, 1) := by decide +kernel
theorem dX2_byLooking_0 : decode cX2_byLooking 0 = .ok (.iconst 0, 1) := by decide +kernel
theorem dX2_byLooking_1 : decode cX2_byLooking 1 = .ok (.istore_n 2, 1) := by decide +kernel
theorem dX2_byLooking_2 : decode cX2_byLooking 2 = .ok (.iload_n 1, 1) := by decide +kernel
theorem dX2_byLooking_3 : decode cX2_byLooking 3 = .ok (.aload_n 0, 1) := by decide +kernel
theorem dX2_byLooking_4 : decode cX2_byLooking 4 = .ok (.getfield 22, 3) := by decide +kernel
theorem dX2_byLooking_7 : decode cX2_byLooking 7 = .ok (.invokestatic 27, 3) := by decide +kernel
theorem dX2_byLooking_10 : decode cX2_byLooking 10 = .ok (.istore_n 3, 1) := by decide +kernel
theorem dX2_byLooking_11 : decode cX2_byLooking 11 = .ok (.iload_n 3, 1) := by decide +kernel
theorem dX2_byLooking_12 : decode cX2_byLooking 12 = .ok (.iload_n 1, 1) := by decide +kernel
theorem dX2_byLooking_13 : decode cX2_byLooking 13 = .ok (.if_icmp .gt 19, 3) := by decide +kernel
theorem dX2_byLooking_16 : decode cX2_byLooking 16 = .ok (.iload_n 2, 1) := by decide +kernel
theorem dX2_byLooking_17 : decode cX2_byLooking 17 = .ok (.aload_n 0, 1) := by decide +kernel
theorem dX2_byLooking_18 : decode cX2_byLooking 18 = .ok (.iload_n 3, 1) := by decide +kernel
theorem dX2_byLooking_19 : decode cX2_byLooking 19 = .ok (.invokevirtual 33, 3) := by decide +kernel
theorem dX2_byLooking_22 : decode cX2_byLooking 22 = .ok (.invokestatic 37, 3) := by decide +kernel
theorem dX2_byLooking_25 : decode cX2_byLooking 25 = .ok (.istore_n 2, 1) := by decide +kernel
theorem dX2_byLooking_26 : decode cX2_byLooking 26 = .ok (.iinc 3 1, 3) := by decide +kernel
theorem dX2_byLooking_29 : decode cX2_byLooking 29 = .ok (.goto (-18), 3) := by decide +kernel
theorem dX2_byLooking_32 : decode cX2_byLooking 32 = .ok (.iload_n 2, 1) := by decide +kernel
theorem dX2_byLooking_33 : decode cX2_byLooking 33 = .ok (.ireturn, 1) := by decide +kernel
theorem dX2_byRow_0 : decode cX2_byRow 0 = .ok (.aload_n 0, 1) := by decide +kernel
theorem dX2_byRow_1 : decode cX2_byRow 1 = .ok (.iconst 0, 1) := by decide +kernel
theorem dX2_byRow_2 : decode cX2_byRow 2 = .ok (.putfield 15, 3) := by decide +kernel
theorem dX2_byRow_5 : decode cX2_byRow 5 = .ok (.aload_n 0, 1) := by decide +kernel
theorem dX2_byRow_6 : decode cX2_byRow 6 = .ok (.iconst 0, 1) := by decide +kernel
theorem dX2_byRow_7 : decode cX2_byRow 7 = .ok (.putfield 19, 3) := by decide +kernel
theorem dX2_byRow_10 : decode cX2_byRow 10 = .ok (.iconst 0, 1) := by decide +kernel
theorem dX2_byRow_11 : decode cX2_byRow 11 = .ok (.istore_n 3, 1) := by decide +kernel
theorem dX2_byRow_12 : decode cX2_byRow 12 = .ok (.iload_n 3, 1) := by decide +kernel
theorem dX2_byRow_13 : decode cX2_byRow 13 = .ok (.iload_n 2, 1) := by decide +kernel
theorem dX2_byRow_14 : decode cX2_byRow 14 = .ok (.if_icmp .gt 27, 3) := by decide +kernel
theorem dX2_byRow_17 : decode cX2_byRow 17 = .ok (.aload_n 0, 1) := by decide +kernel
theorem dX2_byRow_18 : decode cX2_byRow 18 = .ok (.aload_n 1, 1) := by decide +kernel
theorem dX2_byRow_19 : decode cX2_byRow 19 = .ok (.iload_n 3, 1) := by decide +kernel
theorem dX2_byRow_20 : decode cX2_byRow 20 = .ok (.invokevirtual 42, 3) := by decide +kernel
theorem dX2_byRow_23 : decode cX2_byRow 23 = .ok (.aload_n 0, 1) := by decide +kernel
theorem dX2_byRow_24 : decode cX2_byRow 24 = .ok (.iload_n 3, 1) := by decide +kernel
theorem dX2_byRow_25 : decode cX2_byRow 25 = .ok (.aload_n 1, 1) := by decide +kernel
theorem dX2_byRow_26 : decode cX2_byRow 26 = .ok (.getfield 22, 3) := by decide +kernel
theorem dX2_byRow_29 : decode cX2_byRow 29 = .ok (.invokestatic 27, 3) := by decide +kernel
theorem dX2_byRow_32 : decode cX2_byRow 32 = .ok (.invokevirtual 46, 3) := by decide +kernel
theorem dX2_byRow_35 : decode cX2_byRow 35 = .ok (.iinc 3 1, 3) := by decide +kernel
theorem dX2_byRow_38 : decode cX2_byRow 38 = .ok (.goto (-26), 3) := by decide +kernel
theorem dX2_byRow_41 : decode cX2_byRow 41 = .ok (.aload_n 1, 1) := by decide +kernel
theorem dX2_byRow_42 : decode cX2_byRow 42 = .ok (.aload_n 0, 1) := by decide +kernel
theorem dX2_byRow_43 : decode cX2_byRow 43 = .ok (.aload_n 0, 1) := by decide +kernel
theorem dX2_byRow_44 : decode cX2_byRow 44 = .ok (.getfield 15, 3) := by decide +kernel
theorem dX2_byRow_47 : decode cX2_byRow 47 = .ok (.invokevirtual 50, 3) := by decide +kernel
theorem dX2_byRow_50 : decode cX2_byRow 50 = .ok (.invokevirtual 33, 3) := by decide +kernel
theorem dX2_byRow_53 : decode cX2_byRow 53 = .ok (.ireturn, 1) := by decide +kernel
theorem dX2_enter_0 : decode cX2_enter 0 = .ok (.aload_n 0, 1) := by decide +kernel
theorem dX2_enter_1 : decode cX2_enter 1 = .ok (.getfield 19, 3) := by decide +kernel
theorem dX2_enter_4 : decode cX2_enter 4 = .ok (.aload_n 0, 1) := by decide +kernel
theorem dX2_enter_5 : decode cX2_enter 5 = .ok (.getfield 15, 3) := by decide +kernel
theorem dX2_enter_8 : decode cX2_enter 8 = .ok (.if_icmp .le 38, 3) := by decide +kernel
theorem dX2_enter_11 : decode cX2_enter 11 = .ok (.aload_n 1, 1) := by decide +kernel
theorem dX2_enter_12 : decode cX2_enter 12 = .ok (.aload_n 0, 1) := by decide +kernel
theorem dX2_enter_13 : decode cX2_enter 13 = .ok (.aload_n 0, 1) := by decide +kernel
theorem dX2_enter_14 : decode cX2_enter 14 = .ok (.getfield 19, 3) := by decide +kernel
theorem dX2_enter_17 : decode cX2_enter 17 = .ok (.iconst 1, 1) := by decide +kernel
theorem dX2_enter_18 : decode cX2_enter 18 = .ok (.isub, 1) := by decide +kernel
theorem dX2_enter_19 : decode cX2_enter 19 = .ok (.invokevirtual 50, 3) := by decide +kernel
theorem dX2_enter_22 : decode cX2_enter 22 = .ok (.invokevirtual 33, 3) := by decide +kernel
theorem dX2_enter_25 : decode cX2_enter 25 = .ok (.aload_n 1, 1) := by decide +kernel
theorem dX2_enter_26 : decode cX2_enter 26 = .ok (.iload_n 2, 1) := by decide +kernel
theorem dX2_enter_27 : decode cX2_enter 27 = .ok (.invokevirtual 33, 3) := by decide +kernel
theorem dX2_enter_30 : decode cX2_enter 30 = .ok (.if_icmp .gt 16, 3) := by decide +kernel
theorem dX2_enter_33 : decode cX2_enter 33 = .ok (.aload_n 0, 1) := by decide +kernel
theorem dX2_enter_34 : decode cX2_enter 34 = .ok (.dup, 1) := by decide +kernel
theorem dX2_enter_35 : decode cX2_enter 35 = .ok (.getfield 19, 3) := by decide +kernel
theorem dX2_enter_38 : decode cX2_enter 38 = .ok (.iconst 1, 1) := by decide +kernel
theorem dX2_enter_39 : decode cX2_enter 39 = .ok (.isub, 1) := by decide +kernel
theorem dX2_enter_40 : decode cX2_enter 40 = .ok (.putfield 19, 3) := by decide +kernel
theorem dX2_enter_43 : decode cX2_enter 43 = .ok (.goto (-43), 3) := by decide +kernel
theorem dX2_enter_46 : decode cX2_enter 46 = .ok (.aload_n 0, 1) := by decide +kernel
theorem dX2_enter_47 : decode cX2_enter 47 = .ok (.getfield 19, 3) := by decide +kernel
theorem dX2_enter_50 : decode cX2_enter 50 = .ok (.ifCond .lt 35, 3) := by decide +kernel
theorem dX2_enter_53 : decode cX2_enter 53 = .ok (.aload_n 0, 1) := by decide +kernel
theorem dX2_enter_54 : decode cX2_enter 54 = .ok (.getfield 19, 3) := by decide +kernel
theorem dX2_enter_57 : decode cX2_enter 57 = .ok (.aload_n 0, 1) := by decide +kernel
theorem dX2_enter_58 : decode cX2_enter 58 = .ok (.getfield 9, 3) := by decide +kernel
theorem dX2_enter_61 : decode cX2_enter 61 = .ok (.arraylength, 1) := by decide +kernel
theorem dX2_enter_62 : decode cX2_enter 62 = .ok (.if_icmp .ge 23, 3) := by decide +kernel
theorem dX2_enter_65 : decode cX2_enter 65 = .ok (.aload_n 0, 1) := by decide +kernel
theorem dX2_enter_66 : decode cX2_enter 66 = .ok (.getfield 9, 3) := by decide +kernel
theorem dX2_enter_69 : decode cX2_enter 69 = .ok (.aload_n 0, 1) := by decide +kernel
theorem dX2_enter_70 : decode cX2_enter 70 = .ok (.getfield 19, 3) := by decide +kernel
theorem dX2_enter_73 : decode cX2_enter 73 = .ok (.iload_n 2, 1) := by decide +kernel
theorem dX2_enter_74 : decode cX2_enter 74 = .ok (.iastore, 1) := by decide +kernel
theorem dX2_enter_75 : decode cX2_enter 75 = .ok (.aload_n 0, 1) := by decide +kernel
theorem dX2_enter_76 : decode cX2_enter 76 = .ok (.dup, 1) := by decide +kernel
theorem dX2_enter_77 : decode cX2_enter 77 = .ok (.getfield 19, 3) := by decide +kernel
theorem dX2_enter_80 : decode cX2_enter 80 = .ok (.iconst 1, 1) := by decide +kernel
theorem dX2_enter_81 : decode cX2_enter 81 = .ok (.iadd, 1) := by decide +kernel
theorem dX2_enter_82 : decode cX2_enter 82 = .ok (.putfield 19, 3) := by decide +kernel
theorem dX2_enter_85 : decode cX2_enter 85 = .ok (.return_, 1) := by decide +kernel
theorem dX2_leave_0 : decode cX2_leave 0 = .ok (.aload_n 0, 1) := by decide +kernel
theorem dX2_leave_1 : decode cX2_leave 1 = .ok (.getfield 15, 3) := by decide +kernel
theorem dX2_leave_4 : decode cX2_leave 4 = .ok (.aload_n 0, 1) := by decide +kernel
theorem dX2_leave_5 : decode cX2_leave 5 = .ok (.getfield 19, 3) := by decide +kernel
theorem dX2_leave_8 : decode cX2_leave 8 = .ok (.if_icmp .ge 25, 3) := by decide +kernel
theorem dX2_leave_11 : decode cX2_leave 11 = .ok (.aload_n 0, 1) := by decide +kernel
theorem dX2_leave_12 : decode cX2_leave 12 = .ok (.aload_n 0, 1) := by decide +kernel
theorem dX2_leave_13 : decode cX2_leave 13 = .ok (.getfield 15, 3) := by decide +kernel
theorem dX2_leave_16 : decode cX2_leave 16 = .ok (.invokevirtual 50, 3) := by decide +kernel
theorem dX2_leave_19 : decode cX2_leave 19 = .ok (.iload_n 1, 1) := by decide +kernel
theorem dX2_leave_20 : decode cX2_leave 20 = .ok (.if_icmp .ge 13, 3) := by decide +kernel
theorem dX2_leave_23 : decode cX2_leave 23 = .ok (.aload_n 0, 1) := by decide +kernel
theorem dX2_leave_24 : decode cX2_leave 24 = .ok (.dup, 1) := by decide +kernel
theorem dX2_leave_25 : decode cX2_leave 25 = .ok (.getfield 15, 3) := by decide +kernel
theorem dX2_leave_28 : decode cX2_leave 28 = .ok (.iconst 1, 1) := by decide +kernel
theorem dX2_leave_29 : decode cX2_leave 29 = .ok (.iadd, 1) := by decide +kernel
theorem dX2_leave_30 : decode cX2_leave 30 = .ok (.putfield 15, 3) := by decide +kernel
theorem dX2_leave_33 : decode cX2_leave 33 = .ok (.return_, 1) := by decide +kernel
theorem dX2_candidate_0 : decode cX2_candidate 0 = .ok (.iload_n 1, 1) := by decide +kernel
theorem dX2_candidate_1 : decode cX2_candidate 1 = .ok (.ifCond .lt 21, 3) := by decide +kernel
theorem dX2_candidate_4 : decode cX2_candidate 4 = .ok (.iload_n 1, 1) := by decide +kernel
theorem dX2_candidate_5 : decode cX2_candidate 5 = .ok (.aload_n 0, 1) := by decide +kernel
theorem dX2_candidate_6 : decode cX2_candidate 6 = .ok (.getfield 9, 3) := by decide +kernel
theorem dX2_candidate_9 : decode cX2_candidate 9 = .ok (.arraylength, 1) := by decide +kernel
theorem dX2_candidate_10 : decode cX2_candidate 10 = .ok (.if_icmp .ge 12, 3) := by decide +kernel
theorem dX2_candidate_13 : decode cX2_candidate 13 = .ok (.aload_n 0, 1) := by decide +kernel
theorem dX2_candidate_14 : decode cX2_candidate 14 = .ok (.getfield 9, 3) := by decide +kernel
theorem dX2_candidate_17 : decode cX2_candidate 17 = .ok (.iload_n 1, 1) := by decide +kernel
theorem dX2_candidate_18 : decode cX2_candidate 18 = .ok (.iaload, 1) := by decide +kernel
theorem dX2_candidate_19 : decode cX2_candidate 19 = .ok (.goto 4, 3) := by decide +kernel
theorem dX2_candidate_22 : decode cX2_candidate 22 = .ok (.iconst 0, 1) := by decide +kernel
theorem dX2_candidate_23 : decode cX2_candidate 23 = .ok (.ireturn, 1) := by decide +kernel
theorem dX2_fallInOneGo_0 : decode cX2_fallInOneGo 0 = .ok (.iconst 0, 1) := by decide +kernel
theorem dX2_fallInOneGo_1 : decode cX2_fallInOneGo 1 = .ok (.istore_n 1, 1) := by decide +kernel
theorem dX2_fallInOneGo_2 : decode cX2_fallInOneGo 2 = .ok (.iconst 0, 1) := by decide +kernel
theorem dX2_fallInOneGo_3 : decode cX2_fallInOneGo 3 = .ok (.istore_n 2, 1) := by decide +kernel
theorem dX2_fallInOneGo_4 : decode cX2_fallInOneGo 4 = .ok (.iconst 0, 1) := by decide +kernel
theorem dX2_fallInOneGo_5 : decode cX2_fallInOneGo 5 = .ok (.istore_n 3, 1) := by decide +kernel
theorem dX2_fallInOneGo_6 : decode cX2_fallInOneGo 6 = .ok (.iload_n 3, 1) := by decide +kernel
theorem dX2_fallInOneGo_7 : decode cX2_fallInOneGo 7 = .ok (.aload_n 0, 1) := by decide +kernel
theorem dX2_fallInOneGo_8 : decode cX2_fallInOneGo 8 = .ok (.getfield 53, 3) := by decide +kernel
theorem dX2_fallInOneGo_11 : decode cX2_fallInOneGo 11 = .ok (.if_icmp .ge 31, 3) := by decide +kernel
theorem dX2_fallInOneGo_14 : decode cX2_fallInOneGo 14 = .ok (.iload_n 1, 1) := by decide +kernel
theorem dX2_fallInOneGo_15 : decode cX2_fallInOneGo 15 = .ok (.aload_n 0, 1) := by decide +kernel
theorem dX2_fallInOneGo_16 : decode cX2_fallInOneGo 16 = .ok (.iload_n 3, 1) := by decide +kernel
theorem dX2_fallInOneGo_17 : decode cX2_fallInOneGo 17 = .ok (.invokevirtual 33, 3) := by decide +kernel
theorem dX2_fallInOneGo_20 : decode cX2_fallInOneGo 20 = .ok (.invokestatic 37, 3) := by decide +kernel
theorem dX2_fallInOneGo_23 : decode cX2_fallInOneGo 23 = .ok (.istore_n 1, 1) := by decide +kernel
theorem dX2_fallInOneGo_24 : decode cX2_fallInOneGo 24 = .ok (.iload_n 2, 1) := by decide +kernel
theorem dX2_fallInOneGo_25 : decode cX2_fallInOneGo 25 = .ok (.iload_n 1, 1) := by decide +kernel
theorem dX2_fallInOneGo_26 : decode cX2_fallInOneGo 26 = .ok (.aload_n 0, 1) := by decide +kernel
theorem dX2_fallInOneGo_27 : decode cX2_fallInOneGo 27 = .ok (.iload_n 3, 1) := by decide +kernel
theorem dX2_fallInOneGo_28 : decode cX2_fallInOneGo 28 = .ok (.invokevirtual 33, 3) := by decide +kernel
theorem dX2_fallInOneGo_31 : decode cX2_fallInOneGo 31 = .ok (.isub, 1) := by decide +kernel
theorem dX2_fallInOneGo_32 : decode cX2_fallInOneGo 32 = .ok (.invokestatic 37, 3) := by decide +kernel
theorem dX2_fallInOneGo_35 : decode cX2_fallInOneGo 35 = .ok (.istore_n 2, 1) := by decide +kernel
theorem dX2_fallInOneGo_36 : decode cX2_fallInOneGo 36 = .ok (.iinc 3 1, 3) := by decide +kernel
theorem dX2_fallInOneGo_39 : decode cX2_fallInOneGo 39 = .ok (.goto (-33), 3) := by decide +kernel
theorem dX2_fallInOneGo_42 : decode cX2_fallInOneGo 42 = .ok (.iload_n 2, 1) := by decide +kernel
theorem dX2_fallInOneGo_43 : decode cX2_fallInOneGo 43 = .ok (.ireturn, 1) := by decide +kernel
theorem dX2_fallByPairs_0 : decode cX2_fallByPairs 0 = .ok (.iconst 0, 1) := by decide +kernel
theorem dX2_fallByPairs_1 : decode cX2_fallByPairs 1 = .ok (.istore_n 1, 1) := by decide +kernel
theorem dX2_fallByPairs_2 : decode cX2_fallByPairs 2 = .ok (.iconst 0, 1) := by decide +kernel
theorem dX2_fallByPairs_3 : decode cX2_fallByPairs 3 = .ok (.istore_n 2, 1) := by decide +kernel
theorem dX2_fallByPairs_4 : decode cX2_fallByPairs 4 = .ok (.iload_n 2, 1) := by decide +kernel
theorem dX2_fallByPairs_5 : decode cX2_fallByPairs 5 = .ok (.aload_n 0, 1) := by decide +kernel
theorem dX2_fallByPairs_6 : decode cX2_fallByPairs 6 = .ok (.getfield 53, 3) := by decide +kernel
theorem dX2_fallByPairs_9 : decode cX2_fallByPairs 9 = .ok (.if_icmp .ge 43, 3) := by decide +kernel
theorem dX2_fallByPairs_12 : decode cX2_fallByPairs 12 = .ok (.iload_n 2, 1) := by decide +kernel
theorem dX2_fallByPairs_13 : decode cX2_fallByPairs 13 = .ok (.iconst 1, 1) := by decide +kernel
theorem dX2_fallByPairs_14 : decode cX2_fallByPairs 14 = .ok (.iadd, 1) := by decide +kernel
theorem dX2_fallByPairs_15 : decode cX2_fallByPairs 15 = .ok (.istore_n 3, 1) := by decide +kernel
theorem dX2_fallByPairs_16 : decode cX2_fallByPairs 16 = .ok (.iload_n 3, 1) := by decide +kernel
theorem dX2_fallByPairs_17 : decode cX2_fallByPairs 17 = .ok (.aload_n 0, 1) := by decide +kernel
theorem dX2_fallByPairs_18 : decode cX2_fallByPairs 18 = .ok (.getfield 53, 3) := by decide +kernel
theorem dX2_fallByPairs_21 : decode cX2_fallByPairs 21 = .ok (.if_icmp .ge 25, 3) := by decide +kernel
theorem dX2_fallByPairs_24 : decode cX2_fallByPairs 24 = .ok (.iload_n 1, 1) := by decide +kernel
theorem dX2_fallByPairs_25 : decode cX2_fallByPairs 25 = .ok (.aload_n 0, 1) := by decide +kernel
theorem dX2_fallByPairs_26 : decode cX2_fallByPairs 26 = .ok (.iload_n 2, 1) := by decide +kernel
theorem dX2_fallByPairs_27 : decode cX2_fallByPairs 27 = .ok (.invokevirtual 33, 3) := by decide +kernel
theorem dX2_fallByPairs_30 : decode cX2_fallByPairs 30 = .ok (.aload_n 0, 1) := by decide +kernel
theorem dX2_fallByPairs_31 : decode cX2_fallByPairs 31 = .ok (.iload_n 3, 1) := by decide +kernel
theorem dX2_fallByPairs_32 : decode cX2_fallByPairs 32 = .ok (.invokevirtual 33, 3) := by decide +kernel
theorem dX2_fallByPairs_35 : decode cX2_fallByPairs 35 = .ok (.isub, 1) := by decide +kernel
theorem dX2_fallByPairs_36 : decode cX2_fallByPairs 36 = .ok (.invokestatic 37, 3) := by decide +kernel
theorem dX2_fallByPairs_39 : decode cX2_fallByPairs 39 = .ok (.istore_n 1, 1) := by decide +kernel
theorem dX2_fallByPairs_40 : decode cX2_fallByPairs 40 = .ok (.iinc 3 1, 3) := by decide +kernel
theorem dX2_fallByPairs_43 : decode cX2_fallByPairs 43 = .ok (.goto (-27), 3) := by decide +kernel
theorem dX2_fallByPairs_46 : decode cX2_fallByPairs 46 = .ok (.iinc 2 1, 3) := by decide +kernel
theorem dX2_fallByPairs_49 : decode cX2_fallByPairs 49 = .ok (.goto (-45), 3) := by decide +kernel
theorem dX2_fallByPairs_52 : decode cX2_fallByPairs 52 = .ok (.iload_n 1, 1) := by decide +kernel
theorem dX2_fallByPairs_53 : decode cX2_fallByPairs 53 = .ok (.ireturn, 1) := by decide +kernel
theorem dX2_riseInARow_0 : decode cX2_riseInARow 0 = .ok (.iconst 0, 1) := by decide +kernel
theorem dX2_riseInARow_1 : decode cX2_riseInARow 1 = .ok (.istore_n 1, 1) := by decide +kernel
theorem dX2_riseInARow_2 : decode cX2_riseInARow 2 = .ok (.iconst 0, 1) := by decide +kernel
theorem dX2_riseInARow_3 : decode cX2_riseInARow 3 = .ok (.istore_n 2, 1) := by decide +kernel
theorem dX2_riseInARow_4 : decode cX2_riseInARow 4 = .ok (.iconst 1, 1) := by decide +kernel
theorem dX2_riseInARow_5 : decode cX2_riseInARow 5 = .ok (.istore_n 3, 1) := by decide +kernel
theorem dX2_riseInARow_6 : decode cX2_riseInARow 6 = .ok (.iload_n 3, 1) := by decide +kernel
theorem dX2_riseInARow_7 : decode cX2_riseInARow 7 = .ok (.aload_n 0, 1) := by decide +kernel
theorem dX2_riseInARow_8 : decode cX2_riseInARow 8 = .ok (.getfield 53, 3) := by decide +kernel
theorem dX2_riseInARow_11 : decode cX2_riseInARow 11 = .ok (.if_icmp .ge 38, 3) := by decide +kernel
theorem dX2_riseInARow_14 : decode cX2_riseInARow 14 = .ok (.aload_n 0, 1) := by decide +kernel
theorem dX2_riseInARow_15 : decode cX2_riseInARow 15 = .ok (.iload_n 3, 1) := by decide +kernel
theorem dX2_riseInARow_16 : decode cX2_riseInARow 16 = .ok (.invokevirtual 33, 3) := by decide +kernel
theorem dX2_riseInARow_19 : decode cX2_riseInARow 19 = .ok (.aload_n 0, 1) := by decide +kernel
theorem dX2_riseInARow_20 : decode cX2_riseInARow 20 = .ok (.iload_n 3, 1) := by decide +kernel
theorem dX2_riseInARow_21 : decode cX2_riseInARow 21 = .ok (.iconst 1, 1) := by decide +kernel
theorem dX2_riseInARow_22 : decode cX2_riseInARow 22 = .ok (.isub, 1) := by decide +kernel
theorem dX2_riseInARow_23 : decode cX2_riseInARow 23 = .ok (.invokevirtual 33, 3) := by decide +kernel
theorem dX2_riseInARow_26 : decode cX2_riseInARow 26 = .ok (.if_icmp .le 9, 3) := by decide +kernel
theorem dX2_riseInARow_29 : decode cX2_riseInARow 29 = .ok (.iload_n 2, 1) := by decide +kernel
theorem dX2_riseInARow_30 : decode cX2_riseInARow 30 = .ok (.iconst 1, 1) := by decide +kernel
theorem dX2_riseInARow_31 : decode cX2_riseInARow 31 = .ok (.iadd, 1) := by decide +kernel
theorem dX2_riseInARow_32 : decode cX2_riseInARow 32 = .ok (.goto 4, 3) := by decide +kernel
theorem dX2_riseInARow_35 : decode cX2_riseInARow 35 = .ok (.iconst 0, 1) := by decide +kernel
theorem dX2_riseInARow_36 : decode cX2_riseInARow 36 = .ok (.istore_n 2, 1) := by decide +kernel
theorem dX2_riseInARow_37 : decode cX2_riseInARow 37 = .ok (.iload_n 1, 1) := by decide +kernel
theorem dX2_riseInARow_38 : decode cX2_riseInARow 38 = .ok (.iload_n 2, 1) := by decide +kernel
theorem dX2_riseInARow_39 : decode cX2_riseInARow 39 = .ok (.invokestatic 37, 3) := by decide +kernel
theorem dX2_riseInARow_42 : decode cX2_riseInARow 42 = .ok (.istore_n 1, 1) := by decide +kernel
theorem dX2_riseInARow_43 : decode cX2_riseInARow 43 = .ok (.iinc 3 1, 3) := by decide +kernel
theorem dX2_riseInARow_46 : decode cX2_riseInARow 46 = .ok (.goto (-40), 3) := by decide +kernel
theorem dX2_riseInARow_49 : decode cX2_riseInARow 49 = .ok (.iload_n 1, 1) := by decide +kernel
theorem dX2_riseInARow_50 : decode cX2_riseInARow 50 = .ok (.ireturn, 1) := by decide +kernel
theorem dX3_init_0 : decode cX3_init 0 = .ok (.aload_n 0, 1) := by decide +kernel
theorem dX3_init_1 : decode cX3_init 1 = .ok (.invokespecial 3, 3) := by decide +kernel
theorem dX3_init_4 : decode cX3_init 4 = .ok (.aload_n 0, 1) := by decide +kernel
theorem dX3_init_5 : decode cX3_init 5 = .ok (.bipush 6, 2) := by decide +kernel
theorem dX3_init_7 : decode cX3_init 7 = .ok (.anewarray 9, 3) := by decide +kernel
theorem dX3_init_10 : decode cX3_init 10 = .ok (.putfield 11, 3) := by decide +kernel
theorem dX3_init_13 : decode cX3_init 13 = .ok (.aload_n 0, 1) := by decide +kernel
theorem dX3_init_14 : decode cX3_init 14 = .ok (.iconst 0, 1) := by decide +kernel
theorem dX3_init_15 : decode cX3_init 15 = .ok (.putfield 17, 3) := by decide +kernel
theorem dX3_init_18 : decode cX3_init 18 = .ok (.aload_n 0, 1) := by decide +kernel
theorem dX3_init_19 : decode cX3_init 19 = .ok (.iconst 0, 1) := by decide +kernel
theorem dX3_init_20 : decode cX3_init 20 = .ok (.putfield 21, 3) := by decide +kernel
theorem dX3_init_23 : decode cX3_init 23 = .ok (.iconst 0, 1) := by decide +kernel
theorem dX3_init_24 : decode cX3_init 24 = .ok (.istore_n 1, 1) := by decide +kernel
theorem dX3_init_25 : decode cX3_init 25 = .ok (.iload_n 1, 1) := by decide +kernel
theorem dX3_init_26 : decode cX3_init 26 = .ok (.aload_n 0, 1) := by decide +kernel
theorem dX3_init_27 : decode cX3_init 27 = .ok (.getfield 11, 3) := by decide +kernel
theorem dX3_init_30 : decode cX3_init 30 = .ok (.arraylength, 1) := by decide +kernel
theorem dX3_init_31 : decode cX3_init 31 = .ok (.if_icmp .ge 22, 3) := by decide +kernel
theorem dX3_init_34 : decode cX3_init 34 = .ok (.aload_n 0, 1) := by decide +kernel
theorem dX3_init_35 : decode cX3_init 35 = .ok (.getfield 11, 3) := by decide +kernel
theorem dX3_init_38 : decode cX3_init 38 = .ok (.iload_n 1, 1) := by decide +kernel
theorem dX3_init_39 : decode cX3_init 39 = .ok (.new 9, 3) := by decide +kernel
theorem dX3_init_42 : decode cX3_init 42 = .ok (.dup, 1) := by decide +kernel
theorem dX3_init_43 : decode cX3_init 43 = .ok (.invokespecial 24, 3) := by decide +kernel
theorem dX3_init_46 : decode cX3_init 46 = .ok (.aastore, 1) := by decide +kernel
theorem dX3_init_47 : decode cX3_init 47 = .ok (.iinc 1 1, 3) := by decide +kernel
theorem dX3_init_50 : decode cX3_init 50 = .ok (.goto (-25), 3) := by decide +kernel
theorem dX3_init_53 : decode cX3_init 53 = .ok (.return_, 1) := by decide +kernel
theorem dX3_save_0 : decode cX3_save 0 = .ok (.aload_n 0, 1) := by decide +kernel
theorem dX3_save_1 : decode cX3_save 1 = .ok (.getfield 21, 3) := by decide +kernel
theorem dX3_save_4 : decode cX3_save 4 = .ok (.bipush 6, 2) := by decide +kernel
theorem dX3_save_6 : decode cX3_save 6 = .ok (.if_icmp .ne 19, 3) := by decide +kernel
theorem dX3_save_9 : decode cX3_save 9 = .ok (.aload_n 0, 1) := by decide +kernel
theorem dX3_save_10 : decode cX3_save 10 = .ok (.aload_n 0, 1) := by decide +kernel
theorem dX3_save_11 : decode cX3_save 11 = .ok (.getfield 17, 3) := by decide +kernel
theorem dX3_save_14 : decode cX3_save 14 = .ok (.iconst 1, 1) := by decide +kernel
theorem dX3_save_15 : decode cX3_save 15 = .ok (.iadd, 1) := by decide +kernel
theorem dX3_save_16 : decode cX3_save 16 = .ok (.bipush 6, 2) := by decide +kernel
theorem dX3_save_18 : decode cX3_save 18 = .ok (.irem, 1) := by decide +kernel
theorem dX3_save_19 : decode cX3_save 19 = .ok (.putfield 17, 3) := by decide +kernel
theorem dX3_save_22 : decode cX3_save 22 = .ok (.goto 13, 3) := by decide +kernel
theorem dX3_save_25 : decode cX3_save 25 = .ok (.aload_n 0, 1) := by decide +kernel
theorem dX3_save_26 : decode cX3_save 26 = .ok (.dup, 1) := by decide +kernel
theorem dX3_save_27 : decode cX3_save 27 = .ok (.getfield 21, 3) := by decide +kernel
theorem dX3_save_30 : decode cX3_save 30 = .ok (.iconst 1, 1) := by decide +kernel
theorem dX3_save_31 : decode cX3_save 31 = .ok (.iadd, 1) := by decide +kernel
theorem dX3_save_32 : decode cX3_save 32 = .ok (.putfield 21, 3) := by decide +kernel
theorem dX3_save_35 : decode cX3_save 35 = .ok (.aload_n 0, 1) := by decide +kernel
theorem dX3_save_36 : decode cX3_save 36 = .ok (.invokevirtual 25, 3) := by decide +kernel
theorem dX3_save_39 : decode cX3_save 39 = .ok (.astore_n 2, 1) := by decide +kernel
theorem dX3_save_40 : decode cX3_save 40 = .ok (.aload_n 2, 1) := by decide +kernel
theorem dX3_save_41 : decode cX3_save 41 = .ok (.ifnull 8, 3) := by decide +kernel
theorem dX3_save_44 : decode cX3_save 44 = .ok (.aload_n 2, 1) := by decide +kernel
theorem dX3_save_45 : decode cX3_save 45 = .ok (.aload_n 1, 1) := by decide +kernel
theorem dX3_save_46 : decode cX3_save 46 = .ok (.invokevirtual 29, 3) := by decide +kernel
theorem dX3_save_49 : decode cX3_save 49 = .ok (.return_, 1) := by decide +kernel
theorem dX3_takeBack_0 : decode cX3_takeBack 0 = .ok (.aload_n 0, 1) := by decide +kernel
theorem dX3_takeBack_1 : decode cX3_takeBack 1 = .ok (.invokevirtual 25, 3) := by decide +kernel
theorem dX3_takeBack_4 : decode cX3_takeBack 4 = .ok (.astore_n 2, 1) := by decide +kernel
theorem dX3_takeBack_5 : decode cX3_takeBack 5 = .ok (.aload_n 2, 1) := by decide +kernel
theorem dX3_takeBack_6 : decode cX3_takeBack 6 = .ok (.ifnull 25, 3) := by decide +kernel
theorem dX3_takeBack_9 : decode cX3_takeBack 9 = .ok (.aload_n 0, 1) := by decide +kernel
theorem dX3_takeBack_10 : decode cX3_takeBack 10 = .ok (.getfield 21, 3) := by decide +kernel
theorem dX3_takeBack_13 : decode cX3_takeBack 13 = .ok (.ifCond .le 18, 3) := by decide +kernel
theorem dX3_takeBack_16 : decode cX3_takeBack 16 = .ok (.aload_n 1, 1) := by decide +kernel
theorem dX3_takeBack_17 : decode cX3_takeBack 17 = .ok (.aload_n 2, 1) := by decide +kernel
theorem dX3_takeBack_18 : decode cX3_takeBack 18 = .ok (.invokevirtual 29, 3) := by decide +kernel
theorem dX3_takeBack_21 : decode cX3_takeBack 21 = .ok (.aload_n 0, 1) := by decide +kernel
theorem dX3_takeBack_22 : decode cX3_takeBack 22 = .ok (.dup, 1) := by decide +kernel
theorem dX3_takeBack_23 : decode cX3_takeBack 23 = .ok (.getfield 21, 3) := by decide +kernel
theorem dX3_takeBack_26 : decode cX3_takeBack 26 = .ok (.iconst 1, 1) := by decide +kernel
theorem dX3_takeBack_27 : decode cX3_takeBack 27 = .ok (.isub, 1) := by decide +kernel
theorem dX3_takeBack_28 : decode cX3_takeBack 28 = .ok (.putfield 21, 3) := by decide +kernel
theorem dX3_takeBack_31 : decode cX3_takeBack 31 = .ok (.return_, 1) := by decide +kernel
theorem dX3_newest_0 : decode cX3_newest 0 = .ok (.aload_n 0, 1) := by decide +kernel
theorem dX3_newest_1 : decode cX3_newest 1 = .ok (.getfield 17, 3) := by decide +kernel
theorem dX3_newest_4 : decode cX3_newest 4 = .ok (.aload_n 0, 1) := by decide +kernel
theorem dX3_newest_5 : decode cX3_newest 5 = .ok (.getfield 21, 3) := by decide +kernel
theorem dX3_newest_8 : decode cX3_newest 8 = .ok (.iadd, 1) := by decide +kernel
theorem dX3_newest_9 : decode cX3_newest 9 = .ok (.bipush 6, 2) := by decide +kernel
theorem dX3_newest_11 : decode cX3_newest 11 = .ok (.iadd, 1) := by decide +kernel
theorem dX3_newest_12 : decode cX3_newest 12 = .ok (.iconst 1, 1) := by decide +kernel
theorem dX3_newest_13 : decode cX3_newest 13 = .ok (.isub, 1) := by decide +kernel
theorem dX3_newest_14 : decode cX3_newest 14 = .ok (.bipush 6, 2) := by decide +kernel
theorem dX3_newest_16 : decode cX3_newest 16 = .ok (.irem, 1) := by decide +kernel
theorem dX3_newest_17 : decode cX3_newest 17 = .ok (.istore_n 1, 1) := by decide +kernel
theorem dX3_newest_18 : decode cX3_newest 18 = .ok (.iload_n 1, 1) := by decide +kernel
theorem dX3_newest_19 : decode cX3_newest 19 = .ok (.ifCond .lt 21, 3) := by decide +kernel
theorem dX3_newest_22 : decode cX3_newest 22 = .ok (.iload_n 1, 1) := by decide +kernel
theorem dX3_newest_23 : decode cX3_newest 23 = .ok (.aload_n 0, 1) := by decide +kernel
theorem dX3_newest_24 : decode cX3_newest 24 = .ok (.getfield 11, 3) := by decide +kernel
theorem dX3_newest_27 : decode cX3_newest 27 = .ok (.arraylength, 1) := by decide +kernel
theorem dX3_newest_28 : decode cX3_newest 28 = .ok (.if_icmp .ge 12, 3) := by decide +kernel
theorem dX3_newest_31 : decode cX3_newest 31 = .ok (.aload_n 0, 1) := by decide +kernel
theorem dX3_newest_32 : decode cX3_newest 32 = .ok (.getfield 11, 3) := by decide +kernel
theorem dX3_newest_35 : decode cX3_newest 35 = .ok (.iload_n 1, 1) := by decide +kernel
theorem dX3_newest_36 : decode cX3_newest 36 = .ok (.aaload, 1) := by decide +kernel
theorem dX3_newest_37 : decode cX3_newest 37 = .ok (.goto 4, 3) := by decide +kernel
theorem dX3_newest_40 : decode cX3_newest 40 = .ok (.aconst_null, 1) := by decide +kernel
theorem dX3_newest_41 : decode cX3_newest 41 = .ok (.areturn, 1) := by decide +kernel
theorem dX4_firstOf_0 : decode cX4_firstOf 0 = .ok (.iload_n 0, 1) := by decide +kernel
theorem dX4_firstOf_1 : decode cX4_firstOf 1 = .ok (.iload_n 1, 1) := by decide +kernel
theorem dX4_firstOf_2 : decode cX4_firstOf 2 = .ok (.if_icmp .ge 7, 3) := by decide +kernel
theorem dX4_firstOf_5 : decode cX4_firstOf 5 = .ok (.iconst 0, 1) := by decide +kernel
theorem dX4_firstOf_6 : decode cX4_firstOf 6 = .ok (.goto 8, 3) := by decide +kernel
theorem dX4_firstOf_9 : decode cX4_firstOf 9 = .ok (.iload_n 0, 1) := by decide +kernel
theorem dX4_firstOf_10 : decode cX4_firstOf 10 = .ok (.iload_n 1, 1) := by decide +kernel
theorem dX4_firstOf_11 : decode cX4_firstOf 11 = .ok (.isub, 1) := by decide +kernel
theorem dX4_firstOf_12 : decode cX4_firstOf 12 = .ok (.iconst 1, 1) := by decide +kernel
theorem dX4_firstOf_13 : decode cX4_firstOf 13 = .ok (.iadd, 1) := by decide +kernel
theorem dX4_firstOf_14 : decode cX4_firstOf 14 = .ok (.ireturn, 1) := by decide +kernel
theorem dX4_byAdding_0 : decode cX4_byAdding 0 = .ok (.iload_n 1, 1) := by decide +kernel
theorem dX4_byAdding_1 : decode cX4_byAdding 1 = .ok (.iload_n 2, 1) := by decide +kernel
theorem dX4_byAdding_2 : decode cX4_byAdding 2 = .ok (.invokestatic 9, 3) := by decide +kernel
theorem dX4_byAdding_5 : decode cX4_byAdding 5 = .ok (.istore_n 3, 1) := by decide +kernel
theorem dX4_byAdding_6 : decode cX4_byAdding 6 = .ok (.lconst 0, 1) := by decide +kernel
theorem dX4_byAdding_7 : decode cX4_byAdding 7 = .ok (.lstore 4, 2) := by decide +kernel
theorem dX4_byAdding_9 : decode cX4_byAdding 9 = .ok (.iload_n 3, 1) := by decide +kernel
theorem dX4_byAdding_10 : decode cX4_byAdding 10 = .ok (.istore 6, 2) := by decide +kernel
theorem dX4_byAdding_12 : decode cX4_byAdding 12 = .ok (.iload 6, 2) := by decide +kernel
theorem dX4_byAdding_14 : decode cX4_byAdding 14 = .ok (.iload_n 1, 1) := by decide +kernel
theorem dX4_byAdding_15 : decode cX4_byAdding 15 = .ok (.if_icmp .gt 21, 3) := by decide +kernel
theorem dX4_byAdding_18 : decode cX4_byAdding 18 = .ok (.lload 4, 2) := by decide +kernel
theorem dX4_byAdding_20 : decode cX4_byAdding 20 = .ok (.aload_n 0, 1) := by decide +kernel
theorem dX4_byAdding_21 : decode cX4_byAdding 21 = .ok (.iload 6, 2) := by decide +kernel
theorem dX4_byAdding_23 : decode cX4_byAdding 23 = .ok (.invokevirtual 15, 3) := by decide +kernel
theorem dX4_byAdding_26 : decode cX4_byAdding 26 = .ok (.i2l, 1) := by decide +kernel
theorem dX4_byAdding_27 : decode cX4_byAdding 27 = .ok (.ladd, 1) := by decide +kernel
theorem dX4_byAdding_28 : decode cX4_byAdding 28 = .ok (.lstore 4, 2) := by decide +kernel
theorem dX4_byAdding_30 : decode cX4_byAdding 30 = .ok (.iinc 6 1, 3) := by decide +kernel
theorem dX4_byAdding_33 : decode cX4_byAdding 33 = .ok (.goto (-21), 3) := by decide +kernel
theorem dX4_byAdding_36 : decode cX4_byAdding 36 = .ok (.ldc2_w 21, 3) := by decide +kernel
theorem dX4_byAdding_39 : decode cX4_byAdding 39 = .ok (.lload 4, 2) := by decide +kernel
theorem dX4_byAdding_41 : decode cX4_byAdding 41 = .ok (.lmul, 1) := by decide +kernel
theorem dX4_byAdding_42 : decode cX4_byAdding 42 = .ok (.iload_n 1, 1) := by decide +kernel
theorem dX4_byAdding_43 : decode cX4_byAdding 43 = .ok (.iload_n 3, 1) := by decide +kernel
theorem dX4_byAdding_44 : decode cX4_byAdding 44 = .ok (.isub, 1) := by decide +kernel
theorem dX4_byAdding_45 : decode cX4_byAdding 45 = .ok (.iconst 1, 1) := by decide +kernel
theorem dX4_byAdding_46 : decode cX4_byAdding 46 = .ok (.iadd, 1) := by decide +kernel
theorem dX4_byAdding_47 : decode cX4_byAdding 47 = .ok (.i2l, 1) := by decide +kernel
theorem dX4_byAdding_48 : decode cX4_byAdding 48 = .ok (.invokestatic 23, 3) := by decide +kernel
theorem dX4_byAdding_51 : decode cX4_byAdding 51 = .ok (.l2i, 1) := by decide +kernel
theorem dX4_byAdding_52 : decode cX4_byAdding 52 = .ok (.ireturn, 1) := by decide +kernel
theorem dX4_bySums_0 : decode cX4_bySums 0 = .ok (.iload_n 1, 1) := by decide +kernel
theorem dX4_bySums_1 : decode cX4_bySums 1 = .ok (.iload_n 2, 1) := by decide +kernel
theorem dX4_bySums_2 : decode cX4_bySums 2 = .ok (.invokestatic 9, 3) := by decide +kernel
theorem dX4_bySums_5 : decode cX4_bySums 5 = .ok (.istore_n 3, 1) := by decide +kernel
theorem dX4_bySums_6 : decode cX4_bySums 6 = .ok (.aload_n 0, 1) := by decide +kernel
theorem dX4_bySums_7 : decode cX4_bySums 7 = .ok (.iload_n 1, 1) := by decide +kernel
theorem dX4_bySums_8 : decode cX4_bySums 8 = .ok (.iconst 1, 1) := by decide +kernel
theorem dX4_bySums_9 : decode cX4_bySums 9 = .ok (.iadd, 1) := by decide +kernel
theorem dX4_bySums_10 : decode cX4_bySums 10 = .ok (.invokestatic 27, 3) := by decide +kernel
theorem dX4_bySums_13 : decode cX4_bySums 13 = .ok (.aload_n 0, 1) := by decide +kernel
theorem dX4_bySums_14 : decode cX4_bySums 14 = .ok (.iload_n 3, 1) := by decide +kernel
theorem dX4_bySums_15 : decode cX4_bySums 15 = .ok (.invokestatic 27, 3) := by decide +kernel
theorem dX4_bySums_18 : decode cX4_bySums 18 = .ok (.lsub, 1) := by decide +kernel
theorem dX4_bySums_19 : decode cX4_bySums 19 = .ok (.lstore 4, 2) := by decide +kernel
theorem dX4_bySums_21 : decode cX4_bySums 21 = .ok (.ldc2_w 21, 3) := by decide +kernel
theorem dX4_bySums_24 : decode cX4_bySums 24 = .ok (.lload 4, 2) := by decide +kernel
theorem dX4_bySums_26 : decode cX4_bySums 26 = .ok (.lmul, 1) := by decide +kernel
theorem dX4_bySums_27 : decode cX4_bySums 27 = .ok (.iload_n 1, 1) := by decide +kernel
theorem dX4_bySums_28 : decode cX4_bySums 28 = .ok (.iload_n 3, 1) := by decide +kernel
theorem dX4_bySums_29 : decode cX4_bySums 29 = .ok (.isub, 1) := by decide +kernel
theorem dX4_bySums_30 : decode cX4_bySums 30 = .ok (.iconst 1, 1) := by decide +kernel
theorem dX4_bySums_31 : decode cX4_bySums 31 = .ok (.iadd, 1) := by decide +kernel
theorem dX4_bySums_32 : decode cX4_bySums 32 = .ok (.i2l, 1) := by decide +kernel
theorem dX4_bySums_33 : decode cX4_bySums 33 = .ok (.invokestatic 23, 3) := by decide +kernel
theorem dX4_bySums_36 : decode cX4_bySums 36 = .ok (.l2i, 1) := by decide +kernel
theorem dX4_bySums_37 : decode cX4_bySums 37 = .ok (.ireturn, 1) := by decide +kernel
theorem dX4_sumAhead_0 : decode cX4_sumAhead 0 = .ok (.lconst 0, 1) := by decide +kernel
theorem dX4_sumAhead_1 : decode cX4_sumAhead 1 = .ok (.lstore_n 2, 1) := by decide +kernel
theorem dX4_sumAhead_2 : decode cX4_sumAhead 2 = .ok (.iconst 0, 1) := by decide +kernel
theorem dX4_sumAhead_3 : decode cX4_sumAhead 3 = .ok (.istore 4, 2) := by decide +kernel
theorem dX4_sumAhead_5 : decode cX4_sumAhead 5 = .ok (.iload 4, 2) := by decide +kernel
theorem dX4_sumAhead_7 : decode cX4_sumAhead 7 = .ok (.iload_n 1, 1) := by decide +kernel
theorem dX4_sumAhead_8 : decode cX4_sumAhead 8 = .ok (.if_icmp .ge 19, 3) := by decide +kernel
theorem dX4_sumAhead_11 : decode cX4_sumAhead 11 = .ok (.lload_n 2, 1) := by decide +kernel
theorem dX4_sumAhead_12 : decode cX4_sumAhead 12 = .ok (.aload_n 0, 1) := by decide +kernel
theorem dX4_sumAhead_13 : decode cX4_sumAhead 13 = .ok (.iload 4, 2) := by decide +kernel
theorem dX4_sumAhead_15 : decode cX4_sumAhead 15 = .ok (.invokevirtual 15, 3) := by decide +kernel
theorem dX4_sumAhead_18 : decode cX4_sumAhead 18 = .ok (.i2l, 1) := by decide +kernel
theorem dX4_sumAhead_19 : decode cX4_sumAhead 19 = .ok (.ladd, 1) := by decide +kernel
theorem dX4_sumAhead_20 : decode cX4_sumAhead 20 = .ok (.lstore_n 2, 1) := by decide +kernel
theorem dX4_sumAhead_21 : decode cX4_sumAhead 21 = .ok (.iinc 4 1, 3) := by decide +kernel
theorem dX4_sumAhead_24 : decode cX4_sumAhead 24 = .ok (.goto (-19), 3) := by decide +kernel
theorem dX4_sumAhead_27 : decode cX4_sumAhead 27 = .ok (.lload_n 2, 1) := by decide +kernel
theorem dX4_sumAhead_28 : decode cX4_sumAhead 28 = .ok (.lreturn, 1) := by decide +kernel
theorem dX4_weighted_0 : decode cX4_weighted 0 = .ok (.iload_n 1, 1) := by decide +kernel
theorem dX4_weighted_1 : decode cX4_weighted 1 = .ok (.aload_n 0, 1) := by decide +kernel
theorem dX4_weighted_2 : decode cX4_weighted 2 = .ok (.getfield 31, 3) := by decide +kernel
theorem dX4_weighted_5 : decode cX4_weighted 5 = .ok (.invokestatic 9, 3) := by decide +kernel
theorem dX4_weighted_8 : decode cX4_weighted 8 = .ok (.istore_n 2, 1) := by decide +kernel
theorem dX4_weighted_9 : decode cX4_weighted 9 = .ok (.lconst 0, 1) := by decide +kernel
theorem dX4_weighted_10 : decode cX4_weighted 10 = .ok (.lstore_n 3, 1) := by decide +kernel
theorem dX4_weighted_11 : decode cX4_weighted 11 = .ok (.lconst 0, 1) := by decide +kernel
theorem dX4_weighted_12 : decode cX4_weighted 12 = .ok (.lstore 5, 2) := by decide +kernel
theorem dX4_weighted_14 : decode cX4_weighted 14 = .ok (.iload_n 2, 1) := by decide +kernel
theorem dX4_weighted_15 : decode cX4_weighted 15 = .ok (.istore 7, 2) := by decide +kernel
theorem dX4_weighted_17 : decode cX4_weighted 17 = .ok (.iload 7, 2) := by decide +kernel
theorem dX4_weighted_19 : decode cX4_weighted 19 = .ok (.iload_n 1, 1) := by decide +kernel
theorem dX4_weighted_20 : decode cX4_weighted 20 = .ok (.if_icmp .gt 38, 3) := by decide +kernel
theorem dX4_weighted_23 : decode cX4_weighted 23 = .ok (.iload 7, 2) := by decide +kernel
theorem dX4_weighted_25 : decode cX4_weighted 25 = .ok (.iload_n 2, 1) := by decide +kernel
theorem dX4_weighted_26 : decode cX4_weighted 26 = .ok (.isub, 1) := by decide +kernel
theorem dX4_weighted_27 : decode cX4_weighted 27 = .ok (.iconst 1, 1) := by decide +kernel
theorem dX4_weighted_28 : decode cX4_weighted 28 = .ok (.iadd, 1) := by decide +kernel
theorem dX4_weighted_29 : decode cX4_weighted 29 = .ok (.i2l, 1) := by decide +kernel
theorem dX4_weighted_30 : decode cX4_weighted 30 = .ok (.lstore 8, 2) := by decide +kernel
theorem dX4_weighted_32 : decode cX4_weighted 32 = .ok (.lload_n 3, 1) := by decide +kernel
theorem dX4_weighted_33 : decode cX4_weighted 33 = .ok (.lload 8, 2) := by decide +kernel
theorem dX4_weighted_35 : decode cX4_weighted 35 = .ok (.aload_n 0, 1) := by decide +kernel
theorem dX4_weighted_36 : decode cX4_weighted 36 = .ok (.iload 7, 2) := by decide +kernel
theorem dX4_weighted_38 : decode cX4_weighted 38 = .ok (.invokevirtual 15, 3) := by decide +kernel
theorem dX4_weighted_41 : decode cX4_weighted 41 = .ok (.i2l, 1) := by decide +kernel
theorem dX4_weighted_42 : decode cX4_weighted 42 = .ok (.lmul, 1) := by decide +kernel
theorem dX4_weighted_43 : decode cX4_weighted 43 = .ok (.ladd, 1) := by decide +kernel
theorem dX4_weighted_44 : decode cX4_weighted 44 = .ok (.lstore_n 3, 1) := by decide +kernel
theorem dX4_weighted_45 : decode cX4_weighted 45 = .ok (.lload 5, 2) := by decide +kernel
theorem dX4_weighted_47 : decode cX4_weighted 47 = .ok (.lload 8, 2) := by decide +kernel
theorem dX4_weighted_49 : decode cX4_weighted 49 = .ok (.ladd, 1) := by decide +kernel
theorem dX4_weighted_50 : decode cX4_weighted 50 = .ok (.lstore 5, 2) := by decide +kernel
theorem dX4_weighted_52 : decode cX4_weighted 52 = .ok (.iinc 7 1, 3) := by decide +kernel
theorem dX4_weighted_55 : decode cX4_weighted 55 = .ok (.goto (-38), 3) := by decide +kernel
theorem dX4_weighted_58 : decode cX4_weighted 58 = .ok (.ldc2_w 21, 3) := by decide +kernel
theorem dX4_weighted_61 : decode cX4_weighted 61 = .ok (.lload_n 3, 1) := by decide +kernel
theorem dX4_weighted_62 : decode cX4_weighted 62 = .ok (.lmul, 1) := by decide +kernel
theorem dX4_weighted_63 : decode cX4_weighted 63 = .ok (.lload 5, 2) := by decide +kernel
theorem dX4_weighted_65 : decode cX4_weighted 65 = .ok (.invokestatic 23, 3) := by decide +kernel
theorem dX4_weighted_68 : decode cX4_weighted 68 = .ok (.l2i, 1) := by decide +kernel
theorem dX4_weighted_69 : decode cX4_weighted 69 = .ok (.ireturn, 1) := by decide +kernel
theorem dX4_smoothedForwards_0 : decode cX4_smoothedForwards 0 = .ok (.sipush 1000, 3) := by decide +kernel
theorem dX4_smoothedForwards_3 : decode cX4_smoothedForwards 3 = .ok (.aload_n 0, 1) := by decide +kernel
theorem dX4_smoothedForwards_4 : decode cX4_smoothedForwards 4 = .ok (.iconst 0, 1) := by decide +kernel
theorem dX4_smoothedForwards_5 : decode cX4_smoothedForwards 5 = .ok (.invokevirtual 15, 3) := by decide +kernel
theorem dX4_smoothedForwards_8 : decode cX4_smoothedForwards 8 = .ok (.imul, 1) := by decide +kernel
theorem dX4_smoothedForwards_9 : decode cX4_smoothedForwards 9 = .ok (.istore_n 2, 1) := by decide +kernel
theorem dX4_smoothedForwards_10 : decode cX4_smoothedForwards 10 = .ok (.iconst 1, 1) := by decide +kernel
theorem dX4_smoothedForwards_11 : decode cX4_smoothedForwards 11 = .ok (.istore_n 3, 1) := by decide +kernel
theorem dX4_smoothedForwards_12 : decode cX4_smoothedForwards 12 = .ok (.iload_n 3, 1) := by decide +kernel
theorem dX4_smoothedForwards_13 : decode cX4_smoothedForwards 13 = .ok (.iload_n 1, 1) := by decide +kernel
theorem dX4_smoothedForwards_14 : decode cX4_smoothedForwards 14 = .ok (.if_icmp .gt 23, 3) := by decide +kernel
theorem dX4_smoothedForwards_17 : decode cX4_smoothedForwards 17 = .ok (.aload_n 0, 1) := by decide +kernel
theorem dX4_smoothedForwards_18 : decode cX4_smoothedForwards 18 = .ok (.getfield 35, 3) := by decide +kernel
theorem dX4_smoothedForwards_21 : decode cX4_smoothedForwards 21 = .ok (.iload_n 2, 1) := by decide +kernel
theorem dX4_smoothedForwards_22 : decode cX4_smoothedForwards 22 = .ok (.aload_n 0, 1) := by decide +kernel
theorem dX4_smoothedForwards_23 : decode cX4_smoothedForwards 23 = .ok (.iload_n 3, 1) := by decide +kernel
theorem dX4_smoothedForwards_24 : decode cX4_smoothedForwards 24 = .ok (.invokevirtual 15, 3) := by decide +kernel
theorem dX4_smoothedForwards_27 : decode cX4_smoothedForwards 27 = .ok (.invokestatic 38, 3) := by decide +kernel
theorem dX4_smoothedForwards_30 : decode cX4_smoothedForwards 30 = .ok (.istore_n 2, 1) := by decide +kernel
theorem dX4_smoothedForwards_31 : decode cX4_smoothedForwards 31 = .ok (.iinc 3 1, 3) := by decide +kernel
theorem dX4_smoothedForwards_34 : decode cX4_smoothedForwards 34 = .ok (.goto (-22), 3) := by decide +kernel
theorem dX4_smoothedForwards_37 : decode cX4_smoothedForwards 37 = .ok (.iload_n 2, 1) := by decide +kernel
theorem dX4_smoothedForwards_38 : decode cX4_smoothedForwards 38 = .ok (.ireturn, 1) := by decide +kernel
theorem dX4_smoothedByRecursion_0 : decode cX4_smoothedByRecursion 0 = .ok (.iload_n 1, 1) := by decide +kernel
theorem dX4_smoothedByRecursion_1 : decode cX4_smoothedByRecursion 1 = .ok (.ifCond .le 9, 3) := by decide +kernel
theorem dX4_smoothedByRecursion_4 : decode cX4_smoothedByRecursion 4 = .ok (.iload_n 2, 1) := by decide +kernel
theorem dX4_smoothedByRecursion_5 : decode cX4_smoothedByRecursion 5 = .ok (.bipush 60, 2) := by decide +kernel
theorem dX4_smoothedByRecursion_7 : decode cX4_smoothedByRecursion 7 = .ok (.if_icmp .lt 13, 3) := by decide +kernel
theorem dX4_smoothedByRecursion_10 : decode cX4_smoothedByRecursion 10 = .ok (.sipush 1000, 3) := by decide +kernel
theorem dX4_smoothedByRecursion_13 : decode cX4_smoothedByRecursion 13 = .ok (.aload_n 0, 1) := by decide +kernel
theorem dX4_smoothedByRecursion_14 : decode cX4_smoothedByRecursion 14 = .ok (.iconst 0, 1) := by decide +kernel
theorem dX4_smoothedByRecursion_15 : decode cX4_smoothedByRecursion 15 = .ok (.invokevirtual 15, 3) := by decide +kernel
theorem dX4_smoothedByRecursion_18 : decode cX4_smoothedByRecursion 18 = .ok (.imul, 1) := by decide +kernel
theorem dX4_smoothedByRecursion_19 : decode cX4_smoothedByRecursion 19 = .ok (.ireturn, 1) := by decide +kernel
theorem dX4_smoothedByRecursion_20 : decode cX4_smoothedByRecursion 20 = .ok (.aload_n 0, 1) := by decide +kernel
theorem dX4_smoothedByRecursion_21 : decode cX4_smoothedByRecursion 21 = .ok (.iload_n 1, 1) := by decide +kernel
theorem dX4_smoothedByRecursion_22 : decode cX4_smoothedByRecursion 22 = .ok (.iconst 1, 1) := by decide +kernel
theorem dX4_smoothedByRecursion_23 : decode cX4_smoothedByRecursion 23 = .ok (.isub, 1) := by decide +kernel
theorem dX4_smoothedByRecursion_24 : decode cX4_smoothedByRecursion 24 = .ok (.iload_n 2, 1) := by decide +kernel
theorem dX4_smoothedByRecursion_25 : decode cX4_smoothedByRecursion 25 = .ok (.iconst 1, 1) := by decide +kernel
theorem dX4_smoothedByRecursion_26 : decode cX4_smoothedByRecursion 26 = .ok (.iadd, 1) := by decide +kernel
theorem dX4_smoothedByRecursion_27 : decode cX4_smoothedByRecursion 27 = .ok (.invokestatic 42, 3) := by decide +kernel
theorem dX4_smoothedByRecursion_30 : decode cX4_smoothedByRecursion 30 = .ok (.istore_n 3, 1) := by decide +kernel
theorem dX4_smoothedByRecursion_31 : decode cX4_smoothedByRecursion 31 = .ok (.aload_n 0, 1) := by decide +kernel
theorem dX4_smoothedByRecursion_32 : decode cX4_smoothedByRecursion 32 = .ok (.getfield 35, 3) := by decide +kernel
theorem dX4_smoothedByRecursion_35 : decode cX4_smoothedByRecursion 35 = .ok (.iload_n 3, 1) := by decide +kernel
theorem dX4_smoothedByRecursion_36 : decode cX4_smoothedByRecursion 36 = .ok (.aload_n 0, 1) := by decide +kernel
theorem dX4_smoothedByRecursion_37 : decode cX4_smoothedByRecursion 37 = .ok (.iload_n 1, 1) := by decide +kernel
theorem dX4_smoothedByRecursion_38 : decode cX4_smoothedByRecursion 38 = .ok (.invokevirtual 15, 3) := by decide +kernel
theorem dX4_smoothedByRecursion_41 : decode cX4_smoothedByRecursion 41 = .ok (.invokestatic 38, 3) := by decide +kernel
theorem dX4_smoothedByRecursion_44 : decode cX4_smoothedByRecursion 44 = .ok (.ireturn, 1) := by decide +kernel
theorem dX4_nextSmooth_0 : decode cX4_nextSmooth 0 = .ok (.iload_n 0, 1) := by decide +kernel
theorem dX4_nextSmooth_1 : decode cX4_nextSmooth 1 = .ok (.iload_n 1, 1) := by decide +kernel
theorem dX4_nextSmooth_2 : decode cX4_nextSmooth 2 = .ok (.imul, 1) := by decide +kernel
theorem dX4_nextSmooth_3 : decode cX4_nextSmooth 3 = .ok (.bipush 10, 2) := by decide +kernel
theorem dX4_nextSmooth_5 : decode cX4_nextSmooth 5 = .ok (.iload_n 0, 1) := by decide +kernel
theorem dX4_nextSmooth_6 : decode cX4_nextSmooth 6 = .ok (.isub, 1) := by decide +kernel
theorem dX4_nextSmooth_7 : decode cX4_nextSmooth 7 = .ok (.sipush 1000, 3) := by decide +kernel
theorem dX4_nextSmooth_10 : decode cX4_nextSmooth 10 = .ok (.imul, 1) := by decide +kernel
theorem dX4_nextSmooth_11 : decode cX4_nextSmooth 11 = .ok (.iload_n 2, 1) := by decide +kernel
theorem dX4_nextSmooth_12 : decode cX4_nextSmooth 12 = .ok (.imul, 1) := by decide +kernel
theorem dX4_nextSmooth_13 : decode cX4_nextSmooth 13 = .ok (.iadd, 1) := by decide +kernel
theorem dX4_nextSmooth_14 : decode cX4_nextSmooth 14 = .ok (.bipush 10, 2) := by decide +kernel
theorem dX4_nextSmooth_16 : decode cX4_nextSmooth 16 = .ok (.idiv, 1) := by decide +kernel
theorem dX4_nextSmooth_17 : decode cX4_nextSmooth 17 = .ok (.ireturn, 1) := by decide +kernel
theorem dX5_daysOf_0 : decode cX5_daysOf 0 = .ok (.iconst 0, 1) := by decide +kernel
theorem dX5_daysOf_1 : decode cX5_daysOf 1 = .ok (.istore_n 3, 1) := by decide +kernel
theorem dX5_daysOf_2 : decode cX5_daysOf 2 = .ok (.iconst 0, 1) := by decide +kernel
theorem dX5_daysOf_3 : decode cX5_daysOf 3 = .ok (.istore 4, 2) := by decide +kernel
theorem dX5_daysOf_5 : decode cX5_daysOf 5 = .ok (.iload 4, 2) := by decide +kernel
theorem dX5_daysOf_7 : decode cX5_daysOf 7 = .ok (.iload_n 2, 1) := by decide +kernel
theorem dX5_daysOf_8 : decode cX5_daysOf 8 = .ok (.if_icmp .ge 22, 3) := by decide +kernel
theorem dX5_daysOf_11 : decode cX5_daysOf 11 = .ok (.aload_n 0, 1) := by decide +kernel
theorem dX5_daysOf_12 : decode cX5_daysOf 12 = .ok (.iload 4, 2) := by decide +kernel
theorem dX5_daysOf_14 : decode cX5_daysOf 14 = .ok (.invokevirtual 7, 3) := by decide +kernel
theorem dX5_daysOf_17 : decode cX5_daysOf 17 = .ok (.iload_n 1, 1) := by decide +kernel
theorem dX5_daysOf_18 : decode cX5_daysOf 18 = .ok (.if_icmp .ne 6, 3) := by decide +kernel
theorem dX5_daysOf_21 : decode cX5_daysOf 21 = .ok (.iinc 3 1, 3) := by decide +kernel
theorem dX5_daysOf_24 : decode cX5_daysOf 24 = .ok (.iinc 4 1, 3) := by decide +kernel
theorem dX5_daysOf_27 : decode cX5_daysOf 27 = .ok (.goto (-22), 3) := by decide +kernel
theorem dX5_daysOf_30 : decode cX5_daysOf 30 = .ok (.iload_n 3, 1) := by decide +kernel
theorem dX5_daysOf_31 : decode cX5_daysOf 31 = .ok (.ireturn, 1) := by decide +kernel
theorem dX5_sumOf_0 : decode cX5_sumOf 0 = .ok (.lconst 0, 1) := by decide +kernel
theorem dX5_sumOf_1 : decode cX5_sumOf 1 = .ok (.lstore_n 3, 1) := by decide +kernel
theorem dX5_sumOf_2 : decode cX5_sumOf 2 = .ok (.iconst 0, 1) := by decide +kernel
theorem dX5_sumOf_3 : decode cX5_sumOf 3 = .ok (.istore 5, 2) := by decide +kernel
theorem dX5_sumOf_5 : decode cX5_sumOf 5 = .ok (.iload 5, 2) := by decide +kernel
theorem dX5_sumOf_7 : decode cX5_sumOf 7 = .ok (.iload_n 2, 1) := by decide +kernel
theorem dX5_sumOf_8 : decode cX5_sumOf 8 = .ok (.if_icmp .ge 29, 3) := by decide +kernel
theorem dX5_sumOf_11 : decode cX5_sumOf 11 = .ok (.aload_n 0, 1) := by decide +kernel
theorem dX5_sumOf_12 : decode cX5_sumOf 12 = .ok (.iload 5, 2) := by decide +kernel
theorem dX5_sumOf_14 : decode cX5_sumOf 14 = .ok (.invokevirtual 7, 3) := by decide +kernel
theorem dX5_sumOf_17 : decode cX5_sumOf 17 = .ok (.iload_n 1, 1) := by decide +kernel
theorem dX5_sumOf_18 : decode cX5_sumOf 18 = .ok (.if_icmp .ne 13, 3) := by decide +kernel
theorem dX5_sumOf_21 : decode cX5_sumOf 21 = .ok (.lload_n 3, 1) := by decide +kernel
theorem dX5_sumOf_22 : decode cX5_sumOf 22 = .ok (.aload_n 0, 1) := by decide +kernel
theorem dX5_sumOf_23 : decode cX5_sumOf 23 = .ok (.iload 5, 2) := by decide +kernel
theorem dX5_sumOf_25 : decode cX5_sumOf 25 = .ok (.invokevirtual 13, 3) := by decide +kernel
theorem dX5_sumOf_28 : decode cX5_sumOf 28 = .ok (.i2l, 1) := by decide +kernel
theorem dX5_sumOf_29 : decode cX5_sumOf 29 = .ok (.ladd, 1) := by decide +kernel
theorem dX5_sumOf_30 : decode cX5_sumOf 30 = .ok (.lstore_n 3, 1) := by decide +kernel
theorem dX5_sumOf_31 : decode cX5_sumOf 31 = .ok (.iinc 5 1, 3) := by decide +kernel
theorem dX5_sumOf_34 : decode cX5_sumOf 34 = .ok (.goto (-29), 3) := by decide +kernel
theorem dX5_sumOf_37 : decode cX5_sumOf 37 = .ok (.lload_n 3, 1) := by decide +kernel
theorem dX5_sumOf_38 : decode cX5_sumOf 38 = .ok (.lreturn, 1) := by decide +kernel
theorem dX5_index_0 : decode cX5_index 0 = .ok (.ldc2_w 16, 3) := by decide +kernel
theorem dX5_index_3 : decode cX5_index 3 = .ok (.aload_n 0, 1) := by decide +kernel
theorem dX5_index_4 : decode cX5_index 4 = .ok (.iload_n 1, 1) := by decide +kernel
theorem dX5_index_5 : decode cX5_index 5 = .ok (.aload_n 0, 1) := by decide +kernel
theorem dX5_index_6 : decode cX5_index 6 = .ok (.getfield 18, 3) := by decide +kernel
theorem dX5_index_9 : decode cX5_index 9 = .ok (.invokestatic 22, 3) := by decide +kernel
theorem dX5_index_12 : decode cX5_index 12 = .ok (.lmul, 1) := by decide +kernel
theorem dX5_index_13 : decode cX5_index 13 = .ok (.aload_n 0, 1) := by decide +kernel
theorem dX5_index_14 : decode cX5_index 14 = .ok (.getfield 18, 3) := by decide +kernel
theorem dX5_index_17 : decode cX5_index 17 = .ok (.i2l, 1) := by decide +kernel
theorem dX5_index_18 : decode cX5_index 18 = .ok (.lmul, 1) := by decide +kernel
theorem dX5_index_19 : decode cX5_index 19 = .ok (.lstore_n 2, 1) := by decide +kernel
theorem dX5_index_20 : decode cX5_index 20 = .ok (.aload_n 0, 1) := by decide +kernel
theorem dX5_index_21 : decode cX5_index 21 = .ok (.iload_n 1, 1) := by decide +kernel
theorem dX5_index_22 : decode cX5_index 22 = .ok (.aload_n 0, 1) := by decide +kernel
theorem dX5_index_23 : decode cX5_index 23 = .ok (.getfield 18, 3) := by decide +kernel
theorem dX5_index_26 : decode cX5_index 26 = .ok (.invokestatic 28, 3) := by decide +kernel
theorem dX5_index_29 : decode cX5_index 29 = .ok (.i2l, 1) := by decide +kernel
theorem dX5_index_30 : decode cX5_index 30 = .ok (.aload_n 0, 1) := by decide +kernel
theorem dX5_index_31 : decode cX5_index 31 = .ok (.aload_n 0, 1) := by decide +kernel
theorem dX5_index_32 : decode cX5_index 32 = .ok (.getfield 18, 3) := by decide +kernel
theorem dX5_index_35 : decode cX5_index 35 = .ok (.invokestatic 32, 3) := by decide +kernel
theorem dX5_index_38 : decode cX5_index 38 = .ok (.lmul, 1) := by decide +kernel
theorem dX5_index_39 : decode cX5_index 39 = .ok (.lstore 4, 2) := by decide +kernel
theorem dX5_index_41 : decode cX5_index 41 = .ok (.lload_n 2, 1) := by decide +kernel
theorem dX5_index_42 : decode cX5_index 42 = .ok (.lload 4, 2) := by decide +kernel
theorem dX5_index_44 : decode cX5_index 44 = .ok (.invokestatic 38, 3) := by decide +kernel
theorem dX5_index_47 : decode cX5_index 47 = .ok (.l2i, 1) := by decide +kernel
theorem dX5_index_48 : decode cX5_index 48 = .ok (.ireturn, 1) := by decide +kernel
theorem dX5_bare_0 : decode cX5_bare 0 = .ok (.aload_n 0, 1) := by decide +kernel
theorem dX5_bare_1 : decode cX5_bare 1 = .ok (.iload_n 1, 1) := by decide +kernel
theorem dX5_bare_2 : decode cX5_bare 2 = .ok (.invokevirtual 7, 3) := by decide +kernel
theorem dX5_bare_5 : decode cX5_bare 5 = .ok (.istore_n 2, 1) := by decide +kernel
theorem dX5_bare_6 : decode cX5_bare 6 = .ok (.aload_n 0, 1) := by decide +kernel
theorem dX5_bare_7 : decode cX5_bare 7 = .ok (.iload_n 2, 1) := by decide +kernel
theorem dX5_bare_8 : decode cX5_bare 8 = .ok (.aload_n 0, 1) := by decide +kernel
theorem dX5_bare_9 : decode cX5_bare 9 = .ok (.getfield 18, 3) := by decide +kernel
theorem dX5_bare_12 : decode cX5_bare 12 = .ok (.invokestatic 28, 3) := by decide +kernel
theorem dX5_bare_15 : decode cX5_bare 15 = .ok (.i2l, 1) := by decide +kernel
theorem dX5_bare_16 : decode cX5_bare 16 = .ok (.aload_n 0, 1) := by decide +kernel
theorem dX5_bare_17 : decode cX5_bare 17 = .ok (.aload_n 0, 1) := by decide +kernel
theorem dX5_bare_18 : decode cX5_bare 18 = .ok (.getfield 18, 3) := by decide +kernel
theorem dX5_bare_21 : decode cX5_bare 21 = .ok (.invokestatic 32, 3) := by decide +kernel
theorem dX5_bare_24 : decode cX5_bare 24 = .ok (.lmul, 1) := by decide +kernel
theorem dX5_bare_25 : decode cX5_bare 25 = .ok (.lstore_n 3, 1) := by decide +kernel
theorem dX5_bare_26 : decode cX5_bare 26 = .ok (.aload_n 0, 1) := by decide +kernel
theorem dX5_bare_27 : decode cX5_bare 27 = .ok (.iload_n 2, 1) := by decide +kernel
theorem dX5_bare_28 : decode cX5_bare 28 = .ok (.aload_n 0, 1) := by decide +kernel
theorem dX5_bare_29 : decode cX5_bare 29 = .ok (.getfield 18, 3) := by decide +kernel
theorem dX5_bare_32 : decode cX5_bare 32 = .ok (.invokestatic 22, 3) := by decide +kernel
theorem dX5_bare_35 : decode cX5_bare 35 = .ok (.aload_n 0, 1) := by decide +kernel
theorem dX5_bare_36 : decode cX5_bare 36 = .ok (.getfield 18, 3) := by decide +kernel
theorem dX5_bare_39 : decode cX5_bare 39 = .ok (.i2l, 1) := by decide +kernel
theorem dX5_bare_40 : decode cX5_bare 40 = .ok (.lmul, 1) := by decide +kernel
theorem dX5_bare_41 : decode cX5_bare 41 = .ok (.lstore 5, 2) := by decide +kernel
theorem dX5_bare_43 : decode cX5_bare 43 = .ok (.ldc2_w 16, 3) := by decide +kernel
theorem dX5_bare_46 : decode cX5_bare 46 = .ok (.aload_n 0, 1) := by decide +kernel
theorem dX5_bare_47 : decode cX5_bare 47 = .ok (.iload_n 1, 1) := by decide +kernel
theorem dX5_bare_48 : decode cX5_bare 48 = .ok (.invokevirtual 13, 3) := by decide +kernel
theorem dX5_bare_51 : decode cX5_bare 51 = .ok (.i2l, 1) := by decide +kernel
theorem dX5_bare_52 : decode cX5_bare 52 = .ok (.lmul, 1) := by decide +kernel
theorem dX5_bare_53 : decode cX5_bare 53 = .ok (.lload_n 3, 1) := by decide +kernel
theorem dX5_bare_54 : decode cX5_bare 54 = .ok (.lmul, 1) := by decide +kernel
theorem dX5_bare_55 : decode cX5_bare 55 = .ok (.lload 5, 2) := by decide +kernel
theorem dX5_bare_57 : decode cX5_bare 57 = .ok (.invokestatic 38, 3) := by decide +kernel
theorem dX5_bare_60 : decode cX5_bare 60 = .ok (.lreturn, 1) := by decide +kernel
theorem dX6_init_0 : decode cX6_init 0 = .ok (.aload_n 0, 1) := by decide +kernel
theorem dX6_init_1 : decode cX6_init 1 = .ok (.invokespecial 3, 3) := by decide +kernel
theorem dX6_init_4 : decode cX6_init 4 = .ok (.aload_n 0, 1) := by decide +kernel
theorem dX6_init_5 : decode cX6_init 5 = .ok (.bipush 60, 2) := by decide +kernel
theorem dX6_init_7 : decode cX6_init 7 = .ok (.newarray .int, 2) := by decide +kernel
theorem dX6_init_9 : decode cX6_init 9 = .ok (.putfield 9, 3) := by decide +kernel
theorem dX6_init_12 : decode cX6_init 12 = .ok (.aload_n 0, 1) := by decide +kernel
theorem dX6_init_13 : decode cX6_init 13 = .ok (.iconst 0, 1) := by decide +kernel
theorem dX6_init_14 : decode cX6_init 14 = .ok (.putfield 15, 3) := by decide +kernel
theorem dX6_init_17 : decode cX6_init 17 = .ok (.aload_n 0, 1) := by decide +kernel
theorem dX6_init_18 : decode cX6_init 18 = .ok (.iconst 3, 1) := by decide +kernel
theorem dX6_init_19 : decode cX6_init 19 = .ok (.putfield 19, 3) := by decide +kernel
theorem dX6_init_22 : decode cX6_init 22 = .ok (.aload_n 0, 1) := by decide +kernel
theorem dX6_init_23 : decode cX6_init 23 = .ok (.bipush 7, 2) := by decide +kernel
theorem dX6_init_25 : decode cX6_init 25 = .ok (.putfield 22, 3) := by decide +kernel
theorem dX6_init_28 : decode cX6_init 28 = .ok (.aload_n 0, 1) := by decide +kernel
theorem dX6_init_29 : decode cX6_init 29 = .ok (.bipush 6, 2) := by decide +kernel
theorem dX6_init_31 : decode cX6_init 31 = .ok (.putfield 25, 3) := by decide +kernel
theorem dX6_init_34 : decode cX6_init 34 = .ok (.aload_n 0, 1) := by decide +kernel
theorem dX6_init_35 : decode cX6_init 35 = .ok (.bipush 100, 2) := by decide +kernel
theorem dX6_init_37 : decode cX6_init 37 = .ok (.putfield 28, 3) := by decide +kernel
theorem dX6_init_40 : decode cX6_init 40 = .ok (.aload_n 0, 1) := by decide +kernel
theorem dX6_init_41 : decode cX6_init 41 = .ok (.iconst 5, 1) := by decide +kernel
theorem dX6_init_42 : decode cX6_init 42 = .ok (.putfield 31, 3) := by decide +kernel
theorem dX6_init_45 : decode cX6_init 45 = .ok (.aload_n 0, 1) := by decide +kernel
theorem dX6_init_46 : decode cX6_init 46 = .ok (.iconst 0, 1) := by decide +kernel
theorem dX6_init_47 : decode cX6_init 47 = .ok (.putfield 34, 3) := by decide +kernel
theorem dX6_init_50 : decode cX6_init 50 = .ok (.aload_n 0, 1) := by decide +kernel
theorem dX6_init_51 : decode cX6_init 51 = .ok (.iconst 0, 1) := by decide +kernel
theorem dX6_init_52 : decode cX6_init 52 = .ok (.putfield 38, 3) := by decide +kernel
theorem dX6_init_55 : decode cX6_init 55 = .ok (.aload_n 0, 1) := by decide +kernel
theorem dX6_init_56 : decode cX6_init 56 = .ok (.iconst 0, 1) := by decide +kernel
theorem dX6_init_57 : decode cX6_init 57 = .ok (.putfield 41, 3) := by decide +kernel
theorem dX6_init_60 : decode cX6_init 60 = .ok (.return_, 1) := by decide +kernel
theorem dX6_copyFrom_0 : decode cX6_copyFrom 0 = .ok (.aload_n 1, 1) := by decide +kernel
theorem dX6_copyFrom_1 : decode cX6_copyFrom 1 = .ok (.getfield 9, 3) := by decide +kernel
theorem dX6_copyFrom_4 : decode cX6_copyFrom 4 = .ok (.iconst 0, 1) := by decide +kernel
theorem dX6_copyFrom_5 : decode cX6_copyFrom 5 = .ok (.aload_n 0, 1) := by decide +kernel
theorem dX6_copyFrom_6 : decode cX6_copyFrom 6 = .ok (.getfield 9, 3) := by decide +kernel
theorem dX6_copyFrom_9 : decode cX6_copyFrom 9 = .ok (.iconst 0, 1) := by decide +kernel
theorem dX6_copyFrom_10 : decode cX6_copyFrom 10 = .ok (.bipush 60, 2) := by decide +kernel
theorem dX6_copyFrom_12 : decode cX6_copyFrom 12 = .ok (.invokestatic 44, 3) := by decide +kernel
theorem dX6_copyFrom_15 : decode cX6_copyFrom 15 = .ok (.aload_n 0, 1) := by decide +kernel
theorem dX6_copyFrom_16 : decode cX6_copyFrom 16 = .ok (.aload_n 1, 1) := by decide +kernel
theorem dX6_copyFrom_17 : decode cX6_copyFrom 17 = .ok (.getfield 15, 3) := by decide +kernel
theorem dX6_copyFrom_20 : decode cX6_copyFrom 20 = .ok (.putfield 15, 3) := by decide +kernel
theorem dX6_copyFrom_23 : decode cX6_copyFrom 23 = .ok (.aload_n 0, 1) := by decide +kernel
theorem dX6_copyFrom_24 : decode cX6_copyFrom 24 = .ok (.aload_n 1, 1) := by decide +kernel
theorem dX6_copyFrom_25 : decode cX6_copyFrom 25 = .ok (.getfield 19, 3) := by decide +kernel
theorem dX6_copyFrom_28 : decode cX6_copyFrom 28 = .ok (.putfield 19, 3) := by decide +kernel
theorem dX6_copyFrom_31 : decode cX6_copyFrom 31 = .ok (.aload_n 0, 1) := by decide +kernel
theorem dX6_copyFrom_32 : decode cX6_copyFrom 32 = .ok (.aload_n 1, 1) := by decide +kernel
theorem dX6_copyFrom_33 : decode cX6_copyFrom 33 = .ok (.getfield 22, 3) := by decide +kernel
theorem dX6_copyFrom_36 : decode cX6_copyFrom 36 = .ok (.putfield 22, 3) := by decide +kernel
theorem dX6_copyFrom_39 : decode cX6_copyFrom 39 = .ok (.aload_n 0, 1) := by decide +kernel
theorem dX6_copyFrom_40 : decode cX6_copyFrom 40 = .ok (.aload_n 1, 1) := by decide +kernel
theorem dX6_copyFrom_41 : decode cX6_copyFrom 41 = .ok (.getfield 25, 3) := by decide +kernel
theorem dX6_copyFrom_44 : decode cX6_copyFrom 44 = .ok (.putfield 25, 3) := by decide +kernel
theorem dX6_copyFrom_47 : decode cX6_copyFrom 47 = .ok (.aload_n 0, 1) := by decide +kernel
theorem dX6_copyFrom_48 : decode cX6_copyFrom 48 = .ok (.aload_n 1, 1) := by decide +kernel
theorem dX6_copyFrom_49 : decode cX6_copyFrom 49 = .ok (.getfield 28, 3) := by decide +kernel
theorem dX6_copyFrom_52 : decode cX6_copyFrom 52 = .ok (.putfield 28, 3) := by decide +kernel
theorem dX6_copyFrom_55 : decode cX6_copyFrom 55 = .ok (.aload_n 0, 1) := by decide +kernel
theorem dX6_copyFrom_56 : decode cX6_copyFrom 56 = .ok (.aload_n 1, 1) := by decide +kernel
theorem dX6_copyFrom_57 : decode cX6_copyFrom 57 = .ok (.getfield 31, 3) := by decide +kernel
theorem dX6_copyFrom_60 : decode cX6_copyFrom 60 = .ok (.putfield 31, 3) := by decide +kernel
theorem dX6_copyFrom_63 : decode cX6_copyFrom 63 = .ok (.aload_n 0, 1) := by decide +kernel
theorem dX6_copyFrom_64 : decode cX6_copyFrom 64 = .ok (.aload_n 1, 1) := by decide +kernel
theorem dX6_copyFrom_65 : decode cX6_copyFrom 65 = .ok (.getfield 34, 3) := by decide +kernel
theorem dX6_copyFrom_68 : decode cX6_copyFrom 68 = .ok (.putfield 34, 3) := by decide +kernel
theorem dX6_copyFrom_71 : decode cX6_copyFrom 71 = .ok (.aload_n 0, 1) := by decide +kernel
theorem dX6_copyFrom_72 : decode cX6_copyFrom 72 = .ok (.aload_n 1, 1) := by decide +kernel
theorem dX6_copyFrom_73 : decode cX6_copyFrom 73 = .ok (.getfield 38, 3) := by decide +kernel
theorem dX6_copyFrom_76 : decode cX6_copyFrom 76 = .ok (.putfield 38, 3) := by decide +kernel
theorem dX6_copyFrom_79 : decode cX6_copyFrom 79 = .ok (.aload_n 0, 1) := by decide +kernel
theorem dX6_copyFrom_80 : decode cX6_copyFrom 80 = .ok (.aload_n 1, 1) := by decide +kernel
theorem dX6_copyFrom_81 : decode cX6_copyFrom 81 = .ok (.getfield 41, 3) := by decide +kernel
theorem dX6_copyFrom_84 : decode cX6_copyFrom 84 = .ok (.putfield 41, 3) := by decide +kernel
theorem dX6_copyFrom_87 : decode cX6_copyFrom 87 = .ok (.return_, 1) := by decide +kernel
theorem dX6_hasDay_0 : decode cX6_hasDay 0 = .ok (.iload_n 1, 1) := by decide +kernel
theorem dX6_hasDay_1 : decode cX6_hasDay 1 = .ok (.ifCond .lt 15, 3) := by decide +kernel
theorem dX6_hasDay_4 : decode cX6_hasDay 4 = .ok (.iload_n 1, 1) := by decide +kernel
theorem dX6_hasDay_5 : decode cX6_hasDay 5 = .ok (.aload_n 0, 1) := by decide +kernel
theorem dX6_hasDay_6 : decode cX6_hasDay 6 = .ok (.getfield 15, 3) := by decide +kernel
theorem dX6_hasDay_9 : decode cX6_hasDay 9 = .ok (.if_icmp .ge 7, 3) := by decide +kernel
theorem dX6_hasDay_12 : decode cX6_hasDay 12 = .ok (.iconst 1, 1) := by decide +kernel
theorem dX6_hasDay_13 : decode cX6_hasDay 13 = .ok (.goto 4, 3) := by decide +kernel
theorem dX6_hasDay_16 : decode cX6_hasDay 16 = .ok (.iconst 0, 1) := by decide +kernel
theorem dX6_hasDay_17 : decode cX6_hasDay 17 = .ok (.ireturn, 1) := by decide +kernel
theorem dX6_at_0 : decode cX6_at 0 = .ok (.iload_n 1, 1) := by decide +kernel
theorem dX6_at_1 : decode cX6_at 1 = .ok (.ifCond .lt 21, 3) := by decide +kernel
theorem dX6_at_4 : decode cX6_at 4 = .ok (.iload_n 1, 1) := by decide +kernel
theorem dX6_at_5 : decode cX6_at 5 = .ok (.aload_n 0, 1) := by decide +kernel
theorem dX6_at_6 : decode cX6_at 6 = .ok (.getfield 9, 3) := by decide +kernel
theorem dX6_at_9 : decode cX6_at 9 = .ok (.arraylength, 1) := by decide +kernel
theorem dX6_at_10 : decode cX6_at 10 = .ok (.if_icmp .ge 12, 3) := by decide +kernel
theorem dX6_at_13 : decode cX6_at 13 = .ok (.aload_n 0, 1) := by decide +kernel
theorem dX6_at_14 : decode cX6_at 14 = .ok (.getfield 9, 3) := by decide +kernel
theorem dX6_at_17 : decode cX6_at 17 = .ok (.iload_n 1, 1) := by decide +kernel
theorem dX6_at_18 : decode cX6_at 18 = .ok (.iaload, 1) := by decide +kernel
theorem dX6_at_19 : decode cX6_at 19 = .ok (.goto 4, 3) := by decide +kernel
theorem dX6_at_22 : decode cX6_at 22 = .ok (.iconst 0, 1) := by decide +kernel
theorem dX6_at_23 : decode cX6_at 23 = .ok (.ireturn, 1) := by decide +kernel
theorem dX6_put_0 : decode cX6_put 0 = .ok (.iload_n 1, 1) := by decide +kernel
theorem dX6_put_1 : decode cX6_put 1 = .ok (.ifCond .lt 19, 3) := by decide +kernel
theorem dX6_put_4 : decode cX6_put 4 = .ok (.iload_n 1, 1) := by decide +kernel
theorem dX6_put_5 : decode cX6_put 5 = .ok (.aload_n 0, 1) := by decide +kernel
theorem dX6_put_6 : decode cX6_put 6 = .ok (.getfield 9, 3) := by decide +kernel
theorem dX6_put_9 : decode cX6_put 9 = .ok (.arraylength, 1) := by decide +kernel
theorem dX6_put_10 : decode cX6_put 10 = .ok (.if_icmp .ge 10, 3) := by decide +kernel
theorem dX6_put_13 : decode cX6_put 13 = .ok (.aload_n 0, 1) := by decide +kernel
theorem dX6_put_14 : decode cX6_put 14 = .ok (.getfield 9, 3) := by decide +kernel
theorem dX6_put_17 : decode cX6_put 17 = .ok (.iload_n 1, 1) := by decide +kernel
theorem dX6_put_18 : decode cX6_put 18 = .ok (.iload_n 2, 1) := by decide +kernel
theorem dX6_put_19 : decode cX6_put 19 = .ok (.iastore, 1) := by decide +kernel
theorem dX6_put_20 : decode cX6_put 20 = .ok (.return_, 1) := by decide +kernel
theorem dX6_add_0 : decode cX6_add 0 = .ok (.aload_n 0, 1) := by decide +kernel
theorem dX6_add_1 : decode cX6_add 1 = .ok (.getfield 15, 3) := by decide +kernel
theorem dX6_add_4 : decode cX6_add 4 = .ok (.ifCond .lt 35, 3) := by decide +kernel
theorem dX6_add_7 : decode cX6_add 7 = .ok (.aload_n 0, 1) := by decide +kernel
theorem dX6_add_8 : decode cX6_add 8 = .ok (.getfield 15, 3) := by decide +kernel
theorem dX6_add_11 : decode cX6_add 11 = .ok (.aload_n 0, 1) := by decide +kernel
theorem dX6_add_12 : decode cX6_add 12 = .ok (.getfield 9, 3) := by decide +kernel
theorem dX6_add_15 : decode cX6_add 15 = .ok (.arraylength, 1) := by decide +kernel
theorem dX6_add_16 : decode cX6_add 16 = .ok (.if_icmp .ge 23, 3) := by decide +kernel
theorem dX6_add_19 : decode cX6_add 19 = .ok (.aload_n 0, 1) := by decide +kernel
theorem dX6_add_20 : decode cX6_add 20 = .ok (.getfield 9, 3) := by decide +kernel
theorem dX6_add_23 : decode cX6_add 23 = .ok (.aload_n 0, 1) := by decide +kernel
theorem dX6_add_24 : decode cX6_add 24 = .ok (.getfield 15, 3) := by decide +kernel
theorem dX6_add_27 : decode cX6_add 27 = .ok (.iload_n 1, 1) := by decide +kernel
theorem dX6_add_28 : decode cX6_add 28 = .ok (.iastore, 1) := by decide +kernel
theorem dX6_add_29 : decode cX6_add 29 = .ok (.aload_n 0, 1) := by decide +kernel
theorem dX6_add_30 : decode cX6_add 30 = .ok (.dup, 1) := by decide +kernel
theorem dX6_add_31 : decode cX6_add 31 = .ok (.getfield 15, 3) := by decide +kernel
theorem dX6_add_34 : decode cX6_add 34 = .ok (.iconst 1, 1) := by decide +kernel
theorem dX6_add_35 : decode cX6_add 35 = .ok (.iadd, 1) := by decide +kernel
theorem dX6_add_36 : decode cX6_add 36 = .ok (.putfield 15, 3) := by decide +kernel
theorem dX6_add_39 : decode cX6_add 39 = .ok (.return_, 1) := by decide +kernel
theorem dX6_drop_0 : decode cX6_drop 0 = .ok (.aload_n 0, 1) := by decide +kernel
theorem dX6_drop_1 : decode cX6_drop 1 = .ok (.getfield 15, 3) := by decide +kernel
theorem dX6_drop_4 : decode cX6_drop 4 = .ok (.iload_n 1, 1) := by decide +kernel
theorem dX6_drop_5 : decode cX6_drop 5 = .ok (.isub, 1) := by decide +kernel
theorem dX6_drop_6 : decode cX6_drop 6 = .ok (.istore_n 2, 1) := by decide +kernel
theorem dX6_drop_7 : decode cX6_drop 7 = .ok (.iconst 0, 1) := by decide +kernel
theorem dX6_drop_8 : decode cX6_drop 8 = .ok (.istore_n 3, 1) := by decide +kernel
theorem dX6_drop_9 : decode cX6_drop 9 = .ok (.iload_n 3, 1) := by decide +kernel
theorem dX6_drop_10 : decode cX6_drop 10 = .ok (.iload_n 2, 1) := by decide +kernel
theorem dX6_drop_11 : decode cX6_drop 11 = .ok (.if_icmp .ge 21, 3) := by decide +kernel
theorem dX6_drop_14 : decode cX6_drop 14 = .ok (.aload_n 0, 1) := by decide +kernel
theorem dX6_drop_15 : decode cX6_drop 15 = .ok (.iload_n 3, 1) := by decide +kernel
theorem dX6_drop_16 : decode cX6_drop 16 = .ok (.aload_n 0, 1) := by decide +kernel
theorem dX6_drop_17 : decode cX6_drop 17 = .ok (.iload_n 3, 1) := by decide +kernel
theorem dX6_drop_18 : decode cX6_drop 18 = .ok (.iload_n 1, 1) := by decide +kernel
theorem dX6_drop_19 : decode cX6_drop 19 = .ok (.iadd, 1) := by decide +kernel
theorem dX6_drop_20 : decode cX6_drop 20 = .ok (.invokevirtual 50, 3) := by decide +kernel
theorem dX6_drop_23 : decode cX6_drop 23 = .ok (.invokevirtual 54, 3) := by decide +kernel
theorem dX6_drop_26 : decode cX6_drop 26 = .ok (.iinc 3 1, 3) := by decide +kernel
theorem dX6_drop_29 : decode cX6_drop 29 = .ok (.goto (-20), 3) := by decide +kernel
theorem dX6_drop_32 : decode cX6_drop 32 = .ok (.aload_n 0, 1) := by decide +kernel
theorem dX6_drop_33 : decode cX6_drop 33 = .ok (.iload_n 2, 1) := by decide +kernel
theorem dX6_drop_34 : decode cX6_drop 34 = .ok (.putfield 15, 3) := by decide +kernel
theorem dX6_drop_37 : decode cX6_drop 37 = .ok (.return_, 1) := by decide +kernel
theorem dX6_partOf_0 : decode cX6_partOf 0 = .ok (.aload_n 0, 1) := by decide +kernel
theorem dX6_partOf_1 : decode cX6_partOf 1 = .ok (.getfield 31, 3) := by decide +kernel
theorem dX6_partOf_4 : decode cX6_partOf 4 = .ok (.ifCond .le 12, 3) := by decide +kernel
theorem dX6_partOf_7 : decode cX6_partOf 7 = .ok (.iload_n 1, 1) := by decide +kernel
theorem dX6_partOf_8 : decode cX6_partOf 8 = .ok (.aload_n 0, 1) := by decide +kernel
theorem dX6_partOf_9 : decode cX6_partOf 9 = .ok (.getfield 31, 3) := by decide +kernel
theorem dX6_partOf_12 : decode cX6_partOf 12 = .ok (.irem, 1) := by decide +kernel
theorem dX6_partOf_13 : decode cX6_partOf 13 = .ok (.goto 4, 3) := by decide +kernel
theorem dX6_partOf_16 : decode cX6_partOf 16 = .ok (.iconst 0, 1) := by decide +kernel
theorem dX6_partOf_17 : decode cX6_partOf 17 = .ok (.ireturn, 1) := by decide +kernel
theorem dX7_init_0 : decode cX7_init 0 = .ok (.aload_n 0, 1) := by decide +kernel
theorem dX7_init_1 : decode cX7_init 1 = .ok (.invokespecial 3, 3) := by decide +kernel
theorem dX7_init_4 : decode cX7_init 4 = .ok (.aload_n 0, 1) := by decide +kernel
theorem dX7_init_5 : decode cX7_init 5 = .ok (.iconst 0, 1) := by decide +kernel
theorem dX7_init_6 : decode cX7_init 6 = .ok (.putfield 9, 3) := by decide +kernel
theorem dX7_init_9 : decode cX7_init 9 = .ok (.aload_n 0, 1) := by decide +kernel
theorem dX7_init_10 : decode cX7_init 10 = .ok (.iconst 0, 1) := by decide +kernel
theorem dX7_init_11 : decode cX7_init 11 = .ok (.putfield 15, 3) := by decide +kernel
theorem dX7_init_14 : decode cX7_init 14 = .ok (.aload_n 0, 1) := by decide +kernel
theorem dX7_init_15 : decode cX7_init 15 = .ok (.iconst 0, 1) := by decide +kernel
theorem dX7_init_16 : decode cX7_init 16 = .ok (.putfield 18, 3) := by decide +kernel
theorem dX7_init_19 : decode cX7_init 19 = .ok (.aload_n 0, 1) := by decide +kernel
theorem dX7_init_20 : decode cX7_init 20 = .ok (.iconst 0, 1) := by decide +kernel
theorem dX7_init_21 : decode cX7_init 21 = .ok (.putfield 21, 3) := by decide +kernel
theorem dX7_init_24 : decode cX7_init 24 = .ok (.return_, 1) := by decide +kernel
theorem dX7_start_0 : decode cX7_start 0 = .ok (.aload_n 0, 1) := by decide +kernel
theorem dX7_start_1 : decode cX7_start 1 = .ok (.iconst 0, 1) := by decide +kernel
theorem dX7_start_2 : decode cX7_start 2 = .ok (.putfield 9, 3) := by decide +kernel
theorem dX7_start_5 : decode cX7_start 5 = .ok (.aload_n 0, 1) := by decide +kernel
theorem dX7_start_6 : decode cX7_start 6 = .ok (.iconst 0, 1) := by decide +kernel
theorem dX7_start_7 : decode cX7_start 7 = .ok (.invokevirtual 24, 3) := by decide +kernel
theorem dX7_start_10 : decode cX7_start 10 = .ok (.return_, 1) := by decide +kernel
theorem dX7_startNumber_0 : decode cX7_startNumber 0 = .ok (.aload_n 0, 1) := by decide +kernel
theorem dX7_startNumber_1 : decode cX7_startNumber 1 = .ok (.iload_n 1, 1) := by decide +kernel
theorem dX7_startNumber_2 : decode cX7_startNumber 2 = .ok (.putfield 15, 3) := by decide +kernel
theorem dX7_startNumber_5 : decode cX7_startNumber 5 = .ok (.aload_n 0, 1) := by decide +kernel
theorem dX7_startNumber_6 : decode cX7_startNumber 6 = .ok (.iconst 0, 1) := by decide +kernel
theorem dX7_startNumber_7 : decode cX7_startNumber 7 = .ok (.putfield 18, 3) := by decide +kernel
theorem dX7_startNumber_10 : decode cX7_startNumber 10 = .ok (.aload_n 0, 1) := by decide +kernel
theorem dX7_startNumber_11 : decode cX7_startNumber 11 = .ok (.iconst 0, 1) := by decide +kernel
theorem dX7_startNumber_12 : decode cX7_startNumber 12 = .ok (.putfield 21, 3) := by decide +kernel
theorem dX7_startNumber_15 : decode cX7_startNumber 15 = .ok (.return_, 1) := by decide +kernel
theorem dX7_takes_0 : decode cX7_takes 0 = .ok (.aload_n 0, 1) := by decide +kernel
theorem dX7_takes_1 : decode cX7_takes 1 = .ok (.getfield 9, 3) := by decide +kernel
theorem dX7_takes_4 : decode cX7_takes 4 = .ok (.ifCond .ne 9, 3) := by decide +kernel
theorem dX7_takes_7 : decode cX7_takes 7 = .ok (.aload_n 0, 1) := by decide +kernel
theorem dX7_takes_8 : decode cX7_takes 8 = .ok (.iload_n 1, 1) := by decide +kernel
theorem dX7_takes_9 : decode cX7_takes 9 = .ok (.invokevirtual 28, 3) := by decide +kernel
theorem dX7_takes_12 : decode cX7_takes 12 = .ok (.ireturn, 1) := by decide +kernel
theorem dX7_takes_13 : decode cX7_takes 13 = .ok (.iload_n 1, 1) := by decide +kernel
theorem dX7_takes_14 : decode cX7_takes 14 = .ok (.bipush 48, 2) := by decide +kernel
theorem dX7_takes_16 : decode cX7_takes 16 = .ok (.if_icmp .lt 18, 3) := by decide +kernel
theorem dX7_takes_19 : decode cX7_takes 19 = .ok (.iload_n 1, 1) := by decide +kernel
theorem dX7_takes_20 : decode cX7_takes 20 = .ok (.bipush 57, 2) := by decide +kernel
theorem dX7_takes_22 : decode cX7_takes 22 = .ok (.if_icmp .gt 12, 3) := by decide +kernel
theorem dX7_takes_25 : decode cX7_takes 25 = .ok (.aload_n 0, 1) := by decide +kernel
theorem dX7_takes_26 : decode cX7_takes 26 = .ok (.iload_n 1, 1) := by decide +kernel
theorem dX7_takes_27 : decode cX7_takes 27 = .ok (.bipush 48, 2) := by decide +kernel
theorem dX7_takes_29 : decode cX7_takes 29 = .ok (.isub, 1) := by decide +kernel
theorem dX7_takes_30 : decode cX7_takes 30 = .ok (.invokevirtual 32, 3) := by decide +kernel
theorem dX7_takes_33 : decode cX7_takes 33 = .ok (.ireturn, 1) := by decide +kernel
theorem dX7_takes_34 : decode cX7_takes 34 = .ok (.aload_n 0, 1) := by decide +kernel
theorem dX7_takes_35 : decode cX7_takes 35 = .ok (.invokevirtual 35, 3) := by decide +kernel
theorem dX7_takes_38 : decode cX7_takes 38 = .ok (.ifCond .ne 5, 3) := by decide +kernel
theorem dX7_takes_41 : decode cX7_takes 41 = .ok (.iconst 0, 1) := by decide +kernel
theorem dX7_takes_42 : decode cX7_takes 42 = .ok (.ireturn, 1) := by decide +kernel
theorem dX7_takes_43 : decode cX7_takes 43 = .ok (.iload_n 1, 1) := by decide +kernel
theorem dX7_takes_44 : decode cX7_takes 44 = .ok (.bipush 59, 2) := by decide +kernel
theorem dX7_takes_46 : decode cX7_takes 46 = .ok (.if_icmp .ne 16, 3) := by decide +kernel
theorem dX7_takes_49 : decode cX7_takes 49 = .ok (.aload_n 0, 1) := by decide +kernel
theorem dX7_takes_50 : decode cX7_takes 50 = .ok (.invokevirtual 39, 3) := by decide +kernel
theorem dX7_takes_53 : decode cX7_takes 53 = .ok (.ifCond .ne 9, 3) := by decide +kernel
theorem dX7_takes_56 : decode cX7_takes 56 = .ok (.aload_n 0, 1) := by decide +kernel
theorem dX7_takes_57 : decode cX7_takes 57 = .ok (.invokevirtual 42, 3) := by decide +kernel
theorem dX7_takes_60 : decode cX7_takes 60 = .ok (.iconst 1, 1) := by decide +kernel
theorem dX7_takes_61 : decode cX7_takes 61 = .ok (.ireturn, 1) := by decide +kernel
theorem dX7_takes_62 : decode cX7_takes 62 = .ok (.iload_n 1, 1) := by decide +kernel
theorem dX7_takes_63 : decode cX7_takes 63 = .ok (.bipush 44, 2) := by decide +kernel
theorem dX7_takes_65 : decode cX7_takes 65 = .ok (.if_icmp .ne 12, 3) := by decide +kernel
theorem dX7_takes_68 : decode cX7_takes 68 = .ok (.aload_n 0, 1) := by decide +kernel
theorem dX7_takes_69 : decode cX7_takes 69 = .ok (.getfield 9, 3) := by decide +kernel
theorem dX7_takes_72 : decode cX7_takes 72 = .ok (.bipush 112, 2) := by decide +kernel
theorem dX7_takes_74 : decode cX7_takes 74 = .ok (.if_icmp .eq 16, 3) := by decide +kernel
theorem dX7_takes_77 : decode cX7_takes 77 = .ok (.iload_n 1, 1) := by decide +kernel
theorem dX7_takes_78 : decode cX7_takes 78 = .ok (.bipush 58, 2) := by decide +kernel
theorem dX7_takes_80 : decode cX7_takes 80 = .ok (.if_icmp .ne 22, 3) := by decide +kernel
theorem dX7_takes_83 : decode cX7_takes 83 = .ok (.aload_n 0, 1) := by decide +kernel
theorem dX7_takes_84 : decode cX7_takes 84 = .ok (.invokevirtual 39, 3) := by decide +kernel
theorem dX7_takes_87 : decode cX7_takes 87 = .ok (.ifCond .eq 15, 3) := by decide +kernel
theorem dX7_takes_90 : decode cX7_takes 90 = .ok (.aload_n 0, 1) := by decide +kernel
theorem dX7_takes_91 : decode cX7_takes 91 = .ok (.aload_n 0, 1) := by decide +kernel
theorem dX7_takes_92 : decode cX7_takes 92 = .ok (.getfield 15, 3) := by decide +kernel
theorem dX7_takes_95 : decode cX7_takes 95 = .ok (.iconst 1, 1) := by decide +kernel
theorem dX7_takes_96 : decode cX7_takes 96 = .ok (.iadd, 1) := by decide +kernel
theorem dX7_takes_97 : decode cX7_takes 97 = .ok (.invokevirtual 24, 3) := by decide +kernel
theorem dX7_takes_100 : decode cX7_takes 100 = .ok (.iconst 1, 1) := by decide +kernel
theorem dX7_takes_101 : decode cX7_takes 101 = .ok (.ireturn, 1) := by decide +kernel
theorem dX7_takes_102 : decode cX7_takes 102 = .ok (.iconst 0, 1) := by decide +kernel
theorem dX7_takes_103 : decode cX7_takes 103 = .ok (.ireturn, 1) := by decide +kernel
theorem dX7_takesLetter_0 : decode cX7_takesLetter 0 = .ok (.iload_n 1, 1) := by decide +kernel
theorem dX7_takesLetter_1 : decode cX7_takesLetter 1 = .ok (.lookupswitch 71 #[(97, 59), (108, 59), (109, 59), (112, 59), (119, 59), (120, 59)], 59) := by decide +kernel
theorem dX7_takesLetter_60 : decode cX7_takesLetter 60 = .ok (.aload_n 0, 1) := by decide +kernel
theorem dX7_takesLetter_61 : decode cX7_takesLetter 61 = .ok (.iload_n 1, 1) := by decide +kernel
theorem dX7_takesLetter_62 : decode cX7_takesLetter 62 = .ok (.putfield 9, 3) := by decide +kernel
theorem dX7_takesLetter_65 : decode cX7_takesLetter 65 = .ok (.aload_n 0, 1) := by decide +kernel
theorem dX7_takesLetter_66 : decode cX7_takesLetter 66 = .ok (.iconst 0, 1) := by decide +kernel
theorem dX7_takesLetter_67 : decode cX7_takesLetter 67 = .ok (.invokevirtual 24, 3) := by decide +kernel
theorem dX7_takesLetter_70 : decode cX7_takesLetter 70 = .ok (.iconst 1, 1) := by decide +kernel
theorem dX7_takesLetter_71 : decode cX7_takesLetter 71 = .ok (.ireturn, 1) := by decide +kernel
theorem dX7_takesLetter_72 : decode cX7_takesLetter 72 = .ok (.iconst 0, 1) := by decide +kernel
theorem dX7_takesLetter_73 : decode cX7_takesLetter 73 = .ok (.ireturn, 1) := by decide +kernel
theorem dX7_takesDigit_0 : decode cX7_takesDigit 0 = .ok (.aload_n 0, 1) := by decide +kernel
theorem dX7_takesDigit_1 : decode cX7_takesDigit 1 = .ok (.getfield 18, 3) := by decide +kernel
theorem dX7_takesDigit_4 : decode cX7_takesDigit 4 = .ok (.ifCond .le 14, 3) := by decide +kernel
theorem dX7_takesDigit_7 : decode cX7_takesDigit 7 = .ok (.aload_n 0, 1) := by decide +kernel
theorem dX7_takesDigit_8 : decode cX7_takesDigit 8 = .ok (.getfield 21, 3) := by decide +kernel
theorem dX7_takesDigit_11 : decode cX7_takesDigit 11 = .ok (.ifCond .ne 7, 3) := by decide +kernel
theorem dX7_takesDigit_14 : decode cX7_takesDigit 14 = .ok (.iconst 1, 1) := by decide +kernel
theorem dX7_takesDigit_15 : decode cX7_takesDigit 15 = .ok (.goto 4, 3) := by decide +kernel
theorem dX7_takesDigit_18 : decode cX7_takesDigit 18 = .ok (.iconst 0, 1) := by decide +kernel
theorem dX7_takesDigit_19 : decode cX7_takesDigit 19 = .ok (.istore_n 2, 1) := by decide +kernel
theorem dX7_takesDigit_20 : decode cX7_takesDigit 20 = .ok (.aload_n 0, 1) := by decide +kernel
theorem dX7_takesDigit_21 : decode cX7_takesDigit 21 = .ok (.getfield 9, 3) := by decide +kernel
theorem dX7_takesDigit_24 : decode cX7_takesDigit 24 = .ok (.bipush 97, 2) := by decide +kernel
theorem dX7_takesDigit_26 : decode cX7_takesDigit 26 = .ok (.if_icmp .eq 7, 3) := by decide +kernel
theorem dX7_takesDigit_29 : decode cX7_takesDigit 29 = .ok (.iload_n 2, 1) := by decide +kernel
theorem dX7_takesDigit_30 : decode cX7_takesDigit 30 = .ok (.ifCond .eq 5, 3) := by decide +kernel
theorem dX7_takesDigit_33 : decode cX7_takesDigit 33 = .ok (.iconst 0, 1) := by decide +kernel
theorem dX7_takesDigit_34 : decode cX7_takesDigit 34 = .ok (.ireturn, 1) := by decide +kernel
theorem dX7_takesDigit_35 : decode cX7_takesDigit 35 = .ok (.bipush 10, 2) := by decide +kernel
theorem dX7_takesDigit_37 : decode cX7_takesDigit 37 = .ok (.aload_n 0, 1) := by decide +kernel
theorem dX7_takesDigit_38 : decode cX7_takesDigit 38 = .ok (.getfield 21, 3) := by decide +kernel
theorem dX7_takesDigit_41 : decode cX7_takesDigit 41 = .ok (.imul, 1) := by decide +kernel
theorem dX7_takesDigit_42 : decode cX7_takesDigit 42 = .ok (.iload_n 1, 1) := by decide +kernel
theorem dX7_takesDigit_43 : decode cX7_takesDigit 43 = .ok (.iadd, 1) := by decide +kernel
theorem dX7_takesDigit_44 : decode cX7_takesDigit 44 = .ok (.istore_n 3, 1) := by decide +kernel
theorem dX7_takesDigit_45 : decode cX7_takesDigit 45 = .ok (.aload_n 0, 1) := by decide +kernel
theorem dX7_takesDigit_46 : decode cX7_takesDigit 46 = .ok (.iload_n 3, 1) := by decide +kernel
theorem dX7_takesDigit_47 : decode cX7_takesDigit 47 = .ok (.invokevirtual 45, 3) := by decide +kernel
theorem dX7_takesDigit_50 : decode cX7_takesDigit 50 = .ok (.ifCond .ne 5, 3) := by decide +kernel
theorem dX7_takesDigit_53 : decode cX7_takesDigit 53 = .ok (.iconst 0, 1) := by decide +kernel
theorem dX7_takesDigit_54 : decode cX7_takesDigit 54 = .ok (.ireturn, 1) := by decide +kernel
theorem dX7_takesDigit_55 : decode cX7_takesDigit 55 = .ok (.aload_n 0, 1) := by decide +kernel
theorem dX7_takesDigit_56 : decode cX7_takesDigit 56 = .ok (.iload_n 3, 1) := by decide +kernel
theorem dX7_takesDigit_57 : decode cX7_takesDigit 57 = .ok (.putfield 21, 3) := by decide +kernel
theorem dX7_takesDigit_60 : decode cX7_takesDigit 60 = .ok (.aload_n 0, 1) := by decide +kernel
theorem dX7_takesDigit_61 : decode cX7_takesDigit 61 = .ok (.dup, 1) := by decide +kernel
theorem dX7_takesDigit_62 : decode cX7_takesDigit 62 = .ok (.getfield 18, 3) := by decide +kernel
theorem dX7_takesDigit_65 : decode cX7_takesDigit 65 = .ok (.iconst 1, 1) := by decide +kernel
theorem dX7_takesDigit_66 : decode cX7_takesDigit 66 = .ok (.iadd, 1) := by decide +kernel
theorem dX7_takesDigit_67 : decode cX7_takesDigit 67 = .ok (.putfield 18, 3) := by decide +kernel
theorem dX7_takesDigit_70 : decode cX7_takesDigit 70 = .ok (.iconst 1, 1) := by decide +kernel
theorem dX7_takesDigit_71 : decode cX7_takesDigit 71 = .ok (.ireturn, 1) := by decide +kernel
theorem dX7_canBecomeNumber_0 : decode cX7_canBecomeNumber 0 = .ok (.iload_n 1, 1) := by decide +kernel
theorem dX7_canBecomeNumber_1 : decode cX7_canBecomeNumber 1 = .ok (.ifCond .ne 16, 3) := by decide +kernel
theorem dX7_canBecomeNumber_4 : decode cX7_canBecomeNumber 4 = .ok (.aload_n 0, 1) := by decide +kernel
theorem dX7_canBecomeNumber_5 : decode cX7_canBecomeNumber 5 = .ok (.invokevirtual 48, 3) := by decide +kernel
theorem dX7_canBecomeNumber_8 : decode cX7_canBecomeNumber 8 = .ok (.ifCond .ne 7, 3) := by decide +kernel
theorem dX7_canBecomeNumber_11 : decode cX7_canBecomeNumber 11 = .ok (.iconst 1, 1) := by decide +kernel
theorem dX7_canBecomeNumber_12 : decode cX7_canBecomeNumber 12 = .ok (.goto 4, 3) := by decide +kernel
theorem dX7_canBecomeNumber_15 : decode cX7_canBecomeNumber 15 = .ok (.iconst 0, 1) := by decide +kernel
theorem dX7_canBecomeNumber_16 : decode cX7_canBecomeNumber 16 = .ok (.ireturn, 1) := by decide +kernel
theorem dX7_canBecomeNumber_17 : decode cX7_canBecomeNumber 17 = .ok (.iload_n 1, 1) := by decide +kernel
theorem dX7_canBecomeNumber_18 : decode cX7_canBecomeNumber 18 = .ok (.aload_n 0, 1) := by decide +kernel
theorem dX7_canBecomeNumber_19 : decode cX7_canBecomeNumber 19 = .ok (.invokevirtual 48, 3) := by decide +kernel
theorem dX7_canBecomeNumber_22 : decode cX7_canBecomeNumber 22 = .ok (.if_icmp .lt 19, 3) := by decide +kernel
theorem dX7_canBecomeNumber_25 : decode cX7_canBecomeNumber 25 = .ok (.iload_n 1, 1) := by decide +kernel
theorem dX7_canBecomeNumber_26 : decode cX7_canBecomeNumber 26 = .ok (.aload_n 0, 1) := by decide +kernel
theorem dX7_canBecomeNumber_27 : decode cX7_canBecomeNumber 27 = .ok (.invokevirtual 52, 3) := by decide +kernel
theorem dX7_canBecomeNumber_30 : decode cX7_canBecomeNumber 30 = .ok (.if_icmp .gt 7, 3) := by decide +kernel
theorem dX7_canBecomeNumber_33 : decode cX7_canBecomeNumber 33 = .ok (.iconst 1, 1) := by decide +kernel
theorem dX7_canBecomeNumber_34 : decode cX7_canBecomeNumber 34 = .ok (.goto 23, 3) := by decide +kernel
theorem dX7_canBecomeNumber_37 : decode cX7_canBecomeNumber 37 = .ok (.iconst 0, 1) := by decide +kernel
theorem dX7_canBecomeNumber_38 : decode cX7_canBecomeNumber 38 = .ok (.goto 19, 3) := by decide +kernel
theorem dX7_canBecomeNumber_41 : decode cX7_canBecomeNumber 41 = .ok (.bipush 10, 2) := by decide +kernel
theorem dX7_canBecomeNumber_43 : decode cX7_canBecomeNumber 43 = .ok (.iload_n 1, 1) := by decide +kernel
theorem dX7_canBecomeNumber_44 : decode cX7_canBecomeNumber 44 = .ok (.imul, 1) := by decide +kernel
theorem dX7_canBecomeNumber_45 : decode cX7_canBecomeNumber 45 = .ok (.aload_n 0, 1) := by decide +kernel
theorem dX7_canBecomeNumber_46 : decode cX7_canBecomeNumber 46 = .ok (.invokevirtual 52, 3) := by decide +kernel
theorem dX7_canBecomeNumber_49 : decode cX7_canBecomeNumber 49 = .ok (.if_icmp .gt 7, 3) := by decide +kernel
theorem dX7_canBecomeNumber_52 : decode cX7_canBecomeNumber 52 = .ok (.iconst 1, 1) := by decide +kernel
theorem dX7_canBecomeNumber_53 : decode cX7_canBecomeNumber 53 = .ok (.goto 4, 3) := by decide +kernel
theorem dX7_canBecomeNumber_56 : decode cX7_canBecomeNumber 56 = .ok (.iconst 0, 1) := by decide +kernel
theorem dX7_canBecomeNumber_57 : decode cX7_canBecomeNumber 57 = .ok (.ireturn, 1) := by decide +kernel
theorem dX7_numberStands_0 : decode cX7_numberStands 0 = .ok (.aload_n 0, 1) := by decide +kernel
theorem dX7_numberStands_1 : decode cX7_numberStands 1 = .ok (.getfield 9, 3) := by decide +kernel
theorem dX7_numberStands_4 : decode cX7_numberStands 4 = .ok (.bipush 97, 2) := by decide +kernel
theorem dX7_numberStands_6 : decode cX7_numberStands 6 = .ok (.if_icmp .eq 21, 3) := by decide +kernel
theorem dX7_numberStands_9 : decode cX7_numberStands 9 = .ok (.aload_n 0, 1) := by decide +kernel
theorem dX7_numberStands_10 : decode cX7_numberStands 10 = .ok (.getfield 18, 3) := by decide +kernel
theorem dX7_numberStands_13 : decode cX7_numberStands 13 = .ok (.ifCond .le 18, 3) := by decide +kernel
theorem dX7_numberStands_16 : decode cX7_numberStands 16 = .ok (.aload_n 0, 1) := by decide +kernel
theorem dX7_numberStands_17 : decode cX7_numberStands 17 = .ok (.getfield 21, 3) := by decide +kernel
theorem dX7_numberStands_20 : decode cX7_numberStands 20 = .ok (.aload_n 0, 1) := by decide +kernel
theorem dX7_numberStands_21 : decode cX7_numberStands 21 = .ok (.invokevirtual 48, 3) := by decide +kernel
theorem dX7_numberStands_24 : decode cX7_numberStands 24 = .ok (.if_icmp .lt 7, 3) := by decide +kernel
theorem dX7_numberStands_27 : decode cX7_numberStands 27 = .ok (.iconst 1, 1) := by decide +kernel
theorem dX7_numberStands_28 : decode cX7_numberStands 28 = .ok (.goto 4, 3) := by decide +kernel
theorem dX7_numberStands_31 : decode cX7_numberStands 31 = .ok (.iconst 0, 1) := by decide +kernel
theorem dX7_numberStands_32 : decode cX7_numberStands 32 = .ok (.ireturn, 1) := by decide +kernel
theorem dX7_wantsLonger_0 : decode cX7_wantsLonger 0 = .ok (.aload_n 0, 1) := by decide +kernel
theorem dX7_wantsLonger_1 : decode cX7_wantsLonger 1 = .ok (.getfield 9, 3) := by decide +kernel
theorem dX7_wantsLonger_4 : decode cX7_wantsLonger 4 = .ok (.bipush 119, 2) := by decide +kernel
theorem dX7_wantsLonger_6 : decode cX7_wantsLonger 6 = .ok (.if_icmp .ne 14, 3) := by decide +kernel
theorem dX7_wantsLonger_9 : decode cX7_wantsLonger 9 = .ok (.aload_n 0, 1) := by decide +kernel
theorem dX7_wantsLonger_10 : decode cX7_wantsLonger 10 = .ok (.getfield 15, 3) := by decide +kernel
theorem dX7_wantsLonger_13 : decode cX7_wantsLonger 13 = .ok (.ifCond .ne 7, 3) := by decide +kernel
theorem dX7_wantsLonger_16 : decode cX7_wantsLonger 16 = .ok (.iconst 1, 1) := by decide +kernel
theorem dX7_wantsLonger_17 : decode cX7_wantsLonger 17 = .ok (.goto 4, 3) := by decide +kernel
theorem dX7_wantsLonger_20 : decode cX7_wantsLonger 20 = .ok (.iconst 0, 1) := by decide +kernel
theorem dX7_wantsLonger_21 : decode cX7_wantsLonger 21 = .ok (.ireturn, 1) := by decide +kernel
theorem dX7_mayEnd_0 : decode cX7_mayEnd 0 = .ok (.aload_n 0, 1) := by decide +kernel
theorem dX7_mayEnd_1 : decode cX7_mayEnd 1 = .ok (.getfield 9, 3) := by decide +kernel
theorem dX7_mayEnd_4 : decode cX7_mayEnd 4 = .ok (.ifCond .eq 21, 3) := by decide +kernel
theorem dX7_mayEnd_7 : decode cX7_mayEnd 7 = .ok (.aload_n 0, 1) := by decide +kernel
theorem dX7_mayEnd_8 : decode cX7_mayEnd 8 = .ok (.invokevirtual 35, 3) := by decide +kernel
theorem dX7_mayEnd_11 : decode cX7_mayEnd 11 = .ok (.ifCond .eq 14, 3) := by decide +kernel
theorem dX7_mayEnd_14 : decode cX7_mayEnd 14 = .ok (.aload_n 0, 1) := by decide +kernel
theorem dX7_mayEnd_15 : decode cX7_mayEnd 15 = .ok (.invokevirtual 39, 3) := by decide +kernel
theorem dX7_mayEnd_18 : decode cX7_mayEnd 18 = .ok (.ifCond .ne 7, 3) := by decide +kernel
theorem dX7_mayEnd_21 : decode cX7_mayEnd 21 = .ok (.iconst 1, 1) := by decide +kernel
theorem dX7_mayEnd_22 : decode cX7_mayEnd 22 = .ok (.goto 4, 3) := by decide +kernel
theorem dX7_mayEnd_25 : decode cX7_mayEnd 25 = .ok (.iconst 0, 1) := by decide +kernel
theorem dX7_mayEnd_26 : decode cX7_mayEnd 26 = .ok (.ireturn, 1) := by decide +kernel
theorem dX7_least_0 : decode cX7_least 0 = .ok (.aload_n 0, 1) := by decide +kernel
theorem dX7_least_1 : decode cX7_least 1 = .ok (.getfield 9, 3) := by decide +kernel
theorem dX7_least_4 : decode cX7_least 4 = .ok (.lookupswitch 43 #[(112, 28), (119, 30)], 28) := by decide +kernel
theorem dX7_least_32 : decode cX7_least 32 = .ok (.iconst 1, 1) := by decide +kernel
theorem dX7_least_33 : decode cX7_least 33 = .ok (.ireturn, 1) := by decide +kernel
theorem dX7_least_34 : decode cX7_least 34 = .ok (.aload_n 0, 1) := by decide +kernel
theorem dX7_least_35 : decode cX7_least 35 = .ok (.getfield 15, 3) := by decide +kernel
theorem dX7_least_38 : decode cX7_least 38 = .ok (.ifCond .ne 7, 3) := by decide +kernel
theorem dX7_least_41 : decode cX7_least 41 = .ok (.iconst 1, 1) := by decide +kernel
theorem dX7_least_42 : decode cX7_least 42 = .ok (.goto 4, 3) := by decide +kernel
theorem dX7_least_45 : decode cX7_least 45 = .ok (.iconst 2, 1) := by decide +kernel
theorem dX7_least_46 : decode cX7_least 46 = .ok (.ireturn, 1) := by decide +kernel
theorem dX7_least_47 : decode cX7_least 47 = .ok (.iconst 0, 1) := by decide +kernel
theorem dX7_least_48 : decode cX7_least 48 = .ok (.ireturn, 1) := by decide +kernel
theorem dX7_most_0 : decode cX7_most 0 = .ok (.aload_n 0, 1) := by decide +kernel
theorem dX7_most_1 : decode cX7_most 1 = .ok (.getfield 9, 3) := by decide +kernel
theorem dX7_most_4 : decode cX7_most 4 = .ok (.lookupswitch 70 #[(108, 66), (109, 63), (112, 44), (119, 48)], 44) := by decide +kernel
theorem dX7_most_48 : decode cX7_most 48 = .ok (.sipush 9999, 3) := by decide +kernel
theorem dX7_most_51 : decode cX7_most 51 = .ok (.ireturn, 1) := by decide +kernel
theorem dX7_most_52 : decode cX7_most 52 = .ok (.aload_n 0, 1) := by decide +kernel
theorem dX7_most_53 : decode cX7_most 53 = .ok (.getfield 15, 3) := by decide +kernel
theorem dX7_most_56 : decode cX7_most 56 = .ok (.ifCond .ne 8, 3) := by decide +kernel
theorem dX7_most_59 : decode cX7_most 59 = .ok (.bipush 10, 2) := by decide +kernel
theorem dX7_most_61 : decode cX7_most 61 = .ok (.goto 5, 3) := by decide +kernel
theorem dX7_most_64 : decode cX7_most 64 = .ok (.bipush 20, 2) := by decide +kernel
theorem dX7_most_66 : decode cX7_most 66 = .ok (.ireturn, 1) := by decide +kernel
theorem dX7_most_67 : decode cX7_most 67 = .ok (.bipush 9, 2) := by decide +kernel
theorem dX7_most_69 : decode cX7_most 69 = .ok (.ireturn, 1) := by decide +kernel
theorem dX7_most_70 : decode cX7_most 70 = .ok (.sipush 9999, 3) := by decide +kernel
theorem dX7_most_73 : decode cX7_most 73 = .ok (.ireturn, 1) := by decide +kernel
theorem dX7_most_74 : decode cX7_most 74 = .ok (.bipush 59, 2) := by decide +kernel
theorem dX7_most_76 : decode cX7_most 76 = .ok (.ireturn, 1) := by decide +kernel
theorem dX8_init_0 : decode cX8_init 0 = .ok (.aload_n 0, 1) := by decide +kernel
theorem dX8_init_1 : decode cX8_init 1 = .ok (.invokespecial 3, 3) := by decide +kernel
theorem dX8_init_4 : decode cX8_init 4 = .ok (.aload_n 0, 1) := by decide +kernel
theorem dX8_init_5 : decode cX8_init 5 = .ok (.bipush 60, 2) := by decide +kernel
theorem dX8_init_7 : decode cX8_init 7 = .ok (.newarray .int, 2) := by decide +kernel
theorem dX8_init_9 : decode cX8_init 9 = .ok (.putfield 9, 3) := by decide +kernel
theorem dX8_init_12 : decode cX8_init 12 = .ok (.aload_n 0, 1) := by decide +kernel
theorem dX8_init_13 : decode cX8_init 13 = .ok (.iconst 0, 1) := by decide +kernel
theorem dX8_init_14 : decode cX8_init 14 = .ok (.putfield 15, 3) := by decide +kernel
theorem dX8_init_17 : decode cX8_init 17 = .ok (.aload_n 0, 1) := by decide +kernel
theorem dX8_init_18 : decode cX8_init 18 = .ok (.new 19, 3) := by decide +kernel
theorem dX8_init_21 : decode cX8_init 21 = .ok (.dup, 1) := by decide +kernel
theorem dX8_init_22 : decode cX8_init 22 = .ok (.invokespecial 21, 3) := by decide +kernel
theorem dX8_init_25 : decode cX8_init 25 = .ok (.putfield 22, 3) := by decide +kernel
theorem dX8_init_28 : decode cX8_init 28 = .ok (.return_, 1) := by decide +kernel
theorem dX8_add_0 : decode cX8_add 0 = .ok (.aload_n 0, 1) := by decide +kernel
theorem dX8_add_1 : decode cX8_add 1 = .ok (.getfield 15, 3) := by decide +kernel
theorem dX8_add_4 : decode cX8_add 4 = .ok (.ifCond .lt 35, 3) := by decide +kernel
theorem dX8_add_7 : decode cX8_add 7 = .ok (.aload_n 0, 1) := by decide +kernel
theorem dX8_add_8 : decode cX8_add 8 = .ok (.getfield 15, 3) := by decide +kernel
theorem dX8_add_11 : decode cX8_add 11 = .ok (.aload_n 0, 1) := by decide +kernel
theorem dX8_add_12 : decode cX8_add 12 = .ok (.getfield 9, 3) := by decide +kernel
theorem dX8_add_15 : decode cX8_add 15 = .ok (.arraylength, 1) := by decide +kernel
theorem dX8_add_16 : decode cX8_add 16 = .ok (.if_icmp .ge 23, 3) := by decide +kernel
theorem dX8_add_19 : decode cX8_add 19 = .ok (.aload_n 0, 1) := by decide +kernel
theorem dX8_add_20 : decode cX8_add 20 = .ok (.getfield 9, 3) := by decide +kernel
theorem dX8_add_23 : decode cX8_add 23 = .ok (.aload_n 0, 1) := by decide +kernel
theorem dX8_add_24 : decode cX8_add 24 = .ok (.getfield 15, 3) := by decide +kernel
theorem dX8_add_27 : decode cX8_add 27 = .ok (.iload_n 1, 1) := by decide +kernel
theorem dX8_add_28 : decode cX8_add 28 = .ok (.iastore, 1) := by decide +kernel
theorem dX8_add_29 : decode cX8_add 29 = .ok (.aload_n 0, 1) := by decide +kernel
theorem dX8_add_30 : decode cX8_add 30 = .ok (.dup, 1) := by decide +kernel
theorem dX8_add_31 : decode cX8_add 31 = .ok (.getfield 15, 3) := by decide +kernel
theorem dX8_add_34 : decode cX8_add 34 = .ok (.iconst 1, 1) := by decide +kernel
theorem dX8_add_35 : decode cX8_add 35 = .ok (.iadd, 1) := by decide +kernel
theorem dX8_add_36 : decode cX8_add 36 = .ok (.putfield 15, 3) := by decide +kernel
theorem dX8_add_39 : decode cX8_add 39 = .ok (.return_, 1) := by decide +kernel
theorem dX8_empty_0 : decode cX8_empty 0 = .ok (.aload_n 0, 1) := by decide +kernel
theorem dX8_empty_1 : decode cX8_empty 1 = .ok (.iconst 0, 1) := by decide +kernel
theorem dX8_empty_2 : decode cX8_empty 2 = .ok (.putfield 15, 3) := by decide +kernel
theorem dX8_empty_5 : decode cX8_empty 5 = .ok (.return_, 1) := by decide +kernel
theorem dX8_codeAt_0 : decode cX8_codeAt 0 = .ok (.iload_n 1, 1) := by decide +kernel
theorem dX8_codeAt_1 : decode cX8_codeAt 1 = .ok (.ifCond .lt 21, 3) := by decide +kernel
theorem dX8_codeAt_4 : decode cX8_codeAt 4 = .ok (.iload_n 1, 1) := by decide +kernel
theorem dX8_codeAt_5 : decode cX8_codeAt 5 = .ok (.aload_n 0, 1) := by decide +kernel
theorem dX8_codeAt_6 : decode cX8_codeAt 6 = .ok (.getfield 9, 3) := by decide +kernel
theorem dX8_codeAt_9 : decode cX8_codeAt 9 = .ok (.arraylength, 1) := by decide +kernel
theorem dX8_codeAt_10 : decode cX8_codeAt 10 = .ok (.if_icmp .ge 12, 3) := by decide +kernel
theorem dX8_codeAt_13 : decode cX8_codeAt 13 = .ok (.aload_n 0, 1) := by decide +kernel
theorem dX8_codeAt_14 : decode cX8_codeAt 14 = .ok (.getfield 9, 3) := by decide +kernel
theorem dX8_codeAt_17 : decode cX8_codeAt 17 = .ok (.iload_n 1, 1) := by decide +kernel
theorem dX8_codeAt_18 : decode cX8_codeAt 18 = .ok (.iaload, 1) := by decide +kernel
theorem dX8_codeAt_19 : decode cX8_codeAt 19 = .ok (.goto 4, 3) := by decide +kernel
theorem dX8_codeAt_22 : decode cX8_codeAt 22 = .ok (.iconst 0, 1) := by decide +kernel
theorem dX8_codeAt_23 : decode cX8_codeAt 23 = .ok (.ireturn, 1) := by decide +kernel
theorem dX8_firstRefused_0 : decode cX8_firstRefused 0 = .ok (.aload_n 0, 1) := by decide +kernel
theorem dX8_firstRefused_1 : decode cX8_firstRefused 1 = .ok (.getfield 22, 3) := by decide +kernel
theorem dX8_firstRefused_4 : decode cX8_firstRefused 4 = .ok (.invokevirtual 26, 3) := by decide +kernel
theorem dX8_firstRefused_7 : decode cX8_firstRefused 7 = .ok (.iconst 0, 1) := by decide +kernel
theorem dX8_firstRefused_8 : decode cX8_firstRefused 8 = .ok (.istore_n 1, 1) := by decide +kernel
theorem dX8_firstRefused_9 : decode cX8_firstRefused 9 = .ok (.iload_n 1, 1) := by decide +kernel
theorem dX8_firstRefused_10 : decode cX8_firstRefused 10 = .ok (.aload_n 0, 1) := by decide +kernel
theorem dX8_firstRefused_11 : decode cX8_firstRefused 11 = .ok (.getfield 15, 3) := by decide +kernel
theorem dX8_firstRefused_14 : decode cX8_firstRefused 14 = .ok (.if_icmp .ge 26, 3) := by decide +kernel
theorem dX8_firstRefused_17 : decode cX8_firstRefused 17 = .ok (.aload_n 0, 1) := by decide +kernel
theorem dX8_firstRefused_18 : decode cX8_firstRefused 18 = .ok (.getfield 22, 3) := by decide +kernel
theorem dX8_firstRefused_21 : decode cX8_firstRefused 21 = .ok (.aload_n 0, 1) := by decide +kernel
theorem dX8_firstRefused_22 : decode cX8_firstRefused 22 = .ok (.iload_n 1, 1) := by decide +kernel
theorem dX8_firstRefused_23 : decode cX8_firstRefused 23 = .ok (.invokevirtual 29, 3) := by decide +kernel
theorem dX8_firstRefused_26 : decode cX8_firstRefused 26 = .ok (.invokevirtual 33, 3) := by decide +kernel
theorem dX8_firstRefused_29 : decode cX8_firstRefused 29 = .ok (.ifCond .ne 5, 3) := by decide +kernel
theorem dX8_firstRefused_32 : decode cX8_firstRefused 32 = .ok (.iload_n 1, 1) := by decide +kernel
theorem dX8_firstRefused_33 : decode cX8_firstRefused 33 = .ok (.ireturn, 1) := by decide +kernel
theorem dX8_firstRefused_34 : decode cX8_firstRefused 34 = .ok (.iinc 1 1, 3) := by decide +kernel
theorem dX8_firstRefused_37 : decode cX8_firstRefused 37 = .ok (.goto (-28), 3) := by decide +kernel
theorem dX8_firstRefused_40 : decode cX8_firstRefused 40 = .ok (.aload_n 0, 1) := by decide +kernel
theorem dX8_firstRefused_41 : decode cX8_firstRefused 41 = .ok (.getfield 15, 3) := by decide +kernel
theorem dX8_firstRefused_44 : decode cX8_firstRefused 44 = .ok (.ireturn, 1) := by decide +kernel
theorem dX8_isWhole_0 : decode cX8_isWhole 0 = .ok (.aload_n 0, 1) := by decide +kernel
theorem dX8_isWhole_1 : decode cX8_isWhole 1 = .ok (.invokevirtual 37, 3) := by decide +kernel
theorem dX8_isWhole_4 : decode cX8_isWhole 4 = .ok (.aload_n 0, 1) := by decide +kernel
theorem dX8_isWhole_5 : decode cX8_isWhole 5 = .ok (.getfield 15, 3) := by decide +kernel
theorem dX8_isWhole_8 : decode cX8_isWhole 8 = .ok (.if_icmp .ne 17, 3) := by decide +kernel
theorem dX8_isWhole_11 : decode cX8_isWhole 11 = .ok (.aload_n 0, 1) := by decide +kernel
theorem dX8_isWhole_12 : decode cX8_isWhole 12 = .ok (.getfield 22, 3) := by decide +kernel
theorem dX8_isWhole_15 : decode cX8_isWhole 15 = .ok (.invokevirtual 41, 3) := by decide +kernel
theorem dX8_isWhole_18 : decode cX8_isWhole 18 = .ok (.ifCond .eq 7, 3) := by decide +kernel
theorem dX8_isWhole_21 : decode cX8_isWhole 21 = .ok (.iconst 1, 1) := by decide +kernel
theorem dX8_isWhole_22 : decode cX8_isWhole 22 = .ok (.goto 4, 3) := by decide +kernel
theorem dX8_isWhole_25 : decode cX8_isWhole 25 = .ok (.iconst 0, 1) := by decide +kernel
theorem dX8_isWhole_26 : decode cX8_isWhole 26 = .ok (.ireturn, 1) := by decide +kernel
theorem dX9_init_0 : decode cX9_init 0 = .ok (.aload_n 0, 1) := by decide +kernel
theorem dX9_init_1 : decode cX9_init 1 = .ok (.invokespecial 3, 3) := by decide +kernel
theorem dX9_init_4 : decode cX9_init 4 = .ok (.aload_n 0, 1) := by decide +kernel
theorem dX9_init_5 : decode cX9_init 5 = .ok (.ldc2_w 9, 3) := by decide +kernel
theorem dX9_init_8 : decode cX9_init 8 = .ok (.putfield 11, 3) := by decide +kernel
theorem dX9_init_11 : decode cX9_init 11 = .ok (.aload_n 0, 1) := by decide +kernel
theorem dX9_init_12 : decode cX9_init 12 = .ok (.iconst 0, 1) := by decide +kernel
theorem dX9_init_13 : decode cX9_init 13 = .ok (.putfield 17, 3) := by decide +kernel
theorem dX9_init_16 : decode cX9_init 16 = .ok (.return_, 1) := by decide +kernel
theorem dX9_crossingAt_0 : decode cX9_crossingAt 0 = .ok (.iload_n 1, 1) := by decide +kernel
theorem dX9_crossingAt_1 : decode cX9_crossingAt 1 = .ok (.iconst 1, 1) := by decide +kernel
theorem dX9_crossingAt_2 : decode cX9_crossingAt 2 = .ok (.if_icmp .ge 5, 3) := by decide +kernel
theorem dX9_crossingAt_5 : decode cX9_crossingAt 5 = .ok (.iconst 0, 1) := by decide +kernel
theorem dX9_crossingAt_6 : decode cX9_crossingAt 6 = .ok (.ireturn, 1) := by decide +kernel
theorem dX9_crossingAt_7 : decode cX9_crossingAt 7 = .ok (.aload_n 0, 1) := by decide +kernel
theorem dX9_crossingAt_8 : decode cX9_crossingAt 8 = .ok (.iload_n 1, 1) := by decide +kernel
theorem dX9_crossingAt_9 : decode cX9_crossingAt 9 = .ok (.invokestatic 21, 3) := by decide +kernel
theorem dX9_crossingAt_12 : decode cX9_crossingAt 12 = .ok (.istore_n 2, 1) := by decide +kernel
theorem dX9_crossingAt_13 : decode cX9_crossingAt 13 = .ok (.iload_n 2, 1) := by decide +kernel
theorem dX9_crossingAt_14 : decode cX9_crossingAt 14 = .ok (.aload_n 0, 1) := by decide +kernel
theorem dX9_crossingAt_15 : decode cX9_crossingAt 15 = .ok (.iload_n 1, 1) := by decide +kernel
theorem dX9_crossingAt_16 : decode cX9_crossingAt 16 = .ok (.iconst 1, 1) := by decide +kernel
theorem dX9_crossingAt_17 : decode cX9_crossingAt 17 = .ok (.isub, 1) := by decide +kernel
theorem dX9_crossingAt_18 : decode cX9_crossingAt 18 = .ok (.invokestatic 21, 3) := by decide +kernel
theorem dX9_crossingAt_21 : decode cX9_crossingAt 21 = .ok (.if_icmp .ne 7, 3) := by decide +kernel
theorem dX9_crossingAt_24 : decode cX9_crossingAt 24 = .ok (.iconst 0, 1) := by decide +kernel
theorem dX9_crossingAt_25 : decode cX9_crossingAt 25 = .ok (.goto 4, 3) := by decide +kernel
theorem dX9_crossingAt_28 : decode cX9_crossingAt 28 = .ok (.iload_n 2, 1) := by decide +kernel
theorem dX9_crossingAt_29 : decode cX9_crossingAt 29 = .ok (.ireturn, 1) := by decide +kernel
theorem dX9_sideAt_0 : decode cX9_sideAt 0 = .ok (.aload_n 0, 1) := by decide +kernel
theorem dX9_sideAt_1 : decode cX9_sideAt 1 = .ok (.iload_n 1, 1) := by decide +kernel
theorem dX9_sideAt_2 : decode cX9_sideAt 2 = .ok (.aload_n 0, 1) := by decide +kernel
theorem dX9_sideAt_3 : decode cX9_sideAt 3 = .ok (.getfield 25, 3) := by decide +kernel
theorem dX9_sideAt_6 : decode cX9_sideAt 6 = .ok (.invokestatic 30, 3) := by decide +kernel
theorem dX9_sideAt_9 : decode cX9_sideAt 9 = .ok (.istore_n 2, 1) := by decide +kernel
theorem dX9_sideAt_10 : decode cX9_sideAt 10 = .ok (.aload_n 0, 1) := by decide +kernel
theorem dX9_sideAt_11 : decode cX9_sideAt 11 = .ok (.iload_n 1, 1) := by decide +kernel
theorem dX9_sideAt_12 : decode cX9_sideAt 12 = .ok (.aload_n 0, 1) := by decide +kernel
theorem dX9_sideAt_13 : decode cX9_sideAt 13 = .ok (.getfield 36, 3) := by decide +kernel
theorem dX9_sideAt_16 : decode cX9_sideAt 16 = .ok (.invokestatic 30, 3) := by decide +kernel
theorem dX9_sideAt_19 : decode cX9_sideAt 19 = .ok (.istore_n 3, 1) := by decide +kernel
theorem dX9_sideAt_20 : decode cX9_sideAt 20 = .ok (.iload_n 2, 1) := by decide +kernel
theorem dX9_sideAt_21 : decode cX9_sideAt 21 = .ok (.iload_n 3, 1) := by decide +kernel
theorem dX9_sideAt_22 : decode cX9_sideAt 22 = .ok (.if_icmp .ne 5, 3) := by decide +kernel
theorem dX9_sideAt_25 : decode cX9_sideAt 25 = .ok (.iconst 0, 1) := by decide +kernel
theorem dX9_sideAt_26 : decode cX9_sideAt 26 = .ok (.ireturn, 1) := by decide +kernel
theorem dX9_sideAt_27 : decode cX9_sideAt 27 = .ok (.iload_n 2, 1) := by decide +kernel
theorem dX9_sideAt_28 : decode cX9_sideAt 28 = .ok (.iload_n 3, 1) := by decide +kernel
theorem dX9_sideAt_29 : decode cX9_sideAt 29 = .ok (.if_icmp .le 7, 3) := by decide +kernel
theorem dX9_sideAt_32 : decode cX9_sideAt 32 = .ok (.iconst 1, 1) := by decide +kernel
theorem dX9_sideAt_33 : decode cX9_sideAt 33 = .ok (.goto 4, 3) := by decide +kernel
theorem dX9_sideAt_36 : decode cX9_sideAt 36 = .ok (.iconst (-1), 1) := by decide +kernel
theorem dX9_sideAt_37 : decode cX9_sideAt 37 = .ok (.ireturn, 1) := by decide +kernel
theorem dX9_numberOfCrossings_0 : decode cX9_numberOfCrossings 0 = .ok (.iconst 0, 1) := by decide +kernel
theorem dX9_numberOfCrossings_1 : decode cX9_numberOfCrossings 1 = .ok (.istore_n 1, 1) := by decide +kernel
theorem dX9_numberOfCrossings_2 : decode cX9_numberOfCrossings 2 = .ok (.iconst 1, 1) := by decide +kernel
theorem dX9_numberOfCrossings_3 : decode cX9_numberOfCrossings 3 = .ok (.istore_n 2, 1) := by decide +kernel
theorem dX9_numberOfCrossings_4 : decode cX9_numberOfCrossings 4 = .ok (.iload_n 2, 1) := by decide +kernel
theorem dX9_numberOfCrossings_5 : decode cX9_numberOfCrossings 5 = .ok (.aload_n 0, 1) := by decide +kernel
theorem dX9_numberOfCrossings_6 : decode cX9_numberOfCrossings 6 = .ok (.getfield 39, 3) := by decide +kernel
theorem dX9_numberOfCrossings_9 : decode cX9_numberOfCrossings 9 = .ok (.if_icmp .ge 20, 3) := by decide +kernel
theorem dX9_numberOfCrossings_12 : decode cX9_numberOfCrossings 12 = .ok (.aload_n 0, 1) := by decide +kernel
theorem dX9_numberOfCrossings_13 : decode cX9_numberOfCrossings 13 = .ok (.iload_n 2, 1) := by decide +kernel
theorem dX9_numberOfCrossings_14 : decode cX9_numberOfCrossings 14 = .ok (.invokestatic 42, 3) := by decide +kernel
theorem dX9_numberOfCrossings_17 : decode cX9_numberOfCrossings 17 = .ok (.ifCond .eq 6, 3) := by decide +kernel
theorem dX9_numberOfCrossings_20 : decode cX9_numberOfCrossings 20 = .ok (.iinc 1 1, 3) := by decide +kernel
theorem dX9_numberOfCrossings_23 : decode cX9_numberOfCrossings 23 = .ok (.iinc 2 1, 3) := by decide +kernel
theorem dX9_numberOfCrossings_26 : decode cX9_numberOfCrossings 26 = .ok (.goto (-22), 3) := by decide +kernel
theorem dX9_numberOfCrossings_29 : decode cX9_numberOfCrossings 29 = .ok (.iload_n 1, 1) := by decide +kernel
theorem dX9_numberOfCrossings_30 : decode cX9_numberOfCrossings 30 = .ok (.ireturn, 1) := by decide +kernel
theorem dX9_start_0 : decode cX9_start 0 = .ok (.aload_n 0, 1) := by decide +kernel
theorem dX9_start_1 : decode cX9_start 1 = .ok (.ldc2_w 9, 3) := by decide +kernel
theorem dX9_start_4 : decode cX9_start 4 = .ok (.putfield 11, 3) := by decide +kernel
theorem dX9_start_7 : decode cX9_start 7 = .ok (.aload_n 0, 1) := by decide +kernel
theorem dX9_start_8 : decode cX9_start 8 = .ok (.iconst 0, 1) := by decide +kernel
theorem dX9_start_9 : decode cX9_start 9 = .ok (.putfield 17, 3) := by decide +kernel
theorem dX9_start_12 : decode cX9_start 12 = .ok (.return_, 1) := by decide +kernel
theorem dX9_runTo_0 : decode cX9_runTo 0 = .ok (.aload_n 0, 1) := by decide +kernel
theorem dX9_runTo_1 : decode cX9_runTo 1 = .ok (.invokevirtual 45, 3) := by decide +kernel
theorem dX9_runTo_4 : decode cX9_runTo 4 = .ok (.iconst 0, 1) := by decide +kernel
theorem dX9_runTo_5 : decode cX9_runTo 5 = .ok (.istore_n 3, 1) := by decide +kernel
theorem dX9_runTo_6 : decode cX9_runTo 6 = .ok (.iload_n 3, 1) := by decide +kernel
theorem dX9_runTo_7 : decode cX9_runTo 7 = .ok (.iload_n 2, 1) := by decide +kernel
theorem dX9_runTo_8 : decode cX9_runTo 8 = .ok (.if_icmp .gt 15, 3) := by decide +kernel
theorem dX9_runTo_11 : decode cX9_runTo 11 = .ok (.aload_n 0, 1) := by decide +kernel
theorem dX9_runTo_12 : decode cX9_runTo 12 = .ok (.aload_n 1, 1) := by decide +kernel
theorem dX9_runTo_13 : decode cX9_runTo 13 = .ok (.iload_n 3, 1) := by decide +kernel
theorem dX9_runTo_14 : decode cX9_runTo 14 = .ok (.invokevirtual 48, 3) := by decide +kernel
theorem dX9_runTo_17 : decode cX9_runTo 17 = .ok (.iinc 3 1, 3) := by decide +kernel
theorem dX9_runTo_20 : decode cX9_runTo 20 = .ok (.goto (-14), 3) := by decide +kernel
theorem dX9_runTo_23 : decode cX9_runTo 23 = .ok (.return_, 1) := by decide +kernel
theorem dX9_pass_0 : decode cX9_pass 0 = .ok (.aload_n 1, 1) := by decide +kernel
theorem dX9_pass_1 : decode cX9_pass 1 = .ok (.iload_n 2, 1) := by decide +kernel
theorem dX9_pass_2 : decode cX9_pass 2 = .ok (.invokestatic 42, 3) := by decide +kernel
theorem dX9_pass_5 : decode cX9_pass 5 = .ok (.istore_n 3, 1) := by decide +kernel
theorem dX9_pass_6 : decode cX9_pass 6 = .ok (.aload_n 1, 1) := by decide +kernel
theorem dX9_pass_7 : decode cX9_pass 7 = .ok (.iload_n 2, 1) := by decide +kernel
theorem dX9_pass_8 : decode cX9_pass 8 = .ok (.invokevirtual 52, 3) := by decide +kernel
theorem dX9_pass_11 : decode cX9_pass 11 = .ok (.i2l, 1) := by decide +kernel
theorem dX9_pass_12 : decode cX9_pass 12 = .ok (.lstore 4, 2) := by decide +kernel
theorem dX9_pass_14 : decode cX9_pass 14 = .ok (.iload_n 3, 1) := by decide +kernel
theorem dX9_pass_15 : decode cX9_pass 15 = .ok (.ifCond .le 55, 3) := by decide +kernel
theorem dX9_pass_18 : decode cX9_pass 18 = .ok (.aload_n 0, 1) := by decide +kernel
theorem dX9_pass_19 : decode cX9_pass 19 = .ok (.getfield 11, 3) := by decide +kernel
theorem dX9_pass_22 : decode cX9_pass 22 = .ok (.lload 4, 2) := by decide +kernel
theorem dX9_pass_24 : decode cX9_pass 24 = .ok (.invokestatic 56, 3) := by decide +kernel
theorem dX9_pass_27 : decode cX9_pass 27 = .ok (.sipush 999, 3) := by decide +kernel
theorem dX9_pass_30 : decode cX9_pass 30 = .ok (.aload_n 0, 1) := by decide +kernel
theorem dX9_pass_31 : decode cX9_pass 31 = .ok (.getfield 17, 3) := by decide +kernel
theorem dX9_pass_34 : decode cX9_pass 34 = .ok (.isub, 1) := by decide +kernel
theorem dX9_pass_35 : decode cX9_pass 35 = .ok (.i2l, 1) := by decide +kernel
theorem dX9_pass_36 : decode cX9_pass 36 = .ok (.invokestatic 60, 3) := by decide +kernel
theorem dX9_pass_39 : decode cX9_pass 39 = .ok (.lstore 6, 2) := by decide +kernel
theorem dX9_pass_41 : decode cX9_pass 41 = .ok (.aload_n 0, 1) := by decide +kernel
theorem dX9_pass_42 : decode cX9_pass 42 = .ok (.dup, 1) := by decide +kernel
theorem dX9_pass_43 : decode cX9_pass 43 = .ok (.getfield 11, 3) := by decide +kernel
theorem dX9_pass_46 : decode cX9_pass 46 = .ok (.lload 6, 2) := by decide +kernel
theorem dX9_pass_48 : decode cX9_pass 48 = .ok (.lload 4, 2) := by decide +kernel
theorem dX9_pass_50 : decode cX9_pass 50 = .ok (.lmul, 1) := by decide +kernel
theorem dX9_pass_51 : decode cX9_pass 51 = .ok (.lsub, 1) := by decide +kernel
theorem dX9_pass_52 : decode cX9_pass 52 = .ok (.putfield 11, 3) := by decide +kernel
theorem dX9_pass_55 : decode cX9_pass 55 = .ok (.aload_n 0, 1) := by decide +kernel
theorem dX9_pass_56 : decode cX9_pass 56 = .ok (.dup, 1) := by decide +kernel
theorem dX9_pass_57 : decode cX9_pass 57 = .ok (.getfield 17, 3) := by decide +kernel
theorem dX9_pass_60 : decode cX9_pass 60 = .ok (.lload 6, 2) := by decide +kernel
theorem dX9_pass_62 : decode cX9_pass 62 = .ok (.l2i, 1) := by decide +kernel
theorem dX9_pass_63 : decode cX9_pass 63 = .ok (.iadd, 1) := by decide +kernel
theorem dX9_pass_64 : decode cX9_pass 64 = .ok (.putfield 17, 3) := by decide +kernel
theorem dX9_pass_67 : decode cX9_pass 67 = .ok (.goto 29, 3) := by decide +kernel
theorem dX9_pass_70 : decode cX9_pass 70 = .ok (.iload_n 3, 1) := by decide +kernel
theorem dX9_pass_71 : decode cX9_pass 71 = .ok (.ifCond .ge 25, 3) := by decide +kernel
theorem dX9_pass_74 : decode cX9_pass 74 = .ok (.aload_n 0, 1) := by decide +kernel
theorem dX9_pass_75 : decode cX9_pass 75 = .ok (.dup, 1) := by decide +kernel
theorem dX9_pass_76 : decode cX9_pass 76 = .ok (.getfield 11, 3) := by decide +kernel
theorem dX9_pass_79 : decode cX9_pass 79 = .ok (.aload_n 0, 1) := by decide +kernel
theorem dX9_pass_80 : decode cX9_pass 80 = .ok (.getfield 17, 3) := by decide +kernel
theorem dX9_pass_83 : decode cX9_pass 83 = .ok (.i2l, 1) := by decide +kernel
theorem dX9_pass_84 : decode cX9_pass 84 = .ok (.lload 4, 2) := by decide +kernel
theorem dX9_pass_86 : decode cX9_pass 86 = .ok (.lmul, 1) := by decide +kernel
theorem dX9_pass_87 : decode cX9_pass 87 = .ok (.ladd, 1) := by decide +kernel
theorem dX9_pass_88 : decode cX9_pass 88 = .ok (.putfield 11, 3) := by decide +kernel
theorem dX9_pass_91 : decode cX9_pass 91 = .ok (.aload_n 0, 1) := by decide +kernel
theorem dX9_pass_92 : decode cX9_pass 92 = .ok (.iconst 0, 1) := by decide +kernel
theorem dX9_pass_93 : decode cX9_pass 93 = .ok (.putfield 17, 3) := by decide +kernel
theorem dX9_pass_96 : decode cX9_pass 96 = .ok (.return_, 1) := by decide +kernel
theorem dX9_valueAt_0 : decode cX9_valueAt 0 = .ok (.aload_n 0, 1) := by decide +kernel
theorem dX9_valueAt_1 : decode cX9_valueAt 1 = .ok (.getfield 11, 3) := by decide +kernel
theorem dX9_valueAt_4 : decode cX9_valueAt 4 = .ok (.aload_n 0, 1) := by decide +kernel
theorem dX9_valueAt_5 : decode cX9_valueAt 5 = .ok (.getfield 17, 3) := by decide +kernel
theorem dX9_valueAt_8 : decode cX9_valueAt 8 = .ok (.i2l, 1) := by decide +kernel
theorem dX9_valueAt_9 : decode cX9_valueAt 9 = .ok (.aload_n 1, 1) := by decide +kernel
theorem dX9_valueAt_10 : decode cX9_valueAt 10 = .ok (.iload_n 2, 1) := by decide +kernel
theorem dX9_valueAt_11 : decode cX9_valueAt 11 = .ok (.invokevirtual 52, 3) := by decide +kernel
theorem dX9_valueAt_14 : decode cX9_valueAt 14 = .ok (.i2l, 1) := by decide +kernel
theorem dX9_valueAt_15 : decode cX9_valueAt 15 = .ok (.lmul, 1) := by decide +kernel
theorem dX9_valueAt_16 : decode cX9_valueAt 16 = .ok (.ladd, 1) := by decide +kernel
theorem dX9_valueAt_17 : decode cX9_valueAt 17 = .ok (.lreturn, 1) := by decide +kernel
theorem dX10_init_0 : decode cX10_init 0 = .ok (.aload_n 0, 1) := by decide +kernel
theorem dX10_init_1 : decode cX10_init 1 = .ok (.invokespecial 3, 3) := by decide +kernel
theorem dX10_init_4 : decode cX10_init 4 = .ok (.aload_n 0, 1) := by decide +kernel
theorem dX10_init_5 : decode cX10_init 5 = .ok (.iconst 0, 1) := by decide +kernel
theorem dX10_init_6 : decode cX10_init 6 = .ok (.putfield 9, 3) := by decide +kernel
theorem dX10_init_9 : decode cX10_init 9 = .ok (.aload_n 0, 1) := by decide +kernel
theorem dX10_init_10 : decode cX10_init 10 = .ok (.bipush 60, 2) := by decide +kernel
theorem dX10_init_12 : decode cX10_init 12 = .ok (.newarray .int, 2) := by decide +kernel
theorem dX10_init_14 : decode cX10_init 14 = .ok (.putfield 15, 3) := by decide +kernel
theorem dX10_init_17 : decode cX10_init 17 = .ok (.aload_n 0, 1) := by decide +kernel
theorem dX10_init_18 : decode cX10_init 18 = .ok (.iconst 0, 1) := by decide +kernel
theorem dX10_init_19 : decode cX10_init 19 = .ok (.putfield 19, 3) := by decide +kernel
theorem dX10_init_22 : decode cX10_init 22 = .ok (.return_, 1) := by decide +kernel
theorem dX10_run_0 : decode cX10_run 0 = .ok (.iconst 0, 1) := by decide +kernel
theorem dX10_run_1 : decode cX10_run 1 = .ok (.istore_n 3, 1) := by decide +kernel
theorem dX10_run_2 : decode cX10_run 2 = .ok (.iconst 0, 1) := by decide +kernel
theorem dX10_run_3 : decode cX10_run 3 = .ok (.istore 4, 2) := by decide +kernel
theorem dX10_run_5 : decode cX10_run 5 = .ok (.iconst 0, 1) := by decide +kernel
theorem dX10_run_6 : decode cX10_run 6 = .ok (.istore 5, 2) := by decide +kernel
theorem dX10_run_8 : decode cX10_run 8 = .ok (.iconst 0, 1) := by decide +kernel
theorem dX10_run_9 : decode cX10_run 9 = .ok (.istore 6, 2) := by decide +kernel
theorem dX10_run_11 : decode cX10_run 11 = .ok (.iload 6, 2) := by decide +kernel
theorem dX10_run_13 : decode cX10_run 13 = .ok (.bipush 60, 2) := by decide +kernel
theorem dX10_run_15 : decode cX10_run 15 = .ok (.if_icmp .ge 54, 3) := by decide +kernel
theorem dX10_run_18 : decode cX10_run 18 = .ok (.iload 5, 2) := by decide +kernel
theorem dX10_run_20 : decode cX10_run 20 = .ok (.aload_n 2, 1) := by decide +kernel
theorem dX10_run_21 : decode cX10_run 21 = .ok (.getfield 22, 3) := by decide +kernel
theorem dX10_run_24 : decode cX10_run 24 = .ok (.if_icmp .ge 45, 3) := by decide +kernel
theorem dX10_run_27 : decode cX10_run 27 = .ok (.iload 4, 2) := by decide +kernel
theorem dX10_run_29 : decode cX10_run 29 = .ok (.ifCond .ne 40, 3) := by decide +kernel
theorem dX10_run_32 : decode cX10_run 32 = .ok (.aload_n 0, 1) := by decide +kernel
theorem dX10_run_33 : decode cX10_run 33 = .ok (.aload_n 2, 1) := by decide +kernel
theorem dX10_run_34 : decode cX10_run 34 = .ok (.iload 5, 2) := by decide +kernel
theorem dX10_run_36 : decode cX10_run 36 = .ok (.invokevirtual 27, 3) := by decide +kernel
theorem dX10_run_39 : decode cX10_run 39 = .ok (.istore 5, 2) := by decide +kernel
theorem dX10_run_41 : decode cX10_run 41 = .ok (.aload_n 0, 1) := by decide +kernel
theorem dX10_run_42 : decode cX10_run 42 = .ok (.aload_n 1, 1) := by decide +kernel
theorem dX10_run_43 : decode cX10_run 43 = .ok (.invokevirtual 31, 3) := by decide +kernel
theorem dX10_run_46 : decode cX10_run 46 = .ok (.istore 4, 2) := by decide +kernel
theorem dX10_run_48 : decode cX10_run 48 = .ok (.iload 4, 2) := by decide +kernel
theorem dX10_run_50 : decode cX10_run 50 = .ok (.ifCond .ne 10, 3) := by decide +kernel
theorem dX10_run_53 : decode cX10_run 53 = .ok (.iload 6, 2) := by decide +kernel
theorem dX10_run_55 : decode cX10_run 55 = .ok (.iconst 1, 1) := by decide +kernel
theorem dX10_run_56 : decode cX10_run 56 = .ok (.iadd, 1) := by decide +kernel
theorem dX10_run_57 : decode cX10_run 57 = .ok (.goto 5, 3) := by decide +kernel
theorem dX10_run_60 : decode cX10_run 60 = .ok (.iload 6, 2) := by decide +kernel
theorem dX10_run_62 : decode cX10_run 62 = .ok (.istore_n 3, 1) := by decide +kernel
theorem dX10_run_63 : decode cX10_run 63 = .ok (.iinc 6 1, 3) := by decide +kernel
theorem dX10_run_66 : decode cX10_run 66 = .ok (.goto (-55), 3) := by decide +kernel
theorem dX10_run_69 : decode cX10_run 69 = .ok (.aload_n 1, 1) := by decide +kernel
theorem dX10_run_70 : decode cX10_run 70 = .ok (.iload 4, 2) := by decide +kernel
theorem dX10_run_72 : decode cX10_run 72 = .ok (.ifCond .eq 7, 3) := by decide +kernel
theorem dX10_run_75 : decode cX10_run 75 = .ok (.iconst 1, 1) := by decide +kernel
theorem dX10_run_76 : decode cX10_run 76 = .ok (.goto 4, 3) := by decide +kernel
theorem dX10_run_79 : decode cX10_run 79 = .ok (.iconst 0, 1) := by decide +kernel
theorem dX10_run_80 : decode cX10_run 80 = .ok (.putfield 35, 3) := by decide +kernel
theorem dX10_run_83 : decode cX10_run 83 = .ok (.aload_n 1, 1) := by decide +kernel
theorem dX10_run_84 : decode cX10_run 84 = .ok (.aload_n 1, 1) := by decide +kernel
theorem dX10_run_85 : decode cX10_run 85 = .ok (.getfield 35, 3) := by decide +kernel
theorem dX10_run_88 : decode cX10_run 88 = .ok (.ifCond .eq 7, 3) := by decide +kernel
theorem dX10_run_91 : decode cX10_run 91 = .ok (.iload_n 3, 1) := by decide +kernel
theorem dX10_run_92 : decode cX10_run 92 = .ok (.goto 4, 3) := by decide +kernel
theorem dX10_run_95 : decode cX10_run 95 = .ok (.iconst 0, 1) := by decide +kernel
theorem dX10_run_96 : decode cX10_run 96 = .ok (.putfield 41, 3) := by decide +kernel
theorem dX10_run_99 : decode cX10_run 99 = .ok (.aload_n 1, 1) := by decide +kernel
theorem dX10_run_100 : decode cX10_run 100 = .ok (.iload 4, 2) := by decide +kernel
theorem dX10_run_102 : decode cX10_run 102 = .ok (.putfield 44, 3) := by decide +kernel
theorem dX10_run_105 : decode cX10_run 105 = .ok (.iload_n 3, 1) := by decide +kernel
theorem dX10_run_106 : decode cX10_run 106 = .ok (.ireturn, 1) := by decide +kernel
theorem dX10_readPart_0 : decode cX10_readPart 0 = .ok (.aload_n 0, 1) := by decide +kernel
theorem dX10_readPart_1 : decode cX10_readPart 1 = .ok (.aload_n 1, 1) := by decide +kernel
theorem dX10_readPart_2 : decode cX10_readPart 2 = .ok (.iload_n 2, 1) := by decide +kernel
theorem dX10_readPart_3 : decode cX10_readPart 3 = .ok (.invokevirtual 47, 3) := by decide +kernel
theorem dX10_readPart_6 : decode cX10_readPart 6 = .ok (.putfield 9, 3) := by decide +kernel
theorem dX10_readPart_9 : decode cX10_readPart 9 = .ok (.aload_n 0, 1) := by decide +kernel
theorem dX10_readPart_10 : decode cX10_readPart 10 = .ok (.iconst 0, 1) := by decide +kernel
theorem dX10_readPart_11 : decode cX10_readPart 11 = .ok (.putfield 19, 3) := by decide +kernel
theorem dX10_readPart_14 : decode cX10_readPart 14 = .ok (.iconst 0, 1) := by decide +kernel
theorem dX10_readPart_15 : decode cX10_readPart 15 = .ok (.istore_n 3, 1) := by decide +kernel
theorem dX10_readPart_16 : decode cX10_readPart 16 = .ok (.iload_n 2, 1) := by decide +kernel
theorem dX10_readPart_17 : decode cX10_readPart 17 = .ok (.iconst 1, 1) := by decide +kernel
theorem dX10_readPart_18 : decode cX10_readPart 18 = .ok (.iadd, 1) := by decide +kernel
theorem dX10_readPart_19 : decode cX10_readPart 19 = .ok (.istore 4, 2) := by decide +kernel
theorem dX10_readPart_21 : decode cX10_readPart 21 = .ok (.iload 4, 2) := by decide +kernel
theorem dX10_readPart_23 : decode cX10_readPart 23 = .ok (.aload_n 1, 1) := by decide +kernel
theorem dX10_readPart_24 : decode cX10_readPart 24 = .ok (.getfield 22, 3) := by decide +kernel
theorem dX10_readPart_27 : decode cX10_readPart 27 = .ok (.if_icmp .ge 79, 3) := by decide +kernel
theorem dX10_readPart_30 : decode cX10_readPart 30 = .ok (.aload_n 1, 1) := by decide +kernel
theorem dX10_readPart_31 : decode cX10_readPart 31 = .ok (.iload 4, 2) := by decide +kernel
theorem dX10_readPart_33 : decode cX10_readPart 33 = .ok (.invokevirtual 47, 3) := by decide +kernel
theorem dX10_readPart_36 : decode cX10_readPart 36 = .ok (.bipush 59, 2) := by decide +kernel
theorem dX10_readPart_38 : decode cX10_readPart 38 = .ok (.if_icmp .eq 68, 3) := by decide +kernel
theorem dX10_readPart_41 : decode cX10_readPart 41 = .ok (.aload_n 1, 1) := by decide +kernel
theorem dX10_readPart_42 : decode cX10_readPart 42 = .ok (.iload 4, 2) := by decide +kernel
theorem dX10_readPart_44 : decode cX10_readPart 44 = .ok (.invokevirtual 47, 3) := by decide +kernel
theorem dX10_readPart_47 : decode cX10_readPart 47 = .ok (.istore 5, 2) := by decide +kernel
theorem dX10_readPart_49 : decode cX10_readPart 49 = .ok (.iload 5, 2) := by decide +kernel
theorem dX10_readPart_51 : decode cX10_readPart 51 = .ok (.bipush 48, 2) := by decide +kernel
theorem dX10_readPart_53 : decode cX10_readPart 53 = .ok (.if_icmp .lt 14, 3) := by decide +kernel
theorem dX10_readPart_56 : decode cX10_readPart 56 = .ok (.iload 5, 2) := by decide +kernel
theorem dX10_readPart_58 : decode cX10_readPart 58 = .ok (.bipush 57, 2) := by decide +kernel
theorem dX10_readPart_60 : decode cX10_readPart 60 = .ok (.if_icmp .gt 7, 3) := by decide +kernel
theorem dX10_readPart_63 : decode cX10_readPart 63 = .ok (.iconst 1, 1) := by decide +kernel
theorem dX10_readPart_64 : decode cX10_readPart 64 = .ok (.goto 4, 3) := by decide +kernel
theorem dX10_readPart_67 : decode cX10_readPart 67 = .ok (.iconst 0, 1) := by decide +kernel
theorem dX10_readPart_68 : decode cX10_readPart 68 = .ok (.istore 6, 2) := by decide +kernel
theorem dX10_readPart_70 : decode cX10_readPart 70 = .ok (.iload 6, 2) := by decide +kernel
theorem dX10_readPart_72 : decode cX10_readPart 72 = .ok (.ifCond .eq 11, 3) := by decide +kernel
theorem dX10_readPart_75 : decode cX10_readPart 75 = .ok (.iload_n 3, 1) := by decide +kernel
theorem dX10_readPart_76 : decode cX10_readPart 76 = .ok (.ifCond .ne 7, 3) := by decide +kernel
theorem dX10_readPart_79 : decode cX10_readPart 79 = .ok (.aload_n 0, 1) := by decide +kernel
theorem dX10_readPart_80 : decode cX10_readPart 80 = .ok (.invokevirtual 51, 3) := by decide +kernel
theorem dX10_readPart_83 : decode cX10_readPart 83 = .ok (.iload 6, 2) := by decide +kernel
theorem dX10_readPart_85 : decode cX10_readPart 85 = .ok (.ifCond .eq 12, 3) := by decide +kernel
theorem dX10_readPart_88 : decode cX10_readPart 88 = .ok (.aload_n 0, 1) := by decide +kernel
theorem dX10_readPart_89 : decode cX10_readPart 89 = .ok (.iload 5, 2) := by decide +kernel
theorem dX10_readPart_91 : decode cX10_readPart 91 = .ok (.bipush 48, 2) := by decide +kernel
theorem dX10_readPart_93 : decode cX10_readPart 93 = .ok (.isub, 1) := by decide +kernel
theorem dX10_readPart_94 : decode cX10_readPart 94 = .ok (.invokevirtual 54, 3) := by decide +kernel
theorem dX10_readPart_97 : decode cX10_readPart 97 = .ok (.iload 6, 2) := by decide +kernel
theorem dX10_readPart_99 : decode cX10_readPart 99 = .ok (.istore_n 3, 1) := by decide +kernel
theorem dX10_readPart_100 : decode cX10_readPart 100 = .ok (.iinc 4 1, 3) := by decide +kernel
theorem dX10_readPart_103 : decode cX10_readPart 103 = .ok (.goto (-82), 3) := by decide +kernel
theorem dX10_readPart_106 : decode cX10_readPart 106 = .ok (.iload 4, 2) := by decide +kernel
theorem dX10_readPart_108 : decode cX10_readPart 108 = .ok (.iconst 1, 1) := by decide +kernel
theorem dX10_readPart_109 : decode cX10_readPart 109 = .ok (.iadd, 1) := by decide +kernel
theorem dX10_readPart_110 : decode cX10_readPart 110 = .ok (.ireturn, 1) := by decide +kernel
theorem dX10_startNumber_0 : decode cX10_startNumber 0 = .ok (.aload_n 0, 1) := by decide +kernel
theorem dX10_startNumber_1 : decode cX10_startNumber 1 = .ok (.getfield 19, 3) := by decide +kernel
theorem dX10_startNumber_4 : decode cX10_startNumber 4 = .ok (.ifCond .lt 35, 3) := by decide +kernel
theorem dX10_startNumber_7 : decode cX10_startNumber 7 = .ok (.aload_n 0, 1) := by decide +kernel
theorem dX10_startNumber_8 : decode cX10_startNumber 8 = .ok (.getfield 19, 3) := by decide +kernel
theorem dX10_startNumber_11 : decode cX10_startNumber 11 = .ok (.aload_n 0, 1) := by decide +kernel
theorem dX10_startNumber_12 : decode cX10_startNumber 12 = .ok (.getfield 15, 3) := by decide +kernel
theorem dX10_startNumber_15 : decode cX10_startNumber 15 = .ok (.arraylength, 1) := by decide +kernel
theorem dX10_startNumber_16 : decode cX10_startNumber 16 = .ok (.if_icmp .ge 23, 3) := by decide +kernel
theorem dX10_startNumber_19 : decode cX10_startNumber 19 = .ok (.aload_n 0, 1) := by decide +kernel
theorem dX10_startNumber_20 : decode cX10_startNumber 20 = .ok (.getfield 15, 3) := by decide +kernel
theorem dX10_startNumber_23 : decode cX10_startNumber 23 = .ok (.aload_n 0, 1) := by decide +kernel
theorem dX10_startNumber_24 : decode cX10_startNumber 24 = .ok (.getfield 19, 3) := by decide +kernel
theorem dX10_startNumber_27 : decode cX10_startNumber 27 = .ok (.iconst 0, 1) := by decide +kernel
theorem dX10_startNumber_28 : decode cX10_startNumber 28 = .ok (.iastore, 1) := by decide +kernel
theorem dX10_startNumber_29 : decode cX10_startNumber 29 = .ok (.aload_n 0, 1) := by decide +kernel
theorem dX10_startNumber_30 : decode cX10_startNumber 30 = .ok (.dup, 1) := by decide +kernel
theorem dX10_startNumber_31 : decode cX10_startNumber 31 = .ok (.getfield 19, 3) := by decide +kernel
theorem dX10_startNumber_34 : decode cX10_startNumber 34 = .ok (.iconst 1, 1) := by decide +kernel
theorem dX10_startNumber_35 : decode cX10_startNumber 35 = .ok (.iadd, 1) := by decide +kernel
theorem dX10_startNumber_36 : decode cX10_startNumber 36 = .ok (.putfield 19, 3) := by decide +kernel
theorem dX10_startNumber_39 : decode cX10_startNumber 39 = .ok (.return_, 1) := by decide +kernel
theorem dX10_growNumber_0 : decode cX10_growNumber 0 = .ok (.aload_n 0, 1) := by decide +kernel
theorem dX10_growNumber_1 : decode cX10_growNumber 1 = .ok (.getfield 19, 3) := by decide +kernel
theorem dX10_growNumber_4 : decode cX10_growNumber 4 = .ok (.ifCond .le 42, 3) := by decide +kernel
theorem dX10_growNumber_7 : decode cX10_growNumber 7 = .ok (.aload_n 0, 1) := by decide +kernel
theorem dX10_growNumber_8 : decode cX10_growNumber 8 = .ok (.getfield 19, 3) := by decide +kernel
theorem dX10_growNumber_11 : decode cX10_growNumber 11 = .ok (.aload_n 0, 1) := by decide +kernel
theorem dX10_growNumber_12 : decode cX10_growNumber 12 = .ok (.getfield 15, 3) := by decide +kernel
theorem dX10_growNumber_15 : decode cX10_growNumber 15 = .ok (.arraylength, 1) := by decide +kernel
theorem dX10_growNumber_16 : decode cX10_growNumber 16 = .ok (.if_icmp .gt 30, 3) := by decide +kernel
theorem dX10_growNumber_19 : decode cX10_growNumber 19 = .ok (.aload_n 0, 1) := by decide +kernel
theorem dX10_growNumber_20 : decode cX10_growNumber 20 = .ok (.getfield 15, 3) := by decide +kernel
theorem dX10_growNumber_23 : decode cX10_growNumber 23 = .ok (.aload_n 0, 1) := by decide +kernel
theorem dX10_growNumber_24 : decode cX10_growNumber 24 = .ok (.getfield 19, 3) := by decide +kernel
theorem dX10_growNumber_27 : decode cX10_growNumber 27 = .ok (.iconst 1, 1) := by decide +kernel
theorem dX10_growNumber_28 : decode cX10_growNumber 28 = .ok (.isub, 1) := by decide +kernel
theorem dX10_growNumber_29 : decode cX10_growNumber 29 = .ok (.bipush 10, 2) := by decide +kernel
theorem dX10_growNumber_31 : decode cX10_growNumber 31 = .ok (.aload_n 0, 1) := by decide +kernel
theorem dX10_growNumber_32 : decode cX10_growNumber 32 = .ok (.getfield 15, 3) := by decide +kernel
theorem dX10_growNumber_35 : decode cX10_growNumber 35 = .ok (.aload_n 0, 1) := by decide +kernel
theorem dX10_growNumber_36 : decode cX10_growNumber 36 = .ok (.getfield 19, 3) := by decide +kernel
theorem dX10_growNumber_39 : decode cX10_growNumber 39 = .ok (.iconst 1, 1) := by decide +kernel
theorem dX10_growNumber_40 : decode cX10_growNumber 40 = .ok (.isub, 1) := by decide +kernel
theorem dX10_growNumber_41 : decode cX10_growNumber 41 = .ok (.iaload, 1) := by decide +kernel
theorem dX10_growNumber_42 : decode cX10_growNumber 42 = .ok (.imul, 1) := by decide +kernel
theorem dX10_growNumber_43 : decode cX10_growNumber 43 = .ok (.iload_n 1, 1) := by decide +kernel
theorem dX10_growNumber_44 : decode cX10_growNumber 44 = .ok (.iadd, 1) := by decide +kernel
theorem dX10_growNumber_45 : decode cX10_growNumber 45 = .ok (.iastore, 1) := by decide +kernel
theorem dX10_growNumber_46 : decode cX10_growNumber 46 = .ok (.return_, 1) := by decide +kernel
theorem dX10_number_0 : decode cX10_number 0 = .ok (.iload_n 1, 1) := by decide +kernel
theorem dX10_number_1 : decode cX10_number 1 = .ok (.ifCond .lt 21, 3) := by decide +kernel
theorem dX10_number_4 : decode cX10_number 4 = .ok (.iload_n 1, 1) := by decide +kernel
theorem dX10_number_5 : decode cX10_number 5 = .ok (.aload_n 0, 1) := by decide +kernel
theorem dX10_number_6 : decode cX10_number 6 = .ok (.getfield 15, 3) := by decide +kernel
theorem dX10_number_9 : decode cX10_number 9 = .ok (.arraylength, 1) := by decide +kernel
theorem dX10_number_10 : decode cX10_number 10 = .ok (.if_icmp .ge 12, 3) := by decide +kernel
theorem dX10_number_13 : decode cX10_number 13 = .ok (.aload_n 0, 1) := by decide +kernel
theorem dX10_number_14 : decode cX10_number 14 = .ok (.getfield 15, 3) := by decide +kernel
theorem dX10_number_17 : decode cX10_number 17 = .ok (.iload_n 1, 1) := by decide +kernel
theorem dX10_number_18 : decode cX10_number 18 = .ok (.iaload, 1) := by decide +kernel
theorem dX10_number_19 : decode cX10_number 19 = .ok (.goto 4, 3) := by decide +kernel
theorem dX10_number_22 : decode cX10_number 22 = .ok (.iconst 0, 1) := by decide +kernel
theorem dX10_number_23 : decode cX10_number 23 = .ok (.ireturn, 1) := by decide +kernel
theorem dX10_doPart_0 : decode cX10_doPart 0 = .ok (.aload_n 0, 1) := by decide +kernel
theorem dX10_doPart_1 : decode cX10_doPart 1 = .ok (.getfield 9, 3) := by decide +kernel
theorem dX10_doPart_4 : decode cX10_doPart 4 = .ok (.tableswitch 108 108 120 #[91, 80, 108, 108, 68, 108, 108, 108, 108, 108, 108, 74, 102], 68) := by decide +kernel
theorem dX10_doPart_72 : decode cX10_doPart 72 = .ok (.aload_n 0, 1) := by decide +kernel
theorem dX10_doPart_73 : decode cX10_doPart 73 = .ok (.aload_n 1, 1) := by decide +kernel
theorem dX10_doPart_74 : decode cX10_doPart 74 = .ok (.invokevirtual 58, 3) := by decide +kernel
theorem dX10_doPart_77 : decode cX10_doPart 77 = .ok (.ireturn, 1) := by decide +kernel
theorem dX10_doPart_78 : decode cX10_doPart 78 = .ok (.aload_n 0, 1) := by decide +kernel
theorem dX10_doPart_79 : decode cX10_doPart 79 = .ok (.aload_n 1, 1) := by decide +kernel
theorem dX10_doPart_80 : decode cX10_doPart 80 = .ok (.invokevirtual 61, 3) := by decide +kernel
theorem dX10_doPart_83 : decode cX10_doPart 83 = .ok (.ireturn, 1) := by decide +kernel
theorem dX10_doPart_84 : decode cX10_doPart 84 = .ok (.aload_n 1, 1) := by decide +kernel
theorem dX10_doPart_85 : decode cX10_doPart 85 = .ok (.aload_n 0, 1) := by decide +kernel
theorem dX10_doPart_86 : decode cX10_doPart 86 = .ok (.iconst 0, 1) := by decide +kernel
theorem dX10_doPart_87 : decode cX10_doPart 87 = .ok (.invokevirtual 64, 3) := by decide +kernel
theorem dX10_doPart_90 : decode cX10_doPart 90 = .ok (.putfield 67, 3) := by decide +kernel
theorem dX10_doPart_93 : decode cX10_doPart 93 = .ok (.iconst 0, 1) := by decide +kernel
theorem dX10_doPart_94 : decode cX10_doPart 94 = .ok (.ireturn, 1) := by decide +kernel
theorem dX10_doPart_95 : decode cX10_doPart 95 = .ok (.aload_n 1, 1) := by decide +kernel
theorem dX10_doPart_96 : decode cX10_doPart 96 = .ok (.aload_n 0, 1) := by decide +kernel
theorem dX10_doPart_97 : decode cX10_doPart 97 = .ok (.iconst 0, 1) := by decide +kernel
theorem dX10_doPart_98 : decode cX10_doPart 98 = .ok (.invokevirtual 64, 3) := by decide +kernel
theorem dX10_doPart_101 : decode cX10_doPart 101 = .ok (.putfield 70, 3) := by decide +kernel
theorem dX10_doPart_104 : decode cX10_doPart 104 = .ok (.iconst 0, 1) := by decide +kernel
theorem dX10_doPart_105 : decode cX10_doPart 105 = .ok (.ireturn, 1) := by decide +kernel
theorem dX10_doPart_106 : decode cX10_doPart 106 = .ok (.aload_n 0, 1) := by decide +kernel
theorem dX10_doPart_107 : decode cX10_doPart 107 = .ok (.aload_n 1, 1) := by decide +kernel
theorem dX10_doPart_108 : decode cX10_doPart 108 = .ok (.invokevirtual 73, 3) := by decide +kernel
theorem dX10_doPart_111 : decode cX10_doPart 111 = .ok (.ireturn, 1) := by decide +kernel
theorem dX10_doPart_112 : decode cX10_doPart 112 = .ok (.aload_n 1, 1) := by decide +kernel
theorem dX10_doPart_113 : decode cX10_doPart 113 = .ok (.invokestatic 76, 3) := by decide +kernel
theorem dX10_doPart_116 : decode cX10_doPart 116 = .ok (.pop, 1) := by decide +kernel
theorem dX10_doPart_117 : decode cX10_doPart 117 = .ok (.iconst 0, 1) := by decide +kernel
theorem dX10_doPart_118 : decode cX10_doPart 118 = .ok (.ireturn, 1) := by decide +kernel
theorem dX10_addAll_0 : decode cX10_addAll 0 = .ok (.aload_n 1, 1) := by decide +kernel
theorem dX10_addAll_1 : decode cX10_addAll 1 = .ok (.getfield 81, 3) := by decide +kernel
theorem dX10_addAll_4 : decode cX10_addAll 4 = .ok (.aload_n 0, 1) := by decide +kernel
theorem dX10_addAll_5 : decode cX10_addAll 5 = .ok (.getfield 19, 3) := by decide +kernel
theorem dX10_addAll_8 : decode cX10_addAll 8 = .ok (.iadd, 1) := by decide +kernel
theorem dX10_addAll_9 : decode cX10_addAll 9 = .ok (.bipush 60, 2) := by decide +kernel
theorem dX10_addAll_11 : decode cX10_addAll 11 = .ok (.if_icmp .le 5, 3) := by decide +kernel
theorem dX10_addAll_14 : decode cX10_addAll 14 = .ok (.iconst 1, 1) := by decide +kernel
theorem dX10_addAll_15 : decode cX10_addAll 15 = .ok (.ireturn, 1) := by decide +kernel
theorem dX10_addAll_16 : decode cX10_addAll 16 = .ok (.iconst 0, 1) := by decide +kernel
theorem dX10_addAll_17 : decode cX10_addAll 17 = .ok (.istore_n 2, 1) := by decide +kernel
theorem dX10_addAll_18 : decode cX10_addAll 18 = .ok (.iload_n 2, 1) := by decide +kernel
theorem dX10_addAll_19 : decode cX10_addAll 19 = .ok (.aload_n 0, 1) := by decide +kernel
theorem dX10_addAll_20 : decode cX10_addAll 20 = .ok (.getfield 19, 3) := by decide +kernel
theorem dX10_addAll_23 : decode cX10_addAll 23 = .ok (.if_icmp .ge 18, 3) := by decide +kernel
theorem dX10_addAll_26 : decode cX10_addAll 26 = .ok (.aload_n 1, 1) := by decide +kernel
theorem dX10_addAll_27 : decode cX10_addAll 27 = .ok (.aload_n 0, 1) := by decide +kernel
theorem dX10_addAll_28 : decode cX10_addAll 28 = .ok (.iload_n 2, 1) := by decide +kernel
theorem dX10_addAll_29 : decode cX10_addAll 29 = .ok (.invokevirtual 64, 3) := by decide +kernel
theorem dX10_addAll_32 : decode cX10_addAll 32 = .ok (.invokevirtual 82, 3) := by decide +kernel
theorem dX10_addAll_35 : decode cX10_addAll 35 = .ok (.iinc 2 1, 3) := by decide +kernel
theorem dX10_addAll_38 : decode cX10_addAll 38 = .ok (.goto (-20), 3) := by decide +kernel
theorem dX10_addAll_41 : decode cX10_addAll 41 = .ok (.iconst 0, 1) := by decide +kernel
theorem dX10_addAll_42 : decode cX10_addAll 42 = .ok (.ireturn, 1) := by decide +kernel
theorem dX10_changeWindows_0 : decode cX10_changeWindows 0 = .ok (.aload_n 0, 1) := by decide +kernel
theorem dX10_changeWindows_1 : decode cX10_changeWindows 1 = .ok (.iconst 0, 1) := by decide +kernel
theorem dX10_changeWindows_2 : decode cX10_changeWindows 2 = .ok (.invokevirtual 64, 3) := by decide +kernel
theorem dX10_changeWindows_5 : decode cX10_changeWindows 5 = .ok (.aload_n 0, 1) := by decide +kernel
theorem dX10_changeWindows_6 : decode cX10_changeWindows 6 = .ok (.iconst 1, 1) := by decide +kernel
theorem dX10_changeWindows_7 : decode cX10_changeWindows 7 = .ok (.invokevirtual 64, 3) := by decide +kernel
theorem dX10_changeWindows_10 : decode cX10_changeWindows 10 = .ok (.if_icmp .lt 5, 3) := by decide +kernel
theorem dX10_changeWindows_13 : decode cX10_changeWindows 13 = .ok (.iconst 4, 1) := by decide +kernel
theorem dX10_changeWindows_14 : decode cX10_changeWindows 14 = .ok (.ireturn, 1) := by decide +kernel
theorem dX10_changeWindows_15 : decode cX10_changeWindows 15 = .ok (.aload_n 1, 1) := by decide +kernel
theorem dX10_changeWindows_16 : decode cX10_changeWindows 16 = .ok (.aload_n 0, 1) := by decide +kernel
theorem dX10_changeWindows_17 : decode cX10_changeWindows 17 = .ok (.iconst 0, 1) := by decide +kernel
theorem dX10_changeWindows_18 : decode cX10_changeWindows 18 = .ok (.invokevirtual 64, 3) := by decide +kernel
theorem dX10_changeWindows_21 : decode cX10_changeWindows 21 = .ok (.putfield 85, 3) := by decide +kernel
theorem dX10_changeWindows_24 : decode cX10_changeWindows 24 = .ok (.aload_n 1, 1) := by decide +kernel
theorem dX10_changeWindows_25 : decode cX10_changeWindows 25 = .ok (.aload_n 0, 1) := by decide +kernel
theorem dX10_changeWindows_26 : decode cX10_changeWindows 26 = .ok (.iconst 1, 1) := by decide +kernel
theorem dX10_changeWindows_27 : decode cX10_changeWindows 27 = .ok (.invokevirtual 64, 3) := by decide +kernel
theorem dX10_changeWindows_30 : decode cX10_changeWindows 30 = .ok (.putfield 88, 3) := by decide +kernel
theorem dX10_changeWindows_33 : decode cX10_changeWindows 33 = .ok (.iconst 0, 1) := by decide +kernel
theorem dX10_changeWindows_34 : decode cX10_changeWindows 34 = .ok (.ireturn, 1) := by decide +kernel
theorem dX10_flattenOne_0 : decode cX10_flattenOne 0 = .ok (.aload_n 0, 1) := by decide +kernel
theorem dX10_flattenOne_1 : decode cX10_flattenOne 1 = .ok (.iconst 0, 1) := by decide +kernel
theorem dX10_flattenOne_2 : decode cX10_flattenOne 2 = .ok (.invokevirtual 64, 3) := by decide +kernel
theorem dX10_flattenOne_5 : decode cX10_flattenOne 5 = .ok (.istore_n 2, 1) := by decide +kernel
theorem dX10_flattenOne_6 : decode cX10_flattenOne 6 = .ok (.aload_n 1, 1) := by decide +kernel
theorem dX10_flattenOne_7 : decode cX10_flattenOne 7 = .ok (.iload_n 2, 1) := by decide +kernel
theorem dX10_flattenOne_8 : decode cX10_flattenOne 8 = .ok (.invokevirtual 91, 3) := by decide +kernel
theorem dX10_flattenOne_11 : decode cX10_flattenOne 11 = .ok (.ifCond .ne 5, 3) := by decide +kernel
theorem dX10_flattenOne_14 : decode cX10_flattenOne 14 = .ok (.iconst 2, 1) := by decide +kernel
theorem dX10_flattenOne_15 : decode cX10_flattenOne 15 = .ok (.ireturn, 1) := by decide +kernel
theorem dX10_flattenOne_16 : decode cX10_flattenOne 16 = .ok (.aload_n 1, 1) := by decide +kernel
theorem dX10_flattenOne_17 : decode cX10_flattenOne 17 = .ok (.iload_n 2, 1) := by decide +kernel
theorem dX10_flattenOne_18 : decode cX10_flattenOne 18 = .ok (.invokestatic 95, 3) := by decide +kernel
theorem dX10_flattenOne_21 : decode cX10_flattenOne 21 = .ok (.ifCond .ne 5, 3) := by decide +kernel
theorem dX10_flattenOne_24 : decode cX10_flattenOne 24 = .ok (.iconst 3, 1) := by decide +kernel
theorem dX10_flattenOne_25 : decode cX10_flattenOne 25 = .ok (.ireturn, 1) := by decide +kernel
theorem dX10_flattenOne_26 : decode cX10_flattenOne 26 = .ok (.aload_n 1, 1) := by decide +kernel
theorem dX10_flattenOne_27 : decode cX10_flattenOne 27 = .ok (.iload_n 2, 1) := by decide +kernel
theorem dX10_flattenOne_28 : decode cX10_flattenOne 28 = .ok (.invokestatic 99, 3) := by decide +kernel
theorem dX10_flattenOne_31 : decode cX10_flattenOne 31 = .ok (.iconst 0, 1) := by decide +kernel
theorem dX10_flattenOne_32 : decode cX10_flattenOne 32 = .ok (.ireturn, 1) := by decide +kernel
theorem dX11_init_0 : decode cX11_init 0 = .ok (.aload_n 0, 1) := by decide +kernel
theorem dX11_init_1 : decode cX11_init 1 = .ok (.invokespecial 1, 3) := by decide +kernel
theorem dX11_init_4 : decode cX11_init 4 = .ok (.aload_n 0, 1) := by decide +kernel
theorem dX11_init_5 : decode cX11_init 5 = .ok (.new 7, 3) := by decide +kernel
theorem dX11_init_8 : decode cX11_init 8 = .ok (.dup, 1) := by decide +kernel
theorem dX11_init_9 : decode cX11_init 9 = .ok (.invokespecial 9, 3) := by decide +kernel
theorem dX11_init_12 : decode cX11_init 12 = .ok (.putfield 10, 3) := by decide +kernel
theorem dX11_init_15 : decode cX11_init 15 = .ok (.aload_n 0, 1) := by decide +kernel
theorem dX11_init_16 : decode cX11_init 16 = .ok (.new 7, 3) := by decide +kernel
theorem dX11_init_19 : decode cX11_init 19 = .ok (.dup, 1) := by decide +kernel
theorem dX11_init_20 : decode cX11_init 20 = .ok (.invokespecial 9, 3) := by decide +kernel
theorem dX11_init_23 : decode cX11_init 23 = .ok (.putfield 16, 3) := by decide +kernel
theorem dX11_init_26 : decode cX11_init 26 = .ok (.aload_n 0, 1) := by decide +kernel
theorem dX11_init_27 : decode cX11_init 27 = .ok (.new 7, 3) := by decide +kernel
theorem dX11_init_30 : decode cX11_init 30 = .ok (.dup, 1) := by decide +kernel
theorem dX11_init_31 : decode cX11_init 31 = .ok (.invokespecial 9, 3) := by decide +kernel
theorem dX11_init_34 : decode cX11_init 34 = .ok (.putfield 19, 3) := by decide +kernel
theorem dX11_init_37 : decode cX11_init 37 = .ok (.aload_n 0, 1) := by decide +kernel
theorem dX11_init_38 : decode cX11_init 38 = .ok (.iconst 0, 1) := by decide +kernel
theorem dX11_init_39 : decode cX11_init 39 = .ok (.putfield 22, 3) := by decide +kernel
theorem dX11_init_42 : decode cX11_init 42 = .ok (.aload_n 0, 1) := by decide +kernel
theorem dX11_init_43 : decode cX11_init 43 = .ok (.new 26, 3) := by decide +kernel
theorem dX11_init_46 : decode cX11_init 46 = .ok (.dup, 1) := by decide +kernel
theorem dX11_init_47 : decode cX11_init 47 = .ok (.invokespecial 28, 3) := by decide +kernel
theorem dX11_init_50 : decode cX11_init 50 = .ok (.putfield 29, 3) := by decide +kernel
theorem dX11_init_53 : decode cX11_init 53 = .ok (.aload_n 0, 1) := by decide +kernel
theorem dX11_init_54 : decode cX11_init 54 = .ok (.new 33, 3) := by decide +kernel
theorem dX11_init_57 : decode cX11_init 57 = .ok (.dup, 1) := by decide +kernel
theorem dX11_init_58 : decode cX11_init 58 = .ok (.invokespecial 35, 3) := by decide +kernel
theorem dX11_init_61 : decode cX11_init 61 = .ok (.putfield 36, 3) := by decide +kernel
theorem dX11_init_64 : decode cX11_init 64 = .ok (.aload_n 0, 1) := by decide +kernel
theorem dX11_init_65 : decode cX11_init 65 = .ok (.new 40, 3) := by decide +kernel
theorem dX11_init_68 : decode cX11_init 68 = .ok (.dup, 1) := by decide +kernel
theorem dX11_init_69 : decode cX11_init 69 = .ok (.invokespecial 42, 3) := by decide +kernel
theorem dX11_init_72 : decode cX11_init 72 = .ok (.putfield 43, 3) := by decide +kernel
theorem dX11_init_75 : decode cX11_init 75 = .ok (.aload_n 0, 1) := by decide +kernel
theorem dX11_init_76 : decode cX11_init 76 = .ok (.new 47, 3) := by decide +kernel
theorem dX11_init_79 : decode cX11_init 79 = .ok (.dup, 1) := by decide +kernel
theorem dX11_init_80 : decode cX11_init 80 = .ok (.invokespecial 49, 3) := by decide +kernel
theorem dX11_init_83 : decode cX11_init 83 = .ok (.putfield 50, 3) := by decide +kernel
theorem dX11_init_86 : decode cX11_init 86 = .ok (.aload_n 0, 1) := by decide +kernel
theorem dX11_init_87 : decode cX11_init 87 = .ok (.new 54, 3) := by decide +kernel
theorem dX11_init_90 : decode cX11_init 90 = .ok (.dup, 1) := by decide +kernel
theorem dX11_init_91 : decode cX11_init 91 = .ok (.invokespecial 56, 3) := by decide +kernel
theorem dX11_init_94 : decode cX11_init 94 = .ok (.putfield 57, 3) := by decide +kernel
theorem dX11_init_97 : decode cX11_init 97 = .ok (.return_, 1) := by decide +kernel
theorem dX11_addPrice_0 : decode cX11_addPrice 0 = .ok (.iload_n 1, 1) := by decide +kernel
theorem dX11_addPrice_1 : decode cX11_addPrice 1 = .ok (.iconst 1, 1) := by decide +kernel
theorem dX11_addPrice_2 : decode cX11_addPrice 2 = .ok (.sipush 9999, 3) := by decide +kernel
theorem dX11_addPrice_5 : decode cX11_addPrice 5 = .ok (.invokestatic 61, 3) := by decide +kernel
theorem dX11_addPrice_8 : decode cX11_addPrice 8 = .ok (.aload_n 0, 1) := by decide +kernel
theorem dX11_addPrice_9 : decode cX11_addPrice 9 = .ok (.getfield 10, 3) := by decide +kernel
theorem dX11_addPrice_12 : decode cX11_addPrice 12 = .ok (.getfield 65, 3) := by decide +kernel
theorem dX11_addPrice_15 : decode cX11_addPrice 15 = .ok (.bipush 60, 2) := by decide +kernel
theorem dX11_addPrice_17 : decode cX11_addPrice 17 = .ok (.if_icmp .lt 13, 3) := by decide +kernel
theorem dX11_addPrice_20 : decode cX11_addPrice 20 = .ok (.new 69, 3) := by decide +kernel
theorem dX11_addPrice_23 : decode cX11_addPrice 23 = .ok (.dup, 1) := by decide +kernel
theorem dX11_addPrice_24 : decode cX11_addPrice 24 = .ok (.ldc 71, 2) := by decide +kernel
theorem dX11_addPrice_26 : decode cX11_addPrice 26 = .ok (.invokespecial 73, 3) := by decide +kernel
theorem dX11_addPrice_29 : decode cX11_addPrice 29 = .ok (.athrow, 1) := by decide +kernel
theorem dX11_addPrice_30 : decode cX11_addPrice 30 = .ok (.aload_n 0, 1) := by decide +kernel
theorem dX11_addPrice_31 : decode cX11_addPrice 31 = .ok (.getfield 29, 3) := by decide +kernel
theorem dX11_addPrice_34 : decode cX11_addPrice 34 = .ok (.aload_n 0, 1) := by decide +kernel
theorem dX11_addPrice_35 : decode cX11_addPrice 35 = .ok (.getfield 10, 3) := by decide +kernel
theorem dX11_addPrice_38 : decode cX11_addPrice 38 = .ok (.invokevirtual 76, 3) := by decide +kernel
theorem dX11_addPrice_41 : decode cX11_addPrice 41 = .ok (.aload_n 0, 1) := by decide +kernel
theorem dX11_addPrice_42 : decode cX11_addPrice 42 = .ok (.getfield 10, 3) := by decide +kernel
theorem dX11_addPrice_45 : decode cX11_addPrice 45 = .ok (.iload_n 1, 1) := by decide +kernel
theorem dX11_addPrice_46 : decode cX11_addPrice 46 = .ok (.invokevirtual 80, 3) := by decide +kernel
theorem dX11_addPrice_49 : decode cX11_addPrice 49 = .ok (.aload_n 0, 1) := by decide +kernel
theorem dX11_addPrice_50 : decode cX11_addPrice 50 = .ok (.getfield 10, 3) := by decide +kernel
theorem dX11_addPrice_53 : decode cX11_addPrice 53 = .ok (.getfield 65, 3) := by decide +kernel
theorem dX11_addPrice_56 : decode cX11_addPrice 56 = .ok (.iconst 1, 1) := by decide +kernel
theorem dX11_addPrice_57 : decode cX11_addPrice 57 = .ok (.isub, 1) := by decide +kernel
theorem dX11_addPrice_58 : decode cX11_addPrice 58 = .ok (.ireturn, 1) := by decide +kernel
theorem dX11_setPrice_0 : decode cX11_setPrice 0 = .ok (.aload_n 0, 1) := by decide +kernel
theorem dX11_setPrice_1 : decode cX11_setPrice 1 = .ok (.iload_n 1, 1) := by decide +kernel
theorem dX11_setPrice_2 : decode cX11_setPrice 2 = .ok (.invokevirtual 84, 3) := by decide +kernel
theorem dX11_setPrice_5 : decode cX11_setPrice 5 = .ok (.iload_n 2, 1) := by decide +kernel
theorem dX11_setPrice_6 : decode cX11_setPrice 6 = .ok (.iconst 1, 1) := by decide +kernel
theorem dX11_setPrice_7 : decode cX11_setPrice 7 = .ok (.sipush 9999, 3) := by decide +kernel
theorem dX11_setPrice_10 : decode cX11_setPrice 10 = .ok (.invokestatic 61, 3) := by decide +kernel
theorem dX11_setPrice_13 : decode cX11_setPrice 13 = .ok (.aload_n 0, 1) := by decide +kernel
theorem dX11_setPrice_14 : decode cX11_setPrice 14 = .ok (.getfield 29, 3) := by decide +kernel
theorem dX11_setPrice_17 : decode cX11_setPrice 17 = .ok (.aload_n 0, 1) := by decide +kernel
theorem dX11_setPrice_18 : decode cX11_setPrice 18 = .ok (.getfield 10, 3) := by decide +kernel
theorem dX11_setPrice_21 : decode cX11_setPrice 21 = .ok (.invokevirtual 76, 3) := by decide +kernel
theorem dX11_setPrice_24 : decode cX11_setPrice 24 = .ok (.aload_n 0, 1) := by decide +kernel
theorem dX11_setPrice_25 : decode cX11_setPrice 25 = .ok (.getfield 10, 3) := by decide +kernel
theorem dX11_setPrice_28 : decode cX11_setPrice 28 = .ok (.iload_n 1, 1) := by decide +kernel
theorem dX11_setPrice_29 : decode cX11_setPrice 29 = .ok (.invokevirtual 87, 3) := by decide +kernel
theorem dX11_setPrice_32 : decode cX11_setPrice 32 = .ok (.istore_n 3, 1) := by decide +kernel
theorem dX11_setPrice_33 : decode cX11_setPrice 33 = .ok (.aload_n 0, 1) := by decide +kernel
theorem dX11_setPrice_34 : decode cX11_setPrice 34 = .ok (.getfield 10, 3) := by decide +kernel
theorem dX11_setPrice_37 : decode cX11_setPrice 37 = .ok (.iload_n 1, 1) := by decide +kernel
theorem dX11_setPrice_38 : decode cX11_setPrice 38 = .ok (.iload_n 2, 1) := by decide +kernel
theorem dX11_setPrice_39 : decode cX11_setPrice 39 = .ok (.invokevirtual 91, 3) := by decide +kernel
theorem dX11_setPrice_42 : decode cX11_setPrice 42 = .ok (.iload_n 3, 1) := by decide +kernel
theorem dX11_setPrice_43 : decode cX11_setPrice 43 = .ok (.ireturn, 1) := by decide +kernel
theorem dX11_dropOldest_0 : decode cX11_dropOldest 0 = .ok (.iload_n 1, 1) := by decide +kernel
theorem dX11_dropOldest_1 : decode cX11_dropOldest 1 = .ok (.iconst 1, 1) := by decide +kernel
theorem dX11_dropOldest_2 : decode cX11_dropOldest 2 = .ok (.bipush 60, 2) := by decide +kernel
theorem dX11_dropOldest_4 : decode cX11_dropOldest 4 = .ok (.invokestatic 61, 3) := by decide +kernel
theorem dX11_dropOldest_7 : decode cX11_dropOldest 7 = .ok (.iload_n 1, 1) := by decide +kernel
theorem dX11_dropOldest_8 : decode cX11_dropOldest 8 = .ok (.aload_n 0, 1) := by decide +kernel
theorem dX11_dropOldest_9 : decode cX11_dropOldest 9 = .ok (.getfield 10, 3) := by decide +kernel
theorem dX11_dropOldest_12 : decode cX11_dropOldest 12 = .ok (.getfield 65, 3) := by decide +kernel
theorem dX11_dropOldest_15 : decode cX11_dropOldest 15 = .ok (.if_icmp .le 13, 3) := by decide +kernel
theorem dX11_dropOldest_18 : decode cX11_dropOldest 18 = .ok (.new 69, 3) := by decide +kernel
theorem dX11_dropOldest_21 : decode cX11_dropOldest 21 = .ok (.dup, 1) := by decide +kernel
theorem dX11_dropOldest_22 : decode cX11_dropOldest 22 = .ok (.ldc 95, 2) := by decide +kernel
theorem dX11_dropOldest_24 : decode cX11_dropOldest 24 = .ok (.invokespecial 73, 3) := by decide +kernel
theorem dX11_dropOldest_27 : decode cX11_dropOldest 27 = .ok (.athrow, 1) := by decide +kernel
theorem dX11_dropOldest_28 : decode cX11_dropOldest 28 = .ok (.aload_n 0, 1) := by decide +kernel
theorem dX11_dropOldest_29 : decode cX11_dropOldest 29 = .ok (.getfield 29, 3) := by decide +kernel
theorem dX11_dropOldest_32 : decode cX11_dropOldest 32 = .ok (.aload_n 0, 1) := by decide +kernel
theorem dX11_dropOldest_33 : decode cX11_dropOldest 33 = .ok (.getfield 10, 3) := by decide +kernel
theorem dX11_dropOldest_36 : decode cX11_dropOldest 36 = .ok (.invokevirtual 76, 3) := by decide +kernel
theorem dX11_dropOldest_39 : decode cX11_dropOldest 39 = .ok (.aload_n 0, 1) := by decide +kernel
theorem dX11_dropOldest_40 : decode cX11_dropOldest 40 = .ok (.getfield 10, 3) := by decide +kernel
theorem dX11_dropOldest_43 : decode cX11_dropOldest 43 = .ok (.iload_n 1, 1) := by decide +kernel
theorem dX11_dropOldest_44 : decode cX11_dropOldest 44 = .ok (.invokevirtual 97, 3) := by decide +kernel
theorem dX11_dropOldest_47 : decode cX11_dropOldest 47 = .ok (.aload_n 0, 1) := by decide +kernel
theorem dX11_dropOldest_48 : decode cX11_dropOldest 48 = .ok (.getfield 10, 3) := by decide +kernel
theorem dX11_dropOldest_51 : decode cX11_dropOldest 51 = .ok (.getfield 65, 3) := by decide +kernel
theorem dX11_dropOldest_54 : decode cX11_dropOldest 54 = .ok (.ireturn, 1) := by decide +kernel
theorem dX11_press_0 : decode cX11_press 0 = .ok (.aload_n 0, 1) := by decide +kernel
theorem dX11_press_1 : decode cX11_press 1 = .ok (.iload_n 1, 1) := by decide +kernel
theorem dX11_press_2 : decode cX11_press 2 = .ok (.invokevirtual 84, 3) := by decide +kernel
theorem dX11_press_5 : decode cX11_press 5 = .ok (.aload_n 0, 1) := by decide +kernel
theorem dX11_press_6 : decode cX11_press 6 = .ok (.getfield 10, 3) := by decide +kernel
theorem dX11_press_9 : decode cX11_press 9 = .ok (.iload_n 1, 1) := by decide +kernel
theorem dX11_press_10 : decode cX11_press 10 = .ok (.invokestatic 100, 3) := by decide +kernel
theorem dX11_press_13 : decode cX11_press 13 = .ok (.ifCond .ne 13, 3) := by decide +kernel
theorem dX11_press_16 : decode cX11_press 16 = .ok (.new 69, 3) := by decide +kernel
theorem dX11_press_19 : decode cX11_press 19 = .ok (.dup, 1) := by decide +kernel
theorem dX11_press_20 : decode cX11_press 20 = .ok (.ldc 106, 2) := by decide +kernel
theorem dX11_press_22 : decode cX11_press 22 = .ok (.invokespecial 73, 3) := by decide +kernel
theorem dX11_press_25 : decode cX11_press 25 = .ok (.athrow, 1) := by decide +kernel
theorem dX11_press_26 : decode cX11_press 26 = .ok (.aload_n 0, 1) := by decide +kernel
theorem dX11_press_27 : decode cX11_press 27 = .ok (.getfield 29, 3) := by decide +kernel
theorem dX11_press_30 : decode cX11_press 30 = .ok (.aload_n 0, 1) := by decide +kernel
theorem dX11_press_31 : decode cX11_press 31 = .ok (.getfield 10, 3) := by decide +kernel
theorem dX11_press_34 : decode cX11_press 34 = .ok (.invokevirtual 76, 3) := by decide +kernel
theorem dX11_press_37 : decode cX11_press 37 = .ok (.aload_n 0, 1) := by decide +kernel
theorem dX11_press_38 : decode cX11_press 38 = .ok (.getfield 10, 3) := by decide +kernel
theorem dX11_press_41 : decode cX11_press 41 = .ok (.iload_n 1, 1) := by decide +kernel
theorem dX11_press_42 : decode cX11_press 42 = .ok (.invokestatic 108, 3) := by decide +kernel
theorem dX11_press_45 : decode cX11_press 45 = .ok (.aload_n 0, 1) := by decide +kernel
theorem dX11_press_46 : decode cX11_press 46 = .ok (.getfield 10, 3) := by decide +kernel
theorem dX11_press_49 : decode cX11_press 49 = .ok (.iload_n 1, 1) := by decide +kernel
theorem dX11_press_50 : decode cX11_press 50 = .ok (.invokevirtual 87, 3) := by decide +kernel
theorem dX11_press_53 : decode cX11_press 53 = .ok (.ireturn, 1) := by decide +kernel
theorem dX11_pressAll_0 : decode cX11_pressAll 0 = .ok (.aload_n 0, 1) := by decide +kernel
theorem dX11_pressAll_1 : decode cX11_pressAll 1 = .ok (.getfield 29, 3) := by decide +kernel
theorem dX11_pressAll_4 : decode cX11_pressAll 4 = .ok (.aload_n 0, 1) := by decide +kernel
theorem dX11_pressAll_5 : decode cX11_pressAll 5 = .ok (.getfield 10, 3) := by decide +kernel
theorem dX11_pressAll_8 : decode cX11_pressAll 8 = .ok (.invokevirtual 76, 3) := by decide +kernel
theorem dX11_pressAll_11 : decode cX11_pressAll 11 = .ok (.aload_n 0, 1) := by decide +kernel
theorem dX11_pressAll_12 : decode cX11_pressAll 12 = .ok (.getfield 10, 3) := by decide +kernel
theorem dX11_pressAll_15 : decode cX11_pressAll 15 = .ok (.invokestatic 112, 3) := by decide +kernel
theorem dX11_pressAll_18 : decode cX11_pressAll 18 = .ok (.ireturn, 1) := by decide +kernel
theorem dX11_setWindows_0 : decode cX11_setWindows 0 = .ok (.iload_n 1, 1) := by decide +kernel
theorem dX11_setWindows_1 : decode cX11_setWindows 1 = .ok (.iconst 1, 1) := by decide +kernel
theorem dX11_setWindows_2 : decode cX11_setWindows 2 = .ok (.bipush 10, 2) := by decide +kernel
theorem dX11_setWindows_4 : decode cX11_setWindows 4 = .ok (.invokestatic 61, 3) := by decide +kernel
theorem dX11_setWindows_7 : decode cX11_setWindows 7 = .ok (.iload_n 2, 1) := by decide +kernel
theorem dX11_setWindows_8 : decode cX11_setWindows 8 = .ok (.iconst 2, 1) := by decide +kernel
theorem dX11_setWindows_9 : decode cX11_setWindows 9 = .ok (.bipush 20, 2) := by decide +kernel
theorem dX11_setWindows_11 : decode cX11_setWindows 11 = .ok (.invokestatic 61, 3) := by decide +kernel
theorem dX11_setWindows_14 : decode cX11_setWindows 14 = .ok (.iload_n 1, 1) := by decide +kernel
theorem dX11_setWindows_15 : decode cX11_setWindows 15 = .ok (.iload_n 2, 1) := by decide +kernel
theorem dX11_setWindows_16 : decode cX11_setWindows 16 = .ok (.if_icmp .lt 13, 3) := by decide +kernel
theorem dX11_setWindows_19 : decode cX11_setWindows 19 = .ok (.new 116, 3) := by decide +kernel
theorem dX11_setWindows_22 : decode cX11_setWindows 22 = .ok (.dup, 1) := by decide +kernel
theorem dX11_setWindows_23 : decode cX11_setWindows 23 = .ok (.ldc 118, 2) := by decide +kernel
theorem dX11_setWindows_25 : decode cX11_setWindows 25 = .ok (.invokespecial 120, 3) := by decide +kernel
theorem dX11_setWindows_28 : decode cX11_setWindows 28 = .ok (.athrow, 1) := by decide +kernel
theorem dX11_setWindows_29 : decode cX11_setWindows 29 = .ok (.aload_n 0, 1) := by decide +kernel
theorem dX11_setWindows_30 : decode cX11_setWindows 30 = .ok (.getfield 29, 3) := by decide +kernel
theorem dX11_setWindows_33 : decode cX11_setWindows 33 = .ok (.aload_n 0, 1) := by decide +kernel
theorem dX11_setWindows_34 : decode cX11_setWindows 34 = .ok (.getfield 10, 3) := by decide +kernel
theorem dX11_setWindows_37 : decode cX11_setWindows 37 = .ok (.invokevirtual 76, 3) := by decide +kernel
theorem dX11_setWindows_40 : decode cX11_setWindows 40 = .ok (.aload_n 0, 1) := by decide +kernel
theorem dX11_setWindows_41 : decode cX11_setWindows 41 = .ok (.getfield 10, 3) := by decide +kernel
theorem dX11_setWindows_44 : decode cX11_setWindows 44 = .ok (.getfield 121, 3) := by decide +kernel
theorem dX11_setWindows_47 : decode cX11_setWindows 47 = .ok (.istore_n 3, 1) := by decide +kernel
theorem dX11_setWindows_48 : decode cX11_setWindows 48 = .ok (.aload_n 0, 1) := by decide +kernel
theorem dX11_setWindows_49 : decode cX11_setWindows 49 = .ok (.getfield 10, 3) := by decide +kernel
theorem dX11_setWindows_52 : decode cX11_setWindows 52 = .ok (.iload_n 1, 1) := by decide +kernel
theorem dX11_setWindows_53 : decode cX11_setWindows 53 = .ok (.putfield 124, 3) := by decide +kernel
theorem dX11_setWindows_56 : decode cX11_setWindows 56 = .ok (.aload_n 0, 1) := by decide +kernel
theorem dX11_setWindows_57 : decode cX11_setWindows 57 = .ok (.getfield 10, 3) := by decide +kernel
theorem dX11_setWindows_60 : decode cX11_setWindows 60 = .ok (.iload_n 2, 1) := by decide +kernel
theorem dX11_setWindows_61 : decode cX11_setWindows 61 = .ok (.putfield 121, 3) := by decide +kernel
theorem dX11_setWindows_64 : decode cX11_setWindows 64 = .ok (.iload_n 3, 1) := by decide +kernel
theorem dX11_setWindows_65 : decode cX11_setWindows 65 = .ok (.ireturn, 1) := by decide +kernel
theorem dX11_setMemory_0 : decode cX11_setMemory 0 = .ok (.iload_n 1, 1) := by decide +kernel
theorem dX11_setMemory_1 : decode cX11_setMemory 1 = .ok (.iconst 0, 1) := by decide +kernel
theorem dX11_setMemory_2 : decode cX11_setMemory 2 = .ok (.bipush 9, 2) := by decide +kernel
theorem dX11_setMemory_4 : decode cX11_setMemory 4 = .ok (.invokestatic 61, 3) := by decide +kernel
theorem dX11_setMemory_7 : decode cX11_setMemory 7 = .ok (.aload_n 0, 1) := by decide +kernel
theorem dX11_setMemory_8 : decode cX11_setMemory 8 = .ok (.getfield 29, 3) := by decide +kernel
theorem dX11_setMemory_11 : decode cX11_setMemory 11 = .ok (.aload_n 0, 1) := by decide +kernel
theorem dX11_setMemory_12 : decode cX11_setMemory 12 = .ok (.getfield 10, 3) := by decide +kernel
theorem dX11_setMemory_15 : decode cX11_setMemory 15 = .ok (.invokevirtual 76, 3) := by decide +kernel
theorem dX11_setMemory_18 : decode cX11_setMemory 18 = .ok (.aload_n 0, 1) := by decide +kernel
theorem dX11_setMemory_19 : decode cX11_setMemory 19 = .ok (.getfield 10, 3) := by decide +kernel
theorem dX11_setMemory_22 : decode cX11_setMemory 22 = .ok (.getfield 127, 3) := by decide +kernel
theorem dX11_setMemory_25 : decode cX11_setMemory 25 = .ok (.istore_n 2, 1) := by decide +kernel
theorem dX11_setMemory_26 : decode cX11_setMemory 26 = .ok (.aload_n 0, 1) := by decide +kernel
theorem dX11_setMemory_27 : decode cX11_setMemory 27 = .ok (.getfield 10, 3) := by decide +kernel
theorem dX11_setMemory_30 : decode cX11_setMemory 30 = .ok (.iload_n 1, 1) := by decide +kernel
theorem dX11_setMemory_31 : decode cX11_setMemory 31 = .ok (.putfield 127, 3) := by decide +kernel
theorem dX11_setMemory_34 : decode cX11_setMemory 34 = .ok (.iload_n 2, 1) := by decide +kernel
theorem dX11_setMemory_35 : decode cX11_setMemory 35 = .ok (.ireturn, 1) := by decide +kernel
theorem dX11_setLimit_0 : decode cX11_setLimit 0 = .ok (.iload_n 1, 1) := by decide +kernel
theorem dX11_setLimit_1 : decode cX11_setLimit 1 = .ok (.iconst 0, 1) := by decide +kernel
theorem dX11_setLimit_2 : decode cX11_setLimit 2 = .ok (.sipush 9999, 3) := by decide +kernel
theorem dX11_setLimit_5 : decode cX11_setLimit 5 = .ok (.invokestatic 61, 3) := by decide +kernel
theorem dX11_setLimit_8 : decode cX11_setLimit 8 = .ok (.aload_n 0, 1) := by decide +kernel
theorem dX11_setLimit_9 : decode cX11_setLimit 9 = .ok (.getfield 29, 3) := by decide +kernel
theorem dX11_setLimit_12 : decode cX11_setLimit 12 = .ok (.aload_n 0, 1) := by decide +kernel
theorem dX11_setLimit_13 : decode cX11_setLimit 13 = .ok (.getfield 10, 3) := by decide +kernel
theorem dX11_setLimit_16 : decode cX11_setLimit 16 = .ok (.invokevirtual 76, 3) := by decide +kernel
theorem dX11_setLimit_19 : decode cX11_setLimit 19 = .ok (.aload_n 0, 1) := by decide +kernel
theorem dX11_setLimit_20 : decode cX11_setLimit 20 = .ok (.getfield 10, 3) := by decide +kernel
theorem dX11_setLimit_23 : decode cX11_setLimit 23 = .ok (.getfield 130, 3) := by decide +kernel
theorem dX11_setLimit_26 : decode cX11_setLimit 26 = .ok (.istore_n 2, 1) := by decide +kernel
theorem dX11_setLimit_27 : decode cX11_setLimit 27 = .ok (.aload_n 0, 1) := by decide +kernel
theorem dX11_setLimit_28 : decode cX11_setLimit 28 = .ok (.getfield 10, 3) := by decide +kernel
theorem dX11_setLimit_31 : decode cX11_setLimit 31 = .ok (.iload_n 1, 1) := by decide +kernel
theorem dX11_setLimit_32 : decode cX11_setLimit 32 = .ok (.putfield 130, 3) := by decide +kernel
theorem dX11_setLimit_35 : decode cX11_setLimit 35 = .ok (.iload_n 2, 1) := by decide +kernel
theorem dX11_setLimit_36 : decode cX11_setLimit 36 = .ok (.ireturn, 1) := by decide +kernel
theorem dX11_setSeason_0 : decode cX11_setSeason 0 = .ok (.iload_n 1, 1) := by decide +kernel
theorem dX11_setSeason_1 : decode cX11_setSeason 1 = .ok (.iconst 2, 1) := by decide +kernel
theorem dX11_setSeason_2 : decode cX11_setSeason 2 = .ok (.bipush 7, 2) := by decide +kernel
theorem dX11_setSeason_4 : decode cX11_setSeason 4 = .ok (.invokestatic 61, 3) := by decide +kernel
theorem dX11_setSeason_7 : decode cX11_setSeason 7 = .ok (.aload_n 0, 1) := by decide +kernel
theorem dX11_setSeason_8 : decode cX11_setSeason 8 = .ok (.getfield 29, 3) := by decide +kernel
theorem dX11_setSeason_11 : decode cX11_setSeason 11 = .ok (.aload_n 0, 1) := by decide +kernel
theorem dX11_setSeason_12 : decode cX11_setSeason 12 = .ok (.getfield 10, 3) := by decide +kernel
theorem dX11_setSeason_15 : decode cX11_setSeason 15 = .ok (.invokevirtual 76, 3) := by decide +kernel
theorem dX11_setSeason_18 : decode cX11_setSeason 18 = .ok (.aload_n 0, 1) := by decide +kernel
theorem dX11_setSeason_19 : decode cX11_setSeason 19 = .ok (.getfield 10, 3) := by decide +kernel
theorem dX11_setSeason_22 : decode cX11_setSeason 22 = .ok (.getfield 133, 3) := by decide +kernel
theorem dX11_setSeason_25 : decode cX11_setSeason 25 = .ok (.istore_n 2, 1) := by decide +kernel
theorem dX11_setSeason_26 : decode cX11_setSeason 26 = .ok (.aload_n 0, 1) := by decide +kernel
theorem dX11_setSeason_27 : decode cX11_setSeason 27 = .ok (.getfield 10, 3) := by decide +kernel
theorem dX11_setSeason_30 : decode cX11_setSeason 30 = .ok (.iload_n 1, 1) := by decide +kernel
theorem dX11_setSeason_31 : decode cX11_setSeason 31 = .ok (.putfield 133, 3) := by decide +kernel
theorem dX11_setSeason_34 : decode cX11_setSeason 34 = .ok (.iload_n 2, 1) := by decide +kernel
theorem dX11_setSeason_35 : decode cX11_setSeason 35 = .ok (.ireturn, 1) := by decide +kernel
theorem dX11_append_0 : decode cX11_append 0 = .ok (.iload_n 1, 1) := by decide +kernel
theorem dX11_append_1 : decode cX11_append 1 = .ok (.bipush 33, 2) := by decide +kernel
theorem dX11_append_3 : decode cX11_append 3 = .ok (.bipush 126, 2) := by decide +kernel
theorem dX11_append_5 : decode cX11_append 5 = .ok (.invokestatic 61, 3) := by decide +kernel
theorem dX11_append_8 : decode cX11_append 8 = .ok (.aload_n 0, 1) := by decide +kernel
theorem dX11_append_9 : decode cX11_append 9 = .ok (.getfield 36, 3) := by decide +kernel
theorem dX11_append_12 : decode cX11_append 12 = .ok (.getfield 136, 3) := by decide +kernel
theorem dX11_append_15 : decode cX11_append 15 = .ok (.bipush 60, 2) := by decide +kernel
theorem dX11_append_17 : decode cX11_append 17 = .ok (.if_icmp .lt 13, 3) := by decide +kernel
theorem dX11_append_20 : decode cX11_append 20 = .ok (.new 69, 3) := by decide +kernel
theorem dX11_append_23 : decode cX11_append 23 = .ok (.dup, 1) := by decide +kernel
theorem dX11_append_24 : decode cX11_append 24 = .ok (.ldc 137, 2) := by decide +kernel
theorem dX11_append_26 : decode cX11_append 26 = .ok (.invokespecial 73, 3) := by decide +kernel
theorem dX11_append_29 : decode cX11_append 29 = .ok (.athrow, 1) := by decide +kernel
theorem dX11_append_30 : decode cX11_append 30 = .ok (.aload_n 0, 1) := by decide +kernel
theorem dX11_append_31 : decode cX11_append 31 = .ok (.getfield 36, 3) := by decide +kernel
theorem dX11_append_34 : decode cX11_append 34 = .ok (.iload_n 1, 1) := by decide +kernel
theorem dX11_append_35 : decode cX11_append 35 = .ok (.invokevirtual 139, 3) := by decide +kernel
theorem dX11_append_38 : decode cX11_append 38 = .ok (.aload_n 0, 1) := by decide +kernel
theorem dX11_append_39 : decode cX11_append 39 = .ok (.getfield 36, 3) := by decide +kernel
theorem dX11_append_42 : decode cX11_append 42 = .ok (.getfield 136, 3) := by decide +kernel
theorem dX11_append_45 : decode cX11_append 45 = .ok (.ireturn, 1) := by decide +kernel
theorem dX11_clearBuffer_0 : decode cX11_clearBuffer 0 = .ok (.aload_n 0, 1) := by decide +kernel
theorem dX11_clearBuffer_1 : decode cX11_clearBuffer 1 = .ok (.getfield 36, 3) := by decide +kernel
theorem dX11_clearBuffer_4 : decode cX11_clearBuffer 4 = .ok (.getfield 136, 3) := by decide +kernel
theorem dX11_clearBuffer_7 : decode cX11_clearBuffer 7 = .ok (.istore_n 1, 1) := by decide +kernel
theorem dX11_clearBuffer_8 : decode cX11_clearBuffer 8 = .ok (.aload_n 0, 1) := by decide +kernel
theorem dX11_clearBuffer_9 : decode cX11_clearBuffer 9 = .ok (.getfield 36, 3) := by decide +kernel
theorem dX11_clearBuffer_12 : decode cX11_clearBuffer 12 = .ok (.invokevirtual 140, 3) := by decide +kernel
theorem dX11_clearBuffer_15 : decode cX11_clearBuffer 15 = .ok (.iload_n 1, 1) := by decide +kernel
theorem dX11_clearBuffer_16 : decode cX11_clearBuffer 16 = .ok (.ireturn, 1) := by decide +kernel
theorem dX11_firstError_0 : decode cX11_firstError 0 = .ok (.aload_n 0, 1) := by decide +kernel
theorem dX11_firstError_1 : decode cX11_firstError 1 = .ok (.getfield 36, 3) := by decide +kernel
theorem dX11_firstError_4 : decode cX11_firstError 4 = .ok (.invokevirtual 143, 3) := by decide +kernel
theorem dX11_firstError_7 : decode cX11_firstError 7 = .ok (.ireturn, 1) := by decide +kernel
theorem dX11_work_0 : decode cX11_work 0 = .ok (.aload_n 0, 1) := by decide +kernel
theorem dX11_work_1 : decode cX11_work 1 = .ok (.getfield 36, 3) := by decide +kernel
theorem dX11_work_4 : decode cX11_work 4 = .ok (.invokevirtual 147, 3) := by decide +kernel
theorem dX11_work_7 : decode cX11_work 7 = .ok (.ifCond .ne 13, 3) := by decide +kernel
theorem dX11_work_10 : decode cX11_work 10 = .ok (.new 116, 3) := by decide +kernel
theorem dX11_work_13 : decode cX11_work 13 = .ok (.dup, 1) := by decide +kernel
theorem dX11_work_14 : decode cX11_work 14 = .ok (.ldc 151, 2) := by decide +kernel
theorem dX11_work_16 : decode cX11_work 16 = .ok (.invokespecial 120, 3) := by decide +kernel
theorem dX11_work_19 : decode cX11_work 19 = .ok (.athrow, 1) := by decide +kernel
theorem dX11_work_20 : decode cX11_work 20 = .ok (.aload_n 0, 1) := by decide +kernel
theorem dX11_work_21 : decode cX11_work 21 = .ok (.getfield 29, 3) := by decide +kernel
theorem dX11_work_24 : decode cX11_work 24 = .ok (.aload_n 0, 1) := by decide +kernel
theorem dX11_work_25 : decode cX11_work 25 = .ok (.getfield 10, 3) := by decide +kernel
theorem dX11_work_28 : decode cX11_work 28 = .ok (.invokevirtual 76, 3) := by decide +kernel
theorem dX11_work_31 : decode cX11_work 31 = .ok (.aload_n 0, 1) := by decide +kernel
theorem dX11_work_32 : decode cX11_work 32 = .ok (.getfield 43, 3) := by decide +kernel
theorem dX11_work_35 : decode cX11_work 35 = .ok (.aload_n 0, 1) := by decide +kernel
theorem dX11_work_36 : decode cX11_work 36 = .ok (.getfield 10, 3) := by decide +kernel
theorem dX11_work_39 : decode cX11_work 39 = .ok (.aload_n 0, 1) := by decide +kernel
theorem dX11_work_40 : decode cX11_work 40 = .ok (.getfield 36, 3) := by decide +kernel
theorem dX11_work_43 : decode cX11_work 43 = .ok (.invokevirtual 153, 3) := by decide +kernel
theorem dX11_work_46 : decode cX11_work 46 = .ok (.istore_n 1, 1) := by decide +kernel
theorem dX11_work_47 : decode cX11_work 47 = .ok (.aload_n 0, 1) := by decide +kernel
theorem dX11_work_48 : decode cX11_work 48 = .ok (.getfield 36, 3) := by decide +kernel
theorem dX11_work_51 : decode cX11_work 51 = .ok (.invokevirtual 140, 3) := by decide +kernel
theorem dX11_work_54 : decode cX11_work 54 = .ok (.iload_n 1, 1) := by decide +kernel
theorem dX11_work_55 : decode cX11_work 55 = .ok (.ireturn, 1) := by decide +kernel
theorem dX11_hasStopped_0 : decode cX11_hasStopped 0 = .ok (.aload_n 0, 1) := by decide +kernel
theorem dX11_hasStopped_1 : decode cX11_hasStopped 1 = .ok (.getfield 10, 3) := by decide +kernel
theorem dX11_hasStopped_4 : decode cX11_hasStopped 4 = .ok (.getfield 157, 3) := by decide +kernel
theorem dX11_hasStopped_7 : decode cX11_hasStopped 7 = .ok (.ireturn, 1) := by decide +kernel
theorem dX11_stoppedPart_0 : decode cX11_stoppedPart 0 = .ok (.aload_n 0, 1) := by decide +kernel
theorem dX11_stoppedPart_1 : decode cX11_stoppedPart 1 = .ok (.invokevirtual 160, 3) := by decide +kernel
theorem dX11_stoppedPart_4 : decode cX11_stoppedPart 4 = .ok (.aload_n 0, 1) := by decide +kernel
theorem dX11_stoppedPart_5 : decode cX11_stoppedPart 5 = .ok (.getfield 10, 3) := by decide +kernel
theorem dX11_stoppedPart_8 : decode cX11_stoppedPart 8 = .ok (.getfield 163, 3) := by decide +kernel
theorem dX11_stoppedPart_11 : decode cX11_stoppedPart 11 = .ok (.ireturn, 1) := by decide +kernel
theorem dX11_whyStopped_0 : decode cX11_whyStopped 0 = .ok (.aload_n 0, 1) := by decide +kernel
theorem dX11_whyStopped_1 : decode cX11_whyStopped 1 = .ok (.invokevirtual 160, 3) := by decide +kernel
theorem dX11_whyStopped_4 : decode cX11_whyStopped 4 = .ok (.aload_n 0, 1) := by decide +kernel
theorem dX11_whyStopped_5 : decode cX11_whyStopped 5 = .ok (.getfield 10, 3) := by decide +kernel
theorem dX11_whyStopped_8 : decode cX11_whyStopped 8 = .ok (.getfield 166, 3) := by decide +kernel
theorem dX11_whyStopped_11 : decode cX11_whyStopped 11 = .ok (.ireturn, 1) := by decide +kernel
theorem dX11_undo_0 : decode cX11_undo 0 = .ok (.aload_n 0, 1) := by decide +kernel
theorem dX11_undo_1 : decode cX11_undo 1 = .ok (.getfield 29, 3) := by decide +kernel
theorem dX11_undo_4 : decode cX11_undo 4 = .ok (.getfield 169, 3) := by decide +kernel
theorem dX11_undo_7 : decode cX11_undo 7 = .ok (.ifCond .ne 13, 3) := by decide +kernel
theorem dX11_undo_10 : decode cX11_undo 10 = .ok (.new 69, 3) := by decide +kernel
theorem dX11_undo_13 : decode cX11_undo 13 = .ok (.dup, 1) := by decide +kernel
theorem dX11_undo_14 : decode cX11_undo 14 = .ok (.ldc 172, 2) := by decide +kernel
theorem dX11_undo_16 : decode cX11_undo 16 = .ok (.invokespecial 73, 3) := by decide +kernel
theorem dX11_undo_19 : decode cX11_undo 19 = .ok (.athrow, 1) := by decide +kernel
theorem dX11_undo_20 : decode cX11_undo 20 = .ok (.aload_n 0, 1) := by decide +kernel
theorem dX11_undo_21 : decode cX11_undo 21 = .ok (.getfield 29, 3) := by decide +kernel
theorem dX11_undo_24 : decode cX11_undo 24 = .ok (.aload_n 0, 1) := by decide +kernel
theorem dX11_undo_25 : decode cX11_undo 25 = .ok (.getfield 10, 3) := by decide +kernel
theorem dX11_undo_28 : decode cX11_undo 28 = .ok (.invokevirtual 174, 3) := by decide +kernel
theorem dX11_undo_31 : decode cX11_undo 31 = .ok (.aload_n 0, 1) := by decide +kernel
theorem dX11_undo_32 : decode cX11_undo 32 = .ok (.getfield 29, 3) := by decide +kernel
theorem dX11_undo_35 : decode cX11_undo 35 = .ok (.getfield 169, 3) := by decide +kernel
theorem dX11_undo_38 : decode cX11_undo 38 = .ok (.ireturn, 1) := by decide +kernel
theorem dX11_keep_0 : decode cX11_keep 0 = .ok (.aload_n 0, 1) := by decide +kernel
theorem dX11_keep_1 : decode cX11_keep 1 = .ok (.getfield 19, 3) := by decide +kernel
theorem dX11_keep_4 : decode cX11_keep 4 = .ok (.aload_n 0, 1) := by decide +kernel
theorem dX11_keep_5 : decode cX11_keep 5 = .ok (.getfield 10, 3) := by decide +kernel
theorem dX11_keep_8 : decode cX11_keep 8 = .ok (.invokevirtual 177, 3) := by decide +kernel
theorem dX11_keep_11 : decode cX11_keep 11 = .ok (.aload_n 0, 1) := by decide +kernel
theorem dX11_keep_12 : decode cX11_keep 12 = .ok (.iconst 1, 1) := by decide +kernel
theorem dX11_keep_13 : decode cX11_keep 13 = .ok (.putfield 22, 3) := by decide +kernel
theorem dX11_keep_16 : decode cX11_keep 16 = .ok (.aload_n 0, 1) := by decide +kernel
theorem dX11_keep_17 : decode cX11_keep 17 = .ok (.getfield 10, 3) := by decide +kernel
theorem dX11_keep_20 : decode cX11_keep 20 = .ok (.getfield 65, 3) := by decide +kernel
theorem dX11_keep_23 : decode cX11_keep 23 = .ok (.ireturn, 1) := by decide +kernel
theorem dX11_restore_0 : decode cX11_restore 0 = .ok (.aload_n 0, 1) := by decide +kernel
theorem dX11_restore_1 : decode cX11_restore 1 = .ok (.getfield 22, 3) := by decide +kernel
theorem dX11_restore_4 : decode cX11_restore 4 = .ok (.ifCond .ne 13, 3) := by decide +kernel
theorem dX11_restore_7 : decode cX11_restore 7 = .ok (.new 69, 3) := by decide +kernel
theorem dX11_restore_10 : decode cX11_restore 10 = .ok (.dup, 1) := by decide +kernel
theorem dX11_restore_11 : decode cX11_restore 11 = .ok (.ldc 180, 2) := by decide +kernel
theorem dX11_restore_13 : decode cX11_restore 13 = .ok (.invokespecial 73, 3) := by decide +kernel
theorem dX11_restore_16 : decode cX11_restore 16 = .ok (.athrow, 1) := by decide +kernel
theorem dX11_restore_17 : decode cX11_restore 17 = .ok (.aload_n 0, 1) := by decide +kernel
theorem dX11_restore_18 : decode cX11_restore 18 = .ok (.getfield 29, 3) := by decide +kernel
theorem dX11_restore_21 : decode cX11_restore 21 = .ok (.aload_n 0, 1) := by decide +kernel
theorem dX11_restore_22 : decode cX11_restore 22 = .ok (.getfield 10, 3) := by decide +kernel
theorem dX11_restore_25 : decode cX11_restore 25 = .ok (.invokevirtual 76, 3) := by decide +kernel
theorem dX11_restore_28 : decode cX11_restore 28 = .ok (.aload_n 0, 1) := by decide +kernel
theorem dX11_restore_29 : decode cX11_restore 29 = .ok (.getfield 10, 3) := by decide +kernel
theorem dX11_restore_32 : decode cX11_restore 32 = .ok (.aload_n 0, 1) := by decide +kernel
theorem dX11_restore_33 : decode cX11_restore 33 = .ok (.getfield 19, 3) := by decide +kernel
theorem dX11_restore_36 : decode cX11_restore 36 = .ok (.invokevirtual 177, 3) := by decide +kernel
theorem dX11_restore_39 : decode cX11_restore 39 = .ok (.aload_n 0, 1) := by decide +kernel
theorem dX11_restore_40 : decode cX11_restore 40 = .ok (.getfield 10, 3) := by decide +kernel
theorem dX11_restore_43 : decode cX11_restore 43 = .ok (.getfield 65, 3) := by decide +kernel
theorem dX11_restore_46 : decode cX11_restore 46 = .ok (.ireturn, 1) := by decide +kernel
theorem dX11_savedStates_0 : decode cX11_savedStates 0 = .ok (.aload_n 0, 1) := by decide +kernel
theorem dX11_savedStates_1 : decode cX11_savedStates 1 = .ok (.getfield 29, 3) := by decide +kernel
theorem dX11_savedStates_4 : decode cX11_savedStates 4 = .ok (.getfield 169, 3) := by decide +kernel
theorem dX11_savedStates_7 : decode cX11_savedStates 7 = .ok (.ireturn, 1) := by decide +kernel
theorem dX11_days_0 : decode cX11_days 0 = .ok (.aload_n 0, 1) := by decide +kernel
theorem dX11_days_1 : decode cX11_days 1 = .ok (.getfield 10, 3) := by decide +kernel
theorem dX11_days_4 : decode cX11_days 4 = .ok (.getfield 65, 3) := by decide +kernel
theorem dX11_days_7 : decode cX11_days 7 = .ok (.ireturn, 1) := by decide +kernel
theorem dX11_priceOf_0 : decode cX11_priceOf 0 = .ok (.aload_n 0, 1) := by decide +kernel
theorem dX11_priceOf_1 : decode cX11_priceOf 1 = .ok (.iload_n 1, 1) := by decide +kernel
theorem dX11_priceOf_2 : decode cX11_priceOf 2 = .ok (.invokevirtual 84, 3) := by decide +kernel
theorem dX11_priceOf_5 : decode cX11_priceOf 5 = .ok (.aload_n 0, 1) := by decide +kernel
theorem dX11_priceOf_6 : decode cX11_priceOf 6 = .ok (.getfield 10, 3) := by decide +kernel
theorem dX11_priceOf_9 : decode cX11_priceOf 9 = .ok (.iload_n 1, 1) := by decide +kernel
theorem dX11_priceOf_10 : decode cX11_priceOf 10 = .ok (.invokevirtual 87, 3) := by decide +kernel
theorem dX11_priceOf_13 : decode cX11_priceOf 13 = .ok (.ireturn, 1) := by decide +kernel
theorem dX11_shortWindow_0 : decode cX11_shortWindow 0 = .ok (.aload_n 0, 1) := by decide +kernel
theorem dX11_shortWindow_1 : decode cX11_shortWindow 1 = .ok (.getfield 10, 3) := by decide +kernel
theorem dX11_shortWindow_4 : decode cX11_shortWindow 4 = .ok (.getfield 124, 3) := by decide +kernel
theorem dX11_shortWindow_7 : decode cX11_shortWindow 7 = .ok (.ireturn, 1) := by decide +kernel
theorem dX11_longWindow_0 : decode cX11_longWindow 0 = .ok (.aload_n 0, 1) := by decide +kernel
theorem dX11_longWindow_1 : decode cX11_longWindow 1 = .ok (.getfield 10, 3) := by decide +kernel
theorem dX11_longWindow_4 : decode cX11_longWindow 4 = .ok (.getfield 121, 3) := by decide +kernel
theorem dX11_longWindow_7 : decode cX11_longWindow 7 = .ok (.ireturn, 1) := by decide +kernel
theorem dX11_mean_0 : decode cX11_mean 0 = .ok (.aload_n 0, 1) := by decide +kernel
theorem dX11_mean_1 : decode cX11_mean 1 = .ok (.iload_n 1, 1) := by decide +kernel
theorem dX11_mean_2 : decode cX11_mean 2 = .ok (.invokevirtual 84, 3) := by decide +kernel
theorem dX11_mean_5 : decode cX11_mean 5 = .ok (.iload_n 2, 1) := by decide +kernel
theorem dX11_mean_6 : decode cX11_mean 6 = .ok (.iconst 1, 1) := by decide +kernel
theorem dX11_mean_7 : decode cX11_mean 7 = .ok (.bipush 20, 2) := by decide +kernel
theorem dX11_mean_9 : decode cX11_mean 9 = .ok (.invokestatic 61, 3) := by decide +kernel
theorem dX11_mean_12 : decode cX11_mean 12 = .ok (.aload_n 0, 1) := by decide +kernel
theorem dX11_mean_13 : decode cX11_mean 13 = .ok (.getfield 10, 3) := by decide +kernel
theorem dX11_mean_16 : decode cX11_mean 16 = .ok (.iload_n 1, 1) := by decide +kernel
theorem dX11_mean_17 : decode cX11_mean 17 = .ok (.iload_n 2, 1) := by decide +kernel
theorem dX11_mean_18 : decode cX11_mean 18 = .ok (.invokestatic 182, 3) := by decide +kernel
theorem dX11_mean_21 : decode cX11_mean 21 = .ok (.ireturn, 1) := by decide +kernel
theorem dX11_meanBySums_0 : decode cX11_meanBySums 0 = .ok (.aload_n 0, 1) := by decide +kernel
theorem dX11_meanBySums_1 : decode cX11_meanBySums 1 = .ok (.iload_n 1, 1) := by decide +kernel
theorem dX11_meanBySums_2 : decode cX11_meanBySums 2 = .ok (.invokevirtual 84, 3) := by decide +kernel
theorem dX11_meanBySums_5 : decode cX11_meanBySums 5 = .ok (.iload_n 2, 1) := by decide +kernel
theorem dX11_meanBySums_6 : decode cX11_meanBySums 6 = .ok (.iconst 1, 1) := by decide +kernel
theorem dX11_meanBySums_7 : decode cX11_meanBySums 7 = .ok (.bipush 20, 2) := by decide +kernel
theorem dX11_meanBySums_9 : decode cX11_meanBySums 9 = .ok (.invokestatic 61, 3) := by decide +kernel
theorem dX11_meanBySums_12 : decode cX11_meanBySums 12 = .ok (.aload_n 0, 1) := by decide +kernel
theorem dX11_meanBySums_13 : decode cX11_meanBySums 13 = .ok (.getfield 10, 3) := by decide +kernel
theorem dX11_meanBySums_16 : decode cX11_meanBySums 16 = .ok (.iload_n 1, 1) := by decide +kernel
theorem dX11_meanBySums_17 : decode cX11_meanBySums 17 = .ok (.iload_n 2, 1) := by decide +kernel
theorem dX11_meanBySums_18 : decode cX11_meanBySums 18 = .ok (.invokestatic 188, 3) := by decide +kernel
theorem dX11_meanBySums_21 : decode cX11_meanBySums 21 = .ok (.ireturn, 1) := by decide +kernel
theorem dX11_weightedMean_0 : decode cX11_weightedMean 0 = .ok (.aload_n 0, 1) := by decide +kernel
theorem dX11_weightedMean_1 : decode cX11_weightedMean 1 = .ok (.iload_n 1, 1) := by decide +kernel
theorem dX11_weightedMean_2 : decode cX11_weightedMean 2 = .ok (.invokevirtual 84, 3) := by decide +kernel
theorem dX11_weightedMean_5 : decode cX11_weightedMean 5 = .ok (.aload_n 0, 1) := by decide +kernel
theorem dX11_weightedMean_6 : decode cX11_weightedMean 6 = .ok (.getfield 10, 3) := by decide +kernel
theorem dX11_weightedMean_9 : decode cX11_weightedMean 9 = .ok (.iload_n 1, 1) := by decide +kernel
theorem dX11_weightedMean_10 : decode cX11_weightedMean 10 = .ok (.invokestatic 191, 3) := by decide +kernel
theorem dX11_weightedMean_13 : decode cX11_weightedMean 13 = .ok (.ireturn, 1) := by decide +kernel
theorem dX11_smoothed_0 : decode cX11_smoothed 0 = .ok (.aload_n 0, 1) := by decide +kernel
theorem dX11_smoothed_1 : decode cX11_smoothed 1 = .ok (.iload_n 1, 1) := by decide +kernel
theorem dX11_smoothed_2 : decode cX11_smoothed 2 = .ok (.invokevirtual 84, 3) := by decide +kernel
theorem dX11_smoothed_5 : decode cX11_smoothed 5 = .ok (.aload_n 0, 1) := by decide +kernel
theorem dX11_smoothed_6 : decode cX11_smoothed 6 = .ok (.getfield 10, 3) := by decide +kernel
theorem dX11_smoothed_9 : decode cX11_smoothed 9 = .ok (.iload_n 1, 1) := by decide +kernel
theorem dX11_smoothed_10 : decode cX11_smoothed 10 = .ok (.invokestatic 195, 3) := by decide +kernel
theorem dX11_smoothed_13 : decode cX11_smoothed 13 = .ok (.ireturn, 1) := by decide +kernel
theorem dX11_smoothedBack_0 : decode cX11_smoothedBack 0 = .ok (.aload_n 0, 1) := by decide +kernel
theorem dX11_smoothedBack_1 : decode cX11_smoothedBack 1 = .ok (.iload_n 1, 1) := by decide +kernel
theorem dX11_smoothedBack_2 : decode cX11_smoothedBack 2 = .ok (.invokevirtual 84, 3) := by decide +kernel
theorem dX11_smoothedBack_5 : decode cX11_smoothedBack 5 = .ok (.aload_n 0, 1) := by decide +kernel
theorem dX11_smoothedBack_6 : decode cX11_smoothedBack 6 = .ok (.getfield 10, 3) := by decide +kernel
theorem dX11_smoothedBack_9 : decode cX11_smoothedBack 9 = .ok (.iload_n 1, 1) := by decide +kernel
theorem dX11_smoothedBack_10 : decode cX11_smoothedBack 10 = .ok (.iconst 0, 1) := by decide +kernel
theorem dX11_smoothedBack_11 : decode cX11_smoothedBack 11 = .ok (.invokestatic 198, 3) := by decide +kernel
theorem dX11_smoothedBack_14 : decode cX11_smoothedBack 14 = .ok (.ireturn, 1) := by decide +kernel
theorem dX11_median_0 : decode cX11_median 0 = .ok (.aload_n 0, 1) := by decide +kernel
theorem dX11_median_1 : decode cX11_median 1 = .ok (.iload_n 1, 1) := by decide +kernel
theorem dX11_median_2 : decode cX11_median 2 = .ok (.invokevirtual 84, 3) := by decide +kernel
theorem dX11_median_5 : decode cX11_median 5 = .ok (.aload_n 0, 1) := by decide +kernel
theorem dX11_median_6 : decode cX11_median 6 = .ok (.getfield 10, 3) := by decide +kernel
theorem dX11_median_9 : decode cX11_median 9 = .ok (.iload_n 1, 1) := by decide +kernel
theorem dX11_median_10 : decode cX11_median 10 = .ok (.invokestatic 201, 3) := by decide +kernel
theorem dX11_median_13 : decode cX11_median 13 = .ok (.ireturn, 1) := by decide +kernel
theorem dX11_isCrease_0 : decode cX11_isCrease 0 = .ok (.aload_n 0, 1) := by decide +kernel
theorem dX11_isCrease_1 : decode cX11_isCrease 1 = .ok (.iload_n 1, 1) := by decide +kernel
theorem dX11_isCrease_2 : decode cX11_isCrease 2 = .ok (.invokevirtual 84, 3) := by decide +kernel
theorem dX11_isCrease_5 : decode cX11_isCrease 5 = .ok (.aload_n 0, 1) := by decide +kernel
theorem dX11_isCrease_6 : decode cX11_isCrease 6 = .ok (.getfield 10, 3) := by decide +kernel
theorem dX11_isCrease_9 : decode cX11_isCrease 9 = .ok (.iload_n 1, 1) := by decide +kernel
theorem dX11_isCrease_10 : decode cX11_isCrease 10 = .ok (.invokestatic 100, 3) := by decide +kernel
theorem dX11_isCrease_13 : decode cX11_isCrease 13 = .ok (.ireturn, 1) := by decide +kernel
theorem dX11_creases_0 : decode cX11_creases 0 = .ok (.aload_n 0, 1) := by decide +kernel
theorem dX11_creases_1 : decode cX11_creases 1 = .ok (.getfield 10, 3) := by decide +kernel
theorem dX11_creases_4 : decode cX11_creases 4 = .ok (.invokestatic 204, 3) := by decide +kernel
theorem dX11_creases_7 : decode cX11_creases 7 = .ok (.ireturn, 1) := by decide +kernel
theorem dX11_high_0 : decode cX11_high 0 = .ok (.aload_n 0, 1) := by decide +kernel
theorem dX11_high_1 : decode cX11_high 1 = .ok (.iload_n 1, 1) := by decide +kernel
theorem dX11_high_2 : decode cX11_high 2 = .ok (.invokevirtual 84, 3) := by decide +kernel
theorem dX11_high_5 : decode cX11_high 5 = .ok (.aload_n 0, 1) := by decide +kernel
theorem dX11_high_6 : decode cX11_high 6 = .ok (.getfield 10, 3) := by decide +kernel
theorem dX11_high_9 : decode cX11_high 9 = .ok (.iload_n 1, 1) := by decide +kernel
theorem dX11_high_10 : decode cX11_high 10 = .ok (.invokestatic 207, 3) := by decide +kernel
theorem dX11_high_13 : decode cX11_high 13 = .ok (.ireturn, 1) := by decide +kernel
theorem dX11_highByCandidates_0 : decode cX11_highByCandidates 0 = .ok (.aload_n 0, 1) := by decide +kernel
theorem dX11_highByCandidates_1 : decode cX11_highByCandidates 1 = .ok (.iload_n 1, 1) := by decide +kernel
theorem dX11_highByCandidates_2 : decode cX11_highByCandidates 2 = .ok (.invokevirtual 84, 3) := by decide +kernel
theorem dX11_highByCandidates_5 : decode cX11_highByCandidates 5 = .ok (.aload_n 0, 1) := by decide +kernel
theorem dX11_highByCandidates_6 : decode cX11_highByCandidates 6 = .ok (.getfield 50, 3) := by decide +kernel
theorem dX11_highByCandidates_9 : decode cX11_highByCandidates 9 = .ok (.aload_n 0, 1) := by decide +kernel
theorem dX11_highByCandidates_10 : decode cX11_highByCandidates 10 = .ok (.getfield 10, 3) := by decide +kernel
theorem dX11_highByCandidates_13 : decode cX11_highByCandidates 13 = .ok (.iload_n 1, 1) := by decide +kernel
theorem dX11_highByCandidates_14 : decode cX11_highByCandidates 14 = .ok (.invokevirtual 210, 3) := by decide +kernel
theorem dX11_highByCandidates_17 : decode cX11_highByCandidates 17 = .ok (.ireturn, 1) := by decide +kernel
theorem dX11_crossing_0 : decode cX11_crossing 0 = .ok (.aload_n 0, 1) := by decide +kernel
theorem dX11_crossing_1 : decode cX11_crossing 1 = .ok (.iload_n 1, 1) := by decide +kernel
theorem dX11_crossing_2 : decode cX11_crossing 2 = .ok (.invokevirtual 84, 3) := by decide +kernel
theorem dX11_crossing_5 : decode cX11_crossing 5 = .ok (.aload_n 0, 1) := by decide +kernel
theorem dX11_crossing_6 : decode cX11_crossing 6 = .ok (.getfield 10, 3) := by decide +kernel
theorem dX11_crossing_9 : decode cX11_crossing 9 = .ok (.iload_n 1, 1) := by decide +kernel
theorem dX11_crossing_10 : decode cX11_crossing 10 = .ok (.invokestatic 213, 3) := by decide +kernel
theorem dX11_crossing_13 : decode cX11_crossing 13 = .ok (.ireturn, 1) := by decide +kernel
theorem dX11_crossings_0 : decode cX11_crossings 0 = .ok (.aload_n 0, 1) := by decide +kernel
theorem dX11_crossings_1 : decode cX11_crossings 1 = .ok (.getfield 10, 3) := by decide +kernel
theorem dX11_crossings_4 : decode cX11_crossings 4 = .ok (.invokestatic 216, 3) := by decide +kernel
theorem dX11_crossings_7 : decode cX11_crossings 7 = .ok (.ireturn, 1) := by decide +kernel
theorem dX11_pieces_0 : decode cX11_pieces 0 = .ok (.aload_n 0, 1) := by decide +kernel
theorem dX11_pieces_1 : decode cX11_pieces 1 = .ok (.iload_n 1, 1) := by decide +kernel
theorem dX11_pieces_2 : decode cX11_pieces 2 = .ok (.invokevirtual 84, 3) := by decide +kernel
theorem dX11_pieces_5 : decode cX11_pieces 5 = .ok (.aload_n 0, 1) := by decide +kernel
theorem dX11_pieces_6 : decode cX11_pieces 6 = .ok (.getfield 57, 3) := by decide +kernel
theorem dX11_pieces_9 : decode cX11_pieces 9 = .ok (.aload_n 0, 1) := by decide +kernel
theorem dX11_pieces_10 : decode cX11_pieces 10 = .ok (.getfield 10, 3) := by decide +kernel
theorem dX11_pieces_13 : decode cX11_pieces 13 = .ok (.iload_n 1, 1) := by decide +kernel
theorem dX11_pieces_14 : decode cX11_pieces 14 = .ok (.invokevirtual 219, 3) := by decide +kernel
theorem dX11_pieces_17 : decode cX11_pieces 17 = .ok (.aload_n 0, 1) := by decide +kernel
theorem dX11_pieces_18 : decode cX11_pieces 18 = .ok (.getfield 57, 3) := by decide +kernel
theorem dX11_pieces_21 : decode cX11_pieces 21 = .ok (.getfield 222, 3) := by decide +kernel
theorem dX11_pieces_24 : decode cX11_pieces 24 = .ok (.ireturn, 1) := by decide +kernel
theorem dX11_worth_0 : decode cX11_worth 0 = .ok (.aload_n 0, 1) := by decide +kernel
theorem dX11_worth_1 : decode cX11_worth 1 = .ok (.iload_n 1, 1) := by decide +kernel
theorem dX11_worth_2 : decode cX11_worth 2 = .ok (.invokevirtual 84, 3) := by decide +kernel
theorem dX11_worth_5 : decode cX11_worth 5 = .ok (.aload_n 0, 1) := by decide +kernel
theorem dX11_worth_6 : decode cX11_worth 6 = .ok (.getfield 57, 3) := by decide +kernel
theorem dX11_worth_9 : decode cX11_worth 9 = .ok (.aload_n 0, 1) := by decide +kernel
theorem dX11_worth_10 : decode cX11_worth 10 = .ok (.getfield 10, 3) := by decide +kernel
theorem dX11_worth_13 : decode cX11_worth 13 = .ok (.iload_n 1, 1) := by decide +kernel
theorem dX11_worth_14 : decode cX11_worth 14 = .ok (.invokevirtual 219, 3) := by decide +kernel
theorem dX11_worth_17 : decode cX11_worth 17 = .ok (.aload_n 0, 1) := by decide +kernel
theorem dX11_worth_18 : decode cX11_worth 18 = .ok (.getfield 57, 3) := by decide +kernel
theorem dX11_worth_21 : decode cX11_worth 21 = .ok (.aload_n 0, 1) := by decide +kernel
theorem dX11_worth_22 : decode cX11_worth 22 = .ok (.getfield 10, 3) := by decide +kernel
theorem dX11_worth_25 : decode cX11_worth 25 = .ok (.iload_n 1, 1) := by decide +kernel
theorem dX11_worth_26 : decode cX11_worth 26 = .ok (.invokevirtual 225, 3) := by decide +kernel
theorem dX11_worth_29 : decode cX11_worth 29 = .ok (.lreturn, 1) := by decide +kernel
theorem dX11_greatestFall_0 : decode cX11_greatestFall 0 = .ok (.aload_n 0, 1) := by decide +kernel
theorem dX11_greatestFall_1 : decode cX11_greatestFall 1 = .ok (.getfield 10, 3) := by decide +kernel
theorem dX11_greatestFall_4 : decode cX11_greatestFall 4 = .ok (.invokestatic 229, 3) := by decide +kernel
theorem dX11_greatestFall_7 : decode cX11_greatestFall 7 = .ok (.ireturn, 1) := by decide +kernel
theorem dX11_greatestFallByPairs_0 : decode cX11_greatestFallByPairs 0 = .ok (.aload_n 0, 1) := by decide +kernel
theorem dX11_greatestFallByPairs_1 : decode cX11_greatestFallByPairs 1 = .ok (.getfield 10, 3) := by decide +kernel
theorem dX11_greatestFallByPairs_4 : decode cX11_greatestFallByPairs 4 = .ok (.invokestatic 232, 3) := by decide +kernel
theorem dX11_greatestFallByPairs_7 : decode cX11_greatestFallByPairs 7 = .ok (.ireturn, 1) := by decide +kernel
theorem dX11_longestRise_0 : decode cX11_longestRise 0 = .ok (.aload_n 0, 1) := by decide +kernel
theorem dX11_longestRise_1 : decode cX11_longestRise 1 = .ok (.getfield 10, 3) := by decide +kernel
theorem dX11_longestRise_4 : decode cX11_longestRise 4 = .ok (.invokestatic 235, 3) := by decide +kernel
theorem dX11_longestRise_7 : decode cX11_longestRise 7 = .ok (.ireturn, 1) := by decide +kernel
theorem dX11_season_0 : decode cX11_season 0 = .ok (.aload_n 0, 1) := by decide +kernel
theorem dX11_season_1 : decode cX11_season 1 = .ok (.getfield 10, 3) := by decide +kernel
theorem dX11_season_4 : decode cX11_season 4 = .ok (.getfield 133, 3) := by decide +kernel
theorem dX11_season_7 : decode cX11_season 7 = .ok (.ireturn, 1) := by decide +kernel
theorem dX11_seasonIndex_0 : decode cX11_seasonIndex 0 = .ok (.iload_n 1, 1) := by decide +kernel
theorem dX11_seasonIndex_1 : decode cX11_seasonIndex 1 = .ok (.ifCond .lt 14, 3) := by decide +kernel
theorem dX11_seasonIndex_4 : decode cX11_seasonIndex 4 = .ok (.iload_n 1, 1) := by decide +kernel
theorem dX11_seasonIndex_5 : decode cX11_seasonIndex 5 = .ok (.aload_n 0, 1) := by decide +kernel
theorem dX11_seasonIndex_6 : decode cX11_seasonIndex 6 = .ok (.getfield 10, 3) := by decide +kernel
theorem dX11_seasonIndex_9 : decode cX11_seasonIndex 9 = .ok (.getfield 133, 3) := by decide +kernel
theorem dX11_seasonIndex_12 : decode cX11_seasonIndex 12 = .ok (.if_icmp .lt 13, 3) := by decide +kernel
theorem dX11_seasonIndex_15 : decode cX11_seasonIndex 15 = .ok (.new 238, 3) := by decide +kernel
theorem dX11_seasonIndex_18 : decode cX11_seasonIndex 18 = .ok (.dup, 1) := by decide +kernel
theorem dX11_seasonIndex_19 : decode cX11_seasonIndex 19 = .ok (.ldc 240, 2) := by decide +kernel
theorem dX11_seasonIndex_21 : decode cX11_seasonIndex 21 = .ok (.invokespecial 242, 3) := by decide +kernel
theorem dX11_seasonIndex_24 : decode cX11_seasonIndex 24 = .ok (.athrow, 1) := by decide +kernel
theorem dX11_seasonIndex_25 : decode cX11_seasonIndex 25 = .ok (.aload_n 0, 1) := by decide +kernel
theorem dX11_seasonIndex_26 : decode cX11_seasonIndex 26 = .ok (.getfield 10, 3) := by decide +kernel
theorem dX11_seasonIndex_29 : decode cX11_seasonIndex 29 = .ok (.iload_n 1, 1) := by decide +kernel
theorem dX11_seasonIndex_30 : decode cX11_seasonIndex 30 = .ok (.aload_n 0, 1) := by decide +kernel
theorem dX11_seasonIndex_31 : decode cX11_seasonIndex 31 = .ok (.getfield 10, 3) := by decide +kernel
theorem dX11_seasonIndex_34 : decode cX11_seasonIndex 34 = .ok (.getfield 65, 3) := by decide +kernel
theorem dX11_seasonIndex_37 : decode cX11_seasonIndex 37 = .ok (.invokestatic 243, 3) := by decide +kernel
theorem dX11_seasonIndex_40 : decode cX11_seasonIndex 40 = .ok (.ifCond .ne 13, 3) := by decide +kernel
theorem dX11_seasonIndex_43 : decode cX11_seasonIndex 43 = .ok (.new 69, 3) := by decide +kernel
theorem dX11_seasonIndex_46 : decode cX11_seasonIndex 46 = .ok (.dup, 1) := by decide +kernel
theorem dX11_seasonIndex_47 : decode cX11_seasonIndex 47 = .ok (.ldc 248, 2) := by decide +kernel
theorem dX11_seasonIndex_49 : decode cX11_seasonIndex 49 = .ok (.invokespecial 73, 3) := by decide +kernel
theorem dX11_seasonIndex_52 : decode cX11_seasonIndex 52 = .ok (.athrow, 1) := by decide +kernel
theorem dX11_seasonIndex_53 : decode cX11_seasonIndex 53 = .ok (.aload_n 0, 1) := by decide +kernel
theorem dX11_seasonIndex_54 : decode cX11_seasonIndex 54 = .ok (.getfield 10, 3) := by decide +kernel
theorem dX11_seasonIndex_57 : decode cX11_seasonIndex 57 = .ok (.iload_n 1, 1) := by decide +kernel
theorem dX11_seasonIndex_58 : decode cX11_seasonIndex 58 = .ok (.invokestatic 250, 3) := by decide +kernel
theorem dX11_seasonIndex_61 : decode cX11_seasonIndex 61 = .ok (.ireturn, 1) := by decide +kernel
theorem dX11_barePrice_0 : decode cX11_barePrice 0 = .ok (.aload_n 0, 1) := by decide +kernel
theorem dX11_barePrice_1 : decode cX11_barePrice 1 = .ok (.iload_n 1, 1) := by decide +kernel
theorem dX11_barePrice_2 : decode cX11_barePrice 2 = .ok (.invokevirtual 84, 3) := by decide +kernel
theorem dX11_barePrice_5 : decode cX11_barePrice 5 = .ok (.aload_n 0, 1) := by decide +kernel
theorem dX11_barePrice_6 : decode cX11_barePrice 6 = .ok (.getfield 10, 3) := by decide +kernel
theorem dX11_barePrice_9 : decode cX11_barePrice 9 = .ok (.iload_n 1, 1) := by decide +kernel
theorem dX11_barePrice_10 : decode cX11_barePrice 10 = .ok (.invokestatic 253, 3) := by decide +kernel
theorem dX11_barePrice_13 : decode cX11_barePrice 13 = .ok (.lreturn, 1) := by decide +kernel
theorem dX11_forecast_0 : decode cX11_forecast 0 = .ok (.iload_n 1, 1) := by decide +kernel
theorem dX11_forecast_1 : decode cX11_forecast 1 = .ok (.iconst 0, 1) := by decide +kernel
theorem dX11_forecast_2 : decode cX11_forecast 2 = .ok (.iconst 3, 1) := by decide +kernel
theorem dX11_forecast_3 : decode cX11_forecast 3 = .ok (.invokestatic 61, 3) := by decide +kernel
theorem dX11_forecast_6 : decode cX11_forecast 6 = .ok (.aload_n 0, 1) := by decide +kernel
theorem dX11_forecast_7 : decode cX11_forecast 7 = .ok (.iconst 1, 1) := by decide +kernel
theorem dX11_forecast_8 : decode cX11_forecast 8 = .ok (.invokevirtual 256, 3) := by decide +kernel
theorem dX11_forecast_11 : decode cX11_forecast 11 = .ok (.aload_n 0, 1) := by decide +kernel
theorem dX11_forecast_12 : decode cX11_forecast 12 = .ok (.getfield 10, 3) := by decide +kernel
theorem dX11_forecast_15 : decode cX11_forecast 15 = .ok (.iload_n 1, 1) := by decide +kernel
theorem dX11_forecast_16 : decode cX11_forecast 16 = .ok (.aload_n 0, 1) := by decide +kernel
theorem dX11_forecast_17 : decode cX11_forecast 17 = .ok (.getfield 10, 3) := by decide +kernel
theorem dX11_forecast_20 : decode cX11_forecast 20 = .ok (.getfield 65, 3) := by decide +kernel
theorem dX11_forecast_23 : decode cX11_forecast 23 = .ok (.invokestatic 259, 3) := by decide +kernel
theorem dX11_forecast_26 : decode cX11_forecast 26 = .ok (.ireturn, 1) := by decide +kernel
theorem dX11_error_0 : decode cX11_error 0 = .ok (.iload_n 1, 1) := by decide +kernel
theorem dX11_error_1 : decode cX11_error 1 = .ok (.iconst 0, 1) := by decide +kernel
theorem dX11_error_2 : decode cX11_error 2 = .ok (.iconst 3, 1) := by decide +kernel
theorem dX11_error_3 : decode cX11_error 3 = .ok (.invokestatic 61, 3) := by decide +kernel
theorem dX11_error_6 : decode cX11_error 6 = .ok (.aload_n 0, 1) := by decide +kernel
theorem dX11_error_7 : decode cX11_error 7 = .ok (.iconst 2, 1) := by decide +kernel
theorem dX11_error_8 : decode cX11_error 8 = .ok (.invokevirtual 256, 3) := by decide +kernel
theorem dX11_error_11 : decode cX11_error 11 = .ok (.aload_n 0, 1) := by decide +kernel
theorem dX11_error_12 : decode cX11_error 12 = .ok (.getfield 10, 3) := by decide +kernel
theorem dX11_error_15 : decode cX11_error 15 = .ok (.iload_n 1, 1) := by decide +kernel
theorem dX11_error_16 : decode cX11_error 16 = .ok (.invokestatic 264, 3) := by decide +kernel
theorem dX11_error_19 : decode cX11_error 19 = .ok (.ireturn, 1) := by decide +kernel
theorem dX11_bestMethod_0 : decode cX11_bestMethod 0 = .ok (.aload_n 0, 1) := by decide +kernel
theorem dX11_bestMethod_1 : decode cX11_bestMethod 1 = .ok (.iconst 2, 1) := by decide +kernel
theorem dX11_bestMethod_2 : decode cX11_bestMethod 2 = .ok (.invokevirtual 256, 3) := by decide +kernel
theorem dX11_bestMethod_5 : decode cX11_bestMethod 5 = .ok (.aload_n 0, 1) := by decide +kernel
theorem dX11_bestMethod_6 : decode cX11_bestMethod 6 = .ok (.getfield 10, 3) := by decide +kernel
theorem dX11_bestMethod_9 : decode cX11_bestMethod 9 = .ok (.invokestatic 267, 3) := by decide +kernel
theorem dX11_bestMethod_12 : decode cX11_bestMethod 12 = .ok (.ireturn, 1) := by decide +kernel
theorem dX11_crossingWith_0 : decode cX11_crossingWith 0 = .ok (.iload_n 1, 1) := by decide +kernel
theorem dX11_crossingWith_1 : decode cX11_crossingWith 1 = .ok (.iconst 1, 1) := by decide +kernel
theorem dX11_crossingWith_2 : decode cX11_crossingWith 2 = .ok (.sipush 9999, 3) := by decide +kernel
theorem dX11_crossingWith_5 : decode cX11_crossingWith 5 = .ok (.invokestatic 61, 3) := by decide +kernel
theorem dX11_crossingWith_8 : decode cX11_crossingWith 8 = .ok (.aload_n 0, 1) := by decide +kernel
theorem dX11_crossingWith_9 : decode cX11_crossingWith 9 = .ok (.iconst 1, 1) := by decide +kernel
theorem dX11_crossingWith_10 : decode cX11_crossingWith 10 = .ok (.invokevirtual 256, 3) := by decide +kernel
theorem dX11_crossingWith_13 : decode cX11_crossingWith 13 = .ok (.aload_n 0, 1) := by decide +kernel
theorem dX11_crossingWith_14 : decode cX11_crossingWith 14 = .ok (.getfield 10, 3) := by decide +kernel
theorem dX11_crossingWith_17 : decode cX11_crossingWith 17 = .ok (.getfield 65, 3) := by decide +kernel
theorem dX11_crossingWith_20 : decode cX11_crossingWith 20 = .ok (.bipush 60, 2) := by decide +kernel
theorem dX11_crossingWith_22 : decode cX11_crossingWith 22 = .ok (.if_icmp .lt 14, 3) := by decide +kernel
theorem dX11_crossingWith_25 : decode cX11_crossingWith 25 = .ok (.new 69, 3) := by decide +kernel
theorem dX11_crossingWith_28 : decode cX11_crossingWith 28 = .ok (.dup, 1) := by decide +kernel
theorem dX11_crossingWith_29 : decode cX11_crossingWith 29 = .ok (.ldc_w 270, 3) := by decide +kernel
theorem dX11_crossingWith_32 : decode cX11_crossingWith 32 = .ok (.invokespecial 73, 3) := by decide +kernel
theorem dX11_crossingWith_35 : decode cX11_crossingWith 35 = .ok (.athrow, 1) := by decide +kernel
theorem dX11_crossingWith_36 : decode cX11_crossingWith 36 = .ok (.aload_n 0, 1) := by decide +kernel
theorem dX11_crossingWith_37 : decode cX11_crossingWith 37 = .ok (.getfield 16, 3) := by decide +kernel
theorem dX11_crossingWith_40 : decode cX11_crossingWith 40 = .ok (.aload_n 0, 1) := by decide +kernel
theorem dX11_crossingWith_41 : decode cX11_crossingWith 41 = .ok (.getfield 10, 3) := by decide +kernel
theorem dX11_crossingWith_44 : decode cX11_crossingWith 44 = .ok (.invokevirtual 177, 3) := by decide +kernel
theorem dX11_crossingWith_47 : decode cX11_crossingWith 47 = .ok (.aload_n 0, 1) := by decide +kernel
theorem dX11_crossingWith_48 : decode cX11_crossingWith 48 = .ok (.getfield 16, 3) := by decide +kernel
theorem dX11_crossingWith_51 : decode cX11_crossingWith 51 = .ok (.iload_n 1, 1) := by decide +kernel
theorem dX11_crossingWith_52 : decode cX11_crossingWith 52 = .ok (.invokevirtual 80, 3) := by decide +kernel
theorem dX11_crossingWith_55 : decode cX11_crossingWith 55 = .ok (.aload_n 0, 1) := by decide +kernel
theorem dX11_crossingWith_56 : decode cX11_crossingWith 56 = .ok (.getfield 16, 3) := by decide +kernel
theorem dX11_crossingWith_59 : decode cX11_crossingWith 59 = .ok (.aload_n 0, 1) := by decide +kernel
theorem dX11_crossingWith_60 : decode cX11_crossingWith 60 = .ok (.getfield 16, 3) := by decide +kernel
theorem dX11_crossingWith_63 : decode cX11_crossingWith 63 = .ok (.getfield 65, 3) := by decide +kernel
theorem dX11_crossingWith_66 : decode cX11_crossingWith 66 = .ok (.iconst 1, 1) := by decide +kernel
theorem dX11_crossingWith_67 : decode cX11_crossingWith 67 = .ok (.isub, 1) := by decide +kernel
theorem dX11_crossingWith_68 : decode cX11_crossingWith 68 = .ok (.invokestatic 213, 3) := by decide +kernel
theorem dX11_crossingWith_71 : decode cX11_crossingWith 71 = .ok (.ireturn, 1) := by decide +kernel
theorem dX11_smoothShare_0 : decode cX11_smoothShare 0 = .ok (.aload_n 0, 1) := by decide +kernel
theorem dX11_smoothShare_1 : decode cX11_smoothShare 1 = .ok (.getfield 10, 3) := by decide +kernel
theorem dX11_smoothShare_4 : decode cX11_smoothShare 4 = .ok (.getfield 65, 3) := by decide +kernel
theorem dX11_smoothShare_7 : decode cX11_smoothShare 7 = .ok (.ifCond .ne 5, 3) := by decide +kernel
theorem dX11_smoothShare_10 : decode cX11_smoothShare 10 = .ok (.dconst 1, 1) := by decide +kernel
theorem dX11_smoothShare_11 : decode cX11_smoothShare 11 = .ok (.dreturn, 1) := by decide +kernel
theorem dX11_smoothShare_12 : decode cX11_smoothShare 12 = .ok (.aload_n 0, 1) := by decide +kernel
theorem dX11_smoothShare_13 : decode cX11_smoothShare 13 = .ok (.getfield 10, 3) := by decide +kernel
theorem dX11_smoothShare_16 : decode cX11_smoothShare 16 = .ok (.getfield 65, 3) := by decide +kernel
theorem dX11_smoothShare_19 : decode cX11_smoothShare 19 = .ok (.aload_n 0, 1) := by decide +kernel
theorem dX11_smoothShare_20 : decode cX11_smoothShare 20 = .ok (.getfield 10, 3) := by decide +kernel
theorem dX11_smoothShare_23 : decode cX11_smoothShare 23 = .ok (.invokestatic 204, 3) := by decide +kernel
theorem dX11_smoothShare_26 : decode cX11_smoothShare 26 = .ok (.isub, 1) := by decide +kernel
theorem dX11_smoothShare_27 : decode cX11_smoothShare 27 = .ok (.i2d, 1) := by decide +kernel
theorem dX11_smoothShare_28 : decode cX11_smoothShare 28 = .ok (.aload_n 0, 1) := by decide +kernel
theorem dX11_smoothShare_29 : decode cX11_smoothShare 29 = .ok (.getfield 10, 3) := by decide +kernel
theorem dX11_smoothShare_32 : decode cX11_smoothShare 32 = .ok (.getfield 65, 3) := by decide +kernel
theorem dX11_smoothShare_35 : decode cX11_smoothShare 35 = .ok (.i2d, 1) := by decide +kernel
theorem dX11_smoothShare_36 : decode cX11_smoothShare 36 = .ok (.ddiv, 1) := by decide +kernel
theorem dX11_smoothShare_37 : decode cX11_smoothShare 37 = .ok (.dreturn, 1) := by decide +kernel
theorem dX11_digest_0 : decode cX11_digest 0 = .ok (.aload_n 0, 1) := by decide +kernel
theorem dX11_digest_1 : decode cX11_digest 1 = .ok (.ldc2_w 272, 3) := by decide +kernel
theorem dX11_digest_4 : decode cX11_digest 4 = .ok (.invokevirtual 274, 3) := by decide +kernel
theorem dX11_digest_7 : decode cX11_digest 7 = .ok (.lstore_n 1, 1) := by decide +kernel
theorem dX11_digest_8 : decode cX11_digest 8 = .ok (.aload_n 0, 1) := by decide +kernel
theorem dX11_digest_9 : decode cX11_digest 9 = .ok (.lload_n 1, 1) := by decide +kernel
theorem dX11_digest_10 : decode cX11_digest 10 = .ok (.invokevirtual 278, 3) := by decide +kernel
theorem dX11_digest_13 : decode cX11_digest 13 = .ok (.lstore_n 1, 1) := by decide +kernel
theorem dX11_digest_14 : decode cX11_digest 14 = .ok (.aload_n 0, 1) := by decide +kernel
theorem dX11_digest_15 : decode cX11_digest 15 = .ok (.lload_n 1, 1) := by decide +kernel
theorem dX11_digest_16 : decode cX11_digest 16 = .ok (.invokevirtual 281, 3) := by decide +kernel
theorem dX11_digest_19 : decode cX11_digest 19 = .ok (.lstore_n 1, 1) := by decide +kernel
theorem dX11_digest_20 : decode cX11_digest 20 = .ok (.aload_n 0, 1) := by decide +kernel
theorem dX11_digest_21 : decode cX11_digest 21 = .ok (.lload_n 1, 1) := by decide +kernel
theorem dX11_digest_22 : decode cX11_digest 22 = .ok (.invokevirtual 284, 3) := by decide +kernel
theorem dX11_digest_25 : decode cX11_digest 25 = .ok (.lstore_n 1, 1) := by decide +kernel
theorem dX11_digest_26 : decode cX11_digest 26 = .ok (.aload_n 0, 1) := by decide +kernel
theorem dX11_digest_27 : decode cX11_digest 27 = .ok (.lload_n 1, 1) := by decide +kernel
theorem dX11_digest_28 : decode cX11_digest 28 = .ok (.invokevirtual 287, 3) := by decide +kernel
theorem dX11_digest_31 : decode cX11_digest 31 = .ok (.lstore_n 1, 1) := by decide +kernel
theorem dX11_digest_32 : decode cX11_digest 32 = .ok (.lload_n 1, 1) := by decide +kernel
theorem dX11_digest_33 : decode cX11_digest 33 = .ok (.aload_n 0, 1) := by decide +kernel
theorem dX11_digest_34 : decode cX11_digest 34 = .ok (.invokevirtual 290, 3) := by decide +kernel
theorem dX11_digest_37 : decode cX11_digest 37 = .ok (.invokestatic 294, 3) := by decide +kernel
theorem dX11_digest_40 : decode cX11_digest 40 = .ok (.invokestatic 298, 3) := by decide +kernel
theorem dX11_digest_43 : decode cX11_digest 43 = .ok (.lstore_n 1, 1) := by decide +kernel
theorem dX11_digest_44 : decode cX11_digest 44 = .ok (.aload_n 0, 1) := by decide +kernel
theorem dX11_digest_45 : decode cX11_digest 45 = .ok (.lload_n 1, 1) := by decide +kernel
theorem dX11_digest_46 : decode cX11_digest 46 = .ok (.invokevirtual 302, 3) := by decide +kernel
theorem dX11_digest_49 : decode cX11_digest 49 = .ok (.lreturn, 1) := by decide +kernel
theorem dX11_hashOfTotals_0 : decode cX11_hashOfTotals 0 = .ok (.lload_n 1, 1) := by decide +kernel
theorem dX11_hashOfTotals_1 : decode cX11_hashOfTotals 1 = .ok (.aload_n 0, 1) := by decide +kernel
theorem dX11_hashOfTotals_2 : decode cX11_hashOfTotals 2 = .ok (.getfield 10, 3) := by decide +kernel
theorem dX11_hashOfTotals_5 : decode cX11_hashOfTotals 5 = .ok (.getfield 65, 3) := by decide +kernel
theorem dX11_hashOfTotals_8 : decode cX11_hashOfTotals 8 = .ok (.i2l, 1) := by decide +kernel
theorem dX11_hashOfTotals_9 : decode cX11_hashOfTotals 9 = .ok (.invokestatic 298, 3) := by decide +kernel
theorem dX11_hashOfTotals_12 : decode cX11_hashOfTotals 12 = .ok (.lstore_n 3, 1) := by decide +kernel
theorem dX11_hashOfTotals_13 : decode cX11_hashOfTotals 13 = .ok (.lload_n 3, 1) := by decide +kernel
theorem dX11_hashOfTotals_14 : decode cX11_hashOfTotals 14 = .ok (.aload_n 0, 1) := by decide +kernel
theorem dX11_hashOfTotals_15 : decode cX11_hashOfTotals 15 = .ok (.getfield 10, 3) := by decide +kernel
theorem dX11_hashOfTotals_18 : decode cX11_hashOfTotals 18 = .ok (.getfield 124, 3) := by decide +kernel
theorem dX11_hashOfTotals_21 : decode cX11_hashOfTotals 21 = .ok (.i2l, 1) := by decide +kernel
theorem dX11_hashOfTotals_22 : decode cX11_hashOfTotals 22 = .ok (.invokestatic 298, 3) := by decide +kernel
theorem dX11_hashOfTotals_25 : decode cX11_hashOfTotals 25 = .ok (.lstore_n 3, 1) := by decide +kernel
theorem dX11_hashOfTotals_26 : decode cX11_hashOfTotals 26 = .ok (.lload_n 3, 1) := by decide +kernel
theorem dX11_hashOfTotals_27 : decode cX11_hashOfTotals 27 = .ok (.aload_n 0, 1) := by decide +kernel
theorem dX11_hashOfTotals_28 : decode cX11_hashOfTotals 28 = .ok (.getfield 10, 3) := by decide +kernel
theorem dX11_hashOfTotals_31 : decode cX11_hashOfTotals 31 = .ok (.getfield 121, 3) := by decide +kernel
theorem dX11_hashOfTotals_34 : decode cX11_hashOfTotals 34 = .ok (.i2l, 1) := by decide +kernel
theorem dX11_hashOfTotals_35 : decode cX11_hashOfTotals 35 = .ok (.invokestatic 298, 3) := by decide +kernel
theorem dX11_hashOfTotals_38 : decode cX11_hashOfTotals 38 = .ok (.lstore_n 3, 1) := by decide +kernel
theorem dX11_hashOfTotals_39 : decode cX11_hashOfTotals 39 = .ok (.lload_n 3, 1) := by decide +kernel
theorem dX11_hashOfTotals_40 : decode cX11_hashOfTotals 40 = .ok (.aload_n 0, 1) := by decide +kernel
theorem dX11_hashOfTotals_41 : decode cX11_hashOfTotals 41 = .ok (.getfield 10, 3) := by decide +kernel
theorem dX11_hashOfTotals_44 : decode cX11_hashOfTotals 44 = .ok (.getfield 133, 3) := by decide +kernel
theorem dX11_hashOfTotals_47 : decode cX11_hashOfTotals 47 = .ok (.i2l, 1) := by decide +kernel
theorem dX11_hashOfTotals_48 : decode cX11_hashOfTotals 48 = .ok (.invokestatic 298, 3) := by decide +kernel
theorem dX11_hashOfTotals_51 : decode cX11_hashOfTotals 51 = .ok (.lstore_n 3, 1) := by decide +kernel
theorem dX11_hashOfTotals_52 : decode cX11_hashOfTotals 52 = .ok (.lload_n 3, 1) := by decide +kernel
theorem dX11_hashOfTotals_53 : decode cX11_hashOfTotals 53 = .ok (.aload_n 0, 1) := by decide +kernel
theorem dX11_hashOfTotals_54 : decode cX11_hashOfTotals 54 = .ok (.getfield 10, 3) := by decide +kernel
theorem dX11_hashOfTotals_57 : decode cX11_hashOfTotals 57 = .ok (.invokestatic 204, 3) := by decide +kernel
theorem dX11_hashOfTotals_60 : decode cX11_hashOfTotals 60 = .ok (.i2l, 1) := by decide +kernel
theorem dX11_hashOfTotals_61 : decode cX11_hashOfTotals 61 = .ok (.invokestatic 298, 3) := by decide +kernel
theorem dX11_hashOfTotals_64 : decode cX11_hashOfTotals 64 = .ok (.lstore_n 3, 1) := by decide +kernel
theorem dX11_hashOfTotals_65 : decode cX11_hashOfTotals 65 = .ok (.lload_n 3, 1) := by decide +kernel
theorem dX11_hashOfTotals_66 : decode cX11_hashOfTotals 66 = .ok (.aload_n 0, 1) := by decide +kernel
theorem dX11_hashOfTotals_67 : decode cX11_hashOfTotals 67 = .ok (.getfield 10, 3) := by decide +kernel
theorem dX11_hashOfTotals_70 : decode cX11_hashOfTotals 70 = .ok (.invokestatic 216, 3) := by decide +kernel
theorem dX11_hashOfTotals_73 : decode cX11_hashOfTotals 73 = .ok (.i2l, 1) := by decide +kernel
theorem dX11_hashOfTotals_74 : decode cX11_hashOfTotals 74 = .ok (.invokestatic 298, 3) := by decide +kernel
theorem dX11_hashOfTotals_77 : decode cX11_hashOfTotals 77 = .ok (.lstore_n 3, 1) := by decide +kernel
theorem dX11_hashOfTotals_78 : decode cX11_hashOfTotals 78 = .ok (.lload_n 3, 1) := by decide +kernel
theorem dX11_hashOfTotals_79 : decode cX11_hashOfTotals 79 = .ok (.aload_n 0, 1) := by decide +kernel
theorem dX11_hashOfTotals_80 : decode cX11_hashOfTotals 80 = .ok (.getfield 10, 3) := by decide +kernel
theorem dX11_hashOfTotals_83 : decode cX11_hashOfTotals 83 = .ok (.invokestatic 229, 3) := by decide +kernel
theorem dX11_hashOfTotals_86 : decode cX11_hashOfTotals 86 = .ok (.i2l, 1) := by decide +kernel
theorem dX11_hashOfTotals_87 : decode cX11_hashOfTotals 87 = .ok (.invokestatic 298, 3) := by decide +kernel
theorem dX11_hashOfTotals_90 : decode cX11_hashOfTotals 90 = .ok (.lstore_n 3, 1) := by decide +kernel
theorem dX11_hashOfTotals_91 : decode cX11_hashOfTotals 91 = .ok (.lload_n 3, 1) := by decide +kernel
theorem dX11_hashOfTotals_92 : decode cX11_hashOfTotals 92 = .ok (.aload_n 0, 1) := by decide +kernel
theorem dX11_hashOfTotals_93 : decode cX11_hashOfTotals 93 = .ok (.getfield 10, 3) := by decide +kernel
theorem dX11_hashOfTotals_96 : decode cX11_hashOfTotals 96 = .ok (.invokestatic 232, 3) := by decide +kernel
theorem dX11_hashOfTotals_99 : decode cX11_hashOfTotals 99 = .ok (.i2l, 1) := by decide +kernel
theorem dX11_hashOfTotals_100 : decode cX11_hashOfTotals 100 = .ok (.invokestatic 298, 3) := by decide +kernel
theorem dX11_hashOfTotals_103 : decode cX11_hashOfTotals 103 = .ok (.lstore_n 3, 1) := by decide +kernel
theorem dX11_hashOfTotals_104 : decode cX11_hashOfTotals 104 = .ok (.lload_n 3, 1) := by decide +kernel
theorem dX11_hashOfTotals_105 : decode cX11_hashOfTotals 105 = .ok (.aload_n 0, 1) := by decide +kernel
theorem dX11_hashOfTotals_106 : decode cX11_hashOfTotals 106 = .ok (.getfield 10, 3) := by decide +kernel
theorem dX11_hashOfTotals_109 : decode cX11_hashOfTotals 109 = .ok (.invokestatic 235, 3) := by decide +kernel
theorem dX11_hashOfTotals_112 : decode cX11_hashOfTotals 112 = .ok (.i2l, 1) := by decide +kernel
theorem dX11_hashOfTotals_113 : decode cX11_hashOfTotals 113 = .ok (.invokestatic 298, 3) := by decide +kernel
theorem dX11_hashOfTotals_116 : decode cX11_hashOfTotals 116 = .ok (.lstore_n 3, 1) := by decide +kernel
theorem dX11_hashOfTotals_117 : decode cX11_hashOfTotals 117 = .ok (.lload_n 3, 1) := by decide +kernel
theorem dX11_hashOfTotals_118 : decode cX11_hashOfTotals 118 = .ok (.aload_n 0, 1) := by decide +kernel
theorem dX11_hashOfTotals_119 : decode cX11_hashOfTotals 119 = .ok (.getfield 29, 3) := by decide +kernel
theorem dX11_hashOfTotals_122 : decode cX11_hashOfTotals 122 = .ok (.getfield 169, 3) := by decide +kernel
theorem dX11_hashOfTotals_125 : decode cX11_hashOfTotals 125 = .ok (.i2l, 1) := by decide +kernel
theorem dX11_hashOfTotals_126 : decode cX11_hashOfTotals 126 = .ok (.invokestatic 298, 3) := by decide +kernel
theorem dX11_hashOfTotals_129 : decode cX11_hashOfTotals 129 = .ok (.lreturn, 1) := by decide +kernel
theorem dX11_hashOfDays_0 : decode cX11_hashOfDays 0 = .ok (.lload_n 1, 1) := by decide +kernel
theorem dX11_hashOfDays_1 : decode cX11_hashOfDays 1 = .ok (.lstore_n 3, 1) := by decide +kernel
theorem dX11_hashOfDays_2 : decode cX11_hashOfDays 2 = .ok (.aload_n 0, 1) := by decide +kernel
theorem dX11_hashOfDays_3 : decode cX11_hashOfDays 3 = .ok (.getfield 57, 3) := by decide +kernel
theorem dX11_hashOfDays_6 : decode cX11_hashOfDays 6 = .ok (.invokevirtual 305, 3) := by decide +kernel
theorem dX11_hashOfDays_9 : decode cX11_hashOfDays 9 = .ok (.iconst 0, 1) := by decide +kernel
theorem dX11_hashOfDays_10 : decode cX11_hashOfDays 10 = .ok (.istore 5, 2) := by decide +kernel
theorem dX11_hashOfDays_12 : decode cX11_hashOfDays 12 = .ok (.iload 5, 2) := by decide +kernel
theorem dX11_hashOfDays_14 : decode cX11_hashOfDays 14 = .ok (.aload_n 0, 1) := by decide +kernel
theorem dX11_hashOfDays_15 : decode cX11_hashOfDays 15 = .ok (.getfield 10, 3) := by decide +kernel
theorem dX11_hashOfDays_18 : decode cX11_hashOfDays 18 = .ok (.getfield 65, 3) := by decide +kernel
theorem dX11_hashOfDays_21 : decode cX11_hashOfDays 21 = .ok (.if_icmp .ge 161, 3) := by decide +kernel
theorem dX11_hashOfDays_24 : decode cX11_hashOfDays 24 = .ok (.aload_n 0, 1) := by decide +kernel
theorem dX11_hashOfDays_25 : decode cX11_hashOfDays 25 = .ok (.lload_n 3, 1) := by decide +kernel
theorem dX11_hashOfDays_26 : decode cX11_hashOfDays 26 = .ok (.iload 5, 2) := by decide +kernel
theorem dX11_hashOfDays_28 : decode cX11_hashOfDays 28 = .ok (.invokevirtual 308, 3) := by decide +kernel
theorem dX11_hashOfDays_31 : decode cX11_hashOfDays 31 = .ok (.lstore_n 3, 1) := by decide +kernel
theorem dX11_hashOfDays_32 : decode cX11_hashOfDays 32 = .ok (.lload_n 3, 1) := by decide +kernel
theorem dX11_hashOfDays_33 : decode cX11_hashOfDays 33 = .ok (.aload_n 0, 1) := by decide +kernel
theorem dX11_hashOfDays_34 : decode cX11_hashOfDays 34 = .ok (.getfield 10, 3) := by decide +kernel
theorem dX11_hashOfDays_37 : decode cX11_hashOfDays 37 = .ok (.iload 5, 2) := by decide +kernel
theorem dX11_hashOfDays_39 : decode cX11_hashOfDays 39 = .ok (.invokestatic 201, 3) := by decide +kernel
theorem dX11_hashOfDays_42 : decode cX11_hashOfDays 42 = .ok (.i2l, 1) := by decide +kernel
theorem dX11_hashOfDays_43 : decode cX11_hashOfDays 43 = .ok (.invokestatic 298, 3) := by decide +kernel
theorem dX11_hashOfDays_46 : decode cX11_hashOfDays 46 = .ok (.lstore_n 3, 1) := by decide +kernel
theorem dX11_hashOfDays_47 : decode cX11_hashOfDays 47 = .ok (.lload_n 3, 1) := by decide +kernel
theorem dX11_hashOfDays_48 : decode cX11_hashOfDays 48 = .ok (.aload_n 0, 1) := by decide +kernel
theorem dX11_hashOfDays_49 : decode cX11_hashOfDays 49 = .ok (.getfield 10, 3) := by decide +kernel
theorem dX11_hashOfDays_52 : decode cX11_hashOfDays 52 = .ok (.iload 5, 2) := by decide +kernel
theorem dX11_hashOfDays_54 : decode cX11_hashOfDays 54 = .ok (.invokestatic 100, 3) := by decide +kernel
theorem dX11_hashOfDays_57 : decode cX11_hashOfDays 57 = .ok (.ifCond .eq 7, 3) := by decide +kernel
theorem dX11_hashOfDays_60 : decode cX11_hashOfDays 60 = .ok (.lconst 1, 1) := by decide +kernel
theorem dX11_hashOfDays_61 : decode cX11_hashOfDays 61 = .ok (.goto 4, 3) := by decide +kernel
theorem dX11_hashOfDays_64 : decode cX11_hashOfDays 64 = .ok (.lconst 0, 1) := by decide +kernel
theorem dX11_hashOfDays_65 : decode cX11_hashOfDays 65 = .ok (.invokestatic 298, 3) := by decide +kernel
theorem dX11_hashOfDays_68 : decode cX11_hashOfDays 68 = .ok (.lstore_n 3, 1) := by decide +kernel
theorem dX11_hashOfDays_69 : decode cX11_hashOfDays 69 = .ok (.lload_n 3, 1) := by decide +kernel
theorem dX11_hashOfDays_70 : decode cX11_hashOfDays 70 = .ok (.aload_n 0, 1) := by decide +kernel
theorem dX11_hashOfDays_71 : decode cX11_hashOfDays 71 = .ok (.getfield 10, 3) := by decide +kernel
theorem dX11_hashOfDays_74 : decode cX11_hashOfDays 74 = .ok (.iload 5, 2) := by decide +kernel
theorem dX11_hashOfDays_76 : decode cX11_hashOfDays 76 = .ok (.invokestatic 207, 3) := by decide +kernel
theorem dX11_hashOfDays_79 : decode cX11_hashOfDays 79 = .ok (.i2l, 1) := by decide +kernel
theorem dX11_hashOfDays_80 : decode cX11_hashOfDays 80 = .ok (.invokestatic 298, 3) := by decide +kernel
theorem dX11_hashOfDays_83 : decode cX11_hashOfDays 83 = .ok (.lstore_n 3, 1) := by decide +kernel
theorem dX11_hashOfDays_84 : decode cX11_hashOfDays 84 = .ok (.lload_n 3, 1) := by decide +kernel
theorem dX11_hashOfDays_85 : decode cX11_hashOfDays 85 = .ok (.aload_n 0, 1) := by decide +kernel
theorem dX11_hashOfDays_86 : decode cX11_hashOfDays 86 = .ok (.getfield 50, 3) := by decide +kernel
theorem dX11_hashOfDays_89 : decode cX11_hashOfDays 89 = .ok (.aload_n 0, 1) := by decide +kernel
theorem dX11_hashOfDays_90 : decode cX11_hashOfDays 90 = .ok (.getfield 10, 3) := by decide +kernel
theorem dX11_hashOfDays_93 : decode cX11_hashOfDays 93 = .ok (.iload 5, 2) := by decide +kernel
theorem dX11_hashOfDays_95 : decode cX11_hashOfDays 95 = .ok (.invokevirtual 210, 3) := by decide +kernel
theorem dX11_hashOfDays_98 : decode cX11_hashOfDays 98 = .ok (.i2l, 1) := by decide +kernel
theorem dX11_hashOfDays_99 : decode cX11_hashOfDays 99 = .ok (.invokestatic 298, 3) := by decide +kernel
theorem dX11_hashOfDays_102 : decode cX11_hashOfDays 102 = .ok (.lstore_n 3, 1) := by decide +kernel
theorem dX11_hashOfDays_103 : decode cX11_hashOfDays 103 = .ok (.lload_n 3, 1) := by decide +kernel
theorem dX11_hashOfDays_104 : decode cX11_hashOfDays 104 = .ok (.aload_n 0, 1) := by decide +kernel
theorem dX11_hashOfDays_105 : decode cX11_hashOfDays 105 = .ok (.getfield 10, 3) := by decide +kernel
theorem dX11_hashOfDays_108 : decode cX11_hashOfDays 108 = .ok (.iload 5, 2) := by decide +kernel
theorem dX11_hashOfDays_110 : decode cX11_hashOfDays 110 = .ok (.invokestatic 213, 3) := by decide +kernel
theorem dX11_hashOfDays_113 : decode cX11_hashOfDays 113 = .ok (.i2l, 1) := by decide +kernel
theorem dX11_hashOfDays_114 : decode cX11_hashOfDays 114 = .ok (.invokestatic 298, 3) := by decide +kernel
theorem dX11_hashOfDays_117 : decode cX11_hashOfDays 117 = .ok (.lstore_n 3, 1) := by decide +kernel
theorem dX11_hashOfDays_118 : decode cX11_hashOfDays 118 = .ok (.aload_n 0, 1) := by decide +kernel
theorem dX11_hashOfDays_119 : decode cX11_hashOfDays 119 = .ok (.getfield 57, 3) := by decide +kernel
theorem dX11_hashOfDays_122 : decode cX11_hashOfDays 122 = .ok (.aload_n 0, 1) := by decide +kernel
theorem dX11_hashOfDays_123 : decode cX11_hashOfDays 123 = .ok (.getfield 10, 3) := by decide +kernel
theorem dX11_hashOfDays_126 : decode cX11_hashOfDays 126 = .ok (.iload 5, 2) := by decide +kernel
theorem dX11_hashOfDays_128 : decode cX11_hashOfDays 128 = .ok (.invokevirtual 312, 3) := by decide +kernel
theorem dX11_hashOfDays_131 : decode cX11_hashOfDays 131 = .ok (.lload_n 3, 1) := by decide +kernel
theorem dX11_hashOfDays_132 : decode cX11_hashOfDays 132 = .ok (.aload_n 0, 1) := by decide +kernel
theorem dX11_hashOfDays_133 : decode cX11_hashOfDays 133 = .ok (.getfield 57, 3) := by decide +kernel
theorem dX11_hashOfDays_136 : decode cX11_hashOfDays 136 = .ok (.getfield 222, 3) := by decide +kernel
theorem dX11_hashOfDays_139 : decode cX11_hashOfDays 139 = .ok (.i2l, 1) := by decide +kernel
theorem dX11_hashOfDays_140 : decode cX11_hashOfDays 140 = .ok (.invokestatic 298, 3) := by decide +kernel
theorem dX11_hashOfDays_143 : decode cX11_hashOfDays 143 = .ok (.lstore_n 3, 1) := by decide +kernel
theorem dX11_hashOfDays_144 : decode cX11_hashOfDays 144 = .ok (.lload_n 3, 1) := by decide +kernel
theorem dX11_hashOfDays_145 : decode cX11_hashOfDays 145 = .ok (.aload_n 0, 1) := by decide +kernel
theorem dX11_hashOfDays_146 : decode cX11_hashOfDays 146 = .ok (.getfield 57, 3) := by decide +kernel
theorem dX11_hashOfDays_149 : decode cX11_hashOfDays 149 = .ok (.aload_n 0, 1) := by decide +kernel
theorem dX11_hashOfDays_150 : decode cX11_hashOfDays 150 = .ok (.getfield 10, 3) := by decide +kernel
theorem dX11_hashOfDays_153 : decode cX11_hashOfDays 153 = .ok (.iload 5, 2) := by decide +kernel
theorem dX11_hashOfDays_155 : decode cX11_hashOfDays 155 = .ok (.invokevirtual 225, 3) := by decide +kernel
theorem dX11_hashOfDays_158 : decode cX11_hashOfDays 158 = .ok (.invokestatic 298, 3) := by decide +kernel
theorem dX11_hashOfDays_161 : decode cX11_hashOfDays 161 = .ok (.lstore_n 3, 1) := by decide +kernel
theorem dX11_hashOfDays_162 : decode cX11_hashOfDays 162 = .ok (.lload_n 3, 1) := by decide +kernel
theorem dX11_hashOfDays_163 : decode cX11_hashOfDays 163 = .ok (.aload_n 0, 1) := by decide +kernel
theorem dX11_hashOfDays_164 : decode cX11_hashOfDays 164 = .ok (.getfield 10, 3) := by decide +kernel
theorem dX11_hashOfDays_167 : decode cX11_hashOfDays 167 = .ok (.iload 5, 2) := by decide +kernel
theorem dX11_hashOfDays_169 : decode cX11_hashOfDays 169 = .ok (.invokestatic 253, 3) := by decide +kernel
theorem dX11_hashOfDays_172 : decode cX11_hashOfDays 172 = .ok (.invokestatic 298, 3) := by decide +kernel
theorem dX11_hashOfDays_175 : decode cX11_hashOfDays 175 = .ok (.lstore_n 3, 1) := by decide +kernel
theorem dX11_hashOfDays_176 : decode cX11_hashOfDays 176 = .ok (.iinc 5 1, 3) := by decide +kernel
theorem dX11_hashOfDays_179 : decode cX11_hashOfDays 179 = .ok (.goto (-167), 3) := by decide +kernel
theorem dX11_hashOfDays_182 : decode cX11_hashOfDays 182 = .ok (.lload_n 3, 1) := by decide +kernel
theorem dX11_hashOfDays_183 : decode cX11_hashOfDays 183 = .ok (.lreturn, 1) := by decide +kernel
theorem dX11_hashOfMeans_0 : decode cX11_hashOfMeans 0 = .ok (.lload_n 1, 1) := by decide +kernel
theorem dX11_hashOfMeans_1 : decode cX11_hashOfMeans 1 = .ok (.aload_n 0, 1) := by decide +kernel
theorem dX11_hashOfMeans_2 : decode cX11_hashOfMeans 2 = .ok (.getfield 10, 3) := by decide +kernel
theorem dX11_hashOfMeans_5 : decode cX11_hashOfMeans 5 = .ok (.iload_n 3, 1) := by decide +kernel
theorem dX11_hashOfMeans_6 : decode cX11_hashOfMeans 6 = .ok (.invokevirtual 87, 3) := by decide +kernel
theorem dX11_hashOfMeans_9 : decode cX11_hashOfMeans 9 = .ok (.i2l, 1) := by decide +kernel
theorem dX11_hashOfMeans_10 : decode cX11_hashOfMeans 10 = .ok (.invokestatic 298, 3) := by decide +kernel
theorem dX11_hashOfMeans_13 : decode cX11_hashOfMeans 13 = .ok (.lstore 4, 2) := by decide +kernel
theorem dX11_hashOfMeans_15 : decode cX11_hashOfMeans 15 = .ok (.lload 4, 2) := by decide +kernel
theorem dX11_hashOfMeans_17 : decode cX11_hashOfMeans 17 = .ok (.aload_n 0, 1) := by decide +kernel
theorem dX11_hashOfMeans_18 : decode cX11_hashOfMeans 18 = .ok (.getfield 10, 3) := by decide +kernel
theorem dX11_hashOfMeans_21 : decode cX11_hashOfMeans 21 = .ok (.iload_n 3, 1) := by decide +kernel
theorem dX11_hashOfMeans_22 : decode cX11_hashOfMeans 22 = .ok (.aload_n 0, 1) := by decide +kernel
theorem dX11_hashOfMeans_23 : decode cX11_hashOfMeans 23 = .ok (.getfield 10, 3) := by decide +kernel
theorem dX11_hashOfMeans_26 : decode cX11_hashOfMeans 26 = .ok (.getfield 124, 3) := by decide +kernel
theorem dX11_hashOfMeans_29 : decode cX11_hashOfMeans 29 = .ok (.invokestatic 182, 3) := by decide +kernel
theorem dX11_hashOfMeans_32 : decode cX11_hashOfMeans 32 = .ok (.i2l, 1) := by decide +kernel
theorem dX11_hashOfMeans_33 : decode cX11_hashOfMeans 33 = .ok (.invokestatic 298, 3) := by decide +kernel
theorem dX11_hashOfMeans_36 : decode cX11_hashOfMeans 36 = .ok (.lstore 4, 2) := by decide +kernel
theorem dX11_hashOfMeans_38 : decode cX11_hashOfMeans 38 = .ok (.lload 4, 2) := by decide +kernel
theorem dX11_hashOfMeans_40 : decode cX11_hashOfMeans 40 = .ok (.aload_n 0, 1) := by decide +kernel
theorem dX11_hashOfMeans_41 : decode cX11_hashOfMeans 41 = .ok (.getfield 10, 3) := by decide +kernel
theorem dX11_hashOfMeans_44 : decode cX11_hashOfMeans 44 = .ok (.iload_n 3, 1) := by decide +kernel
theorem dX11_hashOfMeans_45 : decode cX11_hashOfMeans 45 = .ok (.aload_n 0, 1) := by decide +kernel
theorem dX11_hashOfMeans_46 : decode cX11_hashOfMeans 46 = .ok (.getfield 10, 3) := by decide +kernel
theorem dX11_hashOfMeans_49 : decode cX11_hashOfMeans 49 = .ok (.getfield 124, 3) := by decide +kernel
theorem dX11_hashOfMeans_52 : decode cX11_hashOfMeans 52 = .ok (.invokestatic 188, 3) := by decide +kernel
theorem dX11_hashOfMeans_55 : decode cX11_hashOfMeans 55 = .ok (.i2l, 1) := by decide +kernel
theorem dX11_hashOfMeans_56 : decode cX11_hashOfMeans 56 = .ok (.invokestatic 298, 3) := by decide +kernel
theorem dX11_hashOfMeans_59 : decode cX11_hashOfMeans 59 = .ok (.lstore 4, 2) := by decide +kernel
theorem dX11_hashOfMeans_61 : decode cX11_hashOfMeans 61 = .ok (.lload 4, 2) := by decide +kernel
theorem dX11_hashOfMeans_63 : decode cX11_hashOfMeans 63 = .ok (.aload_n 0, 1) := by decide +kernel
theorem dX11_hashOfMeans_64 : decode cX11_hashOfMeans 64 = .ok (.getfield 10, 3) := by decide +kernel
theorem dX11_hashOfMeans_67 : decode cX11_hashOfMeans 67 = .ok (.iload_n 3, 1) := by decide +kernel
theorem dX11_hashOfMeans_68 : decode cX11_hashOfMeans 68 = .ok (.aload_n 0, 1) := by decide +kernel
theorem dX11_hashOfMeans_69 : decode cX11_hashOfMeans 69 = .ok (.getfield 10, 3) := by decide +kernel
theorem dX11_hashOfMeans_72 : decode cX11_hashOfMeans 72 = .ok (.getfield 121, 3) := by decide +kernel
theorem dX11_hashOfMeans_75 : decode cX11_hashOfMeans 75 = .ok (.invokestatic 182, 3) := by decide +kernel
theorem dX11_hashOfMeans_78 : decode cX11_hashOfMeans 78 = .ok (.i2l, 1) := by decide +kernel
theorem dX11_hashOfMeans_79 : decode cX11_hashOfMeans 79 = .ok (.invokestatic 298, 3) := by decide +kernel
theorem dX11_hashOfMeans_82 : decode cX11_hashOfMeans 82 = .ok (.lstore 4, 2) := by decide +kernel
theorem dX11_hashOfMeans_84 : decode cX11_hashOfMeans 84 = .ok (.lload 4, 2) := by decide +kernel
theorem dX11_hashOfMeans_86 : decode cX11_hashOfMeans 86 = .ok (.aload_n 0, 1) := by decide +kernel
theorem dX11_hashOfMeans_87 : decode cX11_hashOfMeans 87 = .ok (.getfield 10, 3) := by decide +kernel
theorem dX11_hashOfMeans_90 : decode cX11_hashOfMeans 90 = .ok (.iload_n 3, 1) := by decide +kernel
theorem dX11_hashOfMeans_91 : decode cX11_hashOfMeans 91 = .ok (.invokestatic 191, 3) := by decide +kernel
theorem dX11_hashOfMeans_94 : decode cX11_hashOfMeans 94 = .ok (.i2l, 1) := by decide +kernel
theorem dX11_hashOfMeans_95 : decode cX11_hashOfMeans 95 = .ok (.invokestatic 298, 3) := by decide +kernel
theorem dX11_hashOfMeans_98 : decode cX11_hashOfMeans 98 = .ok (.lstore 4, 2) := by decide +kernel
theorem dX11_hashOfMeans_100 : decode cX11_hashOfMeans 100 = .ok (.lload 4, 2) := by decide +kernel
theorem dX11_hashOfMeans_102 : decode cX11_hashOfMeans 102 = .ok (.aload_n 0, 1) := by decide +kernel
theorem dX11_hashOfMeans_103 : decode cX11_hashOfMeans 103 = .ok (.getfield 10, 3) := by decide +kernel
theorem dX11_hashOfMeans_106 : decode cX11_hashOfMeans 106 = .ok (.iload_n 3, 1) := by decide +kernel
theorem dX11_hashOfMeans_107 : decode cX11_hashOfMeans 107 = .ok (.invokestatic 195, 3) := by decide +kernel
theorem dX11_hashOfMeans_110 : decode cX11_hashOfMeans 110 = .ok (.i2l, 1) := by decide +kernel
theorem dX11_hashOfMeans_111 : decode cX11_hashOfMeans 111 = .ok (.invokestatic 298, 3) := by decide +kernel
theorem dX11_hashOfMeans_114 : decode cX11_hashOfMeans 114 = .ok (.lstore 4, 2) := by decide +kernel
theorem dX11_hashOfMeans_116 : decode cX11_hashOfMeans 116 = .ok (.lload 4, 2) := by decide +kernel
theorem dX11_hashOfMeans_118 : decode cX11_hashOfMeans 118 = .ok (.aload_n 0, 1) := by decide +kernel
theorem dX11_hashOfMeans_119 : decode cX11_hashOfMeans 119 = .ok (.getfield 10, 3) := by decide +kernel
theorem dX11_hashOfMeans_122 : decode cX11_hashOfMeans 122 = .ok (.iload_n 3, 1) := by decide +kernel
theorem dX11_hashOfMeans_123 : decode cX11_hashOfMeans 123 = .ok (.iconst 0, 1) := by decide +kernel
theorem dX11_hashOfMeans_124 : decode cX11_hashOfMeans 124 = .ok (.invokestatic 198, 3) := by decide +kernel
theorem dX11_hashOfMeans_127 : decode cX11_hashOfMeans 127 = .ok (.i2l, 1) := by decide +kernel
theorem dX11_hashOfMeans_128 : decode cX11_hashOfMeans 128 = .ok (.invokestatic 298, 3) := by decide +kernel
theorem dX11_hashOfMeans_131 : decode cX11_hashOfMeans 131 = .ok (.lreturn, 1) := by decide +kernel
theorem dX11_hashOfSeason_0 : decode cX11_hashOfSeason 0 = .ok (.lload_n 1, 1) := by decide +kernel
theorem dX11_hashOfSeason_1 : decode cX11_hashOfSeason 1 = .ok (.lstore_n 3, 1) := by decide +kernel
theorem dX11_hashOfSeason_2 : decode cX11_hashOfSeason 2 = .ok (.iconst 0, 1) := by decide +kernel
theorem dX11_hashOfSeason_3 : decode cX11_hashOfSeason 3 = .ok (.istore 5, 2) := by decide +kernel
theorem dX11_hashOfSeason_5 : decode cX11_hashOfSeason 5 = .ok (.iload 5, 2) := by decide +kernel
theorem dX11_hashOfSeason_7 : decode cX11_hashOfSeason 7 = .ok (.aload_n 0, 1) := by decide +kernel
theorem dX11_hashOfSeason_8 : decode cX11_hashOfSeason 8 = .ok (.getfield 10, 3) := by decide +kernel
theorem dX11_hashOfSeason_11 : decode cX11_hashOfSeason 11 = .ok (.getfield 133, 3) := by decide +kernel
theorem dX11_hashOfSeason_14 : decode cX11_hashOfSeason 14 = .ok (.if_icmp .ge 43, 3) := by decide +kernel
theorem dX11_hashOfSeason_17 : decode cX11_hashOfSeason 17 = .ok (.aload_n 0, 1) := by decide +kernel
theorem dX11_hashOfSeason_18 : decode cX11_hashOfSeason 18 = .ok (.getfield 10, 3) := by decide +kernel
theorem dX11_hashOfSeason_21 : decode cX11_hashOfSeason 21 = .ok (.iload 5, 2) := by decide +kernel
theorem dX11_hashOfSeason_23 : decode cX11_hashOfSeason 23 = .ok (.aload_n 0, 1) := by decide +kernel
theorem dX11_hashOfSeason_24 : decode cX11_hashOfSeason 24 = .ok (.getfield 10, 3) := by decide +kernel
theorem dX11_hashOfSeason_27 : decode cX11_hashOfSeason 27 = .ok (.getfield 65, 3) := by decide +kernel
theorem dX11_hashOfSeason_30 : decode cX11_hashOfSeason 30 = .ok (.invokestatic 243, 3) := by decide +kernel
theorem dX11_hashOfSeason_33 : decode cX11_hashOfSeason 33 = .ok (.ifCond .le 18, 3) := by decide +kernel
theorem dX11_hashOfSeason_36 : decode cX11_hashOfSeason 36 = .ok (.lload_n 3, 1) := by decide +kernel
theorem dX11_hashOfSeason_37 : decode cX11_hashOfSeason 37 = .ok (.aload_n 0, 1) := by decide +kernel
theorem dX11_hashOfSeason_38 : decode cX11_hashOfSeason 38 = .ok (.getfield 10, 3) := by decide +kernel
theorem dX11_hashOfSeason_41 : decode cX11_hashOfSeason 41 = .ok (.iload 5, 2) := by decide +kernel
theorem dX11_hashOfSeason_43 : decode cX11_hashOfSeason 43 = .ok (.invokestatic 250, 3) := by decide +kernel
theorem dX11_hashOfSeason_46 : decode cX11_hashOfSeason 46 = .ok (.i2l, 1) := by decide +kernel
theorem dX11_hashOfSeason_47 : decode cX11_hashOfSeason 47 = .ok (.invokestatic 298, 3) := by decide +kernel
theorem dX11_hashOfSeason_50 : decode cX11_hashOfSeason 50 = .ok (.lstore_n 3, 1) := by decide +kernel
theorem dX11_hashOfSeason_51 : decode cX11_hashOfSeason 51 = .ok (.iinc 5 1, 3) := by decide +kernel
theorem dX11_hashOfSeason_54 : decode cX11_hashOfSeason 54 = .ok (.goto (-49), 3) := by decide +kernel
theorem dX11_hashOfSeason_57 : decode cX11_hashOfSeason 57 = .ok (.lload_n 3, 1) := by decide +kernel
theorem dX11_hashOfSeason_58 : decode cX11_hashOfSeason 58 = .ok (.lreturn, 1) := by decide +kernel
theorem dX11_hashOfForecasts_0 : decode cX11_hashOfForecasts 0 = .ok (.lload_n 1, 1) := by decide +kernel
theorem dX11_hashOfForecasts_1 : decode cX11_hashOfForecasts 1 = .ok (.lstore_n 3, 1) := by decide +kernel
theorem dX11_hashOfForecasts_2 : decode cX11_hashOfForecasts 2 = .ok (.aload_n 0, 1) := by decide +kernel
theorem dX11_hashOfForecasts_3 : decode cX11_hashOfForecasts 3 = .ok (.getfield 10, 3) := by decide +kernel
theorem dX11_hashOfForecasts_6 : decode cX11_hashOfForecasts 6 = .ok (.getfield 65, 3) := by decide +kernel
theorem dX11_hashOfForecasts_9 : decode cX11_hashOfForecasts 9 = .ok (.iconst 1, 1) := by decide +kernel
theorem dX11_hashOfForecasts_10 : decode cX11_hashOfForecasts 10 = .ok (.if_icmp .lt 40, 3) := by decide +kernel
theorem dX11_hashOfForecasts_13 : decode cX11_hashOfForecasts 13 = .ok (.iconst 0, 1) := by decide +kernel
theorem dX11_hashOfForecasts_14 : decode cX11_hashOfForecasts 14 = .ok (.istore 5, 2) := by decide +kernel
theorem dX11_hashOfForecasts_16 : decode cX11_hashOfForecasts 16 = .ok (.iload 5, 2) := by decide +kernel
theorem dX11_hashOfForecasts_18 : decode cX11_hashOfForecasts 18 = .ok (.iconst 4, 1) := by decide +kernel
theorem dX11_hashOfForecasts_19 : decode cX11_hashOfForecasts 19 = .ok (.if_icmp .ge 31, 3) := by decide +kernel
theorem dX11_hashOfForecasts_22 : decode cX11_hashOfForecasts 22 = .ok (.lload_n 3, 1) := by decide +kernel
theorem dX11_hashOfForecasts_23 : decode cX11_hashOfForecasts 23 = .ok (.aload_n 0, 1) := by decide +kernel
theorem dX11_hashOfForecasts_24 : decode cX11_hashOfForecasts 24 = .ok (.getfield 10, 3) := by decide +kernel
theorem dX11_hashOfForecasts_27 : decode cX11_hashOfForecasts 27 = .ok (.iload 5, 2) := by decide +kernel
theorem dX11_hashOfForecasts_29 : decode cX11_hashOfForecasts 29 = .ok (.aload_n 0, 1) := by decide +kernel
theorem dX11_hashOfForecasts_30 : decode cX11_hashOfForecasts 30 = .ok (.getfield 10, 3) := by decide +kernel
theorem dX11_hashOfForecasts_33 : decode cX11_hashOfForecasts 33 = .ok (.getfield 65, 3) := by decide +kernel
theorem dX11_hashOfForecasts_36 : decode cX11_hashOfForecasts 36 = .ok (.invokestatic 259, 3) := by decide +kernel
theorem dX11_hashOfForecasts_39 : decode cX11_hashOfForecasts 39 = .ok (.i2l, 1) := by decide +kernel
theorem dX11_hashOfForecasts_40 : decode cX11_hashOfForecasts 40 = .ok (.invokestatic 298, 3) := by decide +kernel
theorem dX11_hashOfForecasts_43 : decode cX11_hashOfForecasts 43 = .ok (.lstore_n 3, 1) := by decide +kernel
theorem dX11_hashOfForecasts_44 : decode cX11_hashOfForecasts 44 = .ok (.iinc 5 1, 3) := by decide +kernel
theorem dX11_hashOfForecasts_47 : decode cX11_hashOfForecasts 47 = .ok (.goto (-31), 3) := by decide +kernel
theorem dX11_hashOfForecasts_50 : decode cX11_hashOfForecasts 50 = .ok (.aload_n 0, 1) := by decide +kernel
theorem dX11_hashOfForecasts_51 : decode cX11_hashOfForecasts 51 = .ok (.getfield 10, 3) := by decide +kernel
theorem dX11_hashOfForecasts_54 : decode cX11_hashOfForecasts 54 = .ok (.getfield 65, 3) := by decide +kernel
theorem dX11_hashOfForecasts_57 : decode cX11_hashOfForecasts 57 = .ok (.iconst 2, 1) := by decide +kernel
theorem dX11_hashOfForecasts_58 : decode cX11_hashOfForecasts 58 = .ok (.if_icmp .lt 46, 3) := by decide +kernel
theorem dX11_hashOfForecasts_61 : decode cX11_hashOfForecasts 61 = .ok (.iconst 0, 1) := by decide +kernel
theorem dX11_hashOfForecasts_62 : decode cX11_hashOfForecasts 62 = .ok (.istore 5, 2) := by decide +kernel
theorem dX11_hashOfForecasts_64 : decode cX11_hashOfForecasts 64 = .ok (.iload 5, 2) := by decide +kernel
theorem dX11_hashOfForecasts_66 : decode cX11_hashOfForecasts 66 = .ok (.iconst 4, 1) := by decide +kernel
theorem dX11_hashOfForecasts_67 : decode cX11_hashOfForecasts 67 = .ok (.if_icmp .ge 24, 3) := by decide +kernel
theorem dX11_hashOfForecasts_70 : decode cX11_hashOfForecasts 70 = .ok (.lload_n 3, 1) := by decide +kernel
theorem dX11_hashOfForecasts_71 : decode cX11_hashOfForecasts 71 = .ok (.aload_n 0, 1) := by decide +kernel
theorem dX11_hashOfForecasts_72 : decode cX11_hashOfForecasts 72 = .ok (.getfield 10, 3) := by decide +kernel
theorem dX11_hashOfForecasts_75 : decode cX11_hashOfForecasts 75 = .ok (.iload 5, 2) := by decide +kernel
theorem dX11_hashOfForecasts_77 : decode cX11_hashOfForecasts 77 = .ok (.invokestatic 264, 3) := by decide +kernel
theorem dX11_hashOfForecasts_80 : decode cX11_hashOfForecasts 80 = .ok (.i2l, 1) := by decide +kernel
theorem dX11_hashOfForecasts_81 : decode cX11_hashOfForecasts 81 = .ok (.invokestatic 298, 3) := by decide +kernel
theorem dX11_hashOfForecasts_84 : decode cX11_hashOfForecasts 84 = .ok (.lstore_n 3, 1) := by decide +kernel
theorem dX11_hashOfForecasts_85 : decode cX11_hashOfForecasts 85 = .ok (.iinc 5 1, 3) := by decide +kernel
theorem dX11_hashOfForecasts_88 : decode cX11_hashOfForecasts 88 = .ok (.goto (-24), 3) := by decide +kernel
theorem dX11_hashOfForecasts_91 : decode cX11_hashOfForecasts 91 = .ok (.lload_n 3, 1) := by decide +kernel
theorem dX11_hashOfForecasts_92 : decode cX11_hashOfForecasts 92 = .ok (.aload_n 0, 1) := by decide +kernel
theorem dX11_hashOfForecasts_93 : decode cX11_hashOfForecasts 93 = .ok (.getfield 10, 3) := by decide +kernel
theorem dX11_hashOfForecasts_96 : decode cX11_hashOfForecasts 96 = .ok (.invokestatic 267, 3) := by decide +kernel
theorem dX11_hashOfForecasts_99 : decode cX11_hashOfForecasts 99 = .ok (.i2l, 1) := by decide +kernel
theorem dX11_hashOfForecasts_100 : decode cX11_hashOfForecasts 100 = .ok (.invokestatic 298, 3) := by decide +kernel
theorem dX11_hashOfForecasts_103 : decode cX11_hashOfForecasts 103 = .ok (.lstore_n 3, 1) := by decide +kernel
theorem dX11_hashOfForecasts_104 : decode cX11_hashOfForecasts 104 = .ok (.lload_n 3, 1) := by decide +kernel
theorem dX11_hashOfForecasts_105 : decode cX11_hashOfForecasts 105 = .ok (.lreturn, 1) := by decide +kernel
theorem dX11_hashOfStop_0 : decode cX11_hashOfStop 0 = .ok (.aload_n 0, 1) := by decide +kernel
theorem dX11_hashOfStop_1 : decode cX11_hashOfStop 1 = .ok (.getfield 10, 3) := by decide +kernel
theorem dX11_hashOfStop_4 : decode cX11_hashOfStop 4 = .ok (.getfield 157, 3) := by decide +kernel
theorem dX11_hashOfStop_7 : decode cX11_hashOfStop 7 = .ok (.ifCond .ne 9, 3) := by decide +kernel
theorem dX11_hashOfStop_10 : decode cX11_hashOfStop 10 = .ok (.lload_n 1, 1) := by decide +kernel
theorem dX11_hashOfStop_11 : decode cX11_hashOfStop 11 = .ok (.lconst 0, 1) := by decide +kernel
theorem dX11_hashOfStop_12 : decode cX11_hashOfStop 12 = .ok (.invokestatic 298, 3) := by decide +kernel
theorem dX11_hashOfStop_15 : decode cX11_hashOfStop 15 = .ok (.lreturn, 1) := by decide +kernel
theorem dX11_hashOfStop_16 : decode cX11_hashOfStop 16 = .ok (.lload_n 1, 1) := by decide +kernel
theorem dX11_hashOfStop_17 : decode cX11_hashOfStop 17 = .ok (.lconst 1, 1) := by decide +kernel
theorem dX11_hashOfStop_18 : decode cX11_hashOfStop 18 = .ok (.invokestatic 298, 3) := by decide +kernel
theorem dX11_hashOfStop_21 : decode cX11_hashOfStop 21 = .ok (.lstore_n 3, 1) := by decide +kernel
theorem dX11_hashOfStop_22 : decode cX11_hashOfStop 22 = .ok (.lload_n 3, 1) := by decide +kernel
theorem dX11_hashOfStop_23 : decode cX11_hashOfStop 23 = .ok (.aload_n 0, 1) := by decide +kernel
theorem dX11_hashOfStop_24 : decode cX11_hashOfStop 24 = .ok (.getfield 10, 3) := by decide +kernel
theorem dX11_hashOfStop_27 : decode cX11_hashOfStop 27 = .ok (.getfield 163, 3) := by decide +kernel
theorem dX11_hashOfStop_30 : decode cX11_hashOfStop 30 = .ok (.i2l, 1) := by decide +kernel
theorem dX11_hashOfStop_31 : decode cX11_hashOfStop 31 = .ok (.invokestatic 298, 3) := by decide +kernel
theorem dX11_hashOfStop_34 : decode cX11_hashOfStop 34 = .ok (.lstore_n 3, 1) := by decide +kernel
theorem dX11_hashOfStop_35 : decode cX11_hashOfStop 35 = .ok (.lload_n 3, 1) := by decide +kernel
theorem dX11_hashOfStop_36 : decode cX11_hashOfStop 36 = .ok (.aload_n 0, 1) := by decide +kernel
theorem dX11_hashOfStop_37 : decode cX11_hashOfStop 37 = .ok (.getfield 10, 3) := by decide +kernel
theorem dX11_hashOfStop_40 : decode cX11_hashOfStop 40 = .ok (.getfield 166, 3) := by decide +kernel
theorem dX11_hashOfStop_43 : decode cX11_hashOfStop 43 = .ok (.i2l, 1) := by decide +kernel
theorem dX11_hashOfStop_44 : decode cX11_hashOfStop 44 = .ok (.invokestatic 298, 3) := by decide +kernel
theorem dX11_hashOfStop_47 : decode cX11_hashOfStop 47 = .ok (.lreturn, 1) := by decide +kernel
theorem dX11_hashOfText_0 : decode cX11_hashOfText 0 = .ok (.lload_n 1, 1) := by decide +kernel
theorem dX11_hashOfText_1 : decode cX11_hashOfText 1 = .ok (.aload_n 0, 1) := by decide +kernel
theorem dX11_hashOfText_2 : decode cX11_hashOfText 2 = .ok (.getfield 36, 3) := by decide +kernel
theorem dX11_hashOfText_5 : decode cX11_hashOfText 5 = .ok (.getfield 136, 3) := by decide +kernel
theorem dX11_hashOfText_8 : decode cX11_hashOfText 8 = .ok (.i2l, 1) := by decide +kernel
theorem dX11_hashOfText_9 : decode cX11_hashOfText 9 = .ok (.invokestatic 298, 3) := by decide +kernel
theorem dX11_hashOfText_12 : decode cX11_hashOfText 12 = .ok (.lstore_n 3, 1) := by decide +kernel
theorem dX11_hashOfText_13 : decode cX11_hashOfText 13 = .ok (.iconst 0, 1) := by decide +kernel
theorem dX11_hashOfText_14 : decode cX11_hashOfText 14 = .ok (.istore 5, 2) := by decide +kernel
theorem dX11_hashOfText_16 : decode cX11_hashOfText 16 = .ok (.iload 5, 2) := by decide +kernel
theorem dX11_hashOfText_18 : decode cX11_hashOfText 18 = .ok (.aload_n 0, 1) := by decide +kernel
theorem dX11_hashOfText_19 : decode cX11_hashOfText 19 = .ok (.getfield 36, 3) := by decide +kernel
theorem dX11_hashOfText_22 : decode cX11_hashOfText 22 = .ok (.getfield 136, 3) := by decide +kernel
theorem dX11_hashOfText_25 : decode cX11_hashOfText 25 = .ok (.if_icmp .ge 24, 3) := by decide +kernel
theorem dX11_hashOfText_28 : decode cX11_hashOfText 28 = .ok (.lload_n 3, 1) := by decide +kernel
theorem dX11_hashOfText_29 : decode cX11_hashOfText 29 = .ok (.aload_n 0, 1) := by decide +kernel
theorem dX11_hashOfText_30 : decode cX11_hashOfText 30 = .ok (.getfield 36, 3) := by decide +kernel
theorem dX11_hashOfText_33 : decode cX11_hashOfText 33 = .ok (.iload 5, 2) := by decide +kernel
theorem dX11_hashOfText_35 : decode cX11_hashOfText 35 = .ok (.invokevirtual 315, 3) := by decide +kernel
theorem dX11_hashOfText_38 : decode cX11_hashOfText 38 = .ok (.i2l, 1) := by decide +kernel
theorem dX11_hashOfText_39 : decode cX11_hashOfText 39 = .ok (.invokestatic 298, 3) := by decide +kernel
theorem dX11_hashOfText_42 : decode cX11_hashOfText 42 = .ok (.lstore_n 3, 1) := by decide +kernel
theorem dX11_hashOfText_43 : decode cX11_hashOfText 43 = .ok (.iinc 5 1, 3) := by decide +kernel
theorem dX11_hashOfText_46 : decode cX11_hashOfText 46 = .ok (.goto (-30), 3) := by decide +kernel
theorem dX11_hashOfText_49 : decode cX11_hashOfText 49 = .ok (.lload_n 3, 1) := by decide +kernel
theorem dX11_hashOfText_50 : decode cX11_hashOfText 50 = .ok (.lreturn, 1) := by decide +kernel
theorem dX11_mixed_0 : decode cX11_mixed 0 = .ok (.ldc2_w 318, 3) := by decide +kernel
theorem dX11_mixed_3 : decode cX11_mixed 3 = .ok (.lload_n 0, 1) := by decide +kernel
theorem dX11_mixed_4 : decode cX11_mixed 4 = .ok (.lmul, 1) := by decide +kernel
theorem dX11_mixed_5 : decode cX11_mixed 5 = .ok (.lload_n 2, 1) := by decide +kernel
theorem dX11_mixed_6 : decode cX11_mixed 6 = .ok (.ladd, 1) := by decide +kernel
theorem dX11_mixed_7 : decode cX11_mixed 7 = .ok (.lreturn, 1) := by decide +kernel
theorem dX11_bitsOf_0 : decode cX11_bitsOf 0 = .ok (.dload_n 0, 1) := by decide +kernel
theorem dX11_bitsOf_1 : decode cX11_bitsOf 1 = .ok (.dstore_n 2, 1) := by decide +kernel
theorem dX11_bitsOf_2 : decode cX11_bitsOf 2 = .ok (.ldc2_w 320, 3) := by decide +kernel
theorem dX11_bitsOf_5 : decode cX11_bitsOf 5 = .ok (.lstore 4, 2) := by decide +kernel
theorem dX11_bitsOf_7 : decode cX11_bitsOf 7 = .ok (.iconst 0, 1) := by decide +kernel
theorem dX11_bitsOf_8 : decode cX11_bitsOf 8 = .ok (.istore 6, 2) := by decide +kernel
theorem dX11_bitsOf_10 : decode cX11_bitsOf 10 = .ok (.iload 6, 2) := by decide +kernel
theorem dX11_bitsOf_12 : decode cX11_bitsOf 12 = .ok (.bipush 6, 2) := by decide +kernel
theorem dX11_bitsOf_14 : decode cX11_bitsOf 14 = .ok (.if_icmp .ge 27, 3) := by decide +kernel
theorem dX11_bitsOf_17 : decode cX11_bitsOf 17 = .ok (.dload_n 2, 1) := by decide +kernel
theorem dX11_bitsOf_18 : decode cX11_bitsOf 18 = .ok (.dconst 1, 1) := by decide +kernel
theorem dX11_bitsOf_19 : decode cX11_bitsOf 19 = .ok (.dcmp .g, 1) := by decide +kernel
theorem dX11_bitsOf_20 : decode cX11_bitsOf 20 = .ok (.ifCond .ge 21, 3) := by decide +kernel
theorem dX11_bitsOf_23 : decode cX11_bitsOf 23 = .ok (.dload_n 2, 1) := by decide +kernel
theorem dX11_bitsOf_24 : decode cX11_bitsOf 24 = .ok (.ldc2_w 322, 3) := by decide +kernel
theorem dX11_bitsOf_27 : decode cX11_bitsOf 27 = .ok (.dmul, 1) := by decide +kernel
theorem dX11_bitsOf_28 : decode cX11_bitsOf 28 = .ok (.dstore_n 2, 1) := by decide +kernel
theorem dX11_bitsOf_29 : decode cX11_bitsOf 29 = .ok (.lload 4, 2) := by decide +kernel
theorem dX11_bitsOf_31 : decode cX11_bitsOf 31 = .ok (.lconst 1, 1) := by decide +kernel
theorem dX11_bitsOf_32 : decode cX11_bitsOf 32 = .ok (.lsub, 1) := by decide +kernel
theorem dX11_bitsOf_33 : decode cX11_bitsOf 33 = .ok (.lstore 4, 2) := by decide +kernel
theorem dX11_bitsOf_35 : decode cX11_bitsOf 35 = .ok (.iinc 6 1, 3) := by decide +kernel
theorem dX11_bitsOf_38 : decode cX11_bitsOf 38 = .ok (.goto (-28), 3) := by decide +kernel
theorem dX11_bitsOf_41 : decode cX11_bitsOf 41 = .ok (.dload_n 2, 1) := by decide +kernel
theorem dX11_bitsOf_42 : decode cX11_bitsOf 42 = .ok (.dconst 1, 1) := by decide +kernel
theorem dX11_bitsOf_43 : decode cX11_bitsOf 43 = .ok (.dsub, 1) := by decide +kernel
theorem dX11_bitsOf_44 : decode cX11_bitsOf 44 = .ok (.ldc2_w 324, 3) := by decide +kernel
theorem dX11_bitsOf_47 : decode cX11_bitsOf 47 = .ok (.dmul, 1) := by decide +kernel
theorem dX11_bitsOf_48 : decode cX11_bitsOf 48 = .ok (.d2l, 1) := by decide +kernel
theorem dX11_bitsOf_49 : decode cX11_bitsOf 49 = .ok (.lstore 6, 2) := by decide +kernel
theorem dX11_bitsOf_51 : decode cX11_bitsOf 51 = .ok (.lload 4, 2) := by decide +kernel
theorem dX11_bitsOf_53 : decode cX11_bitsOf 53 = .ok (.bipush 52, 2) := by decide +kernel
theorem dX11_bitsOf_55 : decode cX11_bitsOf 55 = .ok (.lshl, 1) := by decide +kernel
theorem dX11_bitsOf_56 : decode cX11_bitsOf 56 = .ok (.lload 6, 2) := by decide +kernel
theorem dX11_bitsOf_58 : decode cX11_bitsOf 58 = .ok (.ladd, 1) := by decide +kernel
theorem dX11_bitsOf_59 : decode cX11_bitsOf 59 = .ok (.lreturn, 1) := by decide +kernel
theorem dX11_divided_0 : decode cX11_divided 0 = .ok (.lload_n 2, 1) := by decide +kernel
theorem dX11_divided_1 : decode cX11_divided 1 = .ok (.lconst 0, 1) := by decide +kernel
theorem dX11_divided_2 : decode cX11_divided 2 = .ok (.lcmp, 1) := by decide +kernel
theorem dX11_divided_3 : decode cX11_divided 3 = .ok (.ifCond .le 9, 3) := by decide +kernel
theorem dX11_divided_6 : decode cX11_divided 6 = .ok (.lload_n 0, 1) := by decide +kernel
theorem dX11_divided_7 : decode cX11_divided 7 = .ok (.lload_n 2, 1) := by decide +kernel
theorem dX11_divided_8 : decode cX11_divided 8 = .ok (.ldiv, 1) := by decide +kernel
theorem dX11_divided_9 : decode cX11_divided 9 = .ok (.goto 4, 3) := by decide +kernel
theorem dX11_divided_12 : decode cX11_divided 12 = .ok (.lconst 0, 1) := by decide +kernel
theorem dX11_divided_13 : decode cX11_divided 13 = .ok (.lreturn, 1) := by decide +kernel
theorem dX11_requireRange_0 : decode cX11_requireRange 0 = .ok (.iload_n 0, 1) := by decide +kernel
theorem dX11_requireRange_1 : decode cX11_requireRange 1 = .ok (.iload_n 1, 1) := by decide +kernel
theorem dX11_requireRange_2 : decode cX11_requireRange 2 = .ok (.if_icmp .lt 8, 3) := by decide +kernel
theorem dX11_requireRange_5 : decode cX11_requireRange 5 = .ok (.iload_n 0, 1) := by decide +kernel
theorem dX11_requireRange_6 : decode cX11_requireRange 6 = .ok (.iload_n 2, 1) := by decide +kernel
theorem dX11_requireRange_7 : decode cX11_requireRange 7 = .ok (.if_icmp .le 14, 3) := by decide +kernel
theorem dX11_requireRange_10 : decode cX11_requireRange 10 = .ok (.new 116, 3) := by decide +kernel
theorem dX11_requireRange_13 : decode cX11_requireRange 13 = .ok (.dup, 1) := by decide +kernel
theorem dX11_requireRange_14 : decode cX11_requireRange 14 = .ok (.ldc_w 326, 3) := by decide +kernel
theorem dX11_requireRange_17 : decode cX11_requireRange 17 = .ok (.invokespecial 120, 3) := by decide +kernel
theorem dX11_requireRange_20 : decode cX11_requireRange 20 = .ok (.athrow, 1) := by decide +kernel
theorem dX11_requireRange_21 : decode cX11_requireRange 21 = .ok (.return_, 1) := by decide +kernel
theorem dX11_requireDay_0 : decode cX11_requireDay 0 = .ok (.aload_n 0, 1) := by decide +kernel
theorem dX11_requireDay_1 : decode cX11_requireDay 1 = .ok (.getfield 10, 3) := by decide +kernel
theorem dX11_requireDay_4 : decode cX11_requireDay 4 = .ok (.iload_n 1, 1) := by decide +kernel
theorem dX11_requireDay_5 : decode cX11_requireDay 5 = .ok (.invokevirtual 328, 3) := by decide +kernel
theorem dX11_requireDay_8 : decode cX11_requireDay 8 = .ok (.ifCond .ne 14, 3) := by decide +kernel
theorem dX11_requireDay_11 : decode cX11_requireDay 11 = .ok (.new 238, 3) := by decide +kernel
theorem dX11_requireDay_14 : decode cX11_requireDay 14 = .ok (.dup, 1) := by decide +kernel
theorem dX11_requireDay_15 : decode cX11_requireDay 15 = .ok (.ldc_w 332, 3) := by decide +kernel
theorem dX11_requireDay_18 : decode cX11_requireDay 18 = .ok (.invokespecial 242, 3) := by decide +kernel
theorem dX11_requireDay_21 : decode cX11_requireDay 21 = .ok (.athrow, 1) := by decide +kernel
theorem dX11_requireDay_22 : decode cX11_requireDay 22 = .ok (.return_, 1) := by decide +kernel
theorem dX11_requirePrices_0 : decode cX11_requirePrices 0 = .ok (.aload_n 0, 1) := by decide +kernel
theorem dX11_requirePrices_1 : decode cX11_requirePrices 1 = .ok (.getfield 10, 3) := by decide +kernel
theorem dX11_requirePrices_4 : decode cX11_requirePrices 4 = .ok (.getfield 65, 3) := by decide +kernel
theorem dX11_requirePrices_7 : decode cX11_requirePrices 7 = .ok (.iload_n 1, 1) := by decide +kernel
theorem dX11_requirePrices_8 : decode cX11_requirePrices 8 = .ok (.if_icmp .ge 14, 3) := by decide +kernel
theorem dX11_requirePrices_11 : decode cX11_requirePrices 11 = .ok (.new 69, 3) := by decide +kernel
theorem dX11_requirePrices_14 : decode cX11_requirePrices 14 = .ok (.dup, 1) := by decide +kernel
theorem dX11_requirePrices_15 : decode cX11_requirePrices 15 = .ok (.ldc_w 334, 3) := by decide +kernel
theorem dX11_requirePrices_18 : decode cX11_requirePrices 18 = .ok (.invokespecial 73, 3) := by decide +kernel
theorem dX11_requirePrices_21 : decode cX11_requirePrices 21 = .ok (.athrow, 1) := by decide +kernel
theorem dX11_requirePrices_22 : decode cX11_requirePrices 22 = .ok (.return_, 1) := by decide +kernel
theorem dX11_requireStop_0 : decode cX11_requireStop 0 = .ok (.aload_n 0, 1) := by decide +kernel
theorem dX11_requireStop_1 : decode cX11_requireStop 1 = .ok (.getfield 10, 3) := by decide +kernel
theorem dX11_requireStop_4 : decode cX11_requireStop 4 = .ok (.getfield 157, 3) := by decide +kernel
theorem dX11_requireStop_7 : decode cX11_requireStop 7 = .ok (.ifCond .ne 14, 3) := by decide +kernel
theorem dX11_requireStop_10 : decode cX11_requireStop 10 = .ok (.new 69, 3) := by decide +kernel
theorem dX11_requireStop_13 : decode cX11_requireStop 13 = .ok (.dup, 1) := by decide +kernel
theorem dX11_requireStop_14 : decode cX11_requireStop 14 = .ok (.ldc_w 336, 3) := by decide +kernel
theorem dX11_requireStop_17 : decode cX11_requireStop 17 = .ok (.invokespecial 73, 3) := by decide +kernel
theorem dX11_requireStop_20 : decode cX11_requireStop 20 = .ok (.athrow, 1) := by decide +kernel
theorem dX11_requireStop_21 : decode cX11_requireStop 21 = .ok (.return_, 1) := by decide +kernel
theorem dJxe99ae_isNaN_b9ae7_0 : decode cJxe99ae_isNaN_b9ae7 0 = .ok (.dload_n 0, 1) := by decide +kernel
theorem dJxe99ae_isNaN_b9ae7_1 : decode cJxe99ae_isNaN_b9ae7 1 = .ok (.dload_n 0, 1) := by decide +kernel
theorem dJxe99ae_isNaN_b9ae7_2 : decode cJxe99ae_isNaN_b9ae7 2 = .ok (.dcmp .l, 1) := by decide +kernel
theorem dJxe99ae_isNaN_b9ae7_3 : decode cJxe99ae_isNaN_b9ae7 3 = .ok (.ifCond .eq 7, 3) := by decide +kernel
theorem dJxe99ae_isNaN_b9ae7_6 : decode cJxe99ae_isNaN_b9ae7 6 = .ok (.iconst 1, 1) := by decide +kernel
theorem dJxe99ae_isNaN_b9ae7_7 : decode cJxe99ae_isNaN_b9ae7 7 = .ok (.goto 4, 3) := by decide +kernel
theorem dJxe99ae_isNaN_b9ae7_10 : decode cJxe99ae_isNaN_b9ae7 10 = .ok (.iconst 0, 1) := by decide +kernel
theorem dJxe99ae_isNaN_b9ae7_11 : decode cJxe99ae_isNaN_b9ae7 11 = .ok (.ireturn, 1) := by decide +kernel
theorem dJxe99ae_doubleToLongBits_ccdee_0 : decode cJxe99ae_doubleToLongBits_ccdee 0 = .ok (.dload_n 0, 1) := by decide +kernel
theorem dJxe99ae_doubleToLongBits_ccdee_1 : decode cJxe99ae_doubleToLongBits_ccdee 1 = .ok (.invokestatic 122, 3) := by decide +kernel
theorem dJxe99ae_doubleToLongBits_ccdee_4 : decode cJxe99ae_doubleToLongBits_ccdee 4 = .ok (.ifCond .ne 8, 3) := by decide +kernel
theorem dJxe99ae_doubleToLongBits_ccdee_7 : decode cJxe99ae_doubleToLongBits_ccdee 7 = .ok (.dload_n 0, 1) := by decide +kernel
theorem dJxe99ae_doubleToLongBits_ccdee_8 : decode cJxe99ae_doubleToLongBits_ccdee 8 = .ok (.invokestatic 134, 3) := by decide +kernel
theorem dJxe99ae_doubleToLongBits_ccdee_11 : decode cJxe99ae_doubleToLongBits_ccdee 11 = .ok (.lreturn, 1) := by decide +kernel
theorem dJxe99ae_doubleToLongBits_ccdee_12 : decode cJxe99ae_doubleToLongBits_ccdee 12 = .ok (.ldc2_w 137, 3) := by decide +kernel
theorem dJxe99ae_doubleToLongBits_ccdee_15 : decode cJxe99ae_doubleToLongBits_ccdee 15 = .ok (.lreturn, 1) := by decide +kernel
theorem dJ9_abs_0f7a4_0 : decode cJ9_abs_0f7a4 0 = .ok (.iload_n 0, 1) := by decide +kernel
theorem dJ9_abs_0f7a4_1 : decode cJ9_abs_0f7a4 1 = .ok (.ifCond .ge 8, 3) := by decide +kernel
theorem dJ9_abs_0f7a4_4 : decode cJ9_abs_0f7a4 4 = .ok (.iload_n 0, 1) := by decide +kernel
theorem dJ9_abs_0f7a4_5 : decode cJ9_abs_0f7a4 5 = .ok (.ineg, 1) := by decide +kernel
theorem dJ9_abs_0f7a4_6 : decode cJ9_abs_0f7a4 6 = .ok (.goto 4, 3) := by decide +kernel
theorem dJ9_abs_0f7a4_9 : decode cJ9_abs_0f7a4 9 = .ok (.iload_n 0, 1) := by decide +kernel
theorem dJ9_abs_0f7a4_10 : decode cJ9_abs_0f7a4 10 = .ok (.ireturn, 1) := by decide +kernel
theorem dJ9_max_7cf53_0 : decode cJ9_max_7cf53 0 = .ok (.iload_n 0, 1) := by decide +kernel
theorem dJ9_max_7cf53_1 : decode cJ9_max_7cf53 1 = .ok (.iload_n 1, 1) := by decide +kernel
theorem dJ9_max_7cf53_2 : decode cJ9_max_7cf53 2 = .ok (.if_icmp .lt 7, 3) := by decide +kernel
theorem dJ9_max_7cf53_5 : decode cJ9_max_7cf53 5 = .ok (.iload_n 0, 1) := by decide +kernel
theorem dJ9_max_7cf53_6 : decode cJ9_max_7cf53 6 = .ok (.goto 4, 3) := by decide +kernel
theorem dJ9_max_7cf53_9 : decode cJ9_max_7cf53 9 = .ok (.iload_n 1, 1) := by decide +kernel
theorem dJ9_max_7cf53_10 : decode cJ9_max_7cf53 10 = .ok (.ireturn, 1) := by decide +kernel
theorem dJ9_min_f86c9_0 : decode cJ9_min_f86c9 0 = .ok (.lload_n 0, 1) := by decide +kernel
theorem dJ9_min_f86c9_1 : decode cJ9_min_f86c9 1 = .ok (.lload_n 2, 1) := by decide +kernel
theorem dJ9_min_f86c9_2 : decode cJ9_min_f86c9 2 = .ok (.lcmp, 1) := by decide +kernel
theorem dJ9_min_f86c9_3 : decode cJ9_min_f86c9 3 = .ok (.ifCond .gt 7, 3) := by decide +kernel
theorem dJ9_min_f86c9_6 : decode cJ9_min_f86c9 6 = .ok (.lload_n 0, 1) := by decide +kernel
theorem dJ9_min_f86c9_7 : decode cJ9_min_f86c9 7 = .ok (.goto 4, 3) := by decide +kernel
theorem dJ9_min_f86c9_10 : decode cJ9_min_f86c9 10 = .ok (.lload_n 2, 1) := by decide +kernel
theorem dJ9_min_f86c9_11 : decode cJ9_min_f86c9 11 = .ok (.lreturn, 1) := by decide +kernel
theorem dL_addPrice_0 : decode cL_addPrice 0 = .ok (.aload_n 2, 1) := by decide +kernel
theorem dL_addPrice_1 : decode cL_addPrice 1 = .ok (.iconst 0, 1) := by decide +kernel
theorem dL_addPrice_2 : decode cL_addPrice 2 = .ok (.aload_n 0, 1) := by decide +kernel
theorem dL_addPrice_3 : decode cL_addPrice 3 = .ok (.iload_n 1, 1) := by decide +kernel
theorem dL_addPrice_4 : decode cL_addPrice 4 = .ok (.invokevirtual 7, 3) := by decide +kernel
theorem dL_addPrice_7 : decode cL_addPrice 7 = .ok (.i2l, 1) := by decide +kernel
theorem dL_addPrice_8 : decode cL_addPrice 8 = .ok (.lastore, 1) := by decide +kernel
theorem dL_addPrice_9 : decode cL_addPrice 9 = .ok (.goto 9, 3) := by decide +kernel
theorem dL_addPrice_12 : decode cL_addPrice 12 = .ok (.astore_n 3, 1) := by decide +kernel
theorem dL_addPrice_13 : decode cL_addPrice 13 = .ok (.iconst 1, 1) := by decide +kernel
theorem dL_addPrice_14 : decode cL_addPrice 14 = .ok (.ireturn, 1) := by decide +kernel
theorem dL_addPrice_15 : decode cL_addPrice 15 = .ok (.astore_n 3, 1) := by decide +kernel
theorem dL_addPrice_16 : decode cL_addPrice 16 = .ok (.iconst 2, 1) := by decide +kernel
theorem dL_addPrice_17 : decode cL_addPrice 17 = .ok (.ireturn, 1) := by decide +kernel
theorem dL_addPrice_18 : decode cL_addPrice 18 = .ok (.iconst 0, 1) := by decide +kernel
theorem dL_addPrice_19 : decode cL_addPrice 19 = .ok (.ireturn, 1) := by decide +kernel
theorem dL_setPrice_0 : decode cL_setPrice 0 = .ok (.aload_n 3, 1) := by decide +kernel
theorem dL_setPrice_1 : decode cL_setPrice 1 = .ok (.iconst 0, 1) := by decide +kernel
theorem dL_setPrice_2 : decode cL_setPrice 2 = .ok (.aload_n 0, 1) := by decide +kernel
theorem dL_setPrice_3 : decode cL_setPrice 3 = .ok (.iload_n 1, 1) := by decide +kernel
theorem dL_setPrice_4 : decode cL_setPrice 4 = .ok (.iload_n 2, 1) := by decide +kernel
theorem dL_setPrice_5 : decode cL_setPrice 5 = .ok (.invokevirtual 17, 3) := by decide +kernel
theorem dL_setPrice_8 : decode cL_setPrice 8 = .ok (.i2l, 1) := by decide +kernel
theorem dL_setPrice_9 : decode cL_setPrice 9 = .ok (.lastore, 1) := by decide +kernel
theorem dL_setPrice_10 : decode cL_setPrice 10 = .ok (.goto 11, 3) := by decide +kernel
theorem dL_setPrice_13 : decode cL_setPrice 13 = .ok (.astore 4, 2) := by decide +kernel
theorem dL_setPrice_15 : decode cL_setPrice 15 = .ok (.iconst 1, 1) := by decide +kernel
theorem dL_setPrice_16 : decode cL_setPrice 16 = .ok (.ireturn, 1) := by decide +kernel
theorem dL_setPrice_17 : decode cL_setPrice 17 = .ok (.astore 4, 2) := by decide +kernel
theorem dL_setPrice_19 : decode cL_setPrice 19 = .ok (.iconst 2, 1) := by decide +kernel
theorem dL_setPrice_20 : decode cL_setPrice 20 = .ok (.ireturn, 1) := by decide +kernel
theorem dL_setPrice_21 : decode cL_setPrice 21 = .ok (.iconst 0, 1) := by decide +kernel
theorem dL_setPrice_22 : decode cL_setPrice 22 = .ok (.ireturn, 1) := by decide +kernel
theorem dL_dropOldest_0 : decode cL_dropOldest 0 = .ok (.aload_n 2, 1) := by decide +kernel
theorem dL_dropOldest_1 : decode cL_dropOldest 1 = .ok (.iconst 0, 1) := by decide +kernel
theorem dL_dropOldest_2 : decode cL_dropOldest 2 = .ok (.aload_n 0, 1) := by decide +kernel
theorem dL_dropOldest_3 : decode cL_dropOldest 3 = .ok (.iload_n 1, 1) := by decide +kernel
theorem dL_dropOldest_4 : decode cL_dropOldest 4 = .ok (.invokevirtual 23, 3) := by decide +kernel
theorem dL_dropOldest_7 : decode cL_dropOldest 7 = .ok (.i2l, 1) := by decide +kernel
theorem dL_dropOldest_8 : decode cL_dropOldest 8 = .ok (.lastore, 1) := by decide +kernel
theorem dL_dropOldest_9 : decode cL_dropOldest 9 = .ok (.goto 9, 3) := by decide +kernel
theorem dL_dropOldest_12 : decode cL_dropOldest 12 = .ok (.astore_n 3, 1) := by decide +kernel
theorem dL_dropOldest_13 : decode cL_dropOldest 13 = .ok (.iconst 1, 1) := by decide +kernel
theorem dL_dropOldest_14 : decode cL_dropOldest 14 = .ok (.ireturn, 1) := by decide +kernel
theorem dL_dropOldest_15 : decode cL_dropOldest 15 = .ok (.astore_n 3, 1) := by decide +kernel
theorem dL_dropOldest_16 : decode cL_dropOldest 16 = .ok (.iconst 2, 1) := by decide +kernel
theorem dL_dropOldest_17 : decode cL_dropOldest 17 = .ok (.ireturn, 1) := by decide +kernel
theorem dL_dropOldest_18 : decode cL_dropOldest 18 = .ok (.iconst 0, 1) := by decide +kernel
theorem dL_dropOldest_19 : decode cL_dropOldest 19 = .ok (.ireturn, 1) := by decide +kernel
theorem dL_press_0 : decode cL_press 0 = .ok (.aload_n 2, 1) := by decide +kernel
theorem dL_press_1 : decode cL_press 1 = .ok (.iconst 0, 1) := by decide +kernel
theorem dL_press_2 : decode cL_press 2 = .ok (.aload_n 0, 1) := by decide +kernel
theorem dL_press_3 : decode cL_press 3 = .ok (.iload_n 1, 1) := by decide +kernel
theorem dL_press_4 : decode cL_press 4 = .ok (.invokevirtual 26, 3) := by decide +kernel
theorem dL_press_7 : decode cL_press 7 = .ok (.i2l, 1) := by decide +kernel
theorem dL_press_8 : decode cL_press 8 = .ok (.lastore, 1) := by decide +kernel
theorem dL_press_9 : decode cL_press 9 = .ok (.goto 9, 3) := by decide +kernel
theorem dL_press_12 : decode cL_press 12 = .ok (.astore_n 3, 1) := by decide +kernel
theorem dL_press_13 : decode cL_press 13 = .ok (.iconst 1, 1) := by decide +kernel
theorem dL_press_14 : decode cL_press 14 = .ok (.ireturn, 1) := by decide +kernel
theorem dL_press_15 : decode cL_press 15 = .ok (.astore_n 3, 1) := by decide +kernel
theorem dL_press_16 : decode cL_press 16 = .ok (.iconst 2, 1) := by decide +kernel
theorem dL_press_17 : decode cL_press 17 = .ok (.ireturn, 1) := by decide +kernel
theorem dL_press_18 : decode cL_press 18 = .ok (.iconst 0, 1) := by decide +kernel
theorem dL_press_19 : decode cL_press 19 = .ok (.ireturn, 1) := by decide +kernel
theorem dL_setWindows_0 : decode cL_setWindows 0 = .ok (.aload_n 3, 1) := by decide +kernel
theorem dL_setWindows_1 : decode cL_setWindows 1 = .ok (.iconst 0, 1) := by decide +kernel
theorem dL_setWindows_2 : decode cL_setWindows 2 = .ok (.aload_n 0, 1) := by decide +kernel
theorem dL_setWindows_3 : decode cL_setWindows 3 = .ok (.iload_n 1, 1) := by decide +kernel
theorem dL_setWindows_4 : decode cL_setWindows 4 = .ok (.iload_n 2, 1) := by decide +kernel
theorem dL_setWindows_5 : decode cL_setWindows 5 = .ok (.invokevirtual 29, 3) := by decide +kernel
theorem dL_setWindows_8 : decode cL_setWindows 8 = .ok (.i2l, 1) := by decide +kernel
theorem dL_setWindows_9 : decode cL_setWindows 9 = .ok (.lastore, 1) := by decide +kernel
theorem dL_setWindows_10 : decode cL_setWindows 10 = .ok (.goto 7, 3) := by decide +kernel
theorem dL_setWindows_13 : decode cL_setWindows 13 = .ok (.astore 4, 2) := by decide +kernel
theorem dL_setWindows_15 : decode cL_setWindows 15 = .ok (.iconst 1, 1) := by decide +kernel
theorem dL_setWindows_16 : decode cL_setWindows 16 = .ok (.ireturn, 1) := by decide +kernel
theorem dL_setWindows_17 : decode cL_setWindows 17 = .ok (.iconst 0, 1) := by decide +kernel
theorem dL_setWindows_18 : decode cL_setWindows 18 = .ok (.ireturn, 1) := by decide +kernel
theorem dL_setMemory_0 : decode cL_setMemory 0 = .ok (.aload_n 2, 1) := by decide +kernel
theorem dL_setMemory_1 : decode cL_setMemory 1 = .ok (.iconst 0, 1) := by decide +kernel
theorem dL_setMemory_2 : decode cL_setMemory 2 = .ok (.aload_n 0, 1) := by decide +kernel
theorem dL_setMemory_3 : decode cL_setMemory 3 = .ok (.iload_n 1, 1) := by decide +kernel
theorem dL_setMemory_4 : decode cL_setMemory 4 = .ok (.invokevirtual 32, 3) := by decide +kernel
theorem dL_setMemory_7 : decode cL_setMemory 7 = .ok (.i2l, 1) := by decide +kernel
theorem dL_setMemory_8 : decode cL_setMemory 8 = .ok (.lastore, 1) := by decide +kernel
theorem dL_setMemory_9 : decode cL_setMemory 9 = .ok (.goto 6, 3) := by decide +kernel
theorem dL_setMemory_12 : decode cL_setMemory 12 = .ok (.astore_n 3, 1) := by decide +kernel
theorem dL_setMemory_13 : decode cL_setMemory 13 = .ok (.iconst 1, 1) := by decide +kernel
theorem dL_setMemory_14 : decode cL_setMemory 14 = .ok (.ireturn, 1) := by decide +kernel
theorem dL_setMemory_15 : decode cL_setMemory 15 = .ok (.iconst 0, 1) := by decide +kernel
theorem dL_setMemory_16 : decode cL_setMemory 16 = .ok (.ireturn, 1) := by decide +kernel
theorem dL_setLimit_0 : decode cL_setLimit 0 = .ok (.aload_n 2, 1) := by decide +kernel
theorem dL_setLimit_1 : decode cL_setLimit 1 = .ok (.iconst 0, 1) := by decide +kernel
theorem dL_setLimit_2 : decode cL_setLimit 2 = .ok (.aload_n 0, 1) := by decide +kernel
theorem dL_setLimit_3 : decode cL_setLimit 3 = .ok (.iload_n 1, 1) := by decide +kernel
theorem dL_setLimit_4 : decode cL_setLimit 4 = .ok (.invokevirtual 35, 3) := by decide +kernel
theorem dL_setLimit_7 : decode cL_setLimit 7 = .ok (.i2l, 1) := by decide +kernel
theorem dL_setLimit_8 : decode cL_setLimit 8 = .ok (.lastore, 1) := by decide +kernel
theorem dL_setLimit_9 : decode cL_setLimit 9 = .ok (.goto 6, 3) := by decide +kernel
theorem dL_setLimit_12 : decode cL_setLimit 12 = .ok (.astore_n 3, 1) := by decide +kernel
theorem dL_setLimit_13 : decode cL_setLimit 13 = .ok (.iconst 1, 1) := by decide +kernel
theorem dL_setLimit_14 : decode cL_setLimit 14 = .ok (.ireturn, 1) := by decide +kernel
theorem dL_setLimit_15 : decode cL_setLimit 15 = .ok (.iconst 0, 1) := by decide +kernel
theorem dL_setLimit_16 : decode cL_setLimit 16 = .ok (.ireturn, 1) := by decide +kernel
theorem dL_setSeason_0 : decode cL_setSeason 0 = .ok (.aload_n 2, 1) := by decide +kernel
theorem dL_setSeason_1 : decode cL_setSeason 1 = .ok (.iconst 0, 1) := by decide +kernel
theorem dL_setSeason_2 : decode cL_setSeason 2 = .ok (.aload_n 0, 1) := by decide +kernel
theorem dL_setSeason_3 : decode cL_setSeason 3 = .ok (.iload_n 1, 1) := by decide +kernel
theorem dL_setSeason_4 : decode cL_setSeason 4 = .ok (.invokevirtual 38, 3) := by decide +kernel
theorem dL_setSeason_7 : decode cL_setSeason 7 = .ok (.i2l, 1) := by decide +kernel
theorem dL_setSeason_8 : decode cL_setSeason 8 = .ok (.lastore, 1) := by decide +kernel
theorem dL_setSeason_9 : decode cL_setSeason 9 = .ok (.goto 6, 3) := by decide +kernel
theorem dL_setSeason_12 : decode cL_setSeason 12 = .ok (.astore_n 3, 1) := by decide +kernel
theorem dL_setSeason_13 : decode cL_setSeason 13 = .ok (.iconst 1, 1) := by decide +kernel
theorem dL_setSeason_14 : decode cL_setSeason 14 = .ok (.ireturn, 1) := by decide +kernel
theorem dL_setSeason_15 : decode cL_setSeason 15 = .ok (.iconst 0, 1) := by decide +kernel
theorem dL_setSeason_16 : decode cL_setSeason 16 = .ok (.ireturn, 1) := by decide +kernel
theorem dL_append_0 : decode cL_append 0 = .ok (.aload_n 2, 1) := by decide +kernel
theorem dL_append_1 : decode cL_append 1 = .ok (.iconst 0, 1) := by decide +kernel
theorem dL_append_2 : decode cL_append 2 = .ok (.aload_n 0, 1) := by decide +kernel
theorem dL_append_3 : decode cL_append 3 = .ok (.iload_n 1, 1) := by decide +kernel
theorem dL_append_4 : decode cL_append 4 = .ok (.invokevirtual 41, 3) := by decide +kernel
theorem dL_append_7 : decode cL_append 7 = .ok (.i2l, 1) := by decide +kernel
theorem dL_append_8 : decode cL_append 8 = .ok (.lastore, 1) := by decide +kernel
theorem dL_append_9 : decode cL_append 9 = .ok (.goto 9, 3) := by decide +kernel
theorem dL_append_12 : decode cL_append 12 = .ok (.astore_n 3, 1) := by decide +kernel
theorem dL_append_13 : decode cL_append 13 = .ok (.iconst 1, 1) := by decide +kernel
theorem dL_append_14 : decode cL_append 14 = .ok (.ireturn, 1) := by decide +kernel
theorem dL_append_15 : decode cL_append 15 = .ok (.astore_n 3, 1) := by decide +kernel
theorem dL_append_16 : decode cL_append 16 = .ok (.iconst 2, 1) := by decide +kernel
theorem dL_append_17 : decode cL_append 17 = .ok (.ireturn, 1) := by decide +kernel
theorem dL_append_18 : decode cL_append 18 = .ok (.iconst 0, 1) := by decide +kernel
theorem dL_append_19 : decode cL_append 19 = .ok (.ireturn, 1) := by decide +kernel
theorem dL_work_0 : decode cL_work 0 = .ok (.aload_n 1, 1) := by decide +kernel
theorem dL_work_1 : decode cL_work 1 = .ok (.iconst 0, 1) := by decide +kernel
theorem dL_work_2 : decode cL_work 2 = .ok (.aload_n 0, 1) := by decide +kernel
theorem dL_work_3 : decode cL_work 3 = .ok (.invokevirtual 44, 3) := by decide +kernel
theorem dL_work_6 : decode cL_work 6 = .ok (.i2l, 1) := by decide +kernel
theorem dL_work_7 : decode cL_work 7 = .ok (.lastore, 1) := by decide +kernel
theorem dL_work_8 : decode cL_work 8 = .ok (.goto 6, 3) := by decide +kernel
theorem dL_work_11 : decode cL_work 11 = .ok (.astore_n 2, 1) := by decide +kernel
theorem dL_work_12 : decode cL_work 12 = .ok (.iconst 1, 1) := by decide +kernel
theorem dL_work_13 : decode cL_work 13 = .ok (.ireturn, 1) := by decide +kernel
theorem dL_work_14 : decode cL_work 14 = .ok (.iconst 0, 1) := by decide +kernel
theorem dL_work_15 : decode cL_work 15 = .ok (.ireturn, 1) := by decide +kernel
theorem dL_stoppedPart_0 : decode cL_stoppedPart 0 = .ok (.aload_n 1, 1) := by decide +kernel
theorem dL_stoppedPart_1 : decode cL_stoppedPart 1 = .ok (.iconst 0, 1) := by decide +kernel
theorem dL_stoppedPart_2 : decode cL_stoppedPart 2 = .ok (.aload_n 0, 1) := by decide +kernel
theorem dL_stoppedPart_3 : decode cL_stoppedPart 3 = .ok (.invokevirtual 48, 3) := by decide +kernel
theorem dL_stoppedPart_6 : decode cL_stoppedPart 6 = .ok (.i2l, 1) := by decide +kernel
theorem dL_stoppedPart_7 : decode cL_stoppedPart 7 = .ok (.lastore, 1) := by decide +kernel
theorem dL_stoppedPart_8 : decode cL_stoppedPart 8 = .ok (.goto 6, 3) := by decide +kernel
theorem dL_stoppedPart_11 : decode cL_stoppedPart 11 = .ok (.astore_n 2, 1) := by decide +kernel
theorem dL_stoppedPart_12 : decode cL_stoppedPart 12 = .ok (.iconst 1, 1) := by decide +kernel
theorem dL_stoppedPart_13 : decode cL_stoppedPart 13 = .ok (.ireturn, 1) := by decide +kernel
theorem dL_stoppedPart_14 : decode cL_stoppedPart 14 = .ok (.iconst 0, 1) := by decide +kernel
theorem dL_stoppedPart_15 : decode cL_stoppedPart 15 = .ok (.ireturn, 1) := by decide +kernel
theorem dL_whyStopped_0 : decode cL_whyStopped 0 = .ok (.aload_n 1, 1) := by decide +kernel
theorem dL_whyStopped_1 : decode cL_whyStopped 1 = .ok (.iconst 0, 1) := by decide +kernel
theorem dL_whyStopped_2 : decode cL_whyStopped 2 = .ok (.aload_n 0, 1) := by decide +kernel
theorem dL_whyStopped_3 : decode cL_whyStopped 3 = .ok (.invokevirtual 51, 3) := by decide +kernel
theorem dL_whyStopped_6 : decode cL_whyStopped 6 = .ok (.i2l, 1) := by decide +kernel
theorem dL_whyStopped_7 : decode cL_whyStopped 7 = .ok (.lastore, 1) := by decide +kernel
theorem dL_whyStopped_8 : decode cL_whyStopped 8 = .ok (.goto 6, 3) := by decide +kernel
theorem dL_whyStopped_11 : decode cL_whyStopped 11 = .ok (.astore_n 2, 1) := by decide +kernel
theorem dL_whyStopped_12 : decode cL_whyStopped 12 = .ok (.iconst 1, 1) := by decide +kernel
theorem dL_whyStopped_13 : decode cL_whyStopped 13 = .ok (.ireturn, 1) := by decide +kernel
theorem dL_whyStopped_14 : decode cL_whyStopped 14 = .ok (.iconst 0, 1) := by decide +kernel
theorem dL_whyStopped_15 : decode cL_whyStopped 15 = .ok (.ireturn, 1) := by decide +kernel
theorem dL_undo_0 : decode cL_undo 0 = .ok (.aload_n 1, 1) := by decide +kernel
theorem dL_undo_1 : decode cL_undo 1 = .ok (.iconst 0, 1) := by decide +kernel
theorem dL_undo_2 : decode cL_undo 2 = .ok (.aload_n 0, 1) := by decide +kernel
theorem dL_undo_3 : decode cL_undo 3 = .ok (.invokevirtual 54, 3) := by decide +kernel
theorem dL_undo_6 : decode cL_undo 6 = .ok (.i2l, 1) := by decide +kernel
theorem dL_undo_7 : decode cL_undo 7 = .ok (.lastore, 1) := by decide +kernel
theorem dL_undo_8 : decode cL_undo 8 = .ok (.goto 6, 3) := by decide +kernel
theorem dL_undo_11 : decode cL_undo 11 = .ok (.astore_n 2, 1) := by decide +kernel
theorem dL_undo_12 : decode cL_undo 12 = .ok (.iconst 1, 1) := by decide +kernel
theorem dL_undo_13 : decode cL_undo 13 = .ok (.ireturn, 1) := by decide +kernel
theorem dL_undo_14 : decode cL_undo 14 = .ok (.iconst 0, 1) := by decide +kernel
theorem dL_undo_15 : decode cL_undo 15 = .ok (.ireturn, 1) := by decide +kernel
theorem dL_restore_0 : decode cL_restore 0 = .ok (.aload_n 1, 1) := by decide +kernel
theorem dL_restore_1 : decode cL_restore 1 = .ok (.iconst 0, 1) := by decide +kernel
theorem dL_restore_2 : decode cL_restore 2 = .ok (.aload_n 0, 1) := by decide +kernel
theorem dL_restore_3 : decode cL_restore 3 = .ok (.invokevirtual 57, 3) := by decide +kernel
theorem dL_restore_6 : decode cL_restore 6 = .ok (.i2l, 1) := by decide +kernel
theorem dL_restore_7 : decode cL_restore 7 = .ok (.lastore, 1) := by decide +kernel
theorem dL_restore_8 : decode cL_restore 8 = .ok (.goto 6, 3) := by decide +kernel
theorem dL_restore_11 : decode cL_restore 11 = .ok (.astore_n 2, 1) := by decide +kernel
theorem dL_restore_12 : decode cL_restore 12 = .ok (.iconst 1, 1) := by decide +kernel
theorem dL_restore_13 : decode cL_restore 13 = .ok (.ireturn, 1) := by decide +kernel
theorem dL_restore_14 : decode cL_restore 14 = .ok (.iconst 0, 1) := by decide +kernel
theorem dL_restore_15 : decode cL_restore 15 = .ok (.ireturn, 1) := by decide +kernel
theorem dL_priceOf_0 : decode cL_priceOf 0 = .ok (.aload_n 2, 1) := by decide +kernel
theorem dL_priceOf_1 : decode cL_priceOf 1 = .ok (.iconst 0, 1) := by decide +kernel
theorem dL_priceOf_2 : decode cL_priceOf 2 = .ok (.aload_n 0, 1) := by decide +kernel
theorem dL_priceOf_3 : decode cL_priceOf 3 = .ok (.iload_n 1, 1) := by decide +kernel
theorem dL_priceOf_4 : decode cL_priceOf 4 = .ok (.invokevirtual 60, 3) := by decide +kernel
theorem dL_priceOf_7 : decode cL_priceOf 7 = .ok (.i2l, 1) := by decide +kernel
theorem dL_priceOf_8 : decode cL_priceOf 8 = .ok (.lastore, 1) := by decide +kernel
theorem dL_priceOf_9 : decode cL_priceOf 9 = .ok (.goto 6, 3) := by decide +kernel
theorem dL_priceOf_12 : decode cL_priceOf 12 = .ok (.astore_n 3, 1) := by decide +kernel
theorem dL_priceOf_13 : decode cL_priceOf 13 = .ok (.iconst 1, 1) := by decide +kernel
theorem dL_priceOf_14 : decode cL_priceOf 14 = .ok (.ireturn, 1) := by decide +kernel
theorem dL_priceOf_15 : decode cL_priceOf 15 = .ok (.iconst 0, 1) := by decide +kernel
theorem dL_priceOf_16 : decode cL_priceOf 16 = .ok (.ireturn, 1) := by decide +kernel
theorem dL_mean_0 : decode cL_mean 0 = .ok (.aload_n 3, 1) := by decide +kernel
theorem dL_mean_1 : decode cL_mean 1 = .ok (.iconst 0, 1) := by decide +kernel
theorem dL_mean_2 : decode cL_mean 2 = .ok (.aload_n 0, 1) := by decide +kernel
theorem dL_mean_3 : decode cL_mean 3 = .ok (.iload_n 1, 1) := by decide +kernel
theorem dL_mean_4 : decode cL_mean 4 = .ok (.iload_n 2, 1) := by decide +kernel
theorem dL_mean_5 : decode cL_mean 5 = .ok (.invokevirtual 63, 3) := by decide +kernel
theorem dL_mean_8 : decode cL_mean 8 = .ok (.i2l, 1) := by decide +kernel
theorem dL_mean_9 : decode cL_mean 9 = .ok (.lastore, 1) := by decide +kernel
theorem dL_mean_10 : decode cL_mean 10 = .ok (.goto 11, 3) := by decide +kernel
theorem dL_mean_13 : decode cL_mean 13 = .ok (.astore 4, 2) := by decide +kernel
theorem dL_mean_15 : decode cL_mean 15 = .ok (.iconst 1, 1) := by decide +kernel
theorem dL_mean_16 : decode cL_mean 16 = .ok (.ireturn, 1) := by decide +kernel
theorem dL_mean_17 : decode cL_mean 17 = .ok (.astore 4, 2) := by decide +kernel
theorem dL_mean_19 : decode cL_mean 19 = .ok (.iconst 2, 1) := by decide +kernel
theorem dL_mean_20 : decode cL_mean 20 = .ok (.ireturn, 1) := by decide +kernel
theorem dL_mean_21 : decode cL_mean 21 = .ok (.iconst 0, 1) := by decide +kernel
theorem dL_mean_22 : decode cL_mean 22 = .ok (.ireturn, 1) := by decide +kernel
theorem dL_meanBySums_0 : decode cL_meanBySums 0 = .ok (.aload_n 3, 1) := by decide +kernel
theorem dL_meanBySums_1 : decode cL_meanBySums 1 = .ok (.iconst 0, 1) := by decide +kernel
theorem dL_meanBySums_2 : decode cL_meanBySums 2 = .ok (.aload_n 0, 1) := by decide +kernel
theorem dL_meanBySums_3 : decode cL_meanBySums 3 = .ok (.iload_n 1, 1) := by decide +kernel
theorem dL_meanBySums_4 : decode cL_meanBySums 4 = .ok (.iload_n 2, 1) := by decide +kernel
theorem dL_meanBySums_5 : decode cL_meanBySums 5 = .ok (.invokevirtual 66, 3) := by decide +kernel
theorem dL_meanBySums_8 : decode cL_meanBySums 8 = .ok (.i2l, 1) := by decide +kernel
theorem dL_meanBySums_9 : decode cL_meanBySums 9 = .ok (.lastore, 1) := by decide +kernel
theorem dL_meanBySums_10 : decode cL_meanBySums 10 = .ok (.goto 11, 3) := by decide +kernel
theorem dL_meanBySums_13 : decode cL_meanBySums 13 = .ok (.astore 4, 2) := by decide +kernel
theorem dL_meanBySums_15 : decode cL_meanBySums 15 = .ok (.iconst 1, 1) := by decide +kernel
theorem dL_meanBySums_16 : decode cL_meanBySums 16 = .ok (.ireturn, 1) := by decide +kernel
theorem dL_meanBySums_17 : decode cL_meanBySums 17 = .ok (.astore 4, 2) := by decide +kernel
theorem dL_meanBySums_19 : decode cL_meanBySums 19 = .ok (.iconst 2, 1) := by decide +kernel
theorem dL_meanBySums_20 : decode cL_meanBySums 20 = .ok (.ireturn, 1) := by decide +kernel
theorem dL_meanBySums_21 : decode cL_meanBySums 21 = .ok (.iconst 0, 1) := by decide +kernel
theorem dL_meanBySums_22 : decode cL_meanBySums 22 = .ok (.ireturn, 1) := by decide +kernel
theorem dL_weightedMean_0 : decode cL_weightedMean 0 = .ok (.aload_n 2, 1) := by decide +kernel
theorem dL_weightedMean_1 : decode cL_weightedMean 1 = .ok (.iconst 0, 1) := by decide +kernel
theorem dL_weightedMean_2 : decode cL_weightedMean 2 = .ok (.aload_n 0, 1) := by decide +kernel
theorem dL_weightedMean_3 : decode cL_weightedMean 3 = .ok (.iload_n 1, 1) := by decide +kernel
theorem dL_weightedMean_4 : decode cL_weightedMean 4 = .ok (.invokevirtual 69, 3) := by decide +kernel
theorem dL_weightedMean_7 : decode cL_weightedMean 7 = .ok (.i2l, 1) := by decide +kernel
theorem dL_weightedMean_8 : decode cL_weightedMean 8 = .ok (.lastore, 1) := by decide +kernel
theorem dL_weightedMean_9 : decode cL_weightedMean 9 = .ok (.goto 6, 3) := by decide +kernel
theorem dL_weightedMean_12 : decode cL_weightedMean 12 = .ok (.astore_n 3, 1) := by decide +kernel
theorem dL_weightedMean_13 : decode cL_weightedMean 13 = .ok (.iconst 1, 1) := by decide +kernel
theorem dL_weightedMean_14 : decode cL_weightedMean 14 = .ok (.ireturn, 1) := by decide +kernel
theorem dL_weightedMean_15 : decode cL_weightedMean 15 = .ok (.iconst 0, 1) := by decide +kernel
theorem dL_weightedMean_16 : decode cL_weightedMean 16 = .ok (.ireturn, 1) := by decide +kernel
theorem dL_smoothed_0 : decode cL_smoothed 0 = .ok (.aload_n 2, 1) := by decide +kernel
theorem dL_smoothed_1 : decode cL_smoothed 1 = .ok (.iconst 0, 1) := by decide +kernel
theorem dL_smoothed_2 : decode cL_smoothed 2 = .ok (.aload_n 0, 1) := by decide +kernel
theorem dL_smoothed_3 : decode cL_smoothed 3 = .ok (.iload_n 1, 1) := by decide +kernel
theorem dL_smoothed_4 : decode cL_smoothed 4 = .ok (.invokevirtual 72, 3) := by decide +kernel
theorem dL_smoothed_7 : decode cL_smoothed 7 = .ok (.i2l, 1) := by decide +kernel
theorem dL_smoothed_8 : decode cL_smoothed 8 = .ok (.lastore, 1) := by decide +kernel
theorem dL_smoothed_9 : decode cL_smoothed 9 = .ok (.goto 6, 3) := by decide +kernel
theorem dL_smoothed_12 : decode cL_smoothed 12 = .ok (.astore_n 3, 1) := by decide +kernel
theorem dL_smoothed_13 : decode cL_smoothed 13 = .ok (.iconst 1, 1) := by decide +kernel
theorem dL_smoothed_14 : decode cL_smoothed 14 = .ok (.ireturn, 1) := by decide +kernel
theorem dL_smoothed_15 : decode cL_smoothed 15 = .ok (.iconst 0, 1) := by decide +kernel
theorem dL_smoothed_16 : decode cL_smoothed 16 = .ok (.ireturn, 1) := by decide +kernel
theorem dL_smoothedBack_0 : decode cL_smoothedBack 0 = .ok (.aload_n 2, 1) := by decide +kernel
theorem dL_smoothedBack_1 : decode cL_smoothedBack 1 = .ok (.iconst 0, 1) := by decide +kernel
theorem dL_smoothedBack_2 : decode cL_smoothedBack 2 = .ok (.aload_n 0, 1) := by decide +kernel
theorem dL_smoothedBack_3 : decode cL_smoothedBack 3 = .ok (.iload_n 1, 1) := by decide +kernel
theorem dL_smoothedBack_4 : decode cL_smoothedBack 4 = .ok (.invokevirtual 75, 3) := by decide +kernel
theorem dL_smoothedBack_7 : decode cL_smoothedBack 7 = .ok (.i2l, 1) := by decide +kernel
theorem dL_smoothedBack_8 : decode cL_smoothedBack 8 = .ok (.lastore, 1) := by decide +kernel
theorem dL_smoothedBack_9 : decode cL_smoothedBack 9 = .ok (.goto 6, 3) := by decide +kernel
theorem dL_smoothedBack_12 : decode cL_smoothedBack 12 = .ok (.astore_n 3, 1) := by decide +kernel
theorem dL_smoothedBack_13 : decode cL_smoothedBack 13 = .ok (.iconst 1, 1) := by decide +kernel
theorem dL_smoothedBack_14 : decode cL_smoothedBack 14 = .ok (.ireturn, 1) := by decide +kernel
theorem dL_smoothedBack_15 : decode cL_smoothedBack 15 = .ok (.iconst 0, 1) := by decide +kernel
theorem dL_smoothedBack_16 : decode cL_smoothedBack 16 = .ok (.ireturn, 1) := by decide +kernel
theorem dL_median_0 : decode cL_median 0 = .ok (.aload_n 2, 1) := by decide +kernel
theorem dL_median_1 : decode cL_median 1 = .ok (.iconst 0, 1) := by decide +kernel
theorem dL_median_2 : decode cL_median 2 = .ok (.aload_n 0, 1) := by decide +kernel
theorem dL_median_3 : decode cL_median 3 = .ok (.iload_n 1, 1) := by decide +kernel
theorem dL_median_4 : decode cL_median 4 = .ok (.invokevirtual 78, 3) := by decide +kernel
theorem dL_median_7 : decode cL_median 7 = .ok (.i2l, 1) := by decide +kernel
theorem dL_median_8 : decode cL_median 8 = .ok (.lastore, 1) := by decide +kernel
theorem dL_median_9 : decode cL_median 9 = .ok (.goto 6, 3) := by decide +kernel
theorem dL_median_12 : decode cL_median 12 = .ok (.astore_n 3, 1) := by decide +kernel
theorem dL_median_13 : decode cL_median 13 = .ok (.iconst 1, 1) := by decide +kernel
theorem dL_median_14 : decode cL_median 14 = .ok (.ireturn, 1) := by decide +kernel
theorem dL_median_15 : decode cL_median 15 = .ok (.iconst 0, 1) := by decide +kernel
theorem dL_median_16 : decode cL_median 16 = .ok (.ireturn, 1) := by decide +kernel
theorem dL_isCrease_0 : decode cL_isCrease 0 = .ok (.aload_n 2, 1) := by decide +kernel
theorem dL_isCrease_1 : decode cL_isCrease 1 = .ok (.iconst 0, 1) := by decide +kernel
theorem dL_isCrease_2 : decode cL_isCrease 2 = .ok (.aload_n 0, 1) := by decide +kernel
theorem dL_isCrease_3 : decode cL_isCrease 3 = .ok (.iload_n 1, 1) := by decide +kernel
theorem dL_isCrease_4 : decode cL_isCrease 4 = .ok (.invokevirtual 81, 3) := by decide +kernel
theorem dL_isCrease_7 : decode cL_isCrease 7 = .ok (.ifCond .eq 7, 3) := by decide +kernel
theorem dL_isCrease_10 : decode cL_isCrease 10 = .ok (.lconst 1, 1) := by decide +kernel
theorem dL_isCrease_11 : decode cL_isCrease 11 = .ok (.goto 4, 3) := by decide +kernel
theorem dL_isCrease_14 : decode cL_isCrease 14 = .ok (.lconst 0, 1) := by decide +kernel
theorem dL_isCrease_15 : decode cL_isCrease 15 = .ok (.lastore, 1) := by decide +kernel
theorem dL_isCrease_16 : decode cL_isCrease 16 = .ok (.goto 6, 3) := by decide +kernel
theorem dL_isCrease_19 : decode cL_isCrease 19 = .ok (.astore_n 3, 1) := by decide +kernel
theorem dL_isCrease_20 : decode cL_isCrease 20 = .ok (.iconst 1, 1) := by decide +kernel
theorem dL_isCrease_21 : decode cL_isCrease 21 = .ok (.ireturn, 1) := by decide +kernel
theorem dL_isCrease_22 : decode cL_isCrease 22 = .ok (.iconst 0, 1) := by decide +kernel
theorem dL_isCrease_23 : decode cL_isCrease 23 = .ok (.ireturn, 1) := by decide +kernel
theorem dL_high_0 : decode cL_high 0 = .ok (.aload_n 2, 1) := by decide +kernel
theorem dL_high_1 : decode cL_high 1 = .ok (.iconst 0, 1) := by decide +kernel
theorem dL_high_2 : decode cL_high 2 = .ok (.aload_n 0, 1) := by decide +kernel
theorem dL_high_3 : decode cL_high 3 = .ok (.iload_n 1, 1) := by decide +kernel
theorem dL_high_4 : decode cL_high 4 = .ok (.invokevirtual 85, 3) := by decide +kernel
theorem dL_high_7 : decode cL_high 7 = .ok (.i2l, 1) := by decide +kernel
theorem dL_high_8 : decode cL_high 8 = .ok (.lastore, 1) := by decide +kernel
theorem dL_high_9 : decode cL_high 9 = .ok (.goto 6, 3) := by decide +kernel
theorem dL_high_12 : decode cL_high 12 = .ok (.astore_n 3, 1) := by decide +kernel
theorem dL_high_13 : decode cL_high 13 = .ok (.iconst 1, 1) := by decide +kernel
theorem dL_high_14 : decode cL_high 14 = .ok (.ireturn, 1) := by decide +kernel
theorem dL_high_15 : decode cL_high 15 = .ok (.iconst 0, 1) := by decide +kernel
theorem dL_high_16 : decode cL_high 16 = .ok (.ireturn, 1) := by decide +kernel
theorem dL_highByCandidates_0 : decode cL_highByCandidates 0 = .ok (.aload_n 2, 1) := by decide +kernel
theorem dL_highByCandidates_1 : decode cL_highByCandidates 1 = .ok (.iconst 0, 1) := by decide +kernel
theorem dL_highByCandidates_2 : decode cL_highByCandidates 2 = .ok (.aload_n 0, 1) := by decide +kernel
theorem dL_highByCandidates_3 : decode cL_highByCandidates 3 = .ok (.iload_n 1, 1) := by decide +kernel
theorem dL_highByCandidates_4 : decode cL_highByCandidates 4 = .ok (.invokevirtual 88, 3) := by decide +kernel
theorem dL_highByCandidates_7 : decode cL_highByCandidates 7 = .ok (.i2l, 1) := by decide +kernel
theorem dL_highByCandidates_8 : decode cL_highByCandidates 8 = .ok (.lastore, 1) := by decide +kernel
theorem dL_highByCandidates_9 : decode cL_highByCandidates 9 = .ok (.goto 6, 3) := by decide +kernel
theorem dL_highByCandidates_12 : decode cL_highByCandidates 12 = .ok (.astore_n 3, 1) := by decide +kernel
theorem dL_highByCandidates_13 : decode cL_highByCandidates 13 = .ok (.iconst 1, 1) := by decide +kernel
theorem dL_highByCandidates_14 : decode cL_highByCandidates 14 = .ok (.ireturn, 1) := by decide +kernel
theorem dL_highByCandidates_15 : decode cL_highByCandidates 15 = .ok (.iconst 0, 1) := by decide +kernel
theorem dL_highByCandidates_16 : decode cL_highByCandidates 16 = .ok (.ireturn, 1) := by decide +kernel
theorem dL_crossing_0 : decode cL_crossing 0 = .ok (.aload_n 2, 1) := by decide +kernel
theorem dL_crossing_1 : decode cL_crossing 1 = .ok (.iconst 0, 1) := by decide +kernel
theorem dL_crossing_2 : decode cL_crossing 2 = .ok (.aload_n 0, 1) := by decide +kernel
theorem dL_crossing_3 : decode cL_crossing 3 = .ok (.iload_n 1, 1) := by decide +kernel
theorem dL_crossing_4 : decode cL_crossing 4 = .ok (.invokevirtual 91, 3) := by decide +kernel
theorem dL_crossing_7 : decode cL_crossing 7 = .ok (.i2l, 1) := by decide +kernel
theorem dL_crossing_8 : decode cL_crossing 8 = .ok (.lastore, 1) := by decide +kernel
theorem dL_crossing_9 : decode cL_crossing 9 = .ok (.goto 6, 3) := by decide +kernel
theorem dL_crossing_12 : decode cL_crossing 12 = .ok (.astore_n 3, 1) := by decide +kernel
theorem dL_crossing_13 : decode cL_crossing 13 = .ok (.iconst 1, 1) := by decide +kernel
theorem dL_crossing_14 : decode cL_crossing 14 = .ok (.ireturn, 1) := by decide +kernel
theorem dL_crossing_15 : decode cL_crossing 15 = .ok (.iconst 0, 1) := by decide +kernel
theorem dL_crossing_16 : decode cL_crossing 16 = .ok (.ireturn, 1) := by decide +kernel
theorem dL_pieces_0 : decode cL_pieces 0 = .ok (.aload_n 2, 1) := by decide +kernel
theorem dL_pieces_1 : decode cL_pieces 1 = .ok (.iconst 0, 1) := by decide +kernel
theorem dL_pieces_2 : decode cL_pieces 2 = .ok (.aload_n 0, 1) := by decide +kernel
theorem dL_pieces_3 : decode cL_pieces 3 = .ok (.iload_n 1, 1) := by decide +kernel
theorem dL_pieces_4 : decode cL_pieces 4 = .ok (.invokevirtual 94, 3) := by decide +kernel
theorem dL_pieces_7 : decode cL_pieces 7 = .ok (.i2l, 1) := by decide +kernel
theorem dL_pieces_8 : decode cL_pieces 8 = .ok (.lastore, 1) := by decide +kernel
theorem dL_pieces_9 : decode cL_pieces 9 = .ok (.goto 6, 3) := by decide +kernel
theorem dL_pieces_12 : decode cL_pieces 12 = .ok (.astore_n 3, 1) := by decide +kernel
theorem dL_pieces_13 : decode cL_pieces 13 = .ok (.iconst 1, 1) := by decide +kernel
theorem dL_pieces_14 : decode cL_pieces 14 = .ok (.ireturn, 1) := by decide +kernel
theorem dL_pieces_15 : decode cL_pieces 15 = .ok (.iconst 0, 1) := by decide +kernel
theorem dL_pieces_16 : decode cL_pieces 16 = .ok (.ireturn, 1) := by decide +kernel
theorem dL_worth_0 : decode cL_worth 0 = .ok (.aload_n 2, 1) := by decide +kernel
theorem dL_worth_1 : decode cL_worth 1 = .ok (.iconst 0, 1) := by decide +kernel
theorem dL_worth_2 : decode cL_worth 2 = .ok (.aload_n 0, 1) := by decide +kernel
theorem dL_worth_3 : decode cL_worth 3 = .ok (.iload_n 1, 1) := by decide +kernel
theorem dL_worth_4 : decode cL_worth 4 = .ok (.invokevirtual 97, 3) := by decide +kernel
theorem dL_worth_7 : decode cL_worth 7 = .ok (.lastore, 1) := by decide +kernel
theorem dL_worth_8 : decode cL_worth 8 = .ok (.goto 6, 3) := by decide +kernel
theorem dL_worth_11 : decode cL_worth 11 = .ok (.astore_n 3, 1) := by decide +kernel
theorem dL_worth_12 : decode cL_worth 12 = .ok (.iconst 1, 1) := by decide +kernel
theorem dL_worth_13 : decode cL_worth 13 = .ok (.ireturn, 1) := by decide +kernel
theorem dL_worth_14 : decode cL_worth 14 = .ok (.iconst 0, 1) := by decide +kernel
theorem dL_worth_15 : decode cL_worth 15 = .ok (.ireturn, 1) := by decide +kernel
theorem dL_seasonIndex_0 : decode cL_seasonIndex 0 = .ok (.aload_n 2, 1) := by decide +kernel
theorem dL_seasonIndex_1 : decode cL_seasonIndex 1 = .ok (.iconst 0, 1) := by decide +kernel
theorem dL_seasonIndex_2 : decode cL_seasonIndex 2 = .ok (.aload_n 0, 1) := by decide +kernel
theorem dL_seasonIndex_3 : decode cL_seasonIndex 3 = .ok (.iload_n 1, 1) := by decide +kernel
theorem dL_seasonIndex_4 : decode cL_seasonIndex 4 = .ok (.invokevirtual 101, 3) := by decide +kernel
theorem dL_seasonIndex_7 : decode cL_seasonIndex 7 = .ok (.i2l, 1) := by decide +kernel
theorem dL_seasonIndex_8 : decode cL_seasonIndex 8 = .ok (.lastore, 1) := by decide +kernel
theorem dL_seasonIndex_9 : decode cL_seasonIndex 9 = .ok (.goto 9, 3) := by decide +kernel
theorem dL_seasonIndex_12 : decode cL_seasonIndex 12 = .ok (.astore_n 3, 1) := by decide +kernel
theorem dL_seasonIndex_13 : decode cL_seasonIndex 13 = .ok (.iconst 1, 1) := by decide +kernel
theorem dL_seasonIndex_14 : decode cL_seasonIndex 14 = .ok (.ireturn, 1) := by decide +kernel
theorem dL_seasonIndex_15 : decode cL_seasonIndex 15 = .ok (.astore_n 3, 1) := by decide +kernel
theorem dL_seasonIndex_16 : decode cL_seasonIndex 16 = .ok (.iconst 2, 1) := by decide +kernel
theorem dL_seasonIndex_17 : decode cL_seasonIndex 17 = .ok (.ireturn, 1) := by decide +kernel
theorem dL_seasonIndex_18 : decode cL_seasonIndex 18 = .ok (.iconst 0, 1) := by decide +kernel
theorem dL_seasonIndex_19 : decode cL_seasonIndex 19 = .ok (.ireturn, 1) := by decide +kernel
theorem dL_barePrice_0 : decode cL_barePrice 0 = .ok (.aload_n 2, 1) := by decide +kernel
theorem dL_barePrice_1 : decode cL_barePrice 1 = .ok (.iconst 0, 1) := by decide +kernel
theorem dL_barePrice_2 : decode cL_barePrice 2 = .ok (.aload_n 0, 1) := by decide +kernel
theorem dL_barePrice_3 : decode cL_barePrice 3 = .ok (.iload_n 1, 1) := by decide +kernel
theorem dL_barePrice_4 : decode cL_barePrice 4 = .ok (.invokevirtual 104, 3) := by decide +kernel
theorem dL_barePrice_7 : decode cL_barePrice 7 = .ok (.lastore, 1) := by decide +kernel
theorem dL_barePrice_8 : decode cL_barePrice 8 = .ok (.goto 6, 3) := by decide +kernel
theorem dL_barePrice_11 : decode cL_barePrice 11 = .ok (.astore_n 3, 1) := by decide +kernel
theorem dL_barePrice_12 : decode cL_barePrice 12 = .ok (.iconst 1, 1) := by decide +kernel
theorem dL_barePrice_13 : decode cL_barePrice 13 = .ok (.ireturn, 1) := by decide +kernel
theorem dL_barePrice_14 : decode cL_barePrice 14 = .ok (.iconst 0, 1) := by decide +kernel
theorem dL_barePrice_15 : decode cL_barePrice 15 = .ok (.ireturn, 1) := by decide +kernel
theorem dL_forecast_0 : decode cL_forecast 0 = .ok (.aload_n 2, 1) := by decide +kernel
theorem dL_forecast_1 : decode cL_forecast 1 = .ok (.iconst 0, 1) := by decide +kernel
theorem dL_forecast_2 : decode cL_forecast 2 = .ok (.aload_n 0, 1) := by decide +kernel
theorem dL_forecast_3 : decode cL_forecast 3 = .ok (.iload_n 1, 1) := by decide +kernel
theorem dL_forecast_4 : decode cL_forecast 4 = .ok (.invokevirtual 107, 3) := by decide +kernel
theorem dL_forecast_7 : decode cL_forecast 7 = .ok (.i2l, 1) := by decide +kernel
theorem dL_forecast_8 : decode cL_forecast 8 = .ok (.lastore, 1) := by decide +kernel
theorem dL_forecast_9 : decode cL_forecast 9 = .ok (.goto 9, 3) := by decide +kernel
theorem dL_forecast_12 : decode cL_forecast 12 = .ok (.astore_n 3, 1) := by decide +kernel
theorem dL_forecast_13 : decode cL_forecast 13 = .ok (.iconst 1, 1) := by decide +kernel
theorem dL_forecast_14 : decode cL_forecast 14 = .ok (.ireturn, 1) := by decide +kernel
theorem dL_forecast_15 : decode cL_forecast 15 = .ok (.astore_n 3, 1) := by decide +kernel
theorem dL_forecast_16 : decode cL_forecast 16 = .ok (.iconst 2, 1) := by decide +kernel
theorem dL_forecast_17 : decode cL_forecast 17 = .ok (.ireturn, 1) := by decide +kernel
theorem dL_forecast_18 : decode cL_forecast 18 = .ok (.iconst 0, 1) := by decide +kernel
theorem dL_forecast_19 : decode cL_forecast 19 = .ok (.ireturn, 1) := by decide +kernel
theorem dL_error_0 : decode cL_error 0 = .ok (.aload_n 2, 1) := by decide +kernel
theorem dL_error_1 : decode cL_error 1 = .ok (.iconst 0, 1) := by decide +kernel
theorem dL_error_2 : decode cL_error 2 = .ok (.aload_n 0, 1) := by decide +kernel
theorem dL_error_3 : decode cL_error 3 = .ok (.iload_n 1, 1) := by decide +kernel
theorem dL_error_4 : decode cL_error 4 = .ok (.invokevirtual 110, 3) := by decide +kernel
theorem dL_error_7 : decode cL_error 7 = .ok (.i2l, 1) := by decide +kernel
theorem dL_error_8 : decode cL_error 8 = .ok (.lastore, 1) := by decide +kernel
theorem dL_error_9 : decode cL_error 9 = .ok (.goto 9, 3) := by decide +kernel
theorem dL_error_12 : decode cL_error 12 = .ok (.astore_n 3, 1) := by decide +kernel
theorem dL_error_13 : decode cL_error 13 = .ok (.iconst 1, 1) := by decide +kernel
theorem dL_error_14 : decode cL_error 14 = .ok (.ireturn, 1) := by decide +kernel
theorem dL_error_15 : decode cL_error 15 = .ok (.astore_n 3, 1) := by decide +kernel
theorem dL_error_16 : decode cL_error 16 = .ok (.iconst 2, 1) := by decide +kernel
theorem dL_error_17 : decode cL_error 17 = .ok (.ireturn, 1) := by decide +kernel
theorem dL_error_18 : decode cL_error 18 = .ok (.iconst 0, 1) := by decide +kernel
theorem dL_error_19 : decode cL_error 19 = .ok (.ireturn, 1) := by decide +kernel
theorem dL_bestMethod_0 : decode cL_bestMethod 0 = .ok (.aload_n 1, 1) := by decide +kernel
theorem dL_bestMethod_1 : decode cL_bestMethod 1 = .ok (.iconst 0, 1) := by decide +kernel
theorem dL_bestMethod_2 : decode cL_bestMethod 2 = .ok (.aload_n 0, 1) := by decide +kernel
theorem dL_bestMethod_3 : decode cL_bestMethod 3 = .ok (.invokevirtual 113, 3) := by decide +kernel
theorem dL_bestMethod_6 : decode cL_bestMethod 6 = .ok (.i2l, 1) := by decide +kernel
theorem dL_bestMethod_7 : decode cL_bestMethod 7 = .ok (.lastore, 1) := by decide +kernel
theorem dL_bestMethod_8 : decode cL_bestMethod 8 = .ok (.goto 6, 3) := by decide +kernel
theorem dL_bestMethod_11 : decode cL_bestMethod 11 = .ok (.astore_n 2, 1) := by decide +kernel
theorem dL_bestMethod_12 : decode cL_bestMethod 12 = .ok (.iconst 1, 1) := by decide +kernel
theorem dL_bestMethod_13 : decode cL_bestMethod 13 = .ok (.ireturn, 1) := by decide +kernel
theorem dL_bestMethod_14 : decode cL_bestMethod 14 = .ok (.iconst 0, 1) := by decide +kernel
theorem dL_bestMethod_15 : decode cL_bestMethod 15 = .ok (.ireturn, 1) := by decide +kernel
theorem dL_crossingWith_0 : decode cL_crossingWith 0 = .ok (.aload_n 2, 1) := by decide +kernel
theorem dL_crossingWith_1 : decode cL_crossingWith 1 = .ok (.iconst 0, 1) := by decide +kernel
theorem dL_crossingWith_2 : decode cL_crossingWith 2 = .ok (.aload_n 0, 1) := by decide +kernel
theorem dL_crossingWith_3 : decode cL_crossingWith 3 = .ok (.iload_n 1, 1) := by decide +kernel
theorem dL_crossingWith_4 : decode cL_crossingWith 4 = .ok (.invokevirtual 116, 3) := by decide +kernel
theorem dL_crossingWith_7 : decode cL_crossingWith 7 = .ok (.i2l, 1) := by decide +kernel
theorem dL_crossingWith_8 : decode cL_crossingWith 8 = .ok (.lastore, 1) := by decide +kernel
theorem dL_crossingWith_9 : decode cL_crossingWith 9 = .ok (.goto 9, 3) := by decide +kernel
theorem dL_crossingWith_12 : decode cL_crossingWith 12 = .ok (.astore_n 3, 1) := by decide +kernel
theorem dL_crossingWith_13 : decode cL_crossingWith 13 = .ok (.iconst 1, 1) := by decide +kernel
theorem dL_crossingWith_14 : decode cL_crossingWith 14 = .ok (.ireturn, 1) := by decide +kernel
theorem dL_crossingWith_15 : decode cL_crossingWith 15 = .ok (.astore_n 3, 1) := by decide +kernel
theorem dL_crossingWith_16 : decode cL_crossingWith 16 = .ok (.iconst 2, 1) := by decide +kernel
theorem dL_crossingWith_17 : decode cL_crossingWith 17 = .ok (.ireturn, 1) := by decide +kernel
theorem dL_crossingWith_18 : decode cL_crossingWith 18 = .ok (.iconst 0, 1) := by decide +kernel
theorem dL_crossingWith_19 : decode cL_crossingWith 19 = .ok (.ireturn, 1) := by decide +kernel
