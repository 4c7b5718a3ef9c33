theorem dX12_init_0 : decode cX12_init 0 = .ok (.aload_n 0, 1) := by decide +kernel
theorem dX12_init_1 : decode cX12_init 1 = .ok (.invokespecial 1, 3) := by decide +kernel
theorem dX12_init_4 : decode cX12_init 4 = .ok (.aload_n 0, 1) := by decide +kernel
theorem dX12_init_5 : decode cX12_init 5 = .ok (.bipush 68, 2) := by decide +kernel
theorem dX12_init_7 : decode cX12_init 7 = .ok (.newarray .int, 2) := by decide +kernel
theorem dX12_init_9 : decode cX12_init 9 = .ok (.putfield 7, 3) := by decide +kernel
theorem dX12_init_12 : decode cX12_init 12 = .ok (.aload_n 0, 1) := by decide +kernel
theorem dX12_init_13 : decode cX12_init 13 = .ok (.sipush 408, 3) := by decide +kernel
theorem dX12_init_16 : decode cX12_init 16 = .ok (.newarray .int, 2) := by decide +kernel
theorem dX12_init_18 : decode cX12_init 18 = .ok (.putfield 13, 3) := by decide +kernel
theorem dX12_init_21 : decode cX12_init 21 = .ok (.aload_n 0, 1) := by decide +kernel
theorem dX12_init_22 : decode cX12_init 22 = .ok (.bipush 68, 2) := by decide +kernel
theorem dX12_init_24 : decode cX12_init 24 = .ok (.newarray .int, 2) := by decide +kernel
theorem dX12_init_26 : decode cX12_init 26 = .ok (.putfield 16, 3) := by decide +kernel
theorem dX12_init_29 : decode cX12_init 29 = .ok (.aload_n 0, 1) := by decide +kernel
theorem dX12_init_30 : decode cX12_init 30 = .ok (.bipush 60, 2) := by decide +kernel
theorem dX12_init_32 : decode cX12_init 32 = .ok (.newarray .int, 2) := by decide +kernel
theorem dX12_init_34 : decode cX12_init 34 = .ok (.putfield 19, 3) := by decide +kernel
theorem dX12_init_37 : decode cX12_init 37 = .ok (.aload_n 0, 1) := by decide +kernel
theorem dX12_init_38 : decode cX12_init 38 = .ok (.sipush 160, 3) := by decide +kernel
theorem dX12_init_41 : decode cX12_init 41 = .ok (.newarray .int, 2) := by decide +kernel
theorem dX12_init_43 : decode cX12_init 43 = .ok (.putfield 22, 3) := by decide +kernel
theorem dX12_init_46 : decode cX12_init 46 = .ok (.aload_n 0, 1) := by decide +kernel
theorem dX12_init_47 : decode cX12_init 47 = .ok (.bipush 60, 2) := by decide +kernel
theorem dX12_init_49 : decode cX12_init 49 = .ok (.newarray .int, 2) := by decide +kernel
theorem dX12_init_51 : decode cX12_init 51 = .ok (.putfield 25, 3) := by decide +kernel
theorem dX12_init_54 : decode cX12_init 54 = .ok (.aload_n 0, 1) := by decide +kernel
theorem dX12_init_55 : decode cX12_init 55 = .ok (.iconst 0, 1) := by decide +kernel
theorem dX12_init_56 : decode cX12_init 56 = .ok (.putfield 28, 3) := by decide +kernel
theorem dX12_init_59 : decode cX12_init 59 = .ok (.aload_n 0, 1) := by decide +kernel
theorem dX12_init_60 : decode cX12_init 60 = .ok (.getfield 7, 3) := by decide +kernel
theorem dX12_init_63 : decode cX12_init 63 = .ok (.iconst 1, 1) := by decide +kernel
theorem dX12_init_64 : decode cX12_init 64 = .ok (.iconst 3, 1) := by decide +kernel
theorem dX12_init_65 : decode cX12_init 65 = .ok (.iastore, 1) := by decide +kernel
theorem dX12_init_66 : decode cX12_init 66 = .ok (.aload_n 0, 1) := by decide +kernel
theorem dX12_init_67 : decode cX12_init 67 = .ok (.getfield 7, 3) := by decide +kernel
theorem dX12_init_70 : decode cX12_init 70 = .ok (.iconst 2, 1) := by decide +kernel
theorem dX12_init_71 : decode cX12_init 71 = .ok (.bipush 7, 2) := by decide +kernel
theorem dX12_init_73 : decode cX12_init 73 = .ok (.iastore, 1) := by decide +kernel
theorem dX12_init_74 : decode cX12_init 74 = .ok (.aload_n 0, 1) := by decide +kernel
theorem dX12_init_75 : decode cX12_init 75 = .ok (.getfield 7, 3) := by decide +kernel
theorem dX12_init_78 : decode cX12_init 78 = .ok (.iconst 3, 1) := by decide +kernel
theorem dX12_init_79 : decode cX12_init 79 = .ok (.bipush 6, 2) := by decide +kernel
theorem dX12_init_81 : decode cX12_init 81 = .ok (.iastore, 1) := by decide +kernel
theorem dX12_init_82 : decode cX12_init 82 = .ok (.aload_n 0, 1) := by decide +kernel
theorem dX12_init_83 : decode cX12_init 83 = .ok (.getfield 7, 3) := by decide +kernel
theorem dX12_init_86 : decode cX12_init 86 = .ok (.iconst 4, 1) := by decide +kernel
theorem dX12_init_87 : decode cX12_init 87 = .ok (.bipush 100, 2) := by decide +kernel
theorem dX12_init_89 : decode cX12_init 89 = .ok (.iastore, 1) := by decide +kernel
theorem dX12_init_90 : decode cX12_init 90 = .ok (.aload_n 0, 1) := by decide +kernel
theorem dX12_init_91 : decode cX12_init 91 = .ok (.getfield 7, 3) := by decide +kernel
theorem dX12_init_94 : decode cX12_init 94 = .ok (.iconst 5, 1) := by decide +kernel
theorem dX12_init_95 : decode cX12_init 95 = .ok (.iconst 5, 1) := by decide +kernel
theorem dX12_init_96 : decode cX12_init 96 = .ok (.iastore, 1) := by decide +kernel
theorem dX12_init_97 : decode cX12_init 97 = .ok (.aload_n 0, 1) := by decide +kernel
theorem dX12_init_98 : decode cX12_init 98 = .ok (.getfield 7, 3) := by decide +kernel
theorem dX12_init_101 : decode cX12_init 101 = .ok (.bipush 6, 2) := by decide +kernel
theorem dX12_init_103 : decode cX12_init 103 = .ok (.iconst (-1), 1) := by decide +kernel
theorem dX12_init_104 : decode cX12_init 104 = .ok (.iastore, 1) := by decide +kernel
theorem dX12_init_105 : decode cX12_init 105 = .ok (.return_, 1) := by decide +kernel
theorem dX12_thrown_0 : decode cX12_thrown 0 = .ok (.aload_n 0, 1) := by decide +kernel
theorem dX12_thrown_1 : decode cX12_thrown 1 = .ok (.getfield 28, 3) := by decide +kernel
theorem dX12_thrown_4 : decode cX12_thrown 4 = .ok (.ireturn, 1) := by decide +kernel
theorem dX12_fails_0 : decode cX12_fails 0 = .ok (.aload_n 0, 1) := by decide +kernel
theorem dX12_fails_1 : decode cX12_fails 1 = .ok (.iload_n 1, 1) := by decide +kernel
theorem dX12_fails_2 : decode cX12_fails 2 = .ok (.putfield 28, 3) := by decide +kernel
theorem dX12_fails_5 : decode cX12_fails 5 = .ok (.iconst 0, 1) := by decide +kernel
theorem dX12_fails_6 : decode cX12_fails 6 = .ok (.ireturn, 1) := by decide +kernel
theorem dX12_in_0 : decode cX12_in 0 = .ok (.iload_n 0, 1) := by decide +kernel
theorem dX12_in_1 : decode cX12_in 1 = .ok (.iload_n 1, 1) := by decide +kernel
theorem dX12_in_2 : decode cX12_in 2 = .ok (.if_icmp .lt 12, 3) := by decide +kernel
theorem dX12_in_5 : decode cX12_in 5 = .ok (.iload_n 0, 1) := by decide +kernel
theorem dX12_in_6 : decode cX12_in 6 = .ok (.iload_n 2, 1) := by decide +kernel
theorem dX12_in_7 : decode cX12_in 7 = .ok (.if_icmp .gt 7, 3) := by decide +kernel
theorem dX12_in_10 : decode cX12_in 10 = .ok (.iconst 1, 1) := by decide +kernel
theorem dX12_in_11 : decode cX12_in 11 = .ok (.goto 4, 3) := by decide +kernel
theorem dX12_in_14 : decode cX12_in 14 = .ok (.iconst 0, 1) := by decide +kernel
theorem dX12_in_15 : decode cX12_in 15 = .ok (.ireturn, 1) := by decide +kernel
theorem dX12_isDay_0 : decode cX12_isDay 0 = .ok (.iload_n 1, 1) := by decide +kernel
theorem dX12_isDay_1 : decode cX12_isDay 1 = .ok (.iconst 0, 1) := by decide +kernel
theorem dX12_isDay_2 : decode cX12_isDay 2 = .ok (.aload_n 0, 1) := by decide +kernel
theorem dX12_isDay_3 : decode cX12_isDay 3 = .ok (.getfield 7, 3) := by decide +kernel
theorem dX12_isDay_6 : decode cX12_isDay 6 = .ok (.iconst 0, 1) := by decide +kernel
theorem dX12_isDay_7 : decode cX12_isDay 7 = .ok (.iaload, 1) := by decide +kernel
theorem dX12_isDay_8 : decode cX12_isDay 8 = .ok (.iconst 1, 1) := by decide +kernel
theorem dX12_isDay_9 : decode cX12_isDay 9 = .ok (.isub, 1) := by decide +kernel
theorem dX12_isDay_10 : decode cX12_isDay 10 = .ok (.invokestatic 32, 3) := by decide +kernel
theorem dX12_isDay_13 : decode cX12_isDay 13 = .ok (.ireturn, 1) := by decide +kernel
theorem dX12_isPrice_0 : decode cX12_isPrice 0 = .ok (.iload_n 0, 1) := by decide +kernel
theorem dX12_isPrice_1 : decode cX12_isPrice 1 = .ok (.iconst 1, 1) := by decide +kernel
theorem dX12_isPrice_2 : decode cX12_isPrice 2 = .ok (.sipush 9999, 3) := by decide +kernel
theorem dX12_isPrice_5 : decode cX12_isPrice 5 = .ok (.invokestatic 32, 3) := by decide +kernel
theorem dX12_isPrice_8 : decode cX12_isPrice 8 = .ok (.ireturn, 1) := by decide +kernel
theorem dX12_of_0 : decode cX12_of 0 = .ok (.aload_n 0, 1) := by decide +kernel
theorem dX12_of_1 : decode cX12_of 1 = .ok (.getfield 7, 3) := by decide +kernel
theorem dX12_of_4 : decode cX12_of 4 = .ok (.bipush 8, 2) := by decide +kernel
theorem dX12_of_6 : decode cX12_of 6 = .ok (.iload_n 1, 1) := by decide +kernel
theorem dX12_of_7 : decode cX12_of 7 = .ok (.iadd, 1) := by decide +kernel
theorem dX12_of_8 : decode cX12_of 8 = .ok (.iaload, 1) := by decide +kernel
theorem dX12_of_9 : decode cX12_of 9 = .ok (.ireturn, 1) := by decide +kernel
theorem dX12_records_0 : decode cX12_records 0 = .ok (.aload_n 0, 1) := by decide +kernel
theorem dX12_records_1 : decode cX12_records 1 = .ok (.getfield 36, 3) := by decide +kernel
theorem dX12_records_4 : decode cX12_records 4 = .ok (.bipush 6, 2) := by decide +kernel
theorem dX12_records_6 : decode cX12_records 6 = .ok (.if_icmp .ne 43, 3) := by decide +kernel
theorem dX12_records_9 : decode cX12_records 9 = .ok (.iconst 0, 1) := by decide +kernel
theorem dX12_records_10 : decode cX12_records 10 = .ok (.istore_n 1, 1) := by decide +kernel
theorem dX12_records_11 : decode cX12_records 11 = .ok (.iload_n 1, 1) := by decide +kernel
theorem dX12_records_12 : decode cX12_records 12 = .ok (.sipush 340, 3) := by decide +kernel
theorem dX12_records_15 : decode cX12_records 15 = .ok (.if_icmp .ge 24, 3) := by decide +kernel
theorem dX12_records_18 : decode cX12_records 18 = .ok (.aload_n 0, 1) := by decide +kernel
theorem dX12_records_19 : decode cX12_records 19 = .ok (.getfield 13, 3) := by decide +kernel
theorem dX12_records_22 : decode cX12_records 22 = .ok (.iload_n 1, 1) := by decide +kernel
theorem dX12_records_23 : decode cX12_records 23 = .ok (.aload_n 0, 1) := by decide +kernel
theorem dX12_records_24 : decode cX12_records 24 = .ok (.getfield 13, 3) := by decide +kernel
theorem dX12_records_27 : decode cX12_records 27 = .ok (.iload_n 1, 1) := by decide +kernel
theorem dX12_records_28 : decode cX12_records 28 = .ok (.bipush 68, 2) := by decide +kernel
theorem dX12_records_30 : decode cX12_records 30 = .ok (.iadd, 1) := by decide +kernel
theorem dX12_records_31 : decode cX12_records 31 = .ok (.iaload, 1) := by decide +kernel
theorem dX12_records_32 : decode cX12_records 32 = .ok (.iastore, 1) := by decide +kernel
theorem dX12_records_33 : decode cX12_records 33 = .ok (.iinc 1 1, 3) := by decide +kernel
theorem dX12_records_36 : decode cX12_records 36 = .ok (.goto (-25), 3) := by decide +kernel
theorem dX12_records_39 : decode cX12_records 39 = .ok (.aload_n 0, 1) := by decide +kernel
theorem dX12_records_40 : decode cX12_records 40 = .ok (.dup, 1) := by decide +kernel
theorem dX12_records_41 : decode cX12_records 41 = .ok (.getfield 36, 3) := by decide +kernel
theorem dX12_records_44 : decode cX12_records 44 = .ok (.iconst 1, 1) := by decide +kernel
theorem dX12_records_45 : decode cX12_records 45 = .ok (.isub, 1) := by decide +kernel
theorem dX12_records_46 : decode cX12_records 46 = .ok (.putfield 36, 3) := by decide +kernel
theorem dX12_records_49 : decode cX12_records 49 = .ok (.iconst 0, 1) := by decide +kernel
theorem dX12_records_50 : decode cX12_records 50 = .ok (.istore_n 1, 1) := by decide +kernel
theorem dX12_records_51 : decode cX12_records 51 = .ok (.iload_n 1, 1) := by decide +kernel
theorem dX12_records_52 : decode cX12_records 52 = .ok (.bipush 68, 2) := by decide +kernel
theorem dX12_records_54 : decode cX12_records 54 = .ok (.if_icmp .ge 29, 3) := by decide +kernel
theorem dX12_records_57 : decode cX12_records 57 = .ok (.aload_n 0, 1) := by decide +kernel
theorem dX12_records_58 : decode cX12_records 58 = .ok (.getfield 13, 3) := by decide +kernel
theorem dX12_records_61 : decode cX12_records 61 = .ok (.bipush 68, 2) := by decide +kernel
theorem dX12_records_63 : decode cX12_records 63 = .ok (.aload_n 0, 1) := by decide +kernel
theorem dX12_records_64 : decode cX12_records 64 = .ok (.getfield 36, 3) := by decide +kernel
theorem dX12_records_67 : decode cX12_records 67 = .ok (.imul, 1) := by decide +kernel
theorem dX12_records_68 : decode cX12_records 68 = .ok (.iload_n 1, 1) := by decide +kernel
theorem dX12_records_69 : decode cX12_records 69 = .ok (.iadd, 1) := by decide +kernel
theorem dX12_records_70 : decode cX12_records 70 = .ok (.aload_n 0, 1) := by decide +kernel
theorem dX12_records_71 : decode cX12_records 71 = .ok (.getfield 7, 3) := by decide +kernel
theorem dX12_records_74 : decode cX12_records 74 = .ok (.iload_n 1, 1) := by decide +kernel
theorem dX12_records_75 : decode cX12_records 75 = .ok (.iaload, 1) := by decide +kernel
theorem dX12_records_76 : decode cX12_records 76 = .ok (.iastore, 1) := by decide +kernel
theorem dX12_records_77 : decode cX12_records 77 = .ok (.iinc 1 1, 3) := by decide +kernel
theorem dX12_records_80 : decode cX12_records 80 = .ok (.goto (-29), 3) := by decide +kernel
theorem dX12_records_83 : decode cX12_records 83 = .ok (.aload_n 0, 1) := by decide +kernel
theorem dX12_records_84 : decode cX12_records 84 = .ok (.dup, 1) := by decide +kernel
theorem dX12_records_85 : decode cX12_records 85 = .ok (.getfield 36, 3) := by decide +kernel
theorem dX12_records_88 : decode cX12_records 88 = .ok (.iconst 1, 1) := by decide +kernel
theorem dX12_records_89 : decode cX12_records 89 = .ok (.iadd, 1) := by decide +kernel
theorem dX12_records_90 : decode cX12_records 90 = .ok (.putfield 36, 3) := by decide +kernel
theorem dX12_records_93 : decode cX12_records 93 = .ok (.return_, 1) := by decide +kernel
theorem dX12_first_0 : decode cX12_first 0 = .ok (.iload_n 0, 1) := by decide +kernel
theorem dX12_first_1 : decode cX12_first 1 = .ok (.iconst 1, 1) := by decide +kernel
theorem dX12_first_2 : decode cX12_first 2 = .ok (.iadd, 1) := by decide +kernel
theorem dX12_first_3 : decode cX12_first 3 = .ok (.iload_n 1, 1) := by decide +kernel
theorem dX12_first_4 : decode cX12_first 4 = .ok (.if_icmp .le 11, 3) := by decide +kernel
theorem dX12_first_7 : decode cX12_first 7 = .ok (.iload_n 0, 1) := by decide +kernel
theorem dX12_first_8 : decode cX12_first 8 = .ok (.iconst 1, 1) := by decide +kernel
theorem dX12_first_9 : decode cX12_first 9 = .ok (.iadd, 1) := by decide +kernel
theorem dX12_first_10 : decode cX12_first 10 = .ok (.iload_n 1, 1) := by decide +kernel
theorem dX12_first_11 : decode cX12_first 11 = .ok (.isub, 1) := by decide +kernel
theorem dX12_first_12 : decode cX12_first 12 = .ok (.goto 4, 3) := by decide +kernel
theorem dX12_first_15 : decode cX12_first 15 = .ok (.iconst 0, 1) := by decide +kernel
theorem dX12_first_16 : decode cX12_first 16 = .ok (.ireturn, 1) := by decide +kernel
theorem dX12_meanOf_0 : decode cX12_meanOf 0 = .ok (.iconst 0, 1) := by decide +kernel
theorem dX12_meanOf_1 : decode cX12_meanOf 1 = .ok (.istore_n 3, 1) := by decide +kernel
theorem dX12_meanOf_2 : decode cX12_meanOf 2 = .ok (.iload_n 1, 1) := by decide +kernel
theorem dX12_meanOf_3 : decode cX12_meanOf 3 = .ok (.iload_n 2, 1) := by decide +kernel
theorem dX12_meanOf_4 : decode cX12_meanOf 4 = .ok (.invokestatic 39, 3) := by decide +kernel
theorem dX12_meanOf_7 : decode cX12_meanOf 7 = .ok (.istore 4, 2) := by decide +kernel
theorem dX12_meanOf_9 : decode cX12_meanOf 9 = .ok (.iload 4, 2) := by decide +kernel
theorem dX12_meanOf_11 : decode cX12_meanOf 11 = .ok (.istore 5, 2) := by decide +kernel
theorem dX12_meanOf_13 : decode cX12_meanOf 13 = .ok (.iload 5, 2) := by decide +kernel
theorem dX12_meanOf_15 : decode cX12_meanOf 15 = .ok (.iload_n 1, 1) := by decide +kernel
theorem dX12_meanOf_16 : decode cX12_meanOf 16 = .ok (.if_icmp .gt 18, 3) := by decide +kernel
theorem dX12_meanOf_19 : decode cX12_meanOf 19 = .ok (.iload_n 3, 1) := by decide +kernel
theorem dX12_meanOf_20 : decode cX12_meanOf 20 = .ok (.aload_n 0, 1) := by decide +kernel
theorem dX12_meanOf_21 : decode cX12_meanOf 21 = .ok (.iload 5, 2) := by decide +kernel
theorem dX12_meanOf_23 : decode cX12_meanOf 23 = .ok (.invokevirtual 43, 3) := by decide +kernel
theorem dX12_meanOf_26 : decode cX12_meanOf 26 = .ok (.iadd, 1) := by decide +kernel
theorem dX12_meanOf_27 : decode cX12_meanOf 27 = .ok (.istore_n 3, 1) := by decide +kernel
theorem dX12_meanOf_28 : decode cX12_meanOf 28 = .ok (.iinc 5 1, 3) := by decide +kernel
theorem dX12_meanOf_31 : decode cX12_meanOf 31 = .ok (.goto (-18), 3) := by decide +kernel
theorem dX12_meanOf_34 : decode cX12_meanOf 34 = .ok (.sipush 1000, 3) := by decide +kernel
theorem dX12_meanOf_37 : decode cX12_meanOf 37 = .ok (.iload_n 3, 1) := by decide +kernel
theorem dX12_meanOf_38 : decode cX12_meanOf 38 = .ok (.imul, 1) := by decide +kernel
theorem dX12_meanOf_39 : decode cX12_meanOf 39 = .ok (.iload_n 1, 1) := by decide +kernel
theorem dX12_meanOf_40 : decode cX12_meanOf 40 = .ok (.iconst 1, 1) := by decide +kernel
theorem dX12_meanOf_41 : decode cX12_meanOf 41 = .ok (.iadd, 1) := by decide +kernel
theorem dX12_meanOf_42 : decode cX12_meanOf 42 = .ok (.iload 4, 2) := by decide +kernel
theorem dX12_meanOf_44 : decode cX12_meanOf 44 = .ok (.isub, 1) := by decide +kernel
theorem dX12_meanOf_45 : decode cX12_meanOf 45 = .ok (.idiv, 1) := by decide +kernel
theorem dX12_meanOf_46 : decode cX12_meanOf 46 = .ok (.ireturn, 1) := by decide +kernel
theorem dX12_weighted_0 : decode cX12_weighted 0 = .ok (.iconst 0, 1) := by decide +kernel
theorem dX12_weighted_1 : decode cX12_weighted 1 = .ok (.istore_n 2, 1) := by decide +kernel
theorem dX12_weighted_2 : decode cX12_weighted 2 = .ok (.iconst 0, 1) := by decide +kernel
theorem dX12_weighted_3 : decode cX12_weighted 3 = .ok (.istore_n 3, 1) := by decide +kernel
theorem dX12_weighted_4 : decode cX12_weighted 4 = .ok (.iload_n 1, 1) := by decide +kernel
theorem dX12_weighted_5 : decode cX12_weighted 5 = .ok (.aload_n 0, 1) := by decide +kernel
theorem dX12_weighted_6 : decode cX12_weighted 6 = .ok (.getfield 7, 3) := by decide +kernel
theorem dX12_weighted_9 : decode cX12_weighted 9 = .ok (.iconst 2, 1) := by decide +kernel
theorem dX12_weighted_10 : decode cX12_weighted 10 = .ok (.iaload, 1) := by decide +kernel
theorem dX12_weighted_11 : decode cX12_weighted 11 = .ok (.invokestatic 39, 3) := by decide +kernel
theorem dX12_weighted_14 : decode cX12_weighted 14 = .ok (.istore 4, 2) := by decide +kernel
theorem dX12_weighted_16 : decode cX12_weighted 16 = .ok (.iload 4, 2) := by decide +kernel
theorem dX12_weighted_18 : decode cX12_weighted 18 = .ok (.istore 5, 2) := by decide +kernel
theorem dX12_weighted_20 : decode cX12_weighted 20 = .ok (.iload 5, 2) := by decide +kernel
theorem dX12_weighted_22 : decode cX12_weighted 22 = .ok (.iload_n 1, 1) := by decide +kernel
theorem dX12_weighted_23 : decode cX12_weighted 23 = .ok (.if_icmp .gt 36, 3) := by decide +kernel
theorem dX12_weighted_26 : decode cX12_weighted 26 = .ok (.iload_n 2, 1) := by decide +kernel
theorem dX12_weighted_27 : decode cX12_weighted 27 = .ok (.iload 5, 2) := by decide +kernel
theorem dX12_weighted_29 : decode cX12_weighted 29 = .ok (.iload 4, 2) := by decide +kernel
theorem dX12_weighted_31 : decode cX12_weighted 31 = .ok (.isub, 1) := by decide +kernel
theorem dX12_weighted_32 : decode cX12_weighted 32 = .ok (.iconst 1, 1) := by decide +kernel
theorem dX12_weighted_33 : decode cX12_weighted 33 = .ok (.iadd, 1) := by decide +kernel
theorem dX12_weighted_34 : decode cX12_weighted 34 = .ok (.aload_n 0, 1) := by decide +kernel
theorem dX12_weighted_35 : decode cX12_weighted 35 = .ok (.iload 5, 2) := by decide +kernel
theorem dX12_weighted_37 : decode cX12_weighted 37 = .ok (.invokevirtual 43, 3) := by decide +kernel
theorem dX12_weighted_40 : decode cX12_weighted 40 = .ok (.imul, 1) := by decide +kernel
theorem dX12_weighted_41 : decode cX12_weighted 41 = .ok (.iadd, 1) := by decide +kernel
theorem dX12_weighted_42 : decode cX12_weighted 42 = .ok (.istore_n 2, 1) := by decide +kernel
theorem dX12_weighted_43 : decode cX12_weighted 43 = .ok (.iload_n 3, 1) := by decide +kernel
theorem dX12_weighted_44 : decode cX12_weighted 44 = .ok (.iload 5, 2) := by decide +kernel
theorem dX12_weighted_46 : decode cX12_weighted 46 = .ok (.iload 4, 2) := by decide +kernel
theorem dX12_weighted_48 : decode cX12_weighted 48 = .ok (.isub, 1) := by decide +kernel
theorem dX12_weighted_49 : decode cX12_weighted 49 = .ok (.iconst 1, 1) := by decide +kernel
theorem dX12_weighted_50 : decode cX12_weighted 50 = .ok (.iadd, 1) := by decide +kernel
theorem dX12_weighted_51 : decode cX12_weighted 51 = .ok (.iadd, 1) := by decide +kernel
theorem dX12_weighted_52 : decode cX12_weighted 52 = .ok (.istore_n 3, 1) := by decide +kernel
theorem dX12_weighted_53 : decode cX12_weighted 53 = .ok (.iinc 5 1, 3) := by decide +kernel
theorem dX12_weighted_56 : decode cX12_weighted 56 = .ok (.goto (-36), 3) := by decide +kernel
theorem dX12_weighted_59 : decode cX12_weighted 59 = .ok (.ldc2_w 47, 3) := by decide +kernel
theorem dX12_weighted_62 : decode cX12_weighted 62 = .ok (.iload_n 2, 1) := by decide +kernel
theorem dX12_weighted_63 : decode cX12_weighted 63 = .ok (.i2l, 1) := by decide +kernel
theorem dX12_weighted_64 : decode cX12_weighted 64 = .ok (.lmul, 1) := by decide +kernel
theorem dX12_weighted_65 : decode cX12_weighted 65 = .ok (.iload_n 3, 1) := by decide +kernel
theorem dX12_weighted_66 : decode cX12_weighted 66 = .ok (.i2l, 1) := by decide +kernel
theorem dX12_weighted_67 : decode cX12_weighted 67 = .ok (.ldiv, 1) := by decide +kernel
theorem dX12_weighted_68 : decode cX12_weighted 68 = .ok (.l2i, 1) := by decide +kernel
theorem dX12_weighted_69 : decode cX12_weighted 69 = .ok (.ireturn, 1) := by decide +kernel
theorem dX12_smooth_0 : decode cX12_smooth 0 = .ok (.sipush 1000, 3) := by decide +kernel
theorem dX12_smooth_3 : decode cX12_smooth 3 = .ok (.aload_n 0, 1) := by decide +kernel
theorem dX12_smooth_4 : decode cX12_smooth 4 = .ok (.iconst 0, 1) := by decide +kernel
theorem dX12_smooth_5 : decode cX12_smooth 5 = .ok (.invokevirtual 43, 3) := by decide +kernel
theorem dX12_smooth_8 : decode cX12_smooth 8 = .ok (.imul, 1) := by decide +kernel
theorem dX12_smooth_9 : decode cX12_smooth 9 = .ok (.istore_n 2, 1) := by decide +kernel
theorem dX12_smooth_10 : decode cX12_smooth 10 = .ok (.iconst 1, 1) := by decide +kernel
theorem dX12_smooth_11 : decode cX12_smooth 11 = .ok (.istore_n 3, 1) := by decide +kernel
theorem dX12_smooth_12 : decode cX12_smooth 12 = .ok (.iload_n 3, 1) := by decide +kernel
theorem dX12_smooth_13 : decode cX12_smooth 13 = .ok (.iload_n 1, 1) := by decide +kernel
theorem dX12_smooth_14 : decode cX12_smooth 14 = .ok (.if_icmp .gt 41, 3) := by decide +kernel
theorem dX12_smooth_17 : decode cX12_smooth 17 = .ok (.aload_n 0, 1) := by decide +kernel
theorem dX12_smooth_18 : decode cX12_smooth 18 = .ok (.getfield 7, 3) := by decide +kernel
theorem dX12_smooth_21 : decode cX12_smooth 21 = .ok (.iconst 3, 1) := by decide +kernel
theorem dX12_smooth_22 : decode cX12_smooth 22 = .ok (.iaload, 1) := by decide +kernel
theorem dX12_smooth_23 : decode cX12_smooth 23 = .ok (.iload_n 2, 1) := by decide +kernel
theorem dX12_smooth_24 : decode cX12_smooth 24 = .ok (.imul, 1) := by decide +kernel
theorem dX12_smooth_25 : decode cX12_smooth 25 = .ok (.bipush 10, 2) := by decide +kernel
theorem dX12_smooth_27 : decode cX12_smooth 27 = .ok (.aload_n 0, 1) := by decide +kernel
theorem dX12_smooth_28 : decode cX12_smooth 28 = .ok (.getfield 7, 3) := by decide +kernel
theorem dX12_smooth_31 : decode cX12_smooth 31 = .ok (.iconst 3, 1) := by decide +kernel
theorem dX12_smooth_32 : decode cX12_smooth 32 = .ok (.iaload, 1) := by decide +kernel
theorem dX12_smooth_33 : decode cX12_smooth 33 = .ok (.isub, 1) := by decide +kernel
theorem dX12_smooth_34 : decode cX12_smooth 34 = .ok (.sipush 1000, 3) := by decide +kernel
theorem dX12_smooth_37 : decode cX12_smooth 37 = .ok (.imul, 1) := by decide +kernel
theorem dX12_smooth_38 : decode cX12_smooth 38 = .ok (.aload_n 0, 1) := by decide +kernel
theorem dX12_smooth_39 : decode cX12_smooth 39 = .ok (.iload_n 3, 1) := by decide +kernel
theorem dX12_smooth_40 : decode cX12_smooth 40 = .ok (.invokevirtual 43, 3) := by decide +kernel
theorem dX12_smooth_43 : decode cX12_smooth 43 = .ok (.imul, 1) := by decide +kernel
theorem dX12_smooth_44 : decode cX12_smooth 44 = .ok (.iadd, 1) := by decide +kernel
theorem dX12_smooth_45 : decode cX12_smooth 45 = .ok (.bipush 10, 2) := by decide +kernel
theorem dX12_smooth_47 : decode cX12_smooth 47 = .ok (.idiv, 1) := by decide +kernel
theorem dX12_smooth_48 : decode cX12_smooth 48 = .ok (.istore_n 2, 1) := by decide +kernel
theorem dX12_smooth_49 : decode cX12_smooth 49 = .ok (.iinc 3 1, 3) := by decide +kernel
theorem dX12_smooth_52 : decode cX12_smooth 52 = .ok (.goto (-40), 3) := by decide +kernel
theorem dX12_smooth_55 : decode cX12_smooth 55 = .ok (.iload_n 2, 1) := by decide +kernel
theorem dX12_smooth_56 : decode cX12_smooth 56 = .ok (.ireturn, 1) := by decide +kernel
theorem dX12_middle_0 : decode cX12_middle 0 = .ok (.iload_n 1, 1) := by decide +kernel
theorem dX12_middle_1 : decode cX12_middle 1 = .ok (.aload_n 0, 1) := by decide +kernel
theorem dX12_middle_2 : decode cX12_middle 2 = .ok (.getfield 7, 3) := by decide +kernel
theorem dX12_middle_5 : decode cX12_middle 5 = .ok (.iconst 1, 1) := by decide +kernel
theorem dX12_middle_6 : decode cX12_middle 6 = .ok (.iaload, 1) := by decide +kernel
theorem dX12_middle_7 : decode cX12_middle 7 = .ok (.invokestatic 39, 3) := by decide +kernel
theorem dX12_middle_10 : decode cX12_middle 10 = .ok (.istore_n 2, 1) := by decide +kernel
theorem dX12_middle_11 : decode cX12_middle 11 = .ok (.iload_n 1, 1) := by decide +kernel
theorem dX12_middle_12 : decode cX12_middle 12 = .ok (.iload_n 2, 1) := by decide +kernel
theorem dX12_middle_13 : decode cX12_middle 13 = .ok (.isub, 1) := by decide +kernel
theorem dX12_middle_14 : decode cX12_middle 14 = .ok (.iconst 2, 1) := by decide +kernel
theorem dX12_middle_15 : decode cX12_middle 15 = .ok (.idiv, 1) := by decide +kernel
theorem dX12_middle_16 : decode cX12_middle 16 = .ok (.istore_n 3, 1) := by decide +kernel
theorem dX12_middle_17 : decode cX12_middle 17 = .ok (.iconst 0, 1) := by decide +kernel
theorem dX12_middle_18 : decode cX12_middle 18 = .ok (.istore 4, 2) := by decide +kernel
theorem dX12_middle_20 : decode cX12_middle 20 = .ok (.iload_n 2, 1) := by decide +kernel
theorem dX12_middle_21 : decode cX12_middle 21 = .ok (.istore 5, 2) := by decide +kernel
theorem dX12_middle_23 : decode cX12_middle 23 = .ok (.iload 5, 2) := by decide +kernel
theorem dX12_middle_25 : decode cX12_middle 25 = .ok (.iload_n 1, 1) := by decide +kernel
theorem dX12_middle_26 : decode cX12_middle 26 = .ok (.if_icmp .gt 93, 3) := by decide +kernel
theorem dX12_middle_29 : decode cX12_middle 29 = .ok (.iconst 0, 1) := by decide +kernel
theorem dX12_middle_30 : decode cX12_middle 30 = .ok (.istore 6, 2) := by decide +kernel
theorem dX12_middle_32 : decode cX12_middle 32 = .ok (.iload_n 2, 1) := by decide +kernel
theorem dX12_middle_33 : decode cX12_middle 33 = .ok (.istore 7, 2) := by decide +kernel
theorem dX12_middle_35 : decode cX12_middle 35 = .ok (.iload 7, 2) := by decide +kernel
theorem dX12_middle_37 : decode cX12_middle 37 = .ok (.iload_n 1, 1) := by decide +kernel
theorem dX12_middle_38 : decode cX12_middle 38 = .ok (.if_icmp .gt 56, 3) := by decide +kernel
theorem dX12_middle_41 : decode cX12_middle 41 = .ok (.iload 6, 2) := by decide +kernel
theorem dX12_middle_43 : decode cX12_middle 43 = .ok (.aload_n 0, 1) := by decide +kernel
theorem dX12_middle_44 : decode cX12_middle 44 = .ok (.iload 7, 2) := by decide +kernel
theorem dX12_middle_46 : decode cX12_middle 46 = .ok (.invokevirtual 43, 3) := by decide +kernel
theorem dX12_middle_49 : decode cX12_middle 49 = .ok (.aload_n 0, 1) := by decide +kernel
theorem dX12_middle_50 : decode cX12_middle 50 = .ok (.iload 5, 2) := by decide +kernel
theorem dX12_middle_52 : decode cX12_middle 52 = .ok (.invokevirtual 43, 3) := by decide +kernel
theorem dX12_middle_55 : decode cX12_middle 55 = .ok (.if_icmp .lt 25, 3) := by decide +kernel
theorem dX12_middle_58 : decode cX12_middle 58 = .ok (.aload_n 0, 1) := by decide +kernel
theorem dX12_middle_59 : decode cX12_middle 59 = .ok (.iload 7, 2) := by decide +kernel
theorem dX12_middle_61 : decode cX12_middle 61 = .ok (.invokevirtual 43, 3) := by decide +kernel
theorem dX12_middle_64 : decode cX12_middle 64 = .ok (.aload_n 0, 1) := by decide +kernel
theorem dX12_middle_65 : decode cX12_middle 65 = .ok (.iload 5, 2) := by decide +kernel
theorem dX12_middle_67 : decode cX12_middle 67 = .ok (.invokevirtual 43, 3) := by decide +kernel
theorem dX12_middle_70 : decode cX12_middle 70 = .ok (.if_icmp .ne 14, 3) := by decide +kernel
theorem dX12_middle_73 : decode cX12_middle 73 = .ok (.iload 7, 2) := by decide +kernel
theorem dX12_middle_75 : decode cX12_middle 75 = .ok (.iload 5, 2) := by decide +kernel
theorem dX12_middle_77 : decode cX12_middle 77 = .ok (.if_icmp .ge 7, 3) := by decide +kernel
theorem dX12_middle_80 : decode cX12_middle 80 = .ok (.iconst 1, 1) := by decide +kernel
theorem dX12_middle_81 : decode cX12_middle 81 = .ok (.goto 4, 3) := by decide +kernel
theorem dX12_middle_84 : decode cX12_middle 84 = .ok (.iconst 0, 1) := by decide +kernel
theorem dX12_middle_85 : decode cX12_middle 85 = .ok (.iadd, 1) := by decide +kernel
theorem dX12_middle_86 : decode cX12_middle 86 = .ok (.istore 6, 2) := by decide +kernel
theorem dX12_middle_88 : decode cX12_middle 88 = .ok (.iinc 7 1, 3) := by decide +kernel
theorem dX12_middle_91 : decode cX12_middle 91 = .ok (.goto (-56), 3) := by decide +kernel
theorem dX12_middle_94 : decode cX12_middle 94 = .ok (.iload 6, 2) := by decide +kernel
theorem dX12_middle_96 : decode cX12_middle 96 = .ok (.iload_n 3, 1) := by decide +kernel
theorem dX12_middle_97 : decode cX12_middle 97 = .ok (.if_icmp .ne 12, 3) := by decide +kernel
theorem dX12_middle_100 : decode cX12_middle 100 = .ok (.aload_n 0, 1) := by decide +kernel
theorem dX12_middle_101 : decode cX12_middle 101 = .ok (.iload 5, 2) := by decide +kernel
theorem dX12_middle_103 : decode cX12_middle 103 = .ok (.invokevirtual 43, 3) := by decide +kernel
theorem dX12_middle_106 : decode cX12_middle 106 = .ok (.goto 5, 3) := by decide +kernel
theorem dX12_middle_109 : decode cX12_middle 109 = .ok (.iload 4, 2) := by decide +kernel
theorem dX12_middle_111 : decode cX12_middle 111 = .ok (.istore 4, 2) := by decide +kernel
theorem dX12_middle_113 : decode cX12_middle 113 = .ok (.iinc 5 1, 3) := by decide +kernel
theorem dX12_middle_116 : decode cX12_middle 116 = .ok (.goto (-93), 3) := by decide +kernel
theorem dX12_middle_119 : decode cX12_middle 119 = .ok (.iload 4, 2) := by decide +kernel
theorem dX12_middle_121 : decode cX12_middle 121 = .ok (.ireturn, 1) := by decide +kernel
theorem dX12_creased_0 : decode cX12_creased 0 = .ok (.aload_n 0, 1) := by decide +kernel
theorem dX12_creased_1 : decode cX12_creased 1 = .ok (.iload_n 1, 1) := by decide +kernel
theorem dX12_creased_2 : decode cX12_creased 2 = .ok (.invokevirtual 43, 3) := by decide +kernel
theorem dX12_creased_5 : decode cX12_creased 5 = .ok (.aload_n 0, 1) := by decide +kernel
theorem dX12_creased_6 : decode cX12_creased 6 = .ok (.iload_n 1, 1) := by decide +kernel
theorem dX12_creased_7 : decode cX12_creased 7 = .ok (.invokevirtual 49, 3) := by decide +kernel
theorem dX12_creased_10 : decode cX12_creased 10 = .ok (.isub, 1) := by decide +kernel
theorem dX12_creased_11 : decode cX12_creased 11 = .ok (.istore_n 2, 1) := by decide +kernel
theorem dX12_creased_12 : decode cX12_creased 12 = .ok (.iload_n 2, 1) := by decide +kernel
theorem dX12_creased_13 : decode cX12_creased 13 = .ok (.aload_n 0, 1) := by decide +kernel
theorem dX12_creased_14 : decode cX12_creased 14 = .ok (.getfield 7, 3) := by decide +kernel
theorem dX12_creased_17 : decode cX12_creased 17 = .ok (.iconst 4, 1) := by decide +kernel
theorem dX12_creased_18 : decode cX12_creased 18 = .ok (.iaload, 1) := by decide +kernel
theorem dX12_creased_19 : decode cX12_creased 19 = .ok (.if_icmp .gt 14, 3) := by decide +kernel
theorem dX12_creased_22 : decode cX12_creased 22 = .ok (.iload_n 2, 1) := by decide +kernel
theorem dX12_creased_23 : decode cX12_creased 23 = .ok (.ineg, 1) := by decide +kernel
theorem dX12_creased_24 : decode cX12_creased 24 = .ok (.aload_n 0, 1) := by decide +kernel
theorem dX12_creased_25 : decode cX12_creased 25 = .ok (.getfield 7, 3) := by decide +kernel
theorem dX12_creased_28 : decode cX12_creased 28 = .ok (.iconst 4, 1) := by decide +kernel
theorem dX12_creased_29 : decode cX12_creased 29 = .ok (.iaload, 1) := by decide +kernel
theorem dX12_creased_30 : decode cX12_creased 30 = .ok (.if_icmp .le 7, 3) := by decide +kernel
theorem dX12_creased_33 : decode cX12_creased 33 = .ok (.iconst 1, 1) := by decide +kernel
theorem dX12_creased_34 : decode cX12_creased 34 = .ok (.goto 4, 3) := by decide +kernel
theorem dX12_creased_37 : decode cX12_creased 37 = .ok (.iconst 0, 1) := by decide +kernel
theorem dX12_creased_38 : decode cX12_creased 38 = .ok (.ireturn, 1) := by decide +kernel
theorem dX12_creaseMany_0 : decode cX12_creaseMany 0 = .ok (.iconst 0, 1) := by decide +kernel
theorem dX12_creaseMany_1 : decode cX12_creaseMany 1 = .ok (.istore_n 1, 1) := by decide +kernel
theorem dX12_creaseMany_2 : decode cX12_creaseMany 2 = .ok (.iconst 0, 1) := by decide +kernel
theorem dX12_creaseMany_3 : decode cX12_creaseMany 3 = .ok (.istore_n 2, 1) := by decide +kernel
theorem dX12_creaseMany_4 : decode cX12_creaseMany 4 = .ok (.iload_n 2, 1) := by decide +kernel
theorem dX12_creaseMany_5 : decode cX12_creaseMany 5 = .ok (.aload_n 0, 1) := by decide +kernel
theorem dX12_creaseMany_6 : decode cX12_creaseMany 6 = .ok (.getfield 7, 3) := by decide +kernel
theorem dX12_creaseMany_9 : decode cX12_creaseMany 9 = .ok (.iconst 0, 1) := by decide +kernel
theorem dX12_creaseMany_10 : decode cX12_creaseMany 10 = .ok (.iaload, 1) := by decide +kernel
theorem dX12_creaseMany_11 : decode cX12_creaseMany 11 = .ok (.if_icmp .ge 25, 3) := by decide +kernel
theorem dX12_creaseMany_14 : decode cX12_creaseMany 14 = .ok (.iload_n 1, 1) := by decide +kernel
theorem dX12_creaseMany_15 : decode cX12_creaseMany 15 = .ok (.aload_n 0, 1) := by decide +kernel
theorem dX12_creaseMany_16 : decode cX12_creaseMany 16 = .ok (.iload_n 2, 1) := by decide +kernel
theorem dX12_creaseMany_17 : decode cX12_creaseMany 17 = .ok (.invokevirtual 52, 3) := by decide +kernel
theorem dX12_creaseMany_20 : decode cX12_creaseMany 20 = .ok (.ifCond .eq 7, 3) := by decide +kernel
theorem dX12_creaseMany_23 : decode cX12_creaseMany 23 = .ok (.iconst 1, 1) := by decide +kernel
theorem dX12_creaseMany_24 : decode cX12_creaseMany 24 = .ok (.goto 4, 3) := by decide +kernel
theorem dX12_creaseMany_27 : decode cX12_creaseMany 27 = .ok (.iconst 0, 1) := by decide +kernel
theorem dX12_creaseMany_28 : decode cX12_creaseMany 28 = .ok (.iadd, 1) := by decide +kernel
theorem dX12_creaseMany_29 : decode cX12_creaseMany 29 = .ok (.istore_n 1, 1) := by decide +kernel
theorem dX12_creaseMany_30 : decode cX12_creaseMany 30 = .ok (.iinc 2 1, 3) := by decide +kernel
theorem dX12_creaseMany_33 : decode cX12_creaseMany 33 = .ok (.goto (-29), 3) := by decide +kernel
theorem dX12_creaseMany_36 : decode cX12_creaseMany 36 = .ok (.iload_n 1, 1) := by decide +kernel
theorem dX12_creaseMany_37 : decode cX12_creaseMany 37 = .ok (.ireturn, 1) := by decide +kernel
theorem dX12_greatest_0 : decode cX12_greatest 0 = .ok (.iconst 0, 1) := by decide +kernel
theorem dX12_greatest_1 : decode cX12_greatest 1 = .ok (.istore_n 2, 1) := by decide +kernel
theorem dX12_greatest_2 : decode cX12_greatest 2 = .ok (.iload_n 1, 1) := by decide +kernel
theorem dX12_greatest_3 : decode cX12_greatest 3 = .ok (.aload_n 0, 1) := by decide +kernel
theorem dX12_greatest_4 : decode cX12_greatest 4 = .ok (.getfield 7, 3) := by decide +kernel
theorem dX12_greatest_7 : decode cX12_greatest 7 = .ok (.iconst 2, 1) := by decide +kernel
theorem dX12_greatest_8 : decode cX12_greatest 8 = .ok (.iaload, 1) := by decide +kernel
theorem dX12_greatest_9 : decode cX12_greatest 9 = .ok (.invokestatic 39, 3) := by decide +kernel
theorem dX12_greatest_12 : decode cX12_greatest 12 = .ok (.istore_n 3, 1) := by decide +kernel
theorem dX12_greatest_13 : decode cX12_greatest 13 = .ok (.iload_n 3, 1) := by decide +kernel
theorem dX12_greatest_14 : decode cX12_greatest 14 = .ok (.iload_n 1, 1) := by decide +kernel
theorem dX12_greatest_15 : decode cX12_greatest 15 = .ok (.if_icmp .gt 28, 3) := by decide +kernel
theorem dX12_greatest_18 : decode cX12_greatest 18 = .ok (.aload_n 0, 1) := by decide +kernel
theorem dX12_greatest_19 : decode cX12_greatest 19 = .ok (.iload_n 3, 1) := by decide +kernel
theorem dX12_greatest_20 : decode cX12_greatest 20 = .ok (.invokevirtual 43, 3) := by decide +kernel
theorem dX12_greatest_23 : decode cX12_greatest 23 = .ok (.iload_n 2, 1) := by decide +kernel
theorem dX12_greatest_24 : decode cX12_greatest 24 = .ok (.if_icmp .le 11, 3) := by decide +kernel
theorem dX12_greatest_27 : decode cX12_greatest 27 = .ok (.aload_n 0, 1) := by decide +kernel
theorem dX12_greatest_28 : decode cX12_greatest 28 = .ok (.iload_n 3, 1) := by decide +kernel
theorem dX12_greatest_29 : decode cX12_greatest 29 = .ok (.invokevirtual 43, 3) := by decide +kernel
theorem dX12_greatest_32 : decode cX12_greatest 32 = .ok (.goto 4, 3) := by decide +kernel
theorem dX12_greatest_35 : decode cX12_greatest 35 = .ok (.iload_n 2, 1) := by decide +kernel
theorem dX12_greatest_36 : decode cX12_greatest 36 = .ok (.istore_n 2, 1) := by decide +kernel
theorem dX12_greatest_37 : decode cX12_greatest 37 = .ok (.iinc 3 1, 3) := by decide +kernel
theorem dX12_greatest_40 : decode cX12_greatest 40 = .ok (.goto (-27), 3) := by decide +kernel
theorem dX12_greatest_43 : decode cX12_greatest 43 = .ok (.iload_n 2, 1) := by decide +kernel
theorem dX12_greatest_44 : decode cX12_greatest 44 = .ok (.ireturn, 1) := by decide +kernel
theorem dX12_side_0 : decode cX12_side 0 = .ok (.aload_n 0, 1) := by decide +kernel
theorem dX12_side_1 : decode cX12_side 1 = .ok (.iload_n 1, 1) := by decide +kernel
theorem dX12_side_2 : decode cX12_side 2 = .ok (.aload_n 0, 1) := by decide +kernel
theorem dX12_side_3 : decode cX12_side 3 = .ok (.getfield 7, 3) := by decide +kernel
theorem dX12_side_6 : decode cX12_side 6 = .ok (.iconst 1, 1) := by decide +kernel
theorem dX12_side_7 : decode cX12_side 7 = .ok (.iaload, 1) := by decide +kernel
theorem dX12_side_8 : decode cX12_side 8 = .ok (.invokevirtual 56, 3) := by decide +kernel
theorem dX12_side_11 : decode cX12_side 11 = .ok (.aload_n 0, 1) := by decide +kernel
theorem dX12_side_12 : decode cX12_side 12 = .ok (.iload_n 1, 1) := by decide +kernel
theorem dX12_side_13 : decode cX12_side 13 = .ok (.aload_n 0, 1) := by decide +kernel
theorem dX12_side_14 : decode cX12_side 14 = .ok (.getfield 7, 3) := by decide +kernel
theorem dX12_side_17 : decode cX12_side 17 = .ok (.iconst 2, 1) := by decide +kernel
theorem dX12_side_18 : decode cX12_side 18 = .ok (.iaload, 1) := by decide +kernel
theorem dX12_side_19 : decode cX12_side 19 = .ok (.invokevirtual 56, 3) := by decide +kernel
theorem dX12_side_22 : decode cX12_side 22 = .ok (.isub, 1) := by decide +kernel
theorem dX12_side_23 : decode cX12_side 23 = .ok (.istore_n 2, 1) := by decide +kernel
theorem dX12_side_24 : decode cX12_side 24 = .ok (.iload_n 2, 1) := by decide +kernel
theorem dX12_side_25 : decode cX12_side 25 = .ok (.ifCond .le 7, 3) := by decide +kernel
theorem dX12_side_28 : decode cX12_side 28 = .ok (.iconst 1, 1) := by decide +kernel
theorem dX12_side_29 : decode cX12_side 29 = .ok (.goto 12, 3) := by decide +kernel
theorem dX12_side_32 : decode cX12_side 32 = .ok (.iload_n 2, 1) := by decide +kernel
theorem dX12_side_33 : decode cX12_side 33 = .ok (.ifCond .ge 7, 3) := by decide +kernel
theorem dX12_side_36 : decode cX12_side 36 = .ok (.iconst (-1), 1) := by decide +kernel
theorem dX12_side_37 : decode cX12_side 37 = .ok (.goto 4, 3) := by decide +kernel
theorem dX12_side_40 : decode cX12_side 40 = .ok (.iconst 0, 1) := by decide +kernel
theorem dX12_side_41 : decode cX12_side 41 = .ok (.ireturn, 1) := by decide +kernel
theorem dX12_crosses_0 : decode cX12_crosses 0 = .ok (.iload_n 1, 1) := by decide +kernel
theorem dX12_crosses_1 : decode cX12_crosses 1 = .ok (.ifCond .eq 18, 3) := by decide +kernel
theorem dX12_crosses_4 : decode cX12_crosses 4 = .ok (.aload_n 0, 1) := by decide +kernel
theorem dX12_crosses_5 : decode cX12_crosses 5 = .ok (.iload_n 1, 1) := by decide +kernel
theorem dX12_crosses_6 : decode cX12_crosses 6 = .ok (.invokevirtual 59, 3) := by decide +kernel
theorem dX12_crosses_9 : decode cX12_crosses 9 = .ok (.aload_n 0, 1) := by decide +kernel
theorem dX12_crosses_10 : decode cX12_crosses 10 = .ok (.iload_n 1, 1) := by decide +kernel
theorem dX12_crosses_11 : decode cX12_crosses 11 = .ok (.iconst 1, 1) := by decide +kernel
theorem dX12_crosses_12 : decode cX12_crosses 12 = .ok (.isub, 1) := by decide +kernel
theorem dX12_crosses_13 : decode cX12_crosses 13 = .ok (.invokevirtual 59, 3) := by decide +kernel
theorem dX12_crosses_16 : decode cX12_crosses 16 = .ok (.if_icmp .ne 7, 3) := by decide +kernel
theorem dX12_crosses_19 : decode cX12_crosses 19 = .ok (.iconst 0, 1) := by decide +kernel
theorem dX12_crosses_20 : decode cX12_crosses 20 = .ok (.goto 8, 3) := by decide +kernel
theorem dX12_crosses_23 : decode cX12_crosses 23 = .ok (.aload_n 0, 1) := by decide +kernel
theorem dX12_crosses_24 : decode cX12_crosses 24 = .ok (.iload_n 1, 1) := by decide +kernel
theorem dX12_crosses_25 : decode cX12_crosses 25 = .ok (.invokevirtual 59, 3) := by decide +kernel
theorem dX12_crosses_28 : decode cX12_crosses 28 = .ok (.ireturn, 1) := by decide +kernel
theorem dX12_crossMany_0 : decode cX12_crossMany 0 = .ok (.iconst 0, 1) := by decide +kernel
theorem dX12_crossMany_1 : decode cX12_crossMany 1 = .ok (.istore_n 1, 1) := by decide +kernel
theorem dX12_crossMany_2 : decode cX12_crossMany 2 = .ok (.iconst 0, 1) := by decide +kernel
theorem dX12_crossMany_3 : decode cX12_crossMany 3 = .ok (.istore_n 2, 1) := by decide +kernel
theorem dX12_crossMany_4 : decode cX12_crossMany 4 = .ok (.iload_n 2, 1) := by decide +kernel
theorem dX12_crossMany_5 : decode cX12_crossMany 5 = .ok (.aload_n 0, 1) := by decide +kernel
theorem dX12_crossMany_6 : decode cX12_crossMany 6 = .ok (.getfield 7, 3) := by decide +kernel
theorem dX12_crossMany_9 : decode cX12_crossMany 9 = .ok (.iconst 0, 1) := by decide +kernel
theorem dX12_crossMany_10 : decode cX12_crossMany 10 = .ok (.iaload, 1) := by decide +kernel
theorem dX12_crossMany_11 : decode cX12_crossMany 11 = .ok (.if_icmp .ge 25, 3) := by decide +kernel
theorem dX12_crossMany_14 : decode cX12_crossMany 14 = .ok (.iload_n 1, 1) := by decide +kernel
theorem dX12_crossMany_15 : decode cX12_crossMany 15 = .ok (.aload_n 0, 1) := by decide +kernel
theorem dX12_crossMany_16 : decode cX12_crossMany 16 = .ok (.iload_n 2, 1) := by decide +kernel
theorem dX12_crossMany_17 : decode cX12_crossMany 17 = .ok (.invokevirtual 62, 3) := by decide +kernel
theorem dX12_crossMany_20 : decode cX12_crossMany 20 = .ok (.ifCond .eq 7, 3) := by decide +kernel
theorem dX12_crossMany_23 : decode cX12_crossMany 23 = .ok (.iconst 1, 1) := by decide +kernel
theorem dX12_crossMany_24 : decode cX12_crossMany 24 = .ok (.goto 4, 3) := by decide +kernel
theorem dX12_crossMany_27 : decode cX12_crossMany 27 = .ok (.iconst 0, 1) := by decide +kernel
theorem dX12_crossMany_28 : decode cX12_crossMany 28 = .ok (.iadd, 1) := by decide +kernel
theorem dX12_crossMany_29 : decode cX12_crossMany 29 = .ok (.istore_n 1, 1) := by decide +kernel
theorem dX12_crossMany_30 : decode cX12_crossMany 30 = .ok (.iinc 2 1, 3) := by decide +kernel
theorem dX12_crossMany_33 : decode cX12_crossMany 33 = .ok (.goto (-29), 3) := by decide +kernel
theorem dX12_crossMany_36 : decode cX12_crossMany 36 = .ok (.iload_n 1, 1) := by decide +kernel
theorem dX12_crossMany_37 : decode cX12_crossMany 37 = .ok (.ireturn, 1) := by decide +kernel
theorem dX12_trades_0 : decode cX12_trades 0 = .ok (.aload_n 0, 1) := by decide +kernel
theorem dX12_trades_1 : decode cX12_trades 1 = .ok (.iconst 0, 1) := by decide +kernel
theorem dX12_trades_2 : decode cX12_trades 2 = .ok (.putfield 65, 3) := by decide +kernel
theorem dX12_trades_5 : decode cX12_trades 5 = .ok (.aload_n 0, 1) := by decide +kernel
theorem dX12_trades_6 : decode cX12_trades 6 = .ok (.ldc2_w 68, 3) := by decide +kernel
theorem dX12_trades_9 : decode cX12_trades 9 = .ok (.putfield 70, 3) := by decide +kernel
theorem dX12_trades_12 : decode cX12_trades 12 = .ok (.iconst 1, 1) := by decide +kernel
theorem dX12_trades_13 : decode cX12_trades 13 = .ok (.istore_n 2, 1) := by decide +kernel
theorem dX12_trades_14 : decode cX12_trades 14 = .ok (.iload_n 2, 1) := by decide +kernel
theorem dX12_trades_15 : decode cX12_trades 15 = .ok (.iload_n 1, 1) := by decide +kernel
theorem dX12_trades_16 : decode cX12_trades 16 = .ok (.if_icmp .gt 109, 3) := by decide +kernel
theorem dX12_trades_19 : decode cX12_trades 19 = .ok (.aload_n 0, 1) := by decide +kernel
theorem dX12_trades_20 : decode cX12_trades 20 = .ok (.iload_n 2, 1) := by decide +kernel
theorem dX12_trades_21 : decode cX12_trades 21 = .ok (.invokevirtual 62, 3) := by decide +kernel
theorem dX12_trades_24 : decode cX12_trades 24 = .ok (.istore_n 3, 1) := by decide +kernel
theorem dX12_trades_25 : decode cX12_trades 25 = .ok (.aload_n 0, 1) := by decide +kernel
theorem dX12_trades_26 : decode cX12_trades 26 = .ok (.getfield 70, 3) := by decide +kernel
theorem dX12_trades_29 : decode cX12_trades 29 = .ok (.aload_n 0, 1) := by decide +kernel
theorem dX12_trades_30 : decode cX12_trades 30 = .ok (.iload_n 2, 1) := by decide +kernel
theorem dX12_trades_31 : decode cX12_trades 31 = .ok (.invokevirtual 43, 3) := by decide +kernel
theorem dX12_trades_34 : decode cX12_trades 34 = .ok (.i2l, 1) := by decide +kernel
theorem dX12_trades_35 : decode cX12_trades 35 = .ok (.ldiv, 1) := by decide +kernel
theorem dX12_trades_36 : decode cX12_trades 36 = .ok (.lstore 4, 2) := by decide +kernel
theorem dX12_trades_38 : decode cX12_trades 38 = .ok (.ldc2_w 74, 3) := by decide +kernel
theorem dX12_trades_41 : decode cX12_trades 41 = .ok (.aload_n 0, 1) := by decide +kernel
theorem dX12_trades_42 : decode cX12_trades 42 = .ok (.getfield 65, 3) := by decide +kernel
theorem dX12_trades_45 : decode cX12_trades 45 = .ok (.i2l, 1) := by decide +kernel
theorem dX12_trades_46 : decode cX12_trades 46 = .ok (.lsub, 1) := by decide +kernel
theorem dX12_trades_47 : decode cX12_trades 47 = .ok (.lstore 6, 2) := by decide +kernel
theorem dX12_trades_49 : decode cX12_trades 49 = .ok (.iload_n 3, 1) := by decide +kernel
theorem dX12_trades_50 : decode cX12_trades 50 = .ok (.iconst 1, 1) := by decide +kernel
theorem dX12_trades_51 : decode cX12_trades 51 = .ok (.if_icmp .ne 22, 3) := by decide +kernel
theorem dX12_trades_54 : decode cX12_trades 54 = .ok (.lload 4, 2) := by decide +kernel
theorem dX12_trades_56 : decode cX12_trades 56 = .ok (.lload 6, 2) := by decide +kernel
theorem dX12_trades_58 : decode cX12_trades 58 = .ok (.lcmp, 1) := by decide +kernel
theorem dX12_trades_59 : decode cX12_trades 59 = .ok (.ifCond .ge 8, 3) := by decide +kernel
theorem dX12_trades_62 : decode cX12_trades 62 = .ok (.lload 4, 2) := by decide +kernel
theorem dX12_trades_64 : decode cX12_trades 64 = .ok (.goto 5, 3) := by decide +kernel
theorem dX12_trades_67 : decode cX12_trades 67 = .ok (.lload 6, 2) := by decide +kernel
theorem dX12_trades_69 : decode cX12_trades 69 = .ok (.l2i, 1) := by decide +kernel
theorem dX12_trades_70 : decode cX12_trades 70 = .ok (.goto 17, 3) := by decide +kernel
theorem dX12_trades_73 : decode cX12_trades 73 = .ok (.iload_n 3, 1) := by decide +kernel
theorem dX12_trades_74 : decode cX12_trades 74 = .ok (.iconst (-1), 1) := by decide +kernel
theorem dX12_trades_75 : decode cX12_trades 75 = .ok (.if_icmp .ne 11, 3) := by decide +kernel
theorem dX12_trades_78 : decode cX12_trades 78 = .ok (.aload_n 0, 1) := by decide +kernel
theorem dX12_trades_79 : decode cX12_trades 79 = .ok (.getfield 65, 3) := by decide +kernel
theorem dX12_trades_82 : decode cX12_trades 82 = .ok (.ineg, 1) := by decide +kernel
theorem dX12_trades_83 : decode cX12_trades 83 = .ok (.goto 4, 3) := by decide +kernel
theorem dX12_trades_86 : decode cX12_trades 86 = .ok (.iconst 0, 1) := by decide +kernel
theorem dX12_trades_87 : decode cX12_trades 87 = .ok (.istore 8, 2) := by decide +kernel
theorem dX12_trades_89 : decode cX12_trades 89 = .ok (.aload_n 0, 1) := by decide +kernel
theorem dX12_trades_90 : decode cX12_trades 90 = .ok (.dup, 1) := by decide +kernel
theorem dX12_trades_91 : decode cX12_trades 91 = .ok (.getfield 65, 3) := by decide +kernel
theorem dX12_trades_94 : decode cX12_trades 94 = .ok (.iload 8, 2) := by decide +kernel
theorem dX12_trades_96 : decode cX12_trades 96 = .ok (.iadd, 1) := by decide +kernel
theorem dX12_trades_97 : decode cX12_trades 97 = .ok (.putfield 65, 3) := by decide +kernel
theorem dX12_trades_100 : decode cX12_trades 100 = .ok (.aload_n 0, 1) := by decide +kernel
theorem dX12_trades_101 : decode cX12_trades 101 = .ok (.dup, 1) := by decide +kernel
theorem dX12_trades_102 : decode cX12_trades 102 = .ok (.getfield 70, 3) := by decide +kernel
theorem dX12_trades_105 : decode cX12_trades 105 = .ok (.iload 8, 2) := by decide +kernel
theorem dX12_trades_107 : decode cX12_trades 107 = .ok (.i2l, 1) := by decide +kernel
theorem dX12_trades_108 : decode cX12_trades 108 = .ok (.aload_n 0, 1) := by decide +kernel
theorem dX12_trades_109 : decode cX12_trades 109 = .ok (.iload_n 2, 1) := by decide +kernel
theorem dX12_trades_110 : decode cX12_trades 110 = .ok (.invokevirtual 43, 3) := by decide +kernel
theorem dX12_trades_113 : decode cX12_trades 113 = .ok (.i2l, 1) := by decide +kernel
theorem dX12_trades_114 : decode cX12_trades 114 = .ok (.lmul, 1) := by decide +kernel
theorem dX12_trades_115 : decode cX12_trades 115 = .ok (.lsub, 1) := by decide +kernel
theorem dX12_trades_116 : decode cX12_trades 116 = .ok (.putfield 70, 3) := by decide +kernel
theorem dX12_trades_119 : decode cX12_trades 119 = .ok (.iinc 2 1, 3) := by decide +kernel
theorem dX12_trades_122 : decode cX12_trades 122 = .ok (.goto (-108), 3) := by decide +kernel
theorem dX12_trades_125 : decode cX12_trades 125 = .ok (.return_, 1) := by decide +kernel
theorem dX12_piecesAt_0 : decode cX12_piecesAt 0 = .ok (.aload_n 0, 1) := by decide +kernel
theorem dX12_piecesAt_1 : decode cX12_piecesAt 1 = .ok (.iload_n 1, 1) := by decide +kernel
theorem dX12_piecesAt_2 : decode cX12_piecesAt 2 = .ok (.invokevirtual 76, 3) := by decide +kernel
theorem dX12_piecesAt_5 : decode cX12_piecesAt 5 = .ok (.aload_n 0, 1) := by decide +kernel
theorem dX12_piecesAt_6 : decode cX12_piecesAt 6 = .ok (.getfield 65, 3) := by decide +kernel
theorem dX12_piecesAt_9 : decode cX12_piecesAt 9 = .ok (.ireturn, 1) := by decide +kernel
theorem dX12_worthAt_0 : decode cX12_worthAt 0 = .ok (.aload_n 0, 1) := by decide +kernel
theorem dX12_worthAt_1 : decode cX12_worthAt 1 = .ok (.iload_n 1, 1) := by decide +kernel
theorem dX12_worthAt_2 : decode cX12_worthAt 2 = .ok (.invokevirtual 76, 3) := by decide +kernel
theorem dX12_worthAt_5 : decode cX12_worthAt 5 = .ok (.aload_n 0, 1) := by decide +kernel
theorem dX12_worthAt_6 : decode cX12_worthAt 6 = .ok (.getfield 70, 3) := by decide +kernel
theorem dX12_worthAt_9 : decode cX12_worthAt 9 = .ok (.aload_n 0, 1) := by decide +kernel
theorem dX12_worthAt_10 : decode cX12_worthAt 10 = .ok (.getfield 65, 3) := by decide +kernel
theorem dX12_worthAt_13 : decode cX12_worthAt 13 = .ok (.i2l, 1) := by decide +kernel
theorem dX12_worthAt_14 : decode cX12_worthAt 14 = .ok (.aload_n 0, 1) := by decide +kernel
theorem dX12_worthAt_15 : decode cX12_worthAt 15 = .ok (.iload_n 1, 1) := by decide +kernel
theorem dX12_worthAt_16 : decode cX12_worthAt 16 = .ok (.invokevirtual 43, 3) := by decide +kernel
theorem dX12_worthAt_19 : decode cX12_worthAt 19 = .ok (.i2l, 1) := by decide +kernel
theorem dX12_worthAt_20 : decode cX12_worthAt 20 = .ok (.lmul, 1) := by decide +kernel
theorem dX12_worthAt_21 : decode cX12_worthAt 21 = .ok (.ladd, 1) := by decide +kernel
theorem dX12_worthAt_22 : decode cX12_worthAt 22 = .ok (.lreturn, 1) := by decide +kernel
theorem dX12_fall_0 : decode cX12_fall 0 = .ok (.iconst 0, 1) := by decide +kernel
theorem dX12_fall_1 : decode cX12_fall 1 = .ok (.istore_n 1, 1) := by decide +kernel
theorem dX12_fall_2 : decode cX12_fall 2 = .ok (.iconst 0, 1) := by decide +kernel
theorem dX12_fall_3 : decode cX12_fall 3 = .ok (.istore_n 2, 1) := by decide +kernel
theorem dX12_fall_4 : decode cX12_fall 4 = .ok (.iconst 0, 1) := by decide +kernel
theorem dX12_fall_5 : decode cX12_fall 5 = .ok (.istore_n 3, 1) := by decide +kernel
theorem dX12_fall_6 : decode cX12_fall 6 = .ok (.iload_n 3, 1) := by decide +kernel
theorem dX12_fall_7 : decode cX12_fall 7 = .ok (.aload_n 0, 1) := by decide +kernel
theorem dX12_fall_8 : decode cX12_fall 8 = .ok (.getfield 7, 3) := by decide +kernel
theorem dX12_fall_11 : decode cX12_fall 11 = .ok (.iconst 0, 1) := by decide +kernel
theorem dX12_fall_12 : decode cX12_fall 12 = .ok (.iaload, 1) := by decide +kernel
theorem dX12_fall_13 : decode cX12_fall 13 = .ok (.if_icmp .ge 51, 3) := by decide +kernel
theorem dX12_fall_16 : decode cX12_fall 16 = .ok (.aload_n 0, 1) := by decide +kernel
theorem dX12_fall_17 : decode cX12_fall 17 = .ok (.iload_n 3, 1) := by decide +kernel
theorem dX12_fall_18 : decode cX12_fall 18 = .ok (.invokevirtual 43, 3) := by decide +kernel
theorem dX12_fall_21 : decode cX12_fall 21 = .ok (.iload_n 2, 1) := by decide +kernel
theorem dX12_fall_22 : decode cX12_fall 22 = .ok (.if_icmp .le 11, 3) := by decide +kernel
theorem dX12_fall_25 : decode cX12_fall 25 = .ok (.aload_n 0, 1) := by decide +kernel
theorem dX12_fall_26 : decode cX12_fall 26 = .ok (.iload_n 3, 1) := by decide +kernel
theorem dX12_fall_27 : decode cX12_fall 27 = .ok (.invokevirtual 43, 3) := by decide +kernel
theorem dX12_fall_30 : decode cX12_fall 30 = .ok (.goto 4, 3) := by decide +kernel
theorem dX12_fall_33 : decode cX12_fall 33 = .ok (.iload_n 2, 1) := by decide +kernel
theorem dX12_fall_34 : decode cX12_fall 34 = .ok (.istore_n 2, 1) := by decide +kernel
theorem dX12_fall_35 : decode cX12_fall 35 = .ok (.iload_n 2, 1) := by decide +kernel
theorem dX12_fall_36 : decode cX12_fall 36 = .ok (.aload_n 0, 1) := by decide +kernel
theorem dX12_fall_37 : decode cX12_fall 37 = .ok (.iload_n 3, 1) := by decide +kernel
theorem dX12_fall_38 : decode cX12_fall 38 = .ok (.invokevirtual 43, 3) := by decide +kernel
theorem dX12_fall_41 : decode cX12_fall 41 = .ok (.isub, 1) := by decide +kernel
theorem dX12_fall_42 : decode cX12_fall 42 = .ok (.iload_n 1, 1) := by decide +kernel
theorem dX12_fall_43 : decode cX12_fall 43 = .ok (.if_icmp .le 13, 3) := by decide +kernel
theorem dX12_fall_46 : decode cX12_fall 46 = .ok (.iload_n 2, 1) := by decide +kernel
theorem dX12_fall_47 : decode cX12_fall 47 = .ok (.aload_n 0, 1) := by decide +kernel
theorem dX12_fall_48 : decode cX12_fall 48 = .ok (.iload_n 3, 1) := by decide +kernel
theorem dX12_fall_49 : decode cX12_fall 49 = .ok (.invokevirtual 43, 3) := by decide +kernel
theorem dX12_fall_52 : decode cX12_fall 52 = .ok (.isub, 1) := by decide +kernel
theorem dX12_fall_53 : decode cX12_fall 53 = .ok (.goto 4, 3) := by decide +kernel
theorem dX12_fall_56 : decode cX12_fall 56 = .ok (.iload_n 1, 1) := by decide +kernel
theorem dX12_fall_57 : decode cX12_fall 57 = .ok (.istore_n 1, 1) := by decide +kernel
theorem dX12_fall_58 : decode cX12_fall 58 = .ok (.iinc 3 1, 3) := by decide +kernel
theorem dX12_fall_61 : decode cX12_fall 61 = .ok (.goto (-55), 3) := by decide +kernel
theorem dX12_fall_64 : decode cX12_fall 64 = .ok (.iload_n 1, 1) := by decide +kernel
theorem dX12_fall_65 : decode cX12_fall 65 = .ok (.ireturn, 1) := by decide +kernel
theorem dX12_rise_0 : decode cX12_rise 0 = .ok (.iconst 0, 1) := by decide +kernel
theorem dX12_rise_1 : decode cX12_rise 1 = .ok (.istore_n 1, 1) := by decide +kernel
theorem dX12_rise_2 : decode cX12_rise 2 = .ok (.iconst 0, 1) := by decide +kernel
theorem dX12_rise_3 : decode cX12_rise 3 = .ok (.istore_n 2, 1) := by decide +kernel
theorem dX12_rise_4 : decode cX12_rise 4 = .ok (.iconst 1, 1) := by decide +kernel
theorem dX12_rise_5 : decode cX12_rise 5 = .ok (.istore_n 3, 1) := by decide +kernel
theorem dX12_rise_6 : decode cX12_rise 6 = .ok (.iload_n 3, 1) := by decide +kernel
theorem dX12_rise_7 : decode cX12_rise 7 = .ok (.aload_n 0, 1) := by decide +kernel
theorem dX12_rise_8 : decode cX12_rise 8 = .ok (.getfield 7, 3) := by decide +kernel
theorem dX12_rise_11 : decode cX12_rise 11 = .ok (.iconst 0, 1) := by decide +kernel
theorem dX12_rise_12 : decode cX12_rise 12 = .ok (.iaload, 1) := by decide +kernel
theorem dX12_rise_13 : decode cX12_rise 13 = .ok (.if_icmp .ge 43, 3) := by decide +kernel
theorem dX12_rise_16 : decode cX12_rise 16 = .ok (.aload_n 0, 1) := by decide +kernel
theorem dX12_rise_17 : decode cX12_rise 17 = .ok (.iload_n 3, 1) := by decide +kernel
theorem dX12_rise_18 : decode cX12_rise 18 = .ok (.invokevirtual 43, 3) := by decide +kernel
theorem dX12_rise_21 : decode cX12_rise 21 = .ok (.aload_n 0, 1) := by decide +kernel
theorem dX12_rise_22 : decode cX12_rise 22 = .ok (.iload_n 3, 1) := by decide +kernel
theorem dX12_rise_23 : decode cX12_rise 23 = .ok (.iconst 1, 1) := by decide +kernel
theorem dX12_rise_24 : decode cX12_rise 24 = .ok (.isub, 1) := by decide +kernel
theorem dX12_rise_25 : decode cX12_rise 25 = .ok (.invokevirtual 43, 3) := by decide +kernel
theorem dX12_rise_28 : decode cX12_rise 28 = .ok (.if_icmp .le 9, 3) := by decide +kernel
theorem dX12_rise_31 : decode cX12_rise 31 = .ok (.iload_n 2, 1) := by decide +kernel
theorem dX12_rise_32 : decode cX12_rise 32 = .ok (.iconst 1, 1) := by decide +kernel
theorem dX12_rise_33 : decode cX12_rise 33 = .ok (.iadd, 1) := by decide +kernel
theorem dX12_rise_34 : decode cX12_rise 34 = .ok (.goto 4, 3) := by decide +kernel
theorem dX12_rise_37 : decode cX12_rise 37 = .ok (.iconst 0, 1) := by decide +kernel
theorem dX12_rise_38 : decode cX12_rise 38 = .ok (.istore_n 2, 1) := by decide +kernel
theorem dX12_rise_39 : decode cX12_rise 39 = .ok (.iload_n 2, 1) := by decide +kernel
theorem dX12_rise_40 : decode cX12_rise 40 = .ok (.iload_n 1, 1) := by decide +kernel
theorem dX12_rise_41 : decode cX12_rise 41 = .ok (.if_icmp .le 7, 3) := by decide +kernel
theorem dX12_rise_44 : decode cX12_rise 44 = .ok (.iload_n 2, 1) := by decide +kernel
theorem dX12_rise_45 : decode cX12_rise 45 = .ok (.goto 4, 3) := by decide +kernel
theorem dX12_rise_48 : decode cX12_rise 48 = .ok (.iload_n 1, 1) := by decide +kernel
theorem dX12_rise_49 : decode cX12_rise 49 = .ok (.istore_n 1, 1) := by decide +kernel
theorem dX12_rise_50 : decode cX12_rise 50 = .ok (.iinc 3 1, 3) := by decide +kernel
theorem dX12_rise_53 : decode cX12_rise 53 = .ok (.goto (-47), 3) := by decide +kernel
theorem dX12_rise_56 : decode cX12_rise 56 = .ok (.iload_n 1, 1) := by decide +kernel
theorem dX12_rise_57 : decode cX12_rise 57 = .ok (.ireturn, 1) := by decide +kernel
theorem dX12_partDays_0 : decode cX12_partDays 0 = .ok (.iconst 0, 1) := by decide +kernel
theorem dX12_partDays_1 : decode cX12_partDays 1 = .ok (.istore_n 3, 1) := by decide +kernel
theorem dX12_partDays_2 : decode cX12_partDays 2 = .ok (.iload_n 1, 1) := by decide +kernel
theorem dX12_partDays_3 : decode cX12_partDays 3 = .ok (.istore 4, 2) := by decide +kernel
theorem dX12_partDays_5 : decode cX12_partDays 5 = .ok (.iload 4, 2) := by decide +kernel
theorem dX12_partDays_7 : decode cX12_partDays 7 = .ok (.iload_n 2, 1) := by decide +kernel
theorem dX12_partDays_8 : decode cX12_partDays 8 = .ok (.if_icmp .ge 20, 3) := by decide +kernel
theorem dX12_partDays_11 : decode cX12_partDays 11 = .ok (.iinc 3 1, 3) := by decide +kernel
theorem dX12_partDays_14 : decode cX12_partDays 14 = .ok (.iload 4, 2) := by decide +kernel
theorem dX12_partDays_16 : decode cX12_partDays 16 = .ok (.aload_n 0, 1) := by decide +kernel
theorem dX12_partDays_17 : decode cX12_partDays 17 = .ok (.getfield 7, 3) := by decide +kernel
theorem dX12_partDays_20 : decode cX12_partDays 20 = .ok (.iconst 5, 1) := by decide +kernel
theorem dX12_partDays_21 : decode cX12_partDays 21 = .ok (.iaload, 1) := by decide +kernel
theorem dX12_partDays_22 : decode cX12_partDays 22 = .ok (.iadd, 1) := by decide +kernel
theorem dX12_partDays_23 : decode cX12_partDays 23 = .ok (.istore 4, 2) := by decide +kernel
theorem dX12_partDays_25 : decode cX12_partDays 25 = .ok (.goto (-20), 3) := by decide +kernel
theorem dX12_partDays_28 : decode cX12_partDays 28 = .ok (.iload_n 3, 1) := by decide +kernel
theorem dX12_partDays_29 : decode cX12_partDays 29 = .ok (.ireturn, 1) := by decide +kernel
theorem dX12_partSum_0 : decode cX12_partSum 0 = .ok (.lconst 0, 1) := by decide +kernel
theorem dX12_partSum_1 : decode cX12_partSum 1 = .ok (.lstore_n 3, 1) := by decide +kernel
theorem dX12_partSum_2 : decode cX12_partSum 2 = .ok (.iload_n 1, 1) := by decide +kernel
theorem dX12_partSum_3 : decode cX12_partSum 3 = .ok (.istore 5, 2) := by decide +kernel
theorem dX12_partSum_5 : decode cX12_partSum 5 = .ok (.iload 5, 2) := by decide +kernel
theorem dX12_partSum_7 : decode cX12_partSum 7 = .ok (.iload_n 2, 1) := by decide +kernel
theorem dX12_partSum_8 : decode cX12_partSum 8 = .ok (.if_icmp .ge 27, 3) := by decide +kernel
theorem dX12_partSum_11 : decode cX12_partSum 11 = .ok (.lload_n 3, 1) := by decide +kernel
theorem dX12_partSum_12 : decode cX12_partSum 12 = .ok (.aload_n 0, 1) := by decide +kernel
theorem dX12_partSum_13 : decode cX12_partSum 13 = .ok (.iload 5, 2) := by decide +kernel
theorem dX12_partSum_15 : decode cX12_partSum 15 = .ok (.invokevirtual 43, 3) := by decide +kernel
theorem dX12_partSum_18 : decode cX12_partSum 18 = .ok (.i2l, 1) := by decide +kernel
theorem dX12_partSum_19 : decode cX12_partSum 19 = .ok (.ladd, 1) := by decide +kernel
theorem dX12_partSum_20 : decode cX12_partSum 20 = .ok (.lstore_n 3, 1) := by decide +kernel
theorem dX12_partSum_21 : decode cX12_partSum 21 = .ok (.iload 5, 2) := by decide +kernel
theorem dX12_partSum_23 : decode cX12_partSum 23 = .ok (.aload_n 0, 1) := by decide +kernel
theorem dX12_partSum_24 : decode cX12_partSum 24 = .ok (.getfield 7, 3) := by decide +kernel
theorem dX12_partSum_27 : decode cX12_partSum 27 = .ok (.iconst 5, 1) := by decide +kernel
theorem dX12_partSum_28 : decode cX12_partSum 28 = .ok (.iaload, 1) := by decide +kernel
theorem dX12_partSum_29 : decode cX12_partSum 29 = .ok (.iadd, 1) := by decide +kernel
theorem dX12_partSum_30 : decode cX12_partSum 30 = .ok (.istore 5, 2) := by decide +kernel
theorem dX12_partSum_32 : decode cX12_partSum 32 = .ok (.goto (-27), 3) := by decide +kernel
theorem dX12_partSum_35 : decode cX12_partSum 35 = .ok (.lload_n 3, 1) := by decide +kernel
theorem dX12_partSum_36 : decode cX12_partSum 36 = .ok (.lreturn, 1) := by decide +kernel
theorem dX12_allSum_0 : decode cX12_allSum 0 = .ok (.lconst 0, 1) := by decide +kernel
theorem dX12_allSum_1 : decode cX12_allSum 1 = .ok (.lstore_n 1, 1) := by decide +kernel
theorem dX12_allSum_2 : decode cX12_allSum 2 = .ok (.iconst 0, 1) := by decide +kernel
theorem dX12_allSum_3 : decode cX12_allSum 3 = .ok (.istore_n 3, 1) := by decide +kernel
theorem dX12_allSum_4 : decode cX12_allSum 4 = .ok (.iload_n 3, 1) := by decide +kernel
theorem dX12_allSum_5 : decode cX12_allSum 5 = .ok (.aload_n 0, 1) := by decide +kernel
theorem dX12_allSum_6 : decode cX12_allSum 6 = .ok (.getfield 7, 3) := by decide +kernel
theorem dX12_allSum_9 : decode cX12_allSum 9 = .ok (.iconst 0, 1) := by decide +kernel
theorem dX12_allSum_10 : decode cX12_allSum 10 = .ok (.iaload, 1) := by decide +kernel
theorem dX12_allSum_11 : decode cX12_allSum 11 = .ok (.if_icmp .ge 18, 3) := by decide +kernel
theorem dX12_allSum_14 : decode cX12_allSum 14 = .ok (.lload_n 1, 1) := by decide +kernel
theorem dX12_allSum_15 : decode cX12_allSum 15 = .ok (.aload_n 0, 1) := by decide +kernel
theorem dX12_allSum_16 : decode cX12_allSum 16 = .ok (.iload_n 3, 1) := by decide +kernel
theorem dX12_allSum_17 : decode cX12_allSum 17 = .ok (.invokevirtual 43, 3) := by decide +kernel
theorem dX12_allSum_20 : decode cX12_allSum 20 = .ok (.i2l, 1) := by decide +kernel
theorem dX12_allSum_21 : decode cX12_allSum 21 = .ok (.ladd, 1) := by decide +kernel
theorem dX12_allSum_22 : decode cX12_allSum 22 = .ok (.lstore_n 1, 1) := by decide +kernel
theorem dX12_allSum_23 : decode cX12_allSum 23 = .ok (.iinc 3 1, 3) := by decide +kernel
theorem dX12_allSum_26 : decode cX12_allSum 26 = .ok (.goto (-22), 3) := by decide +kernel
theorem dX12_allSum_29 : decode cX12_allSum 29 = .ok (.lload_n 1, 1) := by decide +kernel
theorem dX12_allSum_30 : decode cX12_allSum 30 = .ok (.lreturn, 1) := by decide +kernel
theorem dX12_index_0 : decode cX12_index 0 = .ok (.ldc2_w 47, 3) := by decide +kernel
theorem dX12_index_3 : decode cX12_index 3 = .ok (.aload_n 0, 1) := by decide +kernel
theorem dX12_index_4 : decode cX12_index 4 = .ok (.iload_n 1, 1) := by decide +kernel
theorem dX12_index_5 : decode cX12_index 5 = .ok (.aload_n 0, 1) := by decide +kernel
theorem dX12_index_6 : decode cX12_index 6 = .ok (.getfield 7, 3) := by decide +kernel
theorem dX12_index_9 : decode cX12_index 9 = .ok (.iconst 0, 1) := by decide +kernel
theorem dX12_index_10 : decode cX12_index 10 = .ok (.iaload, 1) := by decide +kernel
theorem dX12_index_11 : decode cX12_index 11 = .ok (.invokevirtual 80, 3) := by decide +kernel
theorem dX12_index_14 : decode cX12_index 14 = .ok (.lmul, 1) := by decide +kernel
theorem dX12_index_15 : decode cX12_index 15 = .ok (.aload_n 0, 1) := by decide +kernel
theorem dX12_index_16 : decode cX12_index 16 = .ok (.getfield 7, 3) := by decide +kernel
theorem dX12_index_19 : decode cX12_index 19 = .ok (.iconst 0, 1) := by decide +kernel
theorem dX12_index_20 : decode cX12_index 20 = .ok (.iaload, 1) := by decide +kernel
theorem dX12_index_21 : decode cX12_index 21 = .ok (.i2l, 1) := by decide +kernel
theorem dX12_index_22 : decode cX12_index 22 = .ok (.lmul, 1) := by decide +kernel
theorem dX12_index_23 : decode cX12_index 23 = .ok (.aload_n 0, 1) := by decide +kernel
theorem dX12_index_24 : decode cX12_index 24 = .ok (.iload_n 1, 1) := by decide +kernel
theorem dX12_index_25 : decode cX12_index 25 = .ok (.aload_n 0, 1) := by decide +kernel
theorem dX12_index_26 : decode cX12_index 26 = .ok (.getfield 7, 3) := by decide +kernel
theorem dX12_index_29 : decode cX12_index 29 = .ok (.iconst 0, 1) := by decide +kernel
theorem dX12_index_30 : decode cX12_index 30 = .ok (.iaload, 1) := by decide +kernel
theorem dX12_index_31 : decode cX12_index 31 = .ok (.invokevirtual 84, 3) := by decide +kernel
theorem dX12_index_34 : decode cX12_index 34 = .ok (.i2l, 1) := by decide +kernel
theorem dX12_index_35 : decode cX12_index 35 = .ok (.aload_n 0, 1) := by decide +kernel
theorem dX12_index_36 : decode cX12_index 36 = .ok (.invokevirtual 87, 3) := by decide +kernel
theorem dX12_index_39 : decode cX12_index 39 = .ok (.lmul, 1) := by decide +kernel
theorem dX12_index_40 : decode cX12_index 40 = .ok (.ldiv, 1) := by decide +kernel
theorem dX12_index_41 : decode cX12_index 41 = .ok (.l2i, 1) := by decide +kernel
theorem dX12_index_42 : decode cX12_index 42 = .ok (.ireturn, 1) := by decide +kernel
theorem dX12_bare_0 : decode cX12_bare 0 = .ok (.iload_n 1, 1) := by decide +kernel
theorem dX12_bare_1 : decode cX12_bare 1 = .ok (.aload_n 0, 1) := by decide +kernel
theorem dX12_bare_2 : decode cX12_bare 2 = .ok (.getfield 7, 3) := by decide +kernel
theorem dX12_bare_5 : decode cX12_bare 5 = .ok (.iconst 5, 1) := by decide +kernel
theorem dX12_bare_6 : decode cX12_bare 6 = .ok (.iaload, 1) := by decide +kernel
theorem dX12_bare_7 : decode cX12_bare 7 = .ok (.irem, 1) := by decide +kernel
theorem dX12_bare_8 : decode cX12_bare 8 = .ok (.istore_n 2, 1) := by decide +kernel
theorem dX12_bare_9 : decode cX12_bare 9 = .ok (.ldc2_w 47, 3) := by decide +kernel
theorem dX12_bare_12 : decode cX12_bare 12 = .ok (.aload_n 0, 1) := by decide +kernel
theorem dX12_bare_13 : decode cX12_bare 13 = .ok (.iload_n 1, 1) := by decide +kernel
theorem dX12_bare_14 : decode cX12_bare 14 = .ok (.invokevirtual 43, 3) := by decide +kernel
theorem dX12_bare_17 : decode cX12_bare 17 = .ok (.i2l, 1) := by decide +kernel
theorem dX12_bare_18 : decode cX12_bare 18 = .ok (.lmul, 1) := by decide +kernel
theorem dX12_bare_19 : decode cX12_bare 19 = .ok (.aload_n 0, 1) := by decide +kernel
theorem dX12_bare_20 : decode cX12_bare 20 = .ok (.iload_n 2, 1) := by decide +kernel
theorem dX12_bare_21 : decode cX12_bare 21 = .ok (.aload_n 0, 1) := by decide +kernel
theorem dX12_bare_22 : decode cX12_bare 22 = .ok (.getfield 7, 3) := by decide +kernel
theorem dX12_bare_25 : decode cX12_bare 25 = .ok (.iconst 0, 1) := by decide +kernel
theorem dX12_bare_26 : decode cX12_bare 26 = .ok (.iaload, 1) := by decide +kernel
theorem dX12_bare_27 : decode cX12_bare 27 = .ok (.invokevirtual 84, 3) := by decide +kernel
theorem dX12_bare_30 : decode cX12_bare 30 = .ok (.i2l, 1) := by decide +kernel
theorem dX12_bare_31 : decode cX12_bare 31 = .ok (.lmul, 1) := by decide +kernel
theorem dX12_bare_32 : decode cX12_bare 32 = .ok (.aload_n 0, 1) := by decide +kernel
theorem dX12_bare_33 : decode cX12_bare 33 = .ok (.invokevirtual 87, 3) := by decide +kernel
theorem dX12_bare_36 : decode cX12_bare 36 = .ok (.lmul, 1) := by decide +kernel
theorem dX12_bare_37 : decode cX12_bare 37 = .ok (.aload_n 0, 1) := by decide +kernel
theorem dX12_bare_38 : decode cX12_bare 38 = .ok (.iload_n 2, 1) := by decide +kernel
theorem dX12_bare_39 : decode cX12_bare 39 = .ok (.aload_n 0, 1) := by decide +kernel
theorem dX12_bare_40 : decode cX12_bare 40 = .ok (.getfield 7, 3) := by decide +kernel
theorem dX12_bare_43 : decode cX12_bare 43 = .ok (.iconst 0, 1) := by decide +kernel
theorem dX12_bare_44 : decode cX12_bare 44 = .ok (.iaload, 1) := by decide +kernel
theorem dX12_bare_45 : decode cX12_bare 45 = .ok (.invokevirtual 80, 3) := by decide +kernel
theorem dX12_bare_48 : decode cX12_bare 48 = .ok (.aload_n 0, 1) := by decide +kernel
theorem dX12_bare_49 : decode cX12_bare 49 = .ok (.getfield 7, 3) := by decide +kernel
theorem dX12_bare_52 : decode cX12_bare 52 = .ok (.iconst 0, 1) := by decide +kernel
theorem dX12_bare_53 : decode cX12_bare 53 = .ok (.iaload, 1) := by decide +kernel
theorem dX12_bare_54 : decode cX12_bare 54 = .ok (.i2l, 1) := by decide +kernel
theorem dX12_bare_55 : decode cX12_bare 55 = .ok (.lmul, 1) := by decide +kernel
theorem dX12_bare_56 : decode cX12_bare 56 = .ok (.ldiv, 1) := by decide +kernel
theorem dX12_bare_57 : decode cX12_bare 57 = .ok (.lreturn, 1) := by decide +kernel
theorem dX12_told_0 : decode cX12_told 0 = .ok (.iload_n 2, 1) := by decide +kernel
theorem dX12_told_1 : decode cX12_told 1 = .ok (.aload_n 0, 1) := by decide +kernel
theorem dX12_told_2 : decode cX12_told 2 = .ok (.getfield 7, 3) := by decide +kernel
theorem dX12_told_5 : decode cX12_told 5 = .ok (.iconst 5, 1) := by decide +kernel
theorem dX12_told_6 : decode cX12_told 6 = .ok (.iaload, 1) := by decide +kernel
theorem dX12_told_7 : decode cX12_told 7 = .ok (.irem, 1) := by decide +kernel
theorem dX12_told_8 : decode cX12_told 8 = .ok (.istore_n 3, 1) := by decide +kernel
theorem dX12_told_9 : decode cX12_told 9 = .ok (.aload_n 0, 1) := by decide +kernel
theorem dX12_told_10 : decode cX12_told 10 = .ok (.iload_n 3, 1) := by decide +kernel
theorem dX12_told_11 : decode cX12_told 11 = .ok (.iload_n 2, 1) := by decide +kernel
theorem dX12_told_12 : decode cX12_told 12 = .ok (.invokevirtual 84, 3) := by decide +kernel
theorem dX12_told_15 : decode cX12_told 15 = .ok (.istore 4, 2) := by decide +kernel
theorem dX12_told_17 : decode cX12_told 17 = .ok (.iload_n 1, 1) := by decide +kernel
theorem dX12_told_18 : decode cX12_told 18 = .ok (.iconst 2, 1) := by decide +kernel
theorem dX12_told_19 : decode cX12_told 19 = .ok (.if_icmp .ne 11, 3) := by decide +kernel
theorem dX12_told_22 : decode cX12_told 22 = .ok (.aload_n 0, 1) := by decide +kernel
theorem dX12_told_23 : decode cX12_told 23 = .ok (.iload_n 2, 1) := by decide +kernel
theorem dX12_told_24 : decode cX12_told 24 = .ok (.iconst 1, 1) := by decide +kernel
theorem dX12_told_25 : decode cX12_told 25 = .ok (.isub, 1) := by decide +kernel
theorem dX12_told_26 : decode cX12_told 26 = .ok (.invokevirtual 91, 3) := by decide +kernel
theorem dX12_told_29 : decode cX12_told 29 = .ok (.ireturn, 1) := by decide +kernel
theorem dX12_told_30 : decode cX12_told 30 = .ok (.iload_n 1, 1) := by decide +kernel
theorem dX12_told_31 : decode cX12_told 31 = .ok (.iconst 3, 1) := by decide +kernel
theorem dX12_told_32 : decode cX12_told 32 = .ok (.if_icmp .ne 24, 3) := by decide +kernel
theorem dX12_told_35 : decode cX12_told 35 = .ok (.iload 4, 2) := by decide +kernel
theorem dX12_told_37 : decode cX12_told 37 = .ok (.ifCond .le 19, 3) := by decide +kernel
theorem dX12_told_40 : decode cX12_told 40 = .ok (.ldc2_w 47, 3) := by decide +kernel
theorem dX12_told_43 : decode cX12_told 43 = .ok (.aload_n 0, 1) := by decide +kernel
theorem dX12_told_44 : decode cX12_told 44 = .ok (.iload_n 3, 1) := by decide +kernel
theorem dX12_told_45 : decode cX12_told 45 = .ok (.iload_n 2, 1) := by decide +kernel
theorem dX12_told_46 : decode cX12_told 46 = .ok (.invokevirtual 80, 3) := by decide +kernel
theorem dX12_told_49 : decode cX12_told 49 = .ok (.lmul, 1) := by decide +kernel
theorem dX12_told_50 : decode cX12_told 50 = .ok (.iload 4, 2) := by decide +kernel
theorem dX12_told_52 : decode cX12_told 52 = .ok (.i2l, 1) := by decide +kernel
theorem dX12_told_53 : decode cX12_told 53 = .ok (.ldiv, 1) := by decide +kernel
theorem dX12_told_54 : decode cX12_told 54 = .ok (.l2i, 1) := by decide +kernel
theorem dX12_told_55 : decode cX12_told 55 = .ok (.ireturn, 1) := by decide +kernel
theorem dX12_told_56 : decode cX12_told 56 = .ok (.aload_n 0, 1) := by decide +kernel
theorem dX12_told_57 : decode cX12_told 57 = .ok (.iload_n 2, 1) := by decide +kernel
theorem dX12_told_58 : decode cX12_told 58 = .ok (.iconst 1, 1) := by decide +kernel
theorem dX12_told_59 : decode cX12_told 59 = .ok (.isub, 1) := by decide +kernel
theorem dX12_told_60 : decode cX12_told 60 = .ok (.iload_n 1, 1) := by decide +kernel
theorem dX12_told_61 : decode cX12_told 61 = .ok (.ifCond .ne 12, 3) := by decide +kernel
theorem dX12_told_64 : decode cX12_told 64 = .ok (.aload_n 0, 1) := by decide +kernel
theorem dX12_told_65 : decode cX12_told 65 = .ok (.getfield 7, 3) := by decide +kernel
theorem dX12_told_68 : decode cX12_told 68 = .ok (.iconst 1, 1) := by decide +kernel
theorem dX12_told_69 : decode cX12_told 69 = .ok (.iaload, 1) := by decide +kernel
theorem dX12_told_70 : decode cX12_told 70 = .ok (.goto 9, 3) := by decide +kernel
theorem dX12_told_73 : decode cX12_told 73 = .ok (.aload_n 0, 1) := by decide +kernel
theorem dX12_told_74 : decode cX12_told 74 = .ok (.getfield 7, 3) := by decide +kernel
theorem dX12_told_77 : decode cX12_told 77 = .ok (.iconst 2, 1) := by decide +kernel
theorem dX12_told_78 : decode cX12_told 78 = .ok (.iaload, 1) := by decide +kernel
theorem dX12_told_79 : decode cX12_told 79 = .ok (.invokevirtual 56, 3) := by decide +kernel
theorem dX12_told_82 : decode cX12_told 82 = .ok (.ireturn, 1) := by decide +kernel
theorem dX12_errorOf_0 : decode cX12_errorOf 0 = .ok (.iconst 0, 1) := by decide +kernel
theorem dX12_errorOf_1 : decode cX12_errorOf 1 = .ok (.istore_n 2, 1) := by decide +kernel
theorem dX12_errorOf_2 : decode cX12_errorOf 2 = .ok (.iconst 1, 1) := by decide +kernel
theorem dX12_errorOf_3 : decode cX12_errorOf 3 = .ok (.istore_n 3, 1) := by decide +kernel
theorem dX12_errorOf_4 : decode cX12_errorOf 4 = .ok (.iload_n 3, 1) := by decide +kernel
theorem dX12_errorOf_5 : decode cX12_errorOf 5 = .ok (.aload_n 0, 1) := by decide +kernel
theorem dX12_errorOf_6 : decode cX12_errorOf 6 = .ok (.getfield 7, 3) := by decide +kernel
theorem dX12_errorOf_9 : decode cX12_errorOf 9 = .ok (.iconst 0, 1) := by decide +kernel
theorem dX12_errorOf_10 : decode cX12_errorOf 10 = .ok (.iaload, 1) := by decide +kernel
theorem dX12_errorOf_11 : decode cX12_errorOf 11 = .ok (.if_icmp .ge 43, 3) := by decide +kernel
theorem dX12_errorOf_14 : decode cX12_errorOf 14 = .ok (.aload_n 0, 1) := by decide +kernel
theorem dX12_errorOf_15 : decode cX12_errorOf 15 = .ok (.iload_n 1, 1) := by decide +kernel
theorem dX12_errorOf_16 : decode cX12_errorOf 16 = .ok (.iload_n 3, 1) := by decide +kernel
theorem dX12_errorOf_17 : decode cX12_errorOf 17 = .ok (.invokevirtual 94, 3) := by decide +kernel
theorem dX12_errorOf_20 : decode cX12_errorOf 20 = .ok (.sipush 1000, 3) := by decide +kernel
theorem dX12_errorOf_23 : decode cX12_errorOf 23 = .ok (.aload_n 0, 1) := by decide +kernel
theorem dX12_errorOf_24 : decode cX12_errorOf 24 = .ok (.iload_n 3, 1) := by decide +kernel
theorem dX12_errorOf_25 : decode cX12_errorOf 25 = .ok (.invokevirtual 43, 3) := by decide +kernel
theorem dX12_errorOf_28 : decode cX12_errorOf 28 = .ok (.imul, 1) := by decide +kernel
theorem dX12_errorOf_29 : decode cX12_errorOf 29 = .ok (.isub, 1) := by decide +kernel
theorem dX12_errorOf_30 : decode cX12_errorOf 30 = .ok (.istore 4, 2) := by decide +kernel
theorem dX12_errorOf_32 : decode cX12_errorOf 32 = .ok (.iload_n 2, 1) := by decide +kernel
theorem dX12_errorOf_33 : decode cX12_errorOf 33 = .ok (.iload 4, 2) := by decide +kernel
theorem dX12_errorOf_35 : decode cX12_errorOf 35 = .ok (.ifCond .ge 9, 3) := by decide +kernel
theorem dX12_errorOf_38 : decode cX12_errorOf 38 = .ok (.iload 4, 2) := by decide +kernel
theorem dX12_errorOf_40 : decode cX12_errorOf 40 = .ok (.ineg, 1) := by decide +kernel
theorem dX12_errorOf_41 : decode cX12_errorOf 41 = .ok (.goto 5, 3) := by decide +kernel
theorem dX12_errorOf_44 : decode cX12_errorOf 44 = .ok (.iload 4, 2) := by decide +kernel
theorem dX12_errorOf_46 : decode cX12_errorOf 46 = .ok (.iadd, 1) := by decide +kernel
theorem dX12_errorOf_47 : decode cX12_errorOf 47 = .ok (.istore_n 2, 1) := by decide +kernel
theorem dX12_errorOf_48 : decode cX12_errorOf 48 = .ok (.iinc 3 1, 3) := by decide +kernel
theorem dX12_errorOf_51 : decode cX12_errorOf 51 = .ok (.goto (-47), 3) := by decide +kernel
theorem dX12_errorOf_54 : decode cX12_errorOf 54 = .ok (.iload_n 2, 1) := by decide +kernel
theorem dX12_errorOf_55 : decode cX12_errorOf 55 = .ok (.aload_n 0, 1) := by decide +kernel
theorem dX12_errorOf_56 : decode cX12_errorOf 56 = .ok (.getfield 7, 3) := by decide +kernel
theorem dX12_errorOf_59 : decode cX12_errorOf 59 = .ok (.iconst 0, 1) := by decide +kernel
theorem dX12_errorOf_60 : decode cX12_errorOf 60 = .ok (.iaload, 1) := by decide +kernel
theorem dX12_errorOf_61 : decode cX12_errorOf 61 = .ok (.iconst 1, 1) := by decide +kernel
theorem dX12_errorOf_62 : decode cX12_errorOf 62 = .ok (.isub, 1) := by decide +kernel
theorem dX12_errorOf_63 : decode cX12_errorOf 63 = .ok (.idiv, 1) := by decide +kernel
theorem dX12_errorOf_64 : decode cX12_errorOf 64 = .ok (.ireturn, 1) := by decide +kernel
theorem dX12_best_0 : decode cX12_best 0 = .ok (.iconst 0, 1) := by decide +kernel
theorem dX12_best_1 : decode cX12_best 1 = .ok (.istore_n 1, 1) := by decide +kernel
theorem dX12_best_2 : decode cX12_best 2 = .ok (.iconst 1, 1) := by decide +kernel
theorem dX12_best_3 : decode cX12_best 3 = .ok (.istore_n 2, 1) := by decide +kernel
theorem dX12_best_4 : decode cX12_best 4 = .ok (.iload_n 2, 1) := by decide +kernel
theorem dX12_best_5 : decode cX12_best 5 = .ok (.iconst 4, 1) := by decide +kernel
theorem dX12_best_6 : decode cX12_best 6 = .ok (.if_icmp .ge 28, 3) := by decide +kernel
theorem dX12_best_9 : decode cX12_best 9 = .ok (.aload_n 0, 1) := by decide +kernel
theorem dX12_best_10 : decode cX12_best 10 = .ok (.iload_n 2, 1) := by decide +kernel
theorem dX12_best_11 : decode cX12_best 11 = .ok (.invokevirtual 97, 3) := by decide +kernel
theorem dX12_best_14 : decode cX12_best 14 = .ok (.aload_n 0, 1) := by decide +kernel
theorem dX12_best_15 : decode cX12_best 15 = .ok (.iload_n 1, 1) := by decide +kernel
theorem dX12_best_16 : decode cX12_best 16 = .ok (.invokevirtual 97, 3) := by decide +kernel
theorem dX12_best_19 : decode cX12_best 19 = .ok (.if_icmp .ge 7, 3) := by decide +kernel
theorem dX12_best_22 : decode cX12_best 22 = .ok (.iload_n 2, 1) := by decide +kernel
theorem dX12_best_23 : decode cX12_best 23 = .ok (.goto 4, 3) := by decide +kernel
theorem dX12_best_26 : decode cX12_best 26 = .ok (.iload_n 1, 1) := by decide +kernel
theorem dX12_best_27 : decode cX12_best 27 = .ok (.istore_n 1, 1) := by decide +kernel
theorem dX12_best_28 : decode cX12_best 28 = .ok (.iinc 2 1, 3) := by decide +kernel
theorem dX12_best_31 : decode cX12_best 31 = .ok (.goto (-27), 3) := by decide +kernel
theorem dX12_best_34 : decode cX12_best 34 = .ok (.iload_n 1, 1) := by decide +kernel
theorem dX12_best_35 : decode cX12_best 35 = .ok (.ireturn, 1) := by decide +kernel
theorem dX12_presses_0 : decode cX12_presses 0 = .ok (.aload_n 0, 1) := by decide +kernel
theorem dX12_presses_1 : decode cX12_presses 1 = .ok (.getfield 7, 3) := by decide +kernel
theorem dX12_presses_4 : decode cX12_presses 4 = .ok (.bipush 8, 2) := by decide +kernel
theorem dX12_presses_6 : decode cX12_presses 6 = .ok (.iload_n 1, 1) := by decide +kernel
theorem dX12_presses_7 : decode cX12_presses 7 = .ok (.iadd, 1) := by decide +kernel
theorem dX12_presses_8 : decode cX12_presses 8 = .ok (.aload_n 0, 1) := by decide +kernel
theorem dX12_presses_9 : decode cX12_presses 9 = .ok (.iload_n 1, 1) := by decide +kernel
theorem dX12_presses_10 : decode cX12_presses 10 = .ok (.invokevirtual 49, 3) := by decide +kernel
theorem dX12_presses_13 : decode cX12_presses 13 = .ok (.iastore, 1) := by decide +kernel
theorem dX12_presses_14 : decode cX12_presses 14 = .ok (.aload_n 0, 1) := by decide +kernel
theorem dX12_presses_15 : decode cX12_presses 15 = .ok (.iload_n 1, 1) := by decide +kernel
theorem dX12_presses_16 : decode cX12_presses 16 = .ok (.invokevirtual 43, 3) := by decide +kernel
theorem dX12_presses_19 : decode cX12_presses 19 = .ok (.ireturn, 1) := by decide +kernel
theorem dX12_pressesAll_0 : decode cX12_pressesAll 0 = .ok (.iconst 0, 1) := by decide +kernel
theorem dX12_pressesAll_1 : decode cX12_pressesAll 1 = .ok (.istore_n 1, 1) := by decide +kernel
theorem dX12_pressesAll_2 : decode cX12_pressesAll 2 = .ok (.iconst 0, 1) := by decide +kernel
theorem dX12_pressesAll_3 : decode cX12_pressesAll 3 = .ok (.istore_n 2, 1) := by decide +kernel
theorem dX12_pressesAll_4 : decode cX12_pressesAll 4 = .ok (.iload_n 2, 1) := by decide +kernel
theorem dX12_pressesAll_5 : decode cX12_pressesAll 5 = .ok (.aload_n 0, 1) := by decide +kernel
theorem dX12_pressesAll_6 : decode cX12_pressesAll 6 = .ok (.getfield 7, 3) := by decide +kernel
theorem dX12_pressesAll_9 : decode cX12_pressesAll 9 = .ok (.iconst 0, 1) := by decide +kernel
theorem dX12_pressesAll_10 : decode cX12_pressesAll 10 = .ok (.iaload, 1) := by decide +kernel
theorem dX12_pressesAll_11 : decode cX12_pressesAll 11 = .ok (.if_icmp .ge 26, 3) := by decide +kernel
theorem dX12_pressesAll_14 : decode cX12_pressesAll 14 = .ok (.aload_n 0, 1) := by decide +kernel
theorem dX12_pressesAll_15 : decode cX12_pressesAll 15 = .ok (.iload_n 2, 1) := by decide +kernel
theorem dX12_pressesAll_16 : decode cX12_pressesAll 16 = .ok (.invokevirtual 52, 3) := by decide +kernel
theorem dX12_pressesAll_19 : decode cX12_pressesAll 19 = .ok (.ifCond .eq 12, 3) := by decide +kernel
theorem dX12_pressesAll_22 : decode cX12_pressesAll 22 = .ok (.aload_n 0, 1) := by decide +kernel
theorem dX12_pressesAll_23 : decode cX12_pressesAll 23 = .ok (.iload_n 2, 1) := by decide +kernel
theorem dX12_pressesAll_24 : decode cX12_pressesAll 24 = .ok (.invokevirtual 100, 3) := by decide +kernel
theorem dX12_pressesAll_27 : decode cX12_pressesAll 27 = .ok (.pop, 1) := by decide +kernel
theorem dX12_pressesAll_28 : decode cX12_pressesAll 28 = .ok (.iinc 1 1, 3) := by decide +kernel
theorem dX12_pressesAll_31 : decode cX12_pressesAll 31 = .ok (.iinc 2 1, 3) := by decide +kernel
theorem dX12_pressesAll_34 : decode cX12_pressesAll 34 = .ok (.goto (-30), 3) := by decide +kernel
theorem dX12_pressesAll_37 : decode cX12_pressesAll 37 = .ok (.iload_n 1, 1) := by decide +kernel
theorem dX12_pressesAll_38 : decode cX12_pressesAll 38 = .ok (.ireturn, 1) := by decide +kernel
theorem dX12_adds_0 : decode cX12_adds 0 = .ok (.aload_n 0, 1) := by decide +kernel
theorem dX12_adds_1 : decode cX12_adds 1 = .ok (.getfield 7, 3) := by decide +kernel
theorem dX12_adds_4 : decode cX12_adds 4 = .ok (.bipush 8, 2) := by decide +kernel
theorem dX12_adds_6 : decode cX12_adds 6 = .ok (.aload_n 0, 1) := by decide +kernel
theorem dX12_adds_7 : decode cX12_adds 7 = .ok (.getfield 7, 3) := by decide +kernel
theorem dX12_adds_10 : decode cX12_adds 10 = .ok (.iconst 0, 1) := by decide +kernel
theorem dX12_adds_11 : decode cX12_adds 11 = .ok (.iaload, 1) := by decide +kernel
theorem dX12_adds_12 : decode cX12_adds 12 = .ok (.iadd, 1) := by decide +kernel
theorem dX12_adds_13 : decode cX12_adds 13 = .ok (.iload_n 1, 1) := by decide +kernel
theorem dX12_adds_14 : decode cX12_adds 14 = .ok (.iastore, 1) := by decide +kernel
theorem dX12_adds_15 : decode cX12_adds 15 = .ok (.aload_n 0, 1) := by decide +kernel
theorem dX12_adds_16 : decode cX12_adds 16 = .ok (.getfield 7, 3) := by decide +kernel
theorem dX12_adds_19 : decode cX12_adds 19 = .ok (.iconst 0, 1) := by decide +kernel
theorem dX12_adds_20 : decode cX12_adds 20 = .ok (.dup2, 1) := by decide +kernel
theorem dX12_adds_21 : decode cX12_adds 21 = .ok (.iaload, 1) := by decide +kernel
theorem dX12_adds_22 : decode cX12_adds 22 = .ok (.iconst 1, 1) := by decide +kernel
theorem dX12_adds_23 : decode cX12_adds 23 = .ok (.iadd, 1) := by decide +kernel
theorem dX12_adds_24 : decode cX12_adds 24 = .ok (.iastore, 1) := by decide +kernel
theorem dX12_adds_25 : decode cX12_adds 25 = .ok (.return_, 1) := by decide +kernel
theorem dX12_sets_0 : decode cX12_sets 0 = .ok (.aload_n 0, 1) := by decide +kernel
theorem dX12_sets_1 : decode cX12_sets 1 = .ok (.getfield 7, 3) := by decide +kernel
theorem dX12_sets_4 : decode cX12_sets 4 = .ok (.iload_n 1, 1) := by decide +kernel
theorem dX12_sets_5 : decode cX12_sets 5 = .ok (.iaload, 1) := by decide +kernel
theorem dX12_sets_6 : decode cX12_sets 6 = .ok (.istore_n 3, 1) := by decide +kernel
theorem dX12_sets_7 : decode cX12_sets 7 = .ok (.aload_n 0, 1) := by decide +kernel
theorem dX12_sets_8 : decode cX12_sets 8 = .ok (.getfield 7, 3) := by decide +kernel
theorem dX12_sets_11 : decode cX12_sets 11 = .ok (.iload_n 1, 1) := by decide +kernel
theorem dX12_sets_12 : decode cX12_sets 12 = .ok (.iload_n 2, 1) := by decide +kernel
theorem dX12_sets_13 : decode cX12_sets 13 = .ok (.iastore, 1) := by decide +kernel
theorem dX12_sets_14 : decode cX12_sets 14 = .ok (.iload_n 3, 1) := by decide +kernel
theorem dX12_sets_15 : decode cX12_sets 15 = .ok (.ireturn, 1) := by decide +kernel
theorem dX12_addPrice_0 : decode cX12_addPrice 0 = .ok (.aload_n 0, 1) := by decide +kernel
theorem dX12_addPrice_1 : decode cX12_addPrice 1 = .ok (.iconst 0, 1) := by decide +kernel
theorem dX12_addPrice_2 : decode cX12_addPrice 2 = .ok (.putfield 28, 3) := by decide +kernel
theorem dX12_addPrice_5 : decode cX12_addPrice 5 = .ok (.iload_n 1, 1) := by decide +kernel
theorem dX12_addPrice_6 : decode cX12_addPrice 6 = .ok (.invokestatic 103, 3) := by decide +kernel
theorem dX12_addPrice_9 : decode cX12_addPrice 9 = .ok (.ifCond .ne 9, 3) := by decide +kernel
theorem dX12_addPrice_12 : decode cX12_addPrice 12 = .ok (.aload_n 0, 1) := by decide +kernel
theorem dX12_addPrice_13 : decode cX12_addPrice 13 = .ok (.iconst 1, 1) := by decide +kernel
theorem dX12_addPrice_14 : decode cX12_addPrice 14 = .ok (.invokevirtual 106, 3) := by decide +kernel
theorem dX12_addPrice_17 : decode cX12_addPrice 17 = .ok (.ireturn, 1) := by decide +kernel
theorem dX12_addPrice_18 : decode cX12_addPrice 18 = .ok (.aload_n 0, 1) := by decide +kernel
theorem dX12_addPrice_19 : decode cX12_addPrice 19 = .ok (.getfield 7, 3) := by decide +kernel
theorem dX12_addPrice_22 : decode cX12_addPrice 22 = .ok (.iconst 0, 1) := by decide +kernel
theorem dX12_addPrice_23 : decode cX12_addPrice 23 = .ok (.iaload, 1) := by decide +kernel
theorem dX12_addPrice_24 : decode cX12_addPrice 24 = .ok (.bipush 60, 2) := by decide +kernel
theorem dX12_addPrice_26 : decode cX12_addPrice 26 = .ok (.if_icmp .ne 9, 3) := by decide +kernel
theorem dX12_addPrice_29 : decode cX12_addPrice 29 = .ok (.aload_n 0, 1) := by decide +kernel
theorem dX12_addPrice_30 : decode cX12_addPrice 30 = .ok (.iconst 2, 1) := by decide +kernel
theorem dX12_addPrice_31 : decode cX12_addPrice 31 = .ok (.invokevirtual 106, 3) := by decide +kernel
theorem dX12_addPrice_34 : decode cX12_addPrice 34 = .ok (.ireturn, 1) := by decide +kernel
theorem dX12_addPrice_35 : decode cX12_addPrice 35 = .ok (.aload_n 0, 1) := by decide +kernel
theorem dX12_addPrice_36 : decode cX12_addPrice 36 = .ok (.invokevirtual 109, 3) := by decide +kernel
theorem dX12_addPrice_39 : decode cX12_addPrice 39 = .ok (.aload_n 0, 1) := by decide +kernel
theorem dX12_addPrice_40 : decode cX12_addPrice 40 = .ok (.iload_n 1, 1) := by decide +kernel
theorem dX12_addPrice_41 : decode cX12_addPrice 41 = .ok (.invokevirtual 112, 3) := by decide +kernel
theorem dX12_addPrice_44 : decode cX12_addPrice 44 = .ok (.aload_n 0, 1) := by decide +kernel
theorem dX12_addPrice_45 : decode cX12_addPrice 45 = .ok (.getfield 7, 3) := by decide +kernel
theorem dX12_addPrice_48 : decode cX12_addPrice 48 = .ok (.iconst 0, 1) := by decide +kernel
theorem dX12_addPrice_49 : decode cX12_addPrice 49 = .ok (.iaload, 1) := by decide +kernel
theorem dX12_addPrice_50 : decode cX12_addPrice 50 = .ok (.iconst 1, 1) := by decide +kernel
theorem dX12_addPrice_51 : decode cX12_addPrice 51 = .ok (.isub, 1) := by decide +kernel
theorem dX12_addPrice_52 : decode cX12_addPrice 52 = .ok (.ireturn, 1) := by decide +kernel
theorem dX12_setPrice_0 : decode cX12_setPrice 0 = .ok (.aload_n 0, 1) := by decide +kernel
theorem dX12_setPrice_1 : decode cX12_setPrice 1 = .ok (.iconst 0, 1) := by decide +kernel
theorem dX12_setPrice_2 : decode cX12_setPrice 2 = .ok (.putfield 28, 3) := by decide +kernel
theorem dX12_setPrice_5 : decode cX12_setPrice 5 = .ok (.aload_n 0, 1) := by decide +kernel
theorem dX12_setPrice_6 : decode cX12_setPrice 6 = .ok (.iload_n 1, 1) := by decide +kernel
theorem dX12_setPrice_7 : decode cX12_setPrice 7 = .ok (.invokevirtual 115, 3) := by decide +kernel
theorem dX12_setPrice_10 : decode cX12_setPrice 10 = .ok (.ifCond .ne 9, 3) := by decide +kernel
theorem dX12_setPrice_13 : decode cX12_setPrice 13 = .ok (.aload_n 0, 1) := by decide +kernel
theorem dX12_setPrice_14 : decode cX12_setPrice 14 = .ok (.iconst 1, 1) := by decide +kernel
theorem dX12_setPrice_15 : decode cX12_setPrice 15 = .ok (.invokevirtual 106, 3) := by decide +kernel
theorem dX12_setPrice_18 : decode cX12_setPrice 18 = .ok (.ireturn, 1) := by decide +kernel
theorem dX12_setPrice_19 : decode cX12_setPrice 19 = .ok (.iload_n 2, 1) := by decide +kernel
theorem dX12_setPrice_20 : decode cX12_setPrice 20 = .ok (.invokestatic 103, 3) := by decide +kernel
theorem dX12_setPrice_23 : decode cX12_setPrice 23 = .ok (.ifCond .ne 9, 3) := by decide +kernel
theorem dX12_setPrice_26 : decode cX12_setPrice 26 = .ok (.aload_n 0, 1) := by decide +kernel
theorem dX12_setPrice_27 : decode cX12_setPrice 27 = .ok (.iconst 2, 1) := by decide +kernel
theorem dX12_setPrice_28 : decode cX12_setPrice 28 = .ok (.invokevirtual 106, 3) := by decide +kernel
theorem dX12_setPrice_31 : decode cX12_setPrice 31 = .ok (.ireturn, 1) := by decide +kernel
theorem dX12_setPrice_32 : decode cX12_setPrice 32 = .ok (.aload_n 0, 1) := by decide +kernel
theorem dX12_setPrice_33 : decode cX12_setPrice 33 = .ok (.invokevirtual 109, 3) := by decide +kernel
theorem dX12_setPrice_36 : decode cX12_setPrice 36 = .ok (.aload_n 0, 1) := by decide +kernel
theorem dX12_setPrice_37 : decode cX12_setPrice 37 = .ok (.bipush 8, 2) := by decide +kernel
theorem dX12_setPrice_39 : decode cX12_setPrice 39 = .ok (.iload_n 1, 1) := by decide +kernel
theorem dX12_setPrice_40 : decode cX12_setPrice 40 = .ok (.iadd, 1) := by decide +kernel
theorem dX12_setPrice_41 : decode cX12_setPrice 41 = .ok (.iload_n 2, 1) := by decide +kernel
theorem dX12_setPrice_42 : decode cX12_setPrice 42 = .ok (.invokevirtual 118, 3) := by decide +kernel
theorem dX12_setPrice_45 : decode cX12_setPrice 45 = .ok (.ireturn, 1) := by decide +kernel
theorem dX12_dropOldest_0 : decode cX12_dropOldest 0 = .ok (.aload_n 0, 1) := by decide +kernel
theorem dX12_dropOldest_1 : decode cX12_dropOldest 1 = .ok (.iconst 0, 1) := by decide +kernel
theorem dX12_dropOldest_2 : decode cX12_dropOldest 2 = .ok (.putfield 28, 3) := by decide +kernel
theorem dX12_dropOldest_5 : decode cX12_dropOldest 5 = .ok (.iload_n 1, 1) := by decide +kernel
theorem dX12_dropOldest_6 : decode cX12_dropOldest 6 = .ok (.iconst 1, 1) := by decide +kernel
theorem dX12_dropOldest_7 : decode cX12_dropOldest 7 = .ok (.bipush 60, 2) := by decide +kernel
theorem dX12_dropOldest_9 : decode cX12_dropOldest 9 = .ok (.invokestatic 32, 3) := by decide +kernel
theorem dX12_dropOldest_12 : decode cX12_dropOldest 12 = .ok (.ifCond .ne 9, 3) := by decide +kernel
theorem dX12_dropOldest_15 : decode cX12_dropOldest 15 = .ok (.aload_n 0, 1) := by decide +kernel
theorem dX12_dropOldest_16 : decode cX12_dropOldest 16 = .ok (.iconst 1, 1) := by decide +kernel
theorem dX12_dropOldest_17 : decode cX12_dropOldest 17 = .ok (.invokevirtual 106, 3) := by decide +kernel
theorem dX12_dropOldest_20 : decode cX12_dropOldest 20 = .ok (.ireturn, 1) := by decide +kernel
theorem dX12_dropOldest_21 : decode cX12_dropOldest 21 = .ok (.iload_n 1, 1) := by decide +kernel
theorem dX12_dropOldest_22 : decode cX12_dropOldest 22 = .ok (.aload_n 0, 1) := by decide +kernel
theorem dX12_dropOldest_23 : decode cX12_dropOldest 23 = .ok (.getfield 7, 3) := by decide +kernel
theorem dX12_dropOldest_26 : decode cX12_dropOldest 26 = .ok (.iconst 0, 1) := by decide +kernel
theorem dX12_dropOldest_27 : decode cX12_dropOldest 27 = .ok (.iaload, 1) := by decide +kernel
theorem dX12_dropOldest_28 : decode cX12_dropOldest 28 = .ok (.if_icmp .le 9, 3) := by decide +kernel
theorem dX12_dropOldest_31 : decode cX12_dropOldest 31 = .ok (.aload_n 0, 1) := by decide +kernel
theorem dX12_dropOldest_32 : decode cX12_dropOldest 32 = .ok (.iconst 2, 1) := by decide +kernel
theorem dX12_dropOldest_33 : decode cX12_dropOldest 33 = .ok (.invokevirtual 106, 3) := by decide +kernel
theorem dX12_dropOldest_36 : decode cX12_dropOldest 36 = .ok (.ireturn, 1) := by decide +kernel
theorem dX12_dropOldest_37 : decode cX12_dropOldest 37 = .ok (.aload_n 0, 1) := by decide +kernel
theorem dX12_dropOldest_38 : decode cX12_dropOldest 38 = .ok (.invokevirtual 109, 3) := by decide +kernel
theorem dX12_dropOldest_41 : decode cX12_dropOldest 41 = .ok (.iconst 0, 1) := by decide +kernel
theorem dX12_dropOldest_42 : decode cX12_dropOldest 42 = .ok (.istore_n 2, 1) := by decide +kernel
theorem dX12_dropOldest_43 : decode cX12_dropOldest 43 = .ok (.iload_n 2, 1) := by decide +kernel
theorem dX12_dropOldest_44 : decode cX12_dropOldest 44 = .ok (.aload_n 0, 1) := by decide +kernel
theorem dX12_dropOldest_45 : decode cX12_dropOldest 45 = .ok (.getfield 7, 3) := by decide +kernel
theorem dX12_dropOldest_48 : decode cX12_dropOldest 48 = .ok (.iconst 0, 1) := by decide +kernel
theorem dX12_dropOldest_49 : decode cX12_dropOldest 49 = .ok (.iaload, 1) := by decide +kernel
theorem dX12_dropOldest_50 : decode cX12_dropOldest 50 = .ok (.if_icmp .ge 41, 3) := by decide +kernel
theorem dX12_dropOldest_53 : decode cX12_dropOldest 53 = .ok (.aload_n 0, 1) := by decide +kernel
theorem dX12_dropOldest_54 : decode cX12_dropOldest 54 = .ok (.getfield 7, 3) := by decide +kernel
theorem dX12_dropOldest_57 : decode cX12_dropOldest 57 = .ok (.bipush 8, 2) := by decide +kernel
theorem dX12_dropOldest_59 : decode cX12_dropOldest 59 = .ok (.iload_n 2, 1) := by decide +kernel
theorem dX12_dropOldest_60 : decode cX12_dropOldest 60 = .ok (.iadd, 1) := by decide +kernel
theorem dX12_dropOldest_61 : decode cX12_dropOldest 61 = .ok (.iload_n 2, 1) := by decide +kernel
theorem dX12_dropOldest_62 : decode cX12_dropOldest 62 = .ok (.iload_n 1, 1) := by decide +kernel
theorem dX12_dropOldest_63 : decode cX12_dropOldest 63 = .ok (.iadd, 1) := by decide +kernel
theorem dX12_dropOldest_64 : decode cX12_dropOldest 64 = .ok (.aload_n 0, 1) := by decide +kernel
theorem dX12_dropOldest_65 : decode cX12_dropOldest 65 = .ok (.getfield 7, 3) := by decide +kernel
theorem dX12_dropOldest_68 : decode cX12_dropOldest 68 = .ok (.iconst 0, 1) := by decide +kernel
theorem dX12_dropOldest_69 : decode cX12_dropOldest 69 = .ok (.iaload, 1) := by decide +kernel
theorem dX12_dropOldest_70 : decode cX12_dropOldest 70 = .ok (.if_icmp .ge 13, 3) := by decide +kernel
theorem dX12_dropOldest_73 : decode cX12_dropOldest 73 = .ok (.aload_n 0, 1) := by decide +kernel
theorem dX12_dropOldest_74 : decode cX12_dropOldest 74 = .ok (.iload_n 2, 1) := by decide +kernel
theorem dX12_dropOldest_75 : decode cX12_dropOldest 75 = .ok (.iload_n 1, 1) := by decide +kernel
theorem dX12_dropOldest_76 : decode cX12_dropOldest 76 = .ok (.iadd, 1) := by decide +kernel
theorem dX12_dropOldest_77 : decode cX12_dropOldest 77 = .ok (.invokevirtual 43, 3) := by decide +kernel
theorem dX12_dropOldest_80 : decode cX12_dropOldest 80 = .ok (.goto 4, 3) := by decide +kernel
theorem dX12_dropOldest_83 : decode cX12_dropOldest 83 = .ok (.iconst 0, 1) := by decide +kernel
theorem dX12_dropOldest_84 : decode cX12_dropOldest 84 = .ok (.iastore, 1) := by decide +kernel
theorem dX12_dropOldest_85 : decode cX12_dropOldest 85 = .ok (.iinc 2 1, 3) := by decide +kernel
theorem dX12_dropOldest_88 : decode cX12_dropOldest 88 = .ok (.goto (-45), 3) := by decide +kernel
theorem dX12_dropOldest_91 : decode cX12_dropOldest 91 = .ok (.aload_n 0, 1) := by decide +kernel
theorem dX12_dropOldest_92 : decode cX12_dropOldest 92 = .ok (.getfield 7, 3) := by decide +kernel
theorem dX12_dropOldest_95 : decode cX12_dropOldest 95 = .ok (.iconst 0, 1) := by decide +kernel
theorem dX12_dropOldest_96 : decode cX12_dropOldest 96 = .ok (.dup2, 1) := by decide +kernel
theorem dX12_dropOldest_97 : decode cX12_dropOldest 97 = .ok (.iaload, 1) := by decide +kernel
theorem dX12_dropOldest_98 : decode cX12_dropOldest 98 = .ok (.iload_n 1, 1) := by decide +kernel
theorem dX12_dropOldest_99 : decode cX12_dropOldest 99 = .ok (.isub, 1) := by decide +kernel
theorem dX12_dropOldest_100 : decode cX12_dropOldest 100 = .ok (.iastore, 1) := by decide +kernel
theorem dX12_dropOldest_101 : decode cX12_dropOldest 101 = .ok (.aload_n 0, 1) := by decide +kernel
theorem dX12_dropOldest_102 : decode cX12_dropOldest 102 = .ok (.getfield 7, 3) := by decide +kernel
theorem dX12_dropOldest_105 : decode cX12_dropOldest 105 = .ok (.iconst 0, 1) := by decide +kernel
theorem dX12_dropOldest_106 : decode cX12_dropOldest 106 = .ok (.iaload, 1) := by decide +kernel
theorem dX12_dropOldest_107 : decode cX12_dropOldest 107 = .ok (.ireturn, 1) := by decide +kernel
theorem dX12_press_0 : decode cX12_press 0 = .ok (.aload_n 0, 1) := by decide +kernel
theorem dX12_press_1 : decode cX12_press 1 = .ok (.iconst 0, 1) := by decide +kernel
theorem dX12_press_2 : decode cX12_press 2 = .ok (.putfield 28, 3) := by decide +kernel
theorem dX12_press_5 : decode cX12_press 5 = .ok (.aload_n 0, 1) := by decide +kernel
theorem dX12_press_6 : decode cX12_press 6 = .ok (.iload_n 1, 1) := by decide +kernel
theorem dX12_press_7 : decode cX12_press 7 = .ok (.invokevirtual 115, 3) := by decide +kernel
theorem dX12_press_10 : decode cX12_press 10 = .ok (.ifCond .ne 9, 3) := by decide +kernel
theorem dX12_press_13 : decode cX12_press 13 = .ok (.aload_n 0, 1) := by decide +kernel
theorem dX12_press_14 : decode cX12_press 14 = .ok (.iconst 1, 1) := by decide +kernel
theorem dX12_press_15 : decode cX12_press 15 = .ok (.invokevirtual 106, 3) := by decide +kernel
theorem dX12_press_18 : decode cX12_press 18 = .ok (.ireturn, 1) := by decide +kernel
theorem dX12_press_19 : decode cX12_press 19 = .ok (.aload_n 0, 1) := by decide +kernel
theorem dX12_press_20 : decode cX12_press 20 = .ok (.iload_n 1, 1) := by decide +kernel
theorem dX12_press_21 : decode cX12_press 21 = .ok (.invokevirtual 52, 3) := by decide +kernel
theorem dX12_press_24 : decode cX12_press 24 = .ok (.ifCond .ne 9, 3) := by decide +kernel
theorem dX12_press_27 : decode cX12_press 27 = .ok (.aload_n 0, 1) := by decide +kernel
theorem dX12_press_28 : decode cX12_press 28 = .ok (.iconst 2, 1) := by decide +kernel
theorem dX12_press_29 : decode cX12_press 29 = .ok (.invokevirtual 106, 3) := by decide +kernel
theorem dX12_press_32 : decode cX12_press 32 = .ok (.ireturn, 1) := by decide +kernel
theorem dX12_press_33 : decode cX12_press 33 = .ok (.aload_n 0, 1) := by decide +kernel
theorem dX12_press_34 : decode cX12_press 34 = .ok (.invokevirtual 109, 3) := by decide +kernel
theorem dX12_press_37 : decode cX12_press 37 = .ok (.aload_n 0, 1) := by decide +kernel
theorem dX12_press_38 : decode cX12_press 38 = .ok (.iload_n 1, 1) := by decide +kernel
theorem dX12_press_39 : decode cX12_press 39 = .ok (.invokevirtual 100, 3) := by decide +kernel
theorem dX12_press_42 : decode cX12_press 42 = .ok (.ireturn, 1) := by decide +kernel
theorem dX12_pressAll_0 : decode cX12_pressAll 0 = .ok (.aload_n 0, 1) := by decide +kernel
theorem dX12_pressAll_1 : decode cX12_pressAll 1 = .ok (.iconst 0, 1) := by decide +kernel
theorem dX12_pressAll_2 : decode cX12_pressAll 2 = .ok (.putfield 28, 3) := by decide +kernel
theorem dX12_pressAll_5 : decode cX12_pressAll 5 = .ok (.aload_n 0, 1) := by decide +kernel
theorem dX12_pressAll_6 : decode cX12_pressAll 6 = .ok (.invokevirtual 109, 3) := by decide +kernel
theorem dX12_pressAll_9 : decode cX12_pressAll 9 = .ok (.aload_n 0, 1) := by decide +kernel
theorem dX12_pressAll_10 : decode cX12_pressAll 10 = .ok (.invokevirtual 121, 3) := by decide +kernel
theorem dX12_pressAll_13 : decode cX12_pressAll 13 = .ok (.ireturn, 1) := by decide +kernel
theorem dX12_setWindows_0 : decode cX12_setWindows 0 = .ok (.aload_n 0, 1) := by decide +kernel
theorem dX12_setWindows_1 : decode cX12_setWindows 1 = .ok (.iconst 0, 1) := by decide +kernel
theorem dX12_setWindows_2 : decode cX12_setWindows 2 = .ok (.putfield 28, 3) := by decide +kernel
theorem dX12_setWindows_5 : decode cX12_setWindows 5 = .ok (.iload_n 1, 1) := by decide +kernel
theorem dX12_setWindows_6 : decode cX12_setWindows 6 = .ok (.iconst 1, 1) := by decide +kernel
theorem dX12_setWindows_7 : decode cX12_setWindows 7 = .ok (.bipush 10, 2) := by decide +kernel
theorem dX12_setWindows_9 : decode cX12_setWindows 9 = .ok (.invokestatic 32, 3) := by decide +kernel
theorem dX12_setWindows_12 : decode cX12_setWindows 12 = .ok (.ifCond .eq 18, 3) := by decide +kernel
theorem dX12_setWindows_15 : decode cX12_setWindows 15 = .ok (.iload_n 2, 1) := by decide +kernel
theorem dX12_setWindows_16 : decode cX12_setWindows 16 = .ok (.iconst 2, 1) := by decide +kernel
theorem dX12_setWindows_17 : decode cX12_setWindows 17 = .ok (.bipush 20, 2) := by decide +kernel
theorem dX12_setWindows_19 : decode cX12_setWindows 19 = .ok (.invokestatic 32, 3) := by decide +kernel
theorem dX12_setWindows_22 : decode cX12_setWindows 22 = .ok (.ifCond .eq 8, 3) := by decide +kernel
theorem dX12_setWindows_25 : decode cX12_setWindows 25 = .ok (.iload_n 1, 1) := by decide +kernel
theorem dX12_setWindows_26 : decode cX12_setWindows 26 = .ok (.iload_n 2, 1) := by decide +kernel
theorem dX12_setWindows_27 : decode cX12_setWindows 27 = .ok (.if_icmp .lt 9, 3) := by decide +kernel
theorem dX12_setWindows_30 : decode cX12_setWindows 30 = .ok (.aload_n 0, 1) := by decide +kernel
theorem dX12_setWindows_31 : decode cX12_setWindows 31 = .ok (.iconst 1, 1) := by decide +kernel
theorem dX12_setWindows_32 : decode cX12_setWindows 32 = .ok (.invokevirtual 106, 3) := by decide +kernel
theorem dX12_setWindows_35 : decode cX12_setWindows 35 = .ok (.ireturn, 1) := by decide +kernel
theorem dX12_setWindows_36 : decode cX12_setWindows 36 = .ok (.aload_n 0, 1) := by decide +kernel
theorem dX12_setWindows_37 : decode cX12_setWindows 37 = .ok (.invokevirtual 109, 3) := by decide +kernel
theorem dX12_setWindows_40 : decode cX12_setWindows 40 = .ok (.aload_n 0, 1) := by decide +kernel
theorem dX12_setWindows_41 : decode cX12_setWindows 41 = .ok (.getfield 7, 3) := by decide +kernel
theorem dX12_setWindows_44 : decode cX12_setWindows 44 = .ok (.iconst 1, 1) := by decide +kernel
theorem dX12_setWindows_45 : decode cX12_setWindows 45 = .ok (.iload_n 1, 1) := by decide +kernel
theorem dX12_setWindows_46 : decode cX12_setWindows 46 = .ok (.iastore, 1) := by decide +kernel
theorem dX12_setWindows_47 : decode cX12_setWindows 47 = .ok (.aload_n 0, 1) := by decide +kernel
theorem dX12_setWindows_48 : decode cX12_setWindows 48 = .ok (.iconst 2, 1) := by decide +kernel
theorem dX12_setWindows_49 : decode cX12_setWindows 49 = .ok (.iload_n 2, 1) := by decide +kernel
theorem dX12_setWindows_50 : decode cX12_setWindows 50 = .ok (.invokevirtual 118, 3) := by decide +kernel
theorem dX12_setWindows_53 : decode cX12_setWindows 53 = .ok (.ireturn, 1) := by decide +kernel
theorem dX12_setMemory_0 : decode cX12_setMemory 0 = .ok (.aload_n 0, 1) := by decide +kernel
theorem dX12_setMemory_1 : decode cX12_setMemory 1 = .ok (.iconst 0, 1) := by decide +kernel
theorem dX12_setMemory_2 : decode cX12_setMemory 2 = .ok (.putfield 28, 3) := by decide +kernel
theorem dX12_setMemory_5 : decode cX12_setMemory 5 = .ok (.iload_n 1, 1) := by decide +kernel
theorem dX12_setMemory_6 : decode cX12_setMemory 6 = .ok (.iconst 0, 1) := by decide +kernel
theorem dX12_setMemory_7 : decode cX12_setMemory 7 = .ok (.bipush 9, 2) := by decide +kernel
theorem dX12_setMemory_9 : decode cX12_setMemory 9 = .ok (.invokestatic 32, 3) := by decide +kernel
theorem dX12_setMemory_12 : decode cX12_setMemory 12 = .ok (.ifCond .ne 9, 3) := by decide +kernel
theorem dX12_setMemory_15 : decode cX12_setMemory 15 = .ok (.aload_n 0, 1) := by decide +kernel
theorem dX12_setMemory_16 : decode cX12_setMemory 16 = .ok (.iconst 1, 1) := by decide +kernel
theorem dX12_setMemory_17 : decode cX12_setMemory 17 = .ok (.invokevirtual 106, 3) := by decide +kernel
theorem dX12_setMemory_20 : decode cX12_setMemory 20 = .ok (.ireturn, 1) := by decide +kernel
theorem dX12_setMemory_21 : decode cX12_setMemory 21 = .ok (.aload_n 0, 1) := by decide +kernel
theorem dX12_setMemory_22 : decode cX12_setMemory 22 = .ok (.invokevirtual 109, 3) := by decide +kernel
theorem dX12_setMemory_25 : decode cX12_setMemory 25 = .ok (.aload_n 0, 1) := by decide +kernel
theorem dX12_setMemory_26 : decode cX12_setMemory 26 = .ok (.iconst 3, 1) := by decide +kernel
theorem dX12_setMemory_27 : decode cX12_setMemory 27 = .ok (.iload_n 1, 1) := by decide +kernel
theorem dX12_setMemory_28 : decode cX12_setMemory 28 = .ok (.invokevirtual 118, 3) := by decide +kernel
theorem dX12_setMemory_31 : decode cX12_setMemory 31 = .ok (.ireturn, 1) := by decide +kernel
theorem dX12_setLimit_0 : decode cX12_setLimit 0 = .ok (.aload_n 0, 1) := by decide +kernel
theorem dX12_setLimit_1 : decode cX12_setLimit 1 = .ok (.iconst 0, 1) := by decide +kernel
theorem dX12_setLimit_2 : decode cX12_setLimit 2 = .ok (.putfield 28, 3) := by decide +kernel
theorem dX12_setLimit_5 : decode cX12_setLimit 5 = .ok (.iload_n 1, 1) := by decide +kernel
theorem dX12_setLimit_6 : decode cX12_setLimit 6 = .ok (.iconst 0, 1) := by decide +kernel
theorem dX12_setLimit_7 : decode cX12_setLimit 7 = .ok (.sipush 9999, 3) := by decide +kernel
theorem dX12_setLimit_10 : decode cX12_setLimit 10 = .ok (.invokestatic 32, 3) := by decide +kernel
theorem dX12_setLimit_13 : decode cX12_setLimit 13 = .ok (.ifCond .ne 9, 3) := by decide +kernel
theorem dX12_setLimit_16 : decode cX12_setLimit 16 = .ok (.aload_n 0, 1) := by decide +kernel
theorem dX12_setLimit_17 : decode cX12_setLimit 17 = .ok (.iconst 1, 1) := by decide +kernel
theorem dX12_setLimit_18 : decode cX12_setLimit 18 = .ok (.invokevirtual 106, 3) := by decide +kernel
theorem dX12_setLimit_21 : decode cX12_setLimit 21 = .ok (.ireturn, 1) := by decide +kernel
theorem dX12_setLimit_22 : decode cX12_setLimit 22 = .ok (.aload_n 0, 1) := by decide +kernel
theorem dX12_setLimit_23 : decode cX12_setLimit 23 = .ok (.invokevirtual 109, 3) := by decide +kernel
theorem dX12_setLimit_26 : decode cX12_setLimit 26 = .ok (.aload_n 0, 1) := by decide +kernel
theorem dX12_setLimit_27 : decode cX12_setLimit 27 = .ok (.iconst 4, 1) := by decide +kernel
theorem dX12_setLimit_28 : decode cX12_setLimit 28 = .ok (.iload_n 1, 1) := by decide +kernel
theorem dX12_setLimit_29 : decode cX12_setLimit 29 = .ok (.invokevirtual 118, 3) := by decide +kernel
theorem dX12_setLimit_32 : decode cX12_setLimit 32 = .ok (.ireturn, 1) := by decide +kernel
theorem dX12_setSeason_0 : decode cX12_setSeason 0 = .ok (.aload_n 0, 1) := by decide +kernel
theorem dX12_setSeason_1 : decode cX12_setSeason 1 = .ok (.iconst 0, 1) := by decide +kernel
theorem dX12_setSeason_2 : decode cX12_setSeason 2 = .ok (.putfield 28, 3) := by decide +kernel
theorem dX12_setSeason_5 : decode cX12_setSeason 5 = .ok (.iload_n 1, 1) := by decide +kernel
theorem dX12_setSeason_6 : decode cX12_setSeason 6 = .ok (.iconst 2, 1) := by decide +kernel
theorem dX12_setSeason_7 : decode cX12_setSeason 7 = .ok (.bipush 7, 2) := by decide +kernel
theorem dX12_setSeason_9 : decode cX12_setSeason 9 = .ok (.invokestatic 32, 3) := by decide +kernel
theorem dX12_setSeason_12 : decode cX12_setSeason 12 = .ok (.ifCond .ne 9, 3) := by decide +kernel
theorem dX12_setSeason_15 : decode cX12_setSeason 15 = .ok (.aload_n 0, 1) := by decide +kernel
theorem dX12_setSeason_16 : decode cX12_setSeason 16 = .ok (.iconst 1, 1) := by decide +kernel
theorem dX12_setSeason_17 : decode cX12_setSeason 17 = .ok (.invokevirtual 106, 3) := by decide +kernel
theorem dX12_setSeason_20 : decode cX12_setSeason 20 = .ok (.ireturn, 1) := by decide +kernel
theorem dX12_setSeason_21 : decode cX12_setSeason 21 = .ok (.aload_n 0, 1) := by decide +kernel
theorem dX12_setSeason_22 : decode cX12_setSeason 22 = .ok (.invokevirtual 109, 3) := by decide +kernel
theorem dX12_setSeason_25 : decode cX12_setSeason 25 = .ok (.aload_n 0, 1) := by decide +kernel
theorem dX12_setSeason_26 : decode cX12_setSeason 26 = .ok (.iconst 5, 1) := by decide +kernel
theorem dX12_setSeason_27 : decode cX12_setSeason 27 = .ok (.iload_n 1, 1) := by decide +kernel
theorem dX12_setSeason_28 : decode cX12_setSeason 28 = .ok (.invokevirtual 118, 3) := by decide +kernel
theorem dX12_setSeason_31 : decode cX12_setSeason 31 = .ok (.ireturn, 1) := by decide +kernel
theorem dX12_append_0 : decode cX12_append 0 = .ok (.aload_n 0, 1) := by decide +kernel
theorem dX12_append_1 : decode cX12_append 1 = .ok (.iconst 0, 1) := by decide +kernel
theorem dX12_append_2 : decode cX12_append 2 = .ok (.putfield 28, 3) := by decide +kernel
theorem dX12_append_5 : decode cX12_append 5 = .ok (.iload_n 1, 1) := by decide +kernel
theorem dX12_append_6 : decode cX12_append 6 = .ok (.bipush 33, 2) := by decide +kernel
theorem dX12_append_8 : decode cX12_append 8 = .ok (.bipush 126, 2) := by decide +kernel
theorem dX12_append_10 : decode cX12_append 10 = .ok (.invokestatic 32, 3) := by decide +kernel
theorem dX12_append_13 : decode cX12_append 13 = .ok (.ifCond .ne 9, 3) := by decide +kernel
theorem dX12_append_16 : decode cX12_append 16 = .ok (.aload_n 0, 1) := by decide +kernel
theorem dX12_append_17 : decode cX12_append 17 = .ok (.iconst 1, 1) := by decide +kernel
theorem dX12_append_18 : decode cX12_append 18 = .ok (.invokevirtual 106, 3) := by decide +kernel
theorem dX12_append_21 : decode cX12_append 21 = .ok (.ireturn, 1) := by decide +kernel
theorem dX12_append_22 : decode cX12_append 22 = .ok (.aload_n 0, 1) := by decide +kernel
theorem dX12_append_23 : decode cX12_append 23 = .ok (.getfield 125, 3) := by decide +kernel
theorem dX12_append_26 : decode cX12_append 26 = .ok (.bipush 60, 2) := by decide +kernel
theorem dX12_append_28 : decode cX12_append 28 = .ok (.if_icmp .ne 9, 3) := by decide +kernel
theorem dX12_append_31 : decode cX12_append 31 = .ok (.aload_n 0, 1) := by decide +kernel
theorem dX12_append_32 : decode cX12_append 32 = .ok (.iconst 2, 1) := by decide +kernel
theorem dX12_append_33 : decode cX12_append 33 = .ok (.invokevirtual 106, 3) := by decide +kernel
theorem dX12_append_36 : decode cX12_append 36 = .ok (.ireturn, 1) := by decide +kernel
theorem dX12_append_37 : decode cX12_append 37 = .ok (.aload_n 0, 1) := by decide +kernel
theorem dX12_append_38 : decode cX12_append 38 = .ok (.getfield 19, 3) := by decide +kernel
theorem dX12_append_41 : decode cX12_append 41 = .ok (.aload_n 0, 1) := by decide +kernel
theorem dX12_append_42 : decode cX12_append 42 = .ok (.getfield 125, 3) := by decide +kernel
theorem dX12_append_45 : decode cX12_append 45 = .ok (.iload_n 1, 1) := by decide +kernel
theorem dX12_append_46 : decode cX12_append 46 = .ok (.iastore, 1) := by decide +kernel
theorem dX12_append_47 : decode cX12_append 47 = .ok (.aload_n 0, 1) := by decide +kernel
theorem dX12_append_48 : decode cX12_append 48 = .ok (.dup, 1) := by decide +kernel
theorem dX12_append_49 : decode cX12_append 49 = .ok (.getfield 125, 3) := by decide +kernel
theorem dX12_append_52 : decode cX12_append 52 = .ok (.iconst 1, 1) := by decide +kernel
theorem dX12_append_53 : decode cX12_append 53 = .ok (.iadd, 1) := by decide +kernel
theorem dX12_append_54 : decode cX12_append 54 = .ok (.putfield 125, 3) := by decide +kernel
theorem dX12_append_57 : decode cX12_append 57 = .ok (.aload_n 0, 1) := by decide +kernel
theorem dX12_append_58 : decode cX12_append 58 = .ok (.getfield 125, 3) := by decide +kernel
theorem dX12_append_61 : decode cX12_append 61 = .ok (.ireturn, 1) := by decide +kernel
theorem dX12_clearBuffer_0 : decode cX12_clearBuffer 0 = .ok (.aload_n 0, 1) := by decide +kernel
theorem dX12_clearBuffer_1 : decode cX12_clearBuffer 1 = .ok (.iconst 0, 1) := by decide +kernel
theorem dX12_clearBuffer_2 : decode cX12_clearBuffer 2 = .ok (.putfield 28, 3) := by decide +kernel
theorem dX12_clearBuffer_5 : decode cX12_clearBuffer 5 = .ok (.aload_n 0, 1) := by decide +kernel
theorem dX12_clearBuffer_6 : decode cX12_clearBuffer 6 = .ok (.getfield 125, 3) := by decide +kernel
theorem dX12_clearBuffer_9 : decode cX12_clearBuffer 9 = .ok (.istore_n 1, 1) := by decide +kernel
theorem dX12_clearBuffer_10 : decode cX12_clearBuffer 10 = .ok (.aload_n 0, 1) := by decide +kernel
theorem dX12_clearBuffer_11 : decode cX12_clearBuffer 11 = .ok (.iconst 0, 1) := by decide +kernel
theorem dX12_clearBuffer_12 : decode cX12_clearBuffer 12 = .ok (.putfield 125, 3) := by decide +kernel
theorem dX12_clearBuffer_15 : decode cX12_clearBuffer 15 = .ok (.iload_n 1, 1) := by decide +kernel
theorem dX12_clearBuffer_16 : decode cX12_clearBuffer 16 = .ok (.ireturn, 1) := by decide +kernel
theorem dX12_sign_0 : decode cX12_sign 0 = .ok (.aload_n 0, 1) := by decide +kernel
theorem dX12_sign_1 : decode cX12_sign 1 = .ok (.getfield 128, 3) := by decide +kernel
theorem dX12_sign_4 : decode cX12_sign 4 = .ok (.aload_n 0, 1) := by decide +kernel
theorem dX12_sign_5 : decode cX12_sign 5 = .ok (.getfield 125, 3) := by decide +kernel
theorem dX12_sign_8 : decode cX12_sign 8 = .ok (.if_icmp .ge 15, 3) := by decide +kernel
theorem dX12_sign_11 : decode cX12_sign 11 = .ok (.aload_n 0, 1) := by decide +kernel
theorem dX12_sign_12 : decode cX12_sign 12 = .ok (.getfield 19, 3) := by decide +kernel
theorem dX12_sign_15 : decode cX12_sign 15 = .ok (.aload_n 0, 1) := by decide +kernel
theorem dX12_sign_16 : decode cX12_sign 16 = .ok (.getfield 128, 3) := by decide +kernel
theorem dX12_sign_19 : decode cX12_sign 19 = .ok (.iaload, 1) := by decide +kernel
theorem dX12_sign_20 : decode cX12_sign 20 = .ok (.goto 4, 3) := by decide +kernel
theorem dX12_sign_23 : decode cX12_sign 23 = .ok (.iconst 0, 1) := by decide +kernel
theorem dX12_sign_24 : decode cX12_sign 24 = .ok (.ireturn, 1) := by decide +kernel
theorem dX12_takes_0 : decode cX12_takes 0 = .ok (.aload_n 0, 1) := by decide +kernel
theorem dX12_takes_1 : decode cX12_takes 1 = .ok (.aload_n 0, 1) := by decide +kernel
theorem dX12_takes_2 : decode cX12_takes 2 = .ok (.getfield 131, 3) := by decide +kernel
theorem dX12_takes_5 : decode cX12_takes 5 = .ok (.ifCond .eq 19, 3) := by decide +kernel
theorem dX12_takes_8 : decode cX12_takes 8 = .ok (.aload_n 0, 1) := by decide +kernel
theorem dX12_takes_9 : decode cX12_takes 9 = .ok (.invokevirtual 135, 3) := by decide +kernel
theorem dX12_takes_12 : decode cX12_takes 12 = .ok (.iload_n 1, 1) := by decide +kernel
theorem dX12_takes_13 : decode cX12_takes 13 = .ok (.iload_n 2, 1) := by decide +kernel
theorem dX12_takes_14 : decode cX12_takes 14 = .ok (.invokestatic 32, 3) := by decide +kernel
theorem dX12_takes_17 : decode cX12_takes 17 = .ok (.ifCond .eq 7, 3) := by decide +kernel
theorem dX12_takes_20 : decode cX12_takes 20 = .ok (.iconst 1, 1) := by decide +kernel
theorem dX12_takes_21 : decode cX12_takes 21 = .ok (.goto 4, 3) := by decide +kernel
theorem dX12_takes_24 : decode cX12_takes 24 = .ok (.iconst 0, 1) := by decide +kernel
theorem dX12_takes_25 : decode cX12_takes 25 = .ok (.putfield 131, 3) := by decide +kernel
theorem dX12_takes_28 : decode cX12_takes 28 = .ok (.aload_n 0, 1) := by decide +kernel
theorem dX12_takes_29 : decode cX12_takes 29 = .ok (.invokevirtual 135, 3) := by decide +kernel
theorem dX12_takes_32 : decode cX12_takes 32 = .ok (.bipush 48, 2) := by decide +kernel
theorem dX12_takes_34 : decode cX12_takes 34 = .ok (.isub, 1) := by decide +kernel
theorem dX12_takes_35 : decode cX12_takes 35 = .ok (.istore_n 3, 1) := by decide +kernel
theorem dX12_takes_36 : decode cX12_takes 36 = .ok (.aload_n 0, 1) := by decide +kernel
theorem dX12_takes_37 : decode cX12_takes 37 = .ok (.dup, 1) := by decide +kernel
theorem dX12_takes_38 : decode cX12_takes 38 = .ok (.getfield 128, 3) := by decide +kernel
theorem dX12_takes_41 : decode cX12_takes 41 = .ok (.aload_n 0, 1) := by decide +kernel
theorem dX12_takes_42 : decode cX12_takes 42 = .ok (.getfield 131, 3) := by decide +kernel
theorem dX12_takes_45 : decode cX12_takes 45 = .ok (.ifCond .eq 7, 3) := by decide +kernel
theorem dX12_takes_48 : decode cX12_takes 48 = .ok (.iconst 1, 1) := by decide +kernel
theorem dX12_takes_49 : decode cX12_takes 49 = .ok (.goto 4, 3) := by decide +kernel
theorem dX12_takes_52 : decode cX12_takes 52 = .ok (.iconst 0, 1) := by decide +kernel
theorem dX12_takes_53 : decode cX12_takes 53 = .ok (.iadd, 1) := by decide +kernel
theorem dX12_takes_54 : decode cX12_takes 54 = .ok (.putfield 128, 3) := by decide +kernel
theorem dX12_takes_57 : decode cX12_takes 57 = .ok (.iload_n 3, 1) := by decide +kernel
theorem dX12_takes_58 : decode cX12_takes 58 = .ok (.ireturn, 1) := by decide +kernel
theorem dX12_number_0 : decode cX12_number 0 = .ok (.aload_n 0, 1) := by decide +kernel
theorem dX12_number_1 : decode cX12_number 1 = .ok (.bipush 48, 2) := by decide +kernel
theorem dX12_number_3 : decode cX12_number 3 = .ok (.iload_n 1, 1) := by decide +kernel
theorem dX12_number_4 : decode cX12_number 4 = .ok (.iadd, 1) := by decide +kernel
theorem dX12_number_5 : decode cX12_number 5 = .ok (.bipush 57, 2) := by decide +kernel
theorem dX12_number_7 : decode cX12_number 7 = .ok (.invokevirtual 138, 3) := by decide +kernel
theorem dX12_number_10 : decode cX12_number 10 = .ok (.istore_n 3, 1) := by decide +kernel
theorem dX12_number_11 : decode cX12_number 11 = .ok (.aload_n 0, 1) := by decide +kernel
theorem dX12_number_12 : decode cX12_number 12 = .ok (.getfield 131, 3) := by decide +kernel
theorem dX12_number_15 : decode cX12_number 15 = .ok (.ifCond .eq 63, 3) := by decide +kernel
theorem dX12_number_18 : decode cX12_number 18 = .ok (.iload_n 3, 1) := by decide +kernel
theorem dX12_number_19 : decode cX12_number 19 = .ok (.ifCond .le 59, 3) := by decide +kernel
theorem dX12_number_22 : decode cX12_number 22 = .ok (.aload_n 0, 1) := by decide +kernel
theorem dX12_number_23 : decode cX12_number 23 = .ok (.invokevirtual 135, 3) := by decide +kernel
theorem dX12_number_26 : decode cX12_number 26 = .ok (.bipush 48, 2) := by decide +kernel
theorem dX12_number_28 : decode cX12_number 28 = .ok (.bipush 57, 2) := by decide +kernel
theorem dX12_number_30 : decode cX12_number 30 = .ok (.invokestatic 32, 3) := by decide +kernel
theorem dX12_number_33 : decode cX12_number 33 = .ok (.ifCond .eq 45, 3) := by decide +kernel
theorem dX12_number_36 : decode cX12_number 36 = .ok (.bipush 10, 2) := by decide +kernel
theorem dX12_number_38 : decode cX12_number 38 = .ok (.iload_n 3, 1) := by decide +kernel
theorem dX12_number_39 : decode cX12_number 39 = .ok (.imul, 1) := by decide +kernel
theorem dX12_number_40 : decode cX12_number 40 = .ok (.aload_n 0, 1) := by decide +kernel
theorem dX12_number_41 : decode cX12_number 41 = .ok (.invokevirtual 135, 3) := by decide +kernel
theorem dX12_number_44 : decode cX12_number 44 = .ok (.iadd, 1) := by decide +kernel
theorem dX12_number_45 : decode cX12_number 45 = .ok (.bipush 48, 2) := by decide +kernel
theorem dX12_number_47 : decode cX12_number 47 = .ok (.isub, 1) := by decide +kernel
theorem dX12_number_48 : decode cX12_number 48 = .ok (.iload_n 2, 1) := by decide +kernel
theorem dX12_number_49 : decode cX12_number 49 = .ok (.if_icmp .gt 29, 3) := by decide +kernel
theorem dX12_number_52 : decode cX12_number 52 = .ok (.bipush 10, 2) := by decide +kernel
theorem dX12_number_54 : decode cX12_number 54 = .ok (.iload_n 3, 1) := by decide +kernel
theorem dX12_number_55 : decode cX12_number 55 = .ok (.imul, 1) := by decide +kernel
theorem dX12_number_56 : decode cX12_number 56 = .ok (.aload_n 0, 1) := by decide +kernel
theorem dX12_number_57 : decode cX12_number 57 = .ok (.invokevirtual 135, 3) := by decide +kernel
theorem dX12_number_60 : decode cX12_number 60 = .ok (.iadd, 1) := by decide +kernel
theorem dX12_number_61 : decode cX12_number 61 = .ok (.bipush 48, 2) := by decide +kernel
theorem dX12_number_63 : decode cX12_number 63 = .ok (.isub, 1) := by decide +kernel
theorem dX12_number_64 : decode cX12_number 64 = .ok (.istore_n 3, 1) := by decide +kernel
theorem dX12_number_65 : decode cX12_number 65 = .ok (.aload_n 0, 1) := by decide +kernel
theorem dX12_number_66 : decode cX12_number 66 = .ok (.dup, 1) := by decide +kernel
theorem dX12_number_67 : decode cX12_number 67 = .ok (.getfield 128, 3) := by decide +kernel
theorem dX12_number_70 : decode cX12_number 70 = .ok (.iconst 1, 1) := by decide +kernel
theorem dX12_number_71 : decode cX12_number 71 = .ok (.iadd, 1) := by decide +kernel
theorem dX12_number_72 : decode cX12_number 72 = .ok (.putfield 128, 3) := by decide +kernel
theorem dX12_number_75 : decode cX12_number 75 = .ok (.goto (-64), 3) := by decide +kernel
theorem dX12_number_78 : decode cX12_number 78 = .ok (.iload_n 3, 1) := by decide +kernel
theorem dX12_number_79 : decode cX12_number 79 = .ok (.ireturn, 1) := by decide +kernel
theorem dX12_longNumber_0 : decode cX12_longNumber 0 = .ok (.aload_n 0, 1) := by decide +kernel
theorem dX12_longNumber_1 : decode cX12_longNumber 1 = .ok (.bipush 49, 2) := by decide +kernel
theorem dX12_longNumber_3 : decode cX12_longNumber 3 = .ok (.bipush 57, 2) := by decide +kernel
theorem dX12_longNumber_5 : decode cX12_longNumber 5 = .ok (.invokevirtual 138, 3) := by decide +kernel
theorem dX12_longNumber_8 : decode cX12_longNumber 8 = .ok (.istore_n 1, 1) := by decide +kernel
theorem dX12_longNumber_9 : decode cX12_longNumber 9 = .ok (.aload_n 0, 1) := by decide +kernel
theorem dX12_longNumber_10 : decode cX12_longNumber 10 = .ok (.getfield 131, 3) := by decide +kernel
theorem dX12_longNumber_13 : decode cX12_longNumber 13 = .ok (.ifCond .eq 23, 3) := by decide +kernel
theorem dX12_longNumber_16 : decode cX12_longNumber 16 = .ok (.iload_n 1, 1) := by decide +kernel
theorem dX12_longNumber_17 : decode cX12_longNumber 17 = .ok (.iconst 1, 1) := by decide +kernel
theorem dX12_longNumber_18 : decode cX12_longNumber 18 = .ok (.if_icmp .ne 18, 3) := by decide +kernel
theorem dX12_longNumber_21 : decode cX12_longNumber 21 = .ok (.bipush 10, 2) := by decide +kernel
theorem dX12_longNumber_23 : decode cX12_longNumber 23 = .ok (.aload_n 0, 1) := by decide +kernel
theorem dX12_longNumber_24 : decode cX12_longNumber 24 = .ok (.bipush 48, 2) := by decide +kernel
theorem dX12_longNumber_26 : decode cX12_longNumber 26 = .ok (.bipush 57, 2) := by decide +kernel
theorem dX12_longNumber_28 : decode cX12_longNumber 28 = .ok (.invokevirtual 138, 3) := by decide +kernel
theorem dX12_longNumber_31 : decode cX12_longNumber 31 = .ok (.iadd, 1) := by decide +kernel
theorem dX12_longNumber_32 : decode cX12_longNumber 32 = .ok (.istore_n 1, 1) := by decide +kernel
theorem dX12_longNumber_33 : decode cX12_longNumber 33 = .ok (.goto 37, 3) := by decide +kernel
theorem dX12_longNumber_36 : decode cX12_longNumber 36 = .ok (.aload_n 0, 1) := by decide +kernel
theorem dX12_longNumber_37 : decode cX12_longNumber 37 = .ok (.getfield 131, 3) := by decide +kernel
theorem dX12_longNumber_40 : decode cX12_longNumber 40 = .ok (.ifCond .eq 30, 3) := by decide +kernel
theorem dX12_longNumber_43 : decode cX12_longNumber 43 = .ok (.iload_n 1, 1) := by decide +kernel
theorem dX12_longNumber_44 : decode cX12_longNumber 44 = .ok (.iconst 2, 1) := by decide +kernel
theorem dX12_longNumber_45 : decode cX12_longNumber 45 = .ok (.if_icmp .ne 25, 3) := by decide +kernel
theorem dX12_longNumber_48 : decode cX12_longNumber 48 = .ok (.aload_n 0, 1) := by decide +kernel
theorem dX12_longNumber_49 : decode cX12_longNumber 49 = .ok (.invokevirtual 135, 3) := by decide +kernel
theorem dX12_longNumber_52 : decode cX12_longNumber 52 = .ok (.bipush 48, 2) := by decide +kernel
theorem dX12_longNumber_54 : decode cX12_longNumber 54 = .ok (.if_icmp .ne 16, 3) := by decide +kernel
theorem dX12_longNumber_57 : decode cX12_longNumber 57 = .ok (.bipush 20, 2) := by decide +kernel
theorem dX12_longNumber_59 : decode cX12_longNumber 59 = .ok (.istore_n 1, 1) := by decide +kernel
theorem dX12_longNumber_60 : decode cX12_longNumber 60 = .ok (.aload_n 0, 1) := by decide +kernel
theorem dX12_longNumber_61 : decode cX12_longNumber 61 = .ok (.dup, 1) := by decide +kernel
theorem dX12_longNumber_62 : decode cX12_longNumber 62 = .ok (.getfield 128, 3) := by decide +kernel
theorem dX12_longNumber_65 : decode cX12_longNumber 65 = .ok (.iconst 1, 1) := by decide +kernel
theorem dX12_longNumber_66 : decode cX12_longNumber 66 = .ok (.iadd, 1) := by decide +kernel
theorem dX12_longNumber_67 : decode cX12_longNumber 67 = .ok (.putfield 128, 3) := by decide +kernel
theorem dX12_longNumber_70 : decode cX12_longNumber 70 = .ok (.iload_n 1, 1) := by decide +kernel
theorem dX12_longNumber_71 : decode cX12_longNumber 71 = .ok (.ireturn, 1) := by decide +kernel
theorem dX12_readsPrices_0 : decode cX12_readsPrices 0 = .ok (.iconst 1, 1) := by decide +kernel
theorem dX12_readsPrices_1 : decode cX12_readsPrices 1 = .ok (.istore_n 2, 1) := by decide +kernel
theorem dX12_readsPrices_2 : decode cX12_readsPrices 2 = .ok (.iload_n 2, 1) := by decide +kernel
theorem dX12_readsPrices_3 : decode cX12_readsPrices 3 = .ok (.ifCond .eq 94, 3) := by decide +kernel
theorem dX12_readsPrices_6 : decode cX12_readsPrices 6 = .ok (.aload_n 0, 1) := by decide +kernel
theorem dX12_readsPrices_7 : decode cX12_readsPrices 7 = .ok (.iconst 1, 1) := by decide +kernel
theorem dX12_readsPrices_8 : decode cX12_readsPrices 8 = .ok (.sipush 9999, 3) := by decide +kernel
theorem dX12_readsPrices_11 : decode cX12_readsPrices 11 = .ok (.invokevirtual 141, 3) := by decide +kernel
theorem dX12_readsPrices_14 : decode cX12_readsPrices 14 = .ok (.istore_n 3, 1) := by decide +kernel
theorem dX12_readsPrices_15 : decode cX12_readsPrices 15 = .ok (.aload_n 0, 1) := by decide +kernel
theorem dX12_readsPrices_16 : decode cX12_readsPrices 16 = .ok (.getfield 131, 3) := by decide +kernel
theorem dX12_readsPrices_19 : decode cX12_readsPrices 19 = .ok (.ifCond .eq 35, 3) := by decide +kernel
theorem dX12_readsPrices_22 : decode cX12_readsPrices 22 = .ok (.aload_n 0, 1) := by decide +kernel
theorem dX12_readsPrices_23 : decode cX12_readsPrices 23 = .ok (.getfield 25, 3) := by decide +kernel
theorem dX12_readsPrices_26 : decode cX12_readsPrices 26 = .ok (.aload_n 0, 1) := by decide +kernel
theorem dX12_readsPrices_27 : decode cX12_readsPrices 27 = .ok (.getfield 144, 3) := by decide +kernel
theorem dX12_readsPrices_30 : decode cX12_readsPrices 30 = .ok (.iload_n 3, 1) := by decide +kernel
theorem dX12_readsPrices_31 : decode cX12_readsPrices 31 = .ok (.iastore, 1) := by decide +kernel
theorem dX12_readsPrices_32 : decode cX12_readsPrices 32 = .ok (.aload_n 0, 1) := by decide +kernel
theorem dX12_readsPrices_33 : decode cX12_readsPrices 33 = .ok (.dup, 1) := by decide +kernel
theorem dX12_readsPrices_34 : decode cX12_readsPrices 34 = .ok (.getfield 144, 3) := by decide +kernel
theorem dX12_readsPrices_37 : decode cX12_readsPrices 37 = .ok (.iconst 1, 1) := by decide +kernel
theorem dX12_readsPrices_38 : decode cX12_readsPrices 38 = .ok (.iadd, 1) := by decide +kernel
theorem dX12_readsPrices_39 : decode cX12_readsPrices 39 = .ok (.putfield 144, 3) := by decide +kernel
theorem dX12_readsPrices_42 : decode cX12_readsPrices 42 = .ok (.aload_n 0, 1) := by decide +kernel
theorem dX12_readsPrices_43 : decode cX12_readsPrices 43 = .ok (.getfield 22, 3) := by decide +kernel
theorem dX12_readsPrices_46 : decode cX12_readsPrices 46 = .ok (.iload_n 1, 1) := by decide +kernel
theorem dX12_readsPrices_47 : decode cX12_readsPrices 47 = .ok (.iconst 4, 1) := by decide +kernel
theorem dX12_readsPrices_48 : decode cX12_readsPrices 48 = .ok (.iadd, 1) := by decide +kernel
theorem dX12_readsPrices_49 : decode cX12_readsPrices 49 = .ok (.dup2, 1) := by decide +kernel
theorem dX12_readsPrices_50 : decode cX12_readsPrices 50 = .ok (.iaload, 1) := by decide +kernel
theorem dX12_readsPrices_51 : decode cX12_readsPrices 51 = .ok (.iconst 1, 1) := by decide +kernel
theorem dX12_readsPrices_52 : decode cX12_readsPrices 52 = .ok (.iadd, 1) := by decide +kernel
theorem dX12_readsPrices_53 : decode cX12_readsPrices 53 = .ok (.iastore, 1) := by decide +kernel
theorem dX12_readsPrices_54 : decode cX12_readsPrices 54 = .ok (.aload_n 0, 1) := by decide +kernel
theorem dX12_readsPrices_55 : decode cX12_readsPrices 55 = .ok (.getfield 131, 3) := by decide +kernel
theorem dX12_readsPrices_58 : decode cX12_readsPrices 58 = .ok (.ifCond .eq 16, 3) := by decide +kernel
theorem dX12_readsPrices_61 : decode cX12_readsPrices 61 = .ok (.aload_n 0, 1) := by decide +kernel
theorem dX12_readsPrices_62 : decode cX12_readsPrices 62 = .ok (.invokevirtual 135, 3) := by decide +kernel
theorem dX12_readsPrices_65 : decode cX12_readsPrices 65 = .ok (.bipush 44, 2) := by decide +kernel
theorem dX12_readsPrices_67 : decode cX12_readsPrices 67 = .ok (.if_icmp .ne 7, 3) := by decide +kernel
theorem dX12_readsPrices_70 : decode cX12_readsPrices 70 = .ok (.iconst 1, 1) := by decide +kernel
theorem dX12_readsPrices_71 : decode cX12_readsPrices 71 = .ok (.goto 4, 3) := by decide +kernel
theorem dX12_readsPrices_74 : decode cX12_readsPrices 74 = .ok (.iconst 0, 1) := by decide +kernel
theorem dX12_readsPrices_75 : decode cX12_readsPrices 75 = .ok (.istore_n 2, 1) := by decide +kernel
theorem dX12_readsPrices_76 : decode cX12_readsPrices 76 = .ok (.aload_n 0, 1) := by decide +kernel
theorem dX12_readsPrices_77 : decode cX12_readsPrices 77 = .ok (.dup, 1) := by decide +kernel
theorem dX12_readsPrices_78 : decode cX12_readsPrices 78 = .ok (.getfield 128, 3) := by decide +kernel
theorem dX12_readsPrices_81 : decode cX12_readsPrices 81 = .ok (.iload_n 2, 1) := by decide +kernel
theorem dX12_readsPrices_82 : decode cX12_readsPrices 82 = .ok (.ifCond .eq 7, 3) := by decide +kernel
theorem dX12_readsPrices_85 : decode cX12_readsPrices 85 = .ok (.iconst 1, 1) := by decide +kernel
theorem dX12_readsPrices_86 : decode cX12_readsPrices 86 = .ok (.goto 4, 3) := by decide +kernel
theorem dX12_readsPrices_89 : decode cX12_readsPrices 89 = .ok (.iconst 0, 1) := by decide +kernel
theorem dX12_readsPrices_90 : decode cX12_readsPrices 90 = .ok (.iadd, 1) := by decide +kernel
theorem dX12_readsPrices_91 : decode cX12_readsPrices 91 = .ok (.putfield 128, 3) := by decide +kernel
theorem dX12_readsPrices_94 : decode cX12_readsPrices 94 = .ok (.goto (-92), 3) := by decide +kernel
theorem dX12_readsPrices_97 : decode cX12_readsPrices 97 = .ok (.return_, 1) := by decide +kernel
theorem dX12_readsPart_0 : decode cX12_readsPart 0 = .ok (.iconst 5, 1) := by decide +kernel
theorem dX12_readsPart_1 : decode cX12_readsPart 1 = .ok (.aload_n 0, 1) := by decide +kernel
theorem dX12_readsPart_2 : decode cX12_readsPart 2 = .ok (.getfield 147, 3) := by decide +kernel
theorem dX12_readsPart_5 : decode cX12_readsPart 5 = .ok (.imul, 1) := by decide +kernel
theorem dX12_readsPart_6 : decode cX12_readsPart 6 = .ok (.istore_n 1, 1) := by decide +kernel
theorem dX12_readsPart_7 : decode cX12_readsPart 7 = .ok (.aload_n 0, 1) := by decide +kernel
theorem dX12_readsPart_8 : decode cX12_readsPart 8 = .ok (.invokevirtual 135, 3) := by decide +kernel
theorem dX12_readsPart_11 : decode cX12_readsPart 11 = .ok (.istore_n 2, 1) := by decide +kernel
theorem dX12_readsPart_12 : decode cX12_readsPart 12 = .ok (.aload_n 0, 1) := by decide +kernel
theorem dX12_readsPart_13 : decode cX12_readsPart 13 = .ok (.iload_n 2, 1) := by decide +kernel
theorem dX12_readsPart_14 : decode cX12_readsPart 14 = .ok (.bipush 112, 2) := by decide +kernel
theorem dX12_readsPart_16 : decode cX12_readsPart 16 = .ok (.if_icmp .eq 33, 3) := by decide +kernel
theorem dX12_readsPart_19 : decode cX12_readsPart 19 = .ok (.iload_n 2, 1) := by decide +kernel
theorem dX12_readsPart_20 : decode cX12_readsPart 20 = .ok (.bipush 119, 2) := by decide +kernel
theorem dX12_readsPart_22 : decode cX12_readsPart 22 = .ok (.if_icmp .eq 27, 3) := by decide +kernel
theorem dX12_readsPart_25 : decode cX12_readsPart 25 = .ok (.iload_n 2, 1) := by decide +kernel
theorem dX12_readsPart_26 : decode cX12_readsPart 26 = .ok (.bipush 109, 2) := by decide +kernel
theorem dX12_readsPart_28 : decode cX12_readsPart 28 = .ok (.if_icmp .eq 21, 3) := by decide +kernel
theorem dX12_readsPart_31 : decode cX12_readsPart 31 = .ok (.iload_n 2, 1) := by decide +kernel
theorem dX12_readsPart_32 : decode cX12_readsPart 32 = .ok (.bipush 108, 2) := by decide +kernel
theorem dX12_readsPart_34 : decode cX12_readsPart 34 = .ok (.if_icmp .eq 15, 3) := by decide +kernel
theorem dX12_readsPart_37 : decode cX12_readsPart 37 = .ok (.iload_n 2, 1) := by decide +kernel
theorem dX12_readsPart_38 : decode cX12_readsPart 38 = .ok (.bipush 120, 2) := by decide +kernel
theorem dX12_readsPart_40 : decode cX12_readsPart 40 = .ok (.if_icmp .eq 9, 3) := by decide +kernel
theorem dX12_readsPart_43 : decode cX12_readsPart 43 = .ok (.iload_n 2, 1) := by decide +kernel
theorem dX12_readsPart_44 : decode cX12_readsPart 44 = .ok (.bipush 97, 2) := by decide +kernel
theorem dX12_readsPart_46 : decode cX12_readsPart 46 = .ok (.if_icmp .ne 7, 3) := by decide +kernel
theorem dX12_readsPart_49 : decode cX12_readsPart 49 = .ok (.iconst 1, 1) := by decide +kernel
theorem dX12_readsPart_50 : decode cX12_readsPart 50 = .ok (.goto 4, 3) := by decide +kernel
theorem dX12_readsPart_53 : decode cX12_readsPart 53 = .ok (.iconst 0, 1) := by decide +kernel
theorem dX12_readsPart_54 : decode cX12_readsPart 54 = .ok (.putfield 131, 3) := by decide +kernel
theorem dX12_readsPart_57 : decode cX12_readsPart 57 = .ok (.aload_n 0, 1) := by decide +kernel
theorem dX12_readsPart_58 : decode cX12_readsPart 58 = .ok (.dup, 1) := by decide +kernel
theorem dX12_readsPart_59 : decode cX12_readsPart 59 = .ok (.getfield 128, 3) := by decide +kernel
theorem dX12_readsPart_62 : decode cX12_readsPart 62 = .ok (.aload_n 0, 1) := by decide +kernel
theorem dX12_readsPart_63 : decode cX12_readsPart 63 = .ok (.getfield 131, 3) := by decide +kernel
theorem dX12_readsPart_66 : decode cX12_readsPart 66 = .ok (.ifCond .eq 7, 3) := by decide +kernel
theorem dX12_readsPart_69 : decode cX12_readsPart 69 = .ok (.iconst 1, 1) := by decide +kernel
theorem dX12_readsPart_70 : decode cX12_readsPart 70 = .ok (.goto 4, 3) := by decide +kernel
theorem dX12_readsPart_73 : decode cX12_readsPart 73 = .ok (.iconst 0, 1) := by decide +kernel
theorem dX12_readsPart_74 : decode cX12_readsPart 74 = .ok (.iadd, 1) := by decide +kernel
theorem dX12_readsPart_75 : decode cX12_readsPart 75 = .ok (.putfield 128, 3) := by decide +kernel
theorem dX12_readsPart_78 : decode cX12_readsPart 78 = .ok (.aload_n 0, 1) := by decide +kernel
theorem dX12_readsPart_79 : decode cX12_readsPart 79 = .ok (.getfield 22, 3) := by decide +kernel
theorem dX12_readsPart_82 : decode cX12_readsPart 82 = .ok (.iload_n 1, 1) := by decide +kernel
theorem dX12_readsPart_83 : decode cX12_readsPart 83 = .ok (.iload_n 2, 1) := by decide +kernel
theorem dX12_readsPart_84 : decode cX12_readsPart 84 = .ok (.iastore, 1) := by decide +kernel
theorem dX12_readsPart_85 : decode cX12_readsPart 85 = .ok (.aload_n 0, 1) := by decide +kernel
theorem dX12_readsPart_86 : decode cX12_readsPart 86 = .ok (.getfield 22, 3) := by decide +kernel
theorem dX12_readsPart_89 : decode cX12_readsPart 89 = .ok (.iload_n 1, 1) := by decide +kernel
theorem dX12_readsPart_90 : decode cX12_readsPart 90 = .ok (.iconst 3, 1) := by decide +kernel
theorem dX12_readsPart_91 : decode cX12_readsPart 91 = .ok (.iadd, 1) := by decide +kernel
theorem dX12_readsPart_92 : decode cX12_readsPart 92 = .ok (.aload_n 0, 1) := by decide +kernel
theorem dX12_readsPart_93 : decode cX12_readsPart 93 = .ok (.getfield 144, 3) := by decide +kernel
theorem dX12_readsPart_96 : decode cX12_readsPart 96 = .ok (.iastore, 1) := by decide +kernel
theorem dX12_readsPart_97 : decode cX12_readsPart 97 = .ok (.aload_n 0, 1) := by decide +kernel
theorem dX12_readsPart_98 : decode cX12_readsPart 98 = .ok (.getfield 22, 3) := by decide +kernel
theorem dX12_readsPart_101 : decode cX12_readsPart 101 = .ok (.iload_n 1, 1) := by decide +kernel
theorem dX12_readsPart_102 : decode cX12_readsPart 102 = .ok (.iconst 4, 1) := by decide +kernel
theorem dX12_readsPart_103 : decode cX12_readsPart 103 = .ok (.iadd, 1) := by decide +kernel
theorem dX12_readsPart_104 : decode cX12_readsPart 104 = .ok (.iconst 0, 1) := by decide +kernel
theorem dX12_readsPart_105 : decode cX12_readsPart 105 = .ok (.iastore, 1) := by decide +kernel
theorem dX12_readsPart_106 : decode cX12_readsPart 106 = .ok (.iload_n 2, 1) := by decide +kernel
theorem dX12_readsPart_107 : decode cX12_readsPart 107 = .ok (.bipush 112, 2) := by decide +kernel
theorem dX12_readsPart_109 : decode cX12_readsPart 109 = .ok (.if_icmp .ne 11, 3) := by decide +kernel
theorem dX12_readsPart_112 : decode cX12_readsPart 112 = .ok (.aload_n 0, 1) := by decide +kernel
theorem dX12_readsPart_113 : decode cX12_readsPart 113 = .ok (.iload_n 1, 1) := by decide +kernel
theorem dX12_readsPart_114 : decode cX12_readsPart 114 = .ok (.invokevirtual 150, 3) := by decide +kernel
theorem dX12_readsPart_117 : decode cX12_readsPart 117 = .ok (.goto 119, 3) := by decide +kernel
theorem dX12_readsPart_120 : decode cX12_readsPart 120 = .ok (.iload_n 2, 1) := by decide +kernel
theorem dX12_readsPart_121 : decode cX12_readsPart 121 = .ok (.bipush 119, 2) := by decide +kernel
theorem dX12_readsPart_123 : decode cX12_readsPart 123 = .ok (.if_icmp .ne 42, 3) := by decide +kernel
theorem dX12_readsPart_126 : decode cX12_readsPart 126 = .ok (.aload_n 0, 1) := by decide +kernel
theorem dX12_readsPart_127 : decode cX12_readsPart 127 = .ok (.getfield 22, 3) := by decide +kernel
theorem dX12_readsPart_130 : decode cX12_readsPart 130 = .ok (.iload_n 1, 1) := by decide +kernel
theorem dX12_readsPart_131 : decode cX12_readsPart 131 = .ok (.iconst 1, 1) := by decide +kernel
theorem dX12_readsPart_132 : decode cX12_readsPart 132 = .ok (.iadd, 1) := by decide +kernel
theorem dX12_readsPart_133 : decode cX12_readsPart 133 = .ok (.aload_n 0, 1) := by decide +kernel
theorem dX12_readsPart_134 : decode cX12_readsPart 134 = .ok (.iconst 1, 1) := by decide +kernel
theorem dX12_readsPart_135 : decode cX12_readsPart 135 = .ok (.bipush 10, 2) := by decide +kernel
theorem dX12_readsPart_137 : decode cX12_readsPart 137 = .ok (.invokevirtual 141, 3) := by decide +kernel
theorem dX12_readsPart_140 : decode cX12_readsPart 140 = .ok (.iastore, 1) := by decide +kernel
theorem dX12_readsPart_141 : decode cX12_readsPart 141 = .ok (.aload_n 0, 1) := by decide +kernel
theorem dX12_readsPart_142 : decode cX12_readsPart 142 = .ok (.bipush 58, 2) := by decide +kernel
theorem dX12_readsPart_144 : decode cX12_readsPart 144 = .ok (.bipush 58, 2) := by decide +kernel
theorem dX12_readsPart_146 : decode cX12_readsPart 146 = .ok (.invokevirtual 138, 3) := by decide +kernel
theorem dX12_readsPart_149 : decode cX12_readsPart 149 = .ok (.pop, 1) := by decide +kernel
theorem dX12_readsPart_150 : decode cX12_readsPart 150 = .ok (.aload_n 0, 1) := by decide +kernel
theorem dX12_readsPart_151 : decode cX12_readsPart 151 = .ok (.getfield 22, 3) := by decide +kernel
theorem dX12_readsPart_154 : decode cX12_readsPart 154 = .ok (.iload_n 1, 1) := by decide +kernel
theorem dX12_readsPart_155 : decode cX12_readsPart 155 = .ok (.iconst 2, 1) := by decide +kernel
theorem dX12_readsPart_156 : decode cX12_readsPart 156 = .ok (.iadd, 1) := by decide +kernel
theorem dX12_readsPart_157 : decode cX12_readsPart 157 = .ok (.aload_n 0, 1) := by decide +kernel
theorem dX12_readsPart_158 : decode cX12_readsPart 158 = .ok (.invokevirtual 153, 3) := by decide +kernel
theorem dX12_readsPart_161 : decode cX12_readsPart 161 = .ok (.iastore, 1) := by decide +kernel
theorem dX12_readsPart_162 : decode cX12_readsPart 162 = .ok (.goto 74, 3) := by decide +kernel
theorem dX12_readsPart_165 : decode cX12_readsPart 165 = .ok (.iload_n 2, 1) := by decide +kernel
theorem dX12_readsPart_166 : decode cX12_readsPart 166 = .ok (.bipush 109, 2) := by decide +kernel
theorem dX12_readsPart_168 : decode cX12_readsPart 168 = .ok (.if_icmp .ne 22, 3) := by decide +kernel
theorem dX12_readsPart_171 : decode cX12_readsPart 171 = .ok (.aload_n 0, 1) := by decide +kernel
theorem dX12_readsPart_172 : decode cX12_readsPart 172 = .ok (.getfield 22, 3) := by decide +kernel
theorem dX12_readsPart_175 : decode cX12_readsPart 175 = .ok (.iload_n 1, 1) := by decide +kernel
theorem dX12_readsPart_176 : decode cX12_readsPart 176 = .ok (.iconst 1, 1) := by decide +kernel
theorem dX12_readsPart_177 : decode cX12_readsPart 177 = .ok (.iadd, 1) := by decide +kernel
theorem dX12_readsPart_178 : decode cX12_readsPart 178 = .ok (.aload_n 0, 1) := by decide +kernel
theorem dX12_readsPart_179 : decode cX12_readsPart 179 = .ok (.bipush 48, 2) := by decide +kernel
theorem dX12_readsPart_181 : decode cX12_readsPart 181 = .ok (.bipush 57, 2) := by decide +kernel
theorem dX12_readsPart_183 : decode cX12_readsPart 183 = .ok (.invokevirtual 138, 3) := by decide +kernel
theorem dX12_readsPart_186 : decode cX12_readsPart 186 = .ok (.iastore, 1) := by decide +kernel
theorem dX12_readsPart_187 : decode cX12_readsPart 187 = .ok (.goto 49, 3) := by decide +kernel
theorem dX12_readsPart_190 : decode cX12_readsPart 190 = .ok (.iload_n 2, 1) := by decide +kernel
theorem dX12_readsPart_191 : decode cX12_readsPart 191 = .ok (.bipush 108, 2) := by decide +kernel
theorem dX12_readsPart_193 : decode cX12_readsPart 193 = .ok (.if_icmp .ne 22, 3) := by decide +kernel
theorem dX12_readsPart_196 : decode cX12_readsPart 196 = .ok (.aload_n 0, 1) := by decide +kernel
theorem dX12_readsPart_197 : decode cX12_readsPart 197 = .ok (.getfield 22, 3) := by decide +kernel
theorem dX12_readsPart_200 : decode cX12_readsPart 200 = .ok (.iload_n 1, 1) := by decide +kernel
theorem dX12_readsPart_201 : decode cX12_readsPart 201 = .ok (.iconst 1, 1) := by decide +kernel
theorem dX12_readsPart_202 : decode cX12_readsPart 202 = .ok (.iadd, 1) := by decide +kernel
theorem dX12_readsPart_203 : decode cX12_readsPart 203 = .ok (.aload_n 0, 1) := by decide +kernel
theorem dX12_readsPart_204 : decode cX12_readsPart 204 = .ok (.iconst 0, 1) := by decide +kernel
theorem dX12_readsPart_205 : decode cX12_readsPart 205 = .ok (.sipush 9999, 3) := by decide +kernel
theorem dX12_readsPart_208 : decode cX12_readsPart 208 = .ok (.invokevirtual 141, 3) := by decide +kernel
theorem dX12_readsPart_211 : decode cX12_readsPart 211 = .ok (.iastore, 1) := by decide +kernel
theorem dX12_readsPart_212 : decode cX12_readsPart 212 = .ok (.goto 24, 3) := by decide +kernel
theorem dX12_readsPart_215 : decode cX12_readsPart 215 = .ok (.iload_n 2, 1) := by decide +kernel
theorem dX12_readsPart_216 : decode cX12_readsPart 216 = .ok (.bipush 120, 2) := by decide +kernel
theorem dX12_readsPart_218 : decode cX12_readsPart 218 = .ok (.if_icmp .ne 18, 3) := by decide +kernel
theorem dX12_readsPart_221 : decode cX12_readsPart 221 = .ok (.aload_n 0, 1) := by decide +kernel
theorem dX12_readsPart_222 : decode cX12_readsPart 222 = .ok (.getfield 22, 3) := by decide +kernel
theorem dX12_readsPart_225 : decode cX12_readsPart 225 = .ok (.iload_n 1, 1) := by decide +kernel
theorem dX12_readsPart_226 : decode cX12_readsPart 226 = .ok (.iconst 1, 1) := by decide +kernel
theorem dX12_readsPart_227 : decode cX12_readsPart 227 = .ok (.iadd, 1) := by decide +kernel
theorem dX12_readsPart_228 : decode cX12_readsPart 228 = .ok (.aload_n 0, 1) := by decide +kernel
theorem dX12_readsPart_229 : decode cX12_readsPart 229 = .ok (.iconst 0, 1) := by decide +kernel
theorem dX12_readsPart_230 : decode cX12_readsPart 230 = .ok (.bipush 59, 2) := by decide +kernel
theorem dX12_readsPart_232 : decode cX12_readsPart 232 = .ok (.invokevirtual 141, 3) := by decide +kernel
theorem dX12_readsPart_235 : decode cX12_readsPart 235 = .ok (.iastore, 1) := by decide +kernel
theorem dX12_readsPart_236 : decode cX12_readsPart 236 = .ok (.aload_n 0, 1) := by decide +kernel
theorem dX12_readsPart_237 : decode cX12_readsPart 237 = .ok (.dup, 1) := by decide +kernel
theorem dX12_readsPart_238 : decode cX12_readsPart 238 = .ok (.getfield 147, 3) := by decide +kernel
theorem dX12_readsPart_241 : decode cX12_readsPart 241 = .ok (.aload_n 0, 1) := by decide +kernel
theorem dX12_readsPart_242 : decode cX12_readsPart 242 = .ok (.getfield 131, 3) := by decide +kernel
theorem dX12_readsPart_245 : decode cX12_readsPart 245 = .ok (.ifCond .eq 7, 3) := by decide +kernel
theorem dX12_readsPart_248 : decode cX12_readsPart 248 = .ok (.iconst 1, 1) := by decide +kernel
theorem dX12_readsPart_249 : decode cX12_readsPart 249 = .ok (.goto 4, 3) := by decide +kernel
theorem dX12_readsPart_252 : decode cX12_readsPart 252 = .ok (.iconst 0, 1) := by decide +kernel
theorem dX12_readsPart_253 : decode cX12_readsPart 253 = .ok (.iadd, 1) := by decide +kernel
theorem dX12_readsPart_254 : decode cX12_readsPart 254 = .ok (.putfield 147, 3) := by decide +kernel
theorem dX12_readsPart_257 : decode cX12_readsPart 257 = .ok (.return_, 1) := by decide +kernel
theorem dX12_readsWorks_0 : decode cX12_readsWorks 0 = .ok (.aload_n 0, 1) := by decide +kernel
theorem dX12_readsWorks_1 : decode cX12_readsWorks 1 = .ok (.iconst 0, 1) := by decide +kernel
theorem dX12_readsWorks_2 : decode cX12_readsWorks 2 = .ok (.putfield 128, 3) := by decide +kernel
theorem dX12_readsWorks_5 : decode cX12_readsWorks 5 = .ok (.aload_n 0, 1) := by decide +kernel
theorem dX12_readsWorks_6 : decode cX12_readsWorks 6 = .ok (.iconst 0, 1) := by decide +kernel
theorem dX12_readsWorks_7 : decode cX12_readsWorks 7 = .ok (.putfield 147, 3) := by decide +kernel
theorem dX12_readsWorks_10 : decode cX12_readsWorks 10 = .ok (.aload_n 0, 1) := by decide +kernel
theorem dX12_readsWorks_11 : decode cX12_readsWorks 11 = .ok (.iconst 0, 1) := by decide +kernel
theorem dX12_readsWorks_12 : decode cX12_readsWorks 12 = .ok (.putfield 144, 3) := by decide +kernel
theorem dX12_readsWorks_15 : decode cX12_readsWorks 15 = .ok (.aload_n 0, 1) := by decide +kernel
theorem dX12_readsWorks_16 : decode cX12_readsWorks 16 = .ok (.invokevirtual 156, 3) := by decide +kernel
theorem dX12_readsWorks_19 : decode cX12_readsWorks 19 = .ok (.aload_n 0, 1) := by decide +kernel
theorem dX12_readsWorks_20 : decode cX12_readsWorks 20 = .ok (.getfield 131, 3) := by decide +kernel
theorem dX12_readsWorks_23 : decode cX12_readsWorks 23 = .ok (.ifCond .eq 37, 3) := by decide +kernel
theorem dX12_readsWorks_26 : decode cX12_readsWorks 26 = .ok (.aload_n 0, 1) := by decide +kernel
theorem dX12_readsWorks_27 : decode cX12_readsWorks 27 = .ok (.getfield 128, 3) := by decide +kernel
theorem dX12_readsWorks_30 : decode cX12_readsWorks 30 = .ok (.aload_n 0, 1) := by decide +kernel
theorem dX12_readsWorks_31 : decode cX12_readsWorks 31 = .ok (.getfield 125, 3) := by decide +kernel
theorem dX12_readsWorks_34 : decode cX12_readsWorks 34 = .ok (.if_icmp .ge 26, 3) := by decide +kernel
theorem dX12_readsWorks_37 : decode cX12_readsWorks 37 = .ok (.aload_n 0, 1) := by decide +kernel
theorem dX12_readsWorks_38 : decode cX12_readsWorks 38 = .ok (.bipush 59, 2) := by decide +kernel
theorem dX12_readsWorks_40 : decode cX12_readsWorks 40 = .ok (.bipush 59, 2) := by decide +kernel
theorem dX12_readsWorks_42 : decode cX12_readsWorks 42 = .ok (.invokevirtual 138, 3) := by decide +kernel
theorem dX12_readsWorks_45 : decode cX12_readsWorks 45 = .ok (.pop, 1) := by decide +kernel
theorem dX12_readsWorks_46 : decode cX12_readsWorks 46 = .ok (.aload_n 0, 1) := by decide +kernel
theorem dX12_readsWorks_47 : decode cX12_readsWorks 47 = .ok (.getfield 131, 3) := by decide +kernel
theorem dX12_readsWorks_50 : decode cX12_readsWorks 50 = .ok (.ifCond .eq (-31), 3) := by decide +kernel
theorem dX12_readsWorks_53 : decode cX12_readsWorks 53 = .ok (.aload_n 0, 1) := by decide +kernel
theorem dX12_readsWorks_54 : decode cX12_readsWorks 54 = .ok (.invokevirtual 156, 3) := by decide +kernel
theorem dX12_readsWorks_57 : decode cX12_readsWorks 57 = .ok (.goto (-38), 3) := by decide +kernel
theorem dX12_readsWorks_60 : decode cX12_readsWorks 60 = .ok (.aload_n 0, 1) := by decide +kernel
theorem dX12_readsWorks_61 : decode cX12_readsWorks 61 = .ok (.getfield 131, 3) := by decide +kernel
theorem dX12_readsWorks_64 : decode cX12_readsWorks 64 = .ok (.ireturn, 1) := by decide +kernel
theorem dX12_firstError_0 : decode cX12_firstError 0 = .ok (.aload_n 0, 1) := by decide +kernel
theorem dX12_firstError_1 : decode cX12_firstError 1 = .ok (.iconst 0, 1) := by decide +kernel
theorem dX12_firstError_2 : decode cX12_firstError 2 = .ok (.putfield 28, 3) := by decide +kernel
theorem dX12_firstError_5 : decode cX12_firstError 5 = .ok (.aload_n 0, 1) := by decide +kernel
theorem dX12_firstError_6 : decode cX12_firstError 6 = .ok (.invokevirtual 159, 3) := by decide +kernel
theorem dX12_firstError_9 : decode cX12_firstError 9 = .ok (.ifCond .eq 10, 3) := by decide +kernel
theorem dX12_firstError_12 : decode cX12_firstError 12 = .ok (.aload_n 0, 1) := by decide +kernel
theorem dX12_firstError_13 : decode cX12_firstError 13 = .ok (.getfield 125, 3) := by decide +kernel
theorem dX12_firstError_16 : decode cX12_firstError 16 = .ok (.goto 7, 3) := by decide +kernel
theorem dX12_firstError_19 : decode cX12_firstError 19 = .ok (.aload_n 0, 1) := by decide +kernel
theorem dX12_firstError_20 : decode cX12_firstError 20 = .ok (.getfield 128, 3) := by decide +kernel
theorem dX12_firstError_23 : decode cX12_firstError 23 = .ok (.ireturn, 1) := by decide +kernel
theorem dX12_does_0 : decode cX12_does 0 = .ok (.aload_n 0, 1) := by decide +kernel
theorem dX12_does_1 : decode cX12_does 1 = .ok (.getfield 22, 3) := by decide +kernel
theorem dX12_does_4 : decode cX12_does 4 = .ok (.iload_n 1, 1) := by decide +kernel
theorem dX12_does_5 : decode cX12_does 5 = .ok (.iconst 1, 1) := by decide +kernel
theorem dX12_does_6 : decode cX12_does 6 = .ok (.iadd, 1) := by decide +kernel
theorem dX12_does_7 : decode cX12_does 7 = .ok (.iaload, 1) := by decide +kernel
theorem dX12_does_8 : decode cX12_does 8 = .ok (.istore_n 2, 1) := by decide +kernel
theorem dX12_does_9 : decode cX12_does 9 = .ok (.aload_n 0, 1) := by decide +kernel
theorem dX12_does_10 : decode cX12_does 10 = .ok (.getfield 22, 3) := by decide +kernel
theorem dX12_does_13 : decode cX12_does 13 = .ok (.iload_n 1, 1) := by decide +kernel
theorem dX12_does_14 : decode cX12_does 14 = .ok (.iconst 2, 1) := by decide +kernel
theorem dX12_does_15 : decode cX12_does 15 = .ok (.iadd, 1) := by decide +kernel
theorem dX12_does_16 : decode cX12_does 16 = .ok (.iaload, 1) := by decide +kernel
theorem dX12_does_17 : decode cX12_does 17 = .ok (.istore_n 3, 1) := by decide +kernel
theorem dX12_does_18 : decode cX12_does 18 = .ok (.iconst 0, 1) := by decide +kernel
theorem dX12_does_19 : decode cX12_does 19 = .ok (.istore 4, 2) := by decide +kernel
theorem dX12_does_21 : decode cX12_does 21 = .ok (.aload_n 0, 1) := by decide +kernel
theorem dX12_does_22 : decode cX12_does 22 = .ok (.getfield 22, 3) := by decide +kernel
theorem dX12_does_25 : decode cX12_does 25 = .ok (.iload_n 1, 1) := by decide +kernel
theorem dX12_does_26 : decode cX12_does 26 = .ok (.iaload, 1) := by decide +kernel
theorem dX12_does_27 : decode cX12_does 27 = .ok (.tableswitch 235 108 120 #[185, 176, 235, 235, 65, 235, 235, 235, 235, 235, 235, 142, 194], 65) := by decide +kernel
theorem dX12_does_92 : decode cX12_does 92 = .ok (.aload_n 0, 1) := by decide +kernel
theorem dX12_does_93 : decode cX12_does 93 = .ok (.getfield 7, 3) := by decide +kernel
theorem dX12_does_96 : decode cX12_does 96 = .ok (.iconst 0, 1) := by decide +kernel
theorem dX12_does_97 : decode cX12_does 97 = .ok (.iaload, 1) := by decide +kernel
theorem dX12_does_98 : decode cX12_does 98 = .ok (.aload_n 0, 1) := by decide +kernel
theorem dX12_does_99 : decode cX12_does 99 = .ok (.getfield 22, 3) := by decide +kernel
theorem dX12_does_102 : decode cX12_does 102 = .ok (.iload_n 1, 1) := by decide +kernel
theorem dX12_does_103 : decode cX12_does 103 = .ok (.iconst 4, 1) := by decide +kernel
theorem dX12_does_104 : decode cX12_does 104 = .ok (.iadd, 1) := by decide +kernel
theorem dX12_does_105 : decode cX12_does 105 = .ok (.iaload, 1) := by decide +kernel
theorem dX12_does_106 : decode cX12_does 106 = .ok (.iadd, 1) := by decide +kernel
theorem dX12_does_107 : decode cX12_does 107 = .ok (.bipush 60, 2) := by decide +kernel
theorem dX12_does_109 : decode cX12_does 109 = .ok (.if_icmp .le 7, 3) := by decide +kernel
theorem dX12_does_112 : decode cX12_does 112 = .ok (.iconst 1, 1) := by decide +kernel
theorem dX12_does_113 : decode cX12_does 113 = .ok (.goto 4, 3) := by decide +kernel
theorem dX12_does_116 : decode cX12_does 116 = .ok (.iconst 0, 1) := by decide +kernel
theorem dX12_does_117 : decode cX12_does 117 = .ok (.istore 4, 2) := by decide +kernel
theorem dX12_does_119 : decode cX12_does 119 = .ok (.iconst 0, 1) := by decide +kernel
theorem dX12_does_120 : decode cX12_does 120 = .ok (.istore 5, 2) := by decide +kernel
theorem dX12_does_122 : decode cX12_does 122 = .ok (.iload 5, 2) := by decide +kernel
theorem dX12_does_124 : decode cX12_does 124 = .ok (.aload_n 0, 1) := by decide +kernel
theorem dX12_does_125 : decode cX12_does 125 = .ok (.getfield 22, 3) := by decide +kernel
theorem dX12_does_128 : decode cX12_does 128 = .ok (.iload_n 1, 1) := by decide +kernel
theorem dX12_does_129 : decode cX12_does 129 = .ok (.iconst 4, 1) := by decide +kernel
theorem dX12_does_130 : decode cX12_does 130 = .ok (.iadd, 1) := by decide +kernel
theorem dX12_does_131 : decode cX12_does 131 = .ok (.iaload, 1) := by decide +kernel
theorem dX12_does_132 : decode cX12_does 132 = .ok (.if_icmp .ge 34, 3) := by decide +kernel
theorem dX12_does_135 : decode cX12_does 135 = .ok (.iload 4, 2) := by decide +kernel
theorem dX12_does_137 : decode cX12_does 137 = .ok (.ifCond .ne 29, 3) := by decide +kernel
theorem dX12_does_140 : decode cX12_does 140 = .ok (.aload_n 0, 1) := by decide +kernel
theorem dX12_does_141 : decode cX12_does 141 = .ok (.aload_n 0, 1) := by decide +kernel
theorem dX12_does_142 : decode cX12_does 142 = .ok (.getfield 25, 3) := by decide +kernel
theorem dX12_does_145 : decode cX12_does 145 = .ok (.aload_n 0, 1) := by decide +kernel
theorem dX12_does_146 : decode cX12_does 146 = .ok (.getfield 22, 3) := by decide +kernel
theorem dX12_does_149 : decode cX12_does 149 = .ok (.iload_n 1, 1) := by decide +kernel
theorem dX12_does_150 : decode cX12_does 150 = .ok (.iconst 3, 1) := by decide +kernel
theorem dX12_does_151 : decode cX12_does 151 = .ok (.iadd, 1) := by decide +kernel
theorem dX12_does_152 : decode cX12_does 152 = .ok (.iaload, 1) := by decide +kernel
theorem dX12_does_153 : decode cX12_does 153 = .ok (.iload 5, 2) := by decide +kernel
theorem dX12_does_155 : decode cX12_does 155 = .ok (.iadd, 1) := by decide +kernel
theorem dX12_does_156 : decode cX12_does 156 = .ok (.iaload, 1) := by decide +kernel
theorem dX12_does_157 : decode cX12_does 157 = .ok (.invokevirtual 112, 3) := by decide +kernel
theorem dX12_does_160 : decode cX12_does 160 = .ok (.iinc 5 1, 3) := by decide +kernel
theorem dX12_does_163 : decode cX12_does 163 = .ok (.goto (-41), 3) := by decide +kernel
theorem dX12_does_166 : decode cX12_does 166 = .ok (.iload 4, 2) := by decide +kernel
theorem dX12_does_168 : decode cX12_does 168 = .ok (.ireturn, 1) := by decide +kernel
theorem dX12_does_169 : decode cX12_does 169 = .ok (.iload_n 2, 1) := by decide +kernel
theorem dX12_does_170 : decode cX12_does 170 = .ok (.iload_n 3, 1) := by decide +kernel
theorem dX12_does_171 : decode cX12_does 171 = .ok (.if_icmp .ge 7, 3) := by decide +kernel
theorem dX12_does_174 : decode cX12_does 174 = .ok (.iconst 0, 1) := by decide +kernel
theorem dX12_does_175 : decode cX12_does 175 = .ok (.goto 4, 3) := by decide +kernel
theorem dX12_does_178 : decode cX12_does 178 = .ok (.iconst 4, 1) := by decide +kernel
theorem dX12_does_179 : decode cX12_does 179 = .ok (.istore 4, 2) := by decide +kernel
theorem dX12_does_181 : decode cX12_does 181 = .ok (.iload 4, 2) := by decide +kernel
theorem dX12_does_183 : decode cX12_does 183 = .ok (.ifCond .ne 17, 3) := by decide +kernel
theorem dX12_does_186 : decode cX12_does 186 = .ok (.aload_n 0, 1) := by decide +kernel
theorem dX12_does_187 : decode cX12_does 187 = .ok (.getfield 7, 3) := by decide +kernel
theorem dX12_does_190 : decode cX12_does 190 = .ok (.iconst 1, 1) := by decide +kernel
theorem dX12_does_191 : decode cX12_does 191 = .ok (.iload_n 2, 1) := by decide +kernel
theorem dX12_does_192 : decode cX12_does 192 = .ok (.iastore, 1) := by decide +kernel
theorem dX12_does_193 : decode cX12_does 193 = .ok (.aload_n 0, 1) := by decide +kernel
theorem dX12_does_194 : decode cX12_does 194 = .ok (.getfield 7, 3) := by decide +kernel
theorem dX12_does_197 : decode cX12_does 197 = .ok (.iconst 2, 1) := by decide +kernel
theorem dX12_does_198 : decode cX12_does 198 = .ok (.iload_n 3, 1) := by decide +kernel
theorem dX12_does_199 : decode cX12_does 199 = .ok (.iastore, 1) := by decide +kernel
theorem dX12_does_200 : decode cX12_does 200 = .ok (.iload 4, 2) := by decide +kernel
theorem dX12_does_202 : decode cX12_does 202 = .ok (.ireturn, 1) := by decide +kernel
theorem dX12_does_203 : decode cX12_does 203 = .ok (.aload_n 0, 1) := by decide +kernel
theorem dX12_does_204 : decode cX12_does 204 = .ok (.getfield 7, 3) := by decide +kernel
theorem dX12_does_207 : decode cX12_does 207 = .ok (.iconst 3, 1) := by decide +kernel
theorem dX12_does_208 : decode cX12_does 208 = .ok (.iload_n 2, 1) := by decide +kernel
theorem dX12_does_209 : decode cX12_does 209 = .ok (.iastore, 1) := by decide +kernel
theorem dX12_does_210 : decode cX12_does 210 = .ok (.iconst 0, 1) := by decide +kernel
theorem dX12_does_211 : decode cX12_does 211 = .ok (.ireturn, 1) := by decide +kernel
theorem dX12_does_212 : decode cX12_does 212 = .ok (.aload_n 0, 1) := by decide +kernel
theorem dX12_does_213 : decode cX12_does 213 = .ok (.getfield 7, 3) := by decide +kernel
theorem dX12_does_216 : decode cX12_does 216 = .ok (.iconst 4, 1) := by decide +kernel
theorem dX12_does_217 : decode cX12_does 217 = .ok (.iload_n 2, 1) := by decide +kernel
theorem dX12_does_218 : decode cX12_does 218 = .ok (.iastore, 1) := by decide +kernel
theorem dX12_does_219 : decode cX12_does 219 = .ok (.iconst 0, 1) := by decide +kernel
theorem dX12_does_220 : decode cX12_does 220 = .ok (.ireturn, 1) := by decide +kernel
theorem dX12_does_221 : decode cX12_does 221 = .ok (.aload_n 0, 1) := by decide +kernel
theorem dX12_does_222 : decode cX12_does 222 = .ok (.iload_n 2, 1) := by decide +kernel
theorem dX12_does_223 : decode cX12_does 223 = .ok (.invokevirtual 115, 3) := by decide +kernel
theorem dX12_does_226 : decode cX12_does 226 = .ok (.ifCond .ne 7, 3) := by decide +kernel
theorem dX12_does_229 : decode cX12_does 229 = .ok (.iconst 2, 1) := by decide +kernel
theorem dX12_does_230 : decode cX12_does 230 = .ok (.goto 16, 3) := by decide +kernel
theorem dX12_does_233 : decode cX12_does 233 = .ok (.aload_n 0, 1) := by decide +kernel
theorem dX12_does_234 : decode cX12_does 234 = .ok (.iload_n 2, 1) := by decide +kernel
theorem dX12_does_235 : decode cX12_does 235 = .ok (.invokevirtual 52, 3) := by decide +kernel
theorem dX12_does_238 : decode cX12_does 238 = .ok (.ifCond .eq 7, 3) := by decide +kernel
theorem dX12_does_241 : decode cX12_does 241 = .ok (.iconst 0, 1) := by decide +kernel
theorem dX12_does_242 : decode cX12_does 242 = .ok (.goto 4, 3) := by decide +kernel
theorem dX12_does_245 : decode cX12_does 245 = .ok (.iconst 3, 1) := by decide +kernel
theorem dX12_does_246 : decode cX12_does 246 = .ok (.istore 4, 2) := by decide +kernel
theorem dX12_does_248 : decode cX12_does 248 = .ok (.iload 4, 2) := by decide +kernel
theorem dX12_does_250 : decode cX12_does 250 = .ok (.ifCond .ne 9, 3) := by decide +kernel
theorem dX12_does_253 : decode cX12_does 253 = .ok (.aload_n 0, 1) := by decide +kernel
theorem dX12_does_254 : decode cX12_does 254 = .ok (.iload_n 2, 1) := by decide +kernel
theorem dX12_does_255 : decode cX12_does 255 = .ok (.invokevirtual 100, 3) := by decide +kernel
theorem dX12_does_258 : decode cX12_does 258 = .ok (.pop, 1) := by decide +kernel
theorem dX12_does_259 : decode cX12_does 259 = .ok (.iload 4, 2) := by decide +kernel
theorem dX12_does_261 : decode cX12_does 261 = .ok (.ireturn, 1) := by decide +kernel
theorem dX12_does_262 : decode cX12_does 262 = .ok (.aload_n 0, 1) := by decide +kernel
theorem dX12_does_263 : decode cX12_does 263 = .ok (.invokevirtual 121, 3) := by decide +kernel
theorem dX12_does_266 : decode cX12_does 266 = .ok (.pop, 1) := by decide +kernel
theorem dX12_does_267 : decode cX12_does 267 = .ok (.iconst 0, 1) := by decide +kernel
theorem dX12_does_268 : decode cX12_does 268 = .ok (.ireturn, 1) := by decide +kernel
theorem dX12_work_0 : decode cX12_work 0 = .ok (.aload_n 0, 1) := by decide +kernel
theorem dX12_work_1 : decode cX12_work 1 = .ok (.iconst 0, 1) := by decide +kernel
theorem dX12_work_2 : decode cX12_work 2 = .ok (.putfield 28, 3) := by decide +kernel
theorem dX12_work_5 : decode cX12_work 5 = .ok (.aload_n 0, 1) := by decide +kernel
theorem dX12_work_6 : decode cX12_work 6 = .ok (.invokevirtual 159, 3) := by decide +kernel
theorem dX12_work_9 : decode cX12_work 9 = .ok (.ifCond .ne 9, 3) := by decide +kernel
theorem dX12_work_12 : decode cX12_work 12 = .ok (.aload_n 0, 1) := by decide +kernel
theorem dX12_work_13 : decode cX12_work 13 = .ok (.iconst 1, 1) := by decide +kernel
theorem dX12_work_14 : decode cX12_work 14 = .ok (.invokevirtual 106, 3) := by decide +kernel
theorem dX12_work_17 : decode cX12_work 17 = .ok (.ireturn, 1) := by decide +kernel
theorem dX12_work_18 : decode cX12_work 18 = .ok (.aload_n 0, 1) := by decide +kernel
theorem dX12_work_19 : decode cX12_work 19 = .ok (.invokevirtual 109, 3) := by decide +kernel
theorem dX12_work_22 : decode cX12_work 22 = .ok (.aload_n 0, 1) := by decide +kernel
theorem dX12_work_23 : decode cX12_work 23 = .ok (.iconst 0, 1) := by decide +kernel
theorem dX12_work_24 : decode cX12_work 24 = .ok (.putfield 125, 3) := by decide +kernel
theorem dX12_work_27 : decode cX12_work 27 = .ok (.iconst 0, 1) := by decide +kernel
theorem dX12_work_28 : decode cX12_work 28 = .ok (.istore_n 1, 1) := by decide +kernel
theorem dX12_work_29 : decode cX12_work 29 = .ok (.iconst 0, 1) := by decide +kernel
theorem dX12_work_30 : decode cX12_work 30 = .ok (.istore_n 2, 1) := by decide +kernel
theorem dX12_work_31 : decode cX12_work 31 = .ok (.iload_n 1, 1) := by decide +kernel
theorem dX12_work_32 : decode cX12_work 32 = .ok (.aload_n 0, 1) := by decide +kernel
theorem dX12_work_33 : decode cX12_work 33 = .ok (.getfield 147, 3) := by decide +kernel
theorem dX12_work_36 : decode cX12_work 36 = .ok (.if_icmp .ge 30, 3) := by decide +kernel
theorem dX12_work_39 : decode cX12_work 39 = .ok (.iload_n 2, 1) := by decide +kernel
theorem dX12_work_40 : decode cX12_work 40 = .ok (.ifCond .ne 26, 3) := by decide +kernel
theorem dX12_work_43 : decode cX12_work 43 = .ok (.aload_n 0, 1) := by decide +kernel
theorem dX12_work_44 : decode cX12_work 44 = .ok (.iconst 5, 1) := by decide +kernel
theorem dX12_work_45 : decode cX12_work 45 = .ok (.iload_n 1, 1) := by decide +kernel
theorem dX12_work_46 : decode cX12_work 46 = .ok (.imul, 1) := by decide +kernel
theorem dX12_work_47 : decode cX12_work 47 = .ok (.invokevirtual 163, 3) := by decide +kernel
theorem dX12_work_50 : decode cX12_work 50 = .ok (.istore_n 2, 1) := by decide +kernel
theorem dX12_work_51 : decode cX12_work 51 = .ok (.iload_n 1, 1) := by decide +kernel
theorem dX12_work_52 : decode cX12_work 52 = .ok (.iload_n 2, 1) := by decide +kernel
theorem dX12_work_53 : decode cX12_work 53 = .ok (.ifCond .ne 7, 3) := by decide +kernel
theorem dX12_work_56 : decode cX12_work 56 = .ok (.iconst 1, 1) := by decide +kernel
theorem dX12_work_57 : decode cX12_work 57 = .ok (.goto 4, 3) := by decide +kernel
theorem dX12_work_60 : decode cX12_work 60 = .ok (.iconst 0, 1) := by decide +kernel
theorem dX12_work_61 : decode cX12_work 61 = .ok (.iadd, 1) := by decide +kernel
theorem dX12_work_62 : decode cX12_work 62 = .ok (.istore_n 1, 1) := by decide +kernel
theorem dX12_work_63 : decode cX12_work 63 = .ok (.goto (-32), 3) := by decide +kernel
theorem dX12_work_66 : decode cX12_work 66 = .ok (.aload_n 0, 1) := by decide +kernel
theorem dX12_work_67 : decode cX12_work 67 = .ok (.getfield 7, 3) := by decide +kernel
theorem dX12_work_70 : decode cX12_work 70 = .ok (.bipush 6, 2) := by decide +kernel
theorem dX12_work_72 : decode cX12_work 72 = .ok (.iload_n 2, 1) := by decide +kernel
theorem dX12_work_73 : decode cX12_work 73 = .ok (.ifCond .ne 7, 3) := by decide +kernel
theorem dX12_work_76 : decode cX12_work 76 = .ok (.iconst (-1), 1) := by decide +kernel
theorem dX12_work_77 : decode cX12_work 77 = .ok (.goto 4, 3) := by decide +kernel
theorem dX12_work_80 : decode cX12_work 80 = .ok (.iload_n 1, 1) := by decide +kernel
theorem dX12_work_81 : decode cX12_work 81 = .ok (.iastore, 1) := by decide +kernel
theorem dX12_work_82 : decode cX12_work 82 = .ok (.aload_n 0, 1) := by decide +kernel
theorem dX12_work_83 : decode cX12_work 83 = .ok (.getfield 7, 3) := by decide +kernel
theorem dX12_work_86 : decode cX12_work 86 = .ok (.bipush 7, 2) := by decide +kernel
theorem dX12_work_88 : decode cX12_work 88 = .ok (.iload_n 2, 1) := by decide +kernel
theorem dX12_work_89 : decode cX12_work 89 = .ok (.iastore, 1) := by decide +kernel
theorem dX12_work_90 : decode cX12_work 90 = .ok (.iload_n 1, 1) := by decide +kernel
theorem dX12_work_91 : decode cX12_work 91 = .ok (.ireturn, 1) := by decide +kernel
theorem dX12_hasStopped_0 : decode cX12_hasStopped 0 = .ok (.aload_n 0, 1) := by decide +kernel
theorem dX12_hasStopped_1 : decode cX12_hasStopped 1 = .ok (.iconst 0, 1) := by decide +kernel
theorem dX12_hasStopped_2 : decode cX12_hasStopped 2 = .ok (.putfield 28, 3) := by decide +kernel
theorem dX12_hasStopped_5 : decode cX12_hasStopped 5 = .ok (.aload_n 0, 1) := by decide +kernel
theorem dX12_hasStopped_6 : decode cX12_hasStopped 6 = .ok (.getfield 7, 3) := by decide +kernel
theorem dX12_hasStopped_9 : decode cX12_hasStopped 9 = .ok (.bipush 6, 2) := by decide +kernel
theorem dX12_hasStopped_11 : decode cX12_hasStopped 11 = .ok (.iaload, 1) := by decide +kernel
theorem dX12_hasStopped_12 : decode cX12_hasStopped 12 = .ok (.iconst (-1), 1) := by decide +kernel
theorem dX12_hasStopped_13 : decode cX12_hasStopped 13 = .ok (.if_icmp .eq 7, 3) := by decide +kernel
theorem dX12_hasStopped_16 : decode cX12_hasStopped 16 = .ok (.iconst 1, 1) := by decide +kernel
theorem dX12_hasStopped_17 : decode cX12_hasStopped 17 = .ok (.goto 4, 3) := by decide +kernel
theorem dX12_hasStopped_20 : decode cX12_hasStopped 20 = .ok (.iconst 0, 1) := by decide +kernel
theorem dX12_hasStopped_21 : decode cX12_hasStopped 21 = .ok (.ireturn, 1) := by decide +kernel
theorem dX12_stoppedPart_0 : decode cX12_stoppedPart 0 = .ok (.aload_n 0, 1) := by decide +kernel
theorem dX12_stoppedPart_1 : decode cX12_stoppedPart 1 = .ok (.iconst 0, 1) := by decide +kernel
theorem dX12_stoppedPart_2 : decode cX12_stoppedPart 2 = .ok (.putfield 28, 3) := by decide +kernel
theorem dX12_stoppedPart_5 : decode cX12_stoppedPart 5 = .ok (.aload_n 0, 1) := by decide +kernel
theorem dX12_stoppedPart_6 : decode cX12_stoppedPart 6 = .ok (.getfield 7, 3) := by decide +kernel
theorem dX12_stoppedPart_9 : decode cX12_stoppedPart 9 = .ok (.bipush 6, 2) := by decide +kernel
theorem dX12_stoppedPart_11 : decode cX12_stoppedPart 11 = .ok (.iaload, 1) := by decide +kernel
theorem dX12_stoppedPart_12 : decode cX12_stoppedPart 12 = .ok (.iconst (-1), 1) := by decide +kernel
theorem dX12_stoppedPart_13 : decode cX12_stoppedPart 13 = .ok (.if_icmp .ne 11, 3) := by decide +kernel
theorem dX12_stoppedPart_16 : decode cX12_stoppedPart 16 = .ok (.aload_n 0, 1) := by decide +kernel
theorem dX12_stoppedPart_17 : decode cX12_stoppedPart 17 = .ok (.iconst 1, 1) := by decide +kernel
theorem dX12_stoppedPart_18 : decode cX12_stoppedPart 18 = .ok (.invokevirtual 106, 3) := by decide +kernel
theorem dX12_stoppedPart_21 : decode cX12_stoppedPart 21 = .ok (.goto 10, 3) := by decide +kernel
theorem dX12_stoppedPart_24 : decode cX12_stoppedPart 24 = .ok (.aload_n 0, 1) := by decide +kernel
theorem dX12_stoppedPart_25 : decode cX12_stoppedPart 25 = .ok (.getfield 7, 3) := by decide +kernel
theorem dX12_stoppedPart_28 : decode cX12_stoppedPart 28 = .ok (.bipush 6, 2) := by decide +kernel
theorem dX12_stoppedPart_30 : decode cX12_stoppedPart 30 = .ok (.iaload, 1) := by decide +kernel
theorem dX12_stoppedPart_31 : decode cX12_stoppedPart 31 = .ok (.ireturn, 1) := by decide +kernel
theorem dX12_whyStopped_0 : decode cX12_whyStopped 0 = .ok (.aload_n 0, 1) := by decide +kernel
theorem dX12_whyStopped_1 : decode cX12_whyStopped 1 = .ok (.iconst 0, 1) := by decide +kernel
theorem dX12_whyStopped_2 : decode cX12_whyStopped 2 = .ok (.putfield 28, 3) := by decide +kernel
theorem dX12_whyStopped_5 : decode cX12_whyStopped 5 = .ok (.aload_n 0, 1) := by decide +kernel
theorem dX12_whyStopped_6 : decode cX12_whyStopped 6 = .ok (.getfield 7, 3) := by decide +kernel
theorem dX12_whyStopped_9 : decode cX12_whyStopped 9 = .ok (.bipush 6, 2) := by decide +kernel
theorem dX12_whyStopped_11 : decode cX12_whyStopped 11 = .ok (.iaload, 1) := by decide +kernel
theorem dX12_whyStopped_12 : decode cX12_whyStopped 12 = .ok (.iconst (-1), 1) := by decide +kernel
theorem dX12_whyStopped_13 : decode cX12_whyStopped 13 = .ok (.if_icmp .ne 11, 3) := by decide +kernel
theorem dX12_whyStopped_16 : decode cX12_whyStopped 16 = .ok (.aload_n 0, 1) := by decide +kernel
theorem dX12_whyStopped_17 : decode cX12_whyStopped 17 = .ok (.iconst 1, 1) := by decide +kernel
theorem dX12_whyStopped_18 : decode cX12_whyStopped 18 = .ok (.invokevirtual 106, 3) := by decide +kernel
theorem dX12_whyStopped_21 : decode cX12_whyStopped 21 = .ok (.goto 10, 3) := by decide +kernel
theorem dX12_whyStopped_24 : decode cX12_whyStopped 24 = .ok (.aload_n 0, 1) := by decide +kernel
theorem dX12_whyStopped_25 : decode cX12_whyStopped 25 = .ok (.getfield 7, 3) := by decide +kernel
theorem dX12_whyStopped_28 : decode cX12_whyStopped 28 = .ok (.bipush 7, 2) := by decide +kernel
theorem dX12_whyStopped_30 : decode cX12_whyStopped 30 = .ok (.iaload, 1) := by decide +kernel
theorem dX12_whyStopped_31 : decode cX12_whyStopped 31 = .ok (.ireturn, 1) := by decide +kernel
theorem dX12_undo_0 : decode cX12_undo 0 = .ok (.aload_n 0, 1) := by decide +kernel
theorem dX12_undo_1 : decode cX12_undo 1 = .ok (.iconst 0, 1) := by decide +kernel
theorem dX12_undo_2 : decode cX12_undo 2 = .ok (.putfield 28, 3) := by decide +kernel
theorem dX12_undo_5 : decode cX12_undo 5 = .ok (.aload_n 0, 1) := by decide +kernel
theorem dX12_undo_6 : decode cX12_undo 6 = .ok (.getfield 36, 3) := by decide +kernel
theorem dX12_undo_9 : decode cX12_undo 9 = .ok (.ifCond .ne 9, 3) := by decide +kernel
theorem dX12_undo_12 : decode cX12_undo 12 = .ok (.aload_n 0, 1) := by decide +kernel
theorem dX12_undo_13 : decode cX12_undo 13 = .ok (.iconst 1, 1) := by decide +kernel
theorem dX12_undo_14 : decode cX12_undo 14 = .ok (.invokevirtual 106, 3) := by decide +kernel
theorem dX12_undo_17 : decode cX12_undo 17 = .ok (.ireturn, 1) := by decide +kernel
theorem dX12_undo_18 : decode cX12_undo 18 = .ok (.aload_n 0, 1) := by decide +kernel
theorem dX12_undo_19 : decode cX12_undo 19 = .ok (.dup, 1) := by decide +kernel
theorem dX12_undo_20 : decode cX12_undo 20 = .ok (.getfield 36, 3) := by decide +kernel
theorem dX12_undo_23 : decode cX12_undo 23 = .ok (.iconst 1, 1) := by decide +kernel
theorem dX12_undo_24 : decode cX12_undo 24 = .ok (.isub, 1) := by decide +kernel
theorem dX12_undo_25 : decode cX12_undo 25 = .ok (.putfield 36, 3) := by decide +kernel
theorem dX12_undo_28 : decode cX12_undo 28 = .ok (.iconst 0, 1) := by decide +kernel
theorem dX12_undo_29 : decode cX12_undo 29 = .ok (.istore_n 1, 1) := by decide +kernel
theorem dX12_undo_30 : decode cX12_undo 30 = .ok (.iload_n 1, 1) := by decide +kernel
theorem dX12_undo_31 : decode cX12_undo 31 = .ok (.bipush 68, 2) := by decide +kernel
theorem dX12_undo_33 : decode cX12_undo 33 = .ok (.if_icmp .ge 29, 3) := by decide +kernel
theorem dX12_undo_36 : decode cX12_undo 36 = .ok (.aload_n 0, 1) := by decide +kernel
theorem dX12_undo_37 : decode cX12_undo 37 = .ok (.getfield 7, 3) := by decide +kernel
theorem dX12_undo_40 : decode cX12_undo 40 = .ok (.iload_n 1, 1) := by decide +kernel
theorem dX12_undo_41 : decode cX12_undo 41 = .ok (.aload_n 0, 1) := by decide +kernel
theorem dX12_undo_42 : decode cX12_undo 42 = .ok (.getfield 13, 3) := by decide +kernel
theorem dX12_undo_45 : decode cX12_undo 45 = .ok (.bipush 68, 2) := by decide +kernel
theorem dX12_undo_47 : decode cX12_undo 47 = .ok (.aload_n 0, 1) := by decide +kernel
theorem dX12_undo_48 : decode cX12_undo 48 = .ok (.getfield 36, 3) := by decide +kernel
theorem dX12_undo_51 : decode cX12_undo 51 = .ok (.imul, 1) := by decide +kernel
theorem dX12_undo_52 : decode cX12_undo 52 = .ok (.iload_n 1, 1) := by decide +kernel
theorem dX12_undo_53 : decode cX12_undo 53 = .ok (.iadd, 1) := by decide +kernel
theorem dX12_undo_54 : decode cX12_undo 54 = .ok (.iaload, 1) := by decide +kernel
theorem dX12_undo_55 : decode cX12_undo 55 = .ok (.iastore, 1) := by decide +kernel
theorem dX12_undo_56 : decode cX12_undo 56 = .ok (.iinc 1 1, 3) := by decide +kernel
theorem dX12_undo_59 : decode cX12_undo 59 = .ok (.goto (-29), 3) := by decide +kernel
theorem dX12_undo_62 : decode cX12_undo 62 = .ok (.aload_n 0, 1) := by decide +kernel
theorem dX12_undo_63 : decode cX12_undo 63 = .ok (.getfield 36, 3) := by decide +kernel
theorem dX12_undo_66 : decode cX12_undo 66 = .ok (.ireturn, 1) := by decide +kernel
theorem dX12_keep_0 : decode cX12_keep 0 = .ok (.aload_n 0, 1) := by decide +kernel
theorem dX12_keep_1 : decode cX12_keep 1 = .ok (.iconst 0, 1) := by decide +kernel
theorem dX12_keep_2 : decode cX12_keep 2 = .ok (.putfield 28, 3) := by decide +kernel
theorem dX12_keep_5 : decode cX12_keep 5 = .ok (.iconst 0, 1) := by decide +kernel
theorem dX12_keep_6 : decode cX12_keep 6 = .ok (.istore_n 1, 1) := by decide +kernel
theorem dX12_keep_7 : decode cX12_keep 7 = .ok (.iload_n 1, 1) := by decide +kernel
theorem dX12_keep_8 : decode cX12_keep 8 = .ok (.bipush 68, 2) := by decide +kernel
theorem dX12_keep_10 : decode cX12_keep 10 = .ok (.if_icmp .ge 21, 3) := by decide +kernel
theorem dX12_keep_13 : decode cX12_keep 13 = .ok (.aload_n 0, 1) := by decide +kernel
theorem dX12_keep_14 : decode cX12_keep 14 = .ok (.getfield 16, 3) := by decide +kernel
theorem dX12_keep_17 : decode cX12_keep 17 = .ok (.iload_n 1, 1) := by decide +kernel
theorem dX12_keep_18 : decode cX12_keep 18 = .ok (.aload_n 0, 1) := by decide +kernel
theorem dX12_keep_19 : decode cX12_keep 19 = .ok (.getfield 7, 3) := by decide +kernel
theorem dX12_keep_22 : decode cX12_keep 22 = .ok (.iload_n 1, 1) := by decide +kernel
theorem dX12_keep_23 : decode cX12_keep 23 = .ok (.iaload, 1) := by decide +kernel
theorem dX12_keep_24 : decode cX12_keep 24 = .ok (.iastore, 1) := by decide +kernel
theorem dX12_keep_25 : decode cX12_keep 25 = .ok (.iinc 1 1, 3) := by decide +kernel
theorem dX12_keep_28 : decode cX12_keep 28 = .ok (.goto (-21), 3) := by decide +kernel
theorem dX12_keep_31 : decode cX12_keep 31 = .ok (.aload_n 0, 1) := by decide +kernel
theorem dX12_keep_32 : decode cX12_keep 32 = .ok (.iconst 1, 1) := by decide +kernel
theorem dX12_keep_33 : decode cX12_keep 33 = .ok (.putfield 166, 3) := by decide +kernel
theorem dX12_keep_36 : decode cX12_keep 36 = .ok (.aload_n 0, 1) := by decide +kernel
theorem dX12_keep_37 : decode cX12_keep 37 = .ok (.getfield 7, 3) := by decide +kernel
theorem dX12_keep_40 : decode cX12_keep 40 = .ok (.iconst 0, 1) := by decide +kernel
theorem dX12_keep_41 : decode cX12_keep 41 = .ok (.iaload, 1) := by decide +kernel
theorem dX12_keep_42 : decode cX12_keep 42 = .ok (.ireturn, 1) := by decide +kernel
theorem dX12_restore_0 : decode cX12_restore 0 = .ok (.aload_n 0, 1) := by decide +kernel
theorem dX12_restore_1 : decode cX12_restore 1 = .ok (.iconst 0, 1) := by decide +kernel
theorem dX12_restore_2 : decode cX12_restore 2 = .ok (.putfield 28, 3) := by decide +kernel
theorem dX12_restore_5 : decode cX12_restore 5 = .ok (.aload_n 0, 1) := by decide +kernel
theorem dX12_restore_6 : decode cX12_restore 6 = .ok (.getfield 166, 3) := by decide +kernel
theorem dX12_restore_9 : decode cX12_restore 9 = .ok (.ifCond .ne 9, 3) := by decide +kernel
theorem dX12_restore_12 : decode cX12_restore 12 = .ok (.aload_n 0, 1) := by decide +kernel
theorem dX12_restore_13 : decode cX12_restore 13 = .ok (.iconst 1, 1) := by decide +kernel
theorem dX12_restore_14 : decode cX12_restore 14 = .ok (.invokevirtual 106, 3) := by decide +kernel
theorem dX12_restore_17 : decode cX12_restore 17 = .ok (.ireturn, 1) := by decide +kernel
theorem dX12_restore_18 : decode cX12_restore 18 = .ok (.aload_n 0, 1) := by decide +kernel
theorem dX12_restore_19 : decode cX12_restore 19 = .ok (.invokevirtual 109, 3) := by decide +kernel
theorem dX12_restore_22 : decode cX12_restore 22 = .ok (.iconst 0, 1) := by decide +kernel
theorem dX12_restore_23 : decode cX12_restore 23 = .ok (.istore_n 1, 1) := by decide +kernel
theorem dX12_restore_24 : decode cX12_restore 24 = .ok (.iload_n 1, 1) := by decide +kernel
theorem dX12_restore_25 : decode cX12_restore 25 = .ok (.bipush 68, 2) := by decide +kernel
theorem dX12_restore_27 : decode cX12_restore 27 = .ok (.if_icmp .ge 21, 3) := by decide +kernel
theorem dX12_restore_30 : decode cX12_restore 30 = .ok (.aload_n 0, 1) := by decide +kernel
theorem dX12_restore_31 : decode cX12_restore 31 = .ok (.getfield 7, 3) := by decide +kernel
theorem dX12_restore_34 : decode cX12_restore 34 = .ok (.iload_n 1, 1) := by decide +kernel
theorem dX12_restore_35 : decode cX12_restore 35 = .ok (.aload_n 0, 1) := by decide +kernel
theorem dX12_restore_36 : decode cX12_restore 36 = .ok (.getfield 16, 3) := by decide +kernel
theorem dX12_restore_39 : decode cX12_restore 39 = .ok (.iload_n 1, 1) := by decide +kernel
theorem dX12_restore_40 : decode cX12_restore 40 = .ok (.iaload, 1) := by decide +kernel
theorem dX12_restore_41 : decode cX12_restore 41 = .ok (.iastore, 1) := by decide +kernel
theorem dX12_restore_42 : decode cX12_restore 42 = .ok (.iinc 1 1, 3) := by decide +kernel
theorem dX12_restore_45 : decode cX12_restore 45 = .ok (.goto (-21), 3) := by decide +kernel
theorem dX12_restore_48 : decode cX12_restore 48 = .ok (.aload_n 0, 1) := by decide +kernel
theorem dX12_restore_49 : decode cX12_restore 49 = .ok (.getfield 7, 3) := by decide +kernel
theorem dX12_restore_52 : decode cX12_restore 52 = .ok (.iconst 0, 1) := by decide +kernel
theorem dX12_restore_53 : decode cX12_restore 53 = .ok (.iaload, 1) := by decide +kernel
theorem dX12_restore_54 : decode cX12_restore 54 = .ok (.ireturn, 1) := by decide +kernel
theorem dX12_savedStates_0 : decode cX12_savedStates 0 = .ok (.aload_n 0, 1) := by decide +kernel
theorem dX12_savedStates_1 : decode cX12_savedStates 1 = .ok (.iconst 0, 1) := by decide +kernel
theorem dX12_savedStates_2 : decode cX12_savedStates 2 = .ok (.putfield 28, 3) := by decide +kernel
theorem dX12_savedStates_5 : decode cX12_savedStates 5 = .ok (.aload_n 0, 1) := by decide +kernel
theorem dX12_savedStates_6 : decode cX12_savedStates 6 = .ok (.getfield 36, 3) := by decide +kernel
theorem dX12_savedStates_9 : decode cX12_savedStates 9 = .ok (.ireturn, 1) := by decide +kernel
theorem dX12_days_0 : decode cX12_days 0 = .ok (.aload_n 0, 1) := by decide +kernel
theorem dX12_days_1 : decode cX12_days 1 = .ok (.iconst 0, 1) := by decide +kernel
theorem dX12_days_2 : decode cX12_days 2 = .ok (.putfield 28, 3) := by decide +kernel
theorem dX12_days_5 : decode cX12_days 5 = .ok (.aload_n 0, 1) := by decide +kernel
theorem dX12_days_6 : decode cX12_days 6 = .ok (.getfield 7, 3) := by decide +kernel
theorem dX12_days_9 : decode cX12_days 9 = .ok (.iconst 0, 1) := by decide +kernel
theorem dX12_days_10 : decode cX12_days 10 = .ok (.iaload, 1) := by decide +kernel
theorem dX12_days_11 : decode cX12_days 11 = .ok (.ireturn, 1) := by decide +kernel
theorem dX12_priceOf_0 : decode cX12_priceOf 0 = .ok (.aload_n 0, 1) := by decide +kernel
theorem dX12_priceOf_1 : decode cX12_priceOf 1 = .ok (.iconst 0, 1) := by decide +kernel
theorem dX12_priceOf_2 : decode cX12_priceOf 2 = .ok (.putfield 28, 3) := by decide +kernel
theorem dX12_priceOf_5 : decode cX12_priceOf 5 = .ok (.aload_n 0, 1) := by decide +kernel
theorem dX12_priceOf_6 : decode cX12_priceOf 6 = .ok (.iload_n 1, 1) := by decide +kernel
theorem dX12_priceOf_7 : decode cX12_priceOf 7 = .ok (.invokevirtual 115, 3) := by decide +kernel
theorem dX12_priceOf_10 : decode cX12_priceOf 10 = .ok (.ifCond .eq 11, 3) := by decide +kernel
theorem dX12_priceOf_13 : decode cX12_priceOf 13 = .ok (.aload_n 0, 1) := by decide +kernel
theorem dX12_priceOf_14 : decode cX12_priceOf 14 = .ok (.iload_n 1, 1) := by decide +kernel
theorem dX12_priceOf_15 : decode cX12_priceOf 15 = .ok (.invokevirtual 43, 3) := by decide +kernel
theorem dX12_priceOf_18 : decode cX12_priceOf 18 = .ok (.goto 8, 3) := by decide +kernel
theorem dX12_priceOf_21 : decode cX12_priceOf 21 = .ok (.aload_n 0, 1) := by decide +kernel
theorem dX12_priceOf_22 : decode cX12_priceOf 22 = .ok (.iconst 1, 1) := by decide +kernel
theorem dX12_priceOf_23 : decode cX12_priceOf 23 = .ok (.invokevirtual 106, 3) := by decide +kernel
theorem dX12_priceOf_26 : decode cX12_priceOf 26 = .ok (.ireturn, 1) := by decide +kernel
theorem dX12_shortWindow_0 : decode cX12_shortWindow 0 = .ok (.aload_n 0, 1) := by decide +kernel
theorem dX12_shortWindow_1 : decode cX12_shortWindow 1 = .ok (.iconst 0, 1) := by decide +kernel
theorem dX12_shortWindow_2 : decode cX12_shortWindow 2 = .ok (.putfield 28, 3) := by decide +kernel
theorem dX12_shortWindow_5 : decode cX12_shortWindow 5 = .ok (.aload_n 0, 1) := by decide +kernel
theorem dX12_shortWindow_6 : decode cX12_shortWindow 6 = .ok (.getfield 7, 3) := by decide +kernel
theorem dX12_shortWindow_9 : decode cX12_shortWindow 9 = .ok (.iconst 1, 1) := by decide +kernel
theorem dX12_shortWindow_10 : decode cX12_shortWindow 10 = .ok (.iaload, 1) := by decide +kernel
theorem dX12_shortWindow_11 : decode cX12_shortWindow 11 = .ok (.ireturn, 1) := by decide +kernel
theorem dX12_longWindow_0 : decode cX12_longWindow 0 = .ok (.aload_n 0, 1) := by decide +kernel
theorem dX12_longWindow_1 : decode cX12_longWindow 1 = .ok (.iconst 0, 1) := by decide +kernel
theorem dX12_longWindow_2 : decode cX12_longWindow 2 = .ok (.putfield 28, 3) := by decide +kernel
theorem dX12_longWindow_5 : decode cX12_longWindow 5 = .ok (.aload_n 0, 1) := by decide +kernel
theorem dX12_longWindow_6 : decode cX12_longWindow 6 = .ok (.getfield 7, 3) := by decide +kernel
theorem dX12_longWindow_9 : decode cX12_longWindow 9 = .ok (.iconst 2, 1) := by decide +kernel
theorem dX12_longWindow_10 : decode cX12_longWindow 10 = .ok (.iaload, 1) := by decide +kernel
theorem dX12_longWindow_11 : decode cX12_longWindow 11 = .ok (.ireturn, 1) := by decide +kernel
theorem dX12_tellsMean_0 : decode cX12_tellsMean 0 = .ok (.aload_n 0, 1) := by decide +kernel
theorem dX12_tellsMean_1 : decode cX12_tellsMean 1 = .ok (.iconst 0, 1) := by decide +kernel
theorem dX12_tellsMean_2 : decode cX12_tellsMean 2 = .ok (.putfield 28, 3) := by decide +kernel
theorem dX12_tellsMean_5 : decode cX12_tellsMean 5 = .ok (.aload_n 0, 1) := by decide +kernel
theorem dX12_tellsMean_6 : decode cX12_tellsMean 6 = .ok (.iload_n 1, 1) := by decide +kernel
theorem dX12_tellsMean_7 : decode cX12_tellsMean 7 = .ok (.invokevirtual 115, 3) := by decide +kernel
theorem dX12_tellsMean_10 : decode cX12_tellsMean 10 = .ok (.ifCond .ne 9, 3) := by decide +kernel
theorem dX12_tellsMean_13 : decode cX12_tellsMean 13 = .ok (.aload_n 0, 1) := by decide +kernel
theorem dX12_tellsMean_14 : decode cX12_tellsMean 14 = .ok (.iconst 1, 1) := by decide +kernel
theorem dX12_tellsMean_15 : decode cX12_tellsMean 15 = .ok (.invokevirtual 106, 3) := by decide +kernel
theorem dX12_tellsMean_18 : decode cX12_tellsMean 18 = .ok (.ireturn, 1) := by decide +kernel
theorem dX12_tellsMean_19 : decode cX12_tellsMean 19 = .ok (.iload_n 2, 1) := by decide +kernel
theorem dX12_tellsMean_20 : decode cX12_tellsMean 20 = .ok (.iconst 1, 1) := by decide +kernel
theorem dX12_tellsMean_21 : decode cX12_tellsMean 21 = .ok (.bipush 20, 2) := by decide +kernel
theorem dX12_tellsMean_23 : decode cX12_tellsMean 23 = .ok (.invokestatic 32, 3) := by decide +kernel
theorem dX12_tellsMean_26 : decode cX12_tellsMean 26 = .ok (.ifCond .eq 12, 3) := by decide +kernel
theorem dX12_tellsMean_29 : decode cX12_tellsMean 29 = .ok (.aload_n 0, 1) := by decide +kernel
theorem dX12_tellsMean_30 : decode cX12_tellsMean 30 = .ok (.iload_n 1, 1) := by decide +kernel
theorem dX12_tellsMean_31 : decode cX12_tellsMean 31 = .ok (.iload_n 2, 1) := by decide +kernel
theorem dX12_tellsMean_32 : decode cX12_tellsMean 32 = .ok (.invokevirtual 56, 3) := by decide +kernel
theorem dX12_tellsMean_35 : decode cX12_tellsMean 35 = .ok (.goto 8, 3) := by decide +kernel
theorem dX12_tellsMean_38 : decode cX12_tellsMean 38 = .ok (.aload_n 0, 1) := by decide +kernel
theorem dX12_tellsMean_39 : decode cX12_tellsMean 39 = .ok (.iconst 2, 1) := by decide +kernel
theorem dX12_tellsMean_40 : decode cX12_tellsMean 40 = .ok (.invokevirtual 106, 3) := by decide +kernel
theorem dX12_tellsMean_43 : decode cX12_tellsMean 43 = .ok (.ireturn, 1) := by decide +kernel
theorem dX12_mean_0 : decode cX12_mean 0 = .ok (.aload_n 0, 1) := by decide +kernel
theorem dX12_mean_1 : decode cX12_mean 1 = .ok (.iload_n 1, 1) := by decide +kernel
theorem dX12_mean_2 : decode cX12_mean 2 = .ok (.iload_n 2, 1) := by decide +kernel
theorem dX12_mean_3 : decode cX12_mean 3 = .ok (.invokevirtual 169, 3) := by decide +kernel
theorem dX12_mean_6 : decode cX12_mean 6 = .ok (.ireturn, 1) := by decide +kernel
theorem dX12_meanBySums_0 : decode cX12_meanBySums 0 = .ok (.aload_n 0, 1) := by decide +kernel
theorem dX12_meanBySums_1 : decode cX12_meanBySums 1 = .ok (.iload_n 1, 1) := by decide +kernel
theorem dX12_meanBySums_2 : decode cX12_meanBySums 2 = .ok (.iload_n 2, 1) := by decide +kernel
theorem dX12_meanBySums_3 : decode cX12_meanBySums 3 = .ok (.invokevirtual 169, 3) := by decide +kernel
theorem dX12_meanBySums_6 : decode cX12_meanBySums 6 = .ok (.ireturn, 1) := by decide +kernel
theorem dX12_weightedMean_0 : decode cX12_weightedMean 0 = .ok (.aload_n 0, 1) := by decide +kernel
theorem dX12_weightedMean_1 : decode cX12_weightedMean 1 = .ok (.iconst 0, 1) := by decide +kernel
theorem dX12_weightedMean_2 : decode cX12_weightedMean 2 = .ok (.putfield 28, 3) := by decide +kernel
theorem dX12_weightedMean_5 : decode cX12_weightedMean 5 = .ok (.aload_n 0, 1) := by decide +kernel
theorem dX12_weightedMean_6 : decode cX12_weightedMean 6 = .ok (.iload_n 1, 1) := by decide +kernel
theorem dX12_weightedMean_7 : decode cX12_weightedMean 7 = .ok (.invokevirtual 115, 3) := by decide +kernel
theorem dX12_weightedMean_10 : decode cX12_weightedMean 10 = .ok (.ifCond .eq 11, 3) := by decide +kernel
theorem dX12_weightedMean_13 : decode cX12_weightedMean 13 = .ok (.aload_n 0, 1) := by decide +kernel
theorem dX12_weightedMean_14 : decode cX12_weightedMean 14 = .ok (.iload_n 1, 1) := by decide +kernel
theorem dX12_weightedMean_15 : decode cX12_weightedMean 15 = .ok (.invokevirtual 172, 3) := by decide +kernel
theorem dX12_weightedMean_18 : decode cX12_weightedMean 18 = .ok (.goto 8, 3) := by decide +kernel
theorem dX12_weightedMean_21 : decode cX12_weightedMean 21 = .ok (.aload_n 0, 1) := by decide +kernel
theorem dX12_weightedMean_22 : decode cX12_weightedMean 22 = .ok (.iconst 1, 1) := by decide +kernel
theorem dX12_weightedMean_23 : decode cX12_weightedMean 23 = .ok (.invokevirtual 106, 3) := by decide +kernel
theorem dX12_weightedMean_26 : decode cX12_weightedMean 26 = .ok (.ireturn, 1) := by decide +kernel
theorem dX12_tellsSmooth_0 : decode cX12_tellsSmooth 0 = .ok (.aload_n 0, 1) := by decide +kernel
theorem dX12_tellsSmooth_1 : decode cX12_tellsSmooth 1 = .ok (.iconst 0, 1) := by decide +kernel
theorem dX12_tellsSmooth_2 : decode cX12_tellsSmooth 2 = .ok (.putfield 28, 3) := by decide +kernel
theorem dX12_tellsSmooth_5 : decode cX12_tellsSmooth 5 = .ok (.aload_n 0, 1) := by decide +kernel
theorem dX12_tellsSmooth_6 : decode cX12_tellsSmooth 6 = .ok (.iload_n 1, 1) := by decide +kernel
theorem dX12_tellsSmooth_7 : decode cX12_tellsSmooth 7 = .ok (.invokevirtual 115, 3) := by decide +kernel
theorem dX12_tellsSmooth_10 : decode cX12_tellsSmooth 10 = .ok (.ifCond .eq 11, 3) := by decide +kernel
theorem dX12_tellsSmooth_13 : decode cX12_tellsSmooth 13 = .ok (.aload_n 0, 1) := by decide +kernel
theorem dX12_tellsSmooth_14 : decode cX12_tellsSmooth 14 = .ok (.iload_n 1, 1) := by decide +kernel
theorem dX12_tellsSmooth_15 : decode cX12_tellsSmooth 15 = .ok (.invokevirtual 91, 3) := by decide +kernel
theorem dX12_tellsSmooth_18 : decode cX12_tellsSmooth 18 = .ok (.goto 8, 3) := by decide +kernel
theorem dX12_tellsSmooth_21 : decode cX12_tellsSmooth 21 = .ok (.aload_n 0, 1) := by decide +kernel
theorem dX12_tellsSmooth_22 : decode cX12_tellsSmooth 22 = .ok (.iconst 1, 1) := by decide +kernel
theorem dX12_tellsSmooth_23 : decode cX12_tellsSmooth 23 = .ok (.invokevirtual 106, 3) := by decide +kernel
theorem dX12_tellsSmooth_26 : decode cX12_tellsSmooth 26 = .ok (.ireturn, 1) := by decide +kernel
theorem dX12_smoothed_0 : decode cX12_smoothed 0 = .ok (.aload_n 0, 1) := by decide +kernel
theorem dX12_smoothed_1 : decode cX12_smoothed 1 = .ok (.iload_n 1, 1) := by decide +kernel
theorem dX12_smoothed_2 : decode cX12_smoothed 2 = .ok (.invokevirtual 175, 3) := by decide +kernel
theorem dX12_smoothed_5 : decode cX12_smoothed 5 = .ok (.ireturn, 1) := by decide +kernel
theorem dX12_smoothedBack_0 : decode cX12_smoothedBack 0 = .ok (.aload_n 0, 1) := by decide +kernel
theorem dX12_smoothedBack_1 : decode cX12_smoothedBack 1 = .ok (.iload_n 1, 1) := by decide +kernel
theorem dX12_smoothedBack_2 : decode cX12_smoothedBack 2 = .ok (.invokevirtual 175, 3) := by decide +kernel
theorem dX12_smoothedBack_5 : decode cX12_smoothedBack 5 = .ok (.ireturn, 1) := by decide +kernel
theorem dX12_median_0 : decode cX12_median 0 = .ok (.aload_n 0, 1) := by decide +kernel
theorem dX12_median_1 : decode cX12_median 1 = .ok (.iconst 0, 1) := by decide +kernel
theorem dX12_median_2 : decode cX12_median 2 = .ok (.putfield 28, 3) := by decide +kernel
theorem dX12_median_5 : decode cX12_median 5 = .ok (.aload_n 0, 1) := by decide +kernel
theorem dX12_median_6 : decode cX12_median 6 = .ok (.iload_n 1, 1) := by decide +kernel
theorem dX12_median_7 : decode cX12_median 7 = .ok (.invokevirtual 115, 3) := by decide +kernel
theorem dX12_median_10 : decode cX12_median 10 = .ok (.ifCond .eq 11, 3) := by decide +kernel
theorem dX12_median_13 : decode cX12_median 13 = .ok (.aload_n 0, 1) := by decide +kernel
theorem dX12_median_14 : decode cX12_median 14 = .ok (.iload_n 1, 1) := by decide +kernel
theorem dX12_median_15 : decode cX12_median 15 = .ok (.invokevirtual 49, 3) := by decide +kernel
theorem dX12_median_18 : decode cX12_median 18 = .ok (.goto 8, 3) := by decide +kernel
theorem dX12_median_21 : decode cX12_median 21 = .ok (.aload_n 0, 1) := by decide +kernel
theorem dX12_median_22 : decode cX12_median 22 = .ok (.iconst 1, 1) := by decide +kernel
theorem dX12_median_23 : decode cX12_median 23 = .ok (.invokevirtual 106, 3) := by decide +kernel
theorem dX12_median_26 : decode cX12_median 26 = .ok (.ireturn, 1) := by decide +kernel
theorem dX12_isCrease_0 : decode cX12_isCrease 0 = .ok (.aload_n 0, 1) := by decide +kernel
theorem dX12_isCrease_1 : decode cX12_isCrease 1 = .ok (.iconst 0, 1) := by decide +kernel
theorem dX12_isCrease_2 : decode cX12_isCrease 2 = .ok (.putfield 28, 3) := by decide +kernel
theorem dX12_isCrease_5 : decode cX12_isCrease 5 = .ok (.aload_n 0, 1) := by decide +kernel
theorem dX12_isCrease_6 : decode cX12_isCrease 6 = .ok (.iload_n 1, 1) := by decide +kernel
theorem dX12_isCrease_7 : decode cX12_isCrease 7 = .ok (.invokevirtual 115, 3) := by decide +kernel
theorem dX12_isCrease_10 : decode cX12_isCrease 10 = .ok (.ifCond .eq 11, 3) := by decide +kernel
theorem dX12_isCrease_13 : decode cX12_isCrease 13 = .ok (.aload_n 0, 1) := by decide +kernel
theorem dX12_isCrease_14 : decode cX12_isCrease 14 = .ok (.iload_n 1, 1) := by decide +kernel
theorem dX12_isCrease_15 : decode cX12_isCrease 15 = .ok (.invokevirtual 52, 3) := by decide +kernel
theorem dX12_isCrease_18 : decode cX12_isCrease 18 = .ok (.goto 16, 3) := by decide +kernel
theorem dX12_isCrease_21 : decode cX12_isCrease 21 = .ok (.aload_n 0, 1) := by decide +kernel
theorem dX12_isCrease_22 : decode cX12_isCrease 22 = .ok (.iconst 1, 1) := by decide +kernel
theorem dX12_isCrease_23 : decode cX12_isCrease 23 = .ok (.invokevirtual 106, 3) := by decide +kernel
theorem dX12_isCrease_26 : decode cX12_isCrease 26 = .ok (.ifCond .le 7, 3) := by decide +kernel
theorem dX12_isCrease_29 : decode cX12_isCrease 29 = .ok (.iconst 1, 1) := by decide +kernel
theorem dX12_isCrease_30 : decode cX12_isCrease 30 = .ok (.goto 4, 3) := by decide +kernel
theorem dX12_isCrease_33 : decode cX12_isCrease 33 = .ok (.iconst 0, 1) := by decide +kernel
theorem dX12_isCrease_34 : decode cX12_isCrease 34 = .ok (.ireturn, 1) := by decide +kernel
theorem dX12_creases_0 : decode cX12_creases 0 = .ok (.aload_n 0, 1) := by decide +kernel
theorem dX12_creases_1 : decode cX12_creases 1 = .ok (.iconst 0, 1) := by decide +kernel
theorem dX12_creases_2 : decode cX12_creases 2 = .ok (.putfield 28, 3) := by decide +kernel
theorem dX12_creases_5 : decode cX12_creases 5 = .ok (.aload_n 0, 1) := by decide +kernel
theorem dX12_creases_6 : decode cX12_creases 6 = .ok (.invokevirtual 178, 3) := by decide +kernel
theorem dX12_creases_9 : decode cX12_creases 9 = .ok (.ireturn, 1) := by decide +kernel
theorem dX12_tellsHigh_0 : decode cX12_tellsHigh 0 = .ok (.aload_n 0, 1) := by decide +kernel
theorem dX12_tellsHigh_1 : decode cX12_tellsHigh 1 = .ok (.iconst 0, 1) := by decide +kernel
theorem dX12_tellsHigh_2 : decode cX12_tellsHigh 2 = .ok (.putfield 28, 3) := by decide +kernel
theorem dX12_tellsHigh_5 : decode cX12_tellsHigh 5 = .ok (.aload_n 0, 1) := by decide +kernel
theorem dX12_tellsHigh_6 : decode cX12_tellsHigh 6 = .ok (.iload_n 1, 1) := by decide +kernel
theorem dX12_tellsHigh_7 : decode cX12_tellsHigh 7 = .ok (.invokevirtual 115, 3) := by decide +kernel
theorem dX12_tellsHigh_10 : decode cX12_tellsHigh 10 = .ok (.ifCond .eq 11, 3) := by decide +kernel
theorem dX12_tellsHigh_13 : decode cX12_tellsHigh 13 = .ok (.aload_n 0, 1) := by decide +kernel
theorem dX12_tellsHigh_14 : decode cX12_tellsHigh 14 = .ok (.iload_n 1, 1) := by decide +kernel
theorem dX12_tellsHigh_15 : decode cX12_tellsHigh 15 = .ok (.invokevirtual 181, 3) := by decide +kernel
theorem dX12_tellsHigh_18 : decode cX12_tellsHigh 18 = .ok (.goto 8, 3) := by decide +kernel
theorem dX12_tellsHigh_21 : decode cX12_tellsHigh 21 = .ok (.aload_n 0, 1) := by decide +kernel
theorem dX12_tellsHigh_22 : decode cX12_tellsHigh 22 = .ok (.iconst 1, 1) := by decide +kernel
theorem dX12_tellsHigh_23 : decode cX12_tellsHigh 23 = .ok (.invokevirtual 106, 3) := by decide +kernel
theorem dX12_tellsHigh_26 : decode cX12_tellsHigh 26 = .ok (.ireturn, 1) := by decide +kernel
theorem dX12_high_0 : decode cX12_high 0 = .ok (.aload_n 0, 1) := by decide +kernel
theorem dX12_high_1 : decode cX12_high 1 = .ok (.iload_n 1, 1) := by decide +kernel
theorem dX12_high_2 : decode cX12_high 2 = .ok (.invokevirtual 184, 3) := by decide +kernel
theorem dX12_high_5 : decode cX12_high 5 = .ok (.ireturn, 1) := by decide +kernel
theorem dX12_highByCandidates_0 : decode cX12_highByCandidates 0 = .ok (.aload_n 0, 1) := by decide +kernel
theorem dX12_highByCandidates_1 : decode cX12_highByCandidates 1 = .ok (.iload_n 1, 1) := by decide +kernel
theorem dX12_highByCandidates_2 : decode cX12_highByCandidates 2 = .ok (.invokevirtual 184, 3) := by decide +kernel
theorem dX12_highByCandidates_5 : decode cX12_highByCandidates 5 = .ok (.ireturn, 1) := by decide +kernel
theorem dX12_crossing_0 : decode cX12_crossing 0 = .ok (.aload_n 0, 1) := by decide +kernel
theorem dX12_crossing_1 : decode cX12_crossing 1 = .ok (.iconst 0, 1) := by decide +kernel
theorem dX12_crossing_2 : decode cX12_crossing 2 = .ok (.putfield 28, 3) := by decide +kernel
theorem dX12_crossing_5 : decode cX12_crossing 5 = .ok (.aload_n 0, 1) := by decide +kernel
theorem dX12_crossing_6 : decode cX12_crossing 6 = .ok (.iload_n 1, 1) := by decide +kernel
theorem dX12_crossing_7 : decode cX12_crossing 7 = .ok (.invokevirtual 115, 3) := by decide +kernel
theorem dX12_crossing_10 : decode cX12_crossing 10 = .ok (.ifCond .eq 11, 3) := by decide +kernel
theorem dX12_crossing_13 : decode cX12_crossing 13 = .ok (.aload_n 0, 1) := by decide +kernel
theorem dX12_crossing_14 : decode cX12_crossing 14 = .ok (.iload_n 1, 1) := by decide +kernel
theorem dX12_crossing_15 : decode cX12_crossing 15 = .ok (.invokevirtual 62, 3) := by decide +kernel
theorem dX12_crossing_18 : decode cX12_crossing 18 = .ok (.goto 8, 3) := by decide +kernel
theorem dX12_crossing_21 : decode cX12_crossing 21 = .ok (.aload_n 0, 1) := by decide +kernel
theorem dX12_crossing_22 : decode cX12_crossing 22 = .ok (.iconst 1, 1) := by decide +kernel
theorem dX12_crossing_23 : decode cX12_crossing 23 = .ok (.invokevirtual 106, 3) := by decide +kernel
theorem dX12_crossing_26 : decode cX12_crossing 26 = .ok (.ireturn, 1) := by decide +kernel
theorem dX12_crossings_0 : decode cX12_crossings 0 = .ok (.aload_n 0, 1) := by decide +kernel
theorem dX12_crossings_1 : decode cX12_crossings 1 = .ok (.iconst 0, 1) := by decide +kernel
theorem dX12_crossings_2 : decode cX12_crossings 2 = .ok (.putfield 28, 3) := by decide +kernel
theorem dX12_crossings_5 : decode cX12_crossings 5 = .ok (.aload_n 0, 1) := by decide +kernel
theorem dX12_crossings_6 : decode cX12_crossings 6 = .ok (.invokevirtual 187, 3) := by decide +kernel
theorem dX12_crossings_9 : decode cX12_crossings 9 = .ok (.ireturn, 1) := by decide +kernel
theorem dX12_pieces_0 : decode cX12_pieces 0 = .ok (.aload_n 0, 1) := by decide +kernel
theorem dX12_pieces_1 : decode cX12_pieces 1 = .ok (.iconst 0, 1) := by decide +kernel
theorem dX12_pieces_2 : decode cX12_pieces 2 = .ok (.putfield 28, 3) := by decide +kernel
theorem dX12_pieces_5 : decode cX12_pieces 5 = .ok (.aload_n 0, 1) := by decide +kernel
theorem dX12_pieces_6 : decode cX12_pieces 6 = .ok (.iload_n 1, 1) := by decide +kernel
theorem dX12_pieces_7 : decode cX12_pieces 7 = .ok (.invokevirtual 115, 3) := by decide +kernel
theorem dX12_pieces_10 : decode cX12_pieces 10 = .ok (.ifCond .eq 11, 3) := by decide +kernel
theorem dX12_pieces_13 : decode cX12_pieces 13 = .ok (.aload_n 0, 1) := by decide +kernel
theorem dX12_pieces_14 : decode cX12_pieces 14 = .ok (.iload_n 1, 1) := by decide +kernel
theorem dX12_pieces_15 : decode cX12_pieces 15 = .ok (.invokevirtual 190, 3) := by decide +kernel
theorem dX12_pieces_18 : decode cX12_pieces 18 = .ok (.goto 8, 3) := by decide +kernel
theorem dX12_pieces_21 : decode cX12_pieces 21 = .ok (.aload_n 0, 1) := by decide +kernel
theorem dX12_pieces_22 : decode cX12_pieces 22 = .ok (.iconst 1, 1) := by decide +kernel
theorem dX12_pieces_23 : decode cX12_pieces 23 = .ok (.invokevirtual 106, 3) := by decide +kernel
theorem dX12_pieces_26 : decode cX12_pieces 26 = .ok (.ireturn, 1) := by decide +kernel
theorem dX12_worth_0 : decode cX12_worth 0 = .ok (.aload_n 0, 1) := by decide +kernel
theorem dX12_worth_1 : decode cX12_worth 1 = .ok (.iconst 0, 1) := by decide +kernel
theorem dX12_worth_2 : decode cX12_worth 2 = .ok (.putfield 28, 3) := by decide +kernel
theorem dX12_worth_5 : decode cX12_worth 5 = .ok (.aload_n 0, 1) := by decide +kernel
theorem dX12_worth_6 : decode cX12_worth 6 = .ok (.iload_n 1, 1) := by decide +kernel
theorem dX12_worth_7 : decode cX12_worth 7 = .ok (.invokevirtual 115, 3) := by decide +kernel
theorem dX12_worth_10 : decode cX12_worth 10 = .ok (.ifCond .eq 11, 3) := by decide +kernel
theorem dX12_worth_13 : decode cX12_worth 13 = .ok (.aload_n 0, 1) := by decide +kernel
theorem dX12_worth_14 : decode cX12_worth 14 = .ok (.iload_n 1, 1) := by decide +kernel
theorem dX12_worth_15 : decode cX12_worth 15 = .ok (.invokevirtual 193, 3) := by decide +kernel
theorem dX12_worth_18 : decode cX12_worth 18 = .ok (.goto 9, 3) := by decide +kernel
theorem dX12_worth_21 : decode cX12_worth 21 = .ok (.aload_n 0, 1) := by decide +kernel
theorem dX12_worth_22 : decode cX12_worth 22 = .ok (.iconst 1, 1) := by decide +kernel
theorem dX12_worth_23 : decode cX12_worth 23 = .ok (.invokevirtual 106, 3) := by decide +kernel
theorem dX12_worth_26 : decode cX12_worth 26 = .ok (.i2l, 1) := by decide +kernel
theorem dX12_worth_27 : decode cX12_worth 27 = .ok (.lreturn, 1) := by decide +kernel
theorem dX12_greatestFall_0 : decode cX12_greatestFall 0 = .ok (.aload_n 0, 1) := by decide +kernel
theorem dX12_greatestFall_1 : decode cX12_greatestFall 1 = .ok (.iconst 0, 1) := by decide +kernel
theorem dX12_greatestFall_2 : decode cX12_greatestFall 2 = .ok (.putfield 28, 3) := by decide +kernel
theorem dX12_greatestFall_5 : decode cX12_greatestFall 5 = .ok (.aload_n 0, 1) := by decide +kernel
theorem dX12_greatestFall_6 : decode cX12_greatestFall 6 = .ok (.invokevirtual 197, 3) := by decide +kernel
theorem dX12_greatestFall_9 : decode cX12_greatestFall 9 = .ok (.ireturn, 1) := by decide +kernel
theorem dX12_greatestFallByPairs_0 : decode cX12_greatestFallByPairs 0 = .ok (.aload_n 0, 1) := by decide +kernel
theorem dX12_greatestFallByPairs_1 : decode cX12_greatestFallByPairs 1 = .ok (.iconst 0, 1) := by decide +kernel
theorem dX12_greatestFallByPairs_2 : decode cX12_greatestFallByPairs 2 = .ok (.putfield 28, 3) := by decide +kernel
theorem dX12_greatestFallByPairs_5 : decode cX12_greatestFallByPairs 5 = .ok (.aload_n 0, 1) := by decide +kernel
theorem dX12_greatestFallByPairs_6 : decode cX12_greatestFallByPairs 6 = .ok (.invokevirtual 197, 3) := by decide +kernel
theorem dX12_greatestFallByPairs_9 : decode cX12_greatestFallByPairs 9 = .ok (.ireturn, 1) := by decide +kernel
theorem dX12_longestRise_0 : decode cX12_longestRise 0 = .ok (.aload_n 0, 1) := by decide +kernel
theorem dX12_longestRise_1 : decode cX12_longestRise 1 = .ok (.iconst 0, 1) := by decide +kernel
theorem dX12_longestRise_2 : decode cX12_longestRise 2 = .ok (.putfield 28, 3) := by decide +kernel
theorem dX12_longestRise_5 : decode cX12_longestRise 5 = .ok (.aload_n 0, 1) := by decide +kernel
theorem dX12_longestRise_6 : decode cX12_longestRise 6 = .ok (.invokevirtual 200, 3) := by decide +kernel
theorem dX12_longestRise_9 : decode cX12_longestRise 9 = .ok (.ireturn, 1) := by decide +kernel
theorem dX12_season_0 : decode cX12_season 0 = .ok (.aload_n 0, 1) := by decide +kernel
theorem dX12_season_1 : decode cX12_season 1 = .ok (.iconst 0, 1) := by decide +kernel
theorem dX12_season_2 : decode cX12_season 2 = .ok (.putfield 28, 3) := by decide +kernel
theorem dX12_season_5 : decode cX12_season 5 = .ok (.aload_n 0, 1) := by decide +kernel
theorem dX12_season_6 : decode cX12_season 6 = .ok (.getfield 7, 3) := by decide +kernel
theorem dX12_season_9 : decode cX12_season 9 = .ok (.iconst 5, 1) := by decide +kernel
theorem dX12_season_10 : decode cX12_season 10 = .ok (.iaload, 1) := by decide +kernel
theorem dX12_season_11 : decode cX12_season 11 = .ok (.ireturn, 1) := by decide +kernel
theorem dX12_seasonIndex_0 : decode cX12_seasonIndex 0 = .ok (.aload_n 0, 1) := by decide +kernel
theorem dX12_seasonIndex_1 : decode cX12_seasonIndex 1 = .ok (.iconst 0, 1) := by decide +kernel
theorem dX12_seasonIndex_2 : decode cX12_seasonIndex 2 = .ok (.putfield 28, 3) := by decide +kernel
theorem dX12_seasonIndex_5 : decode cX12_seasonIndex 5 = .ok (.iload_n 1, 1) := by decide +kernel
theorem dX12_seasonIndex_6 : decode cX12_seasonIndex 6 = .ok (.iconst 0, 1) := by decide +kernel
theorem dX12_seasonIndex_7 : decode cX12_seasonIndex 7 = .ok (.aload_n 0, 1) := by decide +kernel
theorem dX12_seasonIndex_8 : decode cX12_seasonIndex 8 = .ok (.getfield 7, 3) := by decide +kernel
theorem dX12_seasonIndex_11 : decode cX12_seasonIndex 11 = .ok (.iconst 5, 1) := by decide +kernel
theorem dX12_seasonIndex_12 : decode cX12_seasonIndex 12 = .ok (.iaload, 1) := by decide +kernel
theorem dX12_seasonIndex_13 : decode cX12_seasonIndex 13 = .ok (.iconst 1, 1) := by decide +kernel
theorem dX12_seasonIndex_14 : decode cX12_seasonIndex 14 = .ok (.isub, 1) := by decide +kernel
theorem dX12_seasonIndex_15 : decode cX12_seasonIndex 15 = .ok (.invokestatic 32, 3) := by decide +kernel
theorem dX12_seasonIndex_18 : decode cX12_seasonIndex 18 = .ok (.ifCond .ne 9, 3) := by decide +kernel
theorem dX12_seasonIndex_21 : decode cX12_seasonIndex 21 = .ok (.aload_n 0, 1) := by decide +kernel
theorem dX12_seasonIndex_22 : decode cX12_seasonIndex 22 = .ok (.iconst 1, 1) := by decide +kernel
theorem dX12_seasonIndex_23 : decode cX12_seasonIndex 23 = .ok (.invokevirtual 106, 3) := by decide +kernel
theorem dX12_seasonIndex_26 : decode cX12_seasonIndex 26 = .ok (.ireturn, 1) := by decide +kernel
theorem dX12_seasonIndex_27 : decode cX12_seasonIndex 27 = .ok (.iload_n 1, 1) := by decide +kernel
theorem dX12_seasonIndex_28 : decode cX12_seasonIndex 28 = .ok (.aload_n 0, 1) := by decide +kernel
theorem dX12_seasonIndex_29 : decode cX12_seasonIndex 29 = .ok (.getfield 7, 3) := by decide +kernel
theorem dX12_seasonIndex_32 : decode cX12_seasonIndex 32 = .ok (.iconst 0, 1) := by decide +kernel
theorem dX12_seasonIndex_33 : decode cX12_seasonIndex 33 = .ok (.iaload, 1) := by decide +kernel
theorem dX12_seasonIndex_34 : decode cX12_seasonIndex 34 = .ok (.if_icmp .ge 11, 3) := by decide +kernel
theorem dX12_seasonIndex_37 : decode cX12_seasonIndex 37 = .ok (.aload_n 0, 1) := by decide +kernel
theorem dX12_seasonIndex_38 : decode cX12_seasonIndex 38 = .ok (.iload_n 1, 1) := by decide +kernel
theorem dX12_seasonIndex_39 : decode cX12_seasonIndex 39 = .ok (.invokevirtual 203, 3) := by decide +kernel
theorem dX12_seasonIndex_42 : decode cX12_seasonIndex 42 = .ok (.goto 8, 3) := by decide +kernel
theorem dX12_seasonIndex_45 : decode cX12_seasonIndex 45 = .ok (.aload_n 0, 1) := by decide +kernel
theorem dX12_seasonIndex_46 : decode cX12_seasonIndex 46 = .ok (.iconst 2, 1) := by decide +kernel
theorem dX12_seasonIndex_47 : decode cX12_seasonIndex 47 = .ok (.invokevirtual 106, 3) := by decide +kernel
theorem dX12_seasonIndex_50 : decode cX12_seasonIndex 50 = .ok (.ireturn, 1) := by decide +kernel
theorem dX12_barePrice_0 : decode cX12_barePrice 0 = .ok (.aload_n 0, 1) := by decide +kernel
theorem dX12_barePrice_1 : decode cX12_barePrice 1 = .ok (.iconst 0, 1) := by decide +kernel
theorem dX12_barePrice_2 : decode cX12_barePrice 2 = .ok (.putfield 28, 3) := by decide +kernel
theorem dX12_barePrice_5 : decode cX12_barePrice 5 = .ok (.aload_n 0, 1) := by decide +kernel
theorem dX12_barePrice_6 : decode cX12_barePrice 6 = .ok (.iload_n 1, 1) := by decide +kernel
theorem dX12_barePrice_7 : decode cX12_barePrice 7 = .ok (.invokevirtual 115, 3) := by decide +kernel
theorem dX12_barePrice_10 : decode cX12_barePrice 10 = .ok (.ifCond .eq 11, 3) := by decide +kernel
theorem dX12_barePrice_13 : decode cX12_barePrice 13 = .ok (.aload_n 0, 1) := by decide +kernel
theorem dX12_barePrice_14 : decode cX12_barePrice 14 = .ok (.iload_n 1, 1) := by decide +kernel
theorem dX12_barePrice_15 : decode cX12_barePrice 15 = .ok (.invokevirtual 206, 3) := by decide +kernel
theorem dX12_barePrice_18 : decode cX12_barePrice 18 = .ok (.goto 9, 3) := by decide +kernel
theorem dX12_barePrice_21 : decode cX12_barePrice 21 = .ok (.aload_n 0, 1) := by decide +kernel
theorem dX12_barePrice_22 : decode cX12_barePrice 22 = .ok (.iconst 1, 1) := by decide +kernel
theorem dX12_barePrice_23 : decode cX12_barePrice 23 = .ok (.invokevirtual 106, 3) := by decide +kernel
theorem dX12_barePrice_26 : decode cX12_barePrice 26 = .ok (.i2l, 1) := by decide +kernel
theorem dX12_barePrice_27 : decode cX12_barePrice 27 = .ok (.lreturn, 1) := by decide +kernel
theorem dX12_isMethod_0 : decode cX12_isMethod 0 = .ok (.iload_n 0, 1) := by decide +kernel
theorem dX12_isMethod_1 : decode cX12_isMethod 1 = .ok (.iconst 0, 1) := by decide +kernel
theorem dX12_isMethod_2 : decode cX12_isMethod 2 = .ok (.iconst 3, 1) := by decide +kernel
theorem dX12_isMethod_3 : decode cX12_isMethod 3 = .ok (.invokestatic 32, 3) := by decide +kernel
theorem dX12_isMethod_6 : decode cX12_isMethod 6 = .ok (.ireturn, 1) := by decide +kernel
theorem dX12_forecast_0 : decode cX12_forecast 0 = .ok (.aload_n 0, 1) := by decide +kernel
theorem dX12_forecast_1 : decode cX12_forecast 1 = .ok (.iconst 0, 1) := by decide +kernel
theorem dX12_forecast_2 : decode cX12_forecast 2 = .ok (.putfield 28, 3) := by decide +kernel
theorem dX12_forecast_5 : decode cX12_forecast 5 = .ok (.iload_n 1, 1) := by decide +kernel
theorem dX12_forecast_6 : decode cX12_forecast 6 = .ok (.invokestatic 209, 3) := by decide +kernel
theorem dX12_forecast_9 : decode cX12_forecast 9 = .ok (.ifCond .ne 9, 3) := by decide +kernel
theorem dX12_forecast_12 : decode cX12_forecast 12 = .ok (.aload_n 0, 1) := by decide +kernel
theorem dX12_forecast_13 : decode cX12_forecast 13 = .ok (.iconst 1, 1) := by decide +kernel
theorem dX12_forecast_14 : decode cX12_forecast 14 = .ok (.invokevirtual 106, 3) := by decide +kernel
theorem dX12_forecast_17 : decode cX12_forecast 17 = .ok (.ireturn, 1) := by decide +kernel
theorem dX12_forecast_18 : decode cX12_forecast 18 = .ok (.aload_n 0, 1) := by decide +kernel
theorem dX12_forecast_19 : decode cX12_forecast 19 = .ok (.getfield 7, 3) := by decide +kernel
theorem dX12_forecast_22 : decode cX12_forecast 22 = .ok (.iconst 0, 1) := by decide +kernel
theorem dX12_forecast_23 : decode cX12_forecast 23 = .ok (.iaload, 1) := by decide +kernel
theorem dX12_forecast_24 : decode cX12_forecast 24 = .ok (.ifCond .ne 11, 3) := by decide +kernel
theorem dX12_forecast_27 : decode cX12_forecast 27 = .ok (.aload_n 0, 1) := by decide +kernel
theorem dX12_forecast_28 : decode cX12_forecast 28 = .ok (.iconst 2, 1) := by decide +kernel
theorem dX12_forecast_29 : decode cX12_forecast 29 = .ok (.invokevirtual 106, 3) := by decide +kernel
theorem dX12_forecast_32 : decode cX12_forecast 32 = .ok (.goto 14, 3) := by decide +kernel
theorem dX12_forecast_35 : decode cX12_forecast 35 = .ok (.aload_n 0, 1) := by decide +kernel
theorem dX12_forecast_36 : decode cX12_forecast 36 = .ok (.iload_n 1, 1) := by decide +kernel
theorem dX12_forecast_37 : decode cX12_forecast 37 = .ok (.aload_n 0, 1) := by decide +kernel
theorem dX12_forecast_38 : decode cX12_forecast 38 = .ok (.getfield 7, 3) := by decide +kernel
theorem dX12_forecast_41 : decode cX12_forecast 41 = .ok (.iconst 0, 1) := by decide +kernel
theorem dX12_forecast_42 : decode cX12_forecast 42 = .ok (.iaload, 1) := by decide +kernel
theorem dX12_forecast_43 : decode cX12_forecast 43 = .ok (.invokevirtual 94, 3) := by decide +kernel
theorem dX12_forecast_46 : decode cX12_forecast 46 = .ok (.ireturn, 1) := by decide +kernel
theorem dX12_error_0 : decode cX12_error 0 = .ok (.aload_n 0, 1) := by decide +kernel
theorem dX12_error_1 : decode cX12_error 1 = .ok (.iconst 0, 1) := by decide +kernel
theorem dX12_error_2 : decode cX12_error 2 = .ok (.putfield 28, 3) := by decide +kernel
theorem dX12_error_5 : decode cX12_error 5 = .ok (.iload_n 1, 1) := by decide +kernel
theorem dX12_error_6 : decode cX12_error 6 = .ok (.invokestatic 209, 3) := by decide +kernel
theorem dX12_error_9 : decode cX12_error 9 = .ok (.ifCond .ne 9, 3) := by decide +kernel
theorem dX12_error_12 : decode cX12_error 12 = .ok (.aload_n 0, 1) := by decide +kernel
theorem dX12_error_13 : decode cX12_error 13 = .ok (.iconst 1, 1) := by decide +kernel
theorem dX12_error_14 : decode cX12_error 14 = .ok (.invokevirtual 106, 3) := by decide +kernel
theorem dX12_error_17 : decode cX12_error 17 = .ok (.ireturn, 1) := by decide +kernel
theorem dX12_error_18 : decode cX12_error 18 = .ok (.aload_n 0, 1) := by decide +kernel
theorem dX12_error_19 : decode cX12_error 19 = .ok (.getfield 7, 3) := by decide +kernel
theorem dX12_error_22 : decode cX12_error 22 = .ok (.iconst 0, 1) := by decide +kernel
theorem dX12_error_23 : decode cX12_error 23 = .ok (.iaload, 1) := by decide +kernel
theorem dX12_error_24 : decode cX12_error 24 = .ok (.iconst 2, 1) := by decide +kernel
theorem dX12_error_25 : decode cX12_error 25 = .ok (.if_icmp .ge 11, 3) := by decide +kernel
theorem dX12_error_28 : decode cX12_error 28 = .ok (.aload_n 0, 1) := by decide +kernel
theorem dX12_error_29 : decode cX12_error 29 = .ok (.iconst 2, 1) := by decide +kernel
theorem dX12_error_30 : decode cX12_error 30 = .ok (.invokevirtual 106, 3) := by decide +kernel
theorem dX12_error_33 : decode cX12_error 33 = .ok (.goto 8, 3) := by decide +kernel
theorem dX12_error_36 : decode cX12_error 36 = .ok (.aload_n 0, 1) := by decide +kernel
theorem dX12_error_37 : decode cX12_error 37 = .ok (.iload_n 1, 1) := by decide +kernel
theorem dX12_error_38 : decode cX12_error 38 = .ok (.invokevirtual 97, 3) := by decide +kernel
theorem dX12_error_41 : decode cX12_error 41 = .ok (.ireturn, 1) := by decide +kernel
theorem dX12_bestMethod_0 : decode cX12_bestMethod 0 = .ok (.aload_n 0, 1) := by decide +kernel
theorem dX12_bestMethod_1 : decode cX12_bestMethod 1 = .ok (.iconst 0, 1) := by decide +kernel
theorem dX12_bestMethod_2 : decode cX12_bestMethod 2 = .ok (.putfield 28, 3) := by decide +kernel
theorem dX12_bestMethod_5 : decode cX12_bestMethod 5 = .ok (.aload_n 0, 1) := by decide +kernel
theorem dX12_bestMethod_6 : decode cX12_bestMethod 6 = .ok (.getfield 7, 3) := by decide +kernel
theorem dX12_bestMethod_9 : decode cX12_bestMethod 9 = .ok (.iconst 0, 1) := by decide +kernel
theorem dX12_bestMethod_10 : decode cX12_bestMethod 10 = .ok (.iaload, 1) := by decide +kernel
theorem dX12_bestMethod_11 : decode cX12_bestMethod 11 = .ok (.iconst 2, 1) := by decide +kernel
theorem dX12_bestMethod_12 : decode cX12_bestMethod 12 = .ok (.if_icmp .ge 11, 3) := by decide +kernel
theorem dX12_bestMethod_15 : decode cX12_bestMethod 15 = .ok (.aload_n 0, 1) := by decide +kernel
theorem dX12_bestMethod_16 : decode cX12_bestMethod 16 = .ok (.iconst 1, 1) := by decide +kernel
theorem dX12_bestMethod_17 : decode cX12_bestMethod 17 = .ok (.invokevirtual 106, 3) := by decide +kernel
theorem dX12_bestMethod_20 : decode cX12_bestMethod 20 = .ok (.goto 7, 3) := by decide +kernel
theorem dX12_bestMethod_23 : decode cX12_bestMethod 23 = .ok (.aload_n 0, 1) := by decide +kernel
theorem dX12_bestMethod_24 : decode cX12_bestMethod 24 = .ok (.invokevirtual 212, 3) := by decide +kernel
theorem dX12_bestMethod_27 : decode cX12_bestMethod 27 = .ok (.ireturn, 1) := by decide +kernel
theorem dX12_crossingWith_0 : decode cX12_crossingWith 0 = .ok (.aload_n 0, 1) := by decide +kernel
theorem dX12_crossingWith_1 : decode cX12_crossingWith 1 = .ok (.iconst 0, 1) := by decide +kernel
theorem dX12_crossingWith_2 : decode cX12_crossingWith 2 = .ok (.putfield 28, 3) := by decide +kernel
theorem dX12_crossingWith_5 : decode cX12_crossingWith 5 = .ok (.iload_n 1, 1) := by decide +kernel
theorem dX12_crossingWith_6 : decode cX12_crossingWith 6 = .ok (.invokestatic 103, 3) := by decide +kernel
theorem dX12_crossingWith_9 : decode cX12_crossingWith 9 = .ok (.ifCond .ne 9, 3) := by decide +kernel
theorem dX12_crossingWith_12 : decode cX12_crossingWith 12 = .ok (.aload_n 0, 1) := by decide +kernel
theorem dX12_crossingWith_13 : decode cX12_crossingWith 13 = .ok (.iconst 1, 1) := by decide +kernel
theorem dX12_crossingWith_14 : decode cX12_crossingWith 14 = .ok (.invokevirtual 106, 3) := by decide +kernel
theorem dX12_crossingWith_17 : decode cX12_crossingWith 17 = .ok (.ireturn, 1) := by decide +kernel
theorem dX12_crossingWith_18 : decode cX12_crossingWith 18 = .ok (.aload_n 0, 1) := by decide +kernel
theorem dX12_crossingWith_19 : decode cX12_crossingWith 19 = .ok (.getfield 7, 3) := by decide +kernel
theorem dX12_crossingWith_22 : decode cX12_crossingWith 22 = .ok (.iconst 0, 1) := by decide +kernel
theorem dX12_crossingWith_23 : decode cX12_crossingWith 23 = .ok (.iaload, 1) := by decide +kernel
theorem dX12_crossingWith_24 : decode cX12_crossingWith 24 = .ok (.ifCond .eq 14, 3) := by decide +kernel
theorem dX12_crossingWith_27 : decode cX12_crossingWith 27 = .ok (.aload_n 0, 1) := by decide +kernel
theorem dX12_crossingWith_28 : decode cX12_crossingWith 28 = .ok (.getfield 7, 3) := by decide +kernel
theorem dX12_crossingWith_31 : decode cX12_crossingWith 31 = .ok (.iconst 0, 1) := by decide +kernel
theorem dX12_crossingWith_32 : decode cX12_crossingWith 32 = .ok (.iaload, 1) := by decide +kernel
theorem dX12_crossingWith_33 : decode cX12_crossingWith 33 = .ok (.bipush 60, 2) := by decide +kernel
theorem dX12_crossingWith_35 : decode cX12_crossingWith 35 = .ok (.if_icmp .ne 9, 3) := by decide +kernel
theorem dX12_crossingWith_38 : decode cX12_crossingWith 38 = .ok (.aload_n 0, 1) := by decide +kernel
theorem dX12_crossingWith_39 : decode cX12_crossingWith 39 = .ok (.iconst 2, 1) := by decide +kernel
theorem dX12_crossingWith_40 : decode cX12_crossingWith 40 = .ok (.invokevirtual 106, 3) := by decide +kernel
theorem dX12_crossingWith_43 : decode cX12_crossingWith 43 = .ok (.ireturn, 1) := by decide +kernel
theorem dX12_crossingWith_44 : decode cX12_crossingWith 44 = .ok (.aload_n 0, 1) := by decide +kernel
theorem dX12_crossingWith_45 : decode cX12_crossingWith 45 = .ok (.iload_n 1, 1) := by decide +kernel
theorem dX12_crossingWith_46 : decode cX12_crossingWith 46 = .ok (.invokevirtual 112, 3) := by decide +kernel
theorem dX12_crossingWith_49 : decode cX12_crossingWith 49 = .ok (.aload_n 0, 1) := by decide +kernel
theorem dX12_crossingWith_50 : decode cX12_crossingWith 50 = .ok (.aload_n 0, 1) := by decide +kernel
theorem dX12_crossingWith_51 : decode cX12_crossingWith 51 = .ok (.getfield 7, 3) := by decide +kernel
theorem dX12_crossingWith_54 : decode cX12_crossingWith 54 = .ok (.iconst 0, 1) := by decide +kernel
theorem dX12_crossingWith_55 : decode cX12_crossingWith 55 = .ok (.iaload, 1) := by decide +kernel
theorem dX12_crossingWith_56 : decode cX12_crossingWith 56 = .ok (.iconst 1, 1) := by decide +kernel
theorem dX12_crossingWith_57 : decode cX12_crossingWith 57 = .ok (.isub, 1) := by decide +kernel
theorem dX12_crossingWith_58 : decode cX12_crossingWith 58 = .ok (.invokevirtual 62, 3) := by decide +kernel
theorem dX12_crossingWith_61 : decode cX12_crossingWith 61 = .ok (.istore_n 2, 1) := by decide +kernel
theorem dX12_crossingWith_62 : decode cX12_crossingWith 62 = .ok (.aload_n 0, 1) := by decide +kernel
theorem dX12_crossingWith_63 : decode cX12_crossingWith 63 = .ok (.getfield 7, 3) := by decide +kernel
theorem dX12_crossingWith_66 : decode cX12_crossingWith 66 = .ok (.iconst 0, 1) := by decide +kernel
theorem dX12_crossingWith_67 : decode cX12_crossingWith 67 = .ok (.dup2, 1) := by decide +kernel
theorem dX12_crossingWith_68 : decode cX12_crossingWith 68 = .ok (.iaload, 1) := by decide +kernel
theorem dX12_crossingWith_69 : decode cX12_crossingWith 69 = .ok (.iconst 1, 1) := by decide +kernel
theorem dX12_crossingWith_70 : decode cX12_crossingWith 70 = .ok (.isub, 1) := by decide +kernel
theorem dX12_crossingWith_71 : decode cX12_crossingWith 71 = .ok (.iastore, 1) := by decide +kernel
theorem dX12_crossingWith_72 : decode cX12_crossingWith 72 = .ok (.aload_n 0, 1) := by decide +kernel
theorem dX12_crossingWith_73 : decode cX12_crossingWith 73 = .ok (.getfield 7, 3) := by decide +kernel
theorem dX12_crossingWith_76 : decode cX12_crossingWith 76 = .ok (.bipush 8, 2) := by decide +kernel
theorem dX12_crossingWith_78 : decode cX12_crossingWith 78 = .ok (.aload_n 0, 1) := by decide +kernel
theorem dX12_crossingWith_79 : decode cX12_crossingWith 79 = .ok (.getfield 7, 3) := by decide +kernel
theorem dX12_crossingWith_82 : decode cX12_crossingWith 82 = .ok (.iconst 0, 1) := by decide +kernel
theorem dX12_crossingWith_83 : decode cX12_crossingWith 83 = .ok (.iaload, 1) := by decide +kernel
theorem dX12_crossingWith_84 : decode cX12_crossingWith 84 = .ok (.iadd, 1) := by decide +kernel
theorem dX12_crossingWith_85 : decode cX12_crossingWith 85 = .ok (.iconst 0, 1) := by decide +kernel
theorem dX12_crossingWith_86 : decode cX12_crossingWith 86 = .ok (.iastore, 1) := by decide +kernel
theorem dX12_crossingWith_87 : decode cX12_crossingWith 87 = .ok (.iload_n 2, 1) := by decide +kernel
theorem dX12_crossingWith_88 : decode cX12_crossingWith 88 = .ok (.ireturn, 1) := by decide +kernel
theorem dX12_share_0 : decode cX12_share 0 = .ok (.aload_n 0, 1) := by decide +kernel
theorem dX12_share_1 : decode cX12_share 1 = .ok (.getfield 7, 3) := by decide +kernel
theorem dX12_share_4 : decode cX12_share 4 = .ok (.iconst 0, 1) := by decide +kernel
theorem dX12_share_5 : decode cX12_share 5 = .ok (.iaload, 1) := by decide +kernel
theorem dX12_share_6 : decode cX12_share 6 = .ok (.ifCond .ne 7, 3) := by decide +kernel
theorem dX12_share_9 : decode cX12_share 9 = .ok (.dconst 1, 1) := by decide +kernel
theorem dX12_share_10 : decode cX12_share 10 = .ok (.goto 23, 3) := by decide +kernel
theorem dX12_share_13 : decode cX12_share 13 = .ok (.aload_n 0, 1) := by decide +kernel
theorem dX12_share_14 : decode cX12_share 14 = .ok (.getfield 7, 3) := by decide +kernel
theorem dX12_share_17 : decode cX12_share 17 = .ok (.iconst 0, 1) := by decide +kernel
theorem dX12_share_18 : decode cX12_share 18 = .ok (.iaload, 1) := by decide +kernel
theorem dX12_share_19 : decode cX12_share 19 = .ok (.aload_n 0, 1) := by decide +kernel
theorem dX12_share_20 : decode cX12_share 20 = .ok (.invokevirtual 178, 3) := by decide +kernel
theorem dX12_share_23 : decode cX12_share 23 = .ok (.isub, 1) := by decide +kernel
theorem dX12_share_24 : decode cX12_share 24 = .ok (.i2d, 1) := by decide +kernel
theorem dX12_share_25 : decode cX12_share 25 = .ok (.aload_n 0, 1) := by decide +kernel
theorem dX12_share_26 : decode cX12_share 26 = .ok (.getfield 7, 3) := by decide +kernel
theorem dX12_share_29 : decode cX12_share 29 = .ok (.iconst 0, 1) := by decide +kernel
theorem dX12_share_30 : decode cX12_share 30 = .ok (.iaload, 1) := by decide +kernel
theorem dX12_share_31 : decode cX12_share 31 = .ok (.i2d, 1) := by decide +kernel
theorem dX12_share_32 : decode cX12_share 32 = .ok (.ddiv, 1) := by decide +kernel
theorem dX12_share_33 : decode cX12_share 33 = .ok (.dreturn, 1) := by decide +kernel
theorem dX12_smoothShare_0 : decode cX12_smoothShare 0 = .ok (.aload_n 0, 1) := by decide +kernel
theorem dX12_smoothShare_1 : decode cX12_smoothShare 1 = .ok (.iconst 0, 1) := by decide +kernel
theorem dX12_smoothShare_2 : decode cX12_smoothShare 2 = .ok (.putfield 28, 3) := by decide +kernel
theorem dX12_smoothShare_5 : decode cX12_smoothShare 5 = .ok (.aload_n 0, 1) := by decide +kernel
theorem dX12_smoothShare_6 : decode cX12_smoothShare 6 = .ok (.invokevirtual 215, 3) := by decide +kernel
theorem dX12_smoothShare_9 : decode cX12_smoothShare 9 = .ok (.dreturn, 1) := by decide +kernel
theorem dX12_digestDay_0 : decode cX12_digestDay 0 = .ok (.aload_n 0, 1) := by decide +kernel
theorem dX12_digestDay_1 : decode cX12_digestDay 1 = .ok (.iload_n 3, 1) := by decide +kernel
theorem dX12_digestDay_2 : decode cX12_digestDay 2 = .ok (.aload_n 0, 1) := by decide +kernel
theorem dX12_digestDay_3 : decode cX12_digestDay 3 = .ok (.getfield 7, 3) := by decide +kernel
theorem dX12_digestDay_6 : decode cX12_digestDay 6 = .ok (.iconst 1, 1) := by decide +kernel
theorem dX12_digestDay_7 : decode cX12_digestDay 7 = .ok (.iaload, 1) := by decide +kernel
theorem dX12_digestDay_8 : decode cX12_digestDay 8 = .ok (.invokevirtual 56, 3) := by decide +kernel
theorem dX12_digestDay_11 : decode cX12_digestDay 11 = .ok (.istore 4, 2) := by decide +kernel
theorem dX12_digestDay_13 : decode cX12_digestDay 13 = .ok (.ldc2_w 219, 3) := by decide +kernel
theorem dX12_digestDay_16 : decode cX12_digestDay 16 = .ok (.ldc2_w 219, 3) := by decide +kernel
theorem dX12_digestDay_19 : decode cX12_digestDay 19 = .ok (.ldc2_w 219, 3) := by decide +kernel
theorem dX12_digestDay_22 : decode cX12_digestDay 22 = .ok (.lload_n 1, 1) := by decide +kernel
theorem dX12_digestDay_23 : decode cX12_digestDay 23 = .ok (.lmul, 1) := by decide +kernel
theorem dX12_digestDay_24 : decode cX12_digestDay 24 = .ok (.aload_n 0, 1) := by decide +kernel
theorem dX12_digestDay_25 : decode cX12_digestDay 25 = .ok (.iload_n 3, 1) := by decide +kernel
theorem dX12_digestDay_26 : decode cX12_digestDay 26 = .ok (.invokevirtual 43, 3) := by decide +kernel
theorem dX12_digestDay_29 : decode cX12_digestDay 29 = .ok (.i2l, 1) := by decide +kernel
theorem dX12_digestDay_30 : decode cX12_digestDay 30 = .ok (.ladd, 1) := by decide +kernel
theorem dX12_digestDay_31 : decode cX12_digestDay 31 = .ok (.lmul, 1) := by decide +kernel
theorem dX12_digestDay_32 : decode cX12_digestDay 32 = .ok (.iload 4, 2) := by decide +kernel
theorem dX12_digestDay_34 : decode cX12_digestDay 34 = .ok (.i2l, 1) := by decide +kernel
theorem dX12_digestDay_35 : decode cX12_digestDay 35 = .ok (.ladd, 1) := by decide +kernel
theorem dX12_digestDay_36 : decode cX12_digestDay 36 = .ok (.lmul, 1) := by decide +kernel
theorem dX12_digestDay_37 : decode cX12_digestDay 37 = .ok (.iload 4, 2) := by decide +kernel
theorem dX12_digestDay_39 : decode cX12_digestDay 39 = .ok (.i2l, 1) := by decide +kernel
theorem dX12_digestDay_40 : decode cX12_digestDay 40 = .ok (.ladd, 1) := by decide +kernel
theorem dX12_digestDay_41 : decode cX12_digestDay 41 = .ok (.lstore 5, 2) := by decide +kernel
theorem dX12_digestDay_43 : decode cX12_digestDay 43 = .ok (.ldc2_w 219, 3) := by decide +kernel
theorem dX12_digestDay_46 : decode cX12_digestDay 46 = .ok (.ldc2_w 219, 3) := by decide +kernel
theorem dX12_digestDay_49 : decode cX12_digestDay 49 = .ok (.lload 5, 2) := by decide +kernel
theorem dX12_digestDay_51 : decode cX12_digestDay 51 = .ok (.lmul, 1) := by decide +kernel
theorem dX12_digestDay_52 : decode cX12_digestDay 52 = .ok (.aload_n 0, 1) := by decide +kernel
theorem dX12_digestDay_53 : decode cX12_digestDay 53 = .ok (.iload_n 3, 1) := by decide +kernel
theorem dX12_digestDay_54 : decode cX12_digestDay 54 = .ok (.aload_n 0, 1) := by decide +kernel
theorem dX12_digestDay_55 : decode cX12_digestDay 55 = .ok (.getfield 7, 3) := by decide +kernel
theorem dX12_digestDay_58 : decode cX12_digestDay 58 = .ok (.iconst 2, 1) := by decide +kernel
theorem dX12_digestDay_59 : decode cX12_digestDay 59 = .ok (.iaload, 1) := by decide +kernel
theorem dX12_digestDay_60 : decode cX12_digestDay 60 = .ok (.invokevirtual 56, 3) := by decide +kernel
theorem dX12_digestDay_63 : decode cX12_digestDay 63 = .ok (.i2l, 1) := by decide +kernel
theorem dX12_digestDay_64 : decode cX12_digestDay 64 = .ok (.ladd, 1) := by decide +kernel
theorem dX12_digestDay_65 : decode cX12_digestDay 65 = .ok (.lmul, 1) := by decide +kernel
theorem dX12_digestDay_66 : decode cX12_digestDay 66 = .ok (.aload_n 0, 1) := by decide +kernel
theorem dX12_digestDay_67 : decode cX12_digestDay 67 = .ok (.iload_n 3, 1) := by decide +kernel
theorem dX12_digestDay_68 : decode cX12_digestDay 68 = .ok (.invokevirtual 172, 3) := by decide +kernel
theorem dX12_digestDay_71 : decode cX12_digestDay 71 = .ok (.i2l, 1) := by decide +kernel
theorem dX12_digestDay_72 : decode cX12_digestDay 72 = .ok (.ladd, 1) := by decide +kernel
theorem dX12_digestDay_73 : decode cX12_digestDay 73 = .ok (.lstore 5, 2) := by decide +kernel
theorem dX12_digestDay_75 : decode cX12_digestDay 75 = .ok (.ldc2_w 219, 3) := by decide +kernel
theorem dX12_digestDay_78 : decode cX12_digestDay 78 = .ok (.ldc2_w 219, 3) := by decide +kernel
theorem dX12_digestDay_81 : decode cX12_digestDay 81 = .ok (.ldc2_w 219, 3) := by decide +kernel
theorem dX12_digestDay_84 : decode cX12_digestDay 84 = .ok (.lload 5, 2) := by decide +kernel
theorem dX12_digestDay_86 : decode cX12_digestDay 86 = .ok (.lmul, 1) := by decide +kernel
theorem dX12_digestDay_87 : decode cX12_digestDay 87 = .ok (.aload_n 0, 1) := by decide +kernel
theorem dX12_digestDay_88 : decode cX12_digestDay 88 = .ok (.iload_n 3, 1) := by decide +kernel
theorem dX12_digestDay_89 : decode cX12_digestDay 89 = .ok (.invokevirtual 91, 3) := by decide +kernel
theorem dX12_digestDay_92 : decode cX12_digestDay 92 = .ok (.i2l, 1) := by decide +kernel
theorem dX12_digestDay_93 : decode cX12_digestDay 93 = .ok (.ladd, 1) := by decide +kernel
theorem dX12_digestDay_94 : decode cX12_digestDay 94 = .ok (.lmul, 1) := by decide +kernel
theorem dX12_digestDay_95 : decode cX12_digestDay 95 = .ok (.aload_n 0, 1) := by decide +kernel
theorem dX12_digestDay_96 : decode cX12_digestDay 96 = .ok (.iload_n 3, 1) := by decide +kernel
theorem dX12_digestDay_97 : decode cX12_digestDay 97 = .ok (.invokevirtual 91, 3) := by decide +kernel
theorem dX12_digestDay_100 : decode cX12_digestDay 100 = .ok (.i2l, 1) := by decide +kernel
theorem dX12_digestDay_101 : decode cX12_digestDay 101 = .ok (.ladd, 1) := by decide +kernel
theorem dX12_digestDay_102 : decode cX12_digestDay 102 = .ok (.lmul, 1) := by decide +kernel
theorem dX12_digestDay_103 : decode cX12_digestDay 103 = .ok (.aload_n 0, 1) := by decide +kernel
theorem dX12_digestDay_104 : decode cX12_digestDay 104 = .ok (.iload_n 3, 1) := by decide +kernel
theorem dX12_digestDay_105 : decode cX12_digestDay 105 = .ok (.invokevirtual 49, 3) := by decide +kernel
theorem dX12_digestDay_108 : decode cX12_digestDay 108 = .ok (.i2l, 1) := by decide +kernel
theorem dX12_digestDay_109 : decode cX12_digestDay 109 = .ok (.ladd, 1) := by decide +kernel
theorem dX12_digestDay_110 : decode cX12_digestDay 110 = .ok (.lstore 5, 2) := by decide +kernel
theorem dX12_digestDay_112 : decode cX12_digestDay 112 = .ok (.ldc2_w 219, 3) := by decide +kernel
theorem dX12_digestDay_115 : decode cX12_digestDay 115 = .ok (.ldc2_w 219, 3) := by decide +kernel
theorem dX12_digestDay_118 : decode cX12_digestDay 118 = .ok (.ldc2_w 219, 3) := by decide +kernel
theorem dX12_digestDay_121 : decode cX12_digestDay 121 = .ok (.lload 5, 2) := by decide +kernel
theorem dX12_digestDay_123 : decode cX12_digestDay 123 = .ok (.lmul, 1) := by decide +kernel
theorem dX12_digestDay_124 : decode cX12_digestDay 124 = .ok (.aload_n 0, 1) := by decide +kernel
theorem dX12_digestDay_125 : decode cX12_digestDay 125 = .ok (.iload_n 3, 1) := by decide +kernel
theorem dX12_digestDay_126 : decode cX12_digestDay 126 = .ok (.invokevirtual 52, 3) := by decide +kernel
theorem dX12_digestDay_129 : decode cX12_digestDay 129 = .ok (.ifCond .eq 7, 3) := by decide +kernel
theorem dX12_digestDay_132 : decode cX12_digestDay 132 = .ok (.iconst 1, 1) := by decide +kernel
theorem dX12_digestDay_133 : decode cX12_digestDay 133 = .ok (.goto 4, 3) := by decide +kernel
theorem dX12_digestDay_136 : decode cX12_digestDay 136 = .ok (.iconst 0, 1) := by decide +kernel
theorem dX12_digestDay_137 : decode cX12_digestDay 137 = .ok (.i2l, 1) := by decide +kernel
theorem dX12_digestDay_138 : decode cX12_digestDay 138 = .ok (.ladd, 1) := by decide +kernel
theorem dX12_digestDay_139 : decode cX12_digestDay 139 = .ok (.lmul, 1) := by decide +kernel
theorem dX12_digestDay_140 : decode cX12_digestDay 140 = .ok (.aload_n 0, 1) := by decide +kernel
theorem dX12_digestDay_141 : decode cX12_digestDay 141 = .ok (.iload_n 3, 1) := by decide +kernel
theorem dX12_digestDay_142 : decode cX12_digestDay 142 = .ok (.invokevirtual 181, 3) := by decide +kernel
theorem dX12_digestDay_145 : decode cX12_digestDay 145 = .ok (.i2l, 1) := by decide +kernel
theorem dX12_digestDay_146 : decode cX12_digestDay 146 = .ok (.ladd, 1) := by decide +kernel
theorem dX12_digestDay_147 : decode cX12_digestDay 147 = .ok (.lmul, 1) := by decide +kernel
theorem dX12_digestDay_148 : decode cX12_digestDay 148 = .ok (.aload_n 0, 1) := by decide +kernel
theorem dX12_digestDay_149 : decode cX12_digestDay 149 = .ok (.iload_n 3, 1) := by decide +kernel
theorem dX12_digestDay_150 : decode cX12_digestDay 150 = .ok (.invokevirtual 181, 3) := by decide +kernel
theorem dX12_digestDay_153 : decode cX12_digestDay 153 = .ok (.i2l, 1) := by decide +kernel
theorem dX12_digestDay_154 : decode cX12_digestDay 154 = .ok (.ladd, 1) := by decide +kernel
theorem dX12_digestDay_155 : decode cX12_digestDay 155 = .ok (.lstore 5, 2) := by decide +kernel
theorem dX12_digestDay_157 : decode cX12_digestDay 157 = .ok (.ldc2_w 219, 3) := by decide +kernel
theorem dX12_digestDay_160 : decode cX12_digestDay 160 = .ok (.ldc2_w 219, 3) := by decide +kernel
theorem dX12_digestDay_163 : decode cX12_digestDay 163 = .ok (.lload 5, 2) := by decide +kernel
theorem dX12_digestDay_165 : decode cX12_digestDay 165 = .ok (.lmul, 1) := by decide +kernel
theorem dX12_digestDay_166 : decode cX12_digestDay 166 = .ok (.aload_n 0, 1) := by decide +kernel
theorem dX12_digestDay_167 : decode cX12_digestDay 167 = .ok (.iload_n 3, 1) := by decide +kernel
theorem dX12_digestDay_168 : decode cX12_digestDay 168 = .ok (.invokevirtual 62, 3) := by decide +kernel
theorem dX12_digestDay_171 : decode cX12_digestDay 171 = .ok (.i2l, 1) := by decide +kernel
theorem dX12_digestDay_172 : decode cX12_digestDay 172 = .ok (.ladd, 1) := by decide +kernel
theorem dX12_digestDay_173 : decode cX12_digestDay 173 = .ok (.lmul, 1) := by decide +kernel
theorem dX12_digestDay_174 : decode cX12_digestDay 174 = .ok (.aload_n 0, 1) := by decide +kernel
theorem dX12_digestDay_175 : decode cX12_digestDay 175 = .ok (.iload_n 3, 1) := by decide +kernel
theorem dX12_digestDay_176 : decode cX12_digestDay 176 = .ok (.invokevirtual 190, 3) := by decide +kernel
theorem dX12_digestDay_179 : decode cX12_digestDay 179 = .ok (.i2l, 1) := by decide +kernel
theorem dX12_digestDay_180 : decode cX12_digestDay 180 = .ok (.ladd, 1) := by decide +kernel
theorem dX12_digestDay_181 : decode cX12_digestDay 181 = .ok (.lstore 5, 2) := by decide +kernel
theorem dX12_digestDay_183 : decode cX12_digestDay 183 = .ok (.ldc2_w 219, 3) := by decide +kernel
theorem dX12_digestDay_186 : decode cX12_digestDay 186 = .ok (.ldc2_w 219, 3) := by decide +kernel
theorem dX12_digestDay_189 : decode cX12_digestDay 189 = .ok (.lload 5, 2) := by decide +kernel
theorem dX12_digestDay_191 : decode cX12_digestDay 191 = .ok (.lmul, 1) := by decide +kernel
theorem dX12_digestDay_192 : decode cX12_digestDay 192 = .ok (.aload_n 0, 1) := by decide +kernel
theorem dX12_digestDay_193 : decode cX12_digestDay 193 = .ok (.iload_n 3, 1) := by decide +kernel
theorem dX12_digestDay_194 : decode cX12_digestDay 194 = .ok (.invokevirtual 193, 3) := by decide +kernel
theorem dX12_digestDay_197 : decode cX12_digestDay 197 = .ok (.ladd, 1) := by decide +kernel
theorem dX12_digestDay_198 : decode cX12_digestDay 198 = .ok (.lmul, 1) := by decide +kernel
theorem dX12_digestDay_199 : decode cX12_digestDay 199 = .ok (.aload_n 0, 1) := by decide +kernel
theorem dX12_digestDay_200 : decode cX12_digestDay 200 = .ok (.iload_n 3, 1) := by decide +kernel
theorem dX12_digestDay_201 : decode cX12_digestDay 201 = .ok (.invokevirtual 206, 3) := by decide +kernel
theorem dX12_digestDay_204 : decode cX12_digestDay 204 = .ok (.ladd, 1) := by decide +kernel
theorem dX12_digestDay_205 : decode cX12_digestDay 205 = .ok (.lreturn, 1) := by decide +kernel
theorem dX12_digestForecasts_0 : decode cX12_digestForecasts 0 = .ok (.lload_n 1, 1) := by decide +kernel
theorem dX12_digestForecasts_1 : decode cX12_digestForecasts 1 = .ok (.lstore_n 3, 1) := by decide +kernel
theorem dX12_digestForecasts_2 : decode cX12_digestForecasts 2 = .ok (.iconst 0, 1) := by decide +kernel
theorem dX12_digestForecasts_3 : decode cX12_digestForecasts 3 = .ok (.istore 5, 2) := by decide +kernel
theorem dX12_digestForecasts_5 : decode cX12_digestForecasts 5 = .ok (.iload 5, 2) := by decide +kernel
theorem dX12_digestForecasts_7 : decode cX12_digestForecasts 7 = .ok (.aload_n 0, 1) := by decide +kernel
theorem dX12_digestForecasts_8 : decode cX12_digestForecasts 8 = .ok (.getfield 7, 3) := by decide +kernel
theorem dX12_digestForecasts_11 : decode cX12_digestForecasts 11 = .ok (.iconst 5, 1) := by decide +kernel
theorem dX12_digestForecasts_12 : decode cX12_digestForecasts 12 = .ok (.iaload, 1) := by decide +kernel
theorem dX12_digestForecasts_13 : decode cX12_digestForecasts 13 = .ok (.if_icmp .ge 34, 3) := by decide +kernel
theorem dX12_digestForecasts_16 : decode cX12_digestForecasts 16 = .ok (.iload 5, 2) := by decide +kernel
theorem dX12_digestForecasts_18 : decode cX12_digestForecasts 18 = .ok (.aload_n 0, 1) := by decide +kernel
theorem dX12_digestForecasts_19 : decode cX12_digestForecasts 19 = .ok (.getfield 7, 3) := by decide +kernel
theorem dX12_digestForecasts_22 : decode cX12_digestForecasts 22 = .ok (.iconst 0, 1) := by decide +kernel
theorem dX12_digestForecasts_23 : decode cX12_digestForecasts 23 = .ok (.iaload, 1) := by decide +kernel
theorem dX12_digestForecasts_24 : decode cX12_digestForecasts 24 = .ok (.if_icmp .ge 23, 3) := by decide +kernel
theorem dX12_digestForecasts_27 : decode cX12_digestForecasts 27 = .ok (.ldc2_w 219, 3) := by decide +kernel
theorem dX12_digestForecasts_30 : decode cX12_digestForecasts 30 = .ok (.lload_n 3, 1) := by decide +kernel
theorem dX12_digestForecasts_31 : decode cX12_digestForecasts 31 = .ok (.lmul, 1) := by decide +kernel
theorem dX12_digestForecasts_32 : decode cX12_digestForecasts 32 = .ok (.aload_n 0, 1) := by decide +kernel
theorem dX12_digestForecasts_33 : decode cX12_digestForecasts 33 = .ok (.iload 5, 2) := by decide +kernel
theorem dX12_digestForecasts_35 : decode cX12_digestForecasts 35 = .ok (.invokevirtual 203, 3) := by decide +kernel
theorem dX12_digestForecasts_38 : decode cX12_digestForecasts 38 = .ok (.i2l, 1) := by decide +kernel
theorem dX12_digestForecasts_39 : decode cX12_digestForecasts 39 = .ok (.ladd, 1) := by decide +kernel
theorem dX12_digestForecasts_40 : decode cX12_digestForecasts 40 = .ok (.lstore_n 3, 1) := by decide +kernel
theorem dX12_digestForecasts_41 : decode cX12_digestForecasts 41 = .ok (.iinc 5 1, 3) := by decide +kernel
theorem dX12_digestForecasts_44 : decode cX12_digestForecasts 44 = .ok (.goto (-39), 3) := by decide +kernel
theorem dX12_digestForecasts_47 : decode cX12_digestForecasts 47 = .ok (.iconst 0, 1) := by decide +kernel
theorem dX12_digestForecasts_48 : decode cX12_digestForecasts 48 = .ok (.istore 5, 2) := by decide +kernel
theorem dX12_digestForecasts_50 : decode cX12_digestForecasts 50 = .ok (.iload 5, 2) := by decide +kernel
theorem dX12_digestForecasts_52 : decode cX12_digestForecasts 52 = .ok (.iconst 4, 1) := by decide +kernel
theorem dX12_digestForecasts_53 : decode cX12_digestForecasts 53 = .ok (.if_icmp .ge 38, 3) := by decide +kernel
theorem dX12_digestForecasts_56 : decode cX12_digestForecasts 56 = .ok (.aload_n 0, 1) := by decide +kernel
theorem dX12_digestForecasts_57 : decode cX12_digestForecasts 57 = .ok (.getfield 7, 3) := by decide +kernel
theorem dX12_digestForecasts_60 : decode cX12_digestForecasts 60 = .ok (.iconst 0, 1) := by decide +kernel
theorem dX12_digestForecasts_61 : decode cX12_digestForecasts 61 = .ok (.iaload, 1) := by decide +kernel
theorem dX12_digestForecasts_62 : decode cX12_digestForecasts 62 = .ok (.ifCond .le 29, 3) := by decide +kernel
theorem dX12_digestForecasts_65 : decode cX12_digestForecasts 65 = .ok (.ldc2_w 219, 3) := by decide +kernel
theorem dX12_digestForecasts_68 : decode cX12_digestForecasts 68 = .ok (.lload_n 3, 1) := by decide +kernel
theorem dX12_digestForecasts_69 : decode cX12_digestForecasts 69 = .ok (.lmul, 1) := by decide +kernel
theorem dX12_digestForecasts_70 : decode cX12_digestForecasts 70 = .ok (.aload_n 0, 1) := by decide +kernel
theorem dX12_digestForecasts_71 : decode cX12_digestForecasts 71 = .ok (.iload 5, 2) := by decide +kernel
theorem dX12_digestForecasts_73 : decode cX12_digestForecasts 73 = .ok (.aload_n 0, 1) := by decide +kernel
theorem dX12_digestForecasts_74 : decode cX12_digestForecasts 74 = .ok (.getfield 7, 3) := by decide +kernel
theorem dX12_digestForecasts_77 : decode cX12_digestForecasts 77 = .ok (.iconst 0, 1) := by decide +kernel
theorem dX12_digestForecasts_78 : decode cX12_digestForecasts 78 = .ok (.iaload, 1) := by decide +kernel
theorem dX12_digestForecasts_79 : decode cX12_digestForecasts 79 = .ok (.invokevirtual 94, 3) := by decide +kernel
theorem dX12_digestForecasts_82 : decode cX12_digestForecasts 82 = .ok (.i2l, 1) := by decide +kernel
theorem dX12_digestForecasts_83 : decode cX12_digestForecasts 83 = .ok (.ladd, 1) := by decide +kernel
theorem dX12_digestForecasts_84 : decode cX12_digestForecasts 84 = .ok (.lstore_n 3, 1) := by decide +kernel
theorem dX12_digestForecasts_85 : decode cX12_digestForecasts 85 = .ok (.iinc 5 1, 3) := by decide +kernel
theorem dX12_digestForecasts_88 : decode cX12_digestForecasts 88 = .ok (.goto (-38), 3) := by decide +kernel
theorem dX12_digestForecasts_91 : decode cX12_digestForecasts 91 = .ok (.iconst 0, 1) := by decide +kernel
theorem dX12_digestForecasts_92 : decode cX12_digestForecasts 92 = .ok (.istore 5, 2) := by decide +kernel
theorem dX12_digestForecasts_94 : decode cX12_digestForecasts 94 = .ok (.iload 5, 2) := by decide +kernel
theorem dX12_digestForecasts_96 : decode cX12_digestForecasts 96 = .ok (.iconst 4, 1) := by decide +kernel
theorem dX12_digestForecasts_97 : decode cX12_digestForecasts 97 = .ok (.if_icmp .ge 33, 3) := by decide +kernel
theorem dX12_digestForecasts_100 : decode cX12_digestForecasts 100 = .ok (.aload_n 0, 1) := by decide +kernel
theorem dX12_digestForecasts_101 : decode cX12_digestForecasts 101 = .ok (.getfield 7, 3) := by decide +kernel
theorem dX12_digestForecasts_104 : decode cX12_digestForecasts 104 = .ok (.iconst 0, 1) := by decide +kernel
theorem dX12_digestForecasts_105 : decode cX12_digestForecasts 105 = .ok (.iaload, 1) := by decide +kernel
theorem dX12_digestForecasts_106 : decode cX12_digestForecasts 106 = .ok (.iconst 1, 1) := by decide +kernel
theorem dX12_digestForecasts_107 : decode cX12_digestForecasts 107 = .ok (.if_icmp .le 23, 3) := by decide +kernel
theorem dX12_digestForecasts_110 : decode cX12_digestForecasts 110 = .ok (.ldc2_w 219, 3) := by decide +kernel
theorem dX12_digestForecasts_113 : decode cX12_digestForecasts 113 = .ok (.lload_n 3, 1) := by decide +kernel
theorem dX12_digestForecasts_114 : decode cX12_digestForecasts 114 = .ok (.lmul, 1) := by decide +kernel
theorem dX12_digestForecasts_115 : decode cX12_digestForecasts 115 = .ok (.aload_n 0, 1) := by decide +kernel
theorem dX12_digestForecasts_116 : decode cX12_digestForecasts 116 = .ok (.iload 5, 2) := by decide +kernel
theorem dX12_digestForecasts_118 : decode cX12_digestForecasts 118 = .ok (.invokevirtual 97, 3) := by decide +kernel
theorem dX12_digestForecasts_121 : decode cX12_digestForecasts 121 = .ok (.i2l, 1) := by decide +kernel
theorem dX12_digestForecasts_122 : decode cX12_digestForecasts 122 = .ok (.ladd, 1) := by decide +kernel
theorem dX12_digestForecasts_123 : decode cX12_digestForecasts 123 = .ok (.lstore_n 3, 1) := by decide +kernel
theorem dX12_digestForecasts_124 : decode cX12_digestForecasts 124 = .ok (.iinc 5 1, 3) := by decide +kernel
theorem dX12_digestForecasts_127 : decode cX12_digestForecasts 127 = .ok (.goto (-33), 3) := by decide +kernel
theorem dX12_digestForecasts_130 : decode cX12_digestForecasts 130 = .ok (.aload_n 0, 1) := by decide +kernel
theorem dX12_digestForecasts_131 : decode cX12_digestForecasts 131 = .ok (.getfield 7, 3) := by decide +kernel
theorem dX12_digestForecasts_134 : decode cX12_digestForecasts 134 = .ok (.iconst 0, 1) := by decide +kernel
theorem dX12_digestForecasts_135 : decode cX12_digestForecasts 135 = .ok (.iaload, 1) := by decide +kernel
theorem dX12_digestForecasts_136 : decode cX12_digestForecasts 136 = .ok (.iconst 1, 1) := by decide +kernel
theorem dX12_digestForecasts_137 : decode cX12_digestForecasts 137 = .ok (.if_icmp .le 17, 3) := by decide +kernel
theorem dX12_digestForecasts_140 : decode cX12_digestForecasts 140 = .ok (.ldc2_w 219, 3) := by decide +kernel
theorem dX12_digestForecasts_143 : decode cX12_digestForecasts 143 = .ok (.lload_n 3, 1) := by decide +kernel
theorem dX12_digestForecasts_144 : decode cX12_digestForecasts 144 = .ok (.lmul, 1) := by decide +kernel
theorem dX12_digestForecasts_145 : decode cX12_digestForecasts 145 = .ok (.aload_n 0, 1) := by decide +kernel
theorem dX12_digestForecasts_146 : decode cX12_digestForecasts 146 = .ok (.invokevirtual 212, 3) := by decide +kernel
theorem dX12_digestForecasts_149 : decode cX12_digestForecasts 149 = .ok (.i2l, 1) := by decide +kernel
theorem dX12_digestForecasts_150 : decode cX12_digestForecasts 150 = .ok (.ladd, 1) := by decide +kernel
theorem dX12_digestForecasts_151 : decode cX12_digestForecasts 151 = .ok (.goto 4, 3) := by decide +kernel
theorem dX12_digestForecasts_154 : decode cX12_digestForecasts 154 = .ok (.lload_n 3, 1) := by decide +kernel
theorem dX12_digestForecasts_155 : decode cX12_digestForecasts 155 = .ok (.lreturn, 1) := by decide +kernel
theorem dX12_digest_0 : decode cX12_digest 0 = .ok (.aload_n 0, 1) := by decide +kernel
theorem dX12_digest_1 : decode cX12_digest 1 = .ok (.iconst 0, 1) := by decide +kernel
theorem dX12_digest_2 : decode cX12_digest 2 = .ok (.putfield 28, 3) := by decide +kernel
theorem dX12_digest_5 : decode cX12_digest 5 = .ok (.ldc2_w 221, 3) := by decide +kernel
theorem dX12_digest_8 : decode cX12_digest 8 = .ok (.lstore_n 1, 1) := by decide +kernel
theorem dX12_digest_9 : decode cX12_digest 9 = .ok (.ldc2_w 219, 3) := by decide +kernel
theorem dX12_digest_12 : decode cX12_digest 12 = .ok (.ldc2_w 219, 3) := by decide +kernel
theorem dX12_digest_15 : decode cX12_digest 15 = .ok (.ldc2_w 219, 3) := by decide +kernel
theorem dX12_digest_18 : decode cX12_digest 18 = .ok (.ldc2_w 219, 3) := by decide +kernel
theorem dX12_digest_21 : decode cX12_digest 21 = .ok (.lload_n 1, 1) := by decide +kernel
theorem dX12_digest_22 : decode cX12_digest 22 = .ok (.lmul, 1) := by decide +kernel
theorem dX12_digest_23 : decode cX12_digest 23 = .ok (.aload_n 0, 1) := by decide +kernel
theorem dX12_digest_24 : decode cX12_digest 24 = .ok (.getfield 7, 3) := by decide +kernel
theorem dX12_digest_27 : decode cX12_digest 27 = .ok (.iconst 0, 1) := by decide +kernel
theorem dX12_digest_28 : decode cX12_digest 28 = .ok (.iaload, 1) := by decide +kernel
theorem dX12_digest_29 : decode cX12_digest 29 = .ok (.i2l, 1) := by decide +kernel
theorem dX12_digest_30 : decode cX12_digest 30 = .ok (.ladd, 1) := by decide +kernel
theorem dX12_digest_31 : decode cX12_digest 31 = .ok (.lmul, 1) := by decide +kernel
theorem dX12_digest_32 : decode cX12_digest 32 = .ok (.aload_n 0, 1) := by decide +kernel
theorem dX12_digest_33 : decode cX12_digest 33 = .ok (.getfield 7, 3) := by decide +kernel
theorem dX12_digest_36 : decode cX12_digest 36 = .ok (.iconst 1, 1) := by decide +kernel
theorem dX12_digest_37 : decode cX12_digest 37 = .ok (.iaload, 1) := by decide +kernel
theorem dX12_digest_38 : decode cX12_digest 38 = .ok (.i2l, 1) := by decide +kernel
theorem dX12_digest_39 : decode cX12_digest 39 = .ok (.ladd, 1) := by decide +kernel
theorem dX12_digest_40 : decode cX12_digest 40 = .ok (.lmul, 1) := by decide +kernel
theorem dX12_digest_41 : decode cX12_digest 41 = .ok (.aload_n 0, 1) := by decide +kernel
theorem dX12_digest_42 : decode cX12_digest 42 = .ok (.getfield 7, 3) := by decide +kernel
theorem dX12_digest_45 : decode cX12_digest 45 = .ok (.iconst 2, 1) := by decide +kernel
theorem dX12_digest_46 : decode cX12_digest 46 = .ok (.iaload, 1) := by decide +kernel
theorem dX12_digest_47 : decode cX12_digest 47 = .ok (.i2l, 1) := by decide +kernel
theorem dX12_digest_48 : decode cX12_digest 48 = .ok (.ladd, 1) := by decide +kernel
theorem dX12_digest_49 : decode cX12_digest 49 = .ok (.lmul, 1) := by decide +kernel
theorem dX12_digest_50 : decode cX12_digest 50 = .ok (.aload_n 0, 1) := by decide +kernel
theorem dX12_digest_51 : decode cX12_digest 51 = .ok (.getfield 7, 3) := by decide +kernel
theorem dX12_digest_54 : decode cX12_digest 54 = .ok (.iconst 5, 1) := by decide +kernel
theorem dX12_digest_55 : decode cX12_digest 55 = .ok (.iaload, 1) := by decide +kernel
theorem dX12_digest_56 : decode cX12_digest 56 = .ok (.i2l, 1) := by decide +kernel
theorem dX12_digest_57 : decode cX12_digest 57 = .ok (.ladd, 1) := by decide +kernel
theorem dX12_digest_58 : decode cX12_digest 58 = .ok (.lstore_n 1, 1) := by decide +kernel
theorem dX12_digest_59 : decode cX12_digest 59 = .ok (.ldc2_w 219, 3) := by decide +kernel
theorem dX12_digest_62 : decode cX12_digest 62 = .ok (.ldc2_w 219, 3) := by decide +kernel
theorem dX12_digest_65 : decode cX12_digest 65 = .ok (.ldc2_w 219, 3) := by decide +kernel
theorem dX12_digest_68 : decode cX12_digest 68 = .ok (.lload_n 1, 1) := by decide +kernel
theorem dX12_digest_69 : decode cX12_digest 69 = .ok (.lmul, 1) := by decide +kernel
theorem dX12_digest_70 : decode cX12_digest 70 = .ok (.aload_n 0, 1) := by decide +kernel
theorem dX12_digest_71 : decode cX12_digest 71 = .ok (.invokevirtual 178, 3) := by decide +kernel
theorem dX12_digest_74 : decode cX12_digest 74 = .ok (.i2l, 1) := by decide +kernel
theorem dX12_digest_75 : decode cX12_digest 75 = .ok (.ladd, 1) := by decide +kernel
theorem dX12_digest_76 : decode cX12_digest 76 = .ok (.lmul, 1) := by decide +kernel
theorem dX12_digest_77 : decode cX12_digest 77 = .ok (.aload_n 0, 1) := by decide +kernel
theorem dX12_digest_78 : decode cX12_digest 78 = .ok (.invokevirtual 187, 3) := by decide +kernel
theorem dX12_digest_81 : decode cX12_digest 81 = .ok (.i2l, 1) := by decide +kernel
theorem dX12_digest_82 : decode cX12_digest 82 = .ok (.ladd, 1) := by decide +kernel
theorem dX12_digest_83 : decode cX12_digest 83 = .ok (.lmul, 1) := by decide +kernel
theorem dX12_digest_84 : decode cX12_digest 84 = .ok (.aload_n 0, 1) := by decide +kernel
theorem dX12_digest_85 : decode cX12_digest 85 = .ok (.invokevirtual 197, 3) := by decide +kernel
theorem dX12_digest_88 : decode cX12_digest 88 = .ok (.i2l, 1) := by decide +kernel
theorem dX12_digest_89 : decode cX12_digest 89 = .ok (.ladd, 1) := by decide +kernel
theorem dX12_digest_90 : decode cX12_digest 90 = .ok (.lstore_n 1, 1) := by decide +kernel
theorem dX12_digest_91 : decode cX12_digest 91 = .ok (.ldc2_w 219, 3) := by decide +kernel
theorem dX12_digest_94 : decode cX12_digest 94 = .ok (.ldc2_w 219, 3) := by decide +kernel
theorem dX12_digest_97 : decode cX12_digest 97 = .ok (.ldc2_w 219, 3) := by decide +kernel
theorem dX12_digest_100 : decode cX12_digest 100 = .ok (.lload_n 1, 1) := by decide +kernel
theorem dX12_digest_101 : decode cX12_digest 101 = .ok (.lmul, 1) := by decide +kernel
theorem dX12_digest_102 : decode cX12_digest 102 = .ok (.aload_n 0, 1) := by decide +kernel
theorem dX12_digest_103 : decode cX12_digest 103 = .ok (.invokevirtual 197, 3) := by decide +kernel
theorem dX12_digest_106 : decode cX12_digest 106 = .ok (.i2l, 1) := by decide +kernel
theorem dX12_digest_107 : decode cX12_digest 107 = .ok (.ladd, 1) := by decide +kernel
theorem dX12_digest_108 : decode cX12_digest 108 = .ok (.lmul, 1) := by decide +kernel
theorem dX12_digest_109 : decode cX12_digest 109 = .ok (.aload_n 0, 1) := by decide +kernel
theorem dX12_digest_110 : decode cX12_digest 110 = .ok (.invokevirtual 200, 3) := by decide +kernel
theorem dX12_digest_113 : decode cX12_digest 113 = .ok (.i2l, 1) := by decide +kernel
theorem dX12_digest_114 : decode cX12_digest 114 = .ok (.ladd, 1) := by decide +kernel
theorem dX12_digest_115 : decode cX12_digest 115 = .ok (.lmul, 1) := by decide +kernel
theorem dX12_digest_116 : decode cX12_digest 116 = .ok (.aload_n 0, 1) := by decide +kernel
theorem dX12_digest_117 : decode cX12_digest 117 = .ok (.getfield 36, 3) := by decide +kernel
theorem dX12_digest_120 : decode cX12_digest 120 = .ok (.i2l, 1) := by decide +kernel
theorem dX12_digest_121 : decode cX12_digest 121 = .ok (.ladd, 1) := by decide +kernel
theorem dX12_digest_122 : decode cX12_digest 122 = .ok (.lstore_n 1, 1) := by decide +kernel
theorem dX12_digest_123 : decode cX12_digest 123 = .ok (.iconst 0, 1) := by decide +kernel
theorem dX12_digest_124 : decode cX12_digest 124 = .ok (.istore_n 3, 1) := by decide +kernel
theorem dX12_digest_125 : decode cX12_digest 125 = .ok (.iload_n 3, 1) := by decide +kernel
theorem dX12_digest_126 : decode cX12_digest 126 = .ok (.aload_n 0, 1) := by decide +kernel
theorem dX12_digest_127 : decode cX12_digest 127 = .ok (.getfield 7, 3) := by decide +kernel
theorem dX12_digest_130 : decode cX12_digest 130 = .ok (.iconst 0, 1) := by decide +kernel
theorem dX12_digest_131 : decode cX12_digest 131 = .ok (.iaload, 1) := by decide +kernel
theorem dX12_digest_132 : decode cX12_digest 132 = .ok (.if_icmp .ge 16, 3) := by decide +kernel
theorem dX12_digest_135 : decode cX12_digest 135 = .ok (.aload_n 0, 1) := by decide +kernel
theorem dX12_digest_136 : decode cX12_digest 136 = .ok (.lload_n 1, 1) := by decide +kernel
theorem dX12_digest_137 : decode cX12_digest 137 = .ok (.iload_n 3, 1) := by decide +kernel
theorem dX12_digest_138 : decode cX12_digest 138 = .ok (.invokevirtual 223, 3) := by decide +kernel
theorem dX12_digest_141 : decode cX12_digest 141 = .ok (.lstore_n 1, 1) := by decide +kernel
theorem dX12_digest_142 : decode cX12_digest 142 = .ok (.iinc 3 1, 3) := by decide +kernel
theorem dX12_digest_145 : decode cX12_digest 145 = .ok (.goto (-20), 3) := by decide +kernel
theorem dX12_digest_148 : decode cX12_digest 148 = .ok (.aload_n 0, 1) := by decide +kernel
theorem dX12_digest_149 : decode cX12_digest 149 = .ok (.lload_n 1, 1) := by decide +kernel
theorem dX12_digest_150 : decode cX12_digest 150 = .ok (.invokevirtual 227, 3) := by decide +kernel
theorem dX12_digest_153 : decode cX12_digest 153 = .ok (.lstore_n 1, 1) := by decide +kernel
theorem dX12_digest_154 : decode cX12_digest 154 = .ok (.ldc2_w 219, 3) := by decide +kernel
theorem dX12_digest_157 : decode cX12_digest 157 = .ok (.lload_n 1, 1) := by decide +kernel
theorem dX12_digest_158 : decode cX12_digest 158 = .ok (.lmul, 1) := by decide +kernel
theorem dX12_digest_159 : decode cX12_digest 159 = .ok (.aload_n 0, 1) := by decide +kernel
theorem dX12_digest_160 : decode cX12_digest 160 = .ok (.getfield 7, 3) := by decide +kernel
theorem dX12_digest_163 : decode cX12_digest 163 = .ok (.bipush 6, 2) := by decide +kernel
theorem dX12_digest_165 : decode cX12_digest 165 = .ok (.iaload, 1) := by decide +kernel
theorem dX12_digest_166 : decode cX12_digest 166 = .ok (.iconst (-1), 1) := by decide +kernel
theorem dX12_digest_167 : decode cX12_digest 167 = .ok (.if_icmp .ne 7, 3) := by decide +kernel
theorem dX12_digest_170 : decode cX12_digest 170 = .ok (.iconst 0, 1) := by decide +kernel
theorem dX12_digest_171 : decode cX12_digest 171 = .ok (.goto 4, 3) := by decide +kernel
theorem dX12_digest_174 : decode cX12_digest 174 = .ok (.iconst 1, 1) := by decide +kernel
theorem dX12_digest_175 : decode cX12_digest 175 = .ok (.i2l, 1) := by decide +kernel
theorem dX12_digest_176 : decode cX12_digest 176 = .ok (.ladd, 1) := by decide +kernel
theorem dX12_digest_177 : decode cX12_digest 177 = .ok (.lstore_n 1, 1) := by decide +kernel
theorem dX12_digest_178 : decode cX12_digest 178 = .ok (.aload_n 0, 1) := by decide +kernel
theorem dX12_digest_179 : decode cX12_digest 179 = .ok (.getfield 7, 3) := by decide +kernel
theorem dX12_digest_182 : decode cX12_digest 182 = .ok (.bipush 6, 2) := by decide +kernel
theorem dX12_digest_184 : decode cX12_digest 184 = .ok (.iaload, 1) := by decide +kernel
theorem dX12_digest_185 : decode cX12_digest 185 = .ok (.iconst (-1), 1) := by decide +kernel
theorem dX12_digest_186 : decode cX12_digest 186 = .ok (.if_icmp .ne 7, 3) := by decide +kernel
theorem dX12_digest_189 : decode cX12_digest 189 = .ok (.lload_n 1, 1) := by decide +kernel
theorem dX12_digest_190 : decode cX12_digest 190 = .ok (.goto 30, 3) := by decide +kernel
theorem dX12_digest_193 : decode cX12_digest 193 = .ok (.ldc2_w 219, 3) := by decide +kernel
theorem dX12_digest_196 : decode cX12_digest 196 = .ok (.ldc2_w 219, 3) := by decide +kernel
theorem dX12_digest_199 : decode cX12_digest 199 = .ok (.lload_n 1, 1) := by decide +kernel
theorem dX12_digest_200 : decode cX12_digest 200 = .ok (.lmul, 1) := by decide +kernel
theorem dX12_digest_201 : decode cX12_digest 201 = .ok (.aload_n 0, 1) := by decide +kernel
theorem dX12_digest_202 : decode cX12_digest 202 = .ok (.getfield 7, 3) := by decide +kernel
theorem dX12_digest_205 : decode cX12_digest 205 = .ok (.bipush 6, 2) := by decide +kernel
theorem dX12_digest_207 : decode cX12_digest 207 = .ok (.iaload, 1) := by decide +kernel
theorem dX12_digest_208 : decode cX12_digest 208 = .ok (.i2l, 1) := by decide +kernel
theorem dX12_digest_209 : decode cX12_digest 209 = .ok (.ladd, 1) := by decide +kernel
theorem dX12_digest_210 : decode cX12_digest 210 = .ok (.lmul, 1) := by decide +kernel
theorem dX12_digest_211 : decode cX12_digest 211 = .ok (.aload_n 0, 1) := by decide +kernel
theorem dX12_digest_212 : decode cX12_digest 212 = .ok (.getfield 7, 3) := by decide +kernel
theorem dX12_digest_215 : decode cX12_digest 215 = .ok (.bipush 7, 2) := by decide +kernel
theorem dX12_digest_217 : decode cX12_digest 217 = .ok (.iaload, 1) := by decide +kernel
theorem dX12_digest_218 : decode cX12_digest 218 = .ok (.i2l, 1) := by decide +kernel
theorem dX12_digest_219 : decode cX12_digest 219 = .ok (.ladd, 1) := by decide +kernel
theorem dX12_digest_220 : decode cX12_digest 220 = .ok (.lstore_n 1, 1) := by decide +kernel
theorem dX12_digest_221 : decode cX12_digest 221 = .ok (.ldc2_w 219, 3) := by decide +kernel
theorem dX12_digest_224 : decode cX12_digest 224 = .ok (.lload_n 1, 1) := by decide +kernel
theorem dX12_digest_225 : decode cX12_digest 225 = .ok (.lmul, 1) := by decide +kernel
theorem dX12_digest_226 : decode cX12_digest 226 = .ok (.aload_n 0, 1) := by decide +kernel
theorem dX12_digest_227 : decode cX12_digest 227 = .ok (.invokevirtual 215, 3) := by decide +kernel
theorem dX12_digest_230 : decode cX12_digest 230 = .ok (.invokestatic 231, 3) := by decide +kernel
theorem dX12_digest_233 : decode cX12_digest 233 = .ok (.ladd, 1) := by decide +kernel
theorem dX12_digest_234 : decode cX12_digest 234 = .ok (.lstore_n 1, 1) := by decide +kernel
theorem dX12_digest_235 : decode cX12_digest 235 = .ok (.ldc2_w 219, 3) := by decide +kernel
theorem dX12_digest_238 : decode cX12_digest 238 = .ok (.lload_n 1, 1) := by decide +kernel
theorem dX12_digest_239 : decode cX12_digest 239 = .ok (.lmul, 1) := by decide +kernel
theorem dX12_digest_240 : decode cX12_digest 240 = .ok (.aload_n 0, 1) := by decide +kernel
theorem dX12_digest_241 : decode cX12_digest 241 = .ok (.getfield 125, 3) := by decide +kernel
theorem dX12_digest_244 : decode cX12_digest 244 = .ok (.i2l, 1) := by decide +kernel
theorem dX12_digest_245 : decode cX12_digest 245 = .ok (.ladd, 1) := by decide +kernel
theorem dX12_digest_246 : decode cX12_digest 246 = .ok (.lstore_n 1, 1) := by decide +kernel
theorem dX12_digest_247 : decode cX12_digest 247 = .ok (.iconst 0, 1) := by decide +kernel
theorem dX12_digest_248 : decode cX12_digest 248 = .ok (.istore_n 3, 1) := by decide +kernel
theorem dX12_digest_249 : decode cX12_digest 249 = .ok (.iload_n 3, 1) := by decide +kernel
theorem dX12_digest_250 : decode cX12_digest 250 = .ok (.aload_n 0, 1) := by decide +kernel
theorem dX12_digest_251 : decode cX12_digest 251 = .ok (.getfield 125, 3) := by decide +kernel
theorem dX12_digest_254 : decode cX12_digest 254 = .ok (.if_icmp .ge 23, 3) := by decide +kernel
theorem dX12_digest_257 : decode cX12_digest 257 = .ok (.ldc2_w 219, 3) := by decide +kernel
theorem dX12_digest_260 : decode cX12_digest 260 = .ok (.lload_n 1, 1) := by decide +kernel
theorem dX12_digest_261 : decode cX12_digest 261 = .ok (.lmul, 1) := by decide +kernel
theorem dX12_digest_262 : decode cX12_digest 262 = .ok (.aload_n 0, 1) := by decide +kernel
theorem dX12_digest_263 : decode cX12_digest 263 = .ok (.getfield 19, 3) := by decide +kernel
theorem dX12_digest_266 : decode cX12_digest 266 = .ok (.iload_n 3, 1) := by decide +kernel
theorem dX12_digest_267 : decode cX12_digest 267 = .ok (.iaload, 1) := by decide +kernel
theorem dX12_digest_268 : decode cX12_digest 268 = .ok (.i2l, 1) := by decide +kernel
theorem dX12_digest_269 : decode cX12_digest 269 = .ok (.ladd, 1) := by decide +kernel
theorem dX12_digest_270 : decode cX12_digest 270 = .ok (.lstore_n 1, 1) := by decide +kernel
theorem dX12_digest_271 : decode cX12_digest 271 = .ok (.iinc 3 1, 3) := by decide +kernel
theorem dX12_digest_274 : decode cX12_digest 274 = .ok (.goto (-25), 3) := by decide +kernel
theorem dX12_digest_277 : decode cX12_digest 277 = .ok (.lload_n 1, 1) := by decide +kernel
theorem dX12_digest_278 : decode cX12_digest 278 = .ok (.lreturn, 1) := by decide +kernel
