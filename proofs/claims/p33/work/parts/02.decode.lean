theorem dX0_init_0 : decode cX0_init 0 = .ok (.aload_n 0, 1) := by decide +kernel
theorem dX0_init_1 : decode cX0_init 1 = .ok (.invokespecial 3, 3) := by decide +kernel
theorem dX0_init_4 : decode cX0_init 4 = .ok (.aload_n 0, 1) := by decide +kernel
theorem dX0_init_5 : decode cX0_init 5 = .ok (.iconst 4, 1) := by decide +kernel
theorem dX0_init_6 : decode cX0_init 6 = .ok (.newarray .int, 2) := by decide +kernel
theorem dX0_init_8 : decode cX0_init 8 = .ok (.putfield 9, 3) := by decide +kernel
theorem dX0_init_11 : decode cX0_init 11 = .ok (.aload_n 0, 1) := by decide +kernel
theorem dX0_init_12 : decode cX0_init 12 = .ok (.bipush 9, 2) := by decide +kernel
theorem dX0_init_14 : decode cX0_init 14 = .ok (.newarray .int, 2) := by decide +kernel
theorem dX0_init_16 : decode cX0_init 16 = .ok (.putfield 15, 3) := by decide +kernel
theorem dX0_init_19 : decode cX0_init 19 = .ok (.aload_n 0, 1) := by decide +kernel
theorem dX0_init_20 : decode cX0_init 20 = .ok (.iconst 0, 1) := by decide +kernel
theorem dX0_init_21 : decode cX0_init 21 = .ok (.putfield 18, 3) := by decide +kernel
theorem dX0_init_24 : decode cX0_init 24 = .ok (.aload_n 0, 1) := by decide +kernel
theorem dX0_init_25 : decode cX0_init 25 = .ok (.iconst 0, 1) := by decide +kernel
theorem dX0_init_26 : decode cX0_init 26 = .ok (.putfield 22, 3) := by decide +kernel
theorem dX0_init_29 : decode cX0_init 29 = .ok (.aload_n 0, 1) := by decide +kernel
theorem dX0_init_30 : decode cX0_init 30 = .ok (.iconst 0, 1) := by decide +kernel
theorem dX0_init_31 : decode cX0_init 31 = .ok (.putfield 25, 3) := by decide +kernel
theorem dX0_init_34 : decode cX0_init 34 = .ok (.aload_n 0, 1) := by decide +kernel
theorem dX0_init_35 : decode cX0_init 35 = .ok (.iconst 0, 1) := by decide +kernel
theorem dX0_init_36 : decode cX0_init 36 = .ok (.putfield 28, 3) := by decide +kernel
theorem dX0_init_39 : decode cX0_init 39 = .ok (.aload_n 0, 1) := by decide +kernel
theorem dX0_init_40 : decode cX0_init 40 = .ok (.aload_n 1, 1) := by decide +kernel
theorem dX0_init_41 : decode cX0_init 41 = .ok (.putfield 31, 3) := by decide +kernel
theorem dX0_init_44 : decode cX0_init 44 = .ok (.aload_n 0, 1) := by decide +kernel
theorem dX0_init_45 : decode cX0_init 45 = .ok (.aload_n 2, 1) := by decide +kernel
theorem dX0_init_46 : decode cX0_init 46 = .ok (.putfield 35, 3) := by decide +kernel
theorem dX0_init_49 : decode cX0_init 49 = .ok (.aload_n 0, 1) := by decide +kernel
theorem dX0_init_50 : decode cX0_init 50 = .ok (.aload_n 3, 1) := by decide +kernel
theorem dX0_init_51 : decode cX0_init 51 = .ok (.putfield 39, 3) := by decide +kernel
theorem dX0_init_54 : decode cX0_init 54 = .ok (.return_, 1) := by decide +kernel
theorem dX1_init_0 : decode cX1_init 0 = .ok (.aload_n 0, 1) := by decide +kernel
theorem dX1_init_1 : decode cX1_init 1 = .ok (.invokespecial 3, 3) := by decide +kernel
theorem dX1_init_4 : decode cX1_init 4 = .ok (.aload_n 0, 1) := by decide +kernel
theorem dX1_init_5 : decode cX1_init 5 = .ok (.iconst 0, 1) := by decide +kernel
theorem dX1_init_6 : decode cX1_init 6 = .ok (.putfield 9, 3) := by decide +kernel
theorem dX1_init_9 : decode cX1_init 9 = .ok (.aload_n 0, 1) := by decide +kernel
theorem dX1_init_10 : decode cX1_init 10 = .ok (.iconst (-1), 1) := by decide +kernel
theorem dX1_init_11 : decode cX1_init 11 = .ok (.putfield 15, 3) := by decide +kernel
theorem dX1_init_14 : decode cX1_init 14 = .ok (.aload_n 0, 1) := by decide +kernel
theorem dX1_init_15 : decode cX1_init 15 = .ok (.iconst 0, 1) := by decide +kernel
theorem dX1_init_16 : decode cX1_init 16 = .ok (.putfield 18, 3) := by decide +kernel
theorem dX1_init_19 : decode cX1_init 19 = .ok (.aload_n 0, 1) := by decide +kernel
theorem dX1_init_20 : decode cX1_init 20 = .ok (.aload_n 2, 1) := by decide +kernel
theorem dX1_init_21 : decode cX1_init 21 = .ok (.putfield 21, 3) := by decide +kernel
theorem dX1_init_24 : decode cX1_init 24 = .ok (.aload_n 0, 1) := by decide +kernel
theorem dX1_init_25 : decode cX1_init 25 = .ok (.new 25, 3) := by decide +kernel
theorem dX1_init_28 : decode cX1_init 28 = .ok (.dup, 1) := by decide +kernel
theorem dX1_init_29 : decode cX1_init 29 = .ok (.aload_n 1, 1) := by decide +kernel
theorem dX1_init_30 : decode cX1_init 30 = .ok (.aload_n 2, 1) := by decide +kernel
theorem dX1_init_31 : decode cX1_init 31 = .ok (.invokespecial 27, 3) := by decide +kernel
theorem dX1_init_34 : decode cX1_init 34 = .ok (.putfield 30, 3) := by decide +kernel
theorem dX1_init_37 : decode cX1_init 37 = .ok (.aload_n 0, 1) := by decide +kernel
theorem dX1_init_38 : decode cX1_init 38 = .ok (.aload_n 3, 1) := by decide +kernel
theorem dX1_init_39 : decode cX1_init 39 = .ok (.putfield 34, 3) := by decide +kernel
theorem dX1_init_42 : decode cX1_init 42 = .ok (.aload_n 0, 1) := by decide +kernel
theorem dX1_init_43 : decode cX1_init 43 = .ok (.new 38, 3) := by decide +kernel
theorem dX1_init_46 : decode cX1_init 46 = .ok (.dup, 1) := by decide +kernel
theorem dX1_init_47 : decode cX1_init 47 = .ok (.aload_n 1, 1) := by decide +kernel
theorem dX1_init_48 : decode cX1_init 48 = .ok (.aload_n 2, 1) := by decide +kernel
theorem dX1_init_49 : decode cX1_init 49 = .ok (.invokespecial 40, 3) := by decide +kernel
theorem dX1_init_52 : decode cX1_init 52 = .ok (.putfield 41, 3) := by decide +kernel
theorem dX1_init_55 : decode cX1_init 55 = .ok (.aload_n 0, 1) := by decide +kernel
theorem dX1_init_56 : decode cX1_init 56 = .ok (.new 38, 3) := by decide +kernel
theorem dX1_init_59 : decode cX1_init 59 = .ok (.dup, 1) := by decide +kernel
theorem dX1_init_60 : decode cX1_init 60 = .ok (.aload_n 1, 1) := by decide +kernel
theorem dX1_init_61 : decode cX1_init 61 = .ok (.aload_n 2, 1) := by decide +kernel
theorem dX1_init_62 : decode cX1_init 62 = .ok (.invokespecial 40, 3) := by decide +kernel
theorem dX1_init_65 : decode cX1_init 65 = .ok (.putfield 44, 3) := by decide +kernel
theorem dX1_init_68 : decode cX1_init 68 = .ok (.return_, 1) := by decide +kernel
theorem dX2_init_0 : decode cX2_init 0 = .ok (.aload_n 0, 1) := by decide +kernel
theorem dX2_init_1 : decode cX2_init 1 = .ok (.invokespecial 3, 3) := by decide +kernel
theorem dX2_init_4 : decode cX2_init 4 = .ok (.aload_n 0, 1) := by decide +kernel
theorem dX2_init_5 : decode cX2_init 5 = .ok (.bipush 64, 2) := by decide +kernel
theorem dX2_init_7 : decode cX2_init 7 = .ok (.newarray .int, 2) := by decide +kernel
theorem dX2_init_9 : decode cX2_init 9 = .ok (.putfield 9, 3) := by decide +kernel
theorem dX2_init_12 : decode cX2_init 12 = .ok (.aload_n 0, 1) := by decide +kernel
theorem dX2_init_13 : decode cX2_init 13 = .ok (.bipush 64, 2) := by decide +kernel
theorem dX2_init_15 : decode cX2_init 15 = .ok (.newarray .int, 2) := by decide +kernel
theorem dX2_init_17 : decode cX2_init 17 = .ok (.putfield 15, 3) := by decide +kernel
theorem dX2_init_20 : decode cX2_init 20 = .ok (.aload_n 0, 1) := by decide +kernel
theorem dX2_init_21 : decode cX2_init 21 = .ok (.bipush 64, 2) := by decide +kernel
theorem dX2_init_23 : decode cX2_init 23 = .ok (.newarray .int, 2) := by decide +kernel
theorem dX2_init_25 : decode cX2_init 25 = .ok (.putfield 18, 3) := by decide +kernel
theorem dX2_init_28 : decode cX2_init 28 = .ok (.aload_n 0, 1) := by decide +kernel
theorem dX2_init_29 : decode cX2_init 29 = .ok (.bipush 64, 2) := by decide +kernel
theorem dX2_init_31 : decode cX2_init 31 = .ok (.newarray .int, 2) := by decide +kernel
theorem dX2_init_33 : decode cX2_init 33 = .ok (.putfield 21, 3) := by decide +kernel
theorem dX2_init_36 : decode cX2_init 36 = .ok (.aload_n 0, 1) := by decide +kernel
theorem dX2_init_37 : decode cX2_init 37 = .ok (.bipush 64, 2) := by decide +kernel
theorem dX2_init_39 : decode cX2_init 39 = .ok (.newarray .int, 2) := by decide +kernel
theorem dX2_init_41 : decode cX2_init 41 = .ok (.putfield 24, 3) := by decide +kernel
theorem dX2_init_44 : decode cX2_init 44 = .ok (.aload_n 0, 1) := by decide +kernel
theorem dX2_init_45 : decode cX2_init 45 = .ok (.iconst 0, 1) := by decide +kernel
theorem dX2_init_46 : decode cX2_init 46 = .ok (.putfield 27, 3) := by decide +kernel
theorem dX2_init_49 : decode cX2_init 49 = .ok (.aload_n 0, 1) := by decide +kernel
theorem dX2_init_50 : decode cX2_init 50 = .ok (.aload_n 1, 1) := by decide +kernel
theorem dX2_init_51 : decode cX2_init 51 = .ok (.putfield 31, 3) := by decide +kernel
theorem dX2_init_54 : decode cX2_init 54 = .ok (.aload_n 0, 1) := by decide +kernel
theorem dX2_init_55 : decode cX2_init 55 = .ok (.aload_n 2, 1) := by decide +kernel
theorem dX2_init_56 : decode cX2_init 56 = .ok (.putfield 35, 3) := by decide +kernel
theorem dX2_init_59 : decode cX2_init 59 = .ok (.return_, 1) := by decide +kernel
theorem dX2_gather_0 : decode cX2_gather 0 = .ok (.aload_n 0, 1) := by decide +kernel
theorem dX2_gather_1 : decode cX2_gather 1 = .ok (.iconst 0, 1) := by decide +kernel
theorem dX2_gather_2 : decode cX2_gather 2 = .ok (.putfield 27, 3) := by decide +kernel
theorem dX2_gather_5 : decode cX2_gather 5 = .ok (.aload_n 0, 1) := by decide +kernel
theorem dX2_gather_6 : decode cX2_gather 6 = .ok (.getfield 9, 3) := by decide +kernel
theorem dX2_gather_9 : decode cX2_gather 9 = .ok (.iconst (-1), 1) := by decide +kernel
theorem dX2_gather_10 : decode cX2_gather 10 = .ok (.invokestatic 39, 3) := by decide +kernel
theorem dX2_gather_13 : decode cX2_gather 13 = .ok (.iconst 0, 1) := by decide +kernel
theorem dX2_gather_14 : decode cX2_gather 14 = .ok (.istore_n 3, 1) := by decide +kernel
theorem dX2_gather_15 : decode cX2_gather 15 = .ok (.iload_n 3, 1) := by decide +kernel
theorem dX2_gather_16 : decode cX2_gather 16 = .ok (.aload_n 0, 1) := by decide +kernel
theorem dX2_gather_17 : decode cX2_gather 17 = .ok (.getfield 31, 3) := by decide +kernel
theorem dX2_gather_20 : decode cX2_gather 20 = .ok (.invokevirtual 45, 3) := by decide +kernel
theorem dX2_gather_23 : decode cX2_gather 23 = .ok (.if_icmp .ge 33, 3) := by decide +kernel
theorem dX2_gather_26 : decode cX2_gather 26 = .ok (.aload_n 1, 1) := by decide +kernel
theorem dX2_gather_27 : decode cX2_gather 27 = .ok (.iload_n 3, 1) := by decide +kernel
theorem dX2_gather_28 : decode cX2_gather 28 = .ok (.invokevirtual 51, 3) := by decide +kernel
theorem dX2_gather_31 : decode cX2_gather 31 = .ok (.ifCond .eq 19, 3) := by decide +kernel
theorem dX2_gather_34 : decode cX2_gather 34 = .ok (.aload_n 0, 1) := by decide +kernel
theorem dX2_gather_35 : decode cX2_gather 35 = .ok (.iload_n 3, 1) := by decide +kernel
theorem dX2_gather_36 : decode cX2_gather 36 = .ok (.invokevirtual 57, 3) := by decide +kernel
theorem dX2_gather_39 : decode cX2_gather 39 = .ok (.iconst (-1), 1) := by decide +kernel
theorem dX2_gather_40 : decode cX2_gather 40 = .ok (.if_icmp .ne 10, 3) := by decide +kernel
theorem dX2_gather_43 : decode cX2_gather 43 = .ok (.aload_n 0, 1) := by decide +kernel
theorem dX2_gather_44 : decode cX2_gather 44 = .ok (.aload_n 1, 1) := by decide +kernel
theorem dX2_gather_45 : decode cX2_gather 45 = .ok (.iload_n 3, 1) := by decide +kernel
theorem dX2_gather_46 : decode cX2_gather 46 = .ok (.iload_n 2, 1) := by decide +kernel
theorem dX2_gather_47 : decode cX2_gather 47 = .ok (.invokevirtual 60, 3) := by decide +kernel
theorem dX2_gather_50 : decode cX2_gather 50 = .ok (.iinc 3 1, 3) := by decide +kernel
theorem dX2_gather_53 : decode cX2_gather 53 = .ok (.goto (-38), 3) := by decide +kernel
theorem dX2_gather_56 : decode cX2_gather 56 = .ok (.return_, 1) := by decide +kernel
theorem dX2_spread_0 : decode cX2_spread 0 = .ok (.aload_n 0, 1) := by decide +kernel
theorem dX2_spread_1 : decode cX2_spread 1 = .ok (.getfield 31, 3) := by decide +kernel
theorem dX2_spread_4 : decode cX2_spread 4 = .ok (.iload_n 2, 1) := by decide +kernel
theorem dX2_spread_5 : decode cX2_spread 5 = .ok (.invokevirtual 64, 3) := by decide +kernel
theorem dX2_spread_8 : decode cX2_spread 8 = .ok (.ifCond .eq 17, 3) := by decide +kernel
theorem dX2_spread_11 : decode cX2_spread 11 = .ok (.aload_n 0, 1) := by decide +kernel
theorem dX2_spread_12 : decode cX2_spread 12 = .ok (.getfield 31, 3) := by decide +kernel
theorem dX2_spread_15 : decode cX2_spread 15 = .ok (.aload_n 0, 1) := by decide +kernel
theorem dX2_spread_16 : decode cX2_spread 16 = .ok (.getfield 27, 3) := by decide +kernel
theorem dX2_spread_19 : decode cX2_spread 19 = .ok (.invokevirtual 64, 3) := by decide +kernel
theorem dX2_spread_22 : decode cX2_spread 22 = .ok (.ifCond .ne 4, 3) := by decide +kernel
theorem dX2_spread_25 : decode cX2_spread 25 = .ok (.return_, 1) := by decide +kernel
theorem dX2_spread_26 : decode cX2_spread 26 = .ok (.aload_n 0, 1) := by decide +kernel
theorem dX2_spread_27 : decode cX2_spread 27 = .ok (.getfield 9, 3) := by decide +kernel
theorem dX2_spread_30 : decode cX2_spread 30 = .ok (.iload_n 2, 1) := by decide +kernel
theorem dX2_spread_31 : decode cX2_spread 31 = .ok (.aload_n 0, 1) := by decide +kernel
theorem dX2_spread_32 : decode cX2_spread 32 = .ok (.getfield 27, 3) := by decide +kernel
theorem dX2_spread_35 : decode cX2_spread 35 = .ok (.iastore, 1) := by decide +kernel
theorem dX2_spread_36 : decode cX2_spread 36 = .ok (.aload_n 0, 1) := by decide +kernel
theorem dX2_spread_37 : decode cX2_spread 37 = .ok (.getfield 15, 3) := by decide +kernel
theorem dX2_spread_40 : decode cX2_spread 40 = .ok (.aload_n 0, 1) := by decide +kernel
theorem dX2_spread_41 : decode cX2_spread 41 = .ok (.getfield 27, 3) := by decide +kernel
theorem dX2_spread_44 : decode cX2_spread 44 = .ok (.iload_n 2, 1) := by decide +kernel
theorem dX2_spread_45 : decode cX2_spread 45 = .ok (.iastore, 1) := by decide +kernel
theorem dX2_spread_46 : decode cX2_spread 46 = .ok (.aload_n 0, 1) := by decide +kernel
theorem dX2_spread_47 : decode cX2_spread 47 = .ok (.getfield 21, 3) := by decide +kernel
theorem dX2_spread_50 : decode cX2_spread 50 = .ok (.aload_n 0, 1) := by decide +kernel
theorem dX2_spread_51 : decode cX2_spread 51 = .ok (.getfield 27, 3) := by decide +kernel
theorem dX2_spread_54 : decode cX2_spread 54 = .ok (.aload_n 1, 1) := by decide +kernel
theorem dX2_spread_55 : decode cX2_spread 55 = .ok (.iload_n 2, 1) := by decide +kernel
theorem dX2_spread_56 : decode cX2_spread 56 = .ok (.invokevirtual 51, 3) := by decide +kernel
theorem dX2_spread_59 : decode cX2_spread 59 = .ok (.iastore, 1) := by decide +kernel
theorem dX2_spread_60 : decode cX2_spread 60 = .ok (.aload_n 0, 1) := by decide +kernel
theorem dX2_spread_61 : decode cX2_spread 61 = .ok (.getfield 24, 3) := by decide +kernel
theorem dX2_spread_64 : decode cX2_spread 64 = .ok (.iconst 0, 1) := by decide +kernel
theorem dX2_spread_65 : decode cX2_spread 65 = .ok (.iload_n 2, 1) := by decide +kernel
theorem dX2_spread_66 : decode cX2_spread 66 = .ok (.iastore, 1) := by decide +kernel
theorem dX2_spread_67 : decode cX2_spread 67 = .ok (.iconst 1, 1) := by decide +kernel
theorem dX2_spread_68 : decode cX2_spread 68 = .ok (.istore 4, 2) := by decide +kernel
theorem dX2_spread_70 : decode cX2_spread 70 = .ok (.iconst 0, 1) := by decide +kernel
theorem dX2_spread_71 : decode cX2_spread 71 = .ok (.istore 5, 2) := by decide +kernel
theorem dX2_spread_73 : decode cX2_spread 73 = .ok (.iload 5, 2) := by decide +kernel
theorem dX2_spread_75 : decode cX2_spread 75 = .ok (.iload 4, 2) := by decide +kernel
theorem dX2_spread_77 : decode cX2_spread 77 = .ok (.if_icmp .ge 151, 3) := by decide +kernel
theorem dX2_spread_80 : decode cX2_spread 80 = .ok (.iload 5, 2) := by decide +kernel
theorem dX2_spread_82 : decode cX2_spread 82 = .ok (.bipush 64, 2) := by decide +kernel
theorem dX2_spread_84 : decode cX2_spread 84 = .ok (.if_icmp .ge 144, 3) := by decide +kernel
theorem dX2_spread_87 : decode cX2_spread 87 = .ok (.aload_n 0, 1) := by decide +kernel
theorem dX2_spread_88 : decode cX2_spread 88 = .ok (.getfield 24, 3) := by decide +kernel
theorem dX2_spread_91 : decode cX2_spread 91 = .ok (.iload 5, 2) := by decide +kernel
theorem dX2_spread_93 : decode cX2_spread 93 = .ok (.iaload, 1) := by decide +kernel
theorem dX2_spread_94 : decode cX2_spread 94 = .ok (.istore 6, 2) := by decide +kernel
theorem dX2_spread_96 : decode cX2_spread 96 = .ok (.aload_n 1, 1) := by decide +kernel
theorem dX2_spread_97 : decode cX2_spread 97 = .ok (.iload 6, 2) := by decide +kernel
theorem dX2_spread_99 : decode cX2_spread 99 = .ok (.invokevirtual 51, 3) := by decide +kernel
theorem dX2_spread_102 : decode cX2_spread 102 = .ok (.istore 7, 2) := by decide +kernel
theorem dX2_spread_104 : decode cX2_spread 104 = .ok (.aload_n 0, 1) := by decide +kernel
theorem dX2_spread_105 : decode cX2_spread 105 = .ok (.getfield 21, 3) := by decide +kernel
theorem dX2_spread_108 : decode cX2_spread 108 = .ok (.aload_n 0, 1) := by decide +kernel
theorem dX2_spread_109 : decode cX2_spread 109 = .ok (.getfield 27, 3) := by decide +kernel
theorem dX2_spread_112 : decode cX2_spread 112 = .ok (.aload_n 0, 1) := by decide +kernel
theorem dX2_spread_113 : decode cX2_spread 113 = .ok (.getfield 21, 3) := by decide +kernel
theorem dX2_spread_116 : decode cX2_spread 116 = .ok (.aload_n 0, 1) := by decide +kernel
theorem dX2_spread_117 : decode cX2_spread 117 = .ok (.getfield 27, 3) := by decide +kernel
theorem dX2_spread_120 : decode cX2_spread 120 = .ok (.iaload, 1) := by decide +kernel
theorem dX2_spread_121 : decode cX2_spread 121 = .ok (.iload 7, 2) := by decide +kernel
theorem dX2_spread_123 : decode cX2_spread 123 = .ok (.invokestatic 68, 3) := by decide +kernel
theorem dX2_spread_126 : decode cX2_spread 126 = .ok (.iastore, 1) := by decide +kernel
theorem dX2_spread_127 : decode cX2_spread 127 = .ok (.iconst 0, 1) := by decide +kernel
theorem dX2_spread_128 : decode cX2_spread 128 = .ok (.istore 8, 2) := by decide +kernel
theorem dX2_spread_130 : decode cX2_spread 130 = .ok (.iload 8, 2) := by decide +kernel
theorem dX2_spread_132 : decode cX2_spread 132 = .ok (.aload_n 0, 1) := by decide +kernel
theorem dX2_spread_133 : decode cX2_spread 133 = .ok (.getfield 31, 3) := by decide +kernel
theorem dX2_spread_136 : decode cX2_spread 136 = .ok (.iload 6, 2) := by decide +kernel
theorem dX2_spread_138 : decode cX2_spread 138 = .ok (.invokevirtual 74, 3) := by decide +kernel
theorem dX2_spread_141 : decode cX2_spread 141 = .ok (.if_icmp .ge 81, 3) := by decide +kernel
theorem dX2_spread_144 : decode cX2_spread 144 = .ok (.aload_n 0, 1) := by decide +kernel
theorem dX2_spread_145 : decode cX2_spread 145 = .ok (.getfield 31, 3) := by decide +kernel
theorem dX2_spread_148 : decode cX2_spread 148 = .ok (.iload 6, 2) := by decide +kernel
theorem dX2_spread_150 : decode cX2_spread 150 = .ok (.iload 8, 2) := by decide +kernel
theorem dX2_spread_152 : decode cX2_spread 152 = .ok (.invokevirtual 77, 3) := by decide +kernel
theorem dX2_spread_155 : decode cX2_spread 155 = .ok (.istore 9, 2) := by decide +kernel
theorem dX2_spread_157 : decode cX2_spread 157 = .ok (.aload_n 0, 1) := by decide +kernel
theorem dX2_spread_158 : decode cX2_spread 158 = .ok (.aload_n 1, 1) := by decide +kernel
theorem dX2_spread_159 : decode cX2_spread 159 = .ok (.iload 9, 2) := by decide +kernel
theorem dX2_spread_161 : decode cX2_spread 161 = .ok (.invokevirtual 80, 3) := by decide +kernel
theorem dX2_spread_164 : decode cX2_spread 164 = .ok (.ifCond .eq 52, 3) := by decide +kernel
theorem dX2_spread_167 : decode cX2_spread 167 = .ok (.aload_n 0, 1) := by decide +kernel
theorem dX2_spread_168 : decode cX2_spread 168 = .ok (.getfield 35, 3) := by decide +kernel
theorem dX2_spread_171 : decode cX2_spread 171 = .ok (.iload 7, 2) := by decide +kernel
theorem dX2_spread_173 : decode cX2_spread 173 = .ok (.aload_n 1, 1) := by decide +kernel
theorem dX2_spread_174 : decode cX2_spread 174 = .ok (.iload 9, 2) := by decide +kernel
theorem dX2_spread_176 : decode cX2_spread 176 = .ok (.invokevirtual 51, 3) := by decide +kernel
theorem dX2_spread_179 : decode cX2_spread 179 = .ok (.iload_n 3, 1) := by decide +kernel
theorem dX2_spread_180 : decode cX2_spread 180 = .ok (.invokevirtual 84, 3) := by decide +kernel
theorem dX2_spread_183 : decode cX2_spread 183 = .ok (.ifCond .ne 33, 3) := by decide +kernel
theorem dX2_spread_186 : decode cX2_spread 186 = .ok (.iload 4, 2) := by decide +kernel
theorem dX2_spread_188 : decode cX2_spread 188 = .ok (.bipush 64, 2) := by decide +kernel
theorem dX2_spread_190 : decode cX2_spread 190 = .ok (.if_icmp .ge 26, 3) := by decide +kernel
theorem dX2_spread_193 : decode cX2_spread 193 = .ok (.aload_n 0, 1) := by decide +kernel
theorem dX2_spread_194 : decode cX2_spread 194 = .ok (.getfield 9, 3) := by decide +kernel
theorem dX2_spread_197 : decode cX2_spread 197 = .ok (.iload 9, 2) := by decide +kernel
theorem dX2_spread_199 : decode cX2_spread 199 = .ok (.aload_n 0, 1) := by decide +kernel
theorem dX2_spread_200 : decode cX2_spread 200 = .ok (.getfield 27, 3) := by decide +kernel
theorem dX2_spread_203 : decode cX2_spread 203 = .ok (.iastore, 1) := by decide +kernel
theorem dX2_spread_204 : decode cX2_spread 204 = .ok (.aload_n 0, 1) := by decide +kernel
theorem dX2_spread_205 : decode cX2_spread 205 = .ok (.getfield 24, 3) := by decide +kernel
theorem dX2_spread_208 : decode cX2_spread 208 = .ok (.iload 4, 2) := by decide +kernel
theorem dX2_spread_210 : decode cX2_spread 210 = .ok (.iload 9, 2) := by decide +kernel
theorem dX2_spread_212 : decode cX2_spread 212 = .ok (.iastore, 1) := by decide +kernel
theorem dX2_spread_213 : decode cX2_spread 213 = .ok (.iinc 4 1, 3) := by decide +kernel
theorem dX2_spread_216 : decode cX2_spread 216 = .ok (.iinc 8 1, 3) := by decide +kernel
theorem dX2_spread_219 : decode cX2_spread 219 = .ok (.goto (-89), 3) := by decide +kernel
theorem dX2_spread_222 : decode cX2_spread 222 = .ok (.iinc 5 1, 3) := by decide +kernel
theorem dX2_spread_225 : decode cX2_spread 225 = .ok (.goto (-152), 3) := by decide +kernel
theorem dX2_spread_228 : decode cX2_spread 228 = .ok (.aload_n 0, 1) := by decide +kernel
theorem dX2_spread_229 : decode cX2_spread 229 = .ok (.getfield 18, 3) := by decide +kernel
theorem dX2_spread_232 : decode cX2_spread 232 = .ok (.aload_n 0, 1) := by decide +kernel
theorem dX2_spread_233 : decode cX2_spread 233 = .ok (.getfield 27, 3) := by decide +kernel
theorem dX2_spread_236 : decode cX2_spread 236 = .ok (.iload 4, 2) := by decide +kernel
theorem dX2_spread_238 : decode cX2_spread 238 = .ok (.iastore, 1) := by decide +kernel
theorem dX2_spread_239 : decode cX2_spread 239 = .ok (.aload_n 0, 1) := by decide +kernel
theorem dX2_spread_240 : decode cX2_spread 240 = .ok (.dup, 1) := by decide +kernel
theorem dX2_spread_241 : decode cX2_spread 241 = .ok (.getfield 27, 3) := by decide +kernel
theorem dX2_spread_244 : decode cX2_spread 244 = .ok (.iconst 1, 1) := by decide +kernel
theorem dX2_spread_245 : decode cX2_spread 245 = .ok (.iadd, 1) := by decide +kernel
theorem dX2_spread_246 : decode cX2_spread 246 = .ok (.putfield 27, 3) := by decide +kernel
theorem dX2_spread_249 : decode cX2_spread 249 = .ok (.return_, 1) := by decide +kernel
theorem dX2_isNew_0 : decode cX2_isNew 0 = .ok (.aload_n 0, 1) := by decide +kernel
theorem dX2_isNew_1 : decode cX2_isNew 1 = .ok (.getfield 31, 3) := by decide +kernel
theorem dX2_isNew_4 : decode cX2_isNew 4 = .ok (.iload_n 2, 1) := by decide +kernel
theorem dX2_isNew_5 : decode cX2_isNew 5 = .ok (.invokevirtual 64, 3) := by decide +kernel
theorem dX2_isNew_8 : decode cX2_isNew 8 = .ok (.ifCond .eq 25, 3) := by decide +kernel
theorem dX2_isNew_11 : decode cX2_isNew 11 = .ok (.aload_n 0, 1) := by decide +kernel
theorem dX2_isNew_12 : decode cX2_isNew 12 = .ok (.getfield 9, 3) := by decide +kernel
theorem dX2_isNew_15 : decode cX2_isNew 15 = .ok (.iload_n 2, 1) := by decide +kernel
theorem dX2_isNew_16 : decode cX2_isNew 16 = .ok (.iaload, 1) := by decide +kernel
theorem dX2_isNew_17 : decode cX2_isNew 17 = .ok (.iconst (-1), 1) := by decide +kernel
theorem dX2_isNew_18 : decode cX2_isNew 18 = .ok (.if_icmp .ne 15, 3) := by decide +kernel
theorem dX2_isNew_21 : decode cX2_isNew 21 = .ok (.aload_n 1, 1) := by decide +kernel
theorem dX2_isNew_22 : decode cX2_isNew 22 = .ok (.iload_n 2, 1) := by decide +kernel
theorem dX2_isNew_23 : decode cX2_isNew 23 = .ok (.invokevirtual 51, 3) := by decide +kernel
theorem dX2_isNew_26 : decode cX2_isNew 26 = .ok (.ifCond .eq 7, 3) := by decide +kernel
theorem dX2_isNew_29 : decode cX2_isNew 29 = .ok (.iconst 1, 1) := by decide +kernel
theorem dX2_isNew_30 : decode cX2_isNew 30 = .ok (.goto 4, 3) := by decide +kernel
theorem dX2_isNew_33 : decode cX2_isNew 33 = .ok (.iconst 0, 1) := by decide +kernel
theorem dX2_isNew_34 : decode cX2_isNew 34 = .ok (.ireturn, 1) := by decide +kernel
theorem dX2_many_0 : decode cX2_many 0 = .ok (.aload_n 0, 1) := by decide +kernel
theorem dX2_many_1 : decode cX2_many 1 = .ok (.getfield 27, 3) := by decide +kernel
theorem dX2_many_4 : decode cX2_many 4 = .ok (.ireturn, 1) := by decide +kernel
theorem dX2_at_0 : decode cX2_at 0 = .ok (.aload_n 0, 1) := by decide +kernel
theorem dX2_at_1 : decode cX2_at 1 = .ok (.getfield 31, 3) := by decide +kernel
theorem dX2_at_4 : decode cX2_at 4 = .ok (.iload_n 1, 1) := by decide +kernel
theorem dX2_at_5 : decode cX2_at 5 = .ok (.invokevirtual 64, 3) := by decide +kernel
theorem dX2_at_8 : decode cX2_at 8 = .ok (.ifCond .eq 12, 3) := by decide +kernel
theorem dX2_at_11 : decode cX2_at 11 = .ok (.aload_n 0, 1) := by decide +kernel
theorem dX2_at_12 : decode cX2_at 12 = .ok (.getfield 9, 3) := by decide +kernel
theorem dX2_at_15 : decode cX2_at 15 = .ok (.iload_n 1, 1) := by decide +kernel
theorem dX2_at_16 : decode cX2_at 16 = .ok (.iaload, 1) := by decide +kernel
theorem dX2_at_17 : decode cX2_at 17 = .ok (.goto 4, 3) := by decide +kernel
theorem dX2_at_20 : decode cX2_at 20 = .ok (.iconst (-1), 1) := by decide +kernel
theorem dX2_at_21 : decode cX2_at 21 = .ok (.ireturn, 1) := by decide +kernel
theorem dX2_hasGrain_0 : decode cX2_hasGrain 0 = .ok (.iload_n 1, 1) := by decide +kernel
theorem dX2_hasGrain_1 : decode cX2_hasGrain 1 = .ok (.ifCond .lt 21, 3) := by decide +kernel
theorem dX2_hasGrain_4 : decode cX2_hasGrain 4 = .ok (.iload_n 1, 1) := by decide +kernel
theorem dX2_hasGrain_5 : decode cX2_hasGrain 5 = .ok (.aload_n 0, 1) := by decide +kernel
theorem dX2_hasGrain_6 : decode cX2_hasGrain 6 = .ok (.getfield 27, 3) := by decide +kernel
theorem dX2_hasGrain_9 : decode cX2_hasGrain 9 = .ok (.if_icmp .ge 13, 3) := by decide +kernel
theorem dX2_hasGrain_12 : decode cX2_hasGrain 12 = .ok (.iload_n 1, 1) := by decide +kernel
theorem dX2_hasGrain_13 : decode cX2_hasGrain 13 = .ok (.bipush 64, 2) := by decide +kernel
theorem dX2_hasGrain_15 : decode cX2_hasGrain 15 = .ok (.if_icmp .ge 7, 3) := by decide +kernel
theorem dX2_hasGrain_18 : decode cX2_hasGrain 18 = .ok (.iconst 1, 1) := by decide +kernel
theorem dX2_hasGrain_19 : decode cX2_hasGrain 19 = .ok (.goto 4, 3) := by decide +kernel
theorem dX2_hasGrain_22 : decode cX2_hasGrain 22 = .ok (.iconst 0, 1) := by decide +kernel
theorem dX2_hasGrain_23 : decode cX2_hasGrain 23 = .ok (.ireturn, 1) := by decide +kernel
theorem dX2_firstOf_0 : decode cX2_firstOf 0 = .ok (.aload_n 0, 1) := by decide +kernel
theorem dX2_firstOf_1 : decode cX2_firstOf 1 = .ok (.iload_n 1, 1) := by decide +kernel
theorem dX2_firstOf_2 : decode cX2_firstOf 2 = .ok (.invokevirtual 90, 3) := by decide +kernel
theorem dX2_firstOf_5 : decode cX2_firstOf 5 = .ok (.ifCond .eq 12, 3) := by decide +kernel
theorem dX2_firstOf_8 : decode cX2_firstOf 8 = .ok (.aload_n 0, 1) := by decide +kernel
theorem dX2_firstOf_9 : decode cX2_firstOf 9 = .ok (.getfield 15, 3) := by decide +kernel
theorem dX2_firstOf_12 : decode cX2_firstOf 12 = .ok (.iload_n 1, 1) := by decide +kernel
theorem dX2_firstOf_13 : decode cX2_firstOf 13 = .ok (.iaload, 1) := by decide +kernel
theorem dX2_firstOf_14 : decode cX2_firstOf 14 = .ok (.goto 4, 3) := by decide +kernel
theorem dX2_firstOf_17 : decode cX2_firstOf 17 = .ok (.iconst (-1), 1) := by decide +kernel
theorem dX2_firstOf_18 : decode cX2_firstOf 18 = .ok (.ireturn, 1) := by decide +kernel
theorem dX2_sizeOf_0 : decode cX2_sizeOf 0 = .ok (.aload_n 0, 1) := by decide +kernel
theorem dX2_sizeOf_1 : decode cX2_sizeOf 1 = .ok (.iload_n 1, 1) := by decide +kernel
theorem dX2_sizeOf_2 : decode cX2_sizeOf 2 = .ok (.invokevirtual 90, 3) := by decide +kernel
theorem dX2_sizeOf_5 : decode cX2_sizeOf 5 = .ok (.ifCond .eq 12, 3) := by decide +kernel
theorem dX2_sizeOf_8 : decode cX2_sizeOf 8 = .ok (.aload_n 0, 1) := by decide +kernel
theorem dX2_sizeOf_9 : decode cX2_sizeOf 9 = .ok (.getfield 18, 3) := by decide +kernel
theorem dX2_sizeOf_12 : decode cX2_sizeOf 12 = .ok (.iload_n 1, 1) := by decide +kernel
theorem dX2_sizeOf_13 : decode cX2_sizeOf 13 = .ok (.iaload, 1) := by decide +kernel
theorem dX2_sizeOf_14 : decode cX2_sizeOf 14 = .ok (.goto 4, 3) := by decide +kernel
theorem dX2_sizeOf_17 : decode cX2_sizeOf 17 = .ok (.iconst 0, 1) := by decide +kernel
theorem dX2_sizeOf_18 : decode cX2_sizeOf 18 = .ok (.ireturn, 1) := by decide +kernel
theorem dX2_leastMarkOf_0 : decode cX2_leastMarkOf 0 = .ok (.aload_n 0, 1) := by decide +kernel
theorem dX2_leastMarkOf_1 : decode cX2_leastMarkOf 1 = .ok (.iload_n 1, 1) := by decide +kernel
theorem dX2_leastMarkOf_2 : decode cX2_leastMarkOf 2 = .ok (.invokevirtual 90, 3) := by decide +kernel
theorem dX2_leastMarkOf_5 : decode cX2_leastMarkOf 5 = .ok (.ifCond .eq 12, 3) := by decide +kernel
theorem dX2_leastMarkOf_8 : decode cX2_leastMarkOf 8 = .ok (.aload_n 0, 1) := by decide +kernel
theorem dX2_leastMarkOf_9 : decode cX2_leastMarkOf 9 = .ok (.getfield 21, 3) := by decide +kernel
theorem dX2_leastMarkOf_12 : decode cX2_leastMarkOf 12 = .ok (.iload_n 1, 1) := by decide +kernel
theorem dX2_leastMarkOf_13 : decode cX2_leastMarkOf 13 = .ok (.iaload, 1) := by decide +kernel
theorem dX2_leastMarkOf_14 : decode cX2_leastMarkOf 14 = .ok (.goto 4, 3) := by decide +kernel
theorem dX2_leastMarkOf_17 : decode cX2_leastMarkOf 17 = .ok (.iconst 0, 1) := by decide +kernel
theorem dX2_leastMarkOf_18 : decode cX2_leastMarkOf 18 = .ok (.ireturn, 1) := by decide +kernel
theorem dX2_greatestSize_0 : decode cX2_greatestSize 0 = .ok (.iconst 0, 1) := by decide +kernel
theorem dX2_greatestSize_1 : decode cX2_greatestSize 1 = .ok (.istore_n 1, 1) := by decide +kernel
theorem dX2_greatestSize_2 : decode cX2_greatestSize 2 = .ok (.iconst 0, 1) := by decide +kernel
theorem dX2_greatestSize_3 : decode cX2_greatestSize 3 = .ok (.istore_n 2, 1) := by decide +kernel
theorem dX2_greatestSize_4 : decode cX2_greatestSize 4 = .ok (.iload_n 2, 1) := by decide +kernel
theorem dX2_greatestSize_5 : decode cX2_greatestSize 5 = .ok (.aload_n 0, 1) := by decide +kernel
theorem dX2_greatestSize_6 : decode cX2_greatestSize 6 = .ok (.getfield 27, 3) := by decide +kernel
theorem dX2_greatestSize_9 : decode cX2_greatestSize 9 = .ok (.if_icmp .ge 19, 3) := by decide +kernel
theorem dX2_greatestSize_12 : decode cX2_greatestSize 12 = .ok (.iload_n 1, 1) := by decide +kernel
theorem dX2_greatestSize_13 : decode cX2_greatestSize 13 = .ok (.aload_n 0, 1) := by decide +kernel
theorem dX2_greatestSize_14 : decode cX2_greatestSize 14 = .ok (.iload_n 2, 1) := by decide +kernel
theorem dX2_greatestSize_15 : decode cX2_greatestSize 15 = .ok (.invokevirtual 93, 3) := by decide +kernel
theorem dX2_greatestSize_18 : decode cX2_greatestSize 18 = .ok (.invokestatic 96, 3) := by decide +kernel
theorem dX2_greatestSize_21 : decode cX2_greatestSize 21 = .ok (.istore_n 1, 1) := by decide +kernel
theorem dX2_greatestSize_22 : decode cX2_greatestSize 22 = .ok (.iinc 2 1, 3) := by decide +kernel
theorem dX2_greatestSize_25 : decode cX2_greatestSize 25 = .ok (.goto (-21), 3) := by decide +kernel
theorem dX2_greatestSize_28 : decode cX2_greatestSize 28 = .ok (.iload_n 1, 1) := by decide +kernel
theorem dX2_greatestSize_29 : decode cX2_greatestSize 29 = .ok (.ireturn, 1) := by decide +kernel
theorem dX2_sizeByArea_0 : decode cX2_sizeByArea 0 = .ok (.aload_n 0, 1) := by decide +kernel
theorem dX2_sizeByArea_1 : decode cX2_sizeByArea 1 = .ok (.getfield 27, 3) := by decide +kernel
theorem dX2_sizeByArea_4 : decode cX2_sizeByArea 4 = .ok (.ifCond .le 26, 3) := by decide +kernel
theorem dX2_sizeByArea_7 : decode cX2_sizeByArea 7 = .ok (.bipush 100, 2) := by decide +kernel
theorem dX2_sizeByArea_9 : decode cX2_sizeByArea 9 = .ok (.aload_n 0, 1) := by decide +kernel
theorem dX2_sizeByArea_10 : decode cX2_sizeByArea 10 = .ok (.getfield 31, 3) := by decide +kernel
theorem dX2_sizeByArea_13 : decode cX2_sizeByArea 13 = .ok (.invokevirtual 45, 3) := by decide +kernel
theorem dX2_sizeByArea_16 : decode cX2_sizeByArea 16 = .ok (.aload_n 1, 1) := by decide +kernel
theorem dX2_sizeByArea_17 : decode cX2_sizeByArea 17 = .ok (.invokevirtual 99, 3) := by decide +kernel
theorem dX2_sizeByArea_20 : decode cX2_sizeByArea 20 = .ok (.isub, 1) := by decide +kernel
theorem dX2_sizeByArea_21 : decode cX2_sizeByArea 21 = .ok (.imul, 1) := by decide +kernel
theorem dX2_sizeByArea_22 : decode cX2_sizeByArea 22 = .ok (.aload_n 0, 1) := by decide +kernel
theorem dX2_sizeByArea_23 : decode cX2_sizeByArea 23 = .ok (.getfield 27, 3) := by decide +kernel
theorem dX2_sizeByArea_26 : decode cX2_sizeByArea 26 = .ok (.idiv, 1) := by decide +kernel
theorem dX2_sizeByArea_27 : decode cX2_sizeByArea 27 = .ok (.goto 4, 3) := by decide +kernel
theorem dX2_sizeByArea_30 : decode cX2_sizeByArea 30 = .ok (.iconst 0, 1) := by decide +kernel
theorem dX2_sizeByArea_31 : decode cX2_sizeByArea 31 = .ok (.ireturn, 1) := by decide +kernel
theorem dX3_init_0 : decode cX3_init 0 = .ok (.aload_n 0, 1) := by decide +kernel
theorem dX3_init_1 : decode cX3_init 1 = .ok (.invokespecial 3, 3) := by decide +kernel
theorem dX3_init_4 : decode cX3_init 4 = .ok (.aload_n 0, 1) := by decide +kernel
theorem dX3_init_5 : decode cX3_init 5 = .ok (.bipush 64, 2) := by decide +kernel
theorem dX3_init_7 : decode cX3_init 7 = .ok (.newarray .int, 2) := by decide +kernel
theorem dX3_init_9 : decode cX3_init 9 = .ok (.putfield 9, 3) := by decide +kernel
theorem dX3_init_12 : decode cX3_init 12 = .ok (.aload_n 0, 1) := by decide +kernel
theorem dX3_init_13 : decode cX3_init 13 = .ok (.bipush 64, 2) := by decide +kernel
theorem dX3_init_15 : decode cX3_init 15 = .ok (.newarray .int, 2) := by decide +kernel
theorem dX3_init_17 : decode cX3_init 17 = .ok (.putfield 15, 3) := by decide +kernel
theorem dX3_init_20 : decode cX3_init 20 = .ok (.aload_n 0, 1) := by decide +kernel
theorem dX3_init_21 : decode cX3_init 21 = .ok (.bipush 64, 2) := by decide +kernel
theorem dX3_init_23 : decode cX3_init 23 = .ok (.newarray .int, 2) := by decide +kernel
theorem dX3_init_25 : decode cX3_init 25 = .ok (.putfield 18, 3) := by decide +kernel
theorem dX3_init_28 : decode cX3_init 28 = .ok (.aload_n 0, 1) := by decide +kernel
theorem dX3_init_29 : decode cX3_init 29 = .ok (.bipush 7, 2) := by decide +kernel
theorem dX3_init_31 : decode cX3_init 31 = .ok (.putfield 21, 3) := by decide +kernel
theorem dX3_init_34 : decode cX3_init 34 = .ok (.aload_n 0, 1) := by decide +kernel
theorem dX3_init_35 : decode cX3_init 35 = .ok (.iconst 0, 1) := by decide +kernel
theorem dX3_init_36 : decode cX3_init 36 = .ok (.putfield 25, 3) := by decide +kernel
theorem dX3_init_39 : decode cX3_init 39 = .ok (.aload_n 0, 1) := by decide +kernel
theorem dX3_init_40 : decode cX3_init 40 = .ok (.aload_n 1, 1) := by decide +kernel
theorem dX3_init_41 : decode cX3_init 41 = .ok (.putfield 28, 3) := by decide +kernel
theorem dX3_init_44 : decode cX3_init 44 = .ok (.aload_n 0, 1) := by decide +kernel
theorem dX3_init_45 : decode cX3_init 45 = .ok (.aload_n 2, 1) := by decide +kernel
theorem dX3_init_46 : decode cX3_init 46 = .ok (.putfield 32, 3) := by decide +kernel
theorem dX3_init_49 : decode cX3_init 49 = .ok (.return_, 1) := by decide +kernel
theorem dX3_castAnew_0 : decode cX3_castAnew 0 = .ok (.aload_n 0, 1) := by decide +kernel
theorem dX3_castAnew_1 : decode cX3_castAnew 1 = .ok (.getfield 15, 3) := by decide +kernel
theorem dX3_castAnew_4 : decode cX3_castAnew 4 = .ok (.iconst 0, 1) := by decide +kernel
theorem dX3_castAnew_5 : decode cX3_castAnew 5 = .ok (.invokestatic 42, 3) := by decide +kernel
theorem dX3_castAnew_8 : decode cX3_castAnew 8 = .ok (.aload_n 0, 1) := by decide +kernel
theorem dX3_castAnew_9 : decode cX3_castAnew 9 = .ok (.getfield 18, 3) := by decide +kernel
theorem dX3_castAnew_12 : decode cX3_castAnew 12 = .ok (.iconst 0, 1) := by decide +kernel
theorem dX3_castAnew_13 : decode cX3_castAnew 13 = .ok (.invokestatic 42, 3) := by decide +kernel
theorem dX3_castAnew_16 : decode cX3_castAnew 16 = .ok (.iconst 0, 1) := by decide +kernel
theorem dX3_castAnew_17 : decode cX3_castAnew 17 = .ok (.istore_n 2, 1) := by decide +kernel
theorem dX3_castAnew_18 : decode cX3_castAnew 18 = .ok (.iload_n 2, 1) := by decide +kernel
theorem dX3_castAnew_19 : decode cX3_castAnew 19 = .ok (.aload_n 0, 1) := by decide +kernel
theorem dX3_castAnew_20 : decode cX3_castAnew 20 = .ok (.getfield 28, 3) := by decide +kernel
theorem dX3_castAnew_23 : decode cX3_castAnew 23 = .ok (.invokevirtual 48, 3) := by decide +kernel
theorem dX3_castAnew_26 : decode cX3_castAnew 26 = .ok (.if_icmp .ge 21, 3) := by decide +kernel
theorem dX3_castAnew_29 : decode cX3_castAnew 29 = .ok (.aload_n 0, 1) := by decide +kernel
theorem dX3_castAnew_30 : decode cX3_castAnew 30 = .ok (.iload_n 2, 1) := by decide +kernel
theorem dX3_castAnew_31 : decode cX3_castAnew 31 = .ok (.iconst 1, 1) := by decide +kernel
theorem dX3_castAnew_32 : decode cX3_castAnew 32 = .ok (.aload_n 0, 1) := by decide +kernel
theorem dX3_castAnew_33 : decode cX3_castAnew 33 = .ok (.iload_n 1, 1) := by decide +kernel
theorem dX3_castAnew_34 : decode cX3_castAnew 34 = .ok (.invokevirtual 54, 3) := by decide +kernel
theorem dX3_castAnew_37 : decode cX3_castAnew 37 = .ok (.iadd, 1) := by decide +kernel
theorem dX3_castAnew_38 : decode cX3_castAnew 38 = .ok (.invokevirtual 58, 3) := by decide +kernel
theorem dX3_castAnew_41 : decode cX3_castAnew 41 = .ok (.iinc 2 1, 3) := by decide +kernel
theorem dX3_castAnew_44 : decode cX3_castAnew 44 = .ok (.goto (-26), 3) := by decide +kernel
theorem dX3_castAnew_47 : decode cX3_castAnew 47 = .ok (.return_, 1) := by decide +kernel
theorem dX3_beginRow_0 : decode cX3_beginRow 0 = .ok (.aload_n 0, 1) := by decide +kernel
theorem dX3_beginRow_1 : decode cX3_beginRow 1 = .ok (.iload_n 1, 1) := by decide +kernel
theorem dX3_beginRow_2 : decode cX3_beginRow 2 = .ok (.putfield 21, 3) := by decide +kernel
theorem dX3_beginRow_5 : decode cX3_beginRow 5 = .ok (.return_, 1) := by decide +kernel
theorem dX3_drawnEver_0 : decode cX3_drawnEver 0 = .ok (.aload_n 0, 1) := by decide +kernel
theorem dX3_drawnEver_1 : decode cX3_drawnEver 1 = .ok (.getfield 25, 3) := by decide +kernel
theorem dX3_drawnEver_4 : decode cX3_drawnEver 4 = .ok (.ireturn, 1) := by decide +kernel
theorem dX3_nextOfRow_0 : decode cX3_nextOfRow 0 = .ok (.aload_n 0, 1) := by decide +kernel
theorem dX3_nextOfRow_1 : decode cX3_nextOfRow 1 = .ok (.getfield 21, 3) := by decide +kernel
theorem dX3_nextOfRow_4 : decode cX3_nextOfRow 4 = .ok (.ireturn, 1) := by decide +kernel
theorem dX3_drawBelow_0 : decode cX3_drawBelow 0 = .ok (.aload_n 0, 1) := by decide +kernel
theorem dX3_drawBelow_1 : decode cX3_drawBelow 1 = .ok (.getfield 21, 3) := by decide +kernel
theorem dX3_drawBelow_4 : decode cX3_drawBelow 4 = .ok (.istore_n 2, 1) := by decide +kernel
theorem dX3_drawBelow_5 : decode cX3_drawBelow 5 = .ok (.aload_n 0, 1) := by decide +kernel
theorem dX3_drawBelow_6 : decode cX3_drawBelow 6 = .ok (.bipush 17, 2) := by decide +kernel
theorem dX3_drawBelow_8 : decode cX3_drawBelow 8 = .ok (.aload_n 0, 1) := by decide +kernel
theorem dX3_drawBelow_9 : decode cX3_drawBelow 9 = .ok (.getfield 21, 3) := by decide +kernel
theorem dX3_drawBelow_12 : decode cX3_drawBelow 12 = .ok (.imul, 1) := by decide +kernel
theorem dX3_drawBelow_13 : decode cX3_drawBelow 13 = .ok (.bipush 23, 2) := by decide +kernel
theorem dX3_drawBelow_15 : decode cX3_drawBelow 15 = .ok (.iadd, 1) := by decide +kernel
theorem dX3_drawBelow_16 : decode cX3_drawBelow 16 = .ok (.sipush 8191, 3) := by decide +kernel
theorem dX3_drawBelow_19 : decode cX3_drawBelow 19 = .ok (.irem, 1) := by decide +kernel
theorem dX3_drawBelow_20 : decode cX3_drawBelow 20 = .ok (.putfield 21, 3) := by decide +kernel
theorem dX3_drawBelow_23 : decode cX3_drawBelow 23 = .ok (.aload_n 0, 1) := by decide +kernel
theorem dX3_drawBelow_24 : decode cX3_drawBelow 24 = .ok (.dup, 1) := by decide +kernel
theorem dX3_drawBelow_25 : decode cX3_drawBelow 25 = .ok (.getfield 25, 3) := by decide +kernel
theorem dX3_drawBelow_28 : decode cX3_drawBelow 28 = .ok (.iconst 1, 1) := by decide +kernel
theorem dX3_drawBelow_29 : decode cX3_drawBelow 29 = .ok (.iadd, 1) := by decide +kernel
theorem dX3_drawBelow_30 : decode cX3_drawBelow 30 = .ok (.putfield 25, 3) := by decide +kernel
theorem dX3_drawBelow_33 : decode cX3_drawBelow 33 = .ok (.iload_n 1, 1) := by decide +kernel
theorem dX3_drawBelow_34 : decode cX3_drawBelow 34 = .ok (.ifCond .le 9, 3) := by decide +kernel
theorem dX3_drawBelow_37 : decode cX3_drawBelow 37 = .ok (.iload_n 2, 1) := by decide +kernel
theorem dX3_drawBelow_38 : decode cX3_drawBelow 38 = .ok (.iload_n 1, 1) := by decide +kernel
theorem dX3_drawBelow_39 : decode cX3_drawBelow 39 = .ok (.irem, 1) := by decide +kernel
theorem dX3_drawBelow_40 : decode cX3_drawBelow 40 = .ok (.goto 4, 3) := by decide +kernel
theorem dX3_drawBelow_43 : decode cX3_drawBelow 43 = .ok (.iconst 0, 1) := by decide +kernel
theorem dX3_drawBelow_44 : decode cX3_drawBelow 44 = .ok (.ireturn, 1) := by decide +kernel
theorem dX3_markAt_0 : decode cX3_markAt 0 = .ok (.iload_n 1, 1) := by decide +kernel
theorem dX3_markAt_1 : decode cX3_markAt 1 = .ok (.ifCond .lt 18, 3) := by decide +kernel
theorem dX3_markAt_4 : decode cX3_markAt 4 = .ok (.iload_n 1, 1) := by decide +kernel
theorem dX3_markAt_5 : decode cX3_markAt 5 = .ok (.bipush 64, 2) := by decide +kernel
theorem dX3_markAt_7 : decode cX3_markAt 7 = .ok (.if_icmp .ge 12, 3) := by decide +kernel
theorem dX3_markAt_10 : decode cX3_markAt 10 = .ok (.aload_n 0, 1) := by decide +kernel
theorem dX3_markAt_11 : decode cX3_markAt 11 = .ok (.getfield 9, 3) := by decide +kernel
theorem dX3_markAt_14 : decode cX3_markAt 14 = .ok (.iload_n 1, 1) := by decide +kernel
theorem dX3_markAt_15 : decode cX3_markAt 15 = .ok (.iaload, 1) := by decide +kernel
theorem dX3_markAt_16 : decode cX3_markAt 16 = .ok (.goto 4, 3) := by decide +kernel
theorem dX3_markAt_19 : decode cX3_markAt 19 = .ok (.iconst 0, 1) := by decide +kernel
theorem dX3_markAt_20 : decode cX3_markAt 20 = .ok (.ireturn, 1) := by decide +kernel
theorem dX3_workAt_0 : decode cX3_workAt 0 = .ok (.iload_n 1, 1) := by decide +kernel
theorem dX3_workAt_1 : decode cX3_workAt 1 = .ok (.ifCond .lt 18, 3) := by decide +kernel
theorem dX3_workAt_4 : decode cX3_workAt 4 = .ok (.iload_n 1, 1) := by decide +kernel
theorem dX3_workAt_5 : decode cX3_workAt 5 = .ok (.bipush 64, 2) := by decide +kernel
theorem dX3_workAt_7 : decode cX3_workAt 7 = .ok (.if_icmp .ge 12, 3) := by decide +kernel
theorem dX3_workAt_10 : decode cX3_workAt 10 = .ok (.aload_n 0, 1) := by decide +kernel
theorem dX3_workAt_11 : decode cX3_workAt 11 = .ok (.getfield 15, 3) := by decide +kernel
theorem dX3_workAt_14 : decode cX3_workAt 14 = .ok (.iload_n 1, 1) := by decide +kernel
theorem dX3_workAt_15 : decode cX3_workAt 15 = .ok (.iaload, 1) := by decide +kernel
theorem dX3_workAt_16 : decode cX3_workAt 16 = .ok (.goto 4, 3) := by decide +kernel
theorem dX3_workAt_19 : decode cX3_workAt 19 = .ok (.iconst 0, 1) := by decide +kernel
theorem dX3_workAt_20 : decode cX3_workAt 20 = .ok (.ireturn, 1) := by decide +kernel
theorem dX3_hardAt_0 : decode cX3_hardAt 0 = .ok (.iload_n 1, 1) := by decide +kernel
theorem dX3_hardAt_1 : decode cX3_hardAt 1 = .ok (.ifCond .lt 18, 3) := by decide +kernel
theorem dX3_hardAt_4 : decode cX3_hardAt 4 = .ok (.iload_n 1, 1) := by decide +kernel
theorem dX3_hardAt_5 : decode cX3_hardAt 5 = .ok (.bipush 64, 2) := by decide +kernel
theorem dX3_hardAt_7 : decode cX3_hardAt 7 = .ok (.if_icmp .ge 12, 3) := by decide +kernel
theorem dX3_hardAt_10 : decode cX3_hardAt 10 = .ok (.aload_n 0, 1) := by decide +kernel
theorem dX3_hardAt_11 : decode cX3_hardAt 11 = .ok (.getfield 18, 3) := by decide +kernel
theorem dX3_hardAt_14 : decode cX3_hardAt 14 = .ok (.iload_n 1, 1) := by decide +kernel
theorem dX3_hardAt_15 : decode cX3_hardAt 15 = .ok (.iaload, 1) := by decide +kernel
theorem dX3_hardAt_16 : decode cX3_hardAt 16 = .ok (.goto 4, 3) := by decide +kernel
theorem dX3_hardAt_19 : decode cX3_hardAt 19 = .ok (.iconst 0, 1) := by decide +kernel
theorem dX3_hardAt_20 : decode cX3_hardAt 20 = .ok (.ireturn, 1) := by decide +kernel
theorem dX3_putMark_0 : decode cX3_putMark 0 = .ok (.iload_n 1, 1) := by decide +kernel
theorem dX3_putMark_1 : decode cX3_putMark 1 = .ok (.ifCond .lt 16, 3) := by decide +kernel
theorem dX3_putMark_4 : decode cX3_putMark 4 = .ok (.iload_n 1, 1) := by decide +kernel
theorem dX3_putMark_5 : decode cX3_putMark 5 = .ok (.bipush 64, 2) := by decide +kernel
theorem dX3_putMark_7 : decode cX3_putMark 7 = .ok (.if_icmp .ge 10, 3) := by decide +kernel
theorem dX3_putMark_10 : decode cX3_putMark 10 = .ok (.aload_n 0, 1) := by decide +kernel
theorem dX3_putMark_11 : decode cX3_putMark 11 = .ok (.getfield 9, 3) := by decide +kernel
theorem dX3_putMark_14 : decode cX3_putMark 14 = .ok (.iload_n 1, 1) := by decide +kernel
theorem dX3_putMark_15 : decode cX3_putMark 15 = .ok (.iload_n 2, 1) := by decide +kernel
theorem dX3_putMark_16 : decode cX3_putMark 16 = .ok (.iastore, 1) := by decide +kernel
theorem dX3_putMark_17 : decode cX3_putMark 17 = .ok (.return_, 1) := by decide +kernel
theorem dX3_putWork_0 : decode cX3_putWork 0 = .ok (.iload_n 1, 1) := by decide +kernel
theorem dX3_putWork_1 : decode cX3_putWork 1 = .ok (.ifCond .lt 16, 3) := by decide +kernel
theorem dX3_putWork_4 : decode cX3_putWork 4 = .ok (.iload_n 1, 1) := by decide +kernel
theorem dX3_putWork_5 : decode cX3_putWork 5 = .ok (.bipush 64, 2) := by decide +kernel
theorem dX3_putWork_7 : decode cX3_putWork 7 = .ok (.if_icmp .ge 10, 3) := by decide +kernel
theorem dX3_putWork_10 : decode cX3_putWork 10 = .ok (.aload_n 0, 1) := by decide +kernel
theorem dX3_putWork_11 : decode cX3_putWork 11 = .ok (.getfield 15, 3) := by decide +kernel
theorem dX3_putWork_14 : decode cX3_putWork 14 = .ok (.iload_n 1, 1) := by decide +kernel
theorem dX3_putWork_15 : decode cX3_putWork 15 = .ok (.iload_n 2, 1) := by decide +kernel
theorem dX3_putWork_16 : decode cX3_putWork 16 = .ok (.iastore, 1) := by decide +kernel
theorem dX3_putWork_17 : decode cX3_putWork 17 = .ok (.return_, 1) := by decide +kernel
theorem dX3_putHard_0 : decode cX3_putHard 0 = .ok (.iload_n 1, 1) := by decide +kernel
theorem dX3_putHard_1 : decode cX3_putHard 1 = .ok (.ifCond .lt 16, 3) := by decide +kernel
theorem dX3_putHard_4 : decode cX3_putHard 4 = .ok (.iload_n 1, 1) := by decide +kernel
theorem dX3_putHard_5 : decode cX3_putHard 5 = .ok (.bipush 64, 2) := by decide +kernel
theorem dX3_putHard_7 : decode cX3_putHard 7 = .ok (.if_icmp .ge 10, 3) := by decide +kernel
theorem dX3_putHard_10 : decode cX3_putHard 10 = .ok (.aload_n 0, 1) := by decide +kernel
theorem dX3_putHard_11 : decode cX3_putHard 11 = .ok (.getfield 18, 3) := by decide +kernel
theorem dX3_putHard_14 : decode cX3_putHard 14 = .ok (.iload_n 1, 1) := by decide +kernel
theorem dX3_putHard_15 : decode cX3_putHard 15 = .ok (.iload_n 2, 1) := by decide +kernel
theorem dX3_putHard_16 : decode cX3_putHard 16 = .ok (.iastore, 1) := by decide +kernel
theorem dX3_putHard_17 : decode cX3_putHard 17 = .ok (.return_, 1) := by decide +kernel
theorem dX3_particles_0 : decode cX3_particles 0 = .ok (.iconst 0, 1) := by decide +kernel
theorem dX3_particles_1 : decode cX3_particles 1 = .ok (.istore_n 1, 1) := by decide +kernel
theorem dX3_particles_2 : decode cX3_particles 2 = .ok (.iconst 0, 1) := by decide +kernel
theorem dX3_particles_3 : decode cX3_particles 3 = .ok (.istore_n 2, 1) := by decide +kernel
theorem dX3_particles_4 : decode cX3_particles 4 = .ok (.iload_n 2, 1) := by decide +kernel
theorem dX3_particles_5 : decode cX3_particles 5 = .ok (.aload_n 0, 1) := by decide +kernel
theorem dX3_particles_6 : decode cX3_particles 6 = .ok (.getfield 28, 3) := by decide +kernel
theorem dX3_particles_9 : decode cX3_particles 9 = .ok (.invokevirtual 48, 3) := by decide +kernel
theorem dX3_particles_12 : decode cX3_particles 12 = .ok (.if_icmp .ge 20, 3) := by decide +kernel
theorem dX3_particles_15 : decode cX3_particles 15 = .ok (.aload_n 0, 1) := by decide +kernel
theorem dX3_particles_16 : decode cX3_particles 16 = .ok (.iload_n 2, 1) := by decide +kernel
theorem dX3_particles_17 : decode cX3_particles 17 = .ok (.invokevirtual 62, 3) := by decide +kernel
theorem dX3_particles_20 : decode cX3_particles 20 = .ok (.ifCond .ne 6, 3) := by decide +kernel
theorem dX3_particles_23 : decode cX3_particles 23 = .ok (.iinc 1 1, 3) := by decide +kernel
theorem dX3_particles_26 : decode cX3_particles 26 = .ok (.iinc 2 1, 3) := by decide +kernel
theorem dX3_particles_29 : decode cX3_particles 29 = .ok (.goto (-25), 3) := by decide +kernel
theorem dX3_particles_32 : decode cX3_particles 32 = .ok (.iload_n 1, 1) := by decide +kernel
theorem dX3_particles_33 : decode cX3_particles 33 = .ok (.ireturn, 1) := by decide +kernel
theorem dX3_hardCells_0 : decode cX3_hardCells 0 = .ok (.iconst 0, 1) := by decide +kernel
theorem dX3_hardCells_1 : decode cX3_hardCells 1 = .ok (.istore_n 1, 1) := by decide +kernel
theorem dX3_hardCells_2 : decode cX3_hardCells 2 = .ok (.iconst 0, 1) := by decide +kernel
theorem dX3_hardCells_3 : decode cX3_hardCells 3 = .ok (.istore_n 2, 1) := by decide +kernel
theorem dX3_hardCells_4 : decode cX3_hardCells 4 = .ok (.iload_n 2, 1) := by decide +kernel
theorem dX3_hardCells_5 : decode cX3_hardCells 5 = .ok (.aload_n 0, 1) := by decide +kernel
theorem dX3_hardCells_6 : decode cX3_hardCells 6 = .ok (.getfield 28, 3) := by decide +kernel
theorem dX3_hardCells_9 : decode cX3_hardCells 9 = .ok (.invokevirtual 48, 3) := by decide +kernel
theorem dX3_hardCells_12 : decode cX3_hardCells 12 = .ok (.if_icmp .ge 17, 3) := by decide +kernel
theorem dX3_hardCells_15 : decode cX3_hardCells 15 = .ok (.iload_n 1, 1) := by decide +kernel
theorem dX3_hardCells_16 : decode cX3_hardCells 16 = .ok (.aload_n 0, 1) := by decide +kernel
theorem dX3_hardCells_17 : decode cX3_hardCells 17 = .ok (.iload_n 2, 1) := by decide +kernel
theorem dX3_hardCells_18 : decode cX3_hardCells 18 = .ok (.invokevirtual 65, 3) := by decide +kernel
theorem dX3_hardCells_21 : decode cX3_hardCells 21 = .ok (.iadd, 1) := by decide +kernel
theorem dX3_hardCells_22 : decode cX3_hardCells 22 = .ok (.istore_n 1, 1) := by decide +kernel
theorem dX3_hardCells_23 : decode cX3_hardCells 23 = .ok (.iinc 2 1, 3) := by decide +kernel
theorem dX3_hardCells_26 : decode cX3_hardCells 26 = .ok (.goto (-22), 3) := by decide +kernel
theorem dX3_hardCells_29 : decode cX3_hardCells 29 = .ok (.iload_n 1, 1) := by decide +kernel
theorem dX3_hardCells_30 : decode cX3_hardCells 30 = .ok (.ireturn, 1) := by decide +kernel
theorem dX3_allWork_0 : decode cX3_allWork 0 = .ok (.iconst 0, 1) := by decide +kernel
theorem dX3_allWork_1 : decode cX3_allWork 1 = .ok (.istore_n 1, 1) := by decide +kernel
theorem dX3_allWork_2 : decode cX3_allWork 2 = .ok (.iconst 0, 1) := by decide +kernel
theorem dX3_allWork_3 : decode cX3_allWork 3 = .ok (.istore_n 2, 1) := by decide +kernel
theorem dX3_allWork_4 : decode cX3_allWork 4 = .ok (.iload_n 2, 1) := by decide +kernel
theorem dX3_allWork_5 : decode cX3_allWork 5 = .ok (.aload_n 0, 1) := by decide +kernel
theorem dX3_allWork_6 : decode cX3_allWork 6 = .ok (.getfield 28, 3) := by decide +kernel
theorem dX3_allWork_9 : decode cX3_allWork 9 = .ok (.invokevirtual 48, 3) := by decide +kernel
theorem dX3_allWork_12 : decode cX3_allWork 12 = .ok (.if_icmp .ge 17, 3) := by decide +kernel
theorem dX3_allWork_15 : decode cX3_allWork 15 = .ok (.iload_n 1, 1) := by decide +kernel
theorem dX3_allWork_16 : decode cX3_allWork 16 = .ok (.aload_n 0, 1) := by decide +kernel
theorem dX3_allWork_17 : decode cX3_allWork 17 = .ok (.iload_n 2, 1) := by decide +kernel
theorem dX3_allWork_18 : decode cX3_allWork 18 = .ok (.invokevirtual 68, 3) := by decide +kernel
theorem dX3_allWork_21 : decode cX3_allWork 21 = .ok (.iadd, 1) := by decide +kernel
theorem dX3_allWork_22 : decode cX3_allWork 22 = .ok (.istore_n 1, 1) := by decide +kernel
theorem dX3_allWork_23 : decode cX3_allWork 23 = .ok (.iinc 2 1, 3) := by decide +kernel
theorem dX3_allWork_26 : decode cX3_allWork 26 = .ok (.goto (-22), 3) := by decide +kernel
theorem dX3_allWork_29 : decode cX3_allWork 29 = .ok (.iload_n 1, 1) := by decide +kernel
theorem dX3_allWork_30 : decode cX3_allWork 30 = .ok (.ireturn, 1) := by decide +kernel
theorem dX3_misfitAround_0 : decode cX3_misfitAround 0 = .ok (.iconst 0, 1) := by decide +kernel
theorem dX3_misfitAround_1 : decode cX3_misfitAround 1 = .ok (.istore_n 2, 1) := by decide +kernel
theorem dX3_misfitAround_2 : decode cX3_misfitAround 2 = .ok (.iconst 0, 1) := by decide +kernel
theorem dX3_misfitAround_3 : decode cX3_misfitAround 3 = .ok (.istore_n 3, 1) := by decide +kernel
theorem dX3_misfitAround_4 : decode cX3_misfitAround 4 = .ok (.iload_n 3, 1) := by decide +kernel
theorem dX3_misfitAround_5 : decode cX3_misfitAround 5 = .ok (.aload_n 0, 1) := by decide +kernel
theorem dX3_misfitAround_6 : decode cX3_misfitAround 6 = .ok (.getfield 28, 3) := by decide +kernel
theorem dX3_misfitAround_9 : decode cX3_misfitAround 9 = .ok (.iload_n 1, 1) := by decide +kernel
theorem dX3_misfitAround_10 : decode cX3_misfitAround 10 = .ok (.invokevirtual 71, 3) := by decide +kernel
theorem dX3_misfitAround_13 : decode cX3_misfitAround 13 = .ok (.if_icmp .ge 37, 3) := by decide +kernel
theorem dX3_misfitAround_16 : decode cX3_misfitAround 16 = .ok (.iload_n 2, 1) := by decide +kernel
theorem dX3_misfitAround_17 : decode cX3_misfitAround 17 = .ok (.aload_n 0, 1) := by decide +kernel
theorem dX3_misfitAround_18 : decode cX3_misfitAround 18 = .ok (.getfield 32, 3) := by decide +kernel
theorem dX3_misfitAround_21 : decode cX3_misfitAround 21 = .ok (.aload_n 0, 1) := by decide +kernel
theorem dX3_misfitAround_22 : decode cX3_misfitAround 22 = .ok (.iload_n 1, 1) := by decide +kernel
theorem dX3_misfitAround_23 : decode cX3_misfitAround 23 = .ok (.invokevirtual 62, 3) := by decide +kernel
theorem dX3_misfitAround_26 : decode cX3_misfitAround 26 = .ok (.aload_n 0, 1) := by decide +kernel
theorem dX3_misfitAround_27 : decode cX3_misfitAround 27 = .ok (.aload_n 0, 1) := by decide +kernel
theorem dX3_misfitAround_28 : decode cX3_misfitAround 28 = .ok (.getfield 28, 3) := by decide +kernel
theorem dX3_misfitAround_31 : decode cX3_misfitAround 31 = .ok (.iload_n 1, 1) := by decide +kernel
theorem dX3_misfitAround_32 : decode cX3_misfitAround 32 = .ok (.iload_n 3, 1) := by decide +kernel
theorem dX3_misfitAround_33 : decode cX3_misfitAround 33 = .ok (.invokevirtual 74, 3) := by decide +kernel
theorem dX3_misfitAround_36 : decode cX3_misfitAround 36 = .ok (.invokevirtual 62, 3) := by decide +kernel
theorem dX3_misfitAround_39 : decode cX3_misfitAround 39 = .ok (.invokevirtual 78, 3) := by decide +kernel
theorem dX3_misfitAround_42 : decode cX3_misfitAround 42 = .ok (.iadd, 1) := by decide +kernel
theorem dX3_misfitAround_43 : decode cX3_misfitAround 43 = .ok (.istore_n 2, 1) := by decide +kernel
theorem dX3_misfitAround_44 : decode cX3_misfitAround 44 = .ok (.iinc 3 1, 3) := by decide +kernel
theorem dX3_misfitAround_47 : decode cX3_misfitAround 47 = .ok (.goto (-43), 3) := by decide +kernel
theorem dX3_misfitAround_50 : decode cX3_misfitAround 50 = .ok (.iload_n 2, 1) := by decide +kernel
theorem dX3_misfitAround_51 : decode cX3_misfitAround 51 = .ok (.ireturn, 1) := by decide +kernel
theorem dX3_energy_0 : decode cX3_energy 0 = .ok (.iconst 0, 1) := by decide +kernel
theorem dX3_energy_1 : decode cX3_energy 1 = .ok (.istore_n 1, 1) := by decide +kernel
theorem dX3_energy_2 : decode cX3_energy 2 = .ok (.iconst 0, 1) := by decide +kernel
theorem dX3_energy_3 : decode cX3_energy 3 = .ok (.istore_n 2, 1) := by decide +kernel
theorem dX3_energy_4 : decode cX3_energy 4 = .ok (.iload_n 2, 1) := by decide +kernel
theorem dX3_energy_5 : decode cX3_energy 5 = .ok (.aload_n 0, 1) := by decide +kernel
theorem dX3_energy_6 : decode cX3_energy 6 = .ok (.getfield 28, 3) := by decide +kernel
theorem dX3_energy_9 : decode cX3_energy 9 = .ok (.invokevirtual 48, 3) := by decide +kernel
theorem dX3_energy_12 : decode cX3_energy 12 = .ok (.if_icmp .ge 17, 3) := by decide +kernel
theorem dX3_energy_15 : decode cX3_energy 15 = .ok (.iload_n 1, 1) := by decide +kernel
theorem dX3_energy_16 : decode cX3_energy 16 = .ok (.aload_n 0, 1) := by decide +kernel
theorem dX3_energy_17 : decode cX3_energy 17 = .ok (.iload_n 2, 1) := by decide +kernel
theorem dX3_energy_18 : decode cX3_energy 18 = .ok (.invokevirtual 83, 3) := by decide +kernel
theorem dX3_energy_21 : decode cX3_energy 21 = .ok (.iadd, 1) := by decide +kernel
theorem dX3_energy_22 : decode cX3_energy 22 = .ok (.istore_n 1, 1) := by decide +kernel
theorem dX3_energy_23 : decode cX3_energy 23 = .ok (.iinc 2 1, 3) := by decide +kernel
theorem dX3_energy_26 : decode cX3_energy 26 = .ok (.goto (-22), 3) := by decide +kernel
theorem dX3_energy_29 : decode cX3_energy 29 = .ok (.iload_n 1, 1) := by decide +kernel
theorem dX3_energy_30 : decode cX3_energy 30 = .ok (.iconst 2, 1) := by decide +kernel
theorem dX3_energy_31 : decode cX3_energy 31 = .ok (.idiv, 1) := by decide +kernel
theorem dX3_energy_32 : decode cX3_energy 32 = .ok (.iconst 2, 1) := by decide +kernel
theorem dX3_energy_33 : decode cX3_energy 33 = .ok (.aload_n 0, 1) := by decide +kernel
theorem dX3_energy_34 : decode cX3_energy 34 = .ok (.invokevirtual 86, 3) := by decide +kernel
theorem dX3_energy_37 : decode cX3_energy 37 = .ok (.imul, 1) := by decide +kernel
theorem dX3_energy_38 : decode cX3_energy 38 = .ok (.iadd, 1) := by decide +kernel
theorem dX3_energy_39 : decode cX3_energy 39 = .ok (.ireturn, 1) := by decide +kernel
theorem dX3_changeBy_0 : decode cX3_changeBy 0 = .ok (.aload_n 0, 1) := by decide +kernel
theorem dX3_changeBy_1 : decode cX3_changeBy 1 = .ok (.iload_n 1, 1) := by decide +kernel
theorem dX3_changeBy_2 : decode cX3_changeBy 2 = .ok (.invokevirtual 62, 3) := by decide +kernel
theorem dX3_changeBy_5 : decode cX3_changeBy 5 = .ok (.istore_n 3, 1) := by decide +kernel
theorem dX3_changeBy_6 : decode cX3_changeBy 6 = .ok (.aload_n 0, 1) := by decide +kernel
theorem dX3_changeBy_7 : decode cX3_changeBy 7 = .ok (.iload_n 2, 1) := by decide +kernel
theorem dX3_changeBy_8 : decode cX3_changeBy 8 = .ok (.invokevirtual 62, 3) := by decide +kernel
theorem dX3_changeBy_11 : decode cX3_changeBy 11 = .ok (.istore 4, 2) := by decide +kernel
theorem dX3_changeBy_13 : decode cX3_changeBy 13 = .ok (.iload_n 3, 1) := by decide +kernel
theorem dX3_changeBy_14 : decode cX3_changeBy 14 = .ok (.ifCond .eq 8, 3) := by decide +kernel
theorem dX3_changeBy_17 : decode cX3_changeBy 17 = .ok (.iload 4, 2) := by decide +kernel
theorem dX3_changeBy_19 : decode cX3_changeBy 19 = .ok (.ifCond .ne 5, 3) := by decide +kernel
theorem dX3_changeBy_22 : decode cX3_changeBy 22 = .ok (.iconst 0, 1) := by decide +kernel
theorem dX3_changeBy_23 : decode cX3_changeBy 23 = .ok (.ireturn, 1) := by decide +kernel
theorem dX3_changeBy_24 : decode cX3_changeBy 24 = .ok (.aload_n 0, 1) := by decide +kernel
theorem dX3_changeBy_25 : decode cX3_changeBy 25 = .ok (.iload_n 2, 1) := by decide +kernel
theorem dX3_changeBy_26 : decode cX3_changeBy 26 = .ok (.invokevirtual 68, 3) := by decide +kernel
theorem dX3_changeBy_29 : decode cX3_changeBy 29 = .ok (.ifCond .ne 14, 3) := by decide +kernel
theorem dX3_changeBy_32 : decode cX3_changeBy 32 = .ok (.bipush (-2), 2) := by decide +kernel
theorem dX3_changeBy_34 : decode cX3_changeBy 34 = .ok (.aload_n 0, 1) := by decide +kernel
theorem dX3_changeBy_35 : decode cX3_changeBy 35 = .ok (.iload_n 1, 1) := by decide +kernel
theorem dX3_changeBy_36 : decode cX3_changeBy 36 = .ok (.invokevirtual 68, 3) := by decide +kernel
theorem dX3_changeBy_39 : decode cX3_changeBy 39 = .ok (.imul, 1) := by decide +kernel
theorem dX3_changeBy_40 : decode cX3_changeBy 40 = .ok (.goto 4, 3) := by decide +kernel
theorem dX3_changeBy_43 : decode cX3_changeBy 43 = .ok (.iconst 0, 1) := by decide +kernel
theorem dX3_changeBy_44 : decode cX3_changeBy 44 = .ok (.istore 5, 2) := by decide +kernel
theorem dX3_changeBy_46 : decode cX3_changeBy 46 = .ok (.iconst 0, 1) := by decide +kernel
theorem dX3_changeBy_47 : decode cX3_changeBy 47 = .ok (.istore 6, 2) := by decide +kernel
theorem dX3_changeBy_49 : decode cX3_changeBy 49 = .ok (.iload 6, 2) := by decide +kernel
theorem dX3_changeBy_51 : decode cX3_changeBy 51 = .ok (.aload_n 0, 1) := by decide +kernel
theorem dX3_changeBy_52 : decode cX3_changeBy 52 = .ok (.getfield 28, 3) := by decide +kernel
theorem dX3_changeBy_55 : decode cX3_changeBy 55 = .ok (.iload_n 1, 1) := by decide +kernel
theorem dX3_changeBy_56 : decode cX3_changeBy 56 = .ok (.invokevirtual 71, 3) := by decide +kernel
theorem dX3_changeBy_59 : decode cX3_changeBy 59 = .ok (.if_icmp .ge 52, 3) := by decide +kernel
theorem dX3_changeBy_62 : decode cX3_changeBy 62 = .ok (.aload_n 0, 1) := by decide +kernel
theorem dX3_changeBy_63 : decode cX3_changeBy 63 = .ok (.aload_n 0, 1) := by decide +kernel
theorem dX3_changeBy_64 : decode cX3_changeBy 64 = .ok (.getfield 28, 3) := by decide +kernel
theorem dX3_changeBy_67 : decode cX3_changeBy 67 = .ok (.iload_n 1, 1) := by decide +kernel
theorem dX3_changeBy_68 : decode cX3_changeBy 68 = .ok (.iload 6, 2) := by decide +kernel
theorem dX3_changeBy_70 : decode cX3_changeBy 70 = .ok (.invokevirtual 74, 3) := by decide +kernel
theorem dX3_changeBy_73 : decode cX3_changeBy 73 = .ok (.invokevirtual 62, 3) := by decide +kernel
theorem dX3_changeBy_76 : decode cX3_changeBy 76 = .ok (.istore 7, 2) := by decide +kernel
theorem dX3_changeBy_78 : decode cX3_changeBy 78 = .ok (.iload 5, 2) := by decide +kernel
theorem dX3_changeBy_80 : decode cX3_changeBy 80 = .ok (.aload_n 0, 1) := by decide +kernel
theorem dX3_changeBy_81 : decode cX3_changeBy 81 = .ok (.getfield 32, 3) := by decide +kernel
theorem dX3_changeBy_84 : decode cX3_changeBy 84 = .ok (.iload 4, 2) := by decide +kernel
theorem dX3_changeBy_86 : decode cX3_changeBy 86 = .ok (.iload 7, 2) := by decide +kernel
theorem dX3_changeBy_88 : decode cX3_changeBy 88 = .ok (.invokevirtual 78, 3) := by decide +kernel
theorem dX3_changeBy_91 : decode cX3_changeBy 91 = .ok (.aload_n 0, 1) := by decide +kernel
theorem dX3_changeBy_92 : decode cX3_changeBy 92 = .ok (.getfield 32, 3) := by decide +kernel
theorem dX3_changeBy_95 : decode cX3_changeBy 95 = .ok (.iload_n 3, 1) := by decide +kernel
theorem dX3_changeBy_96 : decode cX3_changeBy 96 = .ok (.iload 7, 2) := by decide +kernel
theorem dX3_changeBy_98 : decode cX3_changeBy 98 = .ok (.invokevirtual 78, 3) := by decide +kernel
theorem dX3_changeBy_101 : decode cX3_changeBy 101 = .ok (.isub, 1) := by decide +kernel
theorem dX3_changeBy_102 : decode cX3_changeBy 102 = .ok (.iadd, 1) := by decide +kernel
theorem dX3_changeBy_103 : decode cX3_changeBy 103 = .ok (.istore 5, 2) := by decide +kernel
theorem dX3_changeBy_105 : decode cX3_changeBy 105 = .ok (.iinc 6 1, 3) := by decide +kernel
theorem dX3_changeBy_108 : decode cX3_changeBy 108 = .ok (.goto (-59), 3) := by decide +kernel
theorem dX3_changeBy_111 : decode cX3_changeBy 111 = .ok (.iload 5, 2) := by decide +kernel
theorem dX3_changeBy_113 : decode cX3_changeBy 113 = .ok (.ireturn, 1) := by decide +kernel
theorem dX3_sweepOften_0 : decode cX3_sweepOften 0 = .ok (.iconst 0, 1) := by decide +kernel
theorem dX3_sweepOften_1 : decode cX3_sweepOften 1 = .ok (.istore_n 3, 1) := by decide +kernel
theorem dX3_sweepOften_2 : decode cX3_sweepOften 2 = .ok (.iconst 0, 1) := by decide +kernel
theorem dX3_sweepOften_3 : decode cX3_sweepOften 3 = .ok (.istore 4, 2) := by decide +kernel
theorem dX3_sweepOften_5 : decode cX3_sweepOften 5 = .ok (.iload 4, 2) := by decide +kernel
theorem dX3_sweepOften_7 : decode cX3_sweepOften 7 = .ok (.iload_n 2, 1) := by decide +kernel
theorem dX3_sweepOften_8 : decode cX3_sweepOften 8 = .ok (.if_icmp .ge 61, 3) := by decide +kernel
theorem dX3_sweepOften_11 : decode cX3_sweepOften 11 = .ok (.iconst 0, 1) := by decide +kernel
theorem dX3_sweepOften_12 : decode cX3_sweepOften 12 = .ok (.istore 5, 2) := by decide +kernel
theorem dX3_sweepOften_14 : decode cX3_sweepOften 14 = .ok (.iload 5, 2) := by decide +kernel
theorem dX3_sweepOften_16 : decode cX3_sweepOften 16 = .ok (.aload_n 0, 1) := by decide +kernel
theorem dX3_sweepOften_17 : decode cX3_sweepOften 17 = .ok (.getfield 28, 3) := by decide +kernel
theorem dX3_sweepOften_20 : decode cX3_sweepOften 20 = .ok (.invokevirtual 48, 3) := by decide +kernel
theorem dX3_sweepOften_23 : decode cX3_sweepOften 23 = .ok (.if_icmp .ge 17, 3) := by decide +kernel
theorem dX3_sweepOften_26 : decode cX3_sweepOften 26 = .ok (.iload_n 3, 1) := by decide +kernel
theorem dX3_sweepOften_27 : decode cX3_sweepOften 27 = .ok (.aload_n 0, 1) := by decide +kernel
theorem dX3_sweepOften_28 : decode cX3_sweepOften 28 = .ok (.iload_n 1, 1) := by decide +kernel
theorem dX3_sweepOften_29 : decode cX3_sweepOften 29 = .ok (.invokevirtual 89, 3) := by decide +kernel
theorem dX3_sweepOften_32 : decode cX3_sweepOften 32 = .ok (.iadd, 1) := by decide +kernel
theorem dX3_sweepOften_33 : decode cX3_sweepOften 33 = .ok (.istore_n 3, 1) := by decide +kernel
theorem dX3_sweepOften_34 : decode cX3_sweepOften 34 = .ok (.iinc 5 1, 3) := by decide +kernel
theorem dX3_sweepOften_37 : decode cX3_sweepOften 37 = .ok (.goto (-23), 3) := by decide +kernel
theorem dX3_sweepOften_40 : decode cX3_sweepOften 40 = .ok (.iload_n 1, 1) := by decide +kernel
theorem dX3_sweepOften_41 : decode cX3_sweepOften 41 = .ok (.bipush 8, 2) := by decide +kernel
theorem dX3_sweepOften_43 : decode cX3_sweepOften 43 = .ok (.if_icmp .lt 7, 3) := by decide +kernel
theorem dX3_sweepOften_46 : decode cX3_sweepOften 46 = .ok (.aload_n 0, 1) := by decide +kernel
theorem dX3_sweepOften_47 : decode cX3_sweepOften 47 = .ok (.invokevirtual 92, 3) := by decide +kernel
theorem dX3_sweepOften_50 : decode cX3_sweepOften 50 = .ok (.iload_n 1, 1) := by decide +kernel
theorem dX3_sweepOften_51 : decode cX3_sweepOften 51 = .ok (.ifCond .le 12, 3) := by decide +kernel
theorem dX3_sweepOften_54 : decode cX3_sweepOften 54 = .ok (.iload_n 1, 1) := by decide +kernel
theorem dX3_sweepOften_55 : decode cX3_sweepOften 55 = .ok (.iconst 4, 1) := by decide +kernel
theorem dX3_sweepOften_56 : decode cX3_sweepOften 56 = .ok (.if_icmp .gt 7, 3) := by decide +kernel
theorem dX3_sweepOften_59 : decode cX3_sweepOften 59 = .ok (.aload_n 0, 1) := by decide +kernel
theorem dX3_sweepOften_60 : decode cX3_sweepOften 60 = .ok (.invokevirtual 95, 3) := by decide +kernel
theorem dX3_sweepOften_63 : decode cX3_sweepOften 63 = .ok (.iinc 4 1, 3) := by decide +kernel
theorem dX3_sweepOften_66 : decode cX3_sweepOften 66 = .ok (.goto (-61), 3) := by decide +kernel
theorem dX3_sweepOften_69 : decode cX3_sweepOften 69 = .ok (.iload_n 3, 1) := by decide +kernel
theorem dX3_sweepOften_70 : decode cX3_sweepOften 70 = .ok (.ireturn, 1) := by decide +kernel
theorem dX3_tryOne_0 : decode cX3_tryOne 0 = .ok (.aload_n 0, 1) := by decide +kernel
theorem dX3_tryOne_1 : decode cX3_tryOne 1 = .ok (.aload_n 0, 1) := by decide +kernel
theorem dX3_tryOne_2 : decode cX3_tryOne 2 = .ok (.getfield 28, 3) := by decide +kernel
theorem dX3_tryOne_5 : decode cX3_tryOne 5 = .ok (.invokevirtual 48, 3) := by decide +kernel
theorem dX3_tryOne_8 : decode cX3_tryOne 8 = .ok (.invokevirtual 54, 3) := by decide +kernel
theorem dX3_tryOne_11 : decode cX3_tryOne 11 = .ok (.istore_n 2, 1) := by decide +kernel
theorem dX3_tryOne_12 : decode cX3_tryOne 12 = .ok (.aload_n 0, 1) := by decide +kernel
theorem dX3_tryOne_13 : decode cX3_tryOne 13 = .ok (.getfield 28, 3) := by decide +kernel
theorem dX3_tryOne_16 : decode cX3_tryOne 16 = .ok (.iload_n 2, 1) := by decide +kernel
theorem dX3_tryOne_17 : decode cX3_tryOne 17 = .ok (.aload_n 0, 1) := by decide +kernel
theorem dX3_tryOne_18 : decode cX3_tryOne 18 = .ok (.aload_n 0, 1) := by decide +kernel
theorem dX3_tryOne_19 : decode cX3_tryOne 19 = .ok (.getfield 28, 3) := by decide +kernel
theorem dX3_tryOne_22 : decode cX3_tryOne 22 = .ok (.iload_n 2, 1) := by decide +kernel
theorem dX3_tryOne_23 : decode cX3_tryOne 23 = .ok (.invokevirtual 71, 3) := by decide +kernel
theorem dX3_tryOne_26 : decode cX3_tryOne 26 = .ok (.invokevirtual 54, 3) := by decide +kernel
theorem dX3_tryOne_29 : decode cX3_tryOne 29 = .ok (.invokevirtual 74, 3) := by decide +kernel
theorem dX3_tryOne_32 : decode cX3_tryOne 32 = .ok (.istore_n 3, 1) := by decide +kernel
theorem dX3_tryOne_33 : decode cX3_tryOne 33 = .ok (.aload_n 0, 1) := by decide +kernel
theorem dX3_tryOne_34 : decode cX3_tryOne 34 = .ok (.iload_n 3, 1) := by decide +kernel
theorem dX3_tryOne_35 : decode cX3_tryOne 35 = .ok (.invokevirtual 62, 3) := by decide +kernel
theorem dX3_tryOne_38 : decode cX3_tryOne 38 = .ok (.istore 4, 2) := by decide +kernel
theorem dX3_tryOne_40 : decode cX3_tryOne 40 = .ok (.iload 4, 2) := by decide +kernel
theorem dX3_tryOne_42 : decode cX3_tryOne 42 = .ok (.ifCond .eq 30, 3) := by decide +kernel
theorem dX3_tryOne_45 : decode cX3_tryOne 45 = .ok (.aload_n 0, 1) := by decide +kernel
theorem dX3_tryOne_46 : decode cX3_tryOne 46 = .ok (.iload_n 2, 1) := by decide +kernel
theorem dX3_tryOne_47 : decode cX3_tryOne 47 = .ok (.invokevirtual 62, 3) := by decide +kernel
theorem dX3_tryOne_50 : decode cX3_tryOne 50 = .ok (.ifCond .eq 22, 3) := by decide +kernel
theorem dX3_tryOne_53 : decode cX3_tryOne 53 = .ok (.iload 4, 2) := by decide +kernel
theorem dX3_tryOne_55 : decode cX3_tryOne 55 = .ok (.aload_n 0, 1) := by decide +kernel
theorem dX3_tryOne_56 : decode cX3_tryOne 56 = .ok (.iload_n 2, 1) := by decide +kernel
theorem dX3_tryOne_57 : decode cX3_tryOne 57 = .ok (.invokevirtual 62, 3) := by decide +kernel
theorem dX3_tryOne_60 : decode cX3_tryOne 60 = .ok (.if_icmp .eq 12, 3) := by decide +kernel
theorem dX3_tryOne_63 : decode cX3_tryOne 63 = .ok (.aload_n 0, 1) := by decide +kernel
theorem dX3_tryOne_64 : decode cX3_tryOne 64 = .ok (.iload_n 2, 1) := by decide +kernel
theorem dX3_tryOne_65 : decode cX3_tryOne 65 = .ok (.invokevirtual 65, 3) := by decide +kernel
theorem dX3_tryOne_68 : decode cX3_tryOne 68 = .ok (.iconst 1, 1) := by decide +kernel
theorem dX3_tryOne_69 : decode cX3_tryOne 69 = .ok (.if_icmp .ne 5, 3) := by decide +kernel
theorem dX3_tryOne_72 : decode cX3_tryOne 72 = .ok (.iconst 0, 1) := by decide +kernel
theorem dX3_tryOne_73 : decode cX3_tryOne 73 = .ok (.ireturn, 1) := by decide +kernel
theorem dX3_tryOne_74 : decode cX3_tryOne 74 = .ok (.aload_n 0, 1) := by decide +kernel
theorem dX3_tryOne_75 : decode cX3_tryOne 75 = .ok (.bipush 10, 2) := by decide +kernel
theorem dX3_tryOne_77 : decode cX3_tryOne 77 = .ok (.invokevirtual 54, 3) := by decide +kernel
theorem dX3_tryOne_80 : decode cX3_tryOne 80 = .ok (.istore 5, 2) := by decide +kernel
theorem dX3_tryOne_82 : decode cX3_tryOne 82 = .ok (.aload_n 0, 1) := by decide +kernel
theorem dX3_tryOne_83 : decode cX3_tryOne 83 = .ok (.iload_n 2, 1) := by decide +kernel
theorem dX3_tryOne_84 : decode cX3_tryOne 84 = .ok (.iload_n 3, 1) := by decide +kernel
theorem dX3_tryOne_85 : decode cX3_tryOne 85 = .ok (.invokevirtual 98, 3) := by decide +kernel
theorem dX3_tryOne_88 : decode cX3_tryOne 88 = .ok (.istore 6, 2) := by decide +kernel
theorem dX3_tryOne_90 : decode cX3_tryOne 90 = .ok (.iload 6, 2) := by decide +kernel
theorem dX3_tryOne_92 : decode cX3_tryOne 92 = .ok (.ifCond .le 17, 3) := by decide +kernel
theorem dX3_tryOne_95 : decode cX3_tryOne 95 = .ok (.bipush 10, 2) := by decide +kernel
theorem dX3_tryOne_97 : decode cX3_tryOne 97 = .ok (.iload 6, 2) := by decide +kernel
theorem dX3_tryOne_99 : decode cX3_tryOne 99 = .ok (.imul, 1) := by decide +kernel
theorem dX3_tryOne_100 : decode cX3_tryOne 100 = .ok (.iload_n 1, 1) := by decide +kernel
theorem dX3_tryOne_101 : decode cX3_tryOne 101 = .ok (.iload 5, 2) := by decide +kernel
theorem dX3_tryOne_103 : decode cX3_tryOne 103 = .ok (.imul, 1) := by decide +kernel
theorem dX3_tryOne_104 : decode cX3_tryOne 104 = .ok (.if_icmp .le 5, 3) := by decide +kernel
theorem dX3_tryOne_107 : decode cX3_tryOne 107 = .ok (.iconst 0, 1) := by decide +kernel
theorem dX3_tryOne_108 : decode cX3_tryOne 108 = .ok (.ireturn, 1) := by decide +kernel
theorem dX3_tryOne_109 : decode cX3_tryOne 109 = .ok (.aload_n 0, 1) := by decide +kernel
theorem dX3_tryOne_110 : decode cX3_tryOne 110 = .ok (.iload_n 2, 1) := by decide +kernel
theorem dX3_tryOne_111 : decode cX3_tryOne 111 = .ok (.iload 4, 2) := by decide +kernel
theorem dX3_tryOne_113 : decode cX3_tryOne 113 = .ok (.invokevirtual 58, 3) := by decide +kernel
theorem dX3_tryOne_116 : decode cX3_tryOne 116 = .ok (.aload_n 0, 1) := by decide +kernel
theorem dX3_tryOne_117 : decode cX3_tryOne 117 = .ok (.iload_n 3, 1) := by decide +kernel
theorem dX3_tryOne_118 : decode cX3_tryOne 118 = .ok (.invokevirtual 68, 3) := by decide +kernel
theorem dX3_tryOne_121 : decode cX3_tryOne 121 = .ok (.ifCond .ne 9, 3) := by decide +kernel
theorem dX3_tryOne_124 : decode cX3_tryOne 124 = .ok (.aload_n 0, 1) := by decide +kernel
theorem dX3_tryOne_125 : decode cX3_tryOne 125 = .ok (.iload_n 2, 1) := by decide +kernel
theorem dX3_tryOne_126 : decode cX3_tryOne 126 = .ok (.iconst 0, 1) := by decide +kernel
theorem dX3_tryOne_127 : decode cX3_tryOne 127 = .ok (.invokevirtual 101, 3) := by decide +kernel
theorem dX3_tryOne_130 : decode cX3_tryOne 130 = .ok (.iconst 1, 1) := by decide +kernel
theorem dX3_tryOne_131 : decode cX3_tryOne 131 = .ok (.ireturn, 1) := by decide +kernel
theorem dX3_meltOne_0 : decode cX3_meltOne 0 = .ok (.iconst 0, 1) := by decide +kernel
theorem dX3_meltOne_1 : decode cX3_meltOne 1 = .ok (.istore_n 1, 1) := by decide +kernel
theorem dX3_meltOne_2 : decode cX3_meltOne 2 = .ok (.iload_n 1, 1) := by decide +kernel
theorem dX3_meltOne_3 : decode cX3_meltOne 3 = .ok (.aload_n 0, 1) := by decide +kernel
theorem dX3_meltOne_4 : decode cX3_meltOne 4 = .ok (.getfield 28, 3) := by decide +kernel
theorem dX3_meltOne_7 : decode cX3_meltOne 7 = .ok (.invokevirtual 48, 3) := by decide +kernel
theorem dX3_meltOne_10 : decode cX3_meltOne 10 = .ok (.if_icmp .ge 44, 3) := by decide +kernel
theorem dX3_meltOne_13 : decode cX3_meltOne 13 = .ok (.aload_n 0, 1) := by decide +kernel
theorem dX3_meltOne_14 : decode cX3_meltOne 14 = .ok (.iload_n 1, 1) := by decide +kernel
theorem dX3_meltOne_15 : decode cX3_meltOne 15 = .ok (.invokevirtual 62, 3) := by decide +kernel
theorem dX3_meltOne_18 : decode cX3_meltOne 18 = .ok (.ifCond .ne 11, 3) := by decide +kernel
theorem dX3_meltOne_21 : decode cX3_meltOne 21 = .ok (.aload_n 0, 1) := by decide +kernel
theorem dX3_meltOne_22 : decode cX3_meltOne 22 = .ok (.iload_n 1, 1) := by decide +kernel
theorem dX3_meltOne_23 : decode cX3_meltOne 23 = .ok (.invokevirtual 104, 3) := by decide +kernel
theorem dX3_meltOne_26 : decode cX3_meltOne 26 = .ok (.goto 4, 3) := by decide +kernel
theorem dX3_meltOne_29 : decode cX3_meltOne 29 = .ok (.iconst 0, 1) := by decide +kernel
theorem dX3_meltOne_30 : decode cX3_meltOne 30 = .ok (.istore_n 2, 1) := by decide +kernel
theorem dX3_meltOne_31 : decode cX3_meltOne 31 = .ok (.iload_n 2, 1) := by decide +kernel
theorem dX3_meltOne_32 : decode cX3_meltOne 32 = .ok (.ifCond .eq 16, 3) := by decide +kernel
theorem dX3_meltOne_35 : decode cX3_meltOne 35 = .ok (.aload_n 0, 1) := by decide +kernel
theorem dX3_meltOne_36 : decode cX3_meltOne 36 = .ok (.iload_n 1, 1) := by decide +kernel
theorem dX3_meltOne_37 : decode cX3_meltOne 37 = .ok (.iload_n 2, 1) := by decide +kernel
theorem dX3_meltOne_38 : decode cX3_meltOne 38 = .ok (.invokevirtual 58, 3) := by decide +kernel
theorem dX3_meltOne_41 : decode cX3_meltOne 41 = .ok (.aload_n 0, 1) := by decide +kernel
theorem dX3_meltOne_42 : decode cX3_meltOne 42 = .ok (.iload_n 1, 1) := by decide +kernel
theorem dX3_meltOne_43 : decode cX3_meltOne 43 = .ok (.iconst 0, 1) := by decide +kernel
theorem dX3_meltOne_44 : decode cX3_meltOne 44 = .ok (.invokevirtual 101, 3) := by decide +kernel
theorem dX3_meltOne_47 : decode cX3_meltOne 47 = .ok (.return_, 1) := by decide +kernel
theorem dX3_meltOne_48 : decode cX3_meltOne 48 = .ok (.iinc 1 1, 3) := by decide +kernel
theorem dX3_meltOne_51 : decode cX3_meltOne 51 = .ok (.goto (-49), 3) := by decide +kernel
theorem dX3_meltOne_54 : decode cX3_meltOne 54 = .ok (.return_, 1) := by decide +kernel
theorem dX3_firstMarkBeside_0 : decode cX3_firstMarkBeside 0 = .ok (.iconst 0, 1) := by decide +kernel
theorem dX3_firstMarkBeside_1 : decode cX3_firstMarkBeside 1 = .ok (.istore_n 2, 1) := by decide +kernel
theorem dX3_firstMarkBeside_2 : decode cX3_firstMarkBeside 2 = .ok (.iload_n 2, 1) := by decide +kernel
theorem dX3_firstMarkBeside_3 : decode cX3_firstMarkBeside 3 = .ok (.aload_n 0, 1) := by decide +kernel
theorem dX3_firstMarkBeside_4 : decode cX3_firstMarkBeside 4 = .ok (.getfield 28, 3) := by decide +kernel
theorem dX3_firstMarkBeside_7 : decode cX3_firstMarkBeside 7 = .ok (.iload_n 1, 1) := by decide +kernel
theorem dX3_firstMarkBeside_8 : decode cX3_firstMarkBeside 8 = .ok (.invokevirtual 71, 3) := by decide +kernel
theorem dX3_firstMarkBeside_11 : decode cX3_firstMarkBeside 11 = .ok (.if_icmp .ge 29, 3) := by decide +kernel
theorem dX3_firstMarkBeside_14 : decode cX3_firstMarkBeside 14 = .ok (.aload_n 0, 1) := by decide +kernel
theorem dX3_firstMarkBeside_15 : decode cX3_firstMarkBeside 15 = .ok (.aload_n 0, 1) := by decide +kernel
theorem dX3_firstMarkBeside_16 : decode cX3_firstMarkBeside 16 = .ok (.getfield 28, 3) := by decide +kernel
theorem dX3_firstMarkBeside_19 : decode cX3_firstMarkBeside 19 = .ok (.iload_n 1, 1) := by decide +kernel
theorem dX3_firstMarkBeside_20 : decode cX3_firstMarkBeside 20 = .ok (.iload_n 2, 1) := by decide +kernel
theorem dX3_firstMarkBeside_21 : decode cX3_firstMarkBeside 21 = .ok (.invokevirtual 74, 3) := by decide +kernel
theorem dX3_firstMarkBeside_24 : decode cX3_firstMarkBeside 24 = .ok (.invokevirtual 62, 3) := by decide +kernel
theorem dX3_firstMarkBeside_27 : decode cX3_firstMarkBeside 27 = .ok (.istore_n 3, 1) := by decide +kernel
theorem dX3_firstMarkBeside_28 : decode cX3_firstMarkBeside 28 = .ok (.iload_n 3, 1) := by decide +kernel
theorem dX3_firstMarkBeside_29 : decode cX3_firstMarkBeside 29 = .ok (.ifCond .eq 5, 3) := by decide +kernel
theorem dX3_firstMarkBeside_32 : decode cX3_firstMarkBeside 32 = .ok (.iload_n 3, 1) := by decide +kernel
theorem dX3_firstMarkBeside_33 : decode cX3_firstMarkBeside 33 = .ok (.ireturn, 1) := by decide +kernel
theorem dX3_firstMarkBeside_34 : decode cX3_firstMarkBeside 34 = .ok (.iinc 2 1, 3) := by decide +kernel
theorem dX3_firstMarkBeside_37 : decode cX3_firstMarkBeside 37 = .ok (.goto (-35), 3) := by decide +kernel
theorem dX3_firstMarkBeside_40 : decode cX3_firstMarkBeside 40 = .ok (.iconst 0, 1) := by decide +kernel
theorem dX3_firstMarkBeside_41 : decode cX3_firstMarkBeside 41 = .ok (.ireturn, 1) := by decide +kernel
theorem dX3_easeAll_0 : decode cX3_easeAll 0 = .ok (.iconst 0, 1) := by decide +kernel
theorem dX3_easeAll_1 : decode cX3_easeAll 1 = .ok (.istore_n 1, 1) := by decide +kernel
theorem dX3_easeAll_2 : decode cX3_easeAll 2 = .ok (.iload_n 1, 1) := by decide +kernel
theorem dX3_easeAll_3 : decode cX3_easeAll 3 = .ok (.aload_n 0, 1) := by decide +kernel
theorem dX3_easeAll_4 : decode cX3_easeAll 4 = .ok (.getfield 28, 3) := by decide +kernel
theorem dX3_easeAll_7 : decode cX3_easeAll 7 = .ok (.invokevirtual 48, 3) := by decide +kernel
theorem dX3_easeAll_10 : decode cX3_easeAll 10 = .ok (.if_icmp .ge 25, 3) := by decide +kernel
theorem dX3_easeAll_13 : decode cX3_easeAll 13 = .ok (.aload_n 0, 1) := by decide +kernel
theorem dX3_easeAll_14 : decode cX3_easeAll 14 = .ok (.iload_n 1, 1) := by decide +kernel
theorem dX3_easeAll_15 : decode cX3_easeAll 15 = .ok (.iconst 0, 1) := by decide +kernel
theorem dX3_easeAll_16 : decode cX3_easeAll 16 = .ok (.aload_n 0, 1) := by decide +kernel
theorem dX3_easeAll_17 : decode cX3_easeAll 17 = .ok (.iload_n 1, 1) := by decide +kernel
theorem dX3_easeAll_18 : decode cX3_easeAll 18 = .ok (.invokevirtual 68, 3) := by decide +kernel
theorem dX3_easeAll_21 : decode cX3_easeAll 21 = .ok (.iconst 1, 1) := by decide +kernel
theorem dX3_easeAll_22 : decode cX3_easeAll 22 = .ok (.isub, 1) := by decide +kernel
theorem dX3_easeAll_23 : decode cX3_easeAll 23 = .ok (.invokestatic 107, 3) := by decide +kernel
theorem dX3_easeAll_26 : decode cX3_easeAll 26 = .ok (.invokevirtual 101, 3) := by decide +kernel
theorem dX3_easeAll_29 : decode cX3_easeAll 29 = .ok (.iinc 1 1, 3) := by decide +kernel
theorem dX3_easeAll_32 : decode cX3_easeAll 32 = .ok (.goto (-30), 3) := by decide +kernel
theorem dX3_easeAll_35 : decode cX3_easeAll 35 = .ok (.return_, 1) := by decide +kernel
theorem dX3_rollOnce_0 : decode cX3_rollOnce 0 = .ok (.iconst 0, 1) := by decide +kernel
theorem dX3_rollOnce_1 : decode cX3_rollOnce 1 = .ok (.istore_n 1, 1) := by decide +kernel
theorem dX3_rollOnce_2 : decode cX3_rollOnce 2 = .ok (.iload_n 1, 1) := by decide +kernel
theorem dX3_rollOnce_3 : decode cX3_rollOnce 3 = .ok (.aload_n 0, 1) := by decide +kernel
theorem dX3_rollOnce_4 : decode cX3_rollOnce 4 = .ok (.getfield 28, 3) := by decide +kernel
theorem dX3_rollOnce_7 : decode cX3_rollOnce 7 = .ok (.invokevirtual 48, 3) := by decide +kernel
theorem dX3_rollOnce_10 : decode cX3_rollOnce 10 = .ok (.if_icmp .ge 78, 3) := by decide +kernel
theorem dX3_rollOnce_13 : decode cX3_rollOnce 13 = .ok (.aload_n 0, 1) := by decide +kernel
theorem dX3_rollOnce_14 : decode cX3_rollOnce 14 = .ok (.iload_n 1, 1) := by decide +kernel
theorem dX3_rollOnce_15 : decode cX3_rollOnce 15 = .ok (.invokevirtual 62, 3) := by decide +kernel
theorem dX3_rollOnce_18 : decode cX3_rollOnce 18 = .ok (.istore_n 2, 1) := by decide +kernel
theorem dX3_rollOnce_19 : decode cX3_rollOnce 19 = .ok (.iload_n 2, 1) := by decide +kernel
theorem dX3_rollOnce_20 : decode cX3_rollOnce 20 = .ok (.ifCond .eq 62, 3) := by decide +kernel
theorem dX3_rollOnce_23 : decode cX3_rollOnce 23 = .ok (.aload_n 0, 1) := by decide +kernel
theorem dX3_rollOnce_24 : decode cX3_rollOnce 24 = .ok (.iload_n 1, 1) := by decide +kernel
theorem dX3_rollOnce_25 : decode cX3_rollOnce 25 = .ok (.invokevirtual 65, 3) := by decide +kernel
theorem dX3_rollOnce_28 : decode cX3_rollOnce 28 = .ok (.iconst 1, 1) := by decide +kernel
theorem dX3_rollOnce_29 : decode cX3_rollOnce 29 = .ok (.if_icmp .ne 6, 3) := by decide +kernel
theorem dX3_rollOnce_32 : decode cX3_rollOnce 32 = .ok (.goto 50, 3) := by decide +kernel
theorem dX3_rollOnce_35 : decode cX3_rollOnce 35 = .ok (.bipush 20, 2) := by decide +kernel
theorem dX3_rollOnce_37 : decode cX3_rollOnce 37 = .ok (.aload_n 0, 1) := by decide +kernel
theorem dX3_rollOnce_38 : decode cX3_rollOnce 38 = .ok (.iload_n 1, 1) := by decide +kernel
theorem dX3_rollOnce_39 : decode cX3_rollOnce 39 = .ok (.invokevirtual 68, 3) := by decide +kernel
theorem dX3_rollOnce_42 : decode cX3_rollOnce 42 = .ok (.iconst 1, 1) := by decide +kernel
theorem dX3_rollOnce_43 : decode cX3_rollOnce 43 = .ok (.iadd, 1) := by decide +kernel
theorem dX3_rollOnce_44 : decode cX3_rollOnce 44 = .ok (.iload_n 2, 1) := by decide +kernel
theorem dX3_rollOnce_45 : decode cX3_rollOnce 45 = .ok (.iconst 3, 1) := by decide +kernel
theorem dX3_rollOnce_46 : decode cX3_rollOnce 46 = .ok (.irem, 1) := by decide +kernel
theorem dX3_rollOnce_47 : decode cX3_rollOnce 47 = .ok (.iadd, 1) := by decide +kernel
theorem dX3_rollOnce_48 : decode cX3_rollOnce 48 = .ok (.invokestatic 112, 3) := by decide +kernel
theorem dX3_rollOnce_51 : decode cX3_rollOnce 51 = .ok (.istore_n 3, 1) := by decide +kernel
theorem dX3_rollOnce_52 : decode cX3_rollOnce 52 = .ok (.aload_n 0, 1) := by decide +kernel
theorem dX3_rollOnce_53 : decode cX3_rollOnce 53 = .ok (.iload_n 1, 1) := by decide +kernel
theorem dX3_rollOnce_54 : decode cX3_rollOnce 54 = .ok (.iload_n 3, 1) := by decide +kernel
theorem dX3_rollOnce_55 : decode cX3_rollOnce 55 = .ok (.invokevirtual 101, 3) := by decide +kernel
theorem dX3_rollOnce_58 : decode cX3_rollOnce 58 = .ok (.iload_n 3, 1) := by decide +kernel
theorem dX3_rollOnce_59 : decode cX3_rollOnce 59 = .ok (.bipush 10, 2) := by decide +kernel
theorem dX3_rollOnce_61 : decode cX3_rollOnce 61 = .ok (.if_icmp .le 21, 3) := by decide +kernel
theorem dX3_rollOnce_64 : decode cX3_rollOnce 64 = .ok (.aload_n 0, 1) := by decide +kernel
theorem dX3_rollOnce_65 : decode cX3_rollOnce 65 = .ok (.iload_n 1, 1) := by decide +kernel
theorem dX3_rollOnce_66 : decode cX3_rollOnce 66 = .ok (.iload_n 2, 1) := by decide +kernel
theorem dX3_rollOnce_67 : decode cX3_rollOnce 67 = .ok (.bipush 9, 2) := by decide +kernel
theorem dX3_rollOnce_69 : decode cX3_rollOnce 69 = .ok (.if_icmp .ne 7, 3) := by decide +kernel
theorem dX3_rollOnce_72 : decode cX3_rollOnce 72 = .ok (.iconst 1, 1) := by decide +kernel
theorem dX3_rollOnce_73 : decode cX3_rollOnce 73 = .ok (.goto 6, 3) := by decide +kernel
theorem dX3_rollOnce_76 : decode cX3_rollOnce 76 = .ok (.iload_n 2, 1) := by decide +kernel
theorem dX3_rollOnce_77 : decode cX3_rollOnce 77 = .ok (.iconst 1, 1) := by decide +kernel
theorem dX3_rollOnce_78 : decode cX3_rollOnce 78 = .ok (.iadd, 1) := by decide +kernel
theorem dX3_rollOnce_79 : decode cX3_rollOnce 79 = .ok (.invokevirtual 58, 3) := by decide +kernel
theorem dX3_rollOnce_82 : decode cX3_rollOnce 82 = .ok (.iinc 1 1, 3) := by decide +kernel
theorem dX3_rollOnce_85 : decode cX3_rollOnce 85 = .ok (.goto (-83), 3) := by decide +kernel
theorem dX3_rollOnce_88 : decode cX3_rollOnce 88 = .ok (.return_, 1) := by decide +kernel
theorem dX3_bear_0 : decode cX3_bear 0 = .ok (.iconst 0, 1) := by decide +kernel
theorem dX3_bear_1 : decode cX3_bear 1 = .ok (.istore_n 2, 1) := by decide +kernel
theorem dX3_bear_2 : decode cX3_bear 2 = .ok (.iconst 0, 1) := by decide +kernel
theorem dX3_bear_3 : decode cX3_bear 3 = .ok (.istore_n 3, 1) := by decide +kernel
theorem dX3_bear_4 : decode cX3_bear 4 = .ok (.iload_n 3, 1) := by decide +kernel
theorem dX3_bear_5 : decode cX3_bear 5 = .ok (.aload_n 0, 1) := by decide +kernel
theorem dX3_bear_6 : decode cX3_bear 6 = .ok (.getfield 28, 3) := by decide +kernel
theorem dX3_bear_9 : decode cX3_bear 9 = .ok (.invokevirtual 48, 3) := by decide +kernel
theorem dX3_bear_12 : decode cX3_bear 12 = .ok (.if_icmp .ge 40, 3) := by decide +kernel
theorem dX3_bear_15 : decode cX3_bear 15 = .ok (.aload_n 0, 1) := by decide +kernel
theorem dX3_bear_16 : decode cX3_bear 16 = .ok (.iload_n 3, 1) := by decide +kernel
theorem dX3_bear_17 : decode cX3_bear 17 = .ok (.iload_n 1, 1) := by decide +kernel
theorem dX3_bear_18 : decode cX3_bear 18 = .ok (.invokevirtual 115, 3) := by decide +kernel
theorem dX3_bear_21 : decode cX3_bear 21 = .ok (.ifCond .eq 25, 3) := by decide +kernel
theorem dX3_bear_24 : decode cX3_bear 24 = .ok (.aload_n 0, 1) := by decide +kernel
theorem dX3_bear_25 : decode cX3_bear 25 = .ok (.iload_n 3, 1) := by decide +kernel
theorem dX3_bear_26 : decode cX3_bear 26 = .ok (.iconst 1, 1) := by decide +kernel
theorem dX3_bear_27 : decode cX3_bear 27 = .ok (.aload_n 0, 1) := by decide +kernel
theorem dX3_bear_28 : decode cX3_bear 28 = .ok (.bipush 9, 2) := by decide +kernel
theorem dX3_bear_30 : decode cX3_bear 30 = .ok (.invokevirtual 54, 3) := by decide +kernel
theorem dX3_bear_33 : decode cX3_bear 33 = .ok (.iadd, 1) := by decide +kernel
theorem dX3_bear_34 : decode cX3_bear 34 = .ok (.invokevirtual 58, 3) := by decide +kernel
theorem dX3_bear_37 : decode cX3_bear 37 = .ok (.aload_n 0, 1) := by decide +kernel
theorem dX3_bear_38 : decode cX3_bear 38 = .ok (.iload_n 3, 1) := by decide +kernel
theorem dX3_bear_39 : decode cX3_bear 39 = .ok (.iconst 0, 1) := by decide +kernel
theorem dX3_bear_40 : decode cX3_bear 40 = .ok (.invokevirtual 101, 3) := by decide +kernel
theorem dX3_bear_43 : decode cX3_bear 43 = .ok (.iinc 2 1, 3) := by decide +kernel
theorem dX3_bear_46 : decode cX3_bear 46 = .ok (.iinc 3 1, 3) := by decide +kernel
theorem dX3_bear_49 : decode cX3_bear 49 = .ok (.goto (-45), 3) := by decide +kernel
theorem dX3_bear_52 : decode cX3_bear 52 = .ok (.iload_n 2, 1) := by decide +kernel
theorem dX3_bear_53 : decode cX3_bear 53 = .ok (.ireturn, 1) := by decide +kernel
theorem dX3_isBearing_0 : decode cX3_isBearing 0 = .ok (.aload_n 0, 1) := by decide +kernel
theorem dX3_isBearing_1 : decode cX3_isBearing 1 = .ok (.iload_n 1, 1) := by decide +kernel
theorem dX3_isBearing_2 : decode cX3_isBearing 2 = .ok (.invokevirtual 62, 3) := by decide +kernel
theorem dX3_isBearing_5 : decode cX3_isBearing 5 = .ok (.istore_n 3, 1) := by decide +kernel
theorem dX3_isBearing_6 : decode cX3_isBearing 6 = .ok (.iload_n 3, 1) := by decide +kernel
theorem dX3_isBearing_7 : decode cX3_isBearing 7 = .ok (.ifCond .eq 21, 3) := by decide +kernel
theorem dX3_isBearing_10 : decode cX3_isBearing 10 = .ok (.aload_n 0, 1) := by decide +kernel
theorem dX3_isBearing_11 : decode cX3_isBearing 11 = .ok (.iload_n 1, 1) := by decide +kernel
theorem dX3_isBearing_12 : decode cX3_isBearing 12 = .ok (.invokevirtual 65, 3) := by decide +kernel
theorem dX3_isBearing_15 : decode cX3_isBearing 15 = .ok (.iconst 1, 1) := by decide +kernel
theorem dX3_isBearing_16 : decode cX3_isBearing 16 = .ok (.if_icmp .eq 12, 3) := by decide +kernel
theorem dX3_isBearing_19 : decode cX3_isBearing 19 = .ok (.aload_n 0, 1) := by decide +kernel
theorem dX3_isBearing_20 : decode cX3_isBearing 20 = .ok (.iload_n 1, 1) := by decide +kernel
theorem dX3_isBearing_21 : decode cX3_isBearing 21 = .ok (.invokevirtual 68, 3) := by decide +kernel
theorem dX3_isBearing_24 : decode cX3_isBearing 24 = .ok (.iload_n 2, 1) := by decide +kernel
theorem dX3_isBearing_25 : decode cX3_isBearing 25 = .ok (.if_icmp .ge 5, 3) := by decide +kernel
theorem dX3_isBearing_28 : decode cX3_isBearing 28 = .ok (.iconst 0, 1) := by decide +kernel
theorem dX3_isBearing_29 : decode cX3_isBearing 29 = .ok (.ireturn, 1) := by decide +kernel
theorem dX3_isBearing_30 : decode cX3_isBearing 30 = .ok (.iconst 0, 1) := by decide +kernel
theorem dX3_isBearing_31 : decode cX3_isBearing 31 = .ok (.istore 4, 2) := by decide +kernel
theorem dX3_isBearing_33 : decode cX3_isBearing 33 = .ok (.iconst 0, 1) := by decide +kernel
theorem dX3_isBearing_34 : decode cX3_isBearing 34 = .ok (.istore 5, 2) := by decide +kernel
theorem dX3_isBearing_36 : decode cX3_isBearing 36 = .ok (.iload 5, 2) := by decide +kernel
theorem dX3_isBearing_38 : decode cX3_isBearing 38 = .ok (.aload_n 0, 1) := by decide +kernel
theorem dX3_isBearing_39 : decode cX3_isBearing 39 = .ok (.getfield 28, 3) := by decide +kernel
theorem dX3_isBearing_42 : decode cX3_isBearing 42 = .ok (.iload_n 1, 1) := by decide +kernel
theorem dX3_isBearing_43 : decode cX3_isBearing 43 = .ok (.invokevirtual 71, 3) := by decide +kernel
theorem dX3_isBearing_46 : decode cX3_isBearing 46 = .ok (.if_icmp .ge 30, 3) := by decide +kernel
theorem dX3_isBearing_49 : decode cX3_isBearing 49 = .ok (.aload_n 0, 1) := by decide +kernel
theorem dX3_isBearing_50 : decode cX3_isBearing 50 = .ok (.aload_n 0, 1) := by decide +kernel
theorem dX3_isBearing_51 : decode cX3_isBearing 51 = .ok (.getfield 28, 3) := by decide +kernel
theorem dX3_isBearing_54 : decode cX3_isBearing 54 = .ok (.iload_n 1, 1) := by decide +kernel
theorem dX3_isBearing_55 : decode cX3_isBearing 55 = .ok (.iload 5, 2) := by decide +kernel
theorem dX3_isBearing_57 : decode cX3_isBearing 57 = .ok (.invokevirtual 74, 3) := by decide +kernel
theorem dX3_isBearing_60 : decode cX3_isBearing 60 = .ok (.invokevirtual 62, 3) := by decide +kernel
theorem dX3_isBearing_63 : decode cX3_isBearing 63 = .ok (.iload_n 3, 1) := by decide +kernel
theorem dX3_isBearing_64 : decode cX3_isBearing 64 = .ok (.if_icmp .eq 6, 3) := by decide +kernel
theorem dX3_isBearing_67 : decode cX3_isBearing 67 = .ok (.iinc 4 1, 3) := by decide +kernel
theorem dX3_isBearing_70 : decode cX3_isBearing 70 = .ok (.iinc 5 1, 3) := by decide +kernel
theorem dX3_isBearing_73 : decode cX3_isBearing 73 = .ok (.goto (-37), 3) := by decide +kernel
theorem dX3_isBearing_76 : decode cX3_isBearing 76 = .ok (.iload 4, 2) := by decide +kernel
theorem dX3_isBearing_78 : decode cX3_isBearing 78 = .ok (.iconst 2, 1) := by decide +kernel
theorem dX3_isBearing_79 : decode cX3_isBearing 79 = .ok (.if_icmp .lt 7, 3) := by decide +kernel
theorem dX3_isBearing_82 : decode cX3_isBearing 82 = .ok (.iconst 1, 1) := by decide +kernel
theorem dX3_isBearing_83 : decode cX3_isBearing 83 = .ok (.goto 4, 3) := by decide +kernel
theorem dX3_isBearing_86 : decode cX3_isBearing 86 = .ok (.iconst 0, 1) := by decide +kernel
theorem dX3_isBearing_87 : decode cX3_isBearing 87 = .ok (.ireturn, 1) := by decide +kernel
theorem dX3_coolDown_0 : decode cX3_coolDown 0 = .ok (.iconst 0, 1) := by decide +kernel
theorem dX3_coolDown_1 : decode cX3_coolDown 1 = .ok (.istore 4, 2) := by decide +kernel
theorem dX3_coolDown_3 : decode cX3_coolDown 3 = .ok (.iconst 0, 1) := by decide +kernel
theorem dX3_coolDown_4 : decode cX3_coolDown 4 = .ok (.istore 5, 2) := by decide +kernel
theorem dX3_coolDown_6 : decode cX3_coolDown 6 = .ok (.iload_n 1, 1) := by decide +kernel
theorem dX3_coolDown_7 : decode cX3_coolDown 7 = .ok (.istore 6, 2) := by decide +kernel
theorem dX3_coolDown_9 : decode cX3_coolDown 9 = .ok (.iload 6, 2) := by decide +kernel
theorem dX3_coolDown_11 : decode cX3_coolDown 11 = .ok (.iload_n 2, 1) := by decide +kernel
theorem dX3_coolDown_12 : decode cX3_coolDown 12 = .ok (.if_icmp .lt 68, 3) := by decide +kernel
theorem dX3_coolDown_15 : decode cX3_coolDown 15 = .ok (.aload_n 0, 1) := by decide +kernel
theorem dX3_coolDown_16 : decode cX3_coolDown 16 = .ok (.getfield 32, 3) := by decide +kernel
theorem dX3_coolDown_19 : decode cX3_coolDown 19 = .ok (.iload 6, 2) := by decide +kernel
theorem dX3_coolDown_21 : decode cX3_coolDown 21 = .ok (.invokevirtual 119, 3) := by decide +kernel
theorem dX3_coolDown_24 : decode cX3_coolDown 24 = .ok (.istore 7, 2) := by decide +kernel
theorem dX3_coolDown_26 : decode cX3_coolDown 26 = .ok (.iconst 0, 1) := by decide +kernel
theorem dX3_coolDown_27 : decode cX3_coolDown 27 = .ok (.istore 8, 2) := by decide +kernel
theorem dX3_coolDown_29 : decode cX3_coolDown 29 = .ok (.iload 8, 2) := by decide +kernel
theorem dX3_coolDown_31 : decode cX3_coolDown 31 = .ok (.iload_n 3, 1) := by decide +kernel
theorem dX3_coolDown_32 : decode cX3_coolDown 32 = .ok (.if_icmp .ge 42, 3) := by decide +kernel
theorem dX3_coolDown_35 : decode cX3_coolDown 35 = .ok (.iload 5, 2) := by decide +kernel
theorem dX3_coolDown_37 : decode cX3_coolDown 37 = .ok (.iload 7, 2) := by decide +kernel
theorem dX3_coolDown_39 : decode cX3_coolDown 39 = .ok (.iadd, 1) := by decide +kernel
theorem dX3_coolDown_40 : decode cX3_coolDown 40 = .ok (.istore 5, 2) := by decide +kernel
theorem dX3_coolDown_42 : decode cX3_coolDown 42 = .ok (.iload 5, 2) := by decide +kernel
theorem dX3_coolDown_44 : decode cX3_coolDown 44 = .ok (.sipush 1000, 3) := by decide +kernel
theorem dX3_coolDown_47 : decode cX3_coolDown 47 = .ok (.if_icmp .lt 21, 3) := by decide +kernel
theorem dX3_coolDown_50 : decode cX3_coolDown 50 = .ok (.iload 4, 2) := by decide +kernel
theorem dX3_coolDown_52 : decode cX3_coolDown 52 = .ok (.aload_n 0, 1) := by decide +kernel
theorem dX3_coolDown_53 : decode cX3_coolDown 53 = .ok (.invokevirtual 122, 3) := by decide +kernel
theorem dX3_coolDown_56 : decode cX3_coolDown 56 = .ok (.iadd, 1) := by decide +kernel
theorem dX3_coolDown_57 : decode cX3_coolDown 57 = .ok (.istore 4, 2) := by decide +kernel
theorem dX3_coolDown_59 : decode cX3_coolDown 59 = .ok (.iinc 5 (-1000), 6) := by decide +kernel
theorem dX3_coolDown_65 : decode cX3_coolDown 65 = .ok (.goto (-23), 3) := by decide +kernel
theorem dX3_coolDown_68 : decode cX3_coolDown 68 = .ok (.iinc 8 1, 3) := by decide +kernel
theorem dX3_coolDown_71 : decode cX3_coolDown 71 = .ok (.goto (-42), 3) := by decide +kernel
theorem dX3_coolDown_74 : decode cX3_coolDown 74 = .ok (.iinc 6 (-1), 3) := by decide +kernel
theorem dX3_coolDown_77 : decode cX3_coolDown 77 = .ok (.goto (-68), 3) := by decide +kernel
theorem dX3_coolDown_80 : decode cX3_coolDown 80 = .ok (.iload 4, 2) := by decide +kernel
theorem dX3_coolDown_82 : decode cX3_coolDown 82 = .ok (.ireturn, 1) := by decide +kernel
theorem dX3_hardenOne_0 : decode cX3_hardenOne 0 = .ok (.iconst (-1), 1) := by decide +kernel
theorem dX3_hardenOne_1 : decode cX3_hardenOne 1 = .ok (.istore_n 1, 1) := by decide +kernel
theorem dX3_hardenOne_2 : decode cX3_hardenOne 2 = .ok (.iconst 0, 1) := by decide +kernel
theorem dX3_hardenOne_3 : decode cX3_hardenOne 3 = .ok (.istore_n 2, 1) := by decide +kernel
theorem dX3_hardenOne_4 : decode cX3_hardenOne 4 = .ok (.iload_n 2, 1) := by decide +kernel
theorem dX3_hardenOne_5 : decode cX3_hardenOne 5 = .ok (.aload_n 0, 1) := by decide +kernel
theorem dX3_hardenOne_6 : decode cX3_hardenOne 6 = .ok (.getfield 28, 3) := by decide +kernel
theorem dX3_hardenOne_9 : decode cX3_hardenOne 9 = .ok (.invokevirtual 48, 3) := by decide +kernel
theorem dX3_hardenOne_12 : decode cX3_hardenOne 12 = .ok (.if_icmp .ge 55, 3) := by decide +kernel
theorem dX3_hardenOne_15 : decode cX3_hardenOne 15 = .ok (.aload_n 0, 1) := by decide +kernel
theorem dX3_hardenOne_16 : decode cX3_hardenOne 16 = .ok (.iload_n 2, 1) := by decide +kernel
theorem dX3_hardenOne_17 : decode cX3_hardenOne 17 = .ok (.invokevirtual 62, 3) := by decide +kernel
theorem dX3_hardenOne_20 : decode cX3_hardenOne 20 = .ok (.ifCond .eq 15, 3) := by decide +kernel
theorem dX3_hardenOne_23 : decode cX3_hardenOne 23 = .ok (.aload_n 0, 1) := by decide +kernel
theorem dX3_hardenOne_24 : decode cX3_hardenOne 24 = .ok (.iload_n 2, 1) := by decide +kernel
theorem dX3_hardenOne_25 : decode cX3_hardenOne 25 = .ok (.invokevirtual 65, 3) := by decide +kernel
theorem dX3_hardenOne_28 : decode cX3_hardenOne 28 = .ok (.ifCond .ne 7, 3) := by decide +kernel
theorem dX3_hardenOne_31 : decode cX3_hardenOne 31 = .ok (.iconst 1, 1) := by decide +kernel
theorem dX3_hardenOne_32 : decode cX3_hardenOne 32 = .ok (.goto 4, 3) := by decide +kernel
theorem dX3_hardenOne_35 : decode cX3_hardenOne 35 = .ok (.iconst 0, 1) := by decide +kernel
theorem dX3_hardenOne_36 : decode cX3_hardenOne 36 = .ok (.istore_n 3, 1) := by decide +kernel
theorem dX3_hardenOne_37 : decode cX3_hardenOne 37 = .ok (.iload_n 3, 1) := by decide +kernel
theorem dX3_hardenOne_38 : decode cX3_hardenOne 38 = .ok (.ifCond .eq 23, 3) := by decide +kernel
theorem dX3_hardenOne_41 : decode cX3_hardenOne 41 = .ok (.iload_n 1, 1) := by decide +kernel
theorem dX3_hardenOne_42 : decode cX3_hardenOne 42 = .ok (.iconst (-1), 1) := by decide +kernel
theorem dX3_hardenOne_43 : decode cX3_hardenOne 43 = .ok (.if_icmp .eq 16, 3) := by decide +kernel
theorem dX3_hardenOne_46 : decode cX3_hardenOne 46 = .ok (.aload_n 0, 1) := by decide +kernel
theorem dX3_hardenOne_47 : decode cX3_hardenOne 47 = .ok (.iload_n 2, 1) := by decide +kernel
theorem dX3_hardenOne_48 : decode cX3_hardenOne 48 = .ok (.invokevirtual 68, 3) := by decide +kernel
theorem dX3_hardenOne_51 : decode cX3_hardenOne 51 = .ok (.aload_n 0, 1) := by decide +kernel
theorem dX3_hardenOne_52 : decode cX3_hardenOne 52 = .ok (.iload_n 1, 1) := by decide +kernel
theorem dX3_hardenOne_53 : decode cX3_hardenOne 53 = .ok (.invokevirtual 68, 3) := by decide +kernel
theorem dX3_hardenOne_56 : decode cX3_hardenOne 56 = .ok (.if_icmp .le 5, 3) := by decide +kernel
theorem dX3_hardenOne_59 : decode cX3_hardenOne 59 = .ok (.iload_n 2, 1) := by decide +kernel
theorem dX3_hardenOne_60 : decode cX3_hardenOne 60 = .ok (.istore_n 1, 1) := by decide +kernel
theorem dX3_hardenOne_61 : decode cX3_hardenOne 61 = .ok (.iinc 2 1, 3) := by decide +kernel
theorem dX3_hardenOne_64 : decode cX3_hardenOne 64 = .ok (.goto (-60), 3) := by decide +kernel
theorem dX3_hardenOne_67 : decode cX3_hardenOne 67 = .ok (.aload_n 0, 1) := by decide +kernel
theorem dX3_hardenOne_68 : decode cX3_hardenOne 68 = .ok (.iload_n 1, 1) := by decide +kernel
theorem dX3_hardenOne_69 : decode cX3_hardenOne 69 = .ok (.iconst 1, 1) := by decide +kernel
theorem dX3_hardenOne_70 : decode cX3_hardenOne 70 = .ok (.invokevirtual 131, 3) := by decide +kernel
theorem dX3_hardenOne_73 : decode cX3_hardenOne 73 = .ok (.iload_n 1, 1) := by decide +kernel
theorem dX3_hardenOne_74 : decode cX3_hardenOne 74 = .ok (.iconst (-1), 1) := by decide +kernel
theorem dX3_hardenOne_75 : decode cX3_hardenOne 75 = .ok (.if_icmp .ne 7, 3) := by decide +kernel
theorem dX3_hardenOne_78 : decode cX3_hardenOne 78 = .ok (.iconst 0, 1) := by decide +kernel
theorem dX3_hardenOne_79 : decode cX3_hardenOne 79 = .ok (.goto 4, 3) := by decide +kernel
theorem dX3_hardenOne_82 : decode cX3_hardenOne 82 = .ok (.iconst 1, 1) := by decide +kernel
theorem dX3_hardenOne_83 : decode cX3_hardenOne 83 = .ok (.ireturn, 1) := by decide +kernel
theorem dX3_loosenAll_0 : decode cX3_loosenAll 0 = .ok (.aload_n 0, 1) := by decide +kernel
theorem dX3_loosenAll_1 : decode cX3_loosenAll 1 = .ok (.invokevirtual 128, 3) := by decide +kernel
theorem dX3_loosenAll_4 : decode cX3_loosenAll 4 = .ok (.istore_n 1, 1) := by decide +kernel
theorem dX3_loosenAll_5 : decode cX3_loosenAll 5 = .ok (.aload_n 0, 1) := by decide +kernel
theorem dX3_loosenAll_6 : decode cX3_loosenAll 6 = .ok (.getfield 18, 3) := by decide +kernel
theorem dX3_loosenAll_9 : decode cX3_loosenAll 9 = .ok (.iconst 0, 1) := by decide +kernel
theorem dX3_loosenAll_10 : decode cX3_loosenAll 10 = .ok (.invokestatic 42, 3) := by decide +kernel
theorem dX3_loosenAll_13 : decode cX3_loosenAll 13 = .ok (.iload_n 1, 1) := by decide +kernel
theorem dX3_loosenAll_14 : decode cX3_loosenAll 14 = .ok (.ireturn, 1) := by decide +kernel
theorem dX3_doStep_0 : decode cX3_doStep 0 = .ok (.iload_n 1, 1) := by decide +kernel
theorem dX3_doStep_1 : decode cX3_doStep 1 = .ok (.tableswitch 84 0 4 #[35, 45, 56, 67, 74], 35) := by decide +kernel
theorem dX3_doStep_36 : decode cX3_doStep 36 = .ok (.aload_n 0, 1) := by decide +kernel
theorem dX3_doStep_37 : decode cX3_doStep 37 = .ok (.iconst 2, 1) := by decide +kernel
theorem dX3_doStep_38 : decode cX3_doStep 38 = .ok (.iconst 2, 1) := by decide +kernel
theorem dX3_doStep_39 : decode cX3_doStep 39 = .ok (.invokevirtual 134, 3) := by decide +kernel
theorem dX3_doStep_42 : decode cX3_doStep 42 = .ok (.pop, 1) := by decide +kernel
theorem dX3_doStep_43 : decode cX3_doStep 43 = .ok (.goto 42, 3) := by decide +kernel
theorem dX3_doStep_46 : decode cX3_doStep 46 = .ok (.aload_n 0, 1) := by decide +kernel
theorem dX3_doStep_47 : decode cX3_doStep 47 = .ok (.bipush 6, 2) := by decide +kernel
theorem dX3_doStep_49 : decode cX3_doStep 49 = .ok (.iconst 2, 1) := by decide +kernel
theorem dX3_doStep_50 : decode cX3_doStep 50 = .ok (.invokevirtual 134, 3) := by decide +kernel
theorem dX3_doStep_53 : decode cX3_doStep 53 = .ok (.pop, 1) := by decide +kernel
theorem dX3_doStep_54 : decode cX3_doStep 54 = .ok (.goto 31, 3) := by decide +kernel
theorem dX3_doStep_57 : decode cX3_doStep 57 = .ok (.aload_n 0, 1) := by decide +kernel
theorem dX3_doStep_58 : decode cX3_doStep 58 = .ok (.bipush 9, 2) := by decide +kernel
theorem dX3_doStep_60 : decode cX3_doStep 60 = .ok (.iconst 1, 1) := by decide +kernel
theorem dX3_doStep_61 : decode cX3_doStep 61 = .ok (.invokevirtual 134, 3) := by decide +kernel
theorem dX3_doStep_64 : decode cX3_doStep 64 = .ok (.pop, 1) := by decide +kernel
theorem dX3_doStep_65 : decode cX3_doStep 65 = .ok (.goto 20, 3) := by decide +kernel
theorem dX3_doStep_68 : decode cX3_doStep 68 = .ok (.aload_n 0, 1) := by decide +kernel
theorem dX3_doStep_69 : decode cX3_doStep 69 = .ok (.invokevirtual 137, 3) := by decide +kernel
theorem dX3_doStep_72 : decode cX3_doStep 72 = .ok (.goto 13, 3) := by decide +kernel
theorem dX3_doStep_75 : decode cX3_doStep 75 = .ok (.aload_n 0, 1) := by decide +kernel
theorem dX3_doStep_76 : decode cX3_doStep 76 = .ok (.bipush 6, 2) := by decide +kernel
theorem dX3_doStep_78 : decode cX3_doStep 78 = .ok (.invokevirtual 140, 3) := by decide +kernel
theorem dX3_doStep_81 : decode cX3_doStep 81 = .ok (.pop, 1) := by decide +kernel
theorem dX3_doStep_82 : decode cX3_doStep 82 = .ok (.goto 3, 3) := by decide +kernel
theorem dX3_doStep_85 : decode cX3_doStep 85 = .ok (.return_, 1) := by decide +kernel
theorem dX4_init_0 : decode cX4_init 0 = .ok (.aload_n 0, 1) := by decide +kernel
theorem dX4_init_1 : decode cX4_init 1 = .ok (.invokespecial 3, 3) := by decide +kernel
theorem dX4_init_4 : decode cX4_init 4 = .ok (.aload_n 0, 1) := by decide +kernel
theorem dX4_init_5 : decode cX4_init 5 = .ok (.bipush 100, 2) := by decide +kernel
theorem dX4_init_7 : decode cX4_init 7 = .ok (.newarray .int, 2) := by decide +kernel
theorem dX4_init_9 : decode cX4_init 9 = .ok (.putfield 9, 3) := by decide +kernel
theorem dX4_init_12 : decode cX4_init 12 = .ok (.aload_n 0, 1) := by decide +kernel
theorem dX4_init_13 : decode cX4_init 13 = .ok (.bipush 10, 2) := by decide +kernel
theorem dX4_init_15 : decode cX4_init 15 = .ok (.newarray .int, 2) := by decide +kernel
theorem dX4_init_17 : decode cX4_init 17 = .ok (.putfield 15, 3) := by decide +kernel
theorem dX4_init_20 : decode cX4_init 20 = .ok (.aload_n 0, 1) := by decide +kernel
theorem dX4_init_21 : decode cX4_init 21 = .ok (.iconst 1, 1) := by decide +kernel
theorem dX4_init_22 : decode cX4_init 22 = .ok (.putfield 18, 3) := by decide +kernel
theorem dX4_init_25 : decode cX4_init 25 = .ok (.aload_n 0, 1) := by decide +kernel
theorem dX4_init_26 : decode cX4_init 26 = .ok (.getfield 15, 3) := by decide +kernel
theorem dX4_init_29 : decode cX4_init 29 = .ok (.bipush 50, 2) := by decide +kernel
theorem dX4_init_31 : decode cX4_init 31 = .ok (.invokestatic 22, 3) := by decide +kernel
theorem dX4_init_34 : decode cX4_init 34 = .ok (.aload_n 0, 1) := by decide +kernel
theorem dX4_init_35 : decode cX4_init 35 = .ok (.getfield 9, 3) := by decide +kernel
theorem dX4_init_38 : decode cX4_init 38 = .ok (.iconst 1, 1) := by decide +kernel
theorem dX4_init_39 : decode cX4_init 39 = .ok (.invokestatic 22, 3) := by decide +kernel
theorem dX4_init_42 : decode cX4_init 42 = .ok (.iconst 0, 1) := by decide +kernel
theorem dX4_init_43 : decode cX4_init 43 = .ok (.istore_n 1, 1) := by decide +kernel
theorem dX4_init_44 : decode cX4_init 44 = .ok (.iload_n 1, 1) := by decide +kernel
theorem dX4_init_45 : decode cX4_init 45 = .ok (.bipush 9, 2) := by decide +kernel
theorem dX4_init_47 : decode cX4_init 47 = .ok (.if_icmp .gt 23, 3) := by decide +kernel
theorem dX4_init_50 : decode cX4_init 50 = .ok (.aload_n 0, 1) := by decide +kernel
theorem dX4_init_51 : decode cX4_init 51 = .ok (.iload_n 1, 1) := by decide +kernel
theorem dX4_init_52 : decode cX4_init 52 = .ok (.iload_n 1, 1) := by decide +kernel
theorem dX4_init_53 : decode cX4_init 53 = .ok (.iconst 0, 1) := by decide +kernel
theorem dX4_init_54 : decode cX4_init 54 = .ok (.invokevirtual 28, 3) := by decide +kernel
theorem dX4_init_57 : decode cX4_init 57 = .ok (.aload_n 0, 1) := by decide +kernel
theorem dX4_init_58 : decode cX4_init 58 = .ok (.iload_n 1, 1) := by decide +kernel
theorem dX4_init_59 : decode cX4_init 59 = .ok (.iconst 0, 1) := by decide +kernel
theorem dX4_init_60 : decode cX4_init 60 = .ok (.iconst 0, 1) := by decide +kernel
theorem dX4_init_61 : decode cX4_init 61 = .ok (.invokevirtual 28, 3) := by decide +kernel
theorem dX4_init_64 : decode cX4_init 64 = .ok (.iinc 1 1, 3) := by decide +kernel
theorem dX4_init_67 : decode cX4_init 67 = .ok (.goto (-23), 3) := by decide +kernel
theorem dX4_init_70 : decode cX4_init 70 = .ok (.return_, 1) := by decide +kernel
theorem dX4_misfitOf_0 : decode cX4_misfitOf 0 = .ok (.iload_n 1, 1) := by decide +kernel
theorem dX4_misfitOf_1 : decode cX4_misfitOf 1 = .ok (.ifCond .lt 19, 3) := by decide +kernel
theorem dX4_misfitOf_4 : decode cX4_misfitOf 4 = .ok (.iload_n 1, 1) := by decide +kernel
theorem dX4_misfitOf_5 : decode cX4_misfitOf 5 = .ok (.bipush 9, 2) := by decide +kernel
theorem dX4_misfitOf_7 : decode cX4_misfitOf 7 = .ok (.if_icmp .gt 13, 3) := by decide +kernel
theorem dX4_misfitOf_10 : decode cX4_misfitOf 10 = .ok (.iload_n 2, 1) := by decide +kernel
theorem dX4_misfitOf_11 : decode cX4_misfitOf 11 = .ok (.ifCond .lt 9, 3) := by decide +kernel
theorem dX4_misfitOf_14 : decode cX4_misfitOf 14 = .ok (.iload_n 2, 1) := by decide +kernel
theorem dX4_misfitOf_15 : decode cX4_misfitOf 15 = .ok (.bipush 9, 2) := by decide +kernel
theorem dX4_misfitOf_17 : decode cX4_misfitOf 17 = .ok (.if_icmp .le 5, 3) := by decide +kernel
theorem dX4_misfitOf_20 : decode cX4_misfitOf 20 = .ok (.iconst 0, 1) := by decide +kernel
theorem dX4_misfitOf_21 : decode cX4_misfitOf 21 = .ok (.ireturn, 1) := by decide +kernel
theorem dX4_misfitOf_22 : decode cX4_misfitOf 22 = .ok (.aload_n 0, 1) := by decide +kernel
theorem dX4_misfitOf_23 : decode cX4_misfitOf 23 = .ok (.getfield 9, 3) := by decide +kernel
theorem dX4_misfitOf_26 : decode cX4_misfitOf 26 = .ok (.iload_n 1, 1) := by decide +kernel
theorem dX4_misfitOf_27 : decode cX4_misfitOf 27 = .ok (.bipush 10, 2) := by decide +kernel
theorem dX4_misfitOf_29 : decode cX4_misfitOf 29 = .ok (.imul, 1) := by decide +kernel
theorem dX4_misfitOf_30 : decode cX4_misfitOf 30 = .ok (.iload_n 2, 1) := by decide +kernel
theorem dX4_misfitOf_31 : decode cX4_misfitOf 31 = .ok (.iadd, 1) := by decide +kernel
theorem dX4_misfitOf_32 : decode cX4_misfitOf 32 = .ok (.iaload, 1) := by decide +kernel
theorem dX4_misfitOf_33 : decode cX4_misfitOf 33 = .ok (.ireturn, 1) := by decide +kernel
theorem dX4_putMisfit_0 : decode cX4_putMisfit 0 = .ok (.iload_n 1, 1) := by decide +kernel
theorem dX4_putMisfit_1 : decode cX4_putMisfit 1 = .ok (.ifCond .lt 19, 3) := by decide +kernel
theorem dX4_putMisfit_4 : decode cX4_putMisfit 4 = .ok (.iload_n 1, 1) := by decide +kernel
theorem dX4_putMisfit_5 : decode cX4_putMisfit 5 = .ok (.bipush 9, 2) := by decide +kernel
theorem dX4_putMisfit_7 : decode cX4_putMisfit 7 = .ok (.if_icmp .gt 13, 3) := by decide +kernel
theorem dX4_putMisfit_10 : decode cX4_putMisfit 10 = .ok (.iload_n 2, 1) := by decide +kernel
theorem dX4_putMisfit_11 : decode cX4_putMisfit 11 = .ok (.ifCond .lt 9, 3) := by decide +kernel
theorem dX4_putMisfit_14 : decode cX4_putMisfit 14 = .ok (.iload_n 2, 1) := by decide +kernel
theorem dX4_putMisfit_15 : decode cX4_putMisfit 15 = .ok (.bipush 9, 2) := by decide +kernel
theorem dX4_putMisfit_17 : decode cX4_putMisfit 17 = .ok (.if_icmp .le 4, 3) := by decide +kernel
theorem dX4_putMisfit_20 : decode cX4_putMisfit 20 = .ok (.return_, 1) := by decide +kernel
theorem dX4_putMisfit_21 : decode cX4_putMisfit 21 = .ok (.aload_n 0, 1) := by decide +kernel
theorem dX4_putMisfit_22 : decode cX4_putMisfit 22 = .ok (.getfield 9, 3) := by decide +kernel
theorem dX4_putMisfit_25 : decode cX4_putMisfit 25 = .ok (.iload_n 1, 1) := by decide +kernel
theorem dX4_putMisfit_26 : decode cX4_putMisfit 26 = .ok (.bipush 10, 2) := by decide +kernel
theorem dX4_putMisfit_28 : decode cX4_putMisfit 28 = .ok (.imul, 1) := by decide +kernel
theorem dX4_putMisfit_29 : decode cX4_putMisfit 29 = .ok (.iload_n 2, 1) := by decide +kernel
theorem dX4_putMisfit_30 : decode cX4_putMisfit 30 = .ok (.iadd, 1) := by decide +kernel
theorem dX4_putMisfit_31 : decode cX4_putMisfit 31 = .ok (.iload_n 3, 1) := by decide +kernel
theorem dX4_putMisfit_32 : decode cX4_putMisfit 32 = .ok (.iastore, 1) := by decide +kernel
theorem dX4_putMisfit_33 : decode cX4_putMisfit 33 = .ok (.aload_n 0, 1) := by decide +kernel
theorem dX4_putMisfit_34 : decode cX4_putMisfit 34 = .ok (.getfield 9, 3) := by decide +kernel
theorem dX4_putMisfit_37 : decode cX4_putMisfit 37 = .ok (.iload_n 2, 1) := by decide +kernel
theorem dX4_putMisfit_38 : decode cX4_putMisfit 38 = .ok (.bipush 10, 2) := by decide +kernel
theorem dX4_putMisfit_40 : decode cX4_putMisfit 40 = .ok (.imul, 1) := by decide +kernel
theorem dX4_putMisfit_41 : decode cX4_putMisfit 41 = .ok (.iload_n 1, 1) := by decide +kernel
theorem dX4_putMisfit_42 : decode cX4_putMisfit 42 = .ok (.iadd, 1) := by decide +kernel
theorem dX4_putMisfit_43 : decode cX4_putMisfit 43 = .ok (.iload_n 3, 1) := by decide +kernel
theorem dX4_putMisfit_44 : decode cX4_putMisfit 44 = .ok (.iastore, 1) := by decide +kernel
theorem dX4_putMisfit_45 : decode cX4_putMisfit 45 = .ok (.return_, 1) := by decide +kernel
theorem dX4_etchNow_0 : decode cX4_etchNow 0 = .ok (.aload_n 0, 1) := by decide +kernel
theorem dX4_etchNow_1 : decode cX4_etchNow 1 = .ok (.getfield 18, 3) := by decide +kernel
theorem dX4_etchNow_4 : decode cX4_etchNow 4 = .ok (.ireturn, 1) := by decide +kernel
theorem dX4_putEtch_0 : decode cX4_putEtch 0 = .ok (.aload_n 0, 1) := by decide +kernel
theorem dX4_putEtch_1 : decode cX4_putEtch 1 = .ok (.iload_n 1, 1) := by decide +kernel
theorem dX4_putEtch_2 : decode cX4_putEtch 2 = .ok (.putfield 18, 3) := by decide +kernel
theorem dX4_putEtch_5 : decode cX4_putEtch 5 = .ok (.return_, 1) := by decide +kernel
theorem dX4_timeAt_0 : decode cX4_timeAt 0 = .ok (.iload_n 1, 1) := by decide +kernel
theorem dX4_timeAt_1 : decode cX4_timeAt 1 = .ok (.ifCond .lt 18, 3) := by decide +kernel
theorem dX4_timeAt_4 : decode cX4_timeAt 4 = .ok (.iload_n 1, 1) := by decide +kernel
theorem dX4_timeAt_5 : decode cX4_timeAt 5 = .ok (.bipush 10, 2) := by decide +kernel
theorem dX4_timeAt_7 : decode cX4_timeAt 7 = .ok (.if_icmp .ge 12, 3) := by decide +kernel
theorem dX4_timeAt_10 : decode cX4_timeAt 10 = .ok (.aload_n 0, 1) := by decide +kernel
theorem dX4_timeAt_11 : decode cX4_timeAt 11 = .ok (.getfield 15, 3) := by decide +kernel
theorem dX4_timeAt_14 : decode cX4_timeAt 14 = .ok (.iload_n 1, 1) := by decide +kernel
theorem dX4_timeAt_15 : decode cX4_timeAt 15 = .ok (.iaload, 1) := by decide +kernel
theorem dX4_timeAt_16 : decode cX4_timeAt 16 = .ok (.goto 5, 3) := by decide +kernel
theorem dX4_timeAt_19 : decode cX4_timeAt 19 = .ok (.bipush 50, 2) := by decide +kernel
theorem dX4_timeAt_21 : decode cX4_timeAt 21 = .ok (.ireturn, 1) := by decide +kernel
theorem dX4_putTime_0 : decode cX4_putTime 0 = .ok (.iload_n 1, 1) := by decide +kernel
theorem dX4_putTime_1 : decode cX4_putTime 1 = .ok (.ifCond .lt 16, 3) := by decide +kernel
theorem dX4_putTime_4 : decode cX4_putTime 4 = .ok (.iload_n 1, 1) := by decide +kernel
theorem dX4_putTime_5 : decode cX4_putTime 5 = .ok (.bipush 10, 2) := by decide +kernel
theorem dX4_putTime_7 : decode cX4_putTime 7 = .ok (.if_icmp .ge 10, 3) := by decide +kernel
theorem dX4_putTime_10 : decode cX4_putTime 10 = .ok (.aload_n 0, 1) := by decide +kernel
theorem dX4_putTime_11 : decode cX4_putTime 11 = .ok (.getfield 15, 3) := by decide +kernel
theorem dX4_putTime_14 : decode cX4_putTime 14 = .ok (.iload_n 1, 1) := by decide +kernel
theorem dX4_putTime_15 : decode cX4_putTime 15 = .ok (.iload_n 2, 1) := by decide +kernel
theorem dX4_putTime_16 : decode cX4_putTime 16 = .ok (.iastore, 1) := by decide +kernel
theorem dX4_putTime_17 : decode cX4_putTime 17 = .ok (.return_, 1) := by decide +kernel
theorem dX4_tickAt_0 : decode cX4_tickAt 0 = .ok (.aload_n 0, 1) := by decide +kernel
theorem dX4_tickAt_1 : decode cX4_tickAt 1 = .ok (.iload_n 1, 1) := by decide +kernel
theorem dX4_tickAt_2 : decode cX4_tickAt 2 = .ok (.invokevirtual 32, 3) := by decide +kernel
theorem dX4_tickAt_5 : decode cX4_tickAt 5 = .ok (.istore_n 2, 1) := by decide +kernel
theorem dX4_tickAt_6 : decode cX4_tickAt 6 = .ok (.iload_n 2, 1) := by decide +kernel
theorem dX4_tickAt_7 : decode cX4_tickAt 7 = .ok (.ifCond .le 11, 3) := by decide +kernel
theorem dX4_tickAt_10 : decode cX4_tickAt 10 = .ok (.sipush 1000, 3) := by decide +kernel
theorem dX4_tickAt_13 : decode cX4_tickAt 13 = .ok (.iload_n 2, 1) := by decide +kernel
theorem dX4_tickAt_14 : decode cX4_tickAt 14 = .ok (.idiv, 1) := by decide +kernel
theorem dX4_tickAt_15 : decode cX4_tickAt 15 = .ok (.goto 4, 3) := by decide +kernel
theorem dX4_tickAt_18 : decode cX4_tickAt 18 = .ok (.iconst 0, 1) := by decide +kernel
theorem dX4_tickAt_19 : decode cX4_tickAt 19 = .ok (.ireturn, 1) := by decide +kernel
theorem dX4_isSeen_0 : decode cX4_isSeen 0 = .ok (.iload_n 1, 1) := by decide +kernel
theorem dX4_isSeen_1 : decode cX4_isSeen 1 = .ok (.ifCond .eq 7, 3) := by decide +kernel
theorem dX4_isSeen_4 : decode cX4_isSeen 4 = .ok (.iload_n 2, 1) := by decide +kernel
theorem dX4_isSeen_5 : decode cX4_isSeen 5 = .ok (.ifCond .ne 14, 3) := by decide +kernel
theorem dX4_isSeen_8 : decode cX4_isSeen 8 = .ok (.iload_n 1, 1) := by decide +kernel
theorem dX4_isSeen_9 : decode cX4_isSeen 9 = .ok (.iload_n 2, 1) := by decide +kernel
theorem dX4_isSeen_10 : decode cX4_isSeen 10 = .ok (.if_icmp .eq 7, 3) := by decide +kernel
theorem dX4_isSeen_13 : decode cX4_isSeen 13 = .ok (.iconst 1, 1) := by decide +kernel
theorem dX4_isSeen_14 : decode cX4_isSeen 14 = .ok (.goto 4, 3) := by decide +kernel
theorem dX4_isSeen_17 : decode cX4_isSeen 17 = .ok (.iconst 0, 1) := by decide +kernel
theorem dX4_isSeen_18 : decode cX4_isSeen 18 = .ok (.ireturn, 1) := by decide +kernel
theorem dX4_isSeen_19 : decode cX4_isSeen 19 = .ok (.iload_n 1, 1) := by decide +kernel
theorem dX4_isSeen_20 : decode cX4_isSeen 20 = .ok (.iload_n 2, 1) := by decide +kernel
theorem dX4_isSeen_21 : decode cX4_isSeen 21 = .ok (.if_icmp .eq 17, 3) := by decide +kernel
theorem dX4_isSeen_24 : decode cX4_isSeen 24 = .ok (.aload_n 0, 1) := by decide +kernel
theorem dX4_isSeen_25 : decode cX4_isSeen 25 = .ok (.iload_n 1, 1) := by decide +kernel
theorem dX4_isSeen_26 : decode cX4_isSeen 26 = .ok (.iload_n 2, 1) := by decide +kernel
theorem dX4_isSeen_27 : decode cX4_isSeen 27 = .ok (.invokevirtual 36, 3) := by decide +kernel
theorem dX4_isSeen_30 : decode cX4_isSeen 30 = .ok (.iload_n 3, 1) := by decide +kernel
theorem dX4_isSeen_31 : decode cX4_isSeen 31 = .ok (.if_icmp .lt 7, 3) := by decide +kernel
theorem dX4_isSeen_34 : decode cX4_isSeen 34 = .ok (.iconst 1, 1) := by decide +kernel
theorem dX4_isSeen_35 : decode cX4_isSeen 35 = .ok (.goto 4, 3) := by decide +kernel
theorem dX4_isSeen_38 : decode cX4_isSeen 38 = .ok (.iconst 0, 1) := by decide +kernel
theorem dX4_isSeen_39 : decode cX4_isSeen 39 = .ok (.ireturn, 1) := by decide +kernel
theorem dX5_init_0 : decode cX5_init 0 = .ok (.aload_n 0, 1) := by decide +kernel
theorem dX5_init_1 : decode cX5_init 1 = .ok (.invokespecial 3, 3) := by decide +kernel
theorem dX5_init_4 : decode cX5_init 4 = .ok (.aload_n 0, 1) := by decide +kernel
theorem dX5_init_5 : decode cX5_init 5 = .ok (.sipush 256, 3) := by decide +kernel
theorem dX5_init_8 : decode cX5_init 8 = .ok (.newarray .int, 2) := by decide +kernel
theorem dX5_init_10 : decode cX5_init 10 = .ok (.putfield 9, 3) := by decide +kernel
theorem dX5_init_13 : decode cX5_init 13 = .ok (.aload_n 0, 1) := by decide +kernel
theorem dX5_init_14 : decode cX5_init 14 = .ok (.bipush 64, 2) := by decide +kernel
theorem dX5_init_16 : decode cX5_init 16 = .ok (.newarray .int, 2) := by decide +kernel
theorem dX5_init_18 : decode cX5_init 18 = .ok (.putfield 15, 3) := by decide +kernel
theorem dX5_init_21 : decode cX5_init 21 = .ok (.return_, 1) := by decide +kernel
theorem dX5_layOut_0 : decode cX5_layOut 0 = .ok (.aload_n 0, 1) := by decide +kernel
theorem dX5_layOut_1 : decode cX5_layOut 1 = .ok (.iload_n 1, 1) := by decide +kernel
theorem dX5_layOut_2 : decode cX5_layOut 2 = .ok (.putfield 18, 3) := by decide +kernel
theorem dX5_layOut_5 : decode cX5_layOut 5 = .ok (.aload_n 0, 1) := by decide +kernel
theorem dX5_layOut_6 : decode cX5_layOut 6 = .ok (.iload_n 2, 1) := by decide +kernel
theorem dX5_layOut_7 : decode cX5_layOut 7 = .ok (.putfield 22, 3) := by decide +kernel
theorem dX5_layOut_10 : decode cX5_layOut 10 = .ok (.aload_n 0, 1) := by decide +kernel
theorem dX5_layOut_11 : decode cX5_layOut 11 = .ok (.aload_n 0, 1) := by decide +kernel
theorem dX5_layOut_12 : decode cX5_layOut 12 = .ok (.getfield 18, 3) := by decide +kernel
theorem dX5_layOut_15 : decode cX5_layOut 15 = .ok (.aload_n 0, 1) := by decide +kernel
theorem dX5_layOut_16 : decode cX5_layOut 16 = .ok (.getfield 22, 3) := by decide +kernel
theorem dX5_layOut_19 : decode cX5_layOut 19 = .ok (.imul, 1) := by decide +kernel
theorem dX5_layOut_20 : decode cX5_layOut 20 = .ok (.bipush 64, 2) := by decide +kernel
theorem dX5_layOut_22 : decode cX5_layOut 22 = .ok (.invokestatic 25, 3) := by decide +kernel
theorem dX5_layOut_25 : decode cX5_layOut 25 = .ok (.putfield 31, 3) := by decide +kernel
theorem dX5_layOut_28 : decode cX5_layOut 28 = .ok (.aload_n 0, 1) := by decide +kernel
theorem dX5_layOut_29 : decode cX5_layOut 29 = .ok (.getfield 15, 3) := by decide +kernel
theorem dX5_layOut_32 : decode cX5_layOut 32 = .ok (.iconst 0, 1) := by decide +kernel
theorem dX5_layOut_33 : decode cX5_layOut 33 = .ok (.invokestatic 34, 3) := by decide +kernel
theorem dX5_layOut_36 : decode cX5_layOut 36 = .ok (.iconst 0, 1) := by decide +kernel
theorem dX5_layOut_37 : decode cX5_layOut 37 = .ok (.istore_n 3, 1) := by decide +kernel
theorem dX5_layOut_38 : decode cX5_layOut 38 = .ok (.iload_n 3, 1) := by decide +kernel
theorem dX5_layOut_39 : decode cX5_layOut 39 = .ok (.aload_n 0, 1) := by decide +kernel
theorem dX5_layOut_40 : decode cX5_layOut 40 = .ok (.getfield 22, 3) := by decide +kernel
theorem dX5_layOut_43 : decode cX5_layOut 43 = .ok (.if_icmp .ge 34, 3) := by decide +kernel
theorem dX5_layOut_46 : decode cX5_layOut 46 = .ok (.iconst 0, 1) := by decide +kernel
theorem dX5_layOut_47 : decode cX5_layOut 47 = .ok (.istore 4, 2) := by decide +kernel
theorem dX5_layOut_49 : decode cX5_layOut 49 = .ok (.iload 4, 2) := by decide +kernel
theorem dX5_layOut_51 : decode cX5_layOut 51 = .ok (.aload_n 0, 1) := by decide +kernel
theorem dX5_layOut_52 : decode cX5_layOut 52 = .ok (.getfield 18, 3) := by decide +kernel
theorem dX5_layOut_55 : decode cX5_layOut 55 = .ok (.if_icmp .ge 16, 3) := by decide +kernel
theorem dX5_layOut_58 : decode cX5_layOut 58 = .ok (.aload_n 0, 1) := by decide +kernel
theorem dX5_layOut_59 : decode cX5_layOut 59 = .ok (.iload_n 3, 1) := by decide +kernel
theorem dX5_layOut_60 : decode cX5_layOut 60 = .ok (.iload 4, 2) := by decide +kernel
theorem dX5_layOut_62 : decode cX5_layOut 62 = .ok (.invokevirtual 40, 3) := by decide +kernel
theorem dX5_layOut_65 : decode cX5_layOut 65 = .ok (.iinc 4 1, 3) := by decide +kernel
theorem dX5_layOut_68 : decode cX5_layOut 68 = .ok (.goto (-19), 3) := by decide +kernel
theorem dX5_layOut_71 : decode cX5_layOut 71 = .ok (.iinc 3 1, 3) := by decide +kernel
theorem dX5_layOut_74 : decode cX5_layOut 74 = .ok (.goto (-36), 3) := by decide +kernel
theorem dX5_layOut_77 : decode cX5_layOut 77 = .ok (.return_, 1) := by decide +kernel
theorem dX5_layCell_0 : decode cX5_layCell 0 = .ok (.iload_n 1, 1) := by decide +kernel
theorem dX5_layCell_1 : decode cX5_layCell 1 = .ok (.aload_n 0, 1) := by decide +kernel
theorem dX5_layCell_2 : decode cX5_layCell 2 = .ok (.getfield 18, 3) := by decide +kernel
theorem dX5_layCell_5 : decode cX5_layCell 5 = .ok (.imul, 1) := by decide +kernel
theorem dX5_layCell_6 : decode cX5_layCell 6 = .ok (.iload_n 2, 1) := by decide +kernel
theorem dX5_layCell_7 : decode cX5_layCell 7 = .ok (.iadd, 1) := by decide +kernel
theorem dX5_layCell_8 : decode cX5_layCell 8 = .ok (.istore_n 3, 1) := by decide +kernel
theorem dX5_layCell_9 : decode cX5_layCell 9 = .ok (.iload_n 1, 1) := by decide +kernel
theorem dX5_layCell_10 : decode cX5_layCell 10 = .ok (.ifCond .le 14, 3) := by decide +kernel
theorem dX5_layCell_13 : decode cX5_layCell 13 = .ok (.aload_n 0, 1) := by decide +kernel
theorem dX5_layCell_14 : decode cX5_layCell 14 = .ok (.iload_n 3, 1) := by decide +kernel
theorem dX5_layCell_15 : decode cX5_layCell 15 = .ok (.iload_n 3, 1) := by decide +kernel
theorem dX5_layCell_16 : decode cX5_layCell 16 = .ok (.aload_n 0, 1) := by decide +kernel
theorem dX5_layCell_17 : decode cX5_layCell 17 = .ok (.getfield 18, 3) := by decide +kernel
theorem dX5_layCell_20 : decode cX5_layCell 20 = .ok (.isub, 1) := by decide +kernel
theorem dX5_layCell_21 : decode cX5_layCell 21 = .ok (.invokevirtual 44, 3) := by decide +kernel
theorem dX5_layCell_24 : decode cX5_layCell 24 = .ok (.iload_n 2, 1) := by decide +kernel
theorem dX5_layCell_25 : decode cX5_layCell 25 = .ok (.aload_n 0, 1) := by decide +kernel
theorem dX5_layCell_26 : decode cX5_layCell 26 = .ok (.getfield 18, 3) := by decide +kernel
theorem dX5_layCell_29 : decode cX5_layCell 29 = .ok (.iconst 1, 1) := by decide +kernel
theorem dX5_layCell_30 : decode cX5_layCell 30 = .ok (.isub, 1) := by decide +kernel
theorem dX5_layCell_31 : decode cX5_layCell 31 = .ok (.if_icmp .ge 11, 3) := by decide +kernel
theorem dX5_layCell_34 : decode cX5_layCell 34 = .ok (.aload_n 0, 1) := by decide +kernel
theorem dX5_layCell_35 : decode cX5_layCell 35 = .ok (.iload_n 3, 1) := by decide +kernel
theorem dX5_layCell_36 : decode cX5_layCell 36 = .ok (.iload_n 3, 1) := by decide +kernel
theorem dX5_layCell_37 : decode cX5_layCell 37 = .ok (.iconst 1, 1) := by decide +kernel
theorem dX5_layCell_38 : decode cX5_layCell 38 = .ok (.iadd, 1) := by decide +kernel
theorem dX5_layCell_39 : decode cX5_layCell 39 = .ok (.invokevirtual 44, 3) := by decide +kernel
theorem dX5_layCell_42 : decode cX5_layCell 42 = .ok (.iload_n 1, 1) := by decide +kernel
theorem dX5_layCell_43 : decode cX5_layCell 43 = .ok (.aload_n 0, 1) := by decide +kernel
theorem dX5_layCell_44 : decode cX5_layCell 44 = .ok (.getfield 22, 3) := by decide +kernel
theorem dX5_layCell_47 : decode cX5_layCell 47 = .ok (.iconst 1, 1) := by decide +kernel
theorem dX5_layCell_48 : decode cX5_layCell 48 = .ok (.isub, 1) := by decide +kernel
theorem dX5_layCell_49 : decode cX5_layCell 49 = .ok (.if_icmp .ge 14, 3) := by decide +kernel
theorem dX5_layCell_52 : decode cX5_layCell 52 = .ok (.aload_n 0, 1) := by decide +kernel
theorem dX5_layCell_53 : decode cX5_layCell 53 = .ok (.iload_n 3, 1) := by decide +kernel
theorem dX5_layCell_54 : decode cX5_layCell 54 = .ok (.iload_n 3, 1) := by decide +kernel
theorem dX5_layCell_55 : decode cX5_layCell 55 = .ok (.aload_n 0, 1) := by decide +kernel
theorem dX5_layCell_56 : decode cX5_layCell 56 = .ok (.getfield 18, 3) := by decide +kernel
theorem dX5_layCell_59 : decode cX5_layCell 59 = .ok (.iadd, 1) := by decide +kernel
theorem dX5_layCell_60 : decode cX5_layCell 60 = .ok (.invokevirtual 44, 3) := by decide +kernel
theorem dX5_layCell_63 : decode cX5_layCell 63 = .ok (.iload_n 2, 1) := by decide +kernel
theorem dX5_layCell_64 : decode cX5_layCell 64 = .ok (.ifCond .le 11, 3) := by decide +kernel
theorem dX5_layCell_67 : decode cX5_layCell 67 = .ok (.aload_n 0, 1) := by decide +kernel
theorem dX5_layCell_68 : decode cX5_layCell 68 = .ok (.iload_n 3, 1) := by decide +kernel
theorem dX5_layCell_69 : decode cX5_layCell 69 = .ok (.iload_n 3, 1) := by decide +kernel
theorem dX5_layCell_70 : decode cX5_layCell 70 = .ok (.iconst 1, 1) := by decide +kernel
theorem dX5_layCell_71 : decode cX5_layCell 71 = .ok (.isub, 1) := by decide +kernel
theorem dX5_layCell_72 : decode cX5_layCell 72 = .ok (.invokevirtual 44, 3) := by decide +kernel
theorem dX5_layCell_75 : decode cX5_layCell 75 = .ok (.return_, 1) := by decide +kernel
theorem dX5_addBeside_0 : decode cX5_addBeside 0 = .ok (.aload_n 0, 1) := by decide +kernel
theorem dX5_addBeside_1 : decode cX5_addBeside 1 = .ok (.iload_n 1, 1) := by decide +kernel
theorem dX5_addBeside_2 : decode cX5_addBeside 2 = .ok (.invokevirtual 47, 3) := by decide +kernel
theorem dX5_addBeside_5 : decode cX5_addBeside 5 = .ok (.ifCond .eq 21, 3) := by decide +kernel
theorem dX5_addBeside_8 : decode cX5_addBeside 8 = .ok (.aload_n 0, 1) := by decide +kernel
theorem dX5_addBeside_9 : decode cX5_addBeside 9 = .ok (.iload_n 2, 1) := by decide +kernel
theorem dX5_addBeside_10 : decode cX5_addBeside 10 = .ok (.invokevirtual 47, 3) := by decide +kernel
theorem dX5_addBeside_13 : decode cX5_addBeside 13 = .ok (.ifCond .eq 13, 3) := by decide +kernel
theorem dX5_addBeside_16 : decode cX5_addBeside 16 = .ok (.aload_n 0, 1) := by decide +kernel
theorem dX5_addBeside_17 : decode cX5_addBeside 17 = .ok (.getfield 15, 3) := by decide +kernel
theorem dX5_addBeside_20 : decode cX5_addBeside 20 = .ok (.iload_n 1, 1) := by decide +kernel
theorem dX5_addBeside_21 : decode cX5_addBeside 21 = .ok (.iaload, 1) := by decide +kernel
theorem dX5_addBeside_22 : decode cX5_addBeside 22 = .ok (.iconst 4, 1) := by decide +kernel
theorem dX5_addBeside_23 : decode cX5_addBeside 23 = .ok (.if_icmp .lt 4, 3) := by decide +kernel
theorem dX5_addBeside_26 : decode cX5_addBeside 26 = .ok (.return_, 1) := by decide +kernel
theorem dX5_addBeside_27 : decode cX5_addBeside 27 = .ok (.aload_n 0, 1) := by decide +kernel
theorem dX5_addBeside_28 : decode cX5_addBeside 28 = .ok (.getfield 9, 3) := by decide +kernel
theorem dX5_addBeside_31 : decode cX5_addBeside 31 = .ok (.iload_n 1, 1) := by decide +kernel
theorem dX5_addBeside_32 : decode cX5_addBeside 32 = .ok (.iconst 4, 1) := by decide +kernel
theorem dX5_addBeside_33 : decode cX5_addBeside 33 = .ok (.imul, 1) := by decide +kernel
theorem dX5_addBeside_34 : decode cX5_addBeside 34 = .ok (.aload_n 0, 1) := by decide +kernel
theorem dX5_addBeside_35 : decode cX5_addBeside 35 = .ok (.getfield 15, 3) := by decide +kernel
theorem dX5_addBeside_38 : decode cX5_addBeside 38 = .ok (.iload_n 1, 1) := by decide +kernel
theorem dX5_addBeside_39 : decode cX5_addBeside 39 = .ok (.iaload, 1) := by decide +kernel
theorem dX5_addBeside_40 : decode cX5_addBeside 40 = .ok (.iadd, 1) := by decide +kernel
theorem dX5_addBeside_41 : decode cX5_addBeside 41 = .ok (.iload_n 2, 1) := by decide +kernel
theorem dX5_addBeside_42 : decode cX5_addBeside 42 = .ok (.iastore, 1) := by decide +kernel
theorem dX5_addBeside_43 : decode cX5_addBeside 43 = .ok (.aload_n 0, 1) := by decide +kernel
theorem dX5_addBeside_44 : decode cX5_addBeside 44 = .ok (.getfield 15, 3) := by decide +kernel
theorem dX5_addBeside_47 : decode cX5_addBeside 47 = .ok (.iload_n 1, 1) := by decide +kernel
theorem dX5_addBeside_48 : decode cX5_addBeside 48 = .ok (.dup2, 1) := by decide +kernel
theorem dX5_addBeside_49 : decode cX5_addBeside 49 = .ok (.iaload, 1) := by decide +kernel
theorem dX5_addBeside_50 : decode cX5_addBeside 50 = .ok (.iconst 1, 1) := by decide +kernel
theorem dX5_addBeside_51 : decode cX5_addBeside 51 = .ok (.iadd, 1) := by decide +kernel
theorem dX5_addBeside_52 : decode cX5_addBeside 52 = .ok (.iastore, 1) := by decide +kernel
theorem dX5_addBeside_53 : decode cX5_addBeside 53 = .ok (.return_, 1) := by decide +kernel
theorem dX5_holds_0 : decode cX5_holds 0 = .ok (.iload_n 1, 1) := by decide +kernel
theorem dX5_holds_1 : decode cX5_holds 1 = .ok (.ifCond .lt 15, 3) := by decide +kernel
theorem dX5_holds_4 : decode cX5_holds 4 = .ok (.iload_n 1, 1) := by decide +kernel
theorem dX5_holds_5 : decode cX5_holds 5 = .ok (.aload_n 0, 1) := by decide +kernel
theorem dX5_holds_6 : decode cX5_holds 6 = .ok (.getfield 31, 3) := by decide +kernel
theorem dX5_holds_9 : decode cX5_holds 9 = .ok (.if_icmp .ge 7, 3) := by decide +kernel
theorem dX5_holds_12 : decode cX5_holds 12 = .ok (.iconst 1, 1) := by decide +kernel
theorem dX5_holds_13 : decode cX5_holds 13 = .ok (.goto 4, 3) := by decide +kernel
theorem dX5_holds_16 : decode cX5_holds 16 = .ok (.iconst 0, 1) := by decide +kernel
theorem dX5_holds_17 : decode cX5_holds 17 = .ok (.ireturn, 1) := by decide +kernel
theorem dX5_wide_0 : decode cX5_wide 0 = .ok (.aload_n 0, 1) := by decide +kernel
theorem dX5_wide_1 : decode cX5_wide 1 = .ok (.getfield 18, 3) := by decide +kernel
theorem dX5_wide_4 : decode cX5_wide 4 = .ok (.ireturn, 1) := by decide +kernel
theorem dX5_high_0 : decode cX5_high 0 = .ok (.aload_n 0, 1) := by decide +kernel
theorem dX5_high_1 : decode cX5_high 1 = .ok (.getfield 22, 3) := by decide +kernel
theorem dX5_high_4 : decode cX5_high 4 = .ok (.ireturn, 1) := by decide +kernel
theorem dX5_cells_0 : decode cX5_cells 0 = .ok (.aload_n 0, 1) := by decide +kernel
theorem dX5_cells_1 : decode cX5_cells 1 = .ok (.getfield 31, 3) := by decide +kernel
theorem dX5_cells_4 : decode cX5_cells 4 = .ok (.ireturn, 1) := by decide +kernel
theorem dX5_besideMany_0 : decode cX5_besideMany 0 = .ok (.iload_n 1, 1) := by decide +kernel
theorem dX5_besideMany_1 : decode cX5_besideMany 1 = .ok (.ifCond .lt 20, 3) := by decide +kernel
theorem dX5_besideMany_4 : decode cX5_besideMany 4 = .ok (.iload_n 1, 1) := by decide +kernel
theorem dX5_besideMany_5 : decode cX5_besideMany 5 = .ok (.aload_n 0, 1) := by decide +kernel
theorem dX5_besideMany_6 : decode cX5_besideMany 6 = .ok (.getfield 31, 3) := by decide +kernel
theorem dX5_besideMany_9 : decode cX5_besideMany 9 = .ok (.if_icmp .ge 12, 3) := by decide +kernel
theorem dX5_besideMany_12 : decode cX5_besideMany 12 = .ok (.aload_n 0, 1) := by decide +kernel
theorem dX5_besideMany_13 : decode cX5_besideMany 13 = .ok (.getfield 15, 3) := by decide +kernel
theorem dX5_besideMany_16 : decode cX5_besideMany 16 = .ok (.iload_n 1, 1) := by decide +kernel
theorem dX5_besideMany_17 : decode cX5_besideMany 17 = .ok (.iaload, 1) := by decide +kernel
theorem dX5_besideMany_18 : decode cX5_besideMany 18 = .ok (.goto 4, 3) := by decide +kernel
theorem dX5_besideMany_21 : decode cX5_besideMany 21 = .ok (.iconst 0, 1) := by decide +kernel
theorem dX5_besideMany_22 : decode cX5_besideMany 22 = .ok (.ireturn, 1) := by decide +kernel
theorem dX5_beside_0 : decode cX5_beside 0 = .ok (.iload_n 1, 1) := by decide +kernel
theorem dX5_beside_1 : decode cX5_beside 1 = .ok (.ifCond .lt 25, 3) := by decide +kernel
theorem dX5_beside_4 : decode cX5_beside 4 = .ok (.iload_n 1, 1) := by decide +kernel
theorem dX5_beside_5 : decode cX5_beside 5 = .ok (.aload_n 0, 1) := by decide +kernel
theorem dX5_beside_6 : decode cX5_beside 6 = .ok (.getfield 31, 3) := by decide +kernel
theorem dX5_beside_9 : decode cX5_beside 9 = .ok (.if_icmp .ge 17, 3) := by decide +kernel
theorem dX5_beside_12 : decode cX5_beside 12 = .ok (.iload_n 2, 1) := by decide +kernel
theorem dX5_beside_13 : decode cX5_beside 13 = .ok (.ifCond .lt 13, 3) := by decide +kernel
theorem dX5_beside_16 : decode cX5_beside 16 = .ok (.iload_n 2, 1) := by decide +kernel
theorem dX5_beside_17 : decode cX5_beside 17 = .ok (.aload_n 0, 1) := by decide +kernel
theorem dX5_beside_18 : decode cX5_beside 18 = .ok (.getfield 15, 3) := by decide +kernel
theorem dX5_beside_21 : decode cX5_beside 21 = .ok (.iload_n 1, 1) := by decide +kernel
theorem dX5_beside_22 : decode cX5_beside 22 = .ok (.iaload, 1) := by decide +kernel
theorem dX5_beside_23 : decode cX5_beside 23 = .ok (.if_icmp .lt 5, 3) := by decide +kernel
theorem dX5_beside_26 : decode cX5_beside 26 = .ok (.iconst (-1), 1) := by decide +kernel
theorem dX5_beside_27 : decode cX5_beside 27 = .ok (.ireturn, 1) := by decide +kernel
theorem dX5_beside_28 : decode cX5_beside 28 = .ok (.aload_n 0, 1) := by decide +kernel
theorem dX5_beside_29 : decode cX5_beside 29 = .ok (.getfield 9, 3) := by decide +kernel
theorem dX5_beside_32 : decode cX5_beside 32 = .ok (.iload_n 1, 1) := by decide +kernel
theorem dX5_beside_33 : decode cX5_beside 33 = .ok (.iconst 4, 1) := by decide +kernel
theorem dX5_beside_34 : decode cX5_beside 34 = .ok (.imul, 1) := by decide +kernel
theorem dX5_beside_35 : decode cX5_beside 35 = .ok (.iload_n 2, 1) := by decide +kernel
theorem dX5_beside_36 : decode cX5_beside 36 = .ok (.iadd, 1) := by decide +kernel
theorem dX5_beside_37 : decode cX5_beside 37 = .ok (.iaload, 1) := by decide +kernel
theorem dX5_beside_38 : decode cX5_beside 38 = .ok (.ireturn, 1) := by decide +kernel
theorem dX5_lines_0 : decode cX5_lines 0 = .ok (.aload_n 0, 1) := by decide +kernel
theorem dX5_lines_1 : decode cX5_lines 1 = .ok (.getfield 18, 3) := by decide +kernel
theorem dX5_lines_4 : decode cX5_lines 4 = .ok (.aload_n 0, 1) := by decide +kernel
theorem dX5_lines_5 : decode cX5_lines 5 = .ok (.getfield 22, 3) := by decide +kernel
theorem dX5_lines_8 : decode cX5_lines 8 = .ok (.iadd, 1) := by decide +kernel
theorem dX5_lines_9 : decode cX5_lines 9 = .ok (.ireturn, 1) := by decide +kernel
theorem dX5_lineCells_0 : decode cX5_lineCells 0 = .ok (.iload_n 1, 1) := by decide +kernel
theorem dX5_lineCells_1 : decode cX5_lineCells 1 = .ok (.aload_n 0, 1) := by decide +kernel
theorem dX5_lineCells_2 : decode cX5_lineCells 2 = .ok (.getfield 22, 3) := by decide +kernel
theorem dX5_lineCells_5 : decode cX5_lineCells 5 = .ok (.if_icmp .ge 10, 3) := by decide +kernel
theorem dX5_lineCells_8 : decode cX5_lineCells 8 = .ok (.aload_n 0, 1) := by decide +kernel
theorem dX5_lineCells_9 : decode cX5_lineCells 9 = .ok (.getfield 18, 3) := by decide +kernel
theorem dX5_lineCells_12 : decode cX5_lineCells 12 = .ok (.goto 7, 3) := by decide +kernel
theorem dX5_lineCells_15 : decode cX5_lineCells 15 = .ok (.aload_n 0, 1) := by decide +kernel
theorem dX5_lineCells_16 : decode cX5_lineCells 16 = .ok (.getfield 22, 3) := by decide +kernel
theorem dX5_lineCells_19 : decode cX5_lineCells 19 = .ok (.ireturn, 1) := by decide +kernel
theorem dX5_lineCell_0 : decode cX5_lineCell 0 = .ok (.iload_n 1, 1) := by decide +kernel
theorem dX5_lineCell_1 : decode cX5_lineCell 1 = .ok (.aload_n 0, 1) := by decide +kernel
theorem dX5_lineCell_2 : decode cX5_lineCell 2 = .ok (.getfield 22, 3) := by decide +kernel
theorem dX5_lineCell_5 : decode cX5_lineCell 5 = .ok (.if_icmp .ge 14, 3) := by decide +kernel
theorem dX5_lineCell_8 : decode cX5_lineCell 8 = .ok (.iload_n 1, 1) := by decide +kernel
theorem dX5_lineCell_9 : decode cX5_lineCell 9 = .ok (.aload_n 0, 1) := by decide +kernel
theorem dX5_lineCell_10 : decode cX5_lineCell 10 = .ok (.getfield 18, 3) := by decide +kernel
theorem dX5_lineCell_13 : decode cX5_lineCell 13 = .ok (.imul, 1) := by decide +kernel
theorem dX5_lineCell_14 : decode cX5_lineCell 14 = .ok (.iload_n 2, 1) := by decide +kernel
theorem dX5_lineCell_15 : decode cX5_lineCell 15 = .ok (.iadd, 1) := by decide +kernel
theorem dX5_lineCell_16 : decode cX5_lineCell 16 = .ok (.goto 16, 3) := by decide +kernel
theorem dX5_lineCell_19 : decode cX5_lineCell 19 = .ok (.iload_n 2, 1) := by decide +kernel
theorem dX5_lineCell_20 : decode cX5_lineCell 20 = .ok (.aload_n 0, 1) := by decide +kernel
theorem dX5_lineCell_21 : decode cX5_lineCell 21 = .ok (.getfield 18, 3) := by decide +kernel
theorem dX5_lineCell_24 : decode cX5_lineCell 24 = .ok (.imul, 1) := by decide +kernel
theorem dX5_lineCell_25 : decode cX5_lineCell 25 = .ok (.iload_n 1, 1) := by decide +kernel
theorem dX5_lineCell_26 : decode cX5_lineCell 26 = .ok (.iadd, 1) := by decide +kernel
theorem dX5_lineCell_27 : decode cX5_lineCell 27 = .ok (.aload_n 0, 1) := by decide +kernel
theorem dX5_lineCell_28 : decode cX5_lineCell 28 = .ok (.getfield 22, 3) := by decide +kernel
theorem dX5_lineCell_31 : decode cX5_lineCell 31 = .ok (.isub, 1) := by decide +kernel
theorem dX5_lineCell_32 : decode cX5_lineCell 32 = .ok (.ireturn, 1) := by decide +kernel
theorem dX6_init_0 : decode cX6_init 0 = .ok (.aload_n 0, 1) := by decide +kernel
theorem dX6_init_1 : decode cX6_init 1 = .ok (.invokespecial 3, 3) := by decide +kernel
theorem dX6_init_4 : decode cX6_init 4 = .ok (.aload_n 0, 1) := by decide +kernel
theorem dX6_init_5 : decode cX6_init 5 = .ok (.bipush 64, 2) := by decide +kernel
theorem dX6_init_7 : decode cX6_init 7 = .ok (.newarray .int, 2) := by decide +kernel
theorem dX6_init_9 : decode cX6_init 9 = .ok (.putfield 9, 3) := by decide +kernel
theorem dX6_init_12 : decode cX6_init 12 = .ok (.aload_n 0, 1) := by decide +kernel
theorem dX6_init_13 : decode cX6_init 13 = .ok (.aload_n 1, 1) := by decide +kernel
theorem dX6_init_14 : decode cX6_init 14 = .ok (.putfield 15, 3) := by decide +kernel
theorem dX6_init_17 : decode cX6_init 17 = .ok (.aload_n 0, 1) := by decide +kernel
theorem dX6_init_18 : decode cX6_init 18 = .ok (.aload_n 2, 1) := by decide +kernel
theorem dX6_init_19 : decode cX6_init 19 = .ok (.putfield 19, 3) := by decide +kernel
theorem dX6_init_22 : decode cX6_init 22 = .ok (.aload_n 0, 1) := by decide +kernel
theorem dX6_init_23 : decode cX6_init 23 = .ok (.aload_n 3, 1) := by decide +kernel
theorem dX6_init_24 : decode cX6_init 24 = .ok (.putfield 23, 3) := by decide +kernel
theorem dX6_init_27 : decode cX6_init 27 = .ok (.aload_n 0, 1) := by decide +kernel
theorem dX6_init_28 : decode cX6_init 28 = .ok (.new 27, 3) := by decide +kernel
theorem dX6_init_31 : decode cX6_init 31 = .ok (.dup, 1) := by decide +kernel
theorem dX6_init_32 : decode cX6_init 32 = .ok (.aload_n 1, 1) := by decide +kernel
theorem dX6_init_33 : decode cX6_init 33 = .ok (.aload_n 2, 1) := by decide +kernel
theorem dX6_init_34 : decode cX6_init 34 = .ok (.invokespecial 29, 3) := by decide +kernel
theorem dX6_init_37 : decode cX6_init 37 = .ok (.putfield 32, 3) := by decide +kernel
theorem dX6_init_40 : decode cX6_init 40 = .ok (.aload_n 0, 1) := by decide +kernel
theorem dX6_init_41 : decode cX6_init 41 = .ok (.new 27, 3) := by decide +kernel
theorem dX6_init_44 : decode cX6_init 44 = .ok (.dup, 1) := by decide +kernel
theorem dX6_init_45 : decode cX6_init 45 = .ok (.aload_n 1, 1) := by decide +kernel
theorem dX6_init_46 : decode cX6_init 46 = .ok (.aload_n 2, 1) := by decide +kernel
theorem dX6_init_47 : decode cX6_init 47 = .ok (.invokespecial 29, 3) := by decide +kernel
theorem dX6_init_50 : decode cX6_init 50 = .ok (.putfield 36, 3) := by decide +kernel
theorem dX6_init_53 : decode cX6_init 53 = .ok (.return_, 1) := by decide +kernel
theorem dX6_look_0 : decode cX6_look 0 = .ok (.aload_n 0, 1) := by decide +kernel
theorem dX6_look_1 : decode cX6_look 1 = .ok (.aload_n 1, 1) := by decide +kernel
theorem dX6_look_2 : decode cX6_look 2 = .ok (.putfield 23, 3) := by decide +kernel
theorem dX6_look_5 : decode cX6_look 5 = .ok (.aload_n 0, 1) := by decide +kernel
theorem dX6_look_6 : decode cX6_look 6 = .ok (.getfield 32, 3) := by decide +kernel
theorem dX6_look_9 : decode cX6_look 9 = .ok (.aload_n 1, 1) := by decide +kernel
theorem dX6_look_10 : decode cX6_look 10 = .ok (.iconst 1, 1) := by decide +kernel
theorem dX6_look_11 : decode cX6_look 11 = .ok (.invokevirtual 39, 3) := by decide +kernel
theorem dX6_look_14 : decode cX6_look 14 = .ok (.aload_n 0, 1) := by decide +kernel
theorem dX6_look_15 : decode cX6_look 15 = .ok (.getfield 36, 3) := by decide +kernel
theorem dX6_look_18 : decode cX6_look 18 = .ok (.aload_n 1, 1) := by decide +kernel
theorem dX6_look_19 : decode cX6_look 19 = .ok (.aload_n 0, 1) := by decide +kernel
theorem dX6_look_20 : decode cX6_look 20 = .ok (.getfield 19, 3) := by decide +kernel
theorem dX6_look_23 : decode cX6_look 23 = .ok (.invokevirtual 43, 3) := by decide +kernel
theorem dX6_look_26 : decode cX6_look 26 = .ok (.invokevirtual 39, 3) := by decide +kernel
theorem dX6_look_29 : decode cX6_look 29 = .ok (.return_, 1) := by decide +kernel
theorem dX6_grainMany_0 : decode cX6_grainMany 0 = .ok (.aload_n 0, 1) := by decide +kernel
theorem dX6_grainMany_1 : decode cX6_grainMany 1 = .ok (.getfield 32, 3) := by decide +kernel
theorem dX6_grainMany_4 : decode cX6_grainMany 4 = .ok (.invokevirtual 49, 3) := by decide +kernel
theorem dX6_grainMany_7 : decode cX6_grainMany 7 = .ok (.ireturn, 1) := by decide +kernel
theorem dX6_seenMany_0 : decode cX6_seenMany 0 = .ok (.aload_n 0, 1) := by decide +kernel
theorem dX6_seenMany_1 : decode cX6_seenMany 1 = .ok (.getfield 36, 3) := by decide +kernel
theorem dX6_seenMany_4 : decode cX6_seenMany 4 = .ok (.invokevirtual 49, 3) := by decide +kernel
theorem dX6_seenMany_7 : decode cX6_seenMany 7 = .ok (.ireturn, 1) := by decide +kernel
theorem dX6_metalNumber_0 : decode cX6_metalNumber 0 = .ok (.aload_n 0, 1) := by decide +kernel
theorem dX6_metalNumber_1 : decode cX6_metalNumber 1 = .ok (.getfield 15, 3) := by decide +kernel
theorem dX6_metalNumber_4 : decode cX6_metalNumber 4 = .ok (.invokevirtual 52, 3) := by decide +kernel
theorem dX6_metalNumber_7 : decode cX6_metalNumber 7 = .ok (.ifCond .ne 21, 3) := by decide +kernel
theorem dX6_metalNumber_10 : decode cX6_metalNumber 10 = .ok (.iload_n 1, 1) := by decide +kernel
theorem dX6_metalNumber_11 : decode cX6_metalNumber 11 = .ok (.bipush 14, 2) := by decide +kernel
theorem dX6_metalNumber_13 : decode cX6_metalNumber 13 = .ok (.if_icmp .ne 13, 3) := by decide +kernel
theorem dX6_metalNumber_16 : decode cX6_metalNumber 16 = .ok (.aload_n 0, 1) := by decide +kernel
theorem dX6_metalNumber_17 : decode cX6_metalNumber 17 = .ok (.getfield 23, 3) := by decide +kernel
theorem dX6_metalNumber_20 : decode cX6_metalNumber 20 = .ok (.invokevirtual 57, 3) := by decide +kernel
theorem dX6_metalNumber_23 : decode cX6_metalNumber 23 = .ok (.goto 4, 3) := by decide +kernel
theorem dX6_metalNumber_26 : decode cX6_metalNumber 26 = .ok (.iconst 0, 1) := by decide +kernel
theorem dX6_metalNumber_27 : decode cX6_metalNumber 27 = .ok (.ireturn, 1) := by decide +kernel
theorem dX6_metalNumber_28 : decode cX6_metalNumber 28 = .ok (.iload_n 1, 1) := by decide +kernel
theorem dX6_metalNumber_29 : decode cX6_metalNumber 29 = .ok (.tableswitch 212 0 15 #[79, 87, 95, 103, 115, 120, 125, 149, 154, 159, 164, 172, 180, 188, 196, 204], 79) := by decide +kernel
theorem dX6_metalNumber_108 : decode cX6_metalNumber 108 = .ok (.aload_n 0, 1) := by decide +kernel
theorem dX6_metalNumber_109 : decode cX6_metalNumber 109 = .ok (.getfield 23, 3) := by decide +kernel
theorem dX6_metalNumber_112 : decode cX6_metalNumber 112 = .ok (.invokevirtual 62, 3) := by decide +kernel
theorem dX6_metalNumber_115 : decode cX6_metalNumber 115 = .ok (.ireturn, 1) := by decide +kernel
theorem dX6_metalNumber_116 : decode cX6_metalNumber 116 = .ok (.aload_n 0, 1) := by decide +kernel
theorem dX6_metalNumber_117 : decode cX6_metalNumber 117 = .ok (.getfield 32, 3) := by decide +kernel
theorem dX6_metalNumber_120 : decode cX6_metalNumber 120 = .ok (.invokevirtual 49, 3) := by decide +kernel
theorem dX6_metalNumber_123 : decode cX6_metalNumber 123 = .ok (.ireturn, 1) := by decide +kernel
theorem dX6_metalNumber_124 : decode cX6_metalNumber 124 = .ok (.aload_n 0, 1) := by decide +kernel
theorem dX6_metalNumber_125 : decode cX6_metalNumber 125 = .ok (.getfield 36, 3) := by decide +kernel
theorem dX6_metalNumber_128 : decode cX6_metalNumber 128 = .ok (.invokevirtual 49, 3) := by decide +kernel
theorem dX6_metalNumber_131 : decode cX6_metalNumber 131 = .ok (.ireturn, 1) := by decide +kernel
theorem dX6_metalNumber_132 : decode cX6_metalNumber 132 = .ok (.aload_n 0, 1) := by decide +kernel
theorem dX6_metalNumber_133 : decode cX6_metalNumber 133 = .ok (.getfield 36, 3) := by decide +kernel
theorem dX6_metalNumber_136 : decode cX6_metalNumber 136 = .ok (.aload_n 0, 1) := by decide +kernel
theorem dX6_metalNumber_137 : decode cX6_metalNumber 137 = .ok (.getfield 23, 3) := by decide +kernel
theorem dX6_metalNumber_140 : decode cX6_metalNumber 140 = .ok (.invokevirtual 65, 3) := by decide +kernel
theorem dX6_metalNumber_143 : decode cX6_metalNumber 143 = .ok (.ireturn, 1) := by decide +kernel
theorem dX6_metalNumber_144 : decode cX6_metalNumber 144 = .ok (.aload_n 0, 1) := by decide +kernel
theorem dX6_metalNumber_145 : decode cX6_metalNumber 145 = .ok (.invokevirtual 69, 3) := by decide +kernel
theorem dX6_metalNumber_148 : decode cX6_metalNumber 148 = .ok (.ireturn, 1) := by decide +kernel
theorem dX6_metalNumber_149 : decode cX6_metalNumber 149 = .ok (.aload_n 0, 1) := by decide +kernel
theorem dX6_metalNumber_150 : decode cX6_metalNumber 150 = .ok (.invokevirtual 72, 3) := by decide +kernel
theorem dX6_metalNumber_153 : decode cX6_metalNumber 153 = .ok (.ireturn, 1) := by decide +kernel
theorem dX6_metalNumber_154 : decode cX6_metalNumber 154 = .ok (.aload_n 0, 1) := by decide +kernel
theorem dX6_metalNumber_155 : decode cX6_metalNumber 155 = .ok (.getfield 32, 3) := by decide +kernel
theorem dX6_metalNumber_158 : decode cX6_metalNumber 158 = .ok (.aload_n 0, 1) := by decide +kernel
theorem dX6_metalNumber_159 : decode cX6_metalNumber 159 = .ok (.getfield 23, 3) := by decide +kernel
theorem dX6_metalNumber_162 : decode cX6_metalNumber 162 = .ok (.invokevirtual 65, 3) := by decide +kernel
theorem dX6_metalNumber_165 : decode cX6_metalNumber 165 = .ok (.aload_n 0, 1) := by decide +kernel
theorem dX6_metalNumber_166 : decode cX6_metalNumber 166 = .ok (.getfield 36, 3) := by decide +kernel
theorem dX6_metalNumber_169 : decode cX6_metalNumber 169 = .ok (.aload_n 0, 1) := by decide +kernel
theorem dX6_metalNumber_170 : decode cX6_metalNumber 170 = .ok (.getfield 23, 3) := by decide +kernel
theorem dX6_metalNumber_173 : decode cX6_metalNumber 173 = .ok (.invokevirtual 65, 3) := by decide +kernel
theorem dX6_metalNumber_176 : decode cX6_metalNumber 176 = .ok (.isub, 1) := by decide +kernel
theorem dX6_metalNumber_177 : decode cX6_metalNumber 177 = .ok (.ireturn, 1) := by decide +kernel
theorem dX6_metalNumber_178 : decode cX6_metalNumber 178 = .ok (.aload_n 0, 1) := by decide +kernel
theorem dX6_metalNumber_179 : decode cX6_metalNumber 179 = .ok (.invokevirtual 75, 3) := by decide +kernel
theorem dX6_metalNumber_182 : decode cX6_metalNumber 182 = .ok (.ireturn, 1) := by decide +kernel
theorem dX6_metalNumber_183 : decode cX6_metalNumber 183 = .ok (.aload_n 0, 1) := by decide +kernel
theorem dX6_metalNumber_184 : decode cX6_metalNumber 184 = .ok (.invokevirtual 78, 3) := by decide +kernel
theorem dX6_metalNumber_187 : decode cX6_metalNumber 187 = .ok (.ireturn, 1) := by decide +kernel
theorem dX6_metalNumber_188 : decode cX6_metalNumber 188 = .ok (.aload_n 0, 1) := by decide +kernel
theorem dX6_metalNumber_189 : decode cX6_metalNumber 189 = .ok (.invokevirtual 81, 3) := by decide +kernel
theorem dX6_metalNumber_192 : decode cX6_metalNumber 192 = .ok (.ireturn, 1) := by decide +kernel
theorem dX6_metalNumber_193 : decode cX6_metalNumber 193 = .ok (.aload_n 0, 1) := by decide +kernel
theorem dX6_metalNumber_194 : decode cX6_metalNumber 194 = .ok (.getfield 23, 3) := by decide +kernel
theorem dX6_metalNumber_197 : decode cX6_metalNumber 197 = .ok (.invokevirtual 84, 3) := by decide +kernel
theorem dX6_metalNumber_200 : decode cX6_metalNumber 200 = .ok (.ireturn, 1) := by decide +kernel
theorem dX6_metalNumber_201 : decode cX6_metalNumber 201 = .ok (.aload_n 0, 1) := by decide +kernel
theorem dX6_metalNumber_202 : decode cX6_metalNumber 202 = .ok (.getfield 23, 3) := by decide +kernel
theorem dX6_metalNumber_205 : decode cX6_metalNumber 205 = .ok (.invokevirtual 87, 3) := by decide +kernel
theorem dX6_metalNumber_208 : decode cX6_metalNumber 208 = .ok (.ireturn, 1) := by decide +kernel
theorem dX6_metalNumber_209 : decode cX6_metalNumber 209 = .ok (.aload_n 0, 1) := by decide +kernel
theorem dX6_metalNumber_210 : decode cX6_metalNumber 210 = .ok (.getfield 23, 3) := by decide +kernel
theorem dX6_metalNumber_213 : decode cX6_metalNumber 213 = .ok (.invokevirtual 90, 3) := by decide +kernel
theorem dX6_metalNumber_216 : decode cX6_metalNumber 216 = .ok (.ireturn, 1) := by decide +kernel
theorem dX6_metalNumber_217 : decode cX6_metalNumber 217 = .ok (.aload_n 0, 1) := by decide +kernel
theorem dX6_metalNumber_218 : decode cX6_metalNumber 218 = .ok (.getfield 15, 3) := by decide +kernel
theorem dX6_metalNumber_221 : decode cX6_metalNumber 221 = .ok (.invokevirtual 52, 3) := by decide +kernel
theorem dX6_metalNumber_224 : decode cX6_metalNumber 224 = .ok (.ireturn, 1) := by decide +kernel
theorem dX6_metalNumber_225 : decode cX6_metalNumber 225 = .ok (.aload_n 0, 1) := by decide +kernel
theorem dX6_metalNumber_226 : decode cX6_metalNumber 226 = .ok (.getfield 23, 3) := by decide +kernel
theorem dX6_metalNumber_229 : decode cX6_metalNumber 229 = .ok (.invokevirtual 57, 3) := by decide +kernel
theorem dX6_metalNumber_232 : decode cX6_metalNumber 232 = .ok (.ireturn, 1) := by decide +kernel
theorem dX6_metalNumber_233 : decode cX6_metalNumber 233 = .ok (.aload_n 0, 1) := by decide +kernel
theorem dX6_metalNumber_234 : decode cX6_metalNumber 234 = .ok (.getfield 32, 3) := by decide +kernel
theorem dX6_metalNumber_237 : decode cX6_metalNumber 237 = .ok (.invokevirtual 93, 3) := by decide +kernel
theorem dX6_metalNumber_240 : decode cX6_metalNumber 240 = .ok (.ireturn, 1) := by decide +kernel
theorem dX6_metalNumber_241 : decode cX6_metalNumber 241 = .ok (.iconst 0, 1) := by decide +kernel
theorem dX6_metalNumber_242 : decode cX6_metalNumber 242 = .ok (.ireturn, 1) := by decide +kernel
theorem dX6_sizeByArea_0 : decode cX6_sizeByArea 0 = .ok (.aload_n 0, 1) := by decide +kernel
theorem dX6_sizeByArea_1 : decode cX6_sizeByArea 1 = .ok (.getfield 36, 3) := by decide +kernel
theorem dX6_sizeByArea_4 : decode cX6_sizeByArea 4 = .ok (.aload_n 0, 1) := by decide +kernel
theorem dX6_sizeByArea_5 : decode cX6_sizeByArea 5 = .ok (.getfield 23, 3) := by decide +kernel
theorem dX6_sizeByArea_8 : decode cX6_sizeByArea 8 = .ok (.invokevirtual 65, 3) := by decide +kernel
theorem dX6_sizeByArea_11 : decode cX6_sizeByArea 11 = .ok (.ireturn, 1) := by decide +kernel
theorem dX6_sizeByLines_0 : decode cX6_sizeByLines 0 = .ok (.aload_n 0, 1) := by decide +kernel
theorem dX6_sizeByLines_1 : decode cX6_sizeByLines 1 = .ok (.invokevirtual 81, 3) := by decide +kernel
theorem dX6_sizeByLines_4 : decode cX6_sizeByLines 4 = .ok (.aload_n 0, 1) := by decide +kernel
theorem dX6_sizeByLines_5 : decode cX6_sizeByLines 5 = .ok (.getfield 15, 3) := by decide +kernel
theorem dX6_sizeByLines_8 : decode cX6_sizeByLines 8 = .ok (.invokevirtual 96, 3) := by decide +kernel
theorem dX6_sizeByLines_11 : decode cX6_sizeByLines 11 = .ok (.iadd, 1) := by decide +kernel
theorem dX6_sizeByLines_12 : decode cX6_sizeByLines 12 = .ok (.istore_n 1, 1) := by decide +kernel
theorem dX6_sizeByLines_13 : decode cX6_sizeByLines 13 = .ok (.iload_n 1, 1) := by decide +kernel
theorem dX6_sizeByLines_14 : decode cX6_sizeByLines 14 = .ok (.ifCond .le 19, 3) := by decide +kernel
theorem dX6_sizeByLines_17 : decode cX6_sizeByLines 17 = .ok (.sipush 200, 3) := by decide +kernel
theorem dX6_sizeByLines_20 : decode cX6_sizeByLines 20 = .ok (.aload_n 0, 1) := by decide +kernel
theorem dX6_sizeByLines_21 : decode cX6_sizeByLines 21 = .ok (.getfield 15, 3) := by decide +kernel
theorem dX6_sizeByLines_24 : decode cX6_sizeByLines 24 = .ok (.invokevirtual 52, 3) := by decide +kernel
theorem dX6_sizeByLines_27 : decode cX6_sizeByLines 27 = .ok (.imul, 1) := by decide +kernel
theorem dX6_sizeByLines_28 : decode cX6_sizeByLines 28 = .ok (.iload_n 1, 1) := by decide +kernel
theorem dX6_sizeByLines_29 : decode cX6_sizeByLines 29 = .ok (.idiv, 1) := by decide +kernel
theorem dX6_sizeByLines_30 : decode cX6_sizeByLines 30 = .ok (.goto 4, 3) := by decide +kernel
theorem dX6_sizeByLines_33 : decode cX6_sizeByLines 33 = .ok (.iconst 0, 1) := by decide +kernel
theorem dX6_sizeByLines_34 : decode cX6_sizeByLines 34 = .ok (.ireturn, 1) := by decide +kernel
theorem dX6_sizeByChart_0 : decode cX6_sizeByChart 0 = .ok (.iconst 0, 1) := by decide +kernel
theorem dX6_sizeByChart_1 : decode cX6_sizeByChart 1 = .ok (.istore_n 1, 1) := by decide +kernel
theorem dX6_sizeByChart_2 : decode cX6_sizeByChart 2 = .ok (.iconst 1, 1) := by decide +kernel
theorem dX6_sizeByChart_3 : decode cX6_sizeByChart 3 = .ok (.istore_n 2, 1) := by decide +kernel
theorem dX6_sizeByChart_4 : decode cX6_sizeByChart 4 = .ok (.iload_n 2, 1) := by decide +kernel
theorem dX6_sizeByChart_5 : decode cX6_sizeByChart 5 = .ok (.aload_n 0, 1) := by decide +kernel
theorem dX6_sizeByChart_6 : decode cX6_sizeByChart 6 = .ok (.getfield 36, 3) := by decide +kernel
theorem dX6_sizeByChart_9 : decode cX6_sizeByChart 9 = .ok (.invokevirtual 49, 3) := by decide +kernel
theorem dX6_sizeByChart_12 : decode cX6_sizeByChart 12 = .ok (.if_icmp .ge 19, 3) := by decide +kernel
theorem dX6_sizeByChart_15 : decode cX6_sizeByChart 15 = .ok (.iload_n 2, 1) := by decide +kernel
theorem dX6_sizeByChart_16 : decode cX6_sizeByChart 16 = .ok (.bipush 64, 2) := by decide +kernel
theorem dX6_sizeByChart_18 : decode cX6_sizeByChart 18 = .ok (.if_icmp .ge 13, 3) := by decide +kernel
theorem dX6_sizeByChart_21 : decode cX6_sizeByChart 21 = .ok (.iinc 1 1, 3) := by decide +kernel
theorem dX6_sizeByChart_24 : decode cX6_sizeByChart 24 = .ok (.iload_n 2, 1) := by decide +kernel
theorem dX6_sizeByChart_25 : decode cX6_sizeByChart 25 = .ok (.iconst 2, 1) := by decide +kernel
theorem dX6_sizeByChart_26 : decode cX6_sizeByChart 26 = .ok (.imul, 1) := by decide +kernel
theorem dX6_sizeByChart_27 : decode cX6_sizeByChart 27 = .ok (.istore_n 2, 1) := by decide +kernel
theorem dX6_sizeByChart_28 : decode cX6_sizeByChart 28 = .ok (.goto (-24), 3) := by decide +kernel
theorem dX6_sizeByChart_31 : decode cX6_sizeByChart 31 = .ok (.iload_n 1, 1) := by decide +kernel
theorem dX6_sizeByChart_32 : decode cX6_sizeByChart 32 = .ok (.ireturn, 1) := by decide +kernel
theorem dX6_strength_0 : decode cX6_strength 0 = .ok (.aload_n 0, 1) := by decide +kernel
theorem dX6_strength_1 : decode cX6_strength 1 = .ok (.getfield 15, 3) := by decide +kernel
theorem dX6_strength_4 : decode cX6_strength 4 = .ok (.invokevirtual 52, 3) := by decide +kernel
theorem dX6_strength_7 : decode cX6_strength 7 = .ok (.istore_n 1, 1) := by decide +kernel
theorem dX6_strength_8 : decode cX6_strength 8 = .ok (.iload_n 1, 1) := by decide +kernel
theorem dX6_strength_9 : decode cX6_strength 9 = .ok (.ifCond .le 15, 3) := by decide +kernel
theorem dX6_strength_12 : decode cX6_strength 12 = .ok (.bipush 100, 2) := by decide +kernel
theorem dX6_strength_14 : decode cX6_strength 14 = .ok (.aload_n 0, 1) := by decide +kernel
theorem dX6_strength_15 : decode cX6_strength 15 = .ok (.invokevirtual 81, 3) := by decide +kernel
theorem dX6_strength_18 : decode cX6_strength 18 = .ok (.imul, 1) := by decide +kernel
theorem dX6_strength_19 : decode cX6_strength 19 = .ok (.iload_n 1, 1) := by decide +kernel
theorem dX6_strength_20 : decode cX6_strength 20 = .ok (.idiv, 1) := by decide +kernel
theorem dX6_strength_21 : decode cX6_strength 21 = .ok (.goto 4, 3) := by decide +kernel
theorem dX6_strength_24 : decode cX6_strength 24 = .ok (.iconst 0, 1) := by decide +kernel
theorem dX6_strength_25 : decode cX6_strength 25 = .ok (.istore_n 2, 1) := by decide +kernel
theorem dX6_strength_26 : decode cX6_strength 26 = .ok (.bipush 20, 2) := by decide +kernel
theorem dX6_strength_28 : decode cX6_strength 28 = .ok (.iload_n 2, 1) := by decide +kernel
theorem dX6_strength_29 : decode cX6_strength 29 = .ok (.iadd, 1) := by decide +kernel
theorem dX6_strength_30 : decode cX6_strength 30 = .ok (.iconst 4, 1) := by decide +kernel
theorem dX6_strength_31 : decode cX6_strength 31 = .ok (.aload_n 0, 1) := by decide +kernel
theorem dX6_strength_32 : decode cX6_strength 32 = .ok (.getfield 23, 3) := by decide +kernel
theorem dX6_strength_35 : decode cX6_strength 35 = .ok (.invokevirtual 84, 3) := by decide +kernel
theorem dX6_strength_38 : decode cX6_strength 38 = .ok (.imul, 1) := by decide +kernel
theorem dX6_strength_39 : decode cX6_strength 39 = .ok (.iadd, 1) := by decide +kernel
theorem dX6_strength_40 : decode cX6_strength 40 = .ok (.iconst 3, 1) := by decide +kernel
theorem dX6_strength_41 : decode cX6_strength 41 = .ok (.aload_n 0, 1) := by decide +kernel
theorem dX6_strength_42 : decode cX6_strength 42 = .ok (.getfield 23, 3) := by decide +kernel
theorem dX6_strength_45 : decode cX6_strength 45 = .ok (.invokevirtual 87, 3) := by decide +kernel
theorem dX6_strength_48 : decode cX6_strength 48 = .ok (.imul, 1) := by decide +kernel
theorem dX6_strength_49 : decode cX6_strength 49 = .ok (.iadd, 1) := by decide +kernel
theorem dX6_strength_50 : decode cX6_strength 50 = .ok (.aload_n 0, 1) := by decide +kernel
theorem dX6_strength_51 : decode cX6_strength 51 = .ok (.getfield 23, 3) := by decide +kernel
theorem dX6_strength_54 : decode cX6_strength 54 = .ok (.invokevirtual 90, 3) := by decide +kernel
theorem dX6_strength_57 : decode cX6_strength 57 = .ok (.iconst 2, 1) := by decide +kernel
theorem dX6_strength_58 : decode cX6_strength 58 = .ok (.idiv, 1) := by decide +kernel
theorem dX6_strength_59 : decode cX6_strength 59 = .ok (.iadd, 1) := by decide +kernel
theorem dX6_strength_60 : decode cX6_strength 60 = .ok (.ireturn, 1) := by decide +kernel
theorem dX6_cutsOf_0 : decode cX6_cutsOf 0 = .ok (.iconst 0, 1) := by decide +kernel
theorem dX6_cutsOf_1 : decode cX6_cutsOf 1 = .ok (.istore_n 2, 1) := by decide +kernel
theorem dX6_cutsOf_2 : decode cX6_cutsOf 2 = .ok (.iconst 1, 1) := by decide +kernel
theorem dX6_cutsOf_3 : decode cX6_cutsOf 3 = .ok (.istore_n 3, 1) := by decide +kernel
theorem dX6_cutsOf_4 : decode cX6_cutsOf 4 = .ok (.iload_n 3, 1) := by decide +kernel
theorem dX6_cutsOf_5 : decode cX6_cutsOf 5 = .ok (.aload_n 0, 1) := by decide +kernel
theorem dX6_cutsOf_6 : decode cX6_cutsOf 6 = .ok (.getfield 15, 3) := by decide +kernel
theorem dX6_cutsOf_9 : decode cX6_cutsOf 9 = .ok (.iload_n 1, 1) := by decide +kernel
theorem dX6_cutsOf_10 : decode cX6_cutsOf 10 = .ok (.invokevirtual 99, 3) := by decide +kernel
theorem dX6_cutsOf_13 : decode cX6_cutsOf 13 = .ok (.if_icmp .ge 67, 3) := by decide +kernel
theorem dX6_cutsOf_16 : decode cX6_cutsOf 16 = .ok (.aload_n 0, 1) := by decide +kernel
theorem dX6_cutsOf_17 : decode cX6_cutsOf 17 = .ok (.getfield 23, 3) := by decide +kernel
theorem dX6_cutsOf_20 : decode cX6_cutsOf 20 = .ok (.aload_n 0, 1) := by decide +kernel
theorem dX6_cutsOf_21 : decode cX6_cutsOf 21 = .ok (.getfield 15, 3) := by decide +kernel
theorem dX6_cutsOf_24 : decode cX6_cutsOf 24 = .ok (.iload_n 1, 1) := by decide +kernel
theorem dX6_cutsOf_25 : decode cX6_cutsOf 25 = .ok (.iload_n 3, 1) := by decide +kernel
theorem dX6_cutsOf_26 : decode cX6_cutsOf 26 = .ok (.iconst 1, 1) := by decide +kernel
theorem dX6_cutsOf_27 : decode cX6_cutsOf 27 = .ok (.isub, 1) := by decide +kernel
theorem dX6_cutsOf_28 : decode cX6_cutsOf 28 = .ok (.invokevirtual 103, 3) := by decide +kernel
theorem dX6_cutsOf_31 : decode cX6_cutsOf 31 = .ok (.invokevirtual 107, 3) := by decide +kernel
theorem dX6_cutsOf_34 : decode cX6_cutsOf 34 = .ok (.istore 4, 2) := by decide +kernel
theorem dX6_cutsOf_36 : decode cX6_cutsOf 36 = .ok (.aload_n 0, 1) := by decide +kernel
theorem dX6_cutsOf_37 : decode cX6_cutsOf 37 = .ok (.getfield 19, 3) := by decide +kernel
theorem dX6_cutsOf_40 : decode cX6_cutsOf 40 = .ok (.iload 4, 2) := by decide +kernel
theorem dX6_cutsOf_42 : decode cX6_cutsOf 42 = .ok (.aload_n 0, 1) := by decide +kernel
theorem dX6_cutsOf_43 : decode cX6_cutsOf 43 = .ok (.getfield 23, 3) := by decide +kernel
theorem dX6_cutsOf_46 : decode cX6_cutsOf 46 = .ok (.aload_n 0, 1) := by decide +kernel
theorem dX6_cutsOf_47 : decode cX6_cutsOf 47 = .ok (.getfield 15, 3) := by decide +kernel
theorem dX6_cutsOf_50 : decode cX6_cutsOf 50 = .ok (.iload_n 1, 1) := by decide +kernel
theorem dX6_cutsOf_51 : decode cX6_cutsOf 51 = .ok (.iload_n 3, 1) := by decide +kernel
theorem dX6_cutsOf_52 : decode cX6_cutsOf 52 = .ok (.invokevirtual 103, 3) := by decide +kernel
theorem dX6_cutsOf_55 : decode cX6_cutsOf 55 = .ok (.invokevirtual 107, 3) := by decide +kernel
theorem dX6_cutsOf_58 : decode cX6_cutsOf 58 = .ok (.aload_n 0, 1) := by decide +kernel
theorem dX6_cutsOf_59 : decode cX6_cutsOf 59 = .ok (.getfield 19, 3) := by decide +kernel
theorem dX6_cutsOf_62 : decode cX6_cutsOf 62 = .ok (.invokevirtual 43, 3) := by decide +kernel
theorem dX6_cutsOf_65 : decode cX6_cutsOf 65 = .ok (.invokevirtual 110, 3) := by decide +kernel
theorem dX6_cutsOf_68 : decode cX6_cutsOf 68 = .ok (.ifCond .eq 6, 3) := by decide +kernel
theorem dX6_cutsOf_71 : decode cX6_cutsOf 71 = .ok (.iinc 2 1, 3) := by decide +kernel
theorem dX6_cutsOf_74 : decode cX6_cutsOf 74 = .ok (.iinc 3 1, 3) := by decide +kernel
theorem dX6_cutsOf_77 : decode cX6_cutsOf 77 = .ok (.goto (-73), 3) := by decide +kernel
theorem dX6_cutsOf_80 : decode cX6_cutsOf 80 = .ok (.iload_n 2, 1) := by decide +kernel
theorem dX6_cutsOf_81 : decode cX6_cutsOf 81 = .ok (.ireturn, 1) := by decide +kernel
theorem dX6_allCuts_0 : decode cX6_allCuts 0 = .ok (.iconst 0, 1) := by decide +kernel
theorem dX6_allCuts_1 : decode cX6_allCuts 1 = .ok (.istore_n 1, 1) := by decide +kernel
theorem dX6_allCuts_2 : decode cX6_allCuts 2 = .ok (.iconst 0, 1) := by decide +kernel
theorem dX6_allCuts_3 : decode cX6_allCuts 3 = .ok (.istore_n 2, 1) := by decide +kernel
theorem dX6_allCuts_4 : decode cX6_allCuts 4 = .ok (.iload_n 2, 1) := by decide +kernel
theorem dX6_allCuts_5 : decode cX6_allCuts 5 = .ok (.aload_n 0, 1) := by decide +kernel
theorem dX6_allCuts_6 : decode cX6_allCuts 6 = .ok (.getfield 15, 3) := by decide +kernel
theorem dX6_allCuts_9 : decode cX6_allCuts 9 = .ok (.invokevirtual 96, 3) := by decide +kernel
theorem dX6_allCuts_12 : decode cX6_allCuts 12 = .ok (.if_icmp .ge 17, 3) := by decide +kernel
theorem dX6_allCuts_15 : decode cX6_allCuts 15 = .ok (.iload_n 1, 1) := by decide +kernel
theorem dX6_allCuts_16 : decode cX6_allCuts 16 = .ok (.aload_n 0, 1) := by decide +kernel
theorem dX6_allCuts_17 : decode cX6_allCuts 17 = .ok (.iload_n 2, 1) := by decide +kernel
theorem dX6_allCuts_18 : decode cX6_allCuts 18 = .ok (.invokevirtual 114, 3) := by decide +kernel
theorem dX6_allCuts_21 : decode cX6_allCuts 21 = .ok (.iadd, 1) := by decide +kernel
theorem dX6_allCuts_22 : decode cX6_allCuts 22 = .ok (.istore_n 1, 1) := by decide +kernel
theorem dX6_allCuts_23 : decode cX6_allCuts 23 = .ok (.iinc 2 1, 3) := by decide +kernel
theorem dX6_allCuts_26 : decode cX6_allCuts 26 = .ok (.goto (-22), 3) := by decide +kernel
theorem dX6_allCuts_29 : decode cX6_allCuts 29 = .ok (.iload_n 1, 1) := by decide +kernel
theorem dX6_allCuts_30 : decode cX6_allCuts 30 = .ok (.ireturn, 1) := by decide +kernel
theorem dX6_junctions_0 : decode cX6_junctions 0 = .ok (.iconst 0, 1) := by decide +kernel
theorem dX6_junctions_1 : decode cX6_junctions 1 = .ok (.istore_n 1, 1) := by decide +kernel
theorem dX6_junctions_2 : decode cX6_junctions 2 = .ok (.iconst 1, 1) := by decide +kernel
theorem dX6_junctions_3 : decode cX6_junctions 3 = .ok (.istore_n 2, 1) := by decide +kernel
theorem dX6_junctions_4 : decode cX6_junctions 4 = .ok (.iload_n 2, 1) := by decide +kernel
theorem dX6_junctions_5 : decode cX6_junctions 5 = .ok (.aload_n 0, 1) := by decide +kernel
theorem dX6_junctions_6 : decode cX6_junctions 6 = .ok (.getfield 15, 3) := by decide +kernel
theorem dX6_junctions_9 : decode cX6_junctions 9 = .ok (.invokevirtual 117, 3) := by decide +kernel
theorem dX6_junctions_12 : decode cX6_junctions 12 = .ok (.if_icmp .ge 53, 3) := by decide +kernel
theorem dX6_junctions_15 : decode cX6_junctions 15 = .ok (.iconst 1, 1) := by decide +kernel
theorem dX6_junctions_16 : decode cX6_junctions 16 = .ok (.istore_n 3, 1) := by decide +kernel
theorem dX6_junctions_17 : decode cX6_junctions 17 = .ok (.iload_n 3, 1) := by decide +kernel
theorem dX6_junctions_18 : decode cX6_junctions 18 = .ok (.aload_n 0, 1) := by decide +kernel
theorem dX6_junctions_19 : decode cX6_junctions 19 = .ok (.getfield 15, 3) := by decide +kernel
theorem dX6_junctions_22 : decode cX6_junctions 22 = .ok (.invokevirtual 120, 3) := by decide +kernel
theorem dX6_junctions_25 : decode cX6_junctions 25 = .ok (.if_icmp .ge 34, 3) := by decide +kernel
theorem dX6_junctions_28 : decode cX6_junctions 28 = .ok (.aload_n 0, 1) := by decide +kernel
theorem dX6_junctions_29 : decode cX6_junctions 29 = .ok (.iload_n 2, 1) := by decide +kernel
theorem dX6_junctions_30 : decode cX6_junctions 30 = .ok (.aload_n 0, 1) := by decide +kernel
theorem dX6_junctions_31 : decode cX6_junctions 31 = .ok (.getfield 15, 3) := by decide +kernel
theorem dX6_junctions_34 : decode cX6_junctions 34 = .ok (.invokevirtual 120, 3) := by decide +kernel
theorem dX6_junctions_37 : decode cX6_junctions 37 = .ok (.imul, 1) := by decide +kernel
theorem dX6_junctions_38 : decode cX6_junctions 38 = .ok (.iload_n 3, 1) := by decide +kernel
theorem dX6_junctions_39 : decode cX6_junctions 39 = .ok (.iadd, 1) := by decide +kernel
theorem dX6_junctions_40 : decode cX6_junctions 40 = .ok (.invokevirtual 123, 3) := by decide +kernel
theorem dX6_junctions_43 : decode cX6_junctions 43 = .ok (.invokestatic 126, 3) := by decide +kernel
theorem dX6_junctions_46 : decode cX6_junctions 46 = .ok (.iconst 3, 1) := by decide +kernel
theorem dX6_junctions_47 : decode cX6_junctions 47 = .ok (.if_icmp .lt 6, 3) := by decide +kernel
theorem dX6_junctions_50 : decode cX6_junctions 50 = .ok (.iinc 1 1, 3) := by decide +kernel
theorem dX6_junctions_53 : decode cX6_junctions 53 = .ok (.iinc 3 1, 3) := by decide +kernel
theorem dX6_junctions_56 : decode cX6_junctions 56 = .ok (.goto (-39), 3) := by decide +kernel
theorem dX6_junctions_59 : decode cX6_junctions 59 = .ok (.iinc 2 1, 3) := by decide +kernel
theorem dX6_junctions_62 : decode cX6_junctions 62 = .ok (.goto (-58), 3) := by decide +kernel
theorem dX6_junctions_65 : decode cX6_junctions 65 = .ok (.iload_n 1, 1) := by decide +kernel
theorem dX6_junctions_66 : decode cX6_junctions 66 = .ok (.ireturn, 1) := by decide +kernel
theorem dX6_marksOfSquare_0 : decode cX6_marksOfSquare 0 = .ok (.iload_n 1, 1) := by decide +kernel
theorem dX6_marksOfSquare_1 : decode cX6_marksOfSquare 1 = .ok (.aload_n 0, 1) := by decide +kernel
theorem dX6_marksOfSquare_2 : decode cX6_marksOfSquare 2 = .ok (.getfield 15, 3) := by decide +kernel
theorem dX6_marksOfSquare_5 : decode cX6_marksOfSquare 5 = .ok (.invokevirtual 120, 3) := by decide +kernel
theorem dX6_marksOfSquare_8 : decode cX6_marksOfSquare 8 = .ok (.isub, 1) := by decide +kernel
theorem dX6_marksOfSquare_9 : decode cX6_marksOfSquare 9 = .ok (.istore_n 2, 1) := by decide +kernel
theorem dX6_marksOfSquare_10 : decode cX6_marksOfSquare 10 = .ok (.iconst 1, 1) := by decide +kernel
theorem dX6_marksOfSquare_11 : decode cX6_marksOfSquare 11 = .ok (.aload_n 0, 1) := by decide +kernel
theorem dX6_marksOfSquare_12 : decode cX6_marksOfSquare 12 = .ok (.getfield 23, 3) := by decide +kernel
theorem dX6_marksOfSquare_15 : decode cX6_marksOfSquare 15 = .ok (.iload_n 1, 1) := by decide +kernel
theorem dX6_marksOfSquare_16 : decode cX6_marksOfSquare 16 = .ok (.invokevirtual 107, 3) := by decide +kernel
theorem dX6_marksOfSquare_19 : decode cX6_marksOfSquare 19 = .ok (.ishl, 1) := by decide +kernel
theorem dX6_marksOfSquare_20 : decode cX6_marksOfSquare 20 = .ok (.iconst 1, 1) := by decide +kernel
theorem dX6_marksOfSquare_21 : decode cX6_marksOfSquare 21 = .ok (.aload_n 0, 1) := by decide +kernel
theorem dX6_marksOfSquare_22 : decode cX6_marksOfSquare 22 = .ok (.getfield 23, 3) := by decide +kernel
theorem dX6_marksOfSquare_25 : decode cX6_marksOfSquare 25 = .ok (.iload_n 1, 1) := by decide +kernel
theorem dX6_marksOfSquare_26 : decode cX6_marksOfSquare 26 = .ok (.iconst 1, 1) := by decide +kernel
theorem dX6_marksOfSquare_27 : decode cX6_marksOfSquare 27 = .ok (.isub, 1) := by decide +kernel
theorem dX6_marksOfSquare_28 : decode cX6_marksOfSquare 28 = .ok (.invokevirtual 107, 3) := by decide +kernel
theorem dX6_marksOfSquare_31 : decode cX6_marksOfSquare 31 = .ok (.ishl, 1) := by decide +kernel
theorem dX6_marksOfSquare_32 : decode cX6_marksOfSquare 32 = .ok (.ior, 1) := by decide +kernel
theorem dX6_marksOfSquare_33 : decode cX6_marksOfSquare 33 = .ok (.iconst 1, 1) := by decide +kernel
theorem dX6_marksOfSquare_34 : decode cX6_marksOfSquare 34 = .ok (.aload_n 0, 1) := by decide +kernel
theorem dX6_marksOfSquare_35 : decode cX6_marksOfSquare 35 = .ok (.getfield 23, 3) := by decide +kernel
theorem dX6_marksOfSquare_38 : decode cX6_marksOfSquare 38 = .ok (.iload_n 2, 1) := by decide +kernel
theorem dX6_marksOfSquare_39 : decode cX6_marksOfSquare 39 = .ok (.invokevirtual 107, 3) := by decide +kernel
theorem dX6_marksOfSquare_42 : decode cX6_marksOfSquare 42 = .ok (.ishl, 1) := by decide +kernel
theorem dX6_marksOfSquare_43 : decode cX6_marksOfSquare 43 = .ok (.ior, 1) := by decide +kernel
theorem dX6_marksOfSquare_44 : decode cX6_marksOfSquare 44 = .ok (.iconst 1, 1) := by decide +kernel
theorem dX6_marksOfSquare_45 : decode cX6_marksOfSquare 45 = .ok (.aload_n 0, 1) := by decide +kernel
theorem dX6_marksOfSquare_46 : decode cX6_marksOfSquare 46 = .ok (.getfield 23, 3) := by decide +kernel
theorem dX6_marksOfSquare_49 : decode cX6_marksOfSquare 49 = .ok (.iload_n 2, 1) := by decide +kernel
theorem dX6_marksOfSquare_50 : decode cX6_marksOfSquare 50 = .ok (.iconst 1, 1) := by decide +kernel
theorem dX6_marksOfSquare_51 : decode cX6_marksOfSquare 51 = .ok (.isub, 1) := by decide +kernel
theorem dX6_marksOfSquare_52 : decode cX6_marksOfSquare 52 = .ok (.invokevirtual 107, 3) := by decide +kernel
theorem dX6_marksOfSquare_55 : decode cX6_marksOfSquare 55 = .ok (.ishl, 1) := by decide +kernel
theorem dX6_marksOfSquare_56 : decode cX6_marksOfSquare 56 = .ok (.ior, 1) := by decide +kernel
theorem dX6_marksOfSquare_57 : decode cX6_marksOfSquare 57 = .ok (.istore_n 3, 1) := by decide +kernel
theorem dX6_marksOfSquare_58 : decode cX6_marksOfSquare 58 = .ok (.iload_n 3, 1) := by decide +kernel
theorem dX6_marksOfSquare_59 : decode cX6_marksOfSquare 59 = .ok (.bipush (-2), 2) := by decide +kernel
theorem dX6_marksOfSquare_61 : decode cX6_marksOfSquare 61 = .ok (.iand, 1) := by decide +kernel
theorem dX6_marksOfSquare_62 : decode cX6_marksOfSquare 62 = .ok (.ireturn, 1) := by decide +kernel
theorem dX6_cellNumber_0 : decode cX6_cellNumber 0 = .ok (.iload_n 2, 1) := by decide +kernel
theorem dX6_cellNumber_1 : decode cX6_cellNumber 1 = .ok (.tableswitch 90 0 5 #[39, 48, 57, 66, 72, 81], 39) := by decide +kernel
theorem dX6_cellNumber_40 : decode cX6_cellNumber 40 = .ok (.aload_n 0, 1) := by decide +kernel
theorem dX6_cellNumber_41 : decode cX6_cellNumber 41 = .ok (.getfield 23, 3) := by decide +kernel
theorem dX6_cellNumber_44 : decode cX6_cellNumber 44 = .ok (.iload_n 1, 1) := by decide +kernel
theorem dX6_cellNumber_45 : decode cX6_cellNumber 45 = .ok (.invokevirtual 107, 3) := by decide +kernel
theorem dX6_cellNumber_48 : decode cX6_cellNumber 48 = .ok (.ireturn, 1) := by decide +kernel
theorem dX6_cellNumber_49 : decode cX6_cellNumber 49 = .ok (.aload_n 0, 1) := by decide +kernel
theorem dX6_cellNumber_50 : decode cX6_cellNumber 50 = .ok (.getfield 23, 3) := by decide +kernel
theorem dX6_cellNumber_53 : decode cX6_cellNumber 53 = .ok (.iload_n 1, 1) := by decide +kernel
theorem dX6_cellNumber_54 : decode cX6_cellNumber 54 = .ok (.invokevirtual 131, 3) := by decide +kernel
theorem dX6_cellNumber_57 : decode cX6_cellNumber 57 = .ok (.ireturn, 1) := by decide +kernel
theorem dX6_cellNumber_58 : decode cX6_cellNumber 58 = .ok (.aload_n 0, 1) := by decide +kernel
theorem dX6_cellNumber_59 : decode cX6_cellNumber 59 = .ok (.getfield 23, 3) := by decide +kernel
theorem dX6_cellNumber_62 : decode cX6_cellNumber 62 = .ok (.iload_n 1, 1) := by decide +kernel
theorem dX6_cellNumber_63 : decode cX6_cellNumber 63 = .ok (.invokevirtual 134, 3) := by decide +kernel
theorem dX6_cellNumber_66 : decode cX6_cellNumber 66 = .ok (.ireturn, 1) := by decide +kernel
theorem dX6_cellNumber_67 : decode cX6_cellNumber 67 = .ok (.aload_n 0, 1) := by decide +kernel
theorem dX6_cellNumber_68 : decode cX6_cellNumber 68 = .ok (.iload_n 1, 1) := by decide +kernel
theorem dX6_cellNumber_69 : decode cX6_cellNumber 69 = .ok (.invokevirtual 137, 3) := by decide +kernel
theorem dX6_cellNumber_72 : decode cX6_cellNumber 72 = .ok (.ireturn, 1) := by decide +kernel
theorem dX6_cellNumber_73 : decode cX6_cellNumber 73 = .ok (.aload_n 0, 1) := by decide +kernel
theorem dX6_cellNumber_74 : decode cX6_cellNumber 74 = .ok (.getfield 32, 3) := by decide +kernel
theorem dX6_cellNumber_77 : decode cX6_cellNumber 77 = .ok (.iload_n 1, 1) := by decide +kernel
theorem dX6_cellNumber_78 : decode cX6_cellNumber 78 = .ok (.invokevirtual 140, 3) := by decide +kernel
theorem dX6_cellNumber_81 : decode cX6_cellNumber 81 = .ok (.ireturn, 1) := by decide +kernel
theorem dX6_cellNumber_82 : decode cX6_cellNumber 82 = .ok (.aload_n 0, 1) := by decide +kernel
theorem dX6_cellNumber_83 : decode cX6_cellNumber 83 = .ok (.getfield 23, 3) := by decide +kernel
theorem dX6_cellNumber_86 : decode cX6_cellNumber 86 = .ok (.iload_n 1, 1) := by decide +kernel
theorem dX6_cellNumber_87 : decode cX6_cellNumber 87 = .ok (.invokevirtual 143, 3) := by decide +kernel
theorem dX6_cellNumber_90 : decode cX6_cellNumber 90 = .ok (.ireturn, 1) := by decide +kernel
theorem dX6_cellNumber_91 : decode cX6_cellNumber 91 = .ok (.iconst 0, 1) := by decide +kernel
theorem dX6_cellNumber_92 : decode cX6_cellNumber 92 = .ok (.ireturn, 1) := by decide +kernel
theorem dX6_othersBeside_0 : decode cX6_othersBeside 0 = .ok (.iconst 0, 1) := by decide +kernel
theorem dX6_othersBeside_1 : decode cX6_othersBeside 1 = .ok (.istore_n 2, 1) := by decide +kernel
theorem dX6_othersBeside_2 : decode cX6_othersBeside 2 = .ok (.iconst 0, 1) := by decide +kernel
theorem dX6_othersBeside_3 : decode cX6_othersBeside 3 = .ok (.istore_n 3, 1) := by decide +kernel
theorem dX6_othersBeside_4 : decode cX6_othersBeside 4 = .ok (.iload_n 3, 1) := by decide +kernel
theorem dX6_othersBeside_5 : decode cX6_othersBeside 5 = .ok (.aload_n 0, 1) := by decide +kernel
theorem dX6_othersBeside_6 : decode cX6_othersBeside 6 = .ok (.getfield 15, 3) := by decide +kernel
theorem dX6_othersBeside_9 : decode cX6_othersBeside 9 = .ok (.iload_n 1, 1) := by decide +kernel
theorem dX6_othersBeside_10 : decode cX6_othersBeside 10 = .ok (.invokevirtual 146, 3) := by decide +kernel
theorem dX6_othersBeside_13 : decode cX6_othersBeside 13 = .ok (.if_icmp .ge 48, 3) := by decide +kernel
theorem dX6_othersBeside_16 : decode cX6_othersBeside 16 = .ok (.aload_n 0, 1) := by decide +kernel
theorem dX6_othersBeside_17 : decode cX6_othersBeside 17 = .ok (.getfield 23, 3) := by decide +kernel
theorem dX6_othersBeside_20 : decode cX6_othersBeside 20 = .ok (.aload_n 0, 1) := by decide +kernel
theorem dX6_othersBeside_21 : decode cX6_othersBeside 21 = .ok (.getfield 15, 3) := by decide +kernel
theorem dX6_othersBeside_24 : decode cX6_othersBeside 24 = .ok (.iload_n 1, 1) := by decide +kernel
theorem dX6_othersBeside_25 : decode cX6_othersBeside 25 = .ok (.iload_n 3, 1) := by decide +kernel
theorem dX6_othersBeside_26 : decode cX6_othersBeside 26 = .ok (.invokevirtual 149, 3) := by decide +kernel
theorem dX6_othersBeside_29 : decode cX6_othersBeside 29 = .ok (.invokevirtual 107, 3) := by decide +kernel
theorem dX6_othersBeside_32 : decode cX6_othersBeside 32 = .ok (.istore 4, 2) := by decide +kernel
theorem dX6_othersBeside_34 : decode cX6_othersBeside 34 = .ok (.iload 4, 2) := by decide +kernel
theorem dX6_othersBeside_36 : decode cX6_othersBeside 36 = .ok (.ifCond .eq 19, 3) := by decide +kernel
theorem dX6_othersBeside_39 : decode cX6_othersBeside 39 = .ok (.iload 4, 2) := by decide +kernel
theorem dX6_othersBeside_41 : decode cX6_othersBeside 41 = .ok (.aload_n 0, 1) := by decide +kernel
theorem dX6_othersBeside_42 : decode cX6_othersBeside 42 = .ok (.getfield 23, 3) := by decide +kernel
theorem dX6_othersBeside_45 : decode cX6_othersBeside 45 = .ok (.iload_n 1, 1) := by decide +kernel
theorem dX6_othersBeside_46 : decode cX6_othersBeside 46 = .ok (.invokevirtual 107, 3) := by decide +kernel
theorem dX6_othersBeside_49 : decode cX6_othersBeside 49 = .ok (.if_icmp .eq 6, 3) := by decide +kernel
theorem dX6_othersBeside_52 : decode cX6_othersBeside 52 = .ok (.iinc 2 1, 3) := by decide +kernel
theorem dX6_othersBeside_55 : decode cX6_othersBeside 55 = .ok (.iinc 3 1, 3) := by decide +kernel
theorem dX6_othersBeside_58 : decode cX6_othersBeside 58 = .ok (.goto (-54), 3) := by decide +kernel
theorem dX6_othersBeside_61 : decode cX6_othersBeside 61 = .ok (.iload_n 2, 1) := by decide +kernel
theorem dX6_othersBeside_62 : decode cX6_othersBeside 62 = .ok (.ireturn, 1) := by decide +kernel
theorem dX6_grainNumber_0 : decode cX6_grainNumber 0 = .ok (.iload_n 2, 1) := by decide +kernel
theorem dX6_grainNumber_1 : decode cX6_grainNumber 1 = .ok (.tableswitch 101 0 6 #[43, 59, 68, 74, 80, 89, 95], 43) := by decide +kernel
theorem dX6_grainNumber_44 : decode cX6_grainNumber 44 = .ok (.aload_n 0, 1) := by decide +kernel
theorem dX6_grainNumber_45 : decode cX6_grainNumber 45 = .ok (.getfield 23, 3) := by decide +kernel
theorem dX6_grainNumber_48 : decode cX6_grainNumber 48 = .ok (.aload_n 0, 1) := by decide +kernel
theorem dX6_grainNumber_49 : decode cX6_grainNumber 49 = .ok (.getfield 32, 3) := by decide +kernel
theorem dX6_grainNumber_52 : decode cX6_grainNumber 52 = .ok (.iload_n 1, 1) := by decide +kernel
theorem dX6_grainNumber_53 : decode cX6_grainNumber 53 = .ok (.invokevirtual 152, 3) := by decide +kernel
theorem dX6_grainNumber_56 : decode cX6_grainNumber 56 = .ok (.invokevirtual 107, 3) := by decide +kernel
theorem dX6_grainNumber_59 : decode cX6_grainNumber 59 = .ok (.ireturn, 1) := by decide +kernel
theorem dX6_grainNumber_60 : decode cX6_grainNumber 60 = .ok (.aload_n 0, 1) := by decide +kernel
theorem dX6_grainNumber_61 : decode cX6_grainNumber 61 = .ok (.getfield 32, 3) := by decide +kernel
theorem dX6_grainNumber_64 : decode cX6_grainNumber 64 = .ok (.iload_n 1, 1) := by decide +kernel
theorem dX6_grainNumber_65 : decode cX6_grainNumber 65 = .ok (.invokevirtual 155, 3) := by decide +kernel
theorem dX6_grainNumber_68 : decode cX6_grainNumber 68 = .ok (.ireturn, 1) := by decide +kernel
theorem dX6_grainNumber_69 : decode cX6_grainNumber 69 = .ok (.aload_n 0, 1) := by decide +kernel
theorem dX6_grainNumber_70 : decode cX6_grainNumber 70 = .ok (.iload_n 1, 1) := by decide +kernel
theorem dX6_grainNumber_71 : decode cX6_grainNumber 71 = .ok (.invokevirtual 158, 3) := by decide +kernel
theorem dX6_grainNumber_74 : decode cX6_grainNumber 74 = .ok (.ireturn, 1) := by decide +kernel
theorem dX6_grainNumber_75 : decode cX6_grainNumber 75 = .ok (.aload_n 0, 1) := by decide +kernel
theorem dX6_grainNumber_76 : decode cX6_grainNumber 76 = .ok (.iload_n 1, 1) := by decide +kernel
theorem dX6_grainNumber_77 : decode cX6_grainNumber 77 = .ok (.invokevirtual 161, 3) := by decide +kernel
theorem dX6_grainNumber_80 : decode cX6_grainNumber 80 = .ok (.ireturn, 1) := by decide +kernel
theorem dX6_grainNumber_81 : decode cX6_grainNumber 81 = .ok (.aload_n 0, 1) := by decide +kernel
theorem dX6_grainNumber_82 : decode cX6_grainNumber 82 = .ok (.getfield 32, 3) := by decide +kernel
theorem dX6_grainNumber_85 : decode cX6_grainNumber 85 = .ok (.iload_n 1, 1) := by decide +kernel
theorem dX6_grainNumber_86 : decode cX6_grainNumber 86 = .ok (.invokevirtual 152, 3) := by decide +kernel
theorem dX6_grainNumber_89 : decode cX6_grainNumber 89 = .ok (.ireturn, 1) := by decide +kernel
theorem dX6_grainNumber_90 : decode cX6_grainNumber 90 = .ok (.aload_n 0, 1) := by decide +kernel
theorem dX6_grainNumber_91 : decode cX6_grainNumber 91 = .ok (.iload_n 1, 1) := by decide +kernel
theorem dX6_grainNumber_92 : decode cX6_grainNumber 92 = .ok (.invokevirtual 164, 3) := by decide +kernel
theorem dX6_grainNumber_95 : decode cX6_grainNumber 95 = .ok (.ireturn, 1) := by decide +kernel
theorem dX6_grainNumber_96 : decode cX6_grainNumber 96 = .ok (.aload_n 0, 1) := by decide +kernel
theorem dX6_grainNumber_97 : decode cX6_grainNumber 97 = .ok (.iload_n 1, 1) := by decide +kernel
theorem dX6_grainNumber_98 : decode cX6_grainNumber 98 = .ok (.invokevirtual 167, 3) := by decide +kernel
theorem dX6_grainNumber_101 : decode cX6_grainNumber 101 = .ok (.ireturn, 1) := by decide +kernel
theorem dX6_grainNumber_102 : decode cX6_grainNumber 102 = .ok (.iconst 0, 1) := by decide +kernel
theorem dX6_grainNumber_103 : decode cX6_grainNumber 103 = .ok (.ireturn, 1) := by decide +kernel
theorem dX6_roundOf_0 : decode cX6_roundOf 0 = .ok (.iconst 0, 1) := by decide +kernel
theorem dX6_roundOf_1 : decode cX6_roundOf 1 = .ok (.istore_n 2, 1) := by decide +kernel
theorem dX6_roundOf_2 : decode cX6_roundOf 2 = .ok (.iconst 0, 1) := by decide +kernel
theorem dX6_roundOf_3 : decode cX6_roundOf 3 = .ok (.istore_n 3, 1) := by decide +kernel
theorem dX6_roundOf_4 : decode cX6_roundOf 4 = .ok (.iload_n 3, 1) := by decide +kernel
theorem dX6_roundOf_5 : decode cX6_roundOf 5 = .ok (.aload_n 0, 1) := by decide +kernel
theorem dX6_roundOf_6 : decode cX6_roundOf 6 = .ok (.getfield 15, 3) := by decide +kernel
theorem dX6_roundOf_9 : decode cX6_roundOf 9 = .ok (.invokevirtual 52, 3) := by decide +kernel
theorem dX6_roundOf_12 : decode cX6_roundOf 12 = .ok (.if_icmp .ge 67, 3) := by decide +kernel
theorem dX6_roundOf_15 : decode cX6_roundOf 15 = .ok (.iconst 0, 1) := by decide +kernel
theorem dX6_roundOf_16 : decode cX6_roundOf 16 = .ok (.istore 4, 2) := by decide +kernel
theorem dX6_roundOf_18 : decode cX6_roundOf 18 = .ok (.iload 4, 2) := by decide +kernel
theorem dX6_roundOf_20 : decode cX6_roundOf 20 = .ok (.aload_n 0, 1) := by decide +kernel
theorem dX6_roundOf_21 : decode cX6_roundOf 21 = .ok (.getfield 15, 3) := by decide +kernel
theorem dX6_roundOf_24 : decode cX6_roundOf 24 = .ok (.iload_n 3, 1) := by decide +kernel
theorem dX6_roundOf_25 : decode cX6_roundOf 25 = .ok (.invokevirtual 146, 3) := by decide +kernel
theorem dX6_roundOf_28 : decode cX6_roundOf 28 = .ok (.if_icmp .ge 45, 3) := by decide +kernel
theorem dX6_roundOf_31 : decode cX6_roundOf 31 = .ok (.aload_n 0, 1) := by decide +kernel
theorem dX6_roundOf_32 : decode cX6_roundOf 32 = .ok (.getfield 32, 3) := by decide +kernel
theorem dX6_roundOf_35 : decode cX6_roundOf 35 = .ok (.iload_n 3, 1) := by decide +kernel
theorem dX6_roundOf_36 : decode cX6_roundOf 36 = .ok (.invokevirtual 140, 3) := by decide +kernel
theorem dX6_roundOf_39 : decode cX6_roundOf 39 = .ok (.iload_n 1, 1) := by decide +kernel
theorem dX6_roundOf_40 : decode cX6_roundOf 40 = .ok (.if_icmp .ne 27, 3) := by decide +kernel
theorem dX6_roundOf_43 : decode cX6_roundOf 43 = .ok (.aload_n 0, 1) := by decide +kernel
theorem dX6_roundOf_44 : decode cX6_roundOf 44 = .ok (.getfield 32, 3) := by decide +kernel
theorem dX6_roundOf_47 : decode cX6_roundOf 47 = .ok (.aload_n 0, 1) := by decide +kernel
theorem dX6_roundOf_48 : decode cX6_roundOf 48 = .ok (.getfield 15, 3) := by decide +kernel
theorem dX6_roundOf_51 : decode cX6_roundOf 51 = .ok (.iload_n 3, 1) := by decide +kernel
theorem dX6_roundOf_52 : decode cX6_roundOf 52 = .ok (.iload 4, 2) := by decide +kernel
theorem dX6_roundOf_54 : decode cX6_roundOf 54 = .ok (.invokevirtual 149, 3) := by decide +kernel
theorem dX6_roundOf_57 : decode cX6_roundOf 57 = .ok (.invokevirtual 140, 3) := by decide +kernel
theorem dX6_roundOf_60 : decode cX6_roundOf 60 = .ok (.iload_n 1, 1) := by decide +kernel
theorem dX6_roundOf_61 : decode cX6_roundOf 61 = .ok (.if_icmp .eq 6, 3) := by decide +kernel
theorem dX6_roundOf_64 : decode cX6_roundOf 64 = .ok (.iinc 2 1, 3) := by decide +kernel
theorem dX6_roundOf_67 : decode cX6_roundOf 67 = .ok (.iinc 4 1, 3) := by decide +kernel
theorem dX6_roundOf_70 : decode cX6_roundOf 70 = .ok (.goto (-52), 3) := by decide +kernel
theorem dX6_roundOf_73 : decode cX6_roundOf 73 = .ok (.iinc 3 1, 3) := by decide +kernel
theorem dX6_roundOf_76 : decode cX6_roundOf 76 = .ok (.goto (-72), 3) := by decide +kernel
theorem dX6_roundOf_79 : decode cX6_roundOf 79 = .ok (.iload_n 2, 1) := by decide +kernel
theorem dX6_roundOf_80 : decode cX6_roundOf 80 = .ok (.ireturn, 1) := by decide +kernel
theorem dX6_bordersOf_0 : decode cX6_bordersOf 0 = .ok (.aload_n 0, 1) := by decide +kernel
theorem dX6_bordersOf_1 : decode cX6_bordersOf 1 = .ok (.getfield 9, 3) := by decide +kernel
theorem dX6_bordersOf_4 : decode cX6_bordersOf 4 = .ok (.iconst 0, 1) := by decide +kernel
theorem dX6_bordersOf_5 : decode cX6_bordersOf 5 = .ok (.invokestatic 170, 3) := by decide +kernel
theorem dX6_bordersOf_8 : decode cX6_bordersOf 8 = .ok (.iconst 0, 1) := by decide +kernel
theorem dX6_bordersOf_9 : decode cX6_bordersOf 9 = .ok (.istore_n 2, 1) := by decide +kernel
theorem dX6_bordersOf_10 : decode cX6_bordersOf 10 = .ok (.iconst 0, 1) := by decide +kernel
theorem dX6_bordersOf_11 : decode cX6_bordersOf 11 = .ok (.istore_n 3, 1) := by decide +kernel
theorem dX6_bordersOf_12 : decode cX6_bordersOf 12 = .ok (.iload_n 3, 1) := by decide +kernel
theorem dX6_bordersOf_13 : decode cX6_bordersOf 13 = .ok (.aload_n 0, 1) := by decide +kernel
theorem dX6_bordersOf_14 : decode cX6_bordersOf 14 = .ok (.getfield 15, 3) := by decide +kernel
theorem dX6_bordersOf_17 : decode cX6_bordersOf 17 = .ok (.invokevirtual 52, 3) := by decide +kernel
theorem dX6_bordersOf_20 : decode cX6_bordersOf 20 = .ok (.if_icmp .ge 104, 3) := by decide +kernel
theorem dX6_bordersOf_23 : decode cX6_bordersOf 23 = .ok (.aload_n 0, 1) := by decide +kernel
theorem dX6_bordersOf_24 : decode cX6_bordersOf 24 = .ok (.getfield 32, 3) := by decide +kernel
theorem dX6_bordersOf_27 : decode cX6_bordersOf 27 = .ok (.iload_n 3, 1) := by decide +kernel
theorem dX6_bordersOf_28 : decode cX6_bordersOf 28 = .ok (.invokevirtual 140, 3) := by decide +kernel
theorem dX6_bordersOf_31 : decode cX6_bordersOf 31 = .ok (.iload_n 1, 1) := by decide +kernel
theorem dX6_bordersOf_32 : decode cX6_bordersOf 32 = .ok (.if_icmp .eq 6, 3) := by decide +kernel
theorem dX6_bordersOf_35 : decode cX6_bordersOf 35 = .ok (.goto 83, 3) := by decide +kernel
theorem dX6_bordersOf_38 : decode cX6_bordersOf 38 = .ok (.iconst 0, 1) := by decide +kernel
theorem dX6_bordersOf_39 : decode cX6_bordersOf 39 = .ok (.istore 4, 2) := by decide +kernel
theorem dX6_bordersOf_41 : decode cX6_bordersOf 41 = .ok (.iload 4, 2) := by decide +kernel
theorem dX6_bordersOf_43 : decode cX6_bordersOf 43 = .ok (.aload_n 0, 1) := by decide +kernel
theorem dX6_bordersOf_44 : decode cX6_bordersOf 44 = .ok (.getfield 15, 3) := by decide +kernel
theorem dX6_bordersOf_47 : decode cX6_bordersOf 47 = .ok (.iload_n 3, 1) := by decide +kernel
theorem dX6_bordersOf_48 : decode cX6_bordersOf 48 = .ok (.invokevirtual 146, 3) := by decide +kernel
theorem dX6_bordersOf_51 : decode cX6_bordersOf 51 = .ok (.if_icmp .ge 67, 3) := by decide +kernel
theorem dX6_bordersOf_54 : decode cX6_bordersOf 54 = .ok (.aload_n 0, 1) := by decide +kernel
theorem dX6_bordersOf_55 : decode cX6_bordersOf 55 = .ok (.getfield 32, 3) := by decide +kernel
theorem dX6_bordersOf_58 : decode cX6_bordersOf 58 = .ok (.aload_n 0, 1) := by decide +kernel
theorem dX6_bordersOf_59 : decode cX6_bordersOf 59 = .ok (.getfield 15, 3) := by decide +kernel
theorem dX6_bordersOf_62 : decode cX6_bordersOf 62 = .ok (.iload_n 3, 1) := by decide +kernel
theorem dX6_bordersOf_63 : decode cX6_bordersOf 63 = .ok (.iload 4, 2) := by decide +kernel
theorem dX6_bordersOf_65 : decode cX6_bordersOf 65 = .ok (.invokevirtual 149, 3) := by decide +kernel
theorem dX6_bordersOf_68 : decode cX6_bordersOf 68 = .ok (.invokevirtual 140, 3) := by decide +kernel
theorem dX6_bordersOf_71 : decode cX6_bordersOf 71 = .ok (.istore 5, 2) := by decide +kernel
theorem dX6_bordersOf_73 : decode cX6_bordersOf 73 = .ok (.iload 5, 2) := by decide +kernel
theorem dX6_bordersOf_75 : decode cX6_bordersOf 75 = .ok (.ifCond .lt 37, 3) := by decide +kernel
theorem dX6_bordersOf_78 : decode cX6_bordersOf 78 = .ok (.iload 5, 2) := by decide +kernel
theorem dX6_bordersOf_80 : decode cX6_bordersOf 80 = .ok (.bipush 64, 2) := by decide +kernel
theorem dX6_bordersOf_82 : decode cX6_bordersOf 82 = .ok (.if_icmp .ge 30, 3) := by decide +kernel
theorem dX6_bordersOf_85 : decode cX6_bordersOf 85 = .ok (.iload 5, 2) := by decide +kernel
theorem dX6_bordersOf_87 : decode cX6_bordersOf 87 = .ok (.iload_n 1, 1) := by decide +kernel
theorem dX6_bordersOf_88 : decode cX6_bordersOf 88 = .ok (.if_icmp .eq 24, 3) := by decide +kernel
theorem dX6_bordersOf_91 : decode cX6_bordersOf 91 = .ok (.aload_n 0, 1) := by decide +kernel
theorem dX6_bordersOf_92 : decode cX6_bordersOf 92 = .ok (.getfield 9, 3) := by decide +kernel
theorem dX6_bordersOf_95 : decode cX6_bordersOf 95 = .ok (.iload 5, 2) := by decide +kernel
theorem dX6_bordersOf_97 : decode cX6_bordersOf 97 = .ok (.iaload, 1) := by decide +kernel
theorem dX6_bordersOf_98 : decode cX6_bordersOf 98 = .ok (.ifCond .ne 14, 3) := by decide +kernel
theorem dX6_bordersOf_101 : decode cX6_bordersOf 101 = .ok (.aload_n 0, 1) := by decide +kernel
theorem dX6_bordersOf_102 : decode cX6_bordersOf 102 = .ok (.getfield 9, 3) := by decide +kernel
theorem dX6_bordersOf_105 : decode cX6_bordersOf 105 = .ok (.iload 5, 2) := by decide +kernel
theorem dX6_bordersOf_107 : decode cX6_bordersOf 107 = .ok (.iconst 1, 1) := by decide +kernel
theorem dX6_bordersOf_108 : decode cX6_bordersOf 108 = .ok (.iastore, 1) := by decide +kernel
theorem dX6_bordersOf_109 : decode cX6_bordersOf 109 = .ok (.iinc 2 1, 3) := by decide +kernel
theorem dX6_bordersOf_112 : decode cX6_bordersOf 112 = .ok (.iinc 4 1, 3) := by decide +kernel
theorem dX6_bordersOf_115 : decode cX6_bordersOf 115 = .ok (.goto (-74), 3) := by decide +kernel
theorem dX6_bordersOf_118 : decode cX6_bordersOf 118 = .ok (.iinc 3 1, 3) := by decide +kernel
theorem dX6_bordersOf_121 : decode cX6_bordersOf 121 = .ok (.goto (-109), 3) := by decide +kernel
theorem dX6_bordersOf_124 : decode cX6_bordersOf 124 = .ok (.iload_n 2, 1) := by decide +kernel
theorem dX6_bordersOf_125 : decode cX6_bordersOf 125 = .ok (.ireturn, 1) := by decide +kernel
theorem dX6_workOf_0 : decode cX6_workOf 0 = .ok (.iconst 0, 1) := by decide +kernel
theorem dX6_workOf_1 : decode cX6_workOf 1 = .ok (.istore_n 2, 1) := by decide +kernel
theorem dX6_workOf_2 : decode cX6_workOf 2 = .ok (.iconst 0, 1) := by decide +kernel
theorem dX6_workOf_3 : decode cX6_workOf 3 = .ok (.istore_n 3, 1) := by decide +kernel
theorem dX6_workOf_4 : decode cX6_workOf 4 = .ok (.iload_n 3, 1) := by decide +kernel
theorem dX6_workOf_5 : decode cX6_workOf 5 = .ok (.aload_n 0, 1) := by decide +kernel
theorem dX6_workOf_6 : decode cX6_workOf 6 = .ok (.getfield 15, 3) := by decide +kernel
theorem dX6_workOf_9 : decode cX6_workOf 9 = .ok (.invokevirtual 52, 3) := by decide +kernel
theorem dX6_workOf_12 : decode cX6_workOf 12 = .ok (.if_icmp .ge 36, 3) := by decide +kernel
theorem dX6_workOf_15 : decode cX6_workOf 15 = .ok (.iload_n 2, 1) := by decide +kernel
theorem dX6_workOf_16 : decode cX6_workOf 16 = .ok (.aload_n 0, 1) := by decide +kernel
theorem dX6_workOf_17 : decode cX6_workOf 17 = .ok (.getfield 32, 3) := by decide +kernel
theorem dX6_workOf_20 : decode cX6_workOf 20 = .ok (.iload_n 3, 1) := by decide +kernel
theorem dX6_workOf_21 : decode cX6_workOf 21 = .ok (.invokevirtual 140, 3) := by decide +kernel
theorem dX6_workOf_24 : decode cX6_workOf 24 = .ok (.iload_n 1, 1) := by decide +kernel
theorem dX6_workOf_25 : decode cX6_workOf 25 = .ok (.if_icmp .ne 14, 3) := by decide +kernel
theorem dX6_workOf_28 : decode cX6_workOf 28 = .ok (.aload_n 0, 1) := by decide +kernel
theorem dX6_workOf_29 : decode cX6_workOf 29 = .ok (.getfield 23, 3) := by decide +kernel
theorem dX6_workOf_32 : decode cX6_workOf 32 = .ok (.iload_n 3, 1) := by decide +kernel
theorem dX6_workOf_33 : decode cX6_workOf 33 = .ok (.invokevirtual 131, 3) := by decide +kernel
theorem dX6_workOf_36 : decode cX6_workOf 36 = .ok (.goto 4, 3) := by decide +kernel
theorem dX6_workOf_39 : decode cX6_workOf 39 = .ok (.iconst 0, 1) := by decide +kernel
theorem dX6_workOf_40 : decode cX6_workOf 40 = .ok (.iadd, 1) := by decide +kernel
theorem dX6_workOf_41 : decode cX6_workOf 41 = .ok (.istore_n 2, 1) := by decide +kernel
theorem dX6_workOf_42 : decode cX6_workOf 42 = .ok (.iinc 3 1, 3) := by decide +kernel
theorem dX6_workOf_45 : decode cX6_workOf 45 = .ok (.goto (-41), 3) := by decide +kernel
theorem dX6_workOf_48 : decode cX6_workOf 48 = .ok (.iload_n 2, 1) := by decide +kernel
theorem dX6_workOf_49 : decode cX6_workOf 49 = .ok (.ireturn, 1) := by decide +kernel
theorem dX6_hardOf_0 : decode cX6_hardOf 0 = .ok (.iconst 0, 1) := by decide +kernel
theorem dX6_hardOf_1 : decode cX6_hardOf 1 = .ok (.istore_n 2, 1) := by decide +kernel
theorem dX6_hardOf_2 : decode cX6_hardOf 2 = .ok (.iconst 0, 1) := by decide +kernel
theorem dX6_hardOf_3 : decode cX6_hardOf 3 = .ok (.istore_n 3, 1) := by decide +kernel
theorem dX6_hardOf_4 : decode cX6_hardOf 4 = .ok (.iload_n 3, 1) := by decide +kernel
theorem dX6_hardOf_5 : decode cX6_hardOf 5 = .ok (.aload_n 0, 1) := by decide +kernel
theorem dX6_hardOf_6 : decode cX6_hardOf 6 = .ok (.getfield 15, 3) := by decide +kernel
theorem dX6_hardOf_9 : decode cX6_hardOf 9 = .ok (.invokevirtual 52, 3) := by decide +kernel
theorem dX6_hardOf_12 : decode cX6_hardOf 12 = .ok (.if_icmp .ge 36, 3) := by decide +kernel
theorem dX6_hardOf_15 : decode cX6_hardOf 15 = .ok (.iload_n 2, 1) := by decide +kernel
theorem dX6_hardOf_16 : decode cX6_hardOf 16 = .ok (.aload_n 0, 1) := by decide +kernel
theorem dX6_hardOf_17 : decode cX6_hardOf 17 = .ok (.getfield 32, 3) := by decide +kernel
theorem dX6_hardOf_20 : decode cX6_hardOf 20 = .ok (.iload_n 3, 1) := by decide +kernel
theorem dX6_hardOf_21 : decode cX6_hardOf 21 = .ok (.invokevirtual 140, 3) := by decide +kernel
theorem dX6_hardOf_24 : decode cX6_hardOf 24 = .ok (.iload_n 1, 1) := by decide +kernel
theorem dX6_hardOf_25 : decode cX6_hardOf 25 = .ok (.if_icmp .ne 14, 3) := by decide +kernel
theorem dX6_hardOf_28 : decode cX6_hardOf 28 = .ok (.aload_n 0, 1) := by decide +kernel
theorem dX6_hardOf_29 : decode cX6_hardOf 29 = .ok (.getfield 23, 3) := by decide +kernel
theorem dX6_hardOf_32 : decode cX6_hardOf 32 = .ok (.iload_n 3, 1) := by decide +kernel
theorem dX6_hardOf_33 : decode cX6_hardOf 33 = .ok (.invokevirtual 134, 3) := by decide +kernel
theorem dX6_hardOf_36 : decode cX6_hardOf 36 = .ok (.goto 4, 3) := by decide +kernel
theorem dX6_hardOf_39 : decode cX6_hardOf 39 = .ok (.iconst 0, 1) := by decide +kernel
theorem dX6_hardOf_40 : decode cX6_hardOf 40 = .ok (.iadd, 1) := by decide +kernel
theorem dX6_hardOf_41 : decode cX6_hardOf 41 = .ok (.istore_n 2, 1) := by decide +kernel
theorem dX6_hardOf_42 : decode cX6_hardOf 42 = .ok (.iinc 3 1, 3) := by decide +kernel
theorem dX6_hardOf_45 : decode cX6_hardOf 45 = .ok (.goto (-41), 3) := by decide +kernel
theorem dX6_hardOf_48 : decode cX6_hardOf 48 = .ok (.iload_n 2, 1) := by decide +kernel
theorem dX6_hardOf_49 : decode cX6_hardOf 49 = .ok (.ireturn, 1) := by decide +kernel
theorem dX6_grainsBordering_0 : decode cX6_grainsBordering 0 = .ok (.iconst 0, 1) := by decide +kernel
theorem dX6_grainsBordering_1 : decode cX6_grainsBordering 1 = .ok (.istore_n 2, 1) := by decide +kernel
theorem dX6_grainsBordering_2 : decode cX6_grainsBordering 2 = .ok (.iconst 0, 1) := by decide +kernel
theorem dX6_grainsBordering_3 : decode cX6_grainsBordering 3 = .ok (.istore_n 3, 1) := by decide +kernel
theorem dX6_grainsBordering_4 : decode cX6_grainsBordering 4 = .ok (.iload_n 3, 1) := by decide +kernel
theorem dX6_grainsBordering_5 : decode cX6_grainsBordering 5 = .ok (.aload_n 0, 1) := by decide +kernel
theorem dX6_grainsBordering_6 : decode cX6_grainsBordering 6 = .ok (.getfield 32, 3) := by decide +kernel
theorem dX6_grainsBordering_9 : decode cX6_grainsBordering 9 = .ok (.invokevirtual 49, 3) := by decide +kernel
theorem dX6_grainsBordering_12 : decode cX6_grainsBordering 12 = .ok (.if_icmp .ge 21, 3) := by decide +kernel
theorem dX6_grainsBordering_15 : decode cX6_grainsBordering 15 = .ok (.aload_n 0, 1) := by decide +kernel
theorem dX6_grainsBordering_16 : decode cX6_grainsBordering 16 = .ok (.iload_n 3, 1) := by decide +kernel
theorem dX6_grainsBordering_17 : decode cX6_grainsBordering 17 = .ok (.invokevirtual 161, 3) := by decide +kernel
theorem dX6_grainsBordering_20 : decode cX6_grainsBordering 20 = .ok (.iload_n 1, 1) := by decide +kernel
theorem dX6_grainsBordering_21 : decode cX6_grainsBordering 21 = .ok (.if_icmp .ne 6, 3) := by decide +kernel
theorem dX6_grainsBordering_24 : decode cX6_grainsBordering 24 = .ok (.iinc 2 1, 3) := by decide +kernel
theorem dX6_grainsBordering_27 : decode cX6_grainsBordering 27 = .ok (.iinc 3 1, 3) := by decide +kernel
theorem dX6_grainsBordering_30 : decode cX6_grainsBordering 30 = .ok (.goto (-26), 3) := by decide +kernel
theorem dX6_grainsBordering_33 : decode cX6_grainsBordering 33 = .ok (.iload_n 2, 1) := by decide +kernel
theorem dX6_grainsBordering_34 : decode cX6_grainsBordering 34 = .ok (.ireturn, 1) := by decide +kernel
theorem dX6_textureOf_0 : decode cX6_textureOf 0 = .ok (.iconst 0, 1) := by decide +kernel
theorem dX6_textureOf_1 : decode cX6_textureOf 1 = .ok (.istore_n 2, 1) := by decide +kernel
theorem dX6_textureOf_2 : decode cX6_textureOf 2 = .ok (.iconst 0, 1) := by decide +kernel
theorem dX6_textureOf_3 : decode cX6_textureOf 3 = .ok (.istore_n 3, 1) := by decide +kernel
theorem dX6_textureOf_4 : decode cX6_textureOf 4 = .ok (.iload_n 3, 1) := by decide +kernel
theorem dX6_textureOf_5 : decode cX6_textureOf 5 = .ok (.aload_n 0, 1) := by decide +kernel
theorem dX6_textureOf_6 : decode cX6_textureOf 6 = .ok (.getfield 15, 3) := by decide +kernel
theorem dX6_textureOf_9 : decode cX6_textureOf 9 = .ok (.invokevirtual 52, 3) := by decide +kernel
theorem dX6_textureOf_12 : decode cX6_textureOf 12 = .ok (.if_icmp .ge 24, 3) := by decide +kernel
theorem dX6_textureOf_15 : decode cX6_textureOf 15 = .ok (.aload_n 0, 1) := by decide +kernel
theorem dX6_textureOf_16 : decode cX6_textureOf 16 = .ok (.getfield 23, 3) := by decide +kernel
theorem dX6_textureOf_19 : decode cX6_textureOf 19 = .ok (.iload_n 3, 1) := by decide +kernel
theorem dX6_textureOf_20 : decode cX6_textureOf 20 = .ok (.invokevirtual 107, 3) := by decide +kernel
theorem dX6_textureOf_23 : decode cX6_textureOf 23 = .ok (.iload_n 1, 1) := by decide +kernel
theorem dX6_textureOf_24 : decode cX6_textureOf 24 = .ok (.if_icmp .ne 6, 3) := by decide +kernel
theorem dX6_textureOf_27 : decode cX6_textureOf 27 = .ok (.iinc 2 1, 3) := by decide +kernel
theorem dX6_textureOf_30 : decode cX6_textureOf 30 = .ok (.iinc 3 1, 3) := by decide +kernel
theorem dX6_textureOf_33 : decode cX6_textureOf 33 = .ok (.goto (-29), 3) := by decide +kernel
theorem dX6_textureOf_36 : decode cX6_textureOf 36 = .ok (.aload_n 0, 1) := by decide +kernel
theorem dX6_textureOf_37 : decode cX6_textureOf 37 = .ok (.getfield 15, 3) := by decide +kernel
theorem dX6_textureOf_40 : decode cX6_textureOf 40 = .ok (.invokevirtual 52, 3) := by decide +kernel
theorem dX6_textureOf_43 : decode cX6_textureOf 43 = .ok (.ifCond .le 19, 3) := by decide +kernel
theorem dX6_textureOf_46 : decode cX6_textureOf 46 = .ok (.sipush 1000, 3) := by decide +kernel
theorem dX6_textureOf_49 : decode cX6_textureOf 49 = .ok (.iload_n 2, 1) := by decide +kernel
theorem dX6_textureOf_50 : decode cX6_textureOf 50 = .ok (.imul, 1) := by decide +kernel
theorem dX6_textureOf_51 : decode cX6_textureOf 51 = .ok (.aload_n 0, 1) := by decide +kernel
theorem dX6_textureOf_52 : decode cX6_textureOf 52 = .ok (.getfield 15, 3) := by decide +kernel
theorem dX6_textureOf_55 : decode cX6_textureOf 55 = .ok (.invokevirtual 52, 3) := by decide +kernel
theorem dX6_textureOf_58 : decode cX6_textureOf 58 = .ok (.idiv, 1) := by decide +kernel
theorem dX6_textureOf_59 : decode cX6_textureOf 59 = .ok (.goto 4, 3) := by decide +kernel
theorem dX6_textureOf_62 : decode cX6_textureOf 62 = .ok (.iconst 0, 1) := by decide +kernel
theorem dX6_textureOf_63 : decode cX6_textureOf 63 = .ok (.ireturn, 1) := by decide +kernel
theorem dX6_drawnPicture_0 : decode cX6_drawnPicture 0 = .ok (.new 176, 3) := by decide +kernel
theorem dX6_drawnPicture_3 : decode cX6_drawnPicture 3 = .ok (.dup, 1) := by decide +kernel
theorem dX6_drawnPicture_4 : decode cX6_drawnPicture 4 = .ok (.invokespecial 178, 3) := by decide +kernel
theorem dX6_drawnPicture_7 : decode cX6_drawnPicture 7 = .ok (.astore_n 2, 1) := by decide +kernel
theorem dX6_drawnPicture_8 : decode cX6_drawnPicture 8 = .ok (.iconst 0, 1) := by decide +kernel
theorem dX6_drawnPicture_9 : decode cX6_drawnPicture 9 = .ok (.istore_n 3, 1) := by decide +kernel
theorem dX6_drawnPicture_10 : decode cX6_drawnPicture 10 = .ok (.iload_n 3, 1) := by decide +kernel
theorem dX6_drawnPicture_11 : decode cX6_drawnPicture 11 = .ok (.aload_n 0, 1) := by decide +kernel
theorem dX6_drawnPicture_12 : decode cX6_drawnPicture 12 = .ok (.getfield 15, 3) := by decide +kernel
theorem dX6_drawnPicture_15 : decode cX6_drawnPicture 15 = .ok (.invokevirtual 117, 3) := by decide +kernel
theorem dX6_drawnPicture_18 : decode cX6_drawnPicture 18 = .ok (.if_icmp .ge 63, 3) := by decide +kernel
theorem dX6_drawnPicture_21 : decode cX6_drawnPicture 21 = .ok (.iload_n 3, 1) := by decide +kernel
theorem dX6_drawnPicture_22 : decode cX6_drawnPicture 22 = .ok (.ifCond .le 10, 3) := by decide +kernel
theorem dX6_drawnPicture_25 : decode cX6_drawnPicture 25 = .ok (.aload_n 2, 1) := by decide +kernel
theorem dX6_drawnPicture_26 : decode cX6_drawnPicture 26 = .ok (.bipush 47, 2) := by decide +kernel
theorem dX6_drawnPicture_28 : decode cX6_drawnPicture 28 = .ok (.invokevirtual 179, 3) := by decide +kernel
theorem dX6_drawnPicture_31 : decode cX6_drawnPicture 31 = .ok (.pop, 1) := by decide +kernel
theorem dX6_drawnPicture_32 : decode cX6_drawnPicture 32 = .ok (.iconst 0, 1) := by decide +kernel
theorem dX6_drawnPicture_33 : decode cX6_drawnPicture 33 = .ok (.istore 4, 2) := by decide +kernel
theorem dX6_drawnPicture_35 : decode cX6_drawnPicture 35 = .ok (.iload 4, 2) := by decide +kernel
theorem dX6_drawnPicture_37 : decode cX6_drawnPicture 37 = .ok (.aload_n 0, 1) := by decide +kernel
theorem dX6_drawnPicture_38 : decode cX6_drawnPicture 38 = .ok (.getfield 15, 3) := by decide +kernel
theorem dX6_drawnPicture_41 : decode cX6_drawnPicture 41 = .ok (.invokevirtual 120, 3) := by decide +kernel
theorem dX6_drawnPicture_44 : decode cX6_drawnPicture 44 = .ok (.if_icmp .ge 31, 3) := by decide +kernel
theorem dX6_drawnPicture_47 : decode cX6_drawnPicture 47 = .ok (.aload_n 2, 1) := by decide +kernel
theorem dX6_drawnPicture_48 : decode cX6_drawnPicture 48 = .ok (.aload_n 0, 1) := by decide +kernel
theorem dX6_drawnPicture_49 : decode cX6_drawnPicture 49 = .ok (.iload_n 3, 1) := by decide +kernel
theorem dX6_drawnPicture_50 : decode cX6_drawnPicture 50 = .ok (.aload_n 0, 1) := by decide +kernel
theorem dX6_drawnPicture_51 : decode cX6_drawnPicture 51 = .ok (.getfield 15, 3) := by decide +kernel
theorem dX6_drawnPicture_54 : decode cX6_drawnPicture 54 = .ok (.invokevirtual 120, 3) := by decide +kernel
theorem dX6_drawnPicture_57 : decode cX6_drawnPicture 57 = .ok (.imul, 1) := by decide +kernel
theorem dX6_drawnPicture_58 : decode cX6_drawnPicture 58 = .ok (.iload 4, 2) := by decide +kernel
theorem dX6_drawnPicture_60 : decode cX6_drawnPicture 60 = .ok (.iadd, 1) := by decide +kernel
theorem dX6_drawnPicture_61 : decode cX6_drawnPicture 61 = .ok (.iload_n 1, 1) := by decide +kernel
theorem dX6_drawnPicture_62 : decode cX6_drawnPicture 62 = .ok (.invokevirtual 183, 3) := by decide +kernel
theorem dX6_drawnPicture_65 : decode cX6_drawnPicture 65 = .ok (.invokevirtual 179, 3) := by decide +kernel
theorem dX6_drawnPicture_68 : decode cX6_drawnPicture 68 = .ok (.pop, 1) := by decide +kernel
theorem dX6_drawnPicture_69 : decode cX6_drawnPicture 69 = .ok (.iinc 4 1, 3) := by decide +kernel
theorem dX6_drawnPicture_72 : decode cX6_drawnPicture 72 = .ok (.goto (-37), 3) := by decide +kernel
theorem dX6_drawnPicture_75 : decode cX6_drawnPicture 75 = .ok (.iinc 3 1, 3) := by decide +kernel
theorem dX6_drawnPicture_78 : decode cX6_drawnPicture 78 = .ok (.goto (-68), 3) := by decide +kernel
theorem dX6_drawnPicture_81 : decode cX6_drawnPicture 81 = .ok (.aload_n 2, 1) := by decide +kernel
theorem dX6_drawnPicture_82 : decode cX6_drawnPicture 82 = .ok (.invokevirtual 187, 3) := by decide +kernel
theorem dX6_drawnPicture_85 : decode cX6_drawnPicture 85 = .ok (.ifCond .ne 10, 3) := by decide +kernel
theorem dX6_drawnPicture_88 : decode cX6_drawnPicture 88 = .ok (.aload_n 2, 1) := by decide +kernel
theorem dX6_drawnPicture_89 : decode cX6_drawnPicture 89 = .ok (.bipush 45, 2) := by decide +kernel
theorem dX6_drawnPicture_91 : decode cX6_drawnPicture 91 = .ok (.invokevirtual 179, 3) := by decide +kernel
theorem dX6_drawnPicture_94 : decode cX6_drawnPicture 94 = .ok (.pop, 1) := by decide +kernel
theorem dX6_drawnPicture_95 : decode cX6_drawnPicture 95 = .ok (.aload_n 2, 1) := by decide +kernel
theorem dX6_drawnPicture_96 : decode cX6_drawnPicture 96 = .ok (.invokevirtual 190, 3) := by decide +kernel
theorem dX6_drawnPicture_99 : decode cX6_drawnPicture 99 = .ok (.areturn, 1) := by decide +kernel
theorem dX6_signOf_0 : decode cX6_signOf 0 = .ok (.aload_n 0, 1) := by decide +kernel
theorem dX6_signOf_1 : decode cX6_signOf 1 = .ok (.getfield 23, 3) := by decide +kernel
theorem dX6_signOf_4 : decode cX6_signOf 4 = .ok (.iload_n 1, 1) := by decide +kernel
theorem dX6_signOf_5 : decode cX6_signOf 5 = .ok (.invokevirtual 107, 3) := by decide +kernel
theorem dX6_signOf_8 : decode cX6_signOf 8 = .ok (.istore_n 3, 1) := by decide +kernel
theorem dX6_signOf_9 : decode cX6_signOf 9 = .ok (.iload_n 3, 1) := by decide +kernel
theorem dX6_signOf_10 : decode cX6_signOf 10 = .ok (.ifCond .ne 6, 3) := by decide +kernel
theorem dX6_signOf_13 : decode cX6_signOf 13 = .ok (.bipush 42, 2) := by decide +kernel
theorem dX6_signOf_15 : decode cX6_signOf 15 = .ok (.ireturn, 1) := by decide +kernel
theorem dX6_signOf_16 : decode cX6_signOf 16 = .ok (.iload_n 2, 1) := by decide +kernel
theorem dX6_signOf_17 : decode cX6_signOf 17 = .ok (.ifCond .eq 18, 3) := by decide +kernel
theorem dX6_signOf_20 : decode cX6_signOf 20 = .ok (.aload_n 0, 1) := by decide +kernel
theorem dX6_signOf_21 : decode cX6_signOf 21 = .ok (.getfield 23, 3) := by decide +kernel
theorem dX6_signOf_24 : decode cX6_signOf 24 = .ok (.iload_n 1, 1) := by decide +kernel
theorem dX6_signOf_25 : decode cX6_signOf 25 = .ok (.invokevirtual 134, 3) := by decide +kernel
theorem dX6_signOf_28 : decode cX6_signOf 28 = .ok (.iconst 1, 1) := by decide +kernel
theorem dX6_signOf_29 : decode cX6_signOf 29 = .ok (.if_icmp .ne 6, 3) := by decide +kernel
theorem dX6_signOf_32 : decode cX6_signOf 32 = .ok (.bipush 35, 2) := by decide +kernel
theorem dX6_signOf_34 : decode cX6_signOf 34 = .ok (.ireturn, 1) := by decide +kernel
theorem dX6_signOf_35 : decode cX6_signOf 35 = .ok (.bipush 48, 2) := by decide +kernel
theorem dX6_signOf_37 : decode cX6_signOf 37 = .ok (.iload_n 2, 1) := by decide +kernel
theorem dX6_signOf_38 : decode cX6_signOf 38 = .ok (.ifCond .eq 21, 3) := by decide +kernel
theorem dX6_signOf_41 : decode cX6_signOf 41 = .ok (.aload_n 0, 1) := by decide +kernel
theorem dX6_signOf_42 : decode cX6_signOf 42 = .ok (.getfield 36, 3) := by decide +kernel
theorem dX6_signOf_45 : decode cX6_signOf 45 = .ok (.aload_n 0, 1) := by decide +kernel
theorem dX6_signOf_46 : decode cX6_signOf 46 = .ok (.getfield 36, 3) := by decide +kernel
theorem dX6_signOf_49 : decode cX6_signOf 49 = .ok (.iload_n 1, 1) := by decide +kernel
theorem dX6_signOf_50 : decode cX6_signOf 50 = .ok (.invokevirtual 140, 3) := by decide +kernel
theorem dX6_signOf_53 : decode cX6_signOf 53 = .ok (.invokevirtual 194, 3) := by decide +kernel
theorem dX6_signOf_56 : decode cX6_signOf 56 = .ok (.goto 4, 3) := by decide +kernel
theorem dX6_signOf_59 : decode cX6_signOf 59 = .ok (.iload_n 3, 1) := by decide +kernel
theorem dX6_signOf_60 : decode cX6_signOf 60 = .ok (.iadd, 1) := by decide +kernel
theorem dX6_signOf_61 : decode cX6_signOf 61 = .ok (.i2c, 1) := by decide +kernel
theorem dX6_signOf_62 : decode cX6_signOf 62 = .ok (.ireturn, 1) := by decide +kernel
theorem dX6_isAllSound_0 : decode cX6_isAllSound 0 = .ok (.aload_n 0, 1) := by decide +kernel
theorem dX6_isAllSound_1 : decode cX6_isAllSound 1 = .ok (.getfield 23, 3) := by decide +kernel
theorem dX6_isAllSound_4 : decode cX6_isAllSound 4 = .ok (.invokevirtual 84, 3) := by decide +kernel
theorem dX6_isAllSound_7 : decode cX6_isAllSound 7 = .ok (.istore_n 1, 1) := by decide +kernel
theorem dX6_isAllSound_8 : decode cX6_isAllSound 8 = .ok (.iconst 0, 1) := by decide +kernel
theorem dX6_isAllSound_9 : decode cX6_isAllSound 9 = .ok (.istore_n 2, 1) := by decide +kernel
theorem dX6_isAllSound_10 : decode cX6_isAllSound 10 = .ok (.iload_n 2, 1) := by decide +kernel
theorem dX6_isAllSound_11 : decode cX6_isAllSound 11 = .ok (.aload_n 0, 1) := by decide +kernel
theorem dX6_isAllSound_12 : decode cX6_isAllSound 12 = .ok (.getfield 32, 3) := by decide +kernel
theorem dX6_isAllSound_15 : decode cX6_isAllSound 15 = .ok (.invokevirtual 49, 3) := by decide +kernel
theorem dX6_isAllSound_18 : decode cX6_isAllSound 18 = .ok (.if_icmp .ge 20, 3) := by decide +kernel
theorem dX6_isAllSound_21 : decode cX6_isAllSound 21 = .ok (.iload_n 1, 1) := by decide +kernel
theorem dX6_isAllSound_22 : decode cX6_isAllSound 22 = .ok (.aload_n 0, 1) := by decide +kernel
theorem dX6_isAllSound_23 : decode cX6_isAllSound 23 = .ok (.getfield 32, 3) := by decide +kernel
theorem dX6_isAllSound_26 : decode cX6_isAllSound 26 = .ok (.iload_n 2, 1) := by decide +kernel
theorem dX6_isAllSound_27 : decode cX6_isAllSound 27 = .ok (.invokevirtual 155, 3) := by decide +kernel
theorem dX6_isAllSound_30 : decode cX6_isAllSound 30 = .ok (.iadd, 1) := by decide +kernel
theorem dX6_isAllSound_31 : decode cX6_isAllSound 31 = .ok (.istore_n 1, 1) := by decide +kernel
theorem dX6_isAllSound_32 : decode cX6_isAllSound 32 = .ok (.iinc 2 1, 3) := by decide +kernel
theorem dX6_isAllSound_35 : decode cX6_isAllSound 35 = .ok (.goto (-25), 3) := by decide +kernel
theorem dX6_isAllSound_38 : decode cX6_isAllSound 38 = .ok (.iload_n 1, 1) := by decide +kernel
theorem dX6_isAllSound_39 : decode cX6_isAllSound 39 = .ok (.aload_n 0, 1) := by decide +kernel
theorem dX6_isAllSound_40 : decode cX6_isAllSound 40 = .ok (.getfield 15, 3) := by decide +kernel
theorem dX6_isAllSound_43 : decode cX6_isAllSound 43 = .ok (.invokevirtual 52, 3) := by decide +kernel
theorem dX6_isAllSound_46 : decode cX6_isAllSound 46 = .ok (.if_icmp .ne 52, 3) := by decide +kernel
theorem dX6_isAllSound_49 : decode cX6_isAllSound 49 = .ok (.aload_n 0, 1) := by decide +kernel
theorem dX6_isAllSound_50 : decode cX6_isAllSound 50 = .ok (.getfield 36, 3) := by decide +kernel
theorem dX6_isAllSound_53 : decode cX6_isAllSound 53 = .ok (.invokevirtual 49, 3) := by decide +kernel
theorem dX6_isAllSound_56 : decode cX6_isAllSound 56 = .ok (.aload_n 0, 1) := by decide +kernel
theorem dX6_isAllSound_57 : decode cX6_isAllSound 57 = .ok (.getfield 32, 3) := by decide +kernel
theorem dX6_isAllSound_60 : decode cX6_isAllSound 60 = .ok (.invokevirtual 49, 3) := by decide +kernel
theorem dX6_isAllSound_63 : decode cX6_isAllSound 63 = .ok (.if_icmp .gt 35, 3) := by decide +kernel
theorem dX6_isAllSound_66 : decode cX6_isAllSound 66 = .ok (.aload_n 0, 1) := by decide +kernel
theorem dX6_isAllSound_67 : decode cX6_isAllSound 67 = .ok (.invokevirtual 197, 3) := by decide +kernel
theorem dX6_isAllSound_70 : decode cX6_isAllSound 70 = .ok (.ifCond .eq 28, 3) := by decide +kernel
theorem dX6_isAllSound_73 : decode cX6_isAllSound 73 = .ok (.aload_n 0, 1) := by decide +kernel
theorem dX6_isAllSound_74 : decode cX6_isAllSound 74 = .ok (.getfield 23, 3) := by decide +kernel
theorem dX6_isAllSound_77 : decode cX6_isAllSound 77 = .ok (.invokevirtual 62, 3) := by decide +kernel
theorem dX6_isAllSound_80 : decode cX6_isAllSound 80 = .ok (.ifCond .lt 18, 3) := by decide +kernel
theorem dX6_isAllSound_83 : decode cX6_isAllSound 83 = .ok (.aload_n 0, 1) := by decide +kernel
theorem dX6_isAllSound_84 : decode cX6_isAllSound 84 = .ok (.invokevirtual 81, 3) := by decide +kernel
theorem dX6_isAllSound_87 : decode cX6_isAllSound 87 = .ok (.aload_n 0, 1) := by decide +kernel
theorem dX6_isAllSound_88 : decode cX6_isAllSound 88 = .ok (.invokevirtual 201, 3) := by decide +kernel
theorem dX6_isAllSound_91 : decode cX6_isAllSound 91 = .ok (.if_icmp .ne 7, 3) := by decide +kernel
theorem dX6_isAllSound_94 : decode cX6_isAllSound 94 = .ok (.iconst 1, 1) := by decide +kernel
theorem dX6_isAllSound_95 : decode cX6_isAllSound 95 = .ok (.goto 4, 3) := by decide +kernel
theorem dX6_isAllSound_98 : decode cX6_isAllSound 98 = .ok (.iconst 0, 1) := by decide +kernel
theorem dX6_isAllSound_99 : decode cX6_isAllSound 99 = .ok (.ireturn, 1) := by decide +kernel
theorem dX6_areCellsSound_0 : decode cX6_areCellsSound 0 = .ok (.iconst 0, 1) := by decide +kernel
theorem dX6_areCellsSound_1 : decode cX6_areCellsSound 1 = .ok (.istore_n 1, 1) := by decide +kernel
theorem dX6_areCellsSound_2 : decode cX6_areCellsSound 2 = .ok (.iload_n 1, 1) := by decide +kernel
theorem dX6_areCellsSound_3 : decode cX6_areCellsSound 3 = .ok (.aload_n 0, 1) := by decide +kernel
theorem dX6_areCellsSound_4 : decode cX6_areCellsSound 4 = .ok (.getfield 15, 3) := by decide +kernel
theorem dX6_areCellsSound_7 : decode cX6_areCellsSound 7 = .ok (.invokevirtual 52, 3) := by decide +kernel
theorem dX6_areCellsSound_10 : decode cX6_areCellsSound 10 = .ok (.if_icmp .ge 66, 3) := by decide +kernel
theorem dX6_areCellsSound_13 : decode cX6_areCellsSound 13 = .ok (.aload_n 0, 1) := by decide +kernel
theorem dX6_areCellsSound_14 : decode cX6_areCellsSound 14 = .ok (.getfield 23, 3) := by decide +kernel
theorem dX6_areCellsSound_17 : decode cX6_areCellsSound 17 = .ok (.iload_n 1, 1) := by decide +kernel
theorem dX6_areCellsSound_18 : decode cX6_areCellsSound 18 = .ok (.invokevirtual 131, 3) := by decide +kernel
theorem dX6_areCellsSound_21 : decode cX6_areCellsSound 21 = .ok (.istore_n 2, 1) := by decide +kernel
theorem dX6_areCellsSound_22 : decode cX6_areCellsSound 22 = .ok (.iload_n 2, 1) := by decide +kernel
theorem dX6_areCellsSound_23 : decode cX6_areCellsSound 23 = .ok (.ifCond .ne 18, 3) := by decide +kernel
theorem dX6_areCellsSound_26 : decode cX6_areCellsSound 26 = .ok (.aload_n 0, 1) := by decide +kernel
theorem dX6_areCellsSound_27 : decode cX6_areCellsSound 27 = .ok (.getfield 23, 3) := by decide +kernel
theorem dX6_areCellsSound_30 : decode cX6_areCellsSound 30 = .ok (.iload_n 1, 1) := by decide +kernel
theorem dX6_areCellsSound_31 : decode cX6_areCellsSound 31 = .ok (.invokevirtual 134, 3) := by decide +kernel
theorem dX6_areCellsSound_34 : decode cX6_areCellsSound 34 = .ok (.ifCond .ne 7, 3) := by decide +kernel
theorem dX6_areCellsSound_37 : decode cX6_areCellsSound 37 = .ok (.iconst 1, 1) := by decide +kernel
theorem dX6_areCellsSound_38 : decode cX6_areCellsSound 38 = .ok (.goto 4, 3) := by decide +kernel
theorem dX6_areCellsSound_41 : decode cX6_areCellsSound 41 = .ok (.iconst 0, 1) := by decide +kernel
theorem dX6_areCellsSound_42 : decode cX6_areCellsSound 42 = .ok (.istore_n 3, 1) := by decide +kernel
theorem dX6_areCellsSound_43 : decode cX6_areCellsSound 43 = .ok (.iload_n 2, 1) := by decide +kernel
theorem dX6_areCellsSound_44 : decode cX6_areCellsSound 44 = .ok (.iconst 0, 1) := by decide +kernel
theorem dX6_areCellsSound_45 : decode cX6_areCellsSound 45 = .ok (.bipush 20, 2) := by decide +kernel
theorem dX6_areCellsSound_47 : decode cX6_areCellsSound 47 = .ok (.invokestatic 204, 3) := by decide +kernel
theorem dX6_areCellsSound_50 : decode cX6_areCellsSound 50 = .ok (.ifCond .eq 18, 3) := by decide +kernel
theorem dX6_areCellsSound_53 : decode cX6_areCellsSound 53 = .ok (.aload_n 0, 1) := by decide +kernel
theorem dX6_areCellsSound_54 : decode cX6_areCellsSound 54 = .ok (.getfield 23, 3) := by decide +kernel
theorem dX6_areCellsSound_57 : decode cX6_areCellsSound 57 = .ok (.iload_n 1, 1) := by decide +kernel
theorem dX6_areCellsSound_58 : decode cX6_areCellsSound 58 = .ok (.invokevirtual 107, 3) := by decide +kernel
theorem dX6_areCellsSound_61 : decode cX6_areCellsSound 61 = .ok (.ifCond .ne 9, 3) := by decide +kernel
theorem dX6_areCellsSound_64 : decode cX6_areCellsSound 64 = .ok (.iload_n 3, 1) := by decide +kernel
theorem dX6_areCellsSound_65 : decode cX6_areCellsSound 65 = .ok (.ifCond .ne 5, 3) := by decide +kernel
theorem dX6_areCellsSound_68 : decode cX6_areCellsSound 68 = .ok (.iconst 0, 1) := by decide +kernel
theorem dX6_areCellsSound_69 : decode cX6_areCellsSound 69 = .ok (.ireturn, 1) := by decide +kernel
theorem dX6_areCellsSound_70 : decode cX6_areCellsSound 70 = .ok (.iinc 1 1, 3) := by decide +kernel
theorem dX6_areCellsSound_73 : decode cX6_areCellsSound 73 = .ok (.goto (-71), 3) := by decide +kernel
theorem dX6_areCellsSound_76 : decode cX6_areCellsSound 76 = .ok (.iconst 1, 1) := by decide +kernel
theorem dX6_areCellsSound_77 : decode cX6_areCellsSound 77 = .ok (.ireturn, 1) := by decide +kernel
theorem dX6_seenPairs_0 : decode cX6_seenPairs 0 = .ok (.iconst 0, 1) := by decide +kernel
theorem dX6_seenPairs_1 : decode cX6_seenPairs 1 = .ok (.istore_n 1, 1) := by decide +kernel
theorem dX6_seenPairs_2 : decode cX6_seenPairs 2 = .ok (.iconst 0, 1) := by decide +kernel
theorem dX6_seenPairs_3 : decode cX6_seenPairs 3 = .ok (.istore_n 2, 1) := by decide +kernel
theorem dX6_seenPairs_4 : decode cX6_seenPairs 4 = .ok (.iload_n 2, 1) := by decide +kernel
theorem dX6_seenPairs_5 : decode cX6_seenPairs 5 = .ok (.aload_n 0, 1) := by decide +kernel
theorem dX6_seenPairs_6 : decode cX6_seenPairs 6 = .ok (.getfield 15, 3) := by decide +kernel
theorem dX6_seenPairs_9 : decode cX6_seenPairs 9 = .ok (.invokevirtual 52, 3) := by decide +kernel
theorem dX6_seenPairs_12 : decode cX6_seenPairs 12 = .ok (.if_icmp .ge 78, 3) := by decide +kernel
theorem dX6_seenPairs_15 : decode cX6_seenPairs 15 = .ok (.aload_n 0, 1) := by decide +kernel
theorem dX6_seenPairs_16 : decode cX6_seenPairs 16 = .ok (.getfield 23, 3) := by decide +kernel
theorem dX6_seenPairs_19 : decode cX6_seenPairs 19 = .ok (.iload_n 2, 1) := by decide +kernel
theorem dX6_seenPairs_20 : decode cX6_seenPairs 20 = .ok (.invokevirtual 107, 3) := by decide +kernel
theorem dX6_seenPairs_23 : decode cX6_seenPairs 23 = .ok (.istore_n 3, 1) := by decide +kernel
theorem dX6_seenPairs_24 : decode cX6_seenPairs 24 = .ok (.iconst 0, 1) := by decide +kernel
theorem dX6_seenPairs_25 : decode cX6_seenPairs 25 = .ok (.istore 4, 2) := by decide +kernel
theorem dX6_seenPairs_27 : decode cX6_seenPairs 27 = .ok (.iload 4, 2) := by decide +kernel
theorem dX6_seenPairs_29 : decode cX6_seenPairs 29 = .ok (.aload_n 0, 1) := by decide +kernel
theorem dX6_seenPairs_30 : decode cX6_seenPairs 30 = .ok (.getfield 15, 3) := by decide +kernel
theorem dX6_seenPairs_33 : decode cX6_seenPairs 33 = .ok (.iload_n 2, 1) := by decide +kernel
theorem dX6_seenPairs_34 : decode cX6_seenPairs 34 = .ok (.invokevirtual 146, 3) := by decide +kernel
theorem dX6_seenPairs_37 : decode cX6_seenPairs 37 = .ok (.if_icmp .ge 47, 3) := by decide +kernel
theorem dX6_seenPairs_40 : decode cX6_seenPairs 40 = .ok (.aload_n 0, 1) := by decide +kernel
theorem dX6_seenPairs_41 : decode cX6_seenPairs 41 = .ok (.getfield 19, 3) := by decide +kernel
theorem dX6_seenPairs_44 : decode cX6_seenPairs 44 = .ok (.iload_n 3, 1) := by decide +kernel
theorem dX6_seenPairs_45 : decode cX6_seenPairs 45 = .ok (.aload_n 0, 1) := by decide +kernel
theorem dX6_seenPairs_46 : decode cX6_seenPairs 46 = .ok (.getfield 23, 3) := by decide +kernel
theorem dX6_seenPairs_49 : decode cX6_seenPairs 49 = .ok (.aload_n 0, 1) := by decide +kernel
theorem dX6_seenPairs_50 : decode cX6_seenPairs 50 = .ok (.getfield 15, 3) := by decide +kernel
theorem dX6_seenPairs_53 : decode cX6_seenPairs 53 = .ok (.iload_n 2, 1) := by decide +kernel
theorem dX6_seenPairs_54 : decode cX6_seenPairs 54 = .ok (.iload 4, 2) := by decide +kernel
theorem dX6_seenPairs_56 : decode cX6_seenPairs 56 = .ok (.invokevirtual 149, 3) := by decide +kernel
theorem dX6_seenPairs_59 : decode cX6_seenPairs 59 = .ok (.invokevirtual 107, 3) := by decide +kernel
theorem dX6_seenPairs_62 : decode cX6_seenPairs 62 = .ok (.aload_n 0, 1) := by decide +kernel
theorem dX6_seenPairs_63 : decode cX6_seenPairs 63 = .ok (.getfield 19, 3) := by decide +kernel
theorem dX6_seenPairs_66 : decode cX6_seenPairs 66 = .ok (.invokevirtual 43, 3) := by decide +kernel
theorem dX6_seenPairs_69 : decode cX6_seenPairs 69 = .ok (.invokevirtual 110, 3) := by decide +kernel
theorem dX6_seenPairs_72 : decode cX6_seenPairs 72 = .ok (.ifCond .eq 6, 3) := by decide +kernel
theorem dX6_seenPairs_75 : decode cX6_seenPairs 75 = .ok (.iinc 1 1, 3) := by decide +kernel
theorem dX6_seenPairs_78 : decode cX6_seenPairs 78 = .ok (.iinc 4 1, 3) := by decide +kernel
theorem dX6_seenPairs_81 : decode cX6_seenPairs 81 = .ok (.goto (-54), 3) := by decide +kernel
theorem dX6_seenPairs_84 : decode cX6_seenPairs 84 = .ok (.iinc 2 1, 3) := by decide +kernel
theorem dX6_seenPairs_87 : decode cX6_seenPairs 87 = .ok (.goto (-83), 3) := by decide +kernel
theorem dX6_seenPairs_90 : decode cX6_seenPairs 90 = .ok (.iload_n 1, 1) := by decide +kernel
theorem dX6_seenPairs_91 : decode cX6_seenPairs 91 = .ok (.iconst 2, 1) := by decide +kernel
theorem dX6_seenPairs_92 : decode cX6_seenPairs 92 = .ok (.idiv, 1) := by decide +kernel
theorem dX6_seenPairs_93 : decode cX6_seenPairs 93 = .ok (.ireturn, 1) := by decide +kernel
theorem dX7_init_0 : decode cX7_init 0 = .ok (.aload_n 0, 1) := by decide +kernel
theorem dX7_init_1 : decode cX7_init 1 = .ok (.invokespecial 3, 3) := by decide +kernel
theorem dX7_init_4 : decode cX7_init 4 = .ok (.aload_n 0, 1) := by decide +kernel
theorem dX7_init_5 : decode cX7_init 5 = .ok (.new 9, 3) := by decide +kernel
theorem dX7_init_8 : decode cX7_init 8 = .ok (.dup, 1) := by decide +kernel
theorem dX7_init_9 : decode cX7_init 9 = .ok (.invokespecial 11, 3) := by decide +kernel
theorem dX7_init_12 : decode cX7_init 12 = .ok (.putfield 12, 3) := by decide +kernel
theorem dX7_init_15 : decode cX7_init 15 = .ok (.aload_n 0, 1) := by decide +kernel
theorem dX7_init_16 : decode cX7_init 16 = .ok (.new 16, 3) := by decide +kernel
theorem dX7_init_19 : decode cX7_init 19 = .ok (.dup, 1) := by decide +kernel
theorem dX7_init_20 : decode cX7_init 20 = .ok (.invokespecial 18, 3) := by decide +kernel
theorem dX7_init_23 : decode cX7_init 23 = .ok (.putfield 19, 3) := by decide +kernel
theorem dX7_init_26 : decode cX7_init 26 = .ok (.aload_n 0, 1) := by decide +kernel
theorem dX7_init_27 : decode cX7_init 27 = .ok (.new 23, 3) := by decide +kernel
theorem dX7_init_30 : decode cX7_init 30 = .ok (.dup, 1) := by decide +kernel
theorem dX7_init_31 : decode cX7_init 31 = .ok (.aload_n 0, 1) := by decide +kernel
theorem dX7_init_32 : decode cX7_init 32 = .ok (.getfield 12, 3) := by decide +kernel
theorem dX7_init_35 : decode cX7_init 35 = .ok (.aload_n 0, 1) := by decide +kernel
theorem dX7_init_36 : decode cX7_init 36 = .ok (.getfield 19, 3) := by decide +kernel
theorem dX7_init_39 : decode cX7_init 39 = .ok (.invokespecial 25, 3) := by decide +kernel
theorem dX7_init_42 : decode cX7_init 42 = .ok (.putfield 28, 3) := by decide +kernel
theorem dX7_init_45 : decode cX7_init 45 = .ok (.aload_n 0, 1) := by decide +kernel
theorem dX7_init_46 : decode cX7_init 46 = .ok (.new 23, 3) := by decide +kernel
theorem dX7_init_49 : decode cX7_init 49 = .ok (.dup, 1) := by decide +kernel
theorem dX7_init_50 : decode cX7_init 50 = .ok (.aload_n 0, 1) := by decide +kernel
theorem dX7_init_51 : decode cX7_init 51 = .ok (.getfield 12, 3) := by decide +kernel
theorem dX7_init_54 : decode cX7_init 54 = .ok (.aload_n 0, 1) := by decide +kernel
theorem dX7_init_55 : decode cX7_init 55 = .ok (.getfield 19, 3) := by decide +kernel
theorem dX7_init_58 : decode cX7_init 58 = .ok (.invokespecial 25, 3) := by decide +kernel
theorem dX7_init_61 : decode cX7_init 61 = .ok (.putfield 32, 3) := by decide +kernel
theorem dX7_init_64 : decode cX7_init 64 = .ok (.aload_n 0, 1) := by decide +kernel
theorem dX7_init_65 : decode cX7_init 65 = .ok (.new 35, 3) := by decide +kernel
theorem dX7_init_68 : decode cX7_init 68 = .ok (.dup, 1) := by decide +kernel
theorem dX7_init_69 : decode cX7_init 69 = .ok (.aload_n 0, 1) := by decide +kernel
theorem dX7_init_70 : decode cX7_init 70 = .ok (.getfield 12, 3) := by decide +kernel
theorem dX7_init_73 : decode cX7_init 73 = .ok (.aload_n 0, 1) := by decide +kernel
theorem dX7_init_74 : decode cX7_init 74 = .ok (.getfield 19, 3) := by decide +kernel
theorem dX7_init_77 : decode cX7_init 77 = .ok (.aload_n 0, 1) := by decide +kernel
theorem dX7_init_78 : decode cX7_init 78 = .ok (.getfield 28, 3) := by decide +kernel
theorem dX7_init_81 : decode cX7_init 81 = .ok (.invokespecial 37, 3) := by decide +kernel
theorem dX7_init_84 : decode cX7_init 84 = .ok (.putfield 40, 3) := by decide +kernel
theorem dX7_init_87 : decode cX7_init 87 = .ok (.aload_n 0, 1) := by decide +kernel
theorem dX7_init_88 : decode cX7_init 88 = .ok (.new 44, 3) := by decide +kernel
theorem dX7_init_91 : decode cX7_init 91 = .ok (.dup, 1) := by decide +kernel
theorem dX7_init_92 : decode cX7_init 92 = .ok (.aload_n 0, 1) := by decide +kernel
theorem dX7_init_93 : decode cX7_init 93 = .ok (.getfield 12, 3) := by decide +kernel
theorem dX7_init_96 : decode cX7_init 96 = .ok (.aload_n 0, 1) := by decide +kernel
theorem dX7_init_97 : decode cX7_init 97 = .ok (.getfield 19, 3) := by decide +kernel
theorem dX7_init_100 : decode cX7_init 100 = .ok (.aload_n 0, 1) := by decide +kernel
theorem dX7_init_101 : decode cX7_init 101 = .ok (.getfield 32, 3) := by decide +kernel
theorem dX7_init_104 : decode cX7_init 104 = .ok (.invokespecial 46, 3) := by decide +kernel
theorem dX7_init_107 : decode cX7_init 107 = .ok (.putfield 47, 3) := by decide +kernel
theorem dX7_init_110 : decode cX7_init 110 = .ok (.aload_n 0, 1) := by decide +kernel
theorem dX7_init_111 : decode cX7_init 111 = .ok (.new 51, 3) := by decide +kernel
theorem dX7_init_114 : decode cX7_init 114 = .ok (.dup, 1) := by decide +kernel
theorem dX7_init_115 : decode cX7_init 115 = .ok (.aload_n 0, 1) := by decide +kernel
theorem dX7_init_116 : decode cX7_init 116 = .ok (.getfield 12, 3) := by decide +kernel
theorem dX7_init_119 : decode cX7_init 119 = .ok (.aload_n 0, 1) := by decide +kernel
theorem dX7_init_120 : decode cX7_init 120 = .ok (.getfield 19, 3) := by decide +kernel
theorem dX7_init_123 : decode cX7_init 123 = .ok (.aload_n 0, 1) := by decide +kernel
theorem dX7_init_124 : decode cX7_init 124 = .ok (.getfield 32, 3) := by decide +kernel
theorem dX7_init_127 : decode cX7_init 127 = .ok (.invokespecial 53, 3) := by decide +kernel
theorem dX7_init_130 : decode cX7_init 130 = .ok (.putfield 54, 3) := by decide +kernel
theorem dX7_init_133 : decode cX7_init 133 = .ok (.return_, 1) := by decide +kernel
theorem dX7_lattice_0 : decode cX7_lattice 0 = .ok (.iload_n 1, 1) := by decide +kernel
theorem dX7_lattice_1 : decode cX7_lattice 1 = .ok (.iconst 2, 1) := by decide +kernel
theorem dX7_lattice_2 : decode cX7_lattice 2 = .ok (.bipush 8, 2) := by decide +kernel
theorem dX7_lattice_4 : decode cX7_lattice 4 = .ok (.invokestatic 58, 3) := by decide +kernel
theorem dX7_lattice_7 : decode cX7_lattice 7 = .ok (.ifCond .eq 23, 3) := by decide +kernel
theorem dX7_lattice_10 : decode cX7_lattice 10 = .ok (.iload_n 2, 1) := by decide +kernel
theorem dX7_lattice_11 : decode cX7_lattice 11 = .ok (.iconst 2, 1) := by decide +kernel
theorem dX7_lattice_12 : decode cX7_lattice 12 = .ok (.bipush 8, 2) := by decide +kernel
theorem dX7_lattice_14 : decode cX7_lattice 14 = .ok (.invokestatic 58, 3) := by decide +kernel
theorem dX7_lattice_17 : decode cX7_lattice 17 = .ok (.ifCond .eq 13, 3) := by decide +kernel
theorem dX7_lattice_20 : decode cX7_lattice 20 = .ok (.iload_n 3, 1) := by decide +kernel
theorem dX7_lattice_21 : decode cX7_lattice 21 = .ok (.iconst 1, 1) := by decide +kernel
theorem dX7_lattice_22 : decode cX7_lattice 22 = .ok (.bipush 9, 2) := by decide +kernel
theorem dX7_lattice_24 : decode cX7_lattice 24 = .ok (.invokestatic 58, 3) := by decide +kernel
theorem dX7_lattice_27 : decode cX7_lattice 27 = .ok (.ifCond .ne 11, 3) := by decide +kernel
theorem dX7_lattice_30 : decode cX7_lattice 30 = .ok (.new 62, 3) := by decide +kernel
theorem dX7_lattice_33 : decode cX7_lattice 33 = .ok (.dup, 1) := by decide +kernel
theorem dX7_lattice_34 : decode cX7_lattice 34 = .ok (.invokespecial 64, 3) := by decide +kernel
theorem dX7_lattice_37 : decode cX7_lattice 37 = .ok (.athrow, 1) := by decide +kernel
theorem dX7_lattice_38 : decode cX7_lattice 38 = .ok (.aload_n 0, 1) := by decide +kernel
theorem dX7_lattice_39 : decode cX7_lattice 39 = .ok (.getfield 12, 3) := by decide +kernel
theorem dX7_lattice_42 : decode cX7_lattice 42 = .ok (.iload_n 1, 1) := by decide +kernel
theorem dX7_lattice_43 : decode cX7_lattice 43 = .ok (.iload_n 2, 1) := by decide +kernel
theorem dX7_lattice_44 : decode cX7_lattice 44 = .ok (.invokevirtual 65, 3) := by decide +kernel
theorem dX7_lattice_47 : decode cX7_lattice 47 = .ok (.aload_n 0, 1) := by decide +kernel
theorem dX7_lattice_48 : decode cX7_lattice 48 = .ok (.getfield 28, 3) := by decide +kernel
theorem dX7_lattice_51 : decode cX7_lattice 51 = .ok (.iload_n 3, 1) := by decide +kernel
theorem dX7_lattice_52 : decode cX7_lattice 52 = .ok (.invokevirtual 69, 3) := by decide +kernel
theorem dX7_lattice_55 : decode cX7_lattice 55 = .ok (.aload_n 0, 1) := by decide +kernel
theorem dX7_lattice_56 : decode cX7_lattice 56 = .ok (.getfield 40, 3) := by decide +kernel
theorem dX7_lattice_59 : decode cX7_lattice 59 = .ok (.aload_n 0, 1) := by decide +kernel
theorem dX7_lattice_60 : decode cX7_lattice 60 = .ok (.getfield 28, 3) := by decide +kernel
theorem dX7_lattice_63 : decode cX7_lattice 63 = .ok (.invokevirtual 73, 3) := by decide +kernel
theorem dX7_lattice_66 : decode cX7_lattice 66 = .ok (.aload_n 0, 1) := by decide +kernel
theorem dX7_lattice_67 : decode cX7_lattice 67 = .ok (.getfield 40, 3) := by decide +kernel
theorem dX7_lattice_70 : decode cX7_lattice 70 = .ok (.invokevirtual 77, 3) := by decide +kernel
theorem dX7_lattice_73 : decode cX7_lattice 73 = .ok (.ireturn, 1) := by decide +kernel
theorem dX7_seed_0 : decode cX7_seed 0 = .ok (.iload_n 1, 1) := by decide +kernel
theorem dX7_seed_1 : decode cX7_seed 1 = .ok (.iconst 0, 1) := by decide +kernel
theorem dX7_seed_2 : decode cX7_seed 2 = .ok (.sipush 999, 3) := by decide +kernel
theorem dX7_seed_5 : decode cX7_seed 5 = .ok (.invokestatic 58, 3) := by decide +kernel
theorem dX7_seed_8 : decode cX7_seed 8 = .ok (.ifCond .ne 11, 3) := by decide +kernel
theorem dX7_seed_11 : decode cX7_seed 11 = .ok (.new 62, 3) := by decide +kernel
theorem dX7_seed_14 : decode cX7_seed 14 = .ok (.dup, 1) := by decide +kernel
theorem dX7_seed_15 : decode cX7_seed 15 = .ok (.invokespecial 64, 3) := by decide +kernel
theorem dX7_seed_18 : decode cX7_seed 18 = .ok (.athrow, 1) := by decide +kernel
theorem dX7_seed_19 : decode cX7_seed 19 = .ok (.aload_n 0, 1) := by decide +kernel
theorem dX7_seed_20 : decode cX7_seed 20 = .ok (.getfield 28, 3) := by decide +kernel
theorem dX7_seed_23 : decode cX7_seed 23 = .ok (.iload_n 1, 1) := by decide +kernel
theorem dX7_seed_24 : decode cX7_seed 24 = .ok (.invokevirtual 81, 3) := by decide +kernel
theorem dX7_seed_27 : decode cX7_seed 27 = .ok (.aload_n 0, 1) := by decide +kernel
theorem dX7_seed_28 : decode cX7_seed 28 = .ok (.getfield 28, 3) := by decide +kernel
theorem dX7_seed_31 : decode cX7_seed 31 = .ok (.invokevirtual 84, 3) := by decide +kernel
theorem dX7_seed_34 : decode cX7_seed 34 = .ok (.ireturn, 1) := by decide +kernel
theorem dX7_pin_0 : decode cX7_pin 0 = .ok (.aload_n 0, 1) := by decide +kernel
theorem dX7_pin_1 : decode cX7_pin 1 = .ok (.getfield 12, 3) := by decide +kernel
theorem dX7_pin_4 : decode cX7_pin 4 = .ok (.iload_n 1, 1) := by decide +kernel
theorem dX7_pin_5 : decode cX7_pin 5 = .ok (.invokevirtual 87, 3) := by decide +kernel
theorem dX7_pin_8 : decode cX7_pin 8 = .ok (.ifCond .ne 11, 3) := by decide +kernel
theorem dX7_pin_11 : decode cX7_pin 11 = .ok (.new 91, 3) := by decide +kernel
theorem dX7_pin_14 : decode cX7_pin 14 = .ok (.dup, 1) := by decide +kernel
theorem dX7_pin_15 : decode cX7_pin 15 = .ok (.invokespecial 93, 3) := by decide +kernel
theorem dX7_pin_18 : decode cX7_pin 18 = .ok (.athrow, 1) := by decide +kernel
theorem dX7_pin_19 : decode cX7_pin 19 = .ok (.aload_n 0, 1) := by decide +kernel
theorem dX7_pin_20 : decode cX7_pin 20 = .ok (.getfield 28, 3) := by decide +kernel
theorem dX7_pin_23 : decode cX7_pin 23 = .ok (.iload_n 1, 1) := by decide +kernel
theorem dX7_pin_24 : decode cX7_pin 24 = .ok (.invokevirtual 94, 3) := by decide +kernel
theorem dX7_pin_27 : decode cX7_pin 27 = .ok (.ifCond .ne 11, 3) := by decide +kernel
theorem dX7_pin_30 : decode cX7_pin 30 = .ok (.new 101, 3) := by decide +kernel
theorem dX7_pin_33 : decode cX7_pin 33 = .ok (.dup, 1) := by decide +kernel
theorem dX7_pin_34 : decode cX7_pin 34 = .ok (.invokespecial 103, 3) := by decide +kernel
theorem dX7_pin_37 : decode cX7_pin 37 = .ok (.athrow, 1) := by decide +kernel
theorem dX7_pin_38 : decode cX7_pin 38 = .ok (.aload_n 0, 1) := by decide +kernel
theorem dX7_pin_39 : decode cX7_pin 39 = .ok (.getfield 28, 3) := by decide +kernel
theorem dX7_pin_42 : decode cX7_pin 42 = .ok (.iload_n 1, 1) := by decide +kernel
theorem dX7_pin_43 : decode cX7_pin 43 = .ok (.iconst 0, 1) := by decide +kernel
theorem dX7_pin_44 : decode cX7_pin 44 = .ok (.invokevirtual 98, 3) := by decide +kernel
theorem dX7_pin_47 : decode cX7_pin 47 = .ok (.aload_n 0, 1) := by decide +kernel
theorem dX7_pin_48 : decode cX7_pin 48 = .ok (.getfield 28, 3) := by decide +kernel
theorem dX7_pin_51 : decode cX7_pin 51 = .ok (.iload_n 1, 1) := by decide +kernel
theorem dX7_pin_52 : decode cX7_pin 52 = .ok (.iconst 0, 1) := by decide +kernel
theorem dX7_pin_53 : decode cX7_pin 53 = .ok (.invokevirtual 104, 3) := by decide +kernel
theorem dX7_pin_56 : decode cX7_pin 56 = .ok (.aload_n 0, 1) := by decide +kernel
theorem dX7_pin_57 : decode cX7_pin 57 = .ok (.getfield 28, 3) := by decide +kernel
theorem dX7_pin_60 : decode cX7_pin 60 = .ok (.iload_n 1, 1) := by decide +kernel
theorem dX7_pin_61 : decode cX7_pin 61 = .ok (.iconst 0, 1) := by decide +kernel
theorem dX7_pin_62 : decode cX7_pin 62 = .ok (.invokevirtual 107, 3) := by decide +kernel
theorem dX7_pin_65 : decode cX7_pin 65 = .ok (.aload_n 0, 1) := by decide +kernel
theorem dX7_pin_66 : decode cX7_pin 66 = .ok (.getfield 28, 3) := by decide +kernel
theorem dX7_pin_69 : decode cX7_pin 69 = .ok (.invokevirtual 110, 3) := by decide +kernel
theorem dX7_pin_72 : decode cX7_pin 72 = .ok (.ireturn, 1) := by decide +kernel
theorem dX7_work_0 : decode cX7_work 0 = .ok (.aload_n 0, 1) := by decide +kernel
theorem dX7_work_1 : decode cX7_work 1 = .ok (.getfield 12, 3) := by decide +kernel
theorem dX7_work_4 : decode cX7_work 4 = .ok (.iload_n 1, 1) := by decide +kernel
theorem dX7_work_5 : decode cX7_work 5 = .ok (.invokevirtual 87, 3) := by decide +kernel
theorem dX7_work_8 : decode cX7_work 8 = .ok (.ifCond .ne 11, 3) := by decide +kernel
theorem dX7_work_11 : decode cX7_work 11 = .ok (.new 91, 3) := by decide +kernel
theorem dX7_work_14 : decode cX7_work 14 = .ok (.dup, 1) := by decide +kernel
theorem dX7_work_15 : decode cX7_work 15 = .ok (.invokespecial 93, 3) := by decide +kernel
theorem dX7_work_18 : decode cX7_work 18 = .ok (.athrow, 1) := by decide +kernel
theorem dX7_work_19 : decode cX7_work 19 = .ok (.iload_n 2, 1) := by decide +kernel
theorem dX7_work_20 : decode cX7_work 20 = .ok (.iconst 0, 1) := by decide +kernel
theorem dX7_work_21 : decode cX7_work 21 = .ok (.bipush 20, 2) := by decide +kernel
theorem dX7_work_23 : decode cX7_work 23 = .ok (.invokestatic 58, 3) := by decide +kernel
theorem dX7_work_26 : decode cX7_work 26 = .ok (.ifCond .ne 11, 3) := by decide +kernel
theorem dX7_work_29 : decode cX7_work 29 = .ok (.new 62, 3) := by decide +kernel
theorem dX7_work_32 : decode cX7_work 32 = .ok (.dup, 1) := by decide +kernel
theorem dX7_work_33 : decode cX7_work 33 = .ok (.invokespecial 64, 3) := by decide +kernel
theorem dX7_work_36 : decode cX7_work 36 = .ok (.athrow, 1) := by decide +kernel
theorem dX7_work_37 : decode cX7_work 37 = .ok (.aload_n 0, 1) := by decide +kernel
theorem dX7_work_38 : decode cX7_work 38 = .ok (.getfield 28, 3) := by decide +kernel
theorem dX7_work_41 : decode cX7_work 41 = .ok (.iload_n 1, 1) := by decide +kernel
theorem dX7_work_42 : decode cX7_work 42 = .ok (.invokevirtual 94, 3) := by decide +kernel
theorem dX7_work_45 : decode cX7_work 45 = .ok (.ifCond .ne 15, 3) := by decide +kernel
theorem dX7_work_48 : decode cX7_work 48 = .ok (.iload_n 2, 1) := by decide +kernel
theorem dX7_work_49 : decode cX7_work 49 = .ok (.ifCond .eq 11, 3) := by decide +kernel
theorem dX7_work_52 : decode cX7_work 52 = .ok (.new 101, 3) := by decide +kernel
theorem dX7_work_55 : decode cX7_work 55 = .ok (.dup, 1) := by decide +kernel
theorem dX7_work_56 : decode cX7_work 56 = .ok (.invokespecial 103, 3) := by decide +kernel
theorem dX7_work_59 : decode cX7_work 59 = .ok (.athrow, 1) := by decide +kernel
theorem dX7_work_60 : decode cX7_work 60 = .ok (.aload_n 0, 1) := by decide +kernel
theorem dX7_work_61 : decode cX7_work 61 = .ok (.getfield 28, 3) := by decide +kernel
theorem dX7_work_64 : decode cX7_work 64 = .ok (.iload_n 1, 1) := by decide +kernel
theorem dX7_work_65 : decode cX7_work 65 = .ok (.invokevirtual 113, 3) := by decide +kernel
theorem dX7_work_68 : decode cX7_work 68 = .ok (.istore_n 3, 1) := by decide +kernel
theorem dX7_work_69 : decode cX7_work 69 = .ok (.aload_n 0, 1) := by decide +kernel
theorem dX7_work_70 : decode cX7_work 70 = .ok (.getfield 28, 3) := by decide +kernel
theorem dX7_work_73 : decode cX7_work 73 = .ok (.iload_n 1, 1) := by decide +kernel
theorem dX7_work_74 : decode cX7_work 74 = .ok (.iload_n 2, 1) := by decide +kernel
theorem dX7_work_75 : decode cX7_work 75 = .ok (.invokevirtual 104, 3) := by decide +kernel
theorem dX7_work_78 : decode cX7_work 78 = .ok (.iload_n 3, 1) := by decide +kernel
theorem dX7_work_79 : decode cX7_work 79 = .ok (.ireturn, 1) := by decide +kernel
theorem dX7_misfit_0 : decode cX7_misfit 0 = .ok (.iload_n 1, 1) := by decide +kernel
theorem dX7_misfit_1 : decode cX7_misfit 1 = .ok (.iload_n 2, 1) := by decide +kernel
theorem dX7_misfit_2 : decode cX7_misfit 2 = .ok (.invokestatic 116, 3) := by decide +kernel
theorem dX7_misfit_5 : decode cX7_misfit 5 = .ok (.ifCond .eq 13, 3) := by decide +kernel
theorem dX7_misfit_8 : decode cX7_misfit 8 = .ok (.iload_n 3, 1) := by decide +kernel
theorem dX7_misfit_9 : decode cX7_misfit 9 = .ok (.iconst 1, 1) := by decide +kernel
theorem dX7_misfit_10 : decode cX7_misfit 10 = .ok (.bipush 9, 2) := by decide +kernel
theorem dX7_misfit_12 : decode cX7_misfit 12 = .ok (.invokestatic 58, 3) := by decide +kernel
theorem dX7_misfit_15 : decode cX7_misfit 15 = .ok (.ifCond .ne 11, 3) := by decide +kernel
theorem dX7_misfit_18 : decode cX7_misfit 18 = .ok (.new 62, 3) := by decide +kernel
theorem dX7_misfit_21 : decode cX7_misfit 21 = .ok (.dup, 1) := by decide +kernel
theorem dX7_misfit_22 : decode cX7_misfit 22 = .ok (.invokespecial 64, 3) := by decide +kernel
theorem dX7_misfit_25 : decode cX7_misfit 25 = .ok (.athrow, 1) := by decide +kernel
theorem dX7_misfit_26 : decode cX7_misfit 26 = .ok (.aload_n 0, 1) := by decide +kernel
theorem dX7_misfit_27 : decode cX7_misfit 27 = .ok (.getfield 19, 3) := by decide +kernel
theorem dX7_misfit_30 : decode cX7_misfit 30 = .ok (.iload_n 1, 1) := by decide +kernel
theorem dX7_misfit_31 : decode cX7_misfit 31 = .ok (.iload_n 2, 1) := by decide +kernel
theorem dX7_misfit_32 : decode cX7_misfit 32 = .ok (.invokevirtual 120, 3) := by decide +kernel
theorem dX7_misfit_35 : decode cX7_misfit 35 = .ok (.istore 4, 2) := by decide +kernel
theorem dX7_misfit_37 : decode cX7_misfit 37 = .ok (.aload_n 0, 1) := by decide +kernel
theorem dX7_misfit_38 : decode cX7_misfit 38 = .ok (.getfield 19, 3) := by decide +kernel
theorem dX7_misfit_41 : decode cX7_misfit 41 = .ok (.iload_n 1, 1) := by decide +kernel
theorem dX7_misfit_42 : decode cX7_misfit 42 = .ok (.iload_n 2, 1) := by decide +kernel
theorem dX7_misfit_43 : decode cX7_misfit 43 = .ok (.iload_n 3, 1) := by decide +kernel
theorem dX7_misfit_44 : decode cX7_misfit 44 = .ok (.invokevirtual 124, 3) := by decide +kernel
theorem dX7_misfit_47 : decode cX7_misfit 47 = .ok (.iload 4, 2) := by decide +kernel
theorem dX7_misfit_49 : decode cX7_misfit 49 = .ok (.ireturn, 1) := by decide +kernel
theorem dX7_etch_0 : decode cX7_etch 0 = .ok (.iload_n 1, 1) := by decide +kernel
theorem dX7_etch_1 : decode cX7_etch 1 = .ok (.iconst 1, 1) := by decide +kernel
theorem dX7_etch_2 : decode cX7_etch 2 = .ok (.bipush 9, 2) := by decide +kernel
theorem dX7_etch_4 : decode cX7_etch 4 = .ok (.invokestatic 58, 3) := by decide +kernel
theorem dX7_etch_7 : decode cX7_etch 7 = .ok (.ifCond .ne 11, 3) := by decide +kernel
theorem dX7_etch_10 : decode cX7_etch 10 = .ok (.new 62, 3) := by decide +kernel
theorem dX7_etch_13 : decode cX7_etch 13 = .ok (.dup, 1) := by decide +kernel
theorem dX7_etch_14 : decode cX7_etch 14 = .ok (.invokespecial 64, 3) := by decide +kernel
theorem dX7_etch_17 : decode cX7_etch 17 = .ok (.athrow, 1) := by decide +kernel
theorem dX7_etch_18 : decode cX7_etch 18 = .ok (.aload_n 0, 1) := by decide +kernel
theorem dX7_etch_19 : decode cX7_etch 19 = .ok (.getfield 19, 3) := by decide +kernel
theorem dX7_etch_22 : decode cX7_etch 22 = .ok (.iload_n 1, 1) := by decide +kernel
theorem dX7_etch_23 : decode cX7_etch 23 = .ok (.invokevirtual 128, 3) := by decide +kernel
theorem dX7_etch_26 : decode cX7_etch 26 = .ok (.aload_n 0, 1) := by decide +kernel
theorem dX7_etch_27 : decode cX7_etch 27 = .ok (.getfield 40, 3) := by decide +kernel
theorem dX7_etch_30 : decode cX7_etch 30 = .ok (.aload_n 0, 1) := by decide +kernel
theorem dX7_etch_31 : decode cX7_etch 31 = .ok (.getfield 28, 3) := by decide +kernel
theorem dX7_etch_34 : decode cX7_etch 34 = .ok (.invokevirtual 73, 3) := by decide +kernel
theorem dX7_etch_37 : decode cX7_etch 37 = .ok (.aload_n 0, 1) := by decide +kernel
theorem dX7_etch_38 : decode cX7_etch 38 = .ok (.getfield 40, 3) := by decide +kernel
theorem dX7_etch_41 : decode cX7_etch 41 = .ok (.invokevirtual 131, 3) := by decide +kernel
theorem dX7_etch_44 : decode cX7_etch 44 = .ok (.ireturn, 1) := by decide +kernel
theorem dX7_heat_0 : decode cX7_heat 0 = .ok (.iload_n 1, 1) := by decide +kernel
theorem dX7_heat_1 : decode cX7_heat 1 = .ok (.iconst 0, 1) := by decide +kernel
theorem dX7_heat_2 : decode cX7_heat 2 = .ok (.bipush 9, 2) := by decide +kernel
theorem dX7_heat_4 : decode cX7_heat 4 = .ok (.invokestatic 58, 3) := by decide +kernel
theorem dX7_heat_7 : decode cX7_heat 7 = .ok (.ifCond .eq 13, 3) := by decide +kernel
theorem dX7_heat_10 : decode cX7_heat 10 = .ok (.iload_n 2, 1) := by decide +kernel
theorem dX7_heat_11 : decode cX7_heat 11 = .ok (.iconst 1, 1) := by decide +kernel
theorem dX7_heat_12 : decode cX7_heat 12 = .ok (.bipush 12, 2) := by decide +kernel
theorem dX7_heat_14 : decode cX7_heat 14 = .ok (.invokestatic 58, 3) := by decide +kernel
theorem dX7_heat_17 : decode cX7_heat 17 = .ok (.ifCond .ne 11, 3) := by decide +kernel
theorem dX7_heat_20 : decode cX7_heat 20 = .ok (.new 62, 3) := by decide +kernel
theorem dX7_heat_23 : decode cX7_heat 23 = .ok (.dup, 1) := by decide +kernel
theorem dX7_heat_24 : decode cX7_heat 24 = .ok (.invokespecial 64, 3) := by decide +kernel
theorem dX7_heat_27 : decode cX7_heat 27 = .ok (.athrow, 1) := by decide +kernel
theorem dX7_heat_28 : decode cX7_heat 28 = .ok (.aload_n 0, 1) := by decide +kernel
theorem dX7_heat_29 : decode cX7_heat 29 = .ok (.getfield 28, 3) := by decide +kernel
theorem dX7_heat_32 : decode cX7_heat 32 = .ok (.iload_n 1, 1) := by decide +kernel
theorem dX7_heat_33 : decode cX7_heat 33 = .ok (.iload_n 2, 1) := by decide +kernel
theorem dX7_heat_34 : decode cX7_heat 34 = .ok (.invokevirtual 134, 3) := by decide +kernel
theorem dX7_heat_37 : decode cX7_heat 37 = .ok (.ireturn, 1) := by decide +kernel
theorem dX7_roll_0 : decode cX7_roll 0 = .ok (.iload_n 1, 1) := by decide +kernel
theorem dX7_roll_1 : decode cX7_roll 1 = .ok (.iconst 1, 1) := by decide +kernel
theorem dX7_roll_2 : decode cX7_roll 2 = .ok (.bipush 9, 2) := by decide +kernel
theorem dX7_roll_4 : decode cX7_roll 4 = .ok (.invokestatic 58, 3) := by decide +kernel
theorem dX7_roll_7 : decode cX7_roll 7 = .ok (.ifCond .ne 11, 3) := by decide +kernel
theorem dX7_roll_10 : decode cX7_roll 10 = .ok (.new 62, 3) := by decide +kernel
theorem dX7_roll_13 : decode cX7_roll 13 = .ok (.dup, 1) := by decide +kernel
theorem dX7_roll_14 : decode cX7_roll 14 = .ok (.invokespecial 64, 3) := by decide +kernel
theorem dX7_roll_17 : decode cX7_roll 17 = .ok (.athrow, 1) := by decide +kernel
theorem dX7_roll_18 : decode cX7_roll 18 = .ok (.iconst 0, 1) := by decide +kernel
theorem dX7_roll_19 : decode cX7_roll 19 = .ok (.istore_n 2, 1) := by decide +kernel
theorem dX7_roll_20 : decode cX7_roll 20 = .ok (.iload_n 2, 1) := by decide +kernel
theorem dX7_roll_21 : decode cX7_roll 21 = .ok (.iload_n 1, 1) := by decide +kernel
theorem dX7_roll_22 : decode cX7_roll 22 = .ok (.if_icmp .ge 16, 3) := by decide +kernel
theorem dX7_roll_25 : decode cX7_roll 25 = .ok (.aload_n 0, 1) := by decide +kernel
theorem dX7_roll_26 : decode cX7_roll 26 = .ok (.getfield 28, 3) := by decide +kernel
theorem dX7_roll_29 : decode cX7_roll 29 = .ok (.invokevirtual 137, 3) := by decide +kernel
theorem dX7_roll_32 : decode cX7_roll 32 = .ok (.iinc 2 1, 3) := by decide +kernel
theorem dX7_roll_35 : decode cX7_roll 35 = .ok (.goto (-15), 3) := by decide +kernel
theorem dX7_roll_38 : decode cX7_roll 38 = .ok (.aload_n 0, 1) := by decide +kernel
theorem dX7_roll_39 : decode cX7_roll 39 = .ok (.getfield 28, 3) := by decide +kernel
theorem dX7_roll_42 : decode cX7_roll 42 = .ok (.invokevirtual 140, 3) := by decide +kernel
theorem dX7_roll_45 : decode cX7_roll 45 = .ok (.ireturn, 1) := by decide +kernel
theorem dX7_born_0 : decode cX7_born 0 = .ok (.iload_n 1, 1) := by decide +kernel
theorem dX7_born_1 : decode cX7_born 1 = .ok (.iconst 1, 1) := by decide +kernel
theorem dX7_born_2 : decode cX7_born 2 = .ok (.bipush 20, 2) := by decide +kernel
theorem dX7_born_4 : decode cX7_born 4 = .ok (.invokestatic 58, 3) := by decide +kernel
theorem dX7_born_7 : decode cX7_born 7 = .ok (.ifCond .ne 11, 3) := by decide +kernel
theorem dX7_born_10 : decode cX7_born 10 = .ok (.new 62, 3) := by decide +kernel
theorem dX7_born_13 : decode cX7_born 13 = .ok (.dup, 1) := by decide +kernel
theorem dX7_born_14 : decode cX7_born 14 = .ok (.invokespecial 64, 3) := by decide +kernel
theorem dX7_born_17 : decode cX7_born 17 = .ok (.athrow, 1) := by decide +kernel
theorem dX7_born_18 : decode cX7_born 18 = .ok (.aload_n 0, 1) := by decide +kernel
theorem dX7_born_19 : decode cX7_born 19 = .ok (.getfield 28, 3) := by decide +kernel
theorem dX7_born_22 : decode cX7_born 22 = .ok (.iload_n 1, 1) := by decide +kernel
theorem dX7_born_23 : decode cX7_born 23 = .ok (.invokevirtual 143, 3) := by decide +kernel
theorem dX7_born_26 : decode cX7_born 26 = .ok (.ireturn, 1) := by decide +kernel
theorem dX7_curve_0 : decode cX7_curve 0 = .ok (.iload_n 1, 1) := by decide +kernel
theorem dX7_curve_1 : decode cX7_curve 1 = .ok (.iconst 0, 1) := by decide +kernel
theorem dX7_curve_2 : decode cX7_curve 2 = .ok (.bipush 9, 2) := by decide +kernel
theorem dX7_curve_4 : decode cX7_curve 4 = .ok (.invokestatic 58, 3) := by decide +kernel
theorem dX7_curve_7 : decode cX7_curve 7 = .ok (.ifCond .eq 13, 3) := by decide +kernel
theorem dX7_curve_10 : decode cX7_curve 10 = .ok (.iload_n 2, 1) := by decide +kernel
theorem dX7_curve_11 : decode cX7_curve 11 = .ok (.iconst 1, 1) := by decide +kernel
theorem dX7_curve_12 : decode cX7_curve 12 = .ok (.bipush 99, 2) := by decide +kernel
theorem dX7_curve_14 : decode cX7_curve 14 = .ok (.invokestatic 58, 3) := by decide +kernel
theorem dX7_curve_17 : decode cX7_curve 17 = .ok (.ifCond .ne 11, 3) := by decide +kernel
theorem dX7_curve_20 : decode cX7_curve 20 = .ok (.new 62, 3) := by decide +kernel
theorem dX7_curve_23 : decode cX7_curve 23 = .ok (.dup, 1) := by decide +kernel
theorem dX7_curve_24 : decode cX7_curve 24 = .ok (.invokespecial 64, 3) := by decide +kernel
theorem dX7_curve_27 : decode cX7_curve 27 = .ok (.athrow, 1) := by decide +kernel
theorem dX7_curve_28 : decode cX7_curve 28 = .ok (.aload_n 0, 1) := by decide +kernel
theorem dX7_curve_29 : decode cX7_curve 29 = .ok (.getfield 19, 3) := by decide +kernel
theorem dX7_curve_32 : decode cX7_curve 32 = .ok (.iload_n 1, 1) := by decide +kernel
theorem dX7_curve_33 : decode cX7_curve 33 = .ok (.invokevirtual 146, 3) := by decide +kernel
theorem dX7_curve_36 : decode cX7_curve 36 = .ok (.istore_n 3, 1) := by decide +kernel
theorem dX7_curve_37 : decode cX7_curve 37 = .ok (.aload_n 0, 1) := by decide +kernel
theorem dX7_curve_38 : decode cX7_curve 38 = .ok (.getfield 19, 3) := by decide +kernel
theorem dX7_curve_41 : decode cX7_curve 41 = .ok (.iload_n 1, 1) := by decide +kernel
theorem dX7_curve_42 : decode cX7_curve 42 = .ok (.iload_n 2, 1) := by decide +kernel
theorem dX7_curve_43 : decode cX7_curve 43 = .ok (.invokevirtual 149, 3) := by decide +kernel
theorem dX7_curve_46 : decode cX7_curve 46 = .ok (.iload_n 3, 1) := by decide +kernel
theorem dX7_curve_47 : decode cX7_curve 47 = .ok (.ireturn, 1) := by decide +kernel
theorem dX7_cool_0 : decode cX7_cool 0 = .ok (.iload_n 1, 1) := by decide +kernel
theorem dX7_cool_1 : decode cX7_cool 1 = .ok (.iload_n 2, 1) := by decide +kernel
theorem dX7_cool_2 : decode cX7_cool 2 = .ok (.invokestatic 152, 3) := by decide +kernel
theorem dX7_cool_5 : decode cX7_cool 5 = .ok (.ifCond .eq 13, 3) := by decide +kernel
theorem dX7_cool_8 : decode cX7_cool 8 = .ok (.iload_n 3, 1) := by decide +kernel
theorem dX7_cool_9 : decode cX7_cool 9 = .ok (.iconst 1, 1) := by decide +kernel
theorem dX7_cool_10 : decode cX7_cool 10 = .ok (.bipush 50, 2) := by decide +kernel
theorem dX7_cool_12 : decode cX7_cool 12 = .ok (.invokestatic 58, 3) := by decide +kernel
theorem dX7_cool_15 : decode cX7_cool 15 = .ok (.ifCond .ne 11, 3) := by decide +kernel
theorem dX7_cool_18 : decode cX7_cool 18 = .ok (.new 62, 3) := by decide +kernel
theorem dX7_cool_21 : decode cX7_cool 21 = .ok (.dup, 1) := by decide +kernel
theorem dX7_cool_22 : decode cX7_cool 22 = .ok (.invokespecial 64, 3) := by decide +kernel
theorem dX7_cool_25 : decode cX7_cool 25 = .ok (.athrow, 1) := by decide +kernel
theorem dX7_cool_26 : decode cX7_cool 26 = .ok (.aload_n 0, 1) := by decide +kernel
theorem dX7_cool_27 : decode cX7_cool 27 = .ok (.getfield 28, 3) := by decide +kernel
theorem dX7_cool_30 : decode cX7_cool 30 = .ok (.iload_n 1, 1) := by decide +kernel
theorem dX7_cool_31 : decode cX7_cool 31 = .ok (.iload_n 2, 1) := by decide +kernel
theorem dX7_cool_32 : decode cX7_cool 32 = .ok (.iload_n 3, 1) := by decide +kernel
theorem dX7_cool_33 : decode cX7_cool 33 = .ok (.invokevirtual 155, 3) := by decide +kernel
theorem dX7_cool_36 : decode cX7_cool 36 = .ok (.ireturn, 1) := by decide +kernel
theorem dX7_soften_0 : decode cX7_soften 0 = .ok (.aload_n 0, 1) := by decide +kernel
theorem dX7_soften_1 : decode cX7_soften 1 = .ok (.getfield 28, 3) := by decide +kernel
theorem dX7_soften_4 : decode cX7_soften 4 = .ok (.invokevirtual 159, 3) := by decide +kernel
theorem dX7_soften_7 : decode cX7_soften 7 = .ok (.ireturn, 1) := by decide +kernel
theorem dX7_furnace_0 : decode cX7_furnace 0 = .ok (.iload_n 1, 1) := by decide +kernel
theorem dX7_furnace_1 : decode cX7_furnace 1 = .ok (.invokestatic 162, 3) := by decide +kernel
theorem dX7_furnace_4 : decode cX7_furnace 4 = .ok (.ifCond .ne 11, 3) := by decide +kernel
theorem dX7_furnace_7 : decode cX7_furnace 7 = .ok (.new 62, 3) := by decide +kernel
theorem dX7_furnace_10 : decode cX7_furnace 10 = .ok (.dup, 1) := by decide +kernel
theorem dX7_furnace_11 : decode cX7_furnace 11 = .ok (.invokespecial 64, 3) := by decide +kernel
theorem dX7_furnace_14 : decode cX7_furnace 14 = .ok (.athrow, 1) := by decide +kernel
theorem dX7_furnace_15 : decode cX7_furnace 15 = .ok (.bipush 36, 2) := by decide +kernel
theorem dX7_furnace_17 : decode cX7_furnace 17 = .ok (.istore_n 2, 1) := by decide +kernel
theorem dX7_furnace_18 : decode cX7_furnace 18 = .ok (.iload_n 2, 1) := by decide +kernel
theorem dX7_furnace_19 : decode cX7_furnace 19 = .ok (.ifCond .le 26, 3) := by decide +kernel
theorem dX7_furnace_22 : decode cX7_furnace 22 = .ok (.aload_n 0, 1) := by decide +kernel
theorem dX7_furnace_23 : decode cX7_furnace 23 = .ok (.getfield 28, 3) := by decide +kernel
theorem dX7_furnace_26 : decode cX7_furnace 26 = .ok (.iload_n 1, 1) := by decide +kernel
theorem dX7_furnace_27 : decode cX7_furnace 27 = .ok (.iload_n 2, 1) := by decide +kernel
theorem dX7_furnace_28 : decode cX7_furnace 28 = .ok (.idiv, 1) := by decide +kernel
theorem dX7_furnace_29 : decode cX7_furnace 29 = .ok (.bipush 6, 2) := by decide +kernel
theorem dX7_furnace_31 : decode cX7_furnace 31 = .ok (.irem, 1) := by decide +kernel
theorem dX7_furnace_32 : decode cX7_furnace 32 = .ok (.iconst 1, 1) := by decide +kernel
theorem dX7_furnace_33 : decode cX7_furnace 33 = .ok (.isub, 1) := by decide +kernel
theorem dX7_furnace_34 : decode cX7_furnace 34 = .ok (.invokevirtual 165, 3) := by decide +kernel
theorem dX7_furnace_37 : decode cX7_furnace 37 = .ok (.iload_n 2, 1) := by decide +kernel
theorem dX7_furnace_38 : decode cX7_furnace 38 = .ok (.bipush 6, 2) := by decide +kernel
theorem dX7_furnace_40 : decode cX7_furnace 40 = .ok (.idiv, 1) := by decide +kernel
theorem dX7_furnace_41 : decode cX7_furnace 41 = .ok (.istore_n 2, 1) := by decide +kernel
theorem dX7_furnace_42 : decode cX7_furnace 42 = .ok (.goto (-24), 3) := by decide +kernel
theorem dX7_furnace_45 : decode cX7_furnace 45 = .ok (.aload_n 0, 1) := by decide +kernel
theorem dX7_furnace_46 : decode cX7_furnace 46 = .ok (.getfield 40, 3) := by decide +kernel
theorem dX7_furnace_49 : decode cX7_furnace 49 = .ok (.aload_n 0, 1) := by decide +kernel
theorem dX7_furnace_50 : decode cX7_furnace 50 = .ok (.getfield 28, 3) := by decide +kernel
theorem dX7_furnace_53 : decode cX7_furnace 53 = .ok (.invokevirtual 73, 3) := by decide +kernel
theorem dX7_furnace_56 : decode cX7_furnace 56 = .ok (.aload_n 0, 1) := by decide +kernel
theorem dX7_furnace_57 : decode cX7_furnace 57 = .ok (.getfield 40, 3) := by decide +kernel
theorem dX7_furnace_60 : decode cX7_furnace 60 = .ok (.invokevirtual 168, 3) := by decide +kernel
theorem dX7_furnace_63 : decode cX7_furnace 63 = .ok (.ireturn, 1) := by decide +kernel
theorem dX7_ofCell_0 : decode cX7_ofCell 0 = .ok (.aload_n 0, 1) := by decide +kernel
theorem dX7_ofCell_1 : decode cX7_ofCell 1 = .ok (.getfield 12, 3) := by decide +kernel
theorem dX7_ofCell_4 : decode cX7_ofCell 4 = .ok (.iload_n 1, 1) := by decide +kernel
theorem dX7_ofCell_5 : decode cX7_ofCell 5 = .ok (.invokevirtual 87, 3) := by decide +kernel
theorem dX7_ofCell_8 : decode cX7_ofCell 8 = .ok (.ifCond .ne 11, 3) := by decide +kernel
theorem dX7_ofCell_11 : decode cX7_ofCell 11 = .ok (.new 91, 3) := by decide +kernel
theorem dX7_ofCell_14 : decode cX7_ofCell 14 = .ok (.dup, 1) := by decide +kernel
theorem dX7_ofCell_15 : decode cX7_ofCell 15 = .ok (.invokespecial 93, 3) := by decide +kernel
theorem dX7_ofCell_18 : decode cX7_ofCell 18 = .ok (.athrow, 1) := by decide +kernel
theorem dX7_ofCell_19 : decode cX7_ofCell 19 = .ok (.iload_n 2, 1) := by decide +kernel
theorem dX7_ofCell_20 : decode cX7_ofCell 20 = .ok (.iconst 0, 1) := by decide +kernel
theorem dX7_ofCell_21 : decode cX7_ofCell 21 = .ok (.iconst 5, 1) := by decide +kernel
theorem dX7_ofCell_22 : decode cX7_ofCell 22 = .ok (.invokestatic 58, 3) := by decide +kernel
theorem dX7_ofCell_25 : decode cX7_ofCell 25 = .ok (.ifCond .ne 11, 3) := by decide +kernel
theorem dX7_ofCell_28 : decode cX7_ofCell 28 = .ok (.new 62, 3) := by decide +kernel
theorem dX7_ofCell_31 : decode cX7_ofCell 31 = .ok (.dup, 1) := by decide +kernel
theorem dX7_ofCell_32 : decode cX7_ofCell 32 = .ok (.invokespecial 64, 3) := by decide +kernel
theorem dX7_ofCell_35 : decode cX7_ofCell 35 = .ok (.athrow, 1) := by decide +kernel
theorem dX7_ofCell_36 : decode cX7_ofCell 36 = .ok (.aload_n 0, 1) := by decide +kernel
theorem dX7_ofCell_37 : decode cX7_ofCell 37 = .ok (.getfield 40, 3) := by decide +kernel
theorem dX7_ofCell_40 : decode cX7_ofCell 40 = .ok (.aload_n 0, 1) := by decide +kernel
theorem dX7_ofCell_41 : decode cX7_ofCell 41 = .ok (.getfield 28, 3) := by decide +kernel
theorem dX7_ofCell_44 : decode cX7_ofCell 44 = .ok (.invokevirtual 73, 3) := by decide +kernel
theorem dX7_ofCell_47 : decode cX7_ofCell 47 = .ok (.aload_n 0, 1) := by decide +kernel
theorem dX7_ofCell_48 : decode cX7_ofCell 48 = .ok (.getfield 40, 3) := by decide +kernel
theorem dX7_ofCell_51 : decode cX7_ofCell 51 = .ok (.iload_n 1, 1) := by decide +kernel
theorem dX7_ofCell_52 : decode cX7_ofCell 52 = .ok (.iload_n 2, 1) := by decide +kernel
theorem dX7_ofCell_53 : decode cX7_ofCell 53 = .ok (.invokevirtual 171, 3) := by decide +kernel
theorem dX7_ofCell_56 : decode cX7_ofCell 56 = .ok (.ireturn, 1) := by decide +kernel
theorem dX7_ofGrain_0 : decode cX7_ofGrain 0 = .ok (.aload_n 0, 1) := by decide +kernel
theorem dX7_ofGrain_1 : decode cX7_ofGrain 1 = .ok (.getfield 40, 3) := by decide +kernel
theorem dX7_ofGrain_4 : decode cX7_ofGrain 4 = .ok (.aload_n 0, 1) := by decide +kernel
theorem dX7_ofGrain_5 : decode cX7_ofGrain 5 = .ok (.getfield 28, 3) := by decide +kernel
theorem dX7_ofGrain_8 : decode cX7_ofGrain 8 = .ok (.invokevirtual 73, 3) := by decide +kernel
theorem dX7_ofGrain_11 : decode cX7_ofGrain 11 = .ok (.iload_n 1, 1) := by decide +kernel
theorem dX7_ofGrain_12 : decode cX7_ofGrain 12 = .ok (.iconst 0, 1) := by decide +kernel
theorem dX7_ofGrain_13 : decode cX7_ofGrain 13 = .ok (.aload_n 0, 1) := by decide +kernel
theorem dX7_ofGrain_14 : decode cX7_ofGrain 14 = .ok (.getfield 40, 3) := by decide +kernel
theorem dX7_ofGrain_17 : decode cX7_ofGrain 17 = .ok (.invokevirtual 77, 3) := by decide +kernel
theorem dX7_ofGrain_20 : decode cX7_ofGrain 20 = .ok (.iconst 1, 1) := by decide +kernel
theorem dX7_ofGrain_21 : decode cX7_ofGrain 21 = .ok (.isub, 1) := by decide +kernel
theorem dX7_ofGrain_22 : decode cX7_ofGrain 22 = .ok (.invokestatic 58, 3) := by decide +kernel
theorem dX7_ofGrain_25 : decode cX7_ofGrain 25 = .ok (.ifCond .ne 11, 3) := by decide +kernel
theorem dX7_ofGrain_28 : decode cX7_ofGrain 28 = .ok (.new 91, 3) := by decide +kernel
theorem dX7_ofGrain_31 : decode cX7_ofGrain 31 = .ok (.dup, 1) := by decide +kernel
theorem dX7_ofGrain_32 : decode cX7_ofGrain 32 = .ok (.invokespecial 93, 3) := by decide +kernel
theorem dX7_ofGrain_35 : decode cX7_ofGrain 35 = .ok (.athrow, 1) := by decide +kernel
theorem dX7_ofGrain_36 : decode cX7_ofGrain 36 = .ok (.iload_n 2, 1) := by decide +kernel
theorem dX7_ofGrain_37 : decode cX7_ofGrain 37 = .ok (.iconst 0, 1) := by decide +kernel
theorem dX7_ofGrain_38 : decode cX7_ofGrain 38 = .ok (.bipush 6, 2) := by decide +kernel
theorem dX7_ofGrain_40 : decode cX7_ofGrain 40 = .ok (.invokestatic 58, 3) := by decide +kernel
theorem dX7_ofGrain_43 : decode cX7_ofGrain 43 = .ok (.ifCond .ne 11, 3) := by decide +kernel
theorem dX7_ofGrain_46 : decode cX7_ofGrain 46 = .ok (.new 62, 3) := by decide +kernel
theorem dX7_ofGrain_49 : decode cX7_ofGrain 49 = .ok (.dup, 1) := by decide +kernel
theorem dX7_ofGrain_50 : decode cX7_ofGrain 50 = .ok (.invokespecial 64, 3) := by decide +kernel
theorem dX7_ofGrain_53 : decode cX7_ofGrain 53 = .ok (.athrow, 1) := by decide +kernel
theorem dX7_ofGrain_54 : decode cX7_ofGrain 54 = .ok (.aload_n 0, 1) := by decide +kernel
theorem dX7_ofGrain_55 : decode cX7_ofGrain 55 = .ok (.getfield 40, 3) := by decide +kernel
theorem dX7_ofGrain_58 : decode cX7_ofGrain 58 = .ok (.iload_n 1, 1) := by decide +kernel
theorem dX7_ofGrain_59 : decode cX7_ofGrain 59 = .ok (.iload_n 2, 1) := by decide +kernel
theorem dX7_ofGrain_60 : decode cX7_ofGrain 60 = .ok (.invokevirtual 174, 3) := by decide +kernel
theorem dX7_ofGrain_63 : decode cX7_ofGrain 63 = .ok (.ireturn, 1) := by decide +kernel
theorem dX7_metal_0 : decode cX7_metal 0 = .ok (.iload_n 1, 1) := by decide +kernel
theorem dX7_metal_1 : decode cX7_metal 1 = .ok (.iconst 0, 1) := by decide +kernel
theorem dX7_metal_2 : decode cX7_metal 2 = .ok (.bipush 15, 2) := by decide +kernel
theorem dX7_metal_4 : decode cX7_metal 4 = .ok (.invokestatic 58, 3) := by decide +kernel
theorem dX7_metal_7 : decode cX7_metal 7 = .ok (.ifCond .ne 11, 3) := by decide +kernel
theorem dX7_metal_10 : decode cX7_metal 10 = .ok (.new 62, 3) := by decide +kernel
theorem dX7_metal_13 : decode cX7_metal 13 = .ok (.dup, 1) := by decide +kernel
theorem dX7_metal_14 : decode cX7_metal 14 = .ok (.invokespecial 64, 3) := by decide +kernel
theorem dX7_metal_17 : decode cX7_metal 17 = .ok (.athrow, 1) := by decide +kernel
theorem dX7_metal_18 : decode cX7_metal 18 = .ok (.aload_n 0, 1) := by decide +kernel
theorem dX7_metal_19 : decode cX7_metal 19 = .ok (.getfield 40, 3) := by decide +kernel
theorem dX7_metal_22 : decode cX7_metal 22 = .ok (.aload_n 0, 1) := by decide +kernel
theorem dX7_metal_23 : decode cX7_metal 23 = .ok (.getfield 28, 3) := by decide +kernel
theorem dX7_metal_26 : decode cX7_metal 26 = .ok (.invokevirtual 73, 3) := by decide +kernel
theorem dX7_metal_29 : decode cX7_metal 29 = .ok (.aload_n 0, 1) := by decide +kernel
theorem dX7_metal_30 : decode cX7_metal 30 = .ok (.getfield 40, 3) := by decide +kernel
theorem dX7_metal_33 : decode cX7_metal 33 = .ok (.iload_n 1, 1) := by decide +kernel
theorem dX7_metal_34 : decode cX7_metal 34 = .ok (.invokevirtual 177, 3) := by decide +kernel
theorem dX7_metal_37 : decode cX7_metal 37 = .ok (.ireturn, 1) := by decide +kernel
theorem dX7_texture_0 : decode cX7_texture 0 = .ok (.iload_n 1, 1) := by decide +kernel
theorem dX7_texture_1 : decode cX7_texture 1 = .ok (.iconst 1, 1) := by decide +kernel
theorem dX7_texture_2 : decode cX7_texture 2 = .ok (.bipush 9, 2) := by decide +kernel
theorem dX7_texture_4 : decode cX7_texture 4 = .ok (.invokestatic 58, 3) := by decide +kernel
theorem dX7_texture_7 : decode cX7_texture 7 = .ok (.ifCond .ne 11, 3) := by decide +kernel
theorem dX7_texture_10 : decode cX7_texture 10 = .ok (.new 62, 3) := by decide +kernel
theorem dX7_texture_13 : decode cX7_texture 13 = .ok (.dup, 1) := by decide +kernel
theorem dX7_texture_14 : decode cX7_texture 14 = .ok (.invokespecial 64, 3) := by decide +kernel
theorem dX7_texture_17 : decode cX7_texture 17 = .ok (.athrow, 1) := by decide +kernel
theorem dX7_texture_18 : decode cX7_texture 18 = .ok (.aload_n 0, 1) := by decide +kernel
theorem dX7_texture_19 : decode cX7_texture 19 = .ok (.getfield 40, 3) := by decide +kernel
theorem dX7_texture_22 : decode cX7_texture 22 = .ok (.aload_n 0, 1) := by decide +kernel
theorem dX7_texture_23 : decode cX7_texture 23 = .ok (.getfield 28, 3) := by decide +kernel
theorem dX7_texture_26 : decode cX7_texture 26 = .ok (.invokevirtual 73, 3) := by decide +kernel
theorem dX7_texture_29 : decode cX7_texture 29 = .ok (.aload_n 0, 1) := by decide +kernel
theorem dX7_texture_30 : decode cX7_texture 30 = .ok (.getfield 40, 3) := by decide +kernel
theorem dX7_texture_33 : decode cX7_texture 33 = .ok (.iload_n 1, 1) := by decide +kernel
theorem dX7_texture_34 : decode cX7_texture 34 = .ok (.invokevirtual 189, 3) := by decide +kernel
theorem dX7_texture_37 : decode cX7_texture 37 = .ok (.ireturn, 1) := by decide +kernel
theorem dX7_line_0 : decode cX7_line 0 = .ok (.iload_n 1, 1) := by decide +kernel
theorem dX7_line_1 : decode cX7_line 1 = .ok (.iconst 0, 1) := by decide +kernel
theorem dX7_line_2 : decode cX7_line 2 = .ok (.aload_n 0, 1) := by decide +kernel
theorem dX7_line_3 : decode cX7_line 3 = .ok (.getfield 12, 3) := by decide +kernel
theorem dX7_line_6 : decode cX7_line 6 = .ok (.invokevirtual 195, 3) := by decide +kernel
theorem dX7_line_9 : decode cX7_line 9 = .ok (.iconst 1, 1) := by decide +kernel
theorem dX7_line_10 : decode cX7_line 10 = .ok (.isub, 1) := by decide +kernel
theorem dX7_line_11 : decode cX7_line 11 = .ok (.invokestatic 58, 3) := by decide +kernel
theorem dX7_line_14 : decode cX7_line 14 = .ok (.ifCond .ne 11, 3) := by decide +kernel
theorem dX7_line_17 : decode cX7_line 17 = .ok (.new 91, 3) := by decide +kernel
theorem dX7_line_20 : decode cX7_line 20 = .ok (.dup, 1) := by decide +kernel
theorem dX7_line_21 : decode cX7_line 21 = .ok (.invokespecial 93, 3) := by decide +kernel
theorem dX7_line_24 : decode cX7_line 24 = .ok (.athrow, 1) := by decide +kernel
theorem dX7_line_25 : decode cX7_line 25 = .ok (.aload_n 0, 1) := by decide +kernel
theorem dX7_line_26 : decode cX7_line 26 = .ok (.getfield 40, 3) := by decide +kernel
theorem dX7_line_29 : decode cX7_line 29 = .ok (.aload_n 0, 1) := by decide +kernel
theorem dX7_line_30 : decode cX7_line 30 = .ok (.getfield 28, 3) := by decide +kernel
theorem dX7_line_33 : decode cX7_line 33 = .ok (.invokevirtual 73, 3) := by decide +kernel
theorem dX7_line_36 : decode cX7_line 36 = .ok (.iload_n 2, 1) := by decide +kernel
theorem dX7_line_37 : decode cX7_line 37 = .ok (.ifCond .eq 14, 3) := by decide +kernel
theorem dX7_line_40 : decode cX7_line 40 = .ok (.aload_n 0, 1) := by decide +kernel
theorem dX7_line_41 : decode cX7_line 41 = .ok (.getfield 40, 3) := by decide +kernel
theorem dX7_line_44 : decode cX7_line 44 = .ok (.iload_n 1, 1) := by decide +kernel
theorem dX7_line_45 : decode cX7_line 45 = .ok (.invokevirtual 198, 3) := by decide +kernel
theorem dX7_line_48 : decode cX7_line 48 = .ok (.goto 11, 3) := by decide +kernel
theorem dX7_line_51 : decode cX7_line 51 = .ok (.aload_n 0, 1) := by decide +kernel
theorem dX7_line_52 : decode cX7_line 52 = .ok (.getfield 12, 3) := by decide +kernel
theorem dX7_line_55 : decode cX7_line 55 = .ok (.iload_n 1, 1) := by decide +kernel
theorem dX7_line_56 : decode cX7_line 56 = .ok (.invokevirtual 201, 3) := by decide +kernel
theorem dX7_line_59 : decode cX7_line 59 = .ok (.ireturn, 1) := by decide +kernel
theorem dX7_picture_0 : decode cX7_picture 0 = .ok (.aload_n 0, 1) := by decide +kernel
theorem dX7_picture_1 : decode cX7_picture 1 = .ok (.getfield 40, 3) := by decide +kernel
theorem dX7_picture_4 : decode cX7_picture 4 = .ok (.aload_n 0, 1) := by decide +kernel
theorem dX7_picture_5 : decode cX7_picture 5 = .ok (.getfield 28, 3) := by decide +kernel
theorem dX7_picture_8 : decode cX7_picture 8 = .ok (.invokevirtual 73, 3) := by decide +kernel
theorem dX7_picture_11 : decode cX7_picture 11 = .ok (.aload_n 0, 1) := by decide +kernel
theorem dX7_picture_12 : decode cX7_picture 12 = .ok (.getfield 40, 3) := by decide +kernel
theorem dX7_picture_15 : decode cX7_picture 15 = .ok (.iconst 0, 1) := by decide +kernel
theorem dX7_picture_16 : decode cX7_picture 16 = .ok (.invokevirtual 207, 3) := by decide +kernel
theorem dX7_picture_19 : decode cX7_picture 19 = .ok (.areturn, 1) := by decide +kernel
theorem dX7_etched_0 : decode cX7_etched 0 = .ok (.aload_n 0, 1) := by decide +kernel
theorem dX7_etched_1 : decode cX7_etched 1 = .ok (.getfield 40, 3) := by decide +kernel
theorem dX7_etched_4 : decode cX7_etched 4 = .ok (.aload_n 0, 1) := by decide +kernel
theorem dX7_etched_5 : decode cX7_etched 5 = .ok (.getfield 28, 3) := by decide +kernel
theorem dX7_etched_8 : decode cX7_etched 8 = .ok (.invokevirtual 73, 3) := by decide +kernel
theorem dX7_etched_11 : decode cX7_etched 11 = .ok (.aload_n 0, 1) := by decide +kernel
theorem dX7_etched_12 : decode cX7_etched 12 = .ok (.getfield 40, 3) := by decide +kernel
theorem dX7_etched_15 : decode cX7_etched 15 = .ok (.iconst 1, 1) := by decide +kernel
theorem dX7_etched_16 : decode cX7_etched 16 = .ok (.invokevirtual 207, 3) := by decide +kernel
theorem dX7_etched_19 : decode cX7_etched 19 = .ok (.areturn, 1) := by decide +kernel
theorem dX7_isSound_0 : decode cX7_isSound 0 = .ok (.aload_n 0, 1) := by decide +kernel
theorem dX7_isSound_1 : decode cX7_isSound 1 = .ok (.getfield 40, 3) := by decide +kernel
theorem dX7_isSound_4 : decode cX7_isSound 4 = .ok (.aload_n 0, 1) := by decide +kernel
theorem dX7_isSound_5 : decode cX7_isSound 5 = .ok (.getfield 28, 3) := by decide +kernel
theorem dX7_isSound_8 : decode cX7_isSound 8 = .ok (.invokevirtual 73, 3) := by decide +kernel
theorem dX7_isSound_11 : decode cX7_isSound 11 = .ok (.aload_n 0, 1) := by decide +kernel
theorem dX7_isSound_12 : decode cX7_isSound 12 = .ok (.getfield 40, 3) := by decide +kernel
theorem dX7_isSound_15 : decode cX7_isSound 15 = .ok (.invokevirtual 238, 3) := by decide +kernel
theorem dX7_isSound_18 : decode cX7_isSound 18 = .ok (.ireturn, 1) := by decide +kernel
theorem dX7_digest_0 : decode cX7_digest 0 = .ok (.aload_n 0, 1) := by decide +kernel
theorem dX7_digest_1 : decode cX7_digest 1 = .ok (.getfield 40, 3) := by decide +kernel
theorem dX7_digest_4 : decode cX7_digest 4 = .ok (.aload_n 0, 1) := by decide +kernel
theorem dX7_digest_5 : decode cX7_digest 5 = .ok (.getfield 28, 3) := by decide +kernel
theorem dX7_digest_8 : decode cX7_digest 8 = .ok (.invokevirtual 73, 3) := by decide +kernel
theorem dX7_digest_11 : decode cX7_digest 11 = .ok (.ldc2_w 242, 3) := by decide +kernel
theorem dX7_digest_14 : decode cX7_digest 14 = .ok (.lstore_n 1, 1) := by decide +kernel
theorem dX7_digest_15 : decode cX7_digest 15 = .ok (.iconst 0, 1) := by decide +kernel
theorem dX7_digest_16 : decode cX7_digest 16 = .ok (.istore_n 3, 1) := by decide +kernel
theorem dX7_digest_17 : decode cX7_digest 17 = .ok (.iload_n 3, 1) := by decide +kernel
theorem dX7_digest_18 : decode cX7_digest 18 = .ok (.bipush 16, 2) := by decide +kernel
theorem dX7_digest_20 : decode cX7_digest 20 = .ok (.if_icmp .ge 25, 3) := by decide +kernel
theorem dX7_digest_23 : decode cX7_digest 23 = .ok (.lload_n 1, 1) := by decide +kernel
theorem dX7_digest_24 : decode cX7_digest 24 = .ok (.ldc2_w 244, 3) := by decide +kernel
theorem dX7_digest_27 : decode cX7_digest 27 = .ok (.lmul, 1) := by decide +kernel
theorem dX7_digest_28 : decode cX7_digest 28 = .ok (.aload_n 0, 1) := by decide +kernel
theorem dX7_digest_29 : decode cX7_digest 29 = .ok (.getfield 40, 3) := by decide +kernel
theorem dX7_digest_32 : decode cX7_digest 32 = .ok (.iload_n 3, 1) := by decide +kernel
theorem dX7_digest_33 : decode cX7_digest 33 = .ok (.invokevirtual 177, 3) := by decide +kernel
theorem dX7_digest_36 : decode cX7_digest 36 = .ok (.i2l, 1) := by decide +kernel
theorem dX7_digest_37 : decode cX7_digest 37 = .ok (.ladd, 1) := by decide +kernel
theorem dX7_digest_38 : decode cX7_digest 38 = .ok (.lstore_n 1, 1) := by decide +kernel
theorem dX7_digest_39 : decode cX7_digest 39 = .ok (.iinc 3 1, 3) := by decide +kernel
theorem dX7_digest_42 : decode cX7_digest 42 = .ok (.goto (-25), 3) := by decide +kernel
theorem dX7_digest_45 : decode cX7_digest 45 = .ok (.aload_n 0, 1) := by decide +kernel
theorem dX7_digest_46 : decode cX7_digest 46 = .ok (.lload_n 1, 1) := by decide +kernel
theorem dX7_digest_47 : decode cX7_digest 47 = .ok (.invokevirtual 246, 3) := by decide +kernel
theorem dX7_digest_50 : decode cX7_digest 50 = .ok (.lstore_n 1, 1) := by decide +kernel
theorem dX7_digest_51 : decode cX7_digest 51 = .ok (.aload_n 0, 1) := by decide +kernel
theorem dX7_digest_52 : decode cX7_digest 52 = .ok (.lload_n 1, 1) := by decide +kernel
theorem dX7_digest_53 : decode cX7_digest 53 = .ok (.invokevirtual 250, 3) := by decide +kernel
theorem dX7_digest_56 : decode cX7_digest 56 = .ok (.lstore_n 1, 1) := by decide +kernel
theorem dX7_digest_57 : decode cX7_digest 57 = .ok (.iconst 1, 1) := by decide +kernel
theorem dX7_digest_58 : decode cX7_digest 58 = .ok (.istore_n 3, 1) := by decide +kernel
theorem dX7_digest_59 : decode cX7_digest 59 = .ok (.iload_n 3, 1) := by decide +kernel
theorem dX7_digest_60 : decode cX7_digest 60 = .ok (.bipush 9, 2) := by decide +kernel
theorem dX7_digest_62 : decode cX7_digest 62 = .ok (.if_icmp .gt 25, 3) := by decide +kernel
theorem dX7_digest_65 : decode cX7_digest 65 = .ok (.lload_n 1, 1) := by decide +kernel
theorem dX7_digest_66 : decode cX7_digest 66 = .ok (.ldc2_w 244, 3) := by decide +kernel
theorem dX7_digest_69 : decode cX7_digest 69 = .ok (.lmul, 1) := by decide +kernel
theorem dX7_digest_70 : decode cX7_digest 70 = .ok (.aload_n 0, 1) := by decide +kernel
theorem dX7_digest_71 : decode cX7_digest 71 = .ok (.getfield 40, 3) := by decide +kernel
theorem dX7_digest_74 : decode cX7_digest 74 = .ok (.iload_n 3, 1) := by decide +kernel
theorem dX7_digest_75 : decode cX7_digest 75 = .ok (.invokevirtual 189, 3) := by decide +kernel
theorem dX7_digest_78 : decode cX7_digest 78 = .ok (.i2l, 1) := by decide +kernel
theorem dX7_digest_79 : decode cX7_digest 79 = .ok (.ladd, 1) := by decide +kernel
theorem dX7_digest_80 : decode cX7_digest 80 = .ok (.lstore_n 1, 1) := by decide +kernel
theorem dX7_digest_81 : decode cX7_digest 81 = .ok (.iinc 3 1, 3) := by decide +kernel
theorem dX7_digest_84 : decode cX7_digest 84 = .ok (.goto (-25), 3) := by decide +kernel
theorem dX7_digest_87 : decode cX7_digest 87 = .ok (.iconst 0, 1) := by decide +kernel
theorem dX7_digest_88 : decode cX7_digest 88 = .ok (.istore_n 3, 1) := by decide +kernel
theorem dX7_digest_89 : decode cX7_digest 89 = .ok (.iload_n 3, 1) := by decide +kernel
theorem dX7_digest_90 : decode cX7_digest 90 = .ok (.aload_n 0, 1) := by decide +kernel
theorem dX7_digest_91 : decode cX7_digest 91 = .ok (.getfield 12, 3) := by decide +kernel
theorem dX7_digest_94 : decode cX7_digest 94 = .ok (.invokevirtual 195, 3) := by decide +kernel
theorem dX7_digest_97 : decode cX7_digest 97 = .ok (.if_icmp .ge 25, 3) := by decide +kernel
theorem dX7_digest_100 : decode cX7_digest 100 = .ok (.lload_n 1, 1) := by decide +kernel
theorem dX7_digest_101 : decode cX7_digest 101 = .ok (.ldc2_w 244, 3) := by decide +kernel
theorem dX7_digest_104 : decode cX7_digest 104 = .ok (.lmul, 1) := by decide +kernel
theorem dX7_digest_105 : decode cX7_digest 105 = .ok (.aload_n 0, 1) := by decide +kernel
theorem dX7_digest_106 : decode cX7_digest 106 = .ok (.getfield 40, 3) := by decide +kernel
theorem dX7_digest_109 : decode cX7_digest 109 = .ok (.iload_n 3, 1) := by decide +kernel
theorem dX7_digest_110 : decode cX7_digest 110 = .ok (.invokevirtual 198, 3) := by decide +kernel
theorem dX7_digest_113 : decode cX7_digest 113 = .ok (.i2l, 1) := by decide +kernel
theorem dX7_digest_114 : decode cX7_digest 114 = .ok (.ladd, 1) := by decide +kernel
theorem dX7_digest_115 : decode cX7_digest 115 = .ok (.lstore_n 1, 1) := by decide +kernel
theorem dX7_digest_116 : decode cX7_digest 116 = .ok (.iinc 3 1, 3) := by decide +kernel
theorem dX7_digest_119 : decode cX7_digest 119 = .ok (.goto (-30), 3) := by decide +kernel
theorem dX7_digest_122 : decode cX7_digest 122 = .ok (.iconst 0, 1) := by decide +kernel
theorem dX7_digest_123 : decode cX7_digest 123 = .ok (.istore_n 3, 1) := by decide +kernel
theorem dX7_digest_124 : decode cX7_digest 124 = .ok (.iload_n 3, 1) := by decide +kernel
theorem dX7_digest_125 : decode cX7_digest 125 = .ok (.bipush 7, 2) := by decide +kernel
theorem dX7_digest_127 : decode cX7_digest 127 = .ok (.if_icmp .ge 25, 3) := by decide +kernel
theorem dX7_digest_130 : decode cX7_digest 130 = .ok (.lload_n 1, 1) := by decide +kernel
theorem dX7_digest_131 : decode cX7_digest 131 = .ok (.ldc2_w 244, 3) := by decide +kernel
theorem dX7_digest_134 : decode cX7_digest 134 = .ok (.lmul, 1) := by decide +kernel
theorem dX7_digest_135 : decode cX7_digest 135 = .ok (.aload_n 0, 1) := by decide +kernel
theorem dX7_digest_136 : decode cX7_digest 136 = .ok (.getfield 40, 3) := by decide +kernel
theorem dX7_digest_139 : decode cX7_digest 139 = .ok (.iload_n 3, 1) := by decide +kernel
theorem dX7_digest_140 : decode cX7_digest 140 = .ok (.invokevirtual 204, 3) := by decide +kernel
theorem dX7_digest_143 : decode cX7_digest 143 = .ok (.i2l, 1) := by decide +kernel
theorem dX7_digest_144 : decode cX7_digest 144 = .ok (.ladd, 1) := by decide +kernel
theorem dX7_digest_145 : decode cX7_digest 145 = .ok (.lstore_n 1, 1) := by decide +kernel
theorem dX7_digest_146 : decode cX7_digest 146 = .ok (.iinc 3 1, 3) := by decide +kernel
theorem dX7_digest_149 : decode cX7_digest 149 = .ok (.goto (-25), 3) := by decide +kernel
theorem dX7_digest_152 : decode cX7_digest 152 = .ok (.lload_n 1, 1) := by decide +kernel
theorem dX7_digest_153 : decode cX7_digest 153 = .ok (.ldc2_w 244, 3) := by decide +kernel
theorem dX7_digest_156 : decode cX7_digest 156 = .ok (.lmul, 1) := by decide +kernel
theorem dX7_digest_157 : decode cX7_digest 157 = .ok (.aload_n 0, 1) := by decide +kernel
theorem dX7_digest_158 : decode cX7_digest 158 = .ok (.getfield 28, 3) := by decide +kernel
theorem dX7_digest_161 : decode cX7_digest 161 = .ok (.invokevirtual 253, 3) := by decide +kernel
theorem dX7_digest_164 : decode cX7_digest 164 = .ok (.i2l, 1) := by decide +kernel
theorem dX7_digest_165 : decode cX7_digest 165 = .ok (.ladd, 1) := by decide +kernel
theorem dX7_digest_166 : decode cX7_digest 166 = .ok (.lstore_n 1, 1) := by decide +kernel
theorem dX7_digest_167 : decode cX7_digest 167 = .ok (.lload_n 1, 1) := by decide +kernel
theorem dX7_digest_168 : decode cX7_digest 168 = .ok (.ldc2_w 244, 3) := by decide +kernel
theorem dX7_digest_171 : decode cX7_digest 171 = .ok (.lmul, 1) := by decide +kernel
theorem dX7_digest_172 : decode cX7_digest 172 = .ok (.aload_n 0, 1) := by decide +kernel
theorem dX7_digest_173 : decode cX7_digest 173 = .ok (.getfield 40, 3) := by decide +kernel
theorem dX7_digest_176 : decode cX7_digest 176 = .ok (.invokevirtual 238, 3) := by decide +kernel
theorem dX7_digest_179 : decode cX7_digest 179 = .ok (.ifCond .eq 7, 3) := by decide +kernel
theorem dX7_digest_182 : decode cX7_digest 182 = .ok (.iconst 1, 1) := by decide +kernel
theorem dX7_digest_183 : decode cX7_digest 183 = .ok (.goto 4, 3) := by decide +kernel
theorem dX7_digest_186 : decode cX7_digest 186 = .ok (.iconst 0, 1) := by decide +kernel
theorem dX7_digest_187 : decode cX7_digest 187 = .ok (.i2l, 1) := by decide +kernel
theorem dX7_digest_188 : decode cX7_digest 188 = .ok (.ladd, 1) := by decide +kernel
theorem dX7_digest_189 : decode cX7_digest 189 = .ok (.lreturn, 1) := by decide +kernel
theorem dX7_digestOfCells_0 : decode cX7_digestOfCells 0 = .ok (.lload_n 1, 1) := by decide +kernel
theorem dX7_digestOfCells_1 : decode cX7_digestOfCells 1 = .ok (.lstore_n 3, 1) := by decide +kernel
theorem dX7_digestOfCells_2 : decode cX7_digestOfCells 2 = .ok (.iconst 0, 1) := by decide +kernel
theorem dX7_digestOfCells_3 : decode cX7_digestOfCells 3 = .ok (.istore 5, 2) := by decide +kernel
theorem dX7_digestOfCells_5 : decode cX7_digestOfCells 5 = .ok (.iload 5, 2) := by decide +kernel
theorem dX7_digestOfCells_7 : decode cX7_digestOfCells 7 = .ok (.aload_n 0, 1) := by decide +kernel
theorem dX7_digestOfCells_8 : decode cX7_digestOfCells 8 = .ok (.getfield 12, 3) := by decide +kernel
theorem dX7_digestOfCells_11 : decode cX7_digestOfCells 11 = .ok (.invokevirtual 256, 3) := by decide +kernel
theorem dX7_digestOfCells_14 : decode cX7_digestOfCells 14 = .ok (.if_icmp .ge 44, 3) := by decide +kernel
theorem dX7_digestOfCells_17 : decode cX7_digestOfCells 17 = .ok (.iconst 0, 1) := by decide +kernel
theorem dX7_digestOfCells_18 : decode cX7_digestOfCells 18 = .ok (.istore 6, 2) := by decide +kernel
theorem dX7_digestOfCells_20 : decode cX7_digestOfCells 20 = .ok (.iload 6, 2) := by decide +kernel
theorem dX7_digestOfCells_22 : decode cX7_digestOfCells 22 = .ok (.bipush 6, 2) := by decide +kernel
theorem dX7_digestOfCells_24 : decode cX7_digestOfCells 24 = .ok (.if_icmp .ge 28, 3) := by decide +kernel
theorem dX7_digestOfCells_27 : decode cX7_digestOfCells 27 = .ok (.lload_n 3, 1) := by decide +kernel
theorem dX7_digestOfCells_28 : decode cX7_digestOfCells 28 = .ok (.ldc2_w 244, 3) := by decide +kernel
theorem dX7_digestOfCells_31 : decode cX7_digestOfCells 31 = .ok (.lmul, 1) := by decide +kernel
theorem dX7_digestOfCells_32 : decode cX7_digestOfCells 32 = .ok (.aload_n 0, 1) := by decide +kernel
theorem dX7_digestOfCells_33 : decode cX7_digestOfCells 33 = .ok (.getfield 40, 3) := by decide +kernel
theorem dX7_digestOfCells_36 : decode cX7_digestOfCells 36 = .ok (.iload 5, 2) := by decide +kernel
theorem dX7_digestOfCells_38 : decode cX7_digestOfCells 38 = .ok (.iload 6, 2) := by decide +kernel
theorem dX7_digestOfCells_40 : decode cX7_digestOfCells 40 = .ok (.invokevirtual 171, 3) := by decide +kernel
theorem dX7_digestOfCells_43 : decode cX7_digestOfCells 43 = .ok (.i2l, 1) := by decide +kernel
theorem dX7_digestOfCells_44 : decode cX7_digestOfCells 44 = .ok (.ladd, 1) := by decide +kernel
theorem dX7_digestOfCells_45 : decode cX7_digestOfCells 45 = .ok (.lstore_n 3, 1) := by decide +kernel
theorem dX7_digestOfCells_46 : decode cX7_digestOfCells 46 = .ok (.iinc 6 1, 3) := by decide +kernel
theorem dX7_digestOfCells_49 : decode cX7_digestOfCells 49 = .ok (.goto (-29), 3) := by decide +kernel
theorem dX7_digestOfCells_52 : decode cX7_digestOfCells 52 = .ok (.iinc 5 1, 3) := by decide +kernel
theorem dX7_digestOfCells_55 : decode cX7_digestOfCells 55 = .ok (.goto (-50), 3) := by decide +kernel
theorem dX7_digestOfCells_58 : decode cX7_digestOfCells 58 = .ok (.lload_n 3, 1) := by decide +kernel
theorem dX7_digestOfCells_59 : decode cX7_digestOfCells 59 = .ok (.lreturn, 1) := by decide +kernel
theorem dX7_digestOfGrains_0 : decode cX7_digestOfGrains 0 = .ok (.lload_n 1, 1) := by decide +kernel
theorem dX7_digestOfGrains_1 : decode cX7_digestOfGrains 1 = .ok (.lstore_n 3, 1) := by decide +kernel
theorem dX7_digestOfGrains_2 : decode cX7_digestOfGrains 2 = .ok (.iconst 0, 1) := by decide +kernel
theorem dX7_digestOfGrains_3 : decode cX7_digestOfGrains 3 = .ok (.istore 5, 2) := by decide +kernel
theorem dX7_digestOfGrains_5 : decode cX7_digestOfGrains 5 = .ok (.iload 5, 2) := by decide +kernel
theorem dX7_digestOfGrains_7 : decode cX7_digestOfGrains 7 = .ok (.aload_n 0, 1) := by decide +kernel
theorem dX7_digestOfGrains_8 : decode cX7_digestOfGrains 8 = .ok (.getfield 40, 3) := by decide +kernel
theorem dX7_digestOfGrains_11 : decode cX7_digestOfGrains 11 = .ok (.invokevirtual 77, 3) := by decide +kernel
theorem dX7_digestOfGrains_14 : decode cX7_digestOfGrains 14 = .ok (.if_icmp .ge 44, 3) := by decide +kernel
theorem dX7_digestOfGrains_17 : decode cX7_digestOfGrains 17 = .ok (.iconst 0, 1) := by decide +kernel
theorem dX7_digestOfGrains_18 : decode cX7_digestOfGrains 18 = .ok (.istore 6, 2) := by decide +kernel
theorem dX7_digestOfGrains_20 : decode cX7_digestOfGrains 20 = .ok (.iload 6, 2) := by decide +kernel
theorem dX7_digestOfGrains_22 : decode cX7_digestOfGrains 22 = .ok (.bipush 7, 2) := by decide +kernel
theorem dX7_digestOfGrains_24 : decode cX7_digestOfGrains 24 = .ok (.if_icmp .ge 28, 3) := by decide +kernel
theorem dX7_digestOfGrains_27 : decode cX7_digestOfGrains 27 = .ok (.lload_n 3, 1) := by decide +kernel
theorem dX7_digestOfGrains_28 : decode cX7_digestOfGrains 28 = .ok (.ldc2_w 244, 3) := by decide +kernel
theorem dX7_digestOfGrains_31 : decode cX7_digestOfGrains 31 = .ok (.lmul, 1) := by decide +kernel
theorem dX7_digestOfGrains_32 : decode cX7_digestOfGrains 32 = .ok (.aload_n 0, 1) := by decide +kernel
theorem dX7_digestOfGrains_33 : decode cX7_digestOfGrains 33 = .ok (.getfield 40, 3) := by decide +kernel
theorem dX7_digestOfGrains_36 : decode cX7_digestOfGrains 36 = .ok (.iload 5, 2) := by decide +kernel
theorem dX7_digestOfGrains_38 : decode cX7_digestOfGrains 38 = .ok (.iload 6, 2) := by decide +kernel
theorem dX7_digestOfGrains_40 : decode cX7_digestOfGrains 40 = .ok (.invokevirtual 174, 3) := by decide +kernel
theorem dX7_digestOfGrains_43 : decode cX7_digestOfGrains 43 = .ok (.i2l, 1) := by decide +kernel
theorem dX7_digestOfGrains_44 : decode cX7_digestOfGrains 44 = .ok (.ladd, 1) := by decide +kernel
theorem dX7_digestOfGrains_45 : decode cX7_digestOfGrains 45 = .ok (.lstore_n 3, 1) := by decide +kernel
theorem dX7_digestOfGrains_46 : decode cX7_digestOfGrains 46 = .ok (.iinc 6 1, 3) := by decide +kernel
theorem dX7_digestOfGrains_49 : decode cX7_digestOfGrains 49 = .ok (.goto (-29), 3) := by decide +kernel
theorem dX7_digestOfGrains_52 : decode cX7_digestOfGrains 52 = .ok (.iinc 5 1, 3) := by decide +kernel
theorem dX7_digestOfGrains_55 : decode cX7_digestOfGrains 55 = .ok (.goto (-50), 3) := by decide +kernel
theorem dX7_digestOfGrains_58 : decode cX7_digestOfGrains 58 = .ok (.lload_n 3, 1) := by decide +kernel
theorem dX7_digestOfGrains_59 : decode cX7_digestOfGrains 59 = .ok (.lreturn, 1) := by decide +kernel
theorem dX7_isWithin_0 : decode cX7_isWithin 0 = .ok (.iload_n 0, 1) := by decide +kernel
theorem dX7_isWithin_1 : decode cX7_isWithin 1 = .ok (.iload_n 1, 1) := by decide +kernel
theorem dX7_isWithin_2 : decode cX7_isWithin 2 = .ok (.if_icmp .lt 12, 3) := by decide +kernel
theorem dX7_isWithin_5 : decode cX7_isWithin 5 = .ok (.iload_n 0, 1) := by decide +kernel
theorem dX7_isWithin_6 : decode cX7_isWithin 6 = .ok (.iload_n 2, 1) := by decide +kernel
theorem dX7_isWithin_7 : decode cX7_isWithin 7 = .ok (.if_icmp .gt 7, 3) := by decide +kernel
theorem dX7_isWithin_10 : decode cX7_isWithin 10 = .ok (.iconst 1, 1) := by decide +kernel
theorem dX7_isWithin_11 : decode cX7_isWithin 11 = .ok (.goto 4, 3) := by decide +kernel
theorem dX7_isWithin_14 : decode cX7_isWithin 14 = .ok (.iconst 0, 1) := by decide +kernel
theorem dX7_isWithin_15 : decode cX7_isWithin 15 = .ok (.ireturn, 1) := by decide +kernel
theorem dX7_areTwoMarks_0 : decode cX7_areTwoMarks 0 = .ok (.iload_n 0, 1) := by decide +kernel
theorem dX7_areTwoMarks_1 : decode cX7_areTwoMarks 1 = .ok (.iconst 1, 1) := by decide +kernel
theorem dX7_areTwoMarks_2 : decode cX7_areTwoMarks 2 = .ok (.bipush 9, 2) := by decide +kernel
theorem dX7_areTwoMarks_4 : decode cX7_areTwoMarks 4 = .ok (.invokestatic 58, 3) := by decide +kernel
theorem dX7_areTwoMarks_7 : decode cX7_areTwoMarks 7 = .ok (.ifCond .eq 22, 3) := by decide +kernel
theorem dX7_areTwoMarks_10 : decode cX7_areTwoMarks 10 = .ok (.iload_n 1, 1) := by decide +kernel
theorem dX7_areTwoMarks_11 : decode cX7_areTwoMarks 11 = .ok (.iconst 1, 1) := by decide +kernel
theorem dX7_areTwoMarks_12 : decode cX7_areTwoMarks 12 = .ok (.bipush 9, 2) := by decide +kernel
theorem dX7_areTwoMarks_14 : decode cX7_areTwoMarks 14 = .ok (.invokestatic 58, 3) := by decide +kernel
theorem dX7_areTwoMarks_17 : decode cX7_areTwoMarks 17 = .ok (.ifCond .eq 12, 3) := by decide +kernel
theorem dX7_areTwoMarks_20 : decode cX7_areTwoMarks 20 = .ok (.iload_n 0, 1) := by decide +kernel
theorem dX7_areTwoMarks_21 : decode cX7_areTwoMarks 21 = .ok (.iload_n 1, 1) := by decide +kernel
theorem dX7_areTwoMarks_22 : decode cX7_areTwoMarks 22 = .ok (.if_icmp .eq 7, 3) := by decide +kernel
theorem dX7_areTwoMarks_25 : decode cX7_areTwoMarks 25 = .ok (.iconst 1, 1) := by decide +kernel
theorem dX7_areTwoMarks_26 : decode cX7_areTwoMarks 26 = .ok (.goto 4, 3) := by decide +kernel
theorem dX7_areTwoMarks_29 : decode cX7_areTwoMarks 29 = .ok (.iconst 0, 1) := by decide +kernel
theorem dX7_areTwoMarks_30 : decode cX7_areTwoMarks 30 = .ok (.ireturn, 1) := by decide +kernel
theorem dX7_isCooling_0 : decode cX7_isCooling 0 = .ok (.iload_n 0, 1) := by decide +kernel
theorem dX7_isCooling_1 : decode cX7_isCooling 1 = .ok (.iconst 0, 1) := by decide +kernel
theorem dX7_isCooling_2 : decode cX7_isCooling 2 = .ok (.bipush 9, 2) := by decide +kernel
theorem dX7_isCooling_4 : decode cX7_isCooling 4 = .ok (.invokestatic 58, 3) := by decide +kernel
theorem dX7_isCooling_7 : decode cX7_isCooling 7 = .ok (.ifCond .eq 16, 3) := by decide +kernel
theorem dX7_isCooling_10 : decode cX7_isCooling 10 = .ok (.iload_n 1, 1) := by decide +kernel
theorem dX7_isCooling_11 : decode cX7_isCooling 11 = .ok (.iconst 0, 1) := by decide +kernel
theorem dX7_isCooling_12 : decode cX7_isCooling 12 = .ok (.iload_n 0, 1) := by decide +kernel
theorem dX7_isCooling_13 : decode cX7_isCooling 13 = .ok (.invokestatic 58, 3) := by decide +kernel
theorem dX7_isCooling_16 : decode cX7_isCooling 16 = .ok (.ifCond .eq 7, 3) := by decide +kernel
theorem dX7_isCooling_19 : decode cX7_isCooling 19 = .ok (.iconst 1, 1) := by decide +kernel
theorem dX7_isCooling_20 : decode cX7_isCooling 20 = .ok (.goto 4, 3) := by decide +kernel
theorem dX7_isCooling_23 : decode cX7_isCooling 23 = .ok (.iconst 0, 1) := by decide +kernel
theorem dX7_isCooling_24 : decode cX7_isCooling 24 = .ok (.ireturn, 1) := by decide +kernel
theorem dX7_isProgramme_0 : decode cX7_isProgramme 0 = .ok (.iload_n 0, 1) := by decide +kernel
theorem dX7_isProgramme_1 : decode cX7_isProgramme 1 = .ok (.iconst 0, 1) := by decide +kernel
theorem dX7_isProgramme_2 : decode cX7_isProgramme 2 = .ok (.sipush 215, 3) := by decide +kernel
theorem dX7_isProgramme_5 : decode cX7_isProgramme 5 = .ok (.invokestatic 58, 3) := by decide +kernel
theorem dX7_isProgramme_8 : decode cX7_isProgramme 8 = .ok (.ifCond .ne 5, 3) := by decide +kernel
theorem dX7_isProgramme_11 : decode cX7_isProgramme 11 = .ok (.iconst 0, 1) := by decide +kernel
theorem dX7_isProgramme_12 : decode cX7_isProgramme 12 = .ok (.ireturn, 1) := by decide +kernel
theorem dX7_isProgramme_13 : decode cX7_isProgramme 13 = .ok (.iconst 0, 1) := by decide +kernel
theorem dX7_isProgramme_14 : decode cX7_isProgramme 14 = .ok (.istore_n 1, 1) := by decide +kernel
theorem dX7_isProgramme_15 : decode cX7_isProgramme 15 = .ok (.bipush 36, 2) := by decide +kernel
theorem dX7_isProgramme_17 : decode cX7_isProgramme 17 = .ok (.istore_n 2, 1) := by decide +kernel
theorem dX7_isProgramme_18 : decode cX7_isProgramme 18 = .ok (.iload_n 2, 1) := by decide +kernel
theorem dX7_isProgramme_19 : decode cX7_isProgramme 19 = .ok (.ifCond .le 50, 3) := by decide +kernel
theorem dX7_isProgramme_22 : decode cX7_isProgramme 22 = .ok (.iload_n 0, 1) := by decide +kernel
theorem dX7_isProgramme_23 : decode cX7_isProgramme 23 = .ok (.iload_n 2, 1) := by decide +kernel
theorem dX7_isProgramme_24 : decode cX7_isProgramme 24 = .ok (.idiv, 1) := by decide +kernel
theorem dX7_isProgramme_25 : decode cX7_isProgramme 25 = .ok (.bipush 6, 2) := by decide +kernel
theorem dX7_isProgramme_27 : decode cX7_isProgramme 27 = .ok (.irem, 1) := by decide +kernel
theorem dX7_isProgramme_28 : decode cX7_isProgramme 28 = .ok (.ifCond .le 7, 3) := by decide +kernel
theorem dX7_isProgramme_31 : decode cX7_isProgramme 31 = .ok (.iconst 1, 1) := by decide +kernel
theorem dX7_isProgramme_32 : decode cX7_isProgramme 32 = .ok (.goto 4, 3) := by decide +kernel
theorem dX7_isProgramme_35 : decode cX7_isProgramme 35 = .ok (.iconst 0, 1) := by decide +kernel
theorem dX7_isProgramme_36 : decode cX7_isProgramme 36 = .ok (.istore_n 3, 1) := by decide +kernel
theorem dX7_isProgramme_37 : decode cX7_isProgramme 37 = .ok (.iload_n 1, 1) := by decide +kernel
theorem dX7_isProgramme_38 : decode cX7_isProgramme 38 = .ok (.ifCond .eq 9, 3) := by decide +kernel
theorem dX7_isProgramme_41 : decode cX7_isProgramme 41 = .ok (.iload_n 3, 1) := by decide +kernel
theorem dX7_isProgramme_42 : decode cX7_isProgramme 42 = .ok (.ifCond .ne 5, 3) := by decide +kernel
theorem dX7_isProgramme_45 : decode cX7_isProgramme 45 = .ok (.iconst 0, 1) := by decide +kernel
theorem dX7_isProgramme_46 : decode cX7_isProgramme 46 = .ok (.ireturn, 1) := by decide +kernel
theorem dX7_isProgramme_47 : decode cX7_isProgramme 47 = .ok (.iload_n 1, 1) := by decide +kernel
theorem dX7_isProgramme_48 : decode cX7_isProgramme 48 = .ok (.ifCond .ne 7, 3) := by decide +kernel
theorem dX7_isProgramme_51 : decode cX7_isProgramme 51 = .ok (.iload_n 3, 1) := by decide +kernel
theorem dX7_isProgramme_52 : decode cX7_isProgramme 52 = .ok (.ifCond .eq 7, 3) := by decide +kernel
theorem dX7_isProgramme_55 : decode cX7_isProgramme 55 = .ok (.iconst 1, 1) := by decide +kernel
theorem dX7_isProgramme_56 : decode cX7_isProgramme 56 = .ok (.goto 4, 3) := by decide +kernel
theorem dX7_isProgramme_59 : decode cX7_isProgramme 59 = .ok (.iconst 0, 1) := by decide +kernel
theorem dX7_isProgramme_60 : decode cX7_isProgramme 60 = .ok (.istore_n 1, 1) := by decide +kernel
theorem dX7_isProgramme_61 : decode cX7_isProgramme 61 = .ok (.iload_n 2, 1) := by decide +kernel
theorem dX7_isProgramme_62 : decode cX7_isProgramme 62 = .ok (.bipush 6, 2) := by decide +kernel
theorem dX7_isProgramme_64 : decode cX7_isProgramme 64 = .ok (.idiv, 1) := by decide +kernel
theorem dX7_isProgramme_65 : decode cX7_isProgramme 65 = .ok (.istore_n 2, 1) := by decide +kernel
theorem dX7_isProgramme_66 : decode cX7_isProgramme 66 = .ok (.goto (-48), 3) := by decide +kernel
theorem dX7_isProgramme_69 : decode cX7_isProgramme 69 = .ok (.iconst 1, 1) := by decide +kernel
theorem dX7_isProgramme_70 : decode cX7_isProgramme 70 = .ok (.ireturn, 1) := by decide +kernel
theorem dL_below_0 : decode cL_below 0 = .ok (.iload_n 0, 1) := by decide +kernel
theorem dL_below_1 : decode cL_below 1 = .ok (.ldc 7, 2) := by decide +kernel
theorem dL_below_3 : decode cL_below 3 = .ok (.iand, 1) := by decide +kernel
theorem dL_below_4 : decode cL_below 4 = .ok (.iload_n 1, 1) := by decide +kernel
theorem dL_below_5 : decode cL_below 5 = .ok (.irem, 1) := by decide +kernel
theorem dL_below_6 : decode cL_below 6 = .ok (.ireturn, 1) := by decide +kernel
theorem dL_cell_0 : decode cL_cell 0 = .ok (.iload_n 1, 1) := by decide +kernel
theorem dL_cell_1 : decode cL_cell 1 = .ok (.aload_n 0, 1) := by decide +kernel
theorem dL_cell_2 : decode cL_cell 2 = .ok (.arraylength, 1) := by decide +kernel
theorem dL_cell_3 : decode cL_cell 3 = .ok (.if_icmp .ge 9, 3) := by decide +kernel
theorem dL_cell_6 : decode cL_cell 6 = .ok (.aload_n 0, 1) := by decide +kernel
theorem dL_cell_7 : decode cL_cell 7 = .ok (.iload_n 1, 1) := by decide +kernel
theorem dL_cell_8 : decode cL_cell 8 = .ok (.iaload, 1) := by decide +kernel
theorem dL_cell_9 : decode cL_cell 9 = .ok (.goto 9, 3) := by decide +kernel
theorem dL_cell_12 : decode cL_cell 12 = .ok (.ldc 8, 2) := by decide +kernel
theorem dL_cell_14 : decode cL_cell 14 = .ok (.iload_n 1, 1) := by decide +kernel
theorem dL_cell_15 : decode cL_cell 15 = .ok (.iconst 3, 1) := by decide +kernel
theorem dL_cell_16 : decode cL_cell 16 = .ok (.iadd, 1) := by decide +kernel
theorem dL_cell_17 : decode cL_cell 17 = .ok (.imul, 1) := by decide +kernel
theorem dL_cell_18 : decode cL_cell 18 = .ok (.ireturn, 1) := by decide +kernel
theorem dL_slab_0 : decode cL_slab 0 = .ok (.new 9, 3) := by decide +kernel
theorem dL_slab_3 : decode cL_slab 3 = .ok (.dup, 1) := by decide +kernel
theorem dL_slab_4 : decode cL_slab 4 = .ok (.invokespecial 11, 3) := by decide +kernel
theorem dL_slab_7 : decode cL_slab 7 = .ok (.astore_n 2, 1) := by decide +kernel
theorem dL_slab_8 : decode cL_slab 8 = .ok (.aload_n 2, 1) := by decide +kernel
theorem dL_slab_9 : decode cL_slab 9 = .ok (.aload_n 0, 1) := by decide +kernel
theorem dL_slab_10 : decode cL_slab 10 = .ok (.iconst 0, 1) := by decide +kernel
theorem dL_slab_11 : decode cL_slab 11 = .ok (.invokestatic 12, 3) := by decide +kernel
theorem dL_slab_14 : decode cL_slab 14 = .ok (.sipush 1000, 3) := by decide +kernel
theorem dL_slab_17 : decode cL_slab 17 = .ok (.invokestatic 18, 3) := by decide +kernel
theorem dL_slab_20 : decode cL_slab 20 = .ok (.invokevirtual 22, 3) := by decide +kernel
theorem dL_slab_23 : decode cL_slab 23 = .ok (.pop, 1) := by decide +kernel
theorem dL_slab_24 : decode cL_slab 24 = .ok (.iconst 2, 1) := by decide +kernel
theorem dL_slab_25 : decode cL_slab 25 = .ok (.aload_n 0, 1) := by decide +kernel
theorem dL_slab_26 : decode cL_slab 26 = .ok (.iconst 1, 1) := by decide +kernel
theorem dL_slab_27 : decode cL_slab 27 = .ok (.invokestatic 12, 3) := by decide +kernel
theorem dL_slab_30 : decode cL_slab 30 = .ok (.iload_n 1, 1) := by decide +kernel
theorem dL_slab_31 : decode cL_slab 31 = .ok (.iconst 1, 1) := by decide +kernel
theorem dL_slab_32 : decode cL_slab 32 = .ok (.isub, 1) := by decide +kernel
theorem dL_slab_33 : decode cL_slab 33 = .ok (.invokestatic 18, 3) := by decide +kernel
theorem dL_slab_36 : decode cL_slab 36 = .ok (.iadd, 1) := by decide +kernel
theorem dL_slab_37 : decode cL_slab 37 = .ok (.istore_n 3, 1) := by decide +kernel
theorem dL_slab_38 : decode cL_slab 38 = .ok (.iconst 2, 1) := by decide +kernel
theorem dL_slab_39 : decode cL_slab 39 = .ok (.aload_n 0, 1) := by decide +kernel
theorem dL_slab_40 : decode cL_slab 40 = .ok (.iconst 1, 1) := by decide +kernel
theorem dL_slab_41 : decode cL_slab 41 = .ok (.invokestatic 12, 3) := by decide +kernel
theorem dL_slab_44 : decode cL_slab 44 = .ok (.iconst 4, 1) := by decide +kernel
theorem dL_slab_45 : decode cL_slab 45 = .ok (.ishr, 1) := by decide +kernel
theorem dL_slab_46 : decode cL_slab 46 = .ok (.iload_n 1, 1) := by decide +kernel
theorem dL_slab_47 : decode cL_slab 47 = .ok (.iconst 1, 1) := by decide +kernel
theorem dL_slab_48 : decode cL_slab 48 = .ok (.isub, 1) := by decide +kernel
theorem dL_slab_49 : decode cL_slab 49 = .ok (.invokestatic 18, 3) := by decide +kernel
theorem dL_slab_52 : decode cL_slab 52 = .ok (.iadd, 1) := by decide +kernel
theorem dL_slab_53 : decode cL_slab 53 = .ok (.istore 4, 2) := by decide +kernel
theorem dL_slab_55 : decode cL_slab 55 = .ok (.aload_n 2, 1) := by decide +kernel
theorem dL_slab_56 : decode cL_slab 56 = .ok (.iload_n 3, 1) := by decide +kernel
theorem dL_slab_57 : decode cL_slab 57 = .ok (.iload 4, 2) := by decide +kernel
theorem dL_slab_59 : decode cL_slab 59 = .ok (.iconst 1, 1) := by decide +kernel
theorem dL_slab_60 : decode cL_slab 60 = .ok (.aload_n 0, 1) := by decide +kernel
theorem dL_slab_61 : decode cL_slab 61 = .ok (.iconst 2, 1) := by decide +kernel
theorem dL_slab_62 : decode cL_slab 62 = .ok (.invokestatic 12, 3) := by decide +kernel
theorem dL_slab_65 : decode cL_slab 65 = .ok (.bipush 9, 2) := by decide +kernel
theorem dL_slab_67 : decode cL_slab 67 = .ok (.invokestatic 18, 3) := by decide +kernel
theorem dL_slab_70 : decode cL_slab 70 = .ok (.iadd, 1) := by decide +kernel
theorem dL_slab_71 : decode cL_slab 71 = .ok (.invokevirtual 26, 3) := by decide +kernel
theorem dL_slab_74 : decode cL_slab 74 = .ok (.pop, 1) := by decide +kernel
theorem dL_slab_75 : decode cL_slab 75 = .ok (.iconst 0, 1) := by decide +kernel
theorem dL_slab_76 : decode cL_slab 76 = .ok (.istore 5, 2) := by decide +kernel
theorem dL_slab_78 : decode cL_slab 78 = .ok (.iload 5, 2) := by decide +kernel
theorem dL_slab_80 : decode cL_slab 80 = .ok (.iconst 5, 1) := by decide +kernel
theorem dL_slab_81 : decode cL_slab 81 = .ok (.if_icmp .ge 165, 3) := by decide +kernel
theorem dL_slab_84 : decode cL_slab 84 = .ok (.aload_n 0, 1) := by decide +kernel
theorem dL_slab_85 : decode cL_slab 85 = .ok (.iconst 3, 1) := by decide +kernel
theorem dL_slab_86 : decode cL_slab 86 = .ok (.iload 5, 2) := by decide +kernel
theorem dL_slab_88 : decode cL_slab 88 = .ok (.iadd, 1) := by decide +kernel
theorem dL_slab_89 : decode cL_slab 89 = .ok (.invokestatic 12, 3) := by decide +kernel
theorem dL_slab_92 : decode cL_slab 92 = .ok (.istore 6, 2) := by decide +kernel
theorem dL_slab_94 : decode cL_slab 94 = .ok (.iconst 1, 1) := by decide +kernel
theorem dL_slab_95 : decode cL_slab 95 = .ok (.iload 6, 2) := by decide +kernel
theorem dL_slab_97 : decode cL_slab 97 = .ok (.bipush 9, 2) := by decide +kernel
theorem dL_slab_99 : decode cL_slab 99 = .ok (.invokestatic 18, 3) := by decide +kernel
theorem dL_slab_102 : decode cL_slab 102 = .ok (.iadd, 1) := by decide +kernel
theorem dL_slab_103 : decode cL_slab 103 = .ok (.istore 7, 2) := by decide +kernel
theorem dL_slab_105 : decode cL_slab 105 = .ok (.iconst 1, 1) := by decide +kernel
theorem dL_slab_106 : decode cL_slab 106 = .ok (.iload 6, 2) := by decide +kernel
theorem dL_slab_108 : decode cL_slab 108 = .ok (.iconst 4, 1) := by decide +kernel
theorem dL_slab_109 : decode cL_slab 109 = .ok (.ishr, 1) := by decide +kernel
theorem dL_slab_110 : decode cL_slab 110 = .ok (.bipush 9, 2) := by decide +kernel
theorem dL_slab_112 : decode cL_slab 112 = .ok (.invokestatic 18, 3) := by decide +kernel
theorem dL_slab_115 : decode cL_slab 115 = .ok (.iadd, 1) := by decide +kernel
theorem dL_slab_116 : decode cL_slab 116 = .ok (.istore 8, 2) := by decide +kernel
theorem dL_slab_118 : decode cL_slab 118 = .ok (.iload 7, 2) := by decide +kernel
theorem dL_slab_120 : decode cL_slab 120 = .ok (.iload 8, 2) := by decide +kernel
theorem dL_slab_122 : decode cL_slab 122 = .ok (.if_icmp .eq 24, 3) := by decide +kernel
theorem dL_slab_125 : decode cL_slab 125 = .ok (.aload_n 2, 1) := by decide +kernel
theorem dL_slab_126 : decode cL_slab 126 = .ok (.iload 7, 2) := by decide +kernel
theorem dL_slab_128 : decode cL_slab 128 = .ok (.iload 8, 2) := by decide +kernel
theorem dL_slab_130 : decode cL_slab 130 = .ok (.iconst 1, 1) := by decide +kernel
theorem dL_slab_131 : decode cL_slab 131 = .ok (.iload 6, 2) := by decide +kernel
theorem dL_slab_133 : decode cL_slab 133 = .ok (.bipush 8, 2) := by decide +kernel
theorem dL_slab_135 : decode cL_slab 135 = .ok (.ishr, 1) := by decide +kernel
theorem dL_slab_136 : decode cL_slab 136 = .ok (.bipush 9, 2) := by decide +kernel
theorem dL_slab_138 : decode cL_slab 138 = .ok (.invokestatic 18, 3) := by decide +kernel
theorem dL_slab_141 : decode cL_slab 141 = .ok (.iadd, 1) := by decide +kernel
theorem dL_slab_142 : decode cL_slab 142 = .ok (.invokevirtual 30, 3) := by decide +kernel
theorem dL_slab_145 : decode cL_slab 145 = .ok (.pop, 1) := by decide +kernel
theorem dL_slab_146 : decode cL_slab 146 = .ok (.aload_n 2, 1) := by decide +kernel
theorem dL_slab_147 : decode cL_slab 147 = .ok (.iload 6, 2) := by decide +kernel
theorem dL_slab_149 : decode cL_slab 149 = .ok (.iconst 3, 1) := by decide +kernel
theorem dL_slab_150 : decode cL_slab 150 = .ok (.ishr, 1) := by decide +kernel
theorem dL_slab_151 : decode cL_slab 151 = .ok (.iload_n 3, 1) := by decide +kernel
theorem dL_slab_152 : decode cL_slab 152 = .ok (.iload 4, 2) := by decide +kernel
theorem dL_slab_154 : decode cL_slab 154 = .ok (.imul, 1) := by decide +kernel
theorem dL_slab_155 : decode cL_slab 155 = .ok (.invokestatic 18, 3) := by decide +kernel
theorem dL_slab_158 : decode cL_slab 158 = .ok (.iconst 0, 1) := by decide +kernel
theorem dL_slab_159 : decode cL_slab 159 = .ok (.invokevirtual 33, 3) := by decide +kernel
theorem dL_slab_162 : decode cL_slab 162 = .ok (.ifCond .le 29, 3) := by decide +kernel
theorem dL_slab_165 : decode cL_slab 165 = .ok (.aload_n 2, 1) := by decide +kernel
theorem dL_slab_166 : decode cL_slab 166 = .ok (.iload 6, 2) := by decide +kernel
theorem dL_slab_168 : decode cL_slab 168 = .ok (.iconst 3, 1) := by decide +kernel
theorem dL_slab_169 : decode cL_slab 169 = .ok (.ishr, 1) := by decide +kernel
theorem dL_slab_170 : decode cL_slab 170 = .ok (.iload_n 3, 1) := by decide +kernel
theorem dL_slab_171 : decode cL_slab 171 = .ok (.iload 4, 2) := by decide +kernel
theorem dL_slab_173 : decode cL_slab 173 = .ok (.imul, 1) := by decide +kernel
theorem dL_slab_174 : decode cL_slab 174 = .ok (.invokestatic 18, 3) := by decide +kernel
theorem dL_slab_177 : decode cL_slab 177 = .ok (.iload 6, 2) := by decide +kernel
theorem dL_slab_179 : decode cL_slab 179 = .ok (.bipush 9, 2) := by decide +kernel
theorem dL_slab_181 : decode cL_slab 181 = .ok (.ishr, 1) := by decide +kernel
theorem dL_slab_182 : decode cL_slab 182 = .ok (.bipush 21, 2) := by decide +kernel
theorem dL_slab_184 : decode cL_slab 184 = .ok (.invokestatic 18, 3) := by decide +kernel
theorem dL_slab_187 : decode cL_slab 187 = .ok (.invokevirtual 36, 3) := by decide +kernel
theorem dL_slab_190 : decode cL_slab 190 = .ok (.pop, 1) := by decide +kernel
theorem dL_slab_191 : decode cL_slab 191 = .ok (.iload 6, 2) := by decide +kernel
theorem dL_slab_193 : decode cL_slab 193 = .ok (.bipush 6, 2) := by decide +kernel
theorem dL_slab_195 : decode cL_slab 195 = .ok (.ishr, 1) := by decide +kernel
theorem dL_slab_196 : decode cL_slab 196 = .ok (.iconst 3, 1) := by decide +kernel
theorem dL_slab_197 : decode cL_slab 197 = .ok (.invokestatic 18, 3) := by decide +kernel
theorem dL_slab_200 : decode cL_slab 200 = .ok (.ifCond .ne 40, 3) := by decide +kernel
theorem dL_slab_203 : decode cL_slab 203 = .ok (.aload_n 2, 1) := by decide +kernel
theorem dL_slab_204 : decode cL_slab 204 = .ok (.iload 6, 2) := by decide +kernel
theorem dL_slab_206 : decode cL_slab 206 = .ok (.bipush 11, 2) := by decide +kernel
theorem dL_slab_208 : decode cL_slab 208 = .ok (.ishr, 1) := by decide +kernel
theorem dL_slab_209 : decode cL_slab 209 = .ok (.iload_n 3, 1) := by decide +kernel
theorem dL_slab_210 : decode cL_slab 210 = .ok (.iload 4, 2) := by decide +kernel
theorem dL_slab_212 : decode cL_slab 212 = .ok (.imul, 1) := by decide +kernel
theorem dL_slab_213 : decode cL_slab 213 = .ok (.invokestatic 18, 3) := by decide +kernel
theorem dL_slab_216 : decode cL_slab 216 = .ok (.iconst 0, 1) := by decide +kernel
theorem dL_slab_217 : decode cL_slab 217 = .ok (.invokevirtual 33, 3) := by decide +kernel
theorem dL_slab_220 : decode cL_slab 220 = .ok (.ifCond .le 20, 3) := by decide +kernel
theorem dL_slab_223 : decode cL_slab 223 = .ok (.aload_n 2, 1) := by decide +kernel
theorem dL_slab_224 : decode cL_slab 224 = .ok (.iload 6, 2) := by decide +kernel
theorem dL_slab_226 : decode cL_slab 226 = .ok (.bipush 11, 2) := by decide +kernel
theorem dL_slab_228 : decode cL_slab 228 = .ok (.ishr, 1) := by decide +kernel
theorem dL_slab_229 : decode cL_slab 229 = .ok (.iload_n 3, 1) := by decide +kernel
theorem dL_slab_230 : decode cL_slab 230 = .ok (.iload 4, 2) := by decide +kernel
theorem dL_slab_232 : decode cL_slab 232 = .ok (.imul, 1) := by decide +kernel
theorem dL_slab_233 : decode cL_slab 233 = .ok (.invokestatic 18, 3) := by decide +kernel
theorem dL_slab_236 : decode cL_slab 236 = .ok (.invokevirtual 39, 3) := by decide +kernel
theorem dL_slab_239 : decode cL_slab 239 = .ok (.pop, 1) := by decide +kernel
theorem dL_slab_240 : decode cL_slab 240 = .ok (.iinc 5 1, 3) := by decide +kernel
theorem dL_slab_243 : decode cL_slab 243 = .ok (.goto (-165), 3) := by decide +kernel
theorem dL_slab_246 : decode cL_slab 246 = .ok (.aload_n 2, 1) := by decide +kernel
theorem dL_slab_247 : decode cL_slab 247 = .ok (.iconst 1, 1) := by decide +kernel
theorem dL_slab_248 : decode cL_slab 248 = .ok (.aload_n 0, 1) := by decide +kernel
theorem dL_slab_249 : decode cL_slab 249 = .ok (.bipush 8, 2) := by decide +kernel
theorem dL_slab_251 : decode cL_slab 251 = .ok (.invokestatic 12, 3) := by decide +kernel
theorem dL_slab_254 : decode cL_slab 254 = .ok (.iconst 4, 1) := by decide +kernel
theorem dL_slab_255 : decode cL_slab 255 = .ok (.invokestatic 18, 3) := by decide +kernel
theorem dL_slab_258 : decode cL_slab 258 = .ok (.iadd, 1) := by decide +kernel
theorem dL_slab_259 : decode cL_slab 259 = .ok (.invokevirtual 42, 3) := by decide +kernel
theorem dL_slab_262 : decode cL_slab 262 = .ok (.pop, 1) := by decide +kernel
theorem dL_slab_263 : decode cL_slab 263 = .ok (.iconst 0, 1) := by decide +kernel
theorem dL_slab_264 : decode cL_slab 264 = .ok (.istore 5, 2) := by decide +kernel
theorem dL_slab_266 : decode cL_slab 266 = .ok (.iload 5, 2) := by decide +kernel
theorem dL_slab_268 : decode cL_slab 268 = .ok (.iconst 3, 1) := by decide +kernel
theorem dL_slab_269 : decode cL_slab 269 = .ok (.if_icmp .ge 48, 3) := by decide +kernel
theorem dL_slab_272 : decode cL_slab 272 = .ok (.aload_n 2, 1) := by decide +kernel
theorem dL_slab_273 : decode cL_slab 273 = .ok (.aload_n 0, 1) := by decide +kernel
theorem dL_slab_274 : decode cL_slab 274 = .ok (.bipush 9, 2) := by decide +kernel
theorem dL_slab_276 : decode cL_slab 276 = .ok (.invokestatic 12, 3) := by decide +kernel
theorem dL_slab_279 : decode cL_slab 279 = .ok (.iconst 4, 1) := by decide +kernel
theorem dL_slab_280 : decode cL_slab 280 = .ok (.iload 5, 2) := by decide +kernel
theorem dL_slab_282 : decode cL_slab 282 = .ok (.imul, 1) := by decide +kernel
theorem dL_slab_283 : decode cL_slab 283 = .ok (.ishr, 1) := by decide +kernel
theorem dL_slab_284 : decode cL_slab 284 = .ok (.bipush 10, 2) := by decide +kernel
theorem dL_slab_286 : decode cL_slab 286 = .ok (.invokestatic 18, 3) := by decide +kernel
theorem dL_slab_289 : decode cL_slab 289 = .ok (.iconst 1, 1) := by decide +kernel
theorem dL_slab_290 : decode cL_slab 290 = .ok (.aload_n 0, 1) := by decide +kernel
theorem dL_slab_291 : decode cL_slab 291 = .ok (.bipush 9, 2) := by decide +kernel
theorem dL_slab_293 : decode cL_slab 293 = .ok (.invokestatic 12, 3) := by decide +kernel
theorem dL_slab_296 : decode cL_slab 296 = .ok (.iconst 3, 1) := by decide +kernel
theorem dL_slab_297 : decode cL_slab 297 = .ok (.iload 5, 2) := by decide +kernel
theorem dL_slab_299 : decode cL_slab 299 = .ok (.imul, 1) := by decide +kernel
theorem dL_slab_300 : decode cL_slab 300 = .ok (.ishr, 1) := by decide +kernel
theorem dL_slab_301 : decode cL_slab 301 = .ok (.bipush 99, 2) := by decide +kernel
theorem dL_slab_303 : decode cL_slab 303 = .ok (.invokestatic 18, 3) := by decide +kernel
theorem dL_slab_306 : decode cL_slab 306 = .ok (.iadd, 1) := by decide +kernel
theorem dL_slab_307 : decode cL_slab 307 = .ok (.invokevirtual 45, 3) := by decide +kernel
theorem dL_slab_310 : decode cL_slab 310 = .ok (.pop, 1) := by decide +kernel
theorem dL_slab_311 : decode cL_slab 311 = .ok (.iinc 5 1, 3) := by decide +kernel
theorem dL_slab_314 : decode cL_slab 314 = .ok (.goto (-48), 3) := by decide +kernel
theorem dL_slab_317 : decode cL_slab 317 = .ok (.aload_n 0, 1) := by decide +kernel
theorem dL_slab_318 : decode cL_slab 318 = .ok (.bipush 10, 2) := by decide +kernel
theorem dL_slab_320 : decode cL_slab 320 = .ok (.invokestatic 12, 3) := by decide +kernel
theorem dL_slab_323 : decode cL_slab 323 = .ok (.iconst 3, 1) := by decide +kernel
theorem dL_slab_324 : decode cL_slab 324 = .ok (.invokestatic 18, 3) := by decide +kernel
theorem dL_slab_327 : decode cL_slab 327 = .ok (.ifCond .ne 27, 3) := by decide +kernel
theorem dL_slab_330 : decode cL_slab 330 = .ok (.aload_n 2, 1) := by decide +kernel
theorem dL_slab_331 : decode cL_slab 331 = .ok (.bipush 9, 2) := by decide +kernel
theorem dL_slab_333 : decode cL_slab 333 = .ok (.bipush 7, 2) := by decide +kernel
theorem dL_slab_335 : decode cL_slab 335 = .ok (.iconst 1, 1) := by decide +kernel
theorem dL_slab_336 : decode cL_slab 336 = .ok (.aload_n 0, 1) := by decide +kernel
theorem dL_slab_337 : decode cL_slab 337 = .ok (.bipush 10, 2) := by decide +kernel
theorem dL_slab_339 : decode cL_slab 339 = .ok (.invokestatic 12, 3) := by decide +kernel
theorem dL_slab_342 : decode cL_slab 342 = .ok (.iconst 3, 1) := by decide +kernel
theorem dL_slab_343 : decode cL_slab 343 = .ok (.ishr, 1) := by decide +kernel
theorem dL_slab_344 : decode cL_slab 344 = .ok (.bipush 40, 2) := by decide +kernel
theorem dL_slab_346 : decode cL_slab 346 = .ok (.invokestatic 18, 3) := by decide +kernel
theorem dL_slab_349 : decode cL_slab 349 = .ok (.iadd, 1) := by decide +kernel
theorem dL_slab_350 : decode cL_slab 350 = .ok (.invokevirtual 48, 3) := by decide +kernel
theorem dL_slab_353 : decode cL_slab 353 = .ok (.pop, 1) := by decide +kernel
theorem dL_slab_354 : decode cL_slab 354 = .ok (.aload_n 2, 1) := by decide +kernel
theorem dL_slab_355 : decode cL_slab 355 = .ok (.areturn, 1) := by decide +kernel
theorem dL_told_0 : decode cL_told 0 = .ok (.aload_n 0, 1) := by decide +kernel
theorem dL_told_1 : decode cL_told 1 = .ok (.bipush 13, 2) := by decide +kernel
theorem dL_told_3 : decode cL_told 3 = .ok (.invokevirtual 51, 3) := by decide +kernel
theorem dL_told_6 : decode cL_told 6 = .ok (.newarray .int, 2) := by decide +kernel
theorem dL_told_8 : decode cL_told 8 = .ok (.astore_n 2, 1) := by decide +kernel
theorem dL_told_9 : decode cL_told 9 = .ok (.iconst 0, 1) := by decide +kernel
theorem dL_told_10 : decode cL_told 10 = .ok (.istore_n 3, 1) := by decide +kernel
theorem dL_told_11 : decode cL_told 11 = .ok (.iload_n 3, 1) := by decide +kernel
theorem dL_told_12 : decode cL_told 12 = .ok (.aload_n 2, 1) := by decide +kernel
theorem dL_told_13 : decode cL_told 13 = .ok (.arraylength, 1) := by decide +kernel
theorem dL_told_14 : decode cL_told 14 = .ok (.if_icmp .ge 18, 3) := by decide +kernel
theorem dL_told_17 : decode cL_told 17 = .ok (.aload_n 2, 1) := by decide +kernel
theorem dL_told_18 : decode cL_told 18 = .ok (.iload_n 3, 1) := by decide +kernel
theorem dL_told_19 : decode cL_told 19 = .ok (.aload_n 0, 1) := by decide +kernel
theorem dL_told_20 : decode cL_told 20 = .ok (.iload_n 3, 1) := by decide +kernel
theorem dL_told_21 : decode cL_told 21 = .ok (.iload_n 1, 1) := by decide +kernel
theorem dL_told_22 : decode cL_told 22 = .ok (.invokevirtual 33, 3) := by decide +kernel
theorem dL_told_25 : decode cL_told 25 = .ok (.iastore, 1) := by decide +kernel
theorem dL_told_26 : decode cL_told 26 = .ok (.iinc 3 1, 3) := by decide +kernel
theorem dL_told_29 : decode cL_told 29 = .ok (.goto (-18), 3) := by decide +kernel
theorem dL_told_32 : decode cL_told 32 = .ok (.aload_n 2, 1) := by decide +kernel
theorem dL_told_33 : decode cL_told 33 = .ok (.areturn, 1) := by decide +kernel
theorem dL_wide_0 : decode cL_wide 0 = .ok (.aload_n 0, 1) := by decide +kernel
theorem dL_wide_1 : decode cL_wide 1 = .ok (.iconst 0, 1) := by decide +kernel
theorem dL_wide_2 : decode cL_wide 2 = .ok (.iconst 0, 1) := by decide +kernel
theorem dL_wide_3 : decode cL_wide 3 = .ok (.invokevirtual 54, 3) := by decide +kernel
theorem dL_wide_6 : decode cL_wide 6 = .ok (.ireturn, 1) := by decide +kernel
theorem dL_high_0 : decode cL_high 0 = .ok (.aload_n 0, 1) := by decide +kernel
theorem dL_high_1 : decode cL_high 1 = .ok (.bipush 13, 2) := by decide +kernel
theorem dL_high_3 : decode cL_high 3 = .ok (.invokevirtual 51, 3) := by decide +kernel
theorem dL_high_6 : decode cL_high 6 = .ok (.aload_n 0, 1) := by decide +kernel
theorem dL_high_7 : decode cL_high 7 = .ok (.iconst 0, 1) := by decide +kernel
theorem dL_high_8 : decode cL_high 8 = .ok (.iconst 0, 1) := by decide +kernel
theorem dL_high_9 : decode cL_high 9 = .ok (.invokevirtual 54, 3) := by decide +kernel
theorem dL_high_12 : decode cL_high 12 = .ok (.idiv, 1) := by decide +kernel
theorem dL_high_13 : decode cL_high 13 = .ok (.ireturn, 1) := by decide +kernel
theorem dL_law_0 : decode cL_law 0 = .ok (.aload_n 0, 1) := by decide +kernel
theorem dL_law_1 : decode cL_law 1 = .ok (.bipush 6, 2) := by decide +kernel
theorem dL_law_3 : decode cL_law 3 = .ok (.invokestatic 58, 3) := by decide +kernel
theorem dL_law_6 : decode cL_law 6 = .ok (.astore_n 1, 1) := by decide +kernel
theorem dL_law_7 : decode cL_law 7 = .ok (.aload_n 1, 1) := by decide +kernel
theorem dL_law_8 : decode cL_law 8 = .ok (.bipush 13, 2) := by decide +kernel
theorem dL_law_10 : decode cL_law 10 = .ok (.invokevirtual 51, 3) := by decide +kernel
theorem dL_law_13 : decode cL_law 13 = .ok (.istore_n 2, 1) := by decide +kernel
theorem dL_law_14 : decode cL_law 14 = .ok (.iconst 0, 1) := by decide +kernel
theorem dL_law_15 : decode cL_law 15 = .ok (.istore_n 3, 1) := by decide +kernel
theorem dL_law_16 : decode cL_law 16 = .ok (.iload_n 3, 1) := by decide +kernel
theorem dL_law_17 : decode cL_law 17 = .ok (.bipush 12, 2) := by decide +kernel
theorem dL_law_19 : decode cL_law 19 = .ok (.if_icmp .ge 543, 3) := by decide +kernel
theorem dL_law_22 : decode cL_law 22 = .ok (.aload_n 0, 1) := by decide +kernel
theorem dL_law_23 : decode cL_law 23 = .ok (.bipush 11, 2) := by decide +kernel
theorem dL_law_25 : decode cL_law 25 = .ok (.iload_n 3, 1) := by decide +kernel
theorem dL_law_26 : decode cL_law 26 = .ok (.iadd, 1) := by decide +kernel
theorem dL_law_27 : decode cL_law 27 = .ok (.invokestatic 12, 3) := by decide +kernel
theorem dL_law_30 : decode cL_law 30 = .ok (.istore 4, 2) := by decide +kernel
theorem dL_law_32 : decode cL_law 32 = .ok (.aload_n 1, 1) := by decide +kernel
theorem dL_law_33 : decode cL_law 33 = .ok (.iconst 0, 1) := by decide +kernel
theorem dL_law_34 : decode cL_law 34 = .ok (.invokevirtual 51, 3) := by decide +kernel
theorem dL_law_37 : decode cL_law 37 = .ok (.istore 5, 2) := by decide +kernel
theorem dL_law_39 : decode cL_law 39 = .ok (.aload_n 1, 1) := by decide +kernel
theorem dL_law_40 : decode cL_law 40 = .ok (.bipush 11, 2) := by decide +kernel
theorem dL_law_42 : decode cL_law 42 = .ok (.invokevirtual 51, 3) := by decide +kernel
theorem dL_law_45 : decode cL_law 45 = .ok (.istore 6, 2) := by decide +kernel
theorem dL_law_47 : decode cL_law 47 = .ok (.aload_n 1, 1) := by decide +kernel
theorem dL_law_48 : decode cL_law 48 = .ok (.bipush 10, 2) := by decide +kernel
theorem dL_law_50 : decode cL_law 50 = .ok (.invokevirtual 51, 3) := by decide +kernel
theorem dL_law_53 : decode cL_law 53 = .ok (.istore 7, 2) := by decide +kernel
theorem dL_law_55 : decode cL_law 55 = .ok (.aload_n 1, 1) := by decide +kernel
theorem dL_law_56 : decode cL_law 56 = .ok (.iconst 0, 1) := by decide +kernel
theorem dL_law_57 : decode cL_law 57 = .ok (.invokestatic 62, 3) := by decide +kernel
theorem dL_law_60 : decode cL_law 60 = .ok (.astore 8, 2) := by decide +kernel
theorem dL_law_62 : decode cL_law 62 = .ok (.aload_n 1, 1) := by decide +kernel
theorem dL_law_63 : decode cL_law 63 = .ok (.iconst 1, 1) := by decide +kernel
theorem dL_law_64 : decode cL_law 64 = .ok (.invokestatic 62, 3) := by decide +kernel
theorem dL_law_67 : decode cL_law 67 = .ok (.astore 9, 2) := by decide +kernel
theorem dL_law_69 : decode cL_law 69 = .ok (.iload_n 2, 1) := by decide +kernel
theorem dL_law_70 : decode cL_law 70 = .ok (.newarray .boolean, 2) := by decide +kernel
theorem dL_law_72 : decode cL_law 72 = .ok (.astore 10, 2) := by decide +kernel
theorem dL_law_74 : decode cL_law 74 = .ok (.iconst 0, 1) := by decide +kernel
theorem dL_law_75 : decode cL_law 75 = .ok (.istore 11, 2) := by decide +kernel
theorem dL_law_77 : decode cL_law 77 = .ok (.iload 11, 2) := by decide +kernel
theorem dL_law_79 : decode cL_law 79 = .ok (.iload_n 2, 1) := by decide +kernel
theorem dL_law_80 : decode cL_law 80 = .ok (.if_icmp .ge 30, 3) := by decide +kernel
theorem dL_law_83 : decode cL_law 83 = .ok (.aload 10, 2) := by decide +kernel
theorem dL_law_85 : decode cL_law 85 = .ok (.iload 11, 2) := by decide +kernel
theorem dL_law_87 : decode cL_law 87 = .ok (.aload_n 1, 1) := by decide +kernel
theorem dL_law_88 : decode cL_law 88 = .ok (.iload 11, 2) := by decide +kernel
theorem dL_law_90 : decode cL_law 90 = .ok (.iconst 2, 1) := by decide +kernel
theorem dL_law_91 : decode cL_law 91 = .ok (.invokevirtual 33, 3) := by decide +kernel
theorem dL_law_94 : decode cL_law 94 = .ok (.iconst 1, 1) := by decide +kernel
theorem dL_law_95 : decode cL_law 95 = .ok (.if_icmp .ne 7, 3) := by decide +kernel
theorem dL_law_98 : decode cL_law 98 = .ok (.iconst 1, 1) := by decide +kernel
theorem dL_law_99 : decode cL_law 99 = .ok (.goto 4, 3) := by decide +kernel
theorem dL_law_102 : decode cL_law 102 = .ok (.iconst 0, 1) := by decide +kernel
theorem dL_law_103 : decode cL_law 103 = .ok (.bastore, 1) := by decide +kernel
theorem dL_law_104 : decode cL_law 104 = .ok (.iinc 11 1, 3) := by decide +kernel
theorem dL_law_107 : decode cL_law 107 = .ok (.goto (-30), 3) := by decide +kernel
theorem dL_law_110 : decode cL_law 110 = .ok (.aload_n 1, 1) := by decide +kernel
theorem dL_law_111 : decode cL_law 111 = .ok (.bipush 14, 2) := by decide +kernel
theorem dL_law_113 : decode cL_law 113 = .ok (.invokevirtual 51, 3) := by decide +kernel
theorem dL_law_116 : decode cL_law 116 = .ok (.istore 11, 2) := by decide +kernel
theorem dL_law_118 : decode cL_law 118 = .ok (.iload 4, 2) := by decide +kernel
theorem dL_law_120 : decode cL_law 120 = .ok (.bipush 8, 2) := by decide +kernel
theorem dL_law_122 : decode cL_law 122 = .ok (.invokestatic 18, 3) := by decide +kernel
theorem dL_law_125 : decode cL_law 125 = .ok (.istore 12, 2) := by decide +kernel
theorem dL_law_127 : decode cL_law 127 = .ok (.iconst 0, 1) := by decide +kernel
theorem dL_law_128 : decode cL_law 128 = .ok (.istore 13, 2) := by decide +kernel
theorem dL_law_130 : decode cL_law 130 = .ok (.iload 12, 2) := by decide +kernel
theorem dL_law_132 : decode cL_law 132 = .ok (.tableswitch 156 0 6 #[44, 44, 63, 74, 84, 104, 136], 44) := by decide +kernel
theorem dL_law_176 : decode cL_law 176 = .ok (.aload_n 1, 1) := by decide +kernel
theorem dL_law_177 : decode cL_law 177 = .ok (.iload 4, 2) := by decide +kernel
theorem dL_law_179 : decode cL_law 179 = .ok (.iconst 3, 1) := by decide +kernel
theorem dL_law_180 : decode cL_law 180 = .ok (.ishr, 1) := by decide +kernel
theorem dL_law_181 : decode cL_law 181 = .ok (.bipush 10, 2) := by decide +kernel
theorem dL_law_183 : decode cL_law 183 = .ok (.invokestatic 18, 3) := by decide +kernel
theorem dL_law_186 : decode cL_law 186 = .ok (.iconst 1, 1) := by decide +kernel
theorem dL_law_187 : decode cL_law 187 = .ok (.invokevirtual 66, 3) := by decide +kernel
theorem dL_law_190 : decode cL_law 190 = .ok (.istore 13, 2) := by decide +kernel
theorem dL_law_192 : decode cL_law 192 = .ok (.goto 112, 3) := by decide +kernel
theorem dL_law_195 : decode cL_law 195 = .ok (.aload_n 1, 1) := by decide +kernel
theorem dL_law_196 : decode cL_law 196 = .ok (.iconst 0, 1) := by decide +kernel
theorem dL_law_197 : decode cL_law 197 = .ok (.iconst 2, 1) := by decide +kernel
theorem dL_law_198 : decode cL_law 198 = .ok (.invokevirtual 66, 3) := by decide +kernel
theorem dL_law_201 : decode cL_law 201 = .ok (.istore 13, 2) := by decide +kernel
theorem dL_law_203 : decode cL_law 203 = .ok (.goto 101, 3) := by decide +kernel
theorem dL_law_206 : decode cL_law 206 = .ok (.aload_n 1, 1) := by decide +kernel
theorem dL_law_207 : decode cL_law 207 = .ok (.iconst 1, 1) := by decide +kernel
theorem dL_law_208 : decode cL_law 208 = .ok (.invokevirtual 69, 3) := by decide +kernel
theorem dL_law_211 : decode cL_law 211 = .ok (.istore 13, 2) := by decide +kernel
theorem dL_law_213 : decode cL_law 213 = .ok (.goto 91, 3) := by decide +kernel
theorem dL_law_216 : decode cL_law 216 = .ok (.aload_n 1, 1) := by decide +kernel
theorem dL_law_217 : decode cL_law 217 = .ok (.iconst 1, 1) := by decide +kernel
theorem dL_law_218 : decode cL_law 218 = .ok (.iload 4, 2) := by decide +kernel
theorem dL_law_220 : decode cL_law 220 = .ok (.iconst 3, 1) := by decide +kernel
theorem dL_law_221 : decode cL_law 221 = .ok (.ishr, 1) := by decide +kernel
theorem dL_law_222 : decode cL_law 222 = .ok (.bipush 20, 2) := by decide +kernel
theorem dL_law_224 : decode cL_law 224 = .ok (.invokestatic 18, 3) := by decide +kernel
theorem dL_law_227 : decode cL_law 227 = .ok (.iadd, 1) := by decide +kernel
theorem dL_law_228 : decode cL_law 228 = .ok (.invokevirtual 72, 3) := by decide +kernel
theorem dL_law_231 : decode cL_law 231 = .ok (.istore 13, 2) := by decide +kernel
theorem dL_law_233 : decode cL_law 233 = .ok (.goto 71, 3) := by decide +kernel
theorem dL_law_236 : decode cL_law 236 = .ok (.aload_n 1, 1) := by decide +kernel
theorem dL_law_237 : decode cL_law 237 = .ok (.bipush 9, 2) := by decide +kernel
theorem dL_law_239 : decode cL_law 239 = .ok (.iload 4, 2) := by decide +kernel
theorem dL_law_241 : decode cL_law 241 = .ok (.iconst 3, 1) := by decide +kernel
theorem dL_law_242 : decode cL_law 242 = .ok (.ishr, 1) := by decide +kernel
theorem dL_law_243 : decode cL_law 243 = .ok (.bipush 10, 2) := by decide +kernel
theorem dL_law_245 : decode cL_law 245 = .ok (.invokestatic 18, 3) := by decide +kernel
theorem dL_law_248 : decode cL_law 248 = .ok (.iconst 1, 1) := by decide +kernel
theorem dL_law_249 : decode cL_law 249 = .ok (.iload 4, 2) := by decide +kernel
theorem dL_law_251 : decode cL_law 251 = .ok (.bipush 7, 2) := by decide +kernel
theorem dL_law_253 : decode cL_law 253 = .ok (.ishr, 1) := by decide +kernel
theorem dL_law_254 : decode cL_law 254 = .ok (.bipush 30, 2) := by decide +kernel
theorem dL_law_256 : decode cL_law 256 = .ok (.invokestatic 18, 3) := by decide +kernel
theorem dL_law_259 : decode cL_law 259 = .ok (.iadd, 1) := by decide +kernel
theorem dL_law_260 : decode cL_law 260 = .ok (.invokevirtual 48, 3) := by decide +kernel
theorem dL_law_263 : decode cL_law 263 = .ok (.istore 13, 2) := by decide +kernel
theorem dL_law_265 : decode cL_law 265 = .ok (.goto 39, 3) := by decide +kernel
theorem dL_law_268 : decode cL_law 268 = .ok (.iload 4, 2) := by decide +kernel
theorem dL_law_270 : decode cL_law 270 = .ok (.iconst 3, 1) := by decide +kernel
theorem dL_law_271 : decode cL_law 271 = .ok (.ishr, 1) := by decide +kernel
theorem dL_law_272 : decode cL_law 272 = .ok (.iconst 3, 1) := by decide +kernel
theorem dL_law_273 : decode cL_law 273 = .ok (.invokestatic 18, 3) := by decide +kernel
theorem dL_law_276 : decode cL_law 276 = .ok (.ifCond .ne 28, 3) := by decide +kernel
theorem dL_law_279 : decode cL_law 279 = .ok (.aload_n 1, 1) := by decide +kernel
theorem dL_law_280 : decode cL_law 280 = .ok (.invokevirtual 75, 3) := by decide +kernel
theorem dL_law_283 : decode cL_law 283 = .ok (.istore 13, 2) := by decide +kernel
theorem dL_law_285 : decode cL_law 285 = .ok (.goto 19, 3) := by decide +kernel
theorem dL_law_288 : decode cL_law 288 = .ok (.aload_n 1, 1) := by decide +kernel
theorem dL_law_289 : decode cL_law 289 = .ok (.iconst 1, 1) := by decide +kernel
theorem dL_law_290 : decode cL_law 290 = .ok (.iload 4, 2) := by decide +kernel
theorem dL_law_292 : decode cL_law 292 = .ok (.iconst 3, 1) := by decide +kernel
theorem dL_law_293 : decode cL_law 293 = .ok (.ishr, 1) := by decide +kernel
theorem dL_law_294 : decode cL_law 294 = .ok (.iconst 5, 1) := by decide +kernel
theorem dL_law_295 : decode cL_law 295 = .ok (.invokestatic 18, 3) := by decide +kernel
theorem dL_law_298 : decode cL_law 298 = .ok (.iadd, 1) := by decide +kernel
theorem dL_law_299 : decode cL_law 299 = .ok (.invokevirtual 79, 3) := by decide +kernel
theorem dL_law_302 : decode cL_law 302 = .ok (.istore 13, 2) := by decide +kernel
theorem dL_law_304 : decode cL_law 304 = .ok (.iload 13, 2) := by decide +kernel
theorem dL_law_306 : decode cL_law 306 = .ok (.ifCond .lt 128, 3) := by decide +kernel
theorem dL_law_309 : decode cL_law 309 = .ok (.iload 12, 2) := by decide +kernel
theorem dL_law_311 : decode cL_law 311 = .ok (.iconst 2, 1) := by decide +kernel
theorem dL_law_312 : decode cL_law 312 = .ok (.if_icmp .ne 13, 3) := by decide +kernel
theorem dL_law_315 : decode cL_law 315 = .ok (.aload_n 1, 1) := by decide +kernel
theorem dL_law_316 : decode cL_law 316 = .ok (.iconst 0, 1) := by decide +kernel
theorem dL_law_317 : decode cL_law 317 = .ok (.invokevirtual 51, 3) := by decide +kernel
theorem dL_law_320 : decode cL_law 320 = .ok (.iload 5, 2) := by decide +kernel
theorem dL_law_322 : decode cL_law 322 = .ok (.if_icmp .gt 112, 3) := by decide +kernel
theorem dL_law_325 : decode cL_law 325 = .ok (.iload 12, 2) := by decide +kernel
theorem dL_law_327 : decode cL_law 327 = .ok (.iconst 3, 1) := by decide +kernel
theorem dL_law_328 : decode cL_law 328 = .ok (.if_icmp .ne 14, 3) := by decide +kernel
theorem dL_law_331 : decode cL_law 331 = .ok (.iload 13, 2) := by decide +kernel
theorem dL_law_333 : decode cL_law 333 = .ok (.aload_n 1, 1) := by decide +kernel
theorem dL_law_334 : decode cL_law 334 = .ok (.bipush 12, 2) := by decide +kernel
theorem dL_law_336 : decode cL_law 336 = .ok (.invokevirtual 51, 3) := by decide +kernel
theorem dL_law_339 : decode cL_law 339 = .ok (.if_icmp .ne 95, 3) := by decide +kernel
theorem dL_law_342 : decode cL_law 342 = .ok (.iload 12, 2) := by decide +kernel
theorem dL_law_344 : decode cL_law 344 = .ok (.iconst 4, 1) := by decide +kernel
theorem dL_law_345 : decode cL_law 345 = .ok (.if_icmp .ne 17, 3) := by decide +kernel
theorem dL_law_348 : decode cL_law 348 = .ok (.aload_n 1, 1) := by decide +kernel
theorem dL_law_349 : decode cL_law 349 = .ok (.bipush 14, 2) := by decide +kernel
theorem dL_law_351 : decode cL_law 351 = .ok (.invokevirtual 51, 3) := by decide +kernel
theorem dL_law_354 : decode cL_law 354 = .ok (.iload 11, 2) := by decide +kernel
theorem dL_law_356 : decode cL_law 356 = .ok (.iload 13, 2) := by decide +kernel
theorem dL_law_358 : decode cL_law 358 = .ok (.iadd, 1) := by decide +kernel
theorem dL_law_359 : decode cL_law 359 = .ok (.if_icmp .ne 75, 3) := by decide +kernel
theorem dL_law_362 : decode cL_law 362 = .ok (.iload 12, 2) := by decide +kernel
theorem dL_law_364 : decode cL_law 364 = .ok (.iconst 5, 1) := by decide +kernel
theorem dL_law_365 : decode cL_law 365 = .ok (.if_icmp .ne 17, 3) := by decide +kernel
theorem dL_law_368 : decode cL_law 368 = .ok (.aload_n 1, 1) := by decide +kernel
theorem dL_law_369 : decode cL_law 369 = .ok (.bipush 11, 2) := by decide +kernel
theorem dL_law_371 : decode cL_law 371 = .ok (.invokevirtual 51, 3) := by decide +kernel
theorem dL_law_374 : decode cL_law 374 = .ok (.iload 6, 2) := by decide +kernel
theorem dL_law_376 : decode cL_law 376 = .ok (.iload 13, 2) := by decide +kernel
theorem dL_law_378 : decode cL_law 378 = .ok (.iadd, 1) := by decide +kernel
theorem dL_law_379 : decode cL_law 379 = .ok (.if_icmp .ne 55, 3) := by decide +kernel
theorem dL_law_382 : decode cL_law 382 = .ok (.iload 12, 2) := by decide +kernel
theorem dL_law_384 : decode cL_law 384 = .ok (.iconst 5, 1) := by decide +kernel
theorem dL_law_385 : decode cL_law 385 = .ok (.if_icmp .ge 14, 3) := by decide +kernel
theorem dL_law_388 : decode cL_law 388 = .ok (.aload_n 1, 1) := by decide +kernel
theorem dL_law_389 : decode cL_law 389 = .ok (.bipush 11, 2) := by decide +kernel
theorem dL_law_391 : decode cL_law 391 = .ok (.invokevirtual 51, 3) := by decide +kernel
theorem dL_law_394 : decode cL_law 394 = .ok (.iload 6, 2) := by decide +kernel
theorem dL_law_396 : decode cL_law 396 = .ok (.if_icmp .ne 38, 3) := by decide +kernel
theorem dL_law_399 : decode cL_law 399 = .ok (.aload_n 1, 1) := by decide +kernel
theorem dL_law_400 : decode cL_law 400 = .ok (.bipush 10, 2) := by decide +kernel
theorem dL_law_402 : decode cL_law 402 = .ok (.invokevirtual 51, 3) := by decide +kernel
theorem dL_law_405 : decode cL_law 405 = .ok (.iload 7, 2) := by decide +kernel
theorem dL_law_407 : decode cL_law 407 = .ok (.if_icmp .gt 27, 3) := by decide +kernel
theorem dL_law_410 : decode cL_law 410 = .ok (.aload_n 1, 1) := by decide +kernel
theorem dL_law_411 : decode cL_law 411 = .ok (.bipush 10, 2) := by decide +kernel
theorem dL_law_413 : decode cL_law 413 = .ok (.invokevirtual 51, 3) := by decide +kernel
theorem dL_law_416 : decode cL_law 416 = .ok (.iload 7, 2) := by decide +kernel
theorem dL_law_418 : decode cL_law 418 = .ok (.iconst 1, 1) := by decide +kernel
theorem dL_law_419 : decode cL_law 419 = .ok (.isub, 1) := by decide +kernel
theorem dL_law_420 : decode cL_law 420 = .ok (.if_icmp .lt 14, 3) := by decide +kernel
theorem dL_law_423 : decode cL_law 423 = .ok (.aload_n 1, 1) := by decide +kernel
theorem dL_law_424 : decode cL_law 424 = .ok (.bipush 14, 2) := by decide +kernel
theorem dL_law_426 : decode cL_law 426 = .ok (.invokevirtual 51, 3) := by decide +kernel
theorem dL_law_429 : decode cL_law 429 = .ok (.iload 11, 2) := by decide +kernel
theorem dL_law_431 : decode cL_law 431 = .ok (.if_icmp .ge 5, 3) := by decide +kernel
theorem dL_law_434 : decode cL_law 434 = .ok (.iconst 0, 1) := by decide +kernel
theorem dL_law_435 : decode cL_law 435 = .ok (.ireturn, 1) := by decide +kernel
theorem dL_law_436 : decode cL_law 436 = .ok (.iconst 0, 1) := by decide +kernel
theorem dL_law_437 : decode cL_law 437 = .ok (.istore 14, 2) := by decide +kernel
theorem dL_law_439 : decode cL_law 439 = .ok (.iload 14, 2) := by decide +kernel
theorem dL_law_441 : decode cL_law 441 = .ok (.iload_n 2, 1) := by decide +kernel
theorem dL_law_442 : decode cL_law 442 = .ok (.if_icmp .ge 104, 3) := by decide +kernel
theorem dL_law_445 : decode cL_law 445 = .ok (.aload 10, 2) := by decide +kernel
theorem dL_law_447 : decode cL_law 447 = .ok (.iload 14, 2) := by decide +kernel
theorem dL_law_449 : decode cL_law 449 = .ok (.baload, 1) := by decide +kernel
theorem dL_law_450 : decode cL_law 450 = .ok (.ifCond .eq 37, 3) := by decide +kernel
theorem dL_law_453 : decode cL_law 453 = .ok (.aload_n 1, 1) := by decide +kernel
theorem dL_law_454 : decode cL_law 454 = .ok (.iload 14, 2) := by decide +kernel
theorem dL_law_456 : decode cL_law 456 = .ok (.iconst 0, 1) := by decide +kernel
theorem dL_law_457 : decode cL_law 457 = .ok (.invokevirtual 33, 3) := by decide +kernel
theorem dL_law_460 : decode cL_law 460 = .ok (.aload 8, 2) := by decide +kernel
theorem dL_law_462 : decode cL_law 462 = .ok (.iload 14, 2) := by decide +kernel
theorem dL_law_464 : decode cL_law 464 = .ok (.iaload, 1) := by decide +kernel
theorem dL_law_465 : decode cL_law 465 = .ok (.if_icmp .ne 18, 3) := by decide +kernel
theorem dL_law_468 : decode cL_law 468 = .ok (.aload_n 1, 1) := by decide +kernel
theorem dL_law_469 : decode cL_law 469 = .ok (.iload 14, 2) := by decide +kernel
theorem dL_law_471 : decode cL_law 471 = .ok (.iconst 1, 1) := by decide +kernel
theorem dL_law_472 : decode cL_law 472 = .ok (.invokevirtual 33, 3) := by decide +kernel
theorem dL_law_475 : decode cL_law 475 = .ok (.aload 9, 2) := by decide +kernel
theorem dL_law_477 : decode cL_law 477 = .ok (.iload 14, 2) := by decide +kernel
theorem dL_law_479 : decode cL_law 479 = .ok (.iaload, 1) := by decide +kernel
theorem dL_law_480 : decode cL_law 480 = .ok (.if_icmp .le 7, 3) := by decide +kernel
theorem dL_law_483 : decode cL_law 483 = .ok (.iconst 1, 1) := by decide +kernel
theorem dL_law_484 : decode cL_law 484 = .ok (.goto 4, 3) := by decide +kernel
theorem dL_law_487 : decode cL_law 487 = .ok (.iconst 0, 1) := by decide +kernel
theorem dL_law_488 : decode cL_law 488 = .ok (.istore 15, 2) := by decide +kernel
theorem dL_law_490 : decode cL_law 490 = .ok (.iload 15, 2) := by decide +kernel
theorem dL_law_492 : decode cL_law 492 = .ok (.ifCond .ne 46, 3) := by decide +kernel
theorem dL_law_495 : decode cL_law 495 = .ok (.aload 8, 2) := by decide +kernel
theorem dL_law_497 : decode cL_law 497 = .ok (.iload 14, 2) := by decide +kernel
theorem dL_law_499 : decode cL_law 499 = .ok (.iaload, 1) := by decide +kernel
theorem dL_law_500 : decode cL_law 500 = .ok (.ifCond .le 13, 3) := by decide +kernel
theorem dL_law_503 : decode cL_law 503 = .ok (.aload_n 1, 1) := by decide +kernel
theorem dL_law_504 : decode cL_law 504 = .ok (.iload 14, 2) := by decide +kernel
theorem dL_law_506 : decode cL_law 506 = .ok (.iconst 0, 1) := by decide +kernel
theorem dL_law_507 : decode cL_law 507 = .ok (.invokevirtual 33, 3) := by decide +kernel
theorem dL_law_510 : decode cL_law 510 = .ok (.ifCond .eq 28, 3) := by decide +kernel
theorem dL_law_513 : decode cL_law 513 = .ok (.aload 10, 2) := by decide +kernel
theorem dL_law_515 : decode cL_law 515 = .ok (.iload 14, 2) := by decide +kernel
theorem dL_law_517 : decode cL_law 517 = .ok (.baload, 1) := by decide +kernel
theorem dL_law_518 : decode cL_law 518 = .ok (.ifCond .eq 22, 3) := by decide +kernel
theorem dL_law_521 : decode cL_law 521 = .ok (.iload 12, 2) := by decide +kernel
theorem dL_law_523 : decode cL_law 523 = .ok (.bipush 6, 2) := by decide +kernel
theorem dL_law_525 : decode cL_law 525 = .ok (.if_icmp .eq 15, 3) := by decide +kernel
theorem dL_law_528 : decode cL_law 528 = .ok (.aload_n 1, 1) := by decide +kernel
theorem dL_law_529 : decode cL_law 529 = .ok (.iload 14, 2) := by decide +kernel
theorem dL_law_531 : decode cL_law 531 = .ok (.iconst 2, 1) := by decide +kernel
theorem dL_law_532 : decode cL_law 532 = .ok (.invokevirtual 33, 3) := by decide +kernel
theorem dL_law_535 : decode cL_law 535 = .ok (.ifCond .ne 5, 3) := by decide +kernel
theorem dL_law_538 : decode cL_law 538 = .ok (.iconst 0, 1) := by decide +kernel
theorem dL_law_539 : decode cL_law 539 = .ok (.ireturn, 1) := by decide +kernel
theorem dL_law_540 : decode cL_law 540 = .ok (.iinc 14 1, 3) := by decide +kernel
theorem dL_law_543 : decode cL_law 543 = .ok (.goto (-104), 3) := by decide +kernel
theorem dL_law_546 : decode cL_law 546 = .ok (.aload_n 1, 1) := by decide +kernel
theorem dL_law_547 : decode cL_law 547 = .ok (.iload_n 2, 1) := by decide +kernel
theorem dL_law_548 : decode cL_law 548 = .ok (.invokestatic 82, 3) := by decide +kernel
theorem dL_law_551 : decode cL_law 551 = .ok (.ifCond .ne 5, 3) := by decide +kernel
theorem dL_law_554 : decode cL_law 554 = .ok (.iconst 0, 1) := by decide +kernel
theorem dL_law_555 : decode cL_law 555 = .ok (.ireturn, 1) := by decide +kernel
theorem dL_law_556 : decode cL_law 556 = .ok (.iinc 3 1, 3) := by decide +kernel
theorem dL_law_559 : decode cL_law 559 = .ok (.goto (-543), 3) := by decide +kernel
theorem dL_law_562 : decode cL_law 562 = .ok (.aload_n 1, 1) := by decide +kernel
theorem dL_law_563 : decode cL_law 563 = .ok (.invokevirtual 86, 3) := by decide +kernel
theorem dL_law_566 : decode cL_law 566 = .ok (.lstore_n 3, 1) := by decide +kernel
theorem dL_law_567 : decode cL_law 567 = .ok (.aload_n 1, 1) := by decide +kernel
theorem dL_law_568 : decode cL_law 568 = .ok (.invokevirtual 90, 3) := by decide +kernel
theorem dL_law_571 : decode cL_law 571 = .ok (.ifCond .eq 16, 3) := by decide +kernel
theorem dL_law_574 : decode cL_law 574 = .ok (.aload_n 1, 1) := by decide +kernel
theorem dL_law_575 : decode cL_law 575 = .ok (.invokevirtual 86, 3) := by decide +kernel
theorem dL_law_578 : decode cL_law 578 = .ok (.lload_n 3, 1) := by decide +kernel
theorem dL_law_579 : decode cL_law 579 = .ok (.lcmp, 1) := by decide +kernel
theorem dL_law_580 : decode cL_law 580 = .ok (.ifCond .ne 7, 3) := by decide +kernel
theorem dL_law_583 : decode cL_law 583 = .ok (.iconst 1, 1) := by decide +kernel
theorem dL_law_584 : decode cL_law 584 = .ok (.goto 4, 3) := by decide +kernel
theorem dL_law_587 : decode cL_law 587 = .ok (.iconst 0, 1) := by decide +kernel
theorem dL_law_588 : decode cL_law 588 = .ok (.ireturn, 1) := by decide +kernel
theorem dL_isSo_0 : decode cL_isSo 0 = .ok (.iconst 0, 1) := by decide +kernel
theorem dL_isSo_1 : decode cL_isSo 1 = .ok (.istore_n 2, 1) := by decide +kernel
theorem dL_isSo_2 : decode cL_isSo 2 = .ok (.iconst 0, 1) := by decide +kernel
theorem dL_isSo_3 : decode cL_isSo 3 = .ok (.istore_n 3, 1) := by decide +kernel
theorem dL_isSo_4 : decode cL_isSo 4 = .ok (.iconst 0, 1) := by decide +kernel
theorem dL_isSo_5 : decode cL_isSo 5 = .ok (.istore 4, 2) := by decide +kernel
theorem dL_isSo_7 : decode cL_isSo 7 = .ok (.iconst 0, 1) := by decide +kernel
theorem dL_isSo_8 : decode cL_isSo 8 = .ok (.istore 5, 2) := by decide +kernel
theorem dL_isSo_10 : decode cL_isSo 10 = .ok (.iload 5, 2) := by decide +kernel
theorem dL_isSo_12 : decode cL_isSo 12 = .ok (.aload_n 0, 1) := by decide +kernel
theorem dL_isSo_13 : decode cL_isSo 13 = .ok (.iconst 1, 1) := by decide +kernel
theorem dL_isSo_14 : decode cL_isSo 14 = .ok (.invokevirtual 51, 3) := by decide +kernel
theorem dL_isSo_17 : decode cL_isSo 17 = .ok (.if_icmp .ge 109, 3) := by decide +kernel
theorem dL_isSo_20 : decode cL_isSo 20 = .ok (.aload_n 0, 1) := by decide +kernel
theorem dL_isSo_21 : decode cL_isSo 21 = .ok (.iload 5, 2) := by decide +kernel
theorem dL_isSo_23 : decode cL_isSo 23 = .ok (.iconst 1, 1) := by decide +kernel
theorem dL_isSo_24 : decode cL_isSo 24 = .ok (.invokevirtual 94, 3) := by decide +kernel
theorem dL_isSo_27 : decode cL_isSo 27 = .ok (.istore 6, 2) := by decide +kernel
theorem dL_isSo_29 : decode cL_isSo 29 = .ok (.iload_n 2, 1) := by decide +kernel
theorem dL_isSo_30 : decode cL_isSo 30 = .ok (.iload 6, 2) := by decide +kernel
theorem dL_isSo_32 : decode cL_isSo 32 = .ok (.iadd, 1) := by decide +kernel
theorem dL_isSo_33 : decode cL_isSo 33 = .ok (.istore_n 2, 1) := by decide +kernel
theorem dL_isSo_34 : decode cL_isSo 34 = .ok (.iload_n 3, 1) := by decide +kernel
theorem dL_isSo_35 : decode cL_isSo 35 = .ok (.aload_n 0, 1) := by decide +kernel
theorem dL_isSo_36 : decode cL_isSo 36 = .ok (.iload 5, 2) := by decide +kernel
theorem dL_isSo_38 : decode cL_isSo 38 = .ok (.iconst 5, 1) := by decide +kernel
theorem dL_isSo_39 : decode cL_isSo 39 = .ok (.invokevirtual 94, 3) := by decide +kernel
theorem dL_isSo_42 : decode cL_isSo 42 = .ok (.iadd, 1) := by decide +kernel
theorem dL_isSo_43 : decode cL_isSo 43 = .ok (.istore_n 3, 1) := by decide +kernel
theorem dL_isSo_44 : decode cL_isSo 44 = .ok (.iload 4, 2) := by decide +kernel
theorem dL_isSo_46 : decode cL_isSo 46 = .ok (.aload_n 0, 1) := by decide +kernel
theorem dL_isSo_47 : decode cL_isSo 47 = .ok (.iload 5, 2) := by decide +kernel
theorem dL_isSo_49 : decode cL_isSo 49 = .ok (.iconst 2, 1) := by decide +kernel
theorem dL_isSo_50 : decode cL_isSo 50 = .ok (.invokevirtual 94, 3) := by decide +kernel
theorem dL_isSo_53 : decode cL_isSo 53 = .ok (.iadd, 1) := by decide +kernel
theorem dL_isSo_54 : decode cL_isSo 54 = .ok (.istore 4, 2) := by decide +kernel
theorem dL_isSo_56 : decode cL_isSo 56 = .ok (.iload 6, 2) := by decide +kernel
theorem dL_isSo_58 : decode cL_isSo 58 = .ok (.iconst 1, 1) := by decide +kernel
theorem dL_isSo_59 : decode cL_isSo 59 = .ok (.if_icmp .lt 59, 3) := by decide +kernel
theorem dL_isSo_62 : decode cL_isSo 62 = .ok (.iload 6, 2) := by decide +kernel
theorem dL_isSo_64 : decode cL_isSo 64 = .ok (.aload_n 0, 1) := by decide +kernel
theorem dL_isSo_65 : decode cL_isSo 65 = .ok (.bipush 15, 2) := by decide +kernel
theorem dL_isSo_67 : decode cL_isSo 67 = .ok (.invokevirtual 51, 3) := by decide +kernel
theorem dL_isSo_70 : decode cL_isSo 70 = .ok (.if_icmp .gt 48, 3) := by decide +kernel
theorem dL_isSo_73 : decode cL_isSo 73 = .ok (.aload_n 0, 1) := by decide +kernel
theorem dL_isSo_74 : decode cL_isSo 74 = .ok (.iload 5, 2) := by decide +kernel
theorem dL_isSo_76 : decode cL_isSo 76 = .ok (.iconst 0, 1) := by decide +kernel
theorem dL_isSo_77 : decode cL_isSo 77 = .ok (.invokevirtual 94, 3) := by decide +kernel
theorem dL_isSo_80 : decode cL_isSo 80 = .ok (.iconst 1, 1) := by decide +kernel
theorem dL_isSo_81 : decode cL_isSo 81 = .ok (.if_icmp .lt 37, 3) := by decide +kernel
theorem dL_isSo_84 : decode cL_isSo 84 = .ok (.aload_n 0, 1) := by decide +kernel
theorem dL_isSo_85 : decode cL_isSo 85 = .ok (.iload 5, 2) := by decide +kernel
theorem dL_isSo_87 : decode cL_isSo 87 = .ok (.iconst 3, 1) := by decide +kernel
theorem dL_isSo_88 : decode cL_isSo 88 = .ok (.invokevirtual 94, 3) := by decide +kernel
theorem dL_isSo_91 : decode cL_isSo 91 = .ok (.aload_n 0, 1) := by decide +kernel
theorem dL_isSo_92 : decode cL_isSo 92 = .ok (.iload 5, 2) := by decide +kernel
theorem dL_isSo_94 : decode cL_isSo 94 = .ok (.iconst 2, 1) := by decide +kernel
theorem dL_isSo_95 : decode cL_isSo 95 = .ok (.invokevirtual 94, 3) := by decide +kernel
theorem dL_isSo_98 : decode cL_isSo 98 = .ok (.if_icmp .gt 20, 3) := by decide +kernel
theorem dL_isSo_101 : decode cL_isSo 101 = .ok (.aload_n 0, 1) := by decide +kernel
theorem dL_isSo_102 : decode cL_isSo 102 = .ok (.aload_n 0, 1) := by decide +kernel
theorem dL_isSo_103 : decode cL_isSo 103 = .ok (.iload 5, 2) := by decide +kernel
theorem dL_isSo_105 : decode cL_isSo 105 = .ok (.iconst 4, 1) := by decide +kernel
theorem dL_isSo_106 : decode cL_isSo 106 = .ok (.invokevirtual 94, 3) := by decide +kernel
theorem dL_isSo_109 : decode cL_isSo 109 = .ok (.iconst 4, 1) := by decide +kernel
theorem dL_isSo_110 : decode cL_isSo 110 = .ok (.invokevirtual 33, 3) := by decide +kernel
theorem dL_isSo_113 : decode cL_isSo 113 = .ok (.iload 5, 2) := by decide +kernel
theorem dL_isSo_115 : decode cL_isSo 115 = .ok (.if_icmp .eq 5, 3) := by decide +kernel
theorem dL_isSo_118 : decode cL_isSo 118 = .ok (.iconst 0, 1) := by decide +kernel
theorem dL_isSo_119 : decode cL_isSo 119 = .ok (.ireturn, 1) := by decide +kernel
theorem dL_isSo_120 : decode cL_isSo 120 = .ok (.iinc 5 1, 3) := by decide +kernel
theorem dL_isSo_123 : decode cL_isSo 123 = .ok (.goto (-113), 3) := by decide +kernel
theorem dL_isSo_126 : decode cL_isSo 126 = .ok (.iconst 0, 1) := by decide +kernel
theorem dL_isSo_127 : decode cL_isSo 127 = .ok (.istore 5, 2) := by decide +kernel
theorem dL_isSo_129 : decode cL_isSo 129 = .ok (.iconst 0, 1) := by decide +kernel
theorem dL_isSo_130 : decode cL_isSo 130 = .ok (.istore 6, 2) := by decide +kernel
theorem dL_isSo_132 : decode cL_isSo 132 = .ok (.iload 6, 2) := by decide +kernel
theorem dL_isSo_134 : decode cL_isSo 134 = .ok (.iload_n 1, 1) := by decide +kernel
theorem dL_isSo_135 : decode cL_isSo 135 = .ok (.if_icmp .ge 81, 3) := by decide +kernel
theorem dL_isSo_138 : decode cL_isSo 138 = .ok (.aload_n 0, 1) := by decide +kernel
theorem dL_isSo_139 : decode cL_isSo 139 = .ok (.iload 6, 2) := by decide +kernel
theorem dL_isSo_141 : decode cL_isSo 141 = .ok (.iconst 1, 1) := by decide +kernel
theorem dL_isSo_142 : decode cL_isSo 142 = .ok (.invokevirtual 33, 3) := by decide +kernel
theorem dL_isSo_145 : decode cL_isSo 145 = .ok (.istore 7, 2) := by decide +kernel
theorem dL_isSo_147 : decode cL_isSo 147 = .ok (.iload 7, 2) := by decide +kernel
theorem dL_isSo_149 : decode cL_isSo 149 = .ok (.ifCond .lt 47, 3) := by decide +kernel
theorem dL_isSo_152 : decode cL_isSo 152 = .ok (.iload 7, 2) := by decide +kernel
theorem dL_isSo_154 : decode cL_isSo 154 = .ok (.bipush 20, 2) := by decide +kernel
theorem dL_isSo_156 : decode cL_isSo 156 = .ok (.if_icmp .gt 40, 3) := by decide +kernel
theorem dL_isSo_159 : decode cL_isSo 159 = .ok (.aload_n 0, 1) := by decide +kernel
theorem dL_isSo_160 : decode cL_isSo 160 = .ok (.iload 6, 2) := by decide +kernel
theorem dL_isSo_162 : decode cL_isSo 162 = .ok (.iconst 0, 1) := by decide +kernel
theorem dL_isSo_163 : decode cL_isSo 163 = .ok (.invokevirtual 33, 3) := by decide +kernel
theorem dL_isSo_166 : decode cL_isSo 166 = .ok (.ifCond .ne 32, 3) := by decide +kernel
theorem dL_isSo_169 : decode cL_isSo 169 = .ok (.iload 7, 2) := by decide +kernel
theorem dL_isSo_171 : decode cL_isSo 171 = .ok (.ifCond .gt 25, 3) := by decide +kernel
theorem dL_isSo_174 : decode cL_isSo 174 = .ok (.aload_n 0, 1) := by decide +kernel
theorem dL_isSo_175 : decode cL_isSo 175 = .ok (.iload 6, 2) := by decide +kernel
theorem dL_isSo_177 : decode cL_isSo 177 = .ok (.iconst 2, 1) := by decide +kernel
theorem dL_isSo_178 : decode cL_isSo 178 = .ok (.invokevirtual 33, 3) := by decide +kernel
theorem dL_isSo_181 : decode cL_isSo 181 = .ok (.iconst 1, 1) := by decide +kernel
theorem dL_isSo_182 : decode cL_isSo 182 = .ok (.if_icmp .eq 14, 3) := by decide +kernel
theorem dL_isSo_185 : decode cL_isSo 185 = .ok (.aload_n 0, 1) := by decide +kernel
theorem dL_isSo_186 : decode cL_isSo 186 = .ok (.iload 6, 2) := by decide +kernel
theorem dL_isSo_188 : decode cL_isSo 188 = .ok (.iconst 4, 1) := by decide +kernel
theorem dL_isSo_189 : decode cL_isSo 189 = .ok (.invokevirtual 33, 3) := by decide +kernel
theorem dL_isSo_192 : decode cL_isSo 192 = .ok (.iconst (-1), 1) := by decide +kernel
theorem dL_isSo_193 : decode cL_isSo 193 = .ok (.if_icmp .eq 5, 3) := by decide +kernel
theorem dL_isSo_196 : decode cL_isSo 196 = .ok (.iconst 0, 1) := by decide +kernel
theorem dL_isSo_197 : decode cL_isSo 197 = .ok (.ireturn, 1) := by decide +kernel
theorem dL_isSo_198 : decode cL_isSo 198 = .ok (.iload 5, 2) := by decide +kernel
theorem dL_isSo_200 : decode cL_isSo 200 = .ok (.aload_n 0, 1) := by decide +kernel
theorem dL_isSo_201 : decode cL_isSo 201 = .ok (.iload 6, 2) := by decide +kernel
theorem dL_isSo_203 : decode cL_isSo 203 = .ok (.iconst 5, 1) := by decide +kernel
theorem dL_isSo_204 : decode cL_isSo 204 = .ok (.invokevirtual 33, 3) := by decide +kernel
theorem dL_isSo_207 : decode cL_isSo 207 = .ok (.iadd, 1) := by decide +kernel
theorem dL_isSo_208 : decode cL_isSo 208 = .ok (.istore 5, 2) := by decide +kernel
theorem dL_isSo_210 : decode cL_isSo 210 = .ok (.iinc 6 1, 3) := by decide +kernel
theorem dL_isSo_213 : decode cL_isSo 213 = .ok (.goto (-81), 3) := by decide +kernel
theorem dL_isSo_216 : decode cL_isSo 216 = .ok (.iconst 0, 1) := by decide +kernel
theorem dL_isSo_217 : decode cL_isSo 217 = .ok (.istore 6, 2) := by decide +kernel
theorem dL_isSo_219 : decode cL_isSo 219 = .ok (.iconst 0, 1) := by decide +kernel
theorem dL_isSo_220 : decode cL_isSo 220 = .ok (.istore 7, 2) := by decide +kernel
theorem dL_isSo_222 : decode cL_isSo 222 = .ok (.iload 7, 2) := by decide +kernel
theorem dL_isSo_224 : decode cL_isSo 224 = .ok (.aload_n 0, 1) := by decide +kernel
theorem dL_isSo_225 : decode cL_isSo 225 = .ok (.invokestatic 97, 3) := by decide +kernel
theorem dL_isSo_228 : decode cL_isSo 228 = .ok (.aload_n 0, 1) := by decide +kernel
theorem dL_isSo_229 : decode cL_isSo 229 = .ok (.invokestatic 101, 3) := by decide +kernel
theorem dL_isSo_232 : decode cL_isSo 232 = .ok (.iadd, 1) := by decide +kernel
theorem dL_isSo_233 : decode cL_isSo 233 = .ok (.if_icmp .ge 21, 3) := by decide +kernel
theorem dL_isSo_236 : decode cL_isSo 236 = .ok (.iload 6, 2) := by decide +kernel
theorem dL_isSo_238 : decode cL_isSo 238 = .ok (.aload_n 0, 1) := by decide +kernel
theorem dL_isSo_239 : decode cL_isSo 239 = .ok (.iload 7, 2) := by decide +kernel
theorem dL_isSo_241 : decode cL_isSo 241 = .ok (.iconst 1, 1) := by decide +kernel
theorem dL_isSo_242 : decode cL_isSo 242 = .ok (.invokevirtual 54, 3) := by decide +kernel
theorem dL_isSo_245 : decode cL_isSo 245 = .ok (.iadd, 1) := by decide +kernel
theorem dL_isSo_246 : decode cL_isSo 246 = .ok (.istore 6, 2) := by decide +kernel
theorem dL_isSo_248 : decode cL_isSo 248 = .ok (.iinc 7 1, 3) := by decide +kernel
theorem dL_isSo_251 : decode cL_isSo 251 = .ok (.goto (-29), 3) := by decide +kernel
theorem dL_isSo_254 : decode cL_isSo 254 = .ok (.iconst 0, 1) := by decide +kernel
theorem dL_isSo_255 : decode cL_isSo 255 = .ok (.istore 7, 2) := by decide +kernel
theorem dL_isSo_257 : decode cL_isSo 257 = .ok (.iconst 1, 1) := by decide +kernel
theorem dL_isSo_258 : decode cL_isSo 258 = .ok (.istore 8, 2) := by decide +kernel
theorem dL_isSo_260 : decode cL_isSo 260 = .ok (.iload 8, 2) := by decide +kernel
theorem dL_isSo_262 : decode cL_isSo 262 = .ok (.bipush 10, 2) := by decide +kernel
theorem dL_isSo_264 : decode cL_isSo 264 = .ok (.if_icmp .ge 20, 3) := by decide +kernel
theorem dL_isSo_267 : decode cL_isSo 267 = .ok (.iload 7, 2) := by decide +kernel
theorem dL_isSo_269 : decode cL_isSo 269 = .ok (.aload_n 0, 1) := by decide +kernel
theorem dL_isSo_270 : decode cL_isSo 270 = .ok (.iload 8, 2) := by decide +kernel
theorem dL_isSo_272 : decode cL_isSo 272 = .ok (.invokevirtual 104, 3) := by decide +kernel
theorem dL_isSo_275 : decode cL_isSo 275 = .ok (.iadd, 1) := by decide +kernel
theorem dL_isSo_276 : decode cL_isSo 276 = .ok (.istore 7, 2) := by decide +kernel
theorem dL_isSo_278 : decode cL_isSo 278 = .ok (.iinc 8 1, 3) := by decide +kernel
theorem dL_isSo_281 : decode cL_isSo 281 = .ok (.goto (-21), 3) := by decide +kernel
theorem dL_isSo_284 : decode cL_isSo 284 = .ok (.iload_n 2, 1) := by decide +kernel
theorem dL_isSo_285 : decode cL_isSo 285 = .ok (.aload_n 0, 1) := by decide +kernel
theorem dL_isSo_286 : decode cL_isSo 286 = .ok (.bipush 10, 2) := by decide +kernel
theorem dL_isSo_288 : decode cL_isSo 288 = .ok (.invokevirtual 51, 3) := by decide +kernel
theorem dL_isSo_291 : decode cL_isSo 291 = .ok (.iadd, 1) := by decide +kernel
theorem dL_isSo_292 : decode cL_isSo 292 = .ok (.iload_n 1, 1) := by decide +kernel
theorem dL_isSo_293 : decode cL_isSo 293 = .ok (.if_icmp .ne 134, 3) := by decide +kernel
theorem dL_isSo_296 : decode cL_isSo 296 = .ok (.iload_n 3, 1) := by decide +kernel
theorem dL_isSo_297 : decode cL_isSo 297 = .ok (.aload_n 0, 1) := by decide +kernel
theorem dL_isSo_298 : decode cL_isSo 298 = .ok (.bipush 12, 2) := by decide +kernel
theorem dL_isSo_300 : decode cL_isSo 300 = .ok (.invokevirtual 51, 3) := by decide +kernel
theorem dL_isSo_303 : decode cL_isSo 303 = .ok (.if_icmp .ne 124, 3) := by decide +kernel
theorem dL_isSo_306 : decode cL_isSo 306 = .ok (.aload_n 0, 1) := by decide +kernel
theorem dL_isSo_307 : decode cL_isSo 307 = .ok (.iconst 0, 1) := by decide +kernel
theorem dL_isSo_308 : decode cL_isSo 308 = .ok (.invokevirtual 51, 3) := by decide +kernel
theorem dL_isSo_311 : decode cL_isSo 311 = .ok (.iload 5, 2) := by decide +kernel
theorem dL_isSo_313 : decode cL_isSo 313 = .ok (.iconst 2, 1) := by decide +kernel
theorem dL_isSo_314 : decode cL_isSo 314 = .ok (.idiv, 1) := by decide +kernel
theorem dL_isSo_315 : decode cL_isSo 315 = .ok (.iconst 2, 1) := by decide +kernel
theorem dL_isSo_316 : decode cL_isSo 316 = .ok (.iload_n 3, 1) := by decide +kernel
theorem dL_isSo_317 : decode cL_isSo 317 = .ok (.imul, 1) := by decide +kernel
theorem dL_isSo_318 : decode cL_isSo 318 = .ok (.iadd, 1) := by decide +kernel
theorem dL_isSo_319 : decode cL_isSo 319 = .ok (.if_icmp .ne 108, 3) := by decide +kernel
theorem dL_isSo_322 : decode cL_isSo 322 = .ok (.iload 6, 2) := by decide +kernel
theorem dL_isSo_324 : decode cL_isSo 324 = .ok (.aload_n 0, 1) := by decide +kernel
theorem dL_isSo_325 : decode cL_isSo 325 = .ok (.bipush 9, 2) := by decide +kernel
theorem dL_isSo_327 : decode cL_isSo 327 = .ok (.invokevirtual 51, 3) := by decide +kernel
theorem dL_isSo_330 : decode cL_isSo 330 = .ok (.if_icmp .ne 97, 3) := by decide +kernel
theorem dL_isSo_333 : decode cL_isSo 333 = .ok (.iconst 2, 1) := by decide +kernel
theorem dL_isSo_334 : decode cL_isSo 334 = .ok (.iload 6, 2) := by decide +kernel
theorem dL_isSo_336 : decode cL_isSo 336 = .ok (.imul, 1) := by decide +kernel
theorem dL_isSo_337 : decode cL_isSo 337 = .ok (.ifCond .lt 90, 3) := by decide +kernel
theorem dL_isSo_340 : decode cL_isSo 340 = .ok (.iload 4, 2) := by decide +kernel
theorem dL_isSo_342 : decode cL_isSo 342 = .ok (.ifCond .lt 85, 3) := by decide +kernel
theorem dL_isSo_345 : decode cL_isSo 345 = .ok (.aload_n 0, 1) := by decide +kernel
theorem dL_isSo_346 : decode cL_isSo 346 = .ok (.iconst 2, 1) := by decide +kernel
theorem dL_isSo_347 : decode cL_isSo 347 = .ok (.invokevirtual 51, 3) := by decide +kernel
theorem dL_isSo_350 : decode cL_isSo 350 = .ok (.aload_n 0, 1) := by decide +kernel
theorem dL_isSo_351 : decode cL_isSo 351 = .ok (.iconst 1, 1) := by decide +kernel
theorem dL_isSo_352 : decode cL_isSo 352 = .ok (.invokevirtual 51, 3) := by decide +kernel
theorem dL_isSo_355 : decode cL_isSo 355 = .ok (.if_icmp .gt 72, 3) := by decide +kernel
theorem dL_isSo_358 : decode cL_isSo 358 = .ok (.aload_n 0, 1) := by decide +kernel
theorem dL_isSo_359 : decode cL_isSo 359 = .ok (.bipush 6, 2) := by decide +kernel
theorem dL_isSo_361 : decode cL_isSo 361 = .ok (.invokevirtual 51, 3) := by decide +kernel
theorem dL_isSo_364 : decode cL_isSo 364 = .ok (.ifCond .gt 63, 3) := by decide +kernel
theorem dL_isSo_367 : decode cL_isSo 367 = .ok (.iload 7, 2) := by decide +kernel
theorem dL_isSo_369 : decode cL_isSo 369 = .ok (.sipush 1000, 3) := by decide +kernel
theorem dL_isSo_372 : decode cL_isSo 372 = .ok (.if_icmp .gt 55, 3) := by decide +kernel
theorem dL_isSo_375 : decode cL_isSo 375 = .ok (.aload_n 0, 1) := by decide +kernel
theorem dL_isSo_376 : decode cL_isSo 376 = .ok (.iconst 3, 1) := by decide +kernel
theorem dL_isSo_377 : decode cL_isSo 377 = .ok (.invokevirtual 51, 3) := by decide +kernel
theorem dL_isSo_380 : decode cL_isSo 380 = .ok (.bipush 100, 2) := by decide +kernel
theorem dL_isSo_382 : decode cL_isSo 382 = .ok (.iload_n 1, 1) := by decide +kernel
theorem dL_isSo_383 : decode cL_isSo 383 = .ok (.imul, 1) := by decide +kernel
theorem dL_isSo_384 : decode cL_isSo 384 = .ok (.if_icmp .gt 43, 3) := by decide +kernel
theorem dL_isSo_387 : decode cL_isSo 387 = .ok (.aload_n 0, 1) := by decide +kernel
theorem dL_isSo_388 : decode cL_isSo 388 = .ok (.invokevirtual 107, 3) := by decide +kernel
theorem dL_isSo_391 : decode cL_isSo 391 = .ok (.invokevirtual 111, 3) := by decide +kernel
theorem dL_isSo_394 : decode cL_isSo 394 = .ok (.iload_n 1, 1) := by decide +kernel
theorem dL_isSo_395 : decode cL_isSo 395 = .ok (.aload_n 0, 1) := by decide +kernel
theorem dL_isSo_396 : decode cL_isSo 396 = .ok (.invokestatic 101, 3) := by decide +kernel
theorem dL_isSo_399 : decode cL_isSo 399 = .ok (.iadd, 1) := by decide +kernel
theorem dL_isSo_400 : decode cL_isSo 400 = .ok (.iconst 1, 1) := by decide +kernel
theorem dL_isSo_401 : decode cL_isSo 401 = .ok (.isub, 1) := by decide +kernel
theorem dL_isSo_402 : decode cL_isSo 402 = .ok (.if_icmp .ne 25, 3) := by decide +kernel
theorem dL_isSo_405 : decode cL_isSo 405 = .ok (.aload_n 0, 1) := by decide +kernel
theorem dL_isSo_406 : decode cL_isSo 406 = .ok (.invokevirtual 116, 3) := by decide +kernel
theorem dL_isSo_409 : decode cL_isSo 409 = .ok (.invokevirtual 111, 3) := by decide +kernel
theorem dL_isSo_412 : decode cL_isSo 412 = .ok (.iload_n 1, 1) := by decide +kernel
theorem dL_isSo_413 : decode cL_isSo 413 = .ok (.aload_n 0, 1) := by decide +kernel
theorem dL_isSo_414 : decode cL_isSo 414 = .ok (.invokestatic 101, 3) := by decide +kernel
theorem dL_isSo_417 : decode cL_isSo 417 = .ok (.iadd, 1) := by decide +kernel
theorem dL_isSo_418 : decode cL_isSo 418 = .ok (.iconst 1, 1) := by decide +kernel
theorem dL_isSo_419 : decode cL_isSo 419 = .ok (.isub, 1) := by decide +kernel
theorem dL_isSo_420 : decode cL_isSo 420 = .ok (.if_icmp .ne 7, 3) := by decide +kernel
theorem dL_isSo_423 : decode cL_isSo 423 = .ok (.iconst 1, 1) := by decide +kernel
theorem dL_isSo_424 : decode cL_isSo 424 = .ok (.goto 4, 3) := by decide +kernel
theorem dL_isSo_427 : decode cL_isSo 427 = .ok (.iconst 0, 1) := by decide +kernel
theorem dL_isSo_428 : decode cL_isSo 428 = .ok (.ireturn, 1) := by decide +kernel
