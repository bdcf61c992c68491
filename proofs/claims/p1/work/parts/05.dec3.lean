theorem dX12_snow_59 : decode cX12_snow 59 = .ok (.sipush 5426, 3) := by decide +kernel
theorem dX12_snow_62 : decode cX12_snow 62 = .ok (.sipush 200, 3) := by decide +kernel
theorem dX12_snow_65 : decode cX12_snow 65 = .ok (.iload_n 2, 1) := by decide +kernel
theorem dX12_snow_66 : decode cX12_snow 66 = .ok (.imul, 1) := by decide +kernel
theorem dX12_snow_67 : decode cX12_snow 67 = .ok (.iadd, 1) := by decide +kernel
theorem dX12_snow_68 : decode cX12_snow 68 = .ok (.iload_n 1, 1) := by decide +kernel
theorem dX12_snow_69 : decode cX12_snow 69 = .ok (.iadd, 1) := by decide +kernel
theorem dX12_snow_70 : decode cX12_snow 70 = .ok (.iaload, 1) := by decide +kernel
theorem dX12_snow_71 : decode cX12_snow 71 = .ok (.ifCond .ne 7, 3) := by decide +kernel
theorem dX12_snow_74 : decode cX12_snow 74 = .ok (.iconst 1, 1) := by decide +kernel
theorem dX12_snow_75 : decode cX12_snow 75 = .ok (.goto 4, 3) := by decide +kernel
theorem dX12_snow_78 : decode cX12_snow 78 = .ok (.iconst 0, 1) := by decide +kernel
theorem dX12_snow_79 : decode cX12_snow 79 = .ok (.bastore, 1) := by decide +kernel
theorem dX12_snow_80 : decode cX12_snow 80 = .ok (.aload_n 0, 1) := by decide +kernel
theorem dX12_snow_81 : decode cX12_snow 81 = .ok (.getfield 33, 3) := by decide +kernel
theorem dX12_snow_84 : decode cX12_snow 84 = .ok (.iload_n 2, 1) := by decide +kernel
theorem dX12_snow_85 : decode cX12_snow 85 = .ok (.aload_n 0, 1) := by decide +kernel
theorem dX12_snow_86 : decode cX12_snow 86 = .ok (.getfield 29, 3) := by decide +kernel
theorem dX12_snow_89 : decode cX12_snow 89 = .ok (.iload_n 2, 1) := by decide +kernel
theorem dX12_snow_90 : decode cX12_snow 90 = .ok (.baload, 1) := by decide +kernel
theorem dX12_snow_91 : decode cX12_snow 91 = .ok (.ifCond .eq 12, 3) := by decide +kernel
theorem dX12_snow_94 : decode cX12_snow 94 = .ok (.aload_n 0, 1) := by decide +kernel
theorem dX12_snow_95 : decode cX12_snow 95 = .ok (.iload_n 2, 1) := by decide +kernel
theorem dX12_snow_96 : decode cX12_snow 96 = .ok (.iload_n 1, 1) := by decide +kernel
theorem dX12_snow_97 : decode cX12_snow 97 = .ok (.invokevirtual 159, 3) := by decide +kernel
theorem dX12_snow_100 : decode cX12_snow 100 = .ok (.goto 4, 3) := by decide +kernel
theorem dX12_snow_103 : decode cX12_snow 103 = .ok (.fconst 0, 1) := by decide +kernel
theorem dX12_snow_104 : decode cX12_snow 104 = .ok (.fastore, 1) := by decide +kernel
theorem dX12_snow_105 : decode cX12_snow 105 = .ok (.iinc 2 1, 3) := by decide +kernel
theorem dX12_snow_108 : decode cX12_snow 108 = .ok (.goto (-84), 3) := by decide +kernel
theorem dX12_snow_111 : decode cX12_snow 111 = .ok (.iconst 0, 1) := by decide +kernel
theorem dX12_snow_112 : decode cX12_snow 112 = .ok (.istore_n 2, 1) := by decide +kernel
theorem dX12_snow_113 : decode cX12_snow 113 = .ok (.iconst 0, 1) := by decide +kernel
theorem dX12_snow_114 : decode cX12_snow 114 = .ok (.istore_n 3, 1) := by decide +kernel
theorem dX12_snow_115 : decode cX12_snow 115 = .ok (.iload_n 3, 1) := by decide +kernel
theorem dX12_snow_116 : decode cX12_snow 116 = .ok (.aload_n 0, 1) := by decide +kernel
theorem dX12_snow_117 : decode cX12_snow 117 = .ok (.getfield 7, 3) := by decide +kernel
theorem dX12_snow_120 : decode cX12_snow 120 = .ok (.iconst 1, 1) := by decide +kernel
theorem dX12_snow_121 : decode cX12_snow 121 = .ok (.iaload, 1) := by decide +kernel
theorem dX12_snow_122 : decode cX12_snow 122 = .ok (.if_icmp .ge 25, 3) := by decide +kernel
theorem dX12_snow_125 : decode cX12_snow 125 = .ok (.iload_n 2, 1) := by decide +kernel
theorem dX12_snow_126 : decode cX12_snow 126 = .ok (.aload_n 0, 1) := by decide +kernel
theorem dX12_snow_127 : decode cX12_snow 127 = .ok (.iload_n 3, 1) := by decide +kernel
theorem dX12_snow_128 : decode cX12_snow 128 = .ok (.invokevirtual 178, 3) := by decide +kernel
theorem dX12_snow_131 : decode cX12_snow 131 = .ok (.ifCond .eq 7, 3) := by decide +kernel
theorem dX12_snow_134 : decode cX12_snow 134 = .ok (.iconst 1, 1) := by decide +kernel
theorem dX12_snow_135 : decode cX12_snow 135 = .ok (.goto 4, 3) := by decide +kernel
theorem dX12_snow_138 : decode cX12_snow 138 = .ok (.iconst 0, 1) := by decide +kernel
theorem dX12_snow_139 : decode cX12_snow 139 = .ok (.iadd, 1) := by decide +kernel
theorem dX12_snow_140 : decode cX12_snow 140 = .ok (.istore_n 2, 1) := by decide +kernel
theorem dX12_snow_141 : decode cX12_snow 141 = .ok (.iinc 3 1, 3) := by decide +kernel
theorem dX12_snow_144 : decode cX12_snow 144 = .ok (.goto (-29), 3) := by decide +kernel
theorem dX12_snow_147 : decode cX12_snow 147 = .ok (.aload_n 0, 1) := by decide +kernel
theorem dX12_snow_148 : decode cX12_snow 148 = .ok (.iload_n 2, 1) := by decide +kernel
theorem dX12_snow_149 : decode cX12_snow 149 = .ok (.invokevirtual 102, 3) := by decide +kernel
theorem dX12_snow_152 : decode cX12_snow 152 = .ok (.ireturn, 1) := by decide +kernel
theorem dX12_melt_0 : decode cX12_melt 0 = .ok (.iload_n 1, 1) := by decide +kernel
theorem dX12_melt_1 : decode cX12_melt 1 = .ok (.ifCond .lt 7, 3) := by decide +kernel
theorem dX12_melt_4 : decode cX12_melt 4 = .ok (.iload_n 2, 1) := by decide +kernel
theorem dX12_melt_5 : decode cX12_melt 5 = .ok (.ifCond .ge 10, 3) := by decide +kernel
theorem dX12_melt_8 : decode cX12_melt 8 = .ok (.aload_n 0, 1) := by decide +kernel
theorem dX12_melt_9 : decode cX12_melt 9 = .ok (.bipush (-2), 2) := by decide +kernel
theorem dX12_melt_11 : decode cX12_melt 11 = .ok (.invokevirtual 92, 3) := by decide +kernel
theorem dX12_melt_14 : decode cX12_melt 14 = .ok (.ireturn, 1) := by decide +kernel
theorem dX12_melt_15 : decode cX12_melt 15 = .ok (.iload_n 2, 1) := by decide +kernel
theorem dX12_melt_16 : decode cX12_melt 16 = .ok (.ifCond .ne 10, 3) := by decide +kernel
theorem dX12_melt_19 : decode cX12_melt 19 = .ok (.aload_n 0, 1) := by decide +kernel
theorem dX12_melt_20 : decode cX12_melt 20 = .ok (.bipush (-8), 2) := by decide +kernel
theorem dX12_melt_22 : decode cX12_melt 22 = .ok (.invokevirtual 92, 3) := by decide +kernel
theorem dX12_melt_25 : decode cX12_melt 25 = .ok (.ireturn, 1) := by decide +kernel
theorem dX12_melt_26 : decode cX12_melt 26 = .ok (.aload_n 0, 1) := by decide +kernel
theorem dX12_melt_27 : decode cX12_melt 27 = .ok (.invokevirtual 96, 3) := by decide +kernel
theorem dX12_melt_30 : decode cX12_melt 30 = .ok (.iload_n 1, 1) := by decide +kernel
theorem dX12_melt_31 : decode cX12_melt 31 = .ok (.i2f, 1) := by decide +kernel
theorem dX12_melt_32 : decode cX12_melt 32 = .ok (.ldc 153, 2) := by decide +kernel
theorem dX12_melt_34 : decode cX12_melt 34 = .ok (.fdiv, 1) := by decide +kernel
theorem dX12_melt_35 : decode cX12_melt 35 = .ok (.fstore_n 3, 1) := by decide +kernel
theorem dX12_melt_36 : decode cX12_melt 36 = .ok (.iload_n 2, 1) := by decide +kernel
theorem dX12_melt_37 : decode cX12_melt 37 = .ok (.i2f, 1) := by decide +kernel
theorem dX12_melt_38 : decode cX12_melt 38 = .ok (.ldc 153, 2) := by decide +kernel
theorem dX12_melt_40 : decode cX12_melt 40 = .ok (.fdiv, 1) := by decide +kernel
theorem dX12_melt_41 : decode cX12_melt 41 = .ok (.fstore 4, 2) := by decide +kernel
theorem dX12_melt_43 : decode cX12_melt 43 = .ok (.aload_n 0, 1) := by decide +kernel
theorem dX12_melt_44 : decode cX12_melt 44 = .ok (.fload_n 3, 1) := by decide +kernel
theorem dX12_melt_45 : decode cX12_melt 45 = .ok (.fload_n 3, 1) := by decide +kernel
theorem dX12_melt_46 : decode cX12_melt 46 = .ok (.fload 4, 2) := by decide +kernel
theorem dX12_melt_48 : decode cX12_melt 48 = .ok (.frem, 1) := by decide +kernel
theorem dX12_melt_49 : decode cX12_melt 49 = .ok (.fsub, 1) := by decide +kernel
theorem dX12_melt_50 : decode cX12_melt 50 = .ok (.fload 4, 2) := by decide +kernel
theorem dX12_melt_52 : decode cX12_melt 52 = .ok (.fdiv, 1) := by decide +kernel
theorem dX12_melt_53 : decode cX12_melt 53 = .ok (.invokevirtual 163, 3) := by decide +kernel
theorem dX12_melt_56 : decode cX12_melt 56 = .ok (.istore 5, 2) := by decide +kernel
theorem dX12_melt_58 : decode cX12_melt 58 = .ok (.iconst 0, 1) := by decide +kernel
theorem dX12_melt_59 : decode cX12_melt 59 = .ok (.istore 6, 2) := by decide +kernel
theorem dX12_melt_61 : decode cX12_melt 61 = .ok (.iload 6, 2) := by decide +kernel
theorem dX12_melt_63 : decode cX12_melt 63 = .ok (.aload_n 0, 1) := by decide +kernel
theorem dX12_melt_64 : decode cX12_melt 64 = .ok (.getfield 7, 3) := by decide +kernel
theorem dX12_melt_67 : decode cX12_melt 67 = .ok (.iconst 1, 1) := by decide +kernel
theorem dX12_melt_68 : decode cX12_melt 68 = .ok (.iaload, 1) := by decide +kernel
theorem dX12_melt_69 : decode cX12_melt 69 = .ok (.if_icmp .ge 19, 3) := by decide +kernel
theorem dX12_melt_72 : decode cX12_melt 72 = .ok (.aload_n 0, 1) := by decide +kernel
theorem dX12_melt_73 : decode cX12_melt 73 = .ok (.iload 6, 2) := by decide +kernel
theorem dX12_melt_75 : decode cX12_melt 75 = .ok (.iconst 3, 1) := by decide +kernel
theorem dX12_melt_76 : decode cX12_melt 76 = .ok (.iload 5, 2) := by decide +kernel
theorem dX12_melt_78 : decode cX12_melt 78 = .ok (.imul, 1) := by decide +kernel
theorem dX12_melt_79 : decode cX12_melt 79 = .ok (.invokevirtual 184, 3) := by decide +kernel
theorem dX12_melt_82 : decode cX12_melt 82 = .ok (.iinc 6 1, 3) := by decide +kernel
theorem dX12_melt_85 : decode cX12_melt 85 = .ok (.goto (-24), 3) := by decide +kernel
theorem dX12_melt_88 : decode cX12_melt 88 = .ok (.aload_n 0, 1) := by decide +kernel
theorem dX12_melt_89 : decode cX12_melt 89 = .ok (.iload 5, 2) := by decide +kernel
theorem dX12_melt_91 : decode cX12_melt 91 = .ok (.invokevirtual 102, 3) := by decide +kernel
theorem dX12_melt_94 : decode cX12_melt 94 = .ok (.ireturn, 1) := by decide +kernel
theorem dX12_plough_0 : decode cX12_plough 0 = .ok (.iload_n 1, 1) := by decide +kernel
theorem dX12_plough_1 : decode cX12_plough 1 = .ok (.iconst 0, 1) := by decide +kernel
theorem dX12_plough_2 : decode cX12_plough 2 = .ok (.iconst 3, 1) := by decide +kernel
theorem dX12_plough_3 : decode cX12_plough 3 = .ok (.invokestatic 88, 3) := by decide +kernel
theorem dX12_plough_6 : decode cX12_plough 6 = .ok (.ifCond .eq 14, 3) := by decide +kernel
theorem dX12_plough_9 : decode cX12_plough 9 = .ok (.iload_n 2, 1) := by decide +kernel
theorem dX12_plough_10 : decode cX12_plough 10 = .ok (.iconst 0, 1) := by decide +kernel
theorem dX12_plough_11 : decode cX12_plough 11 = .ok (.sipush 10000, 3) := by decide +kernel
theorem dX12_plough_14 : decode cX12_plough 14 = .ok (.invokestatic 88, 3) := by decide +kernel
theorem dX12_plough_17 : decode cX12_plough 17 = .ok (.ifCond .ne 10, 3) := by decide +kernel
theorem dX12_plough_20 : decode cX12_plough 20 = .ok (.aload_n 0, 1) := by decide +kernel
theorem dX12_plough_21 : decode cX12_plough 21 = .ok (.bipush (-2), 2) := by decide +kernel
theorem dX12_plough_23 : decode cX12_plough 23 = .ok (.invokevirtual 92, 3) := by decide +kernel
theorem dX12_plough_26 : decode cX12_plough 26 = .ok (.ireturn, 1) := by decide +kernel
theorem dX12_plough_27 : decode cX12_plough 27 = .ok (.aload_n 0, 1) := by decide +kernel
theorem dX12_plough_28 : decode cX12_plough 28 = .ok (.getfield 7, 3) := by decide +kernel
theorem dX12_plough_31 : decode cX12_plough 31 = .ok (.iconst 3, 1) := by decide +kernel
theorem dX12_plough_32 : decode cX12_plough 32 = .ok (.iaload, 1) := by decide +kernel
theorem dX12_plough_33 : decode cX12_plough 33 = .ok (.bipush 12, 2) := by decide +kernel
theorem dX12_plough_35 : decode cX12_plough 35 = .ok (.if_icmp .ne 10, 3) := by decide +kernel
theorem dX12_plough_38 : decode cX12_plough 38 = .ok (.aload_n 0, 1) := by decide +kernel
theorem dX12_plough_39 : decode cX12_plough 39 = .ok (.bipush (-3), 2) := by decide +kernel
theorem dX12_plough_41 : decode cX12_plough 41 = .ok (.invokevirtual 92, 3) := by decide +kernel
theorem dX12_plough_44 : decode cX12_plough 44 = .ok (.ireturn, 1) := by decide +kernel
theorem dX12_plough_45 : decode cX12_plough 45 = .ok (.aload_n 0, 1) := by decide +kernel
theorem dX12_plough_46 : decode cX12_plough 46 = .ok (.invokevirtual 96, 3) := by decide +kernel
theorem dX12_plough_49 : decode cX12_plough 49 = .ok (.aload_n 0, 1) := by decide +kernel
theorem dX12_plough_50 : decode cX12_plough 50 = .ok (.iload_n 1, 1) := by decide +kernel
theorem dX12_plough_51 : decode cX12_plough 51 = .ok (.iload_n 2, 1) := by decide +kernel
theorem dX12_plough_52 : decode cX12_plough 52 = .ok (.iconst (-1), 1) := by decide +kernel
theorem dX12_plough_53 : decode cX12_plough 53 = .ok (.iconst (-1), 1) := by decide +kernel
theorem dX12_plough_54 : decode cX12_plough 54 = .ok (.invokevirtual 191, 3) := by decide +kernel
theorem dX12_plough_57 : decode cX12_plough 57 = .ok (.ireturn, 1) := by decide +kernel
theorem dX12_comes_0 : decode cX12_comes 0 = .ok (.aload_n 0, 1) := by decide +kernel
theorem dX12_comes_1 : decode cX12_comes 1 = .ok (.aload_n 0, 1) := by decide +kernel
theorem dX12_comes_2 : decode cX12_comes 2 = .ok (.getfield 7, 3) := by decide +kernel
theorem dX12_comes_5 : decode cX12_comes 5 = .ok (.iconst 3, 1) := by decide +kernel
theorem dX12_comes_6 : decode cX12_comes 6 = .ok (.iaload, 1) := by decide +kernel
theorem dX12_comes_7 : decode cX12_comes 7 = .ok (.invokevirtual 188, 3) := by decide +kernel
theorem dX12_comes_10 : decode cX12_comes 10 = .ok (.istore 5, 2) := by decide +kernel
theorem dX12_comes_12 : decode cX12_comes 12 = .ok (.iconst 0, 1) := by decide +kernel
theorem dX12_comes_13 : decode cX12_comes 13 = .ok (.istore 6, 2) := by decide +kernel
theorem dX12_comes_15 : decode cX12_comes 15 = .ok (.iload 6, 2) := by decide +kernel
theorem dX12_comes_17 : decode cX12_comes 17 = .ok (.bipush 13, 2) := by decide +kernel
theorem dX12_comes_19 : decode cX12_comes 19 = .ok (.if_icmp .ge 20, 3) := by decide +kernel
theorem dX12_comes_22 : decode cX12_comes 22 = .ok (.aload_n 0, 1) := by decide +kernel
theorem dX12_comes_23 : decode cX12_comes 23 = .ok (.getfield 7, 3) := by decide +kernel
theorem dX12_comes_26 : decode cX12_comes 26 = .ok (.iload 5, 2) := by decide +kernel
theorem dX12_comes_28 : decode cX12_comes 28 = .ok (.iload 6, 2) := by decide +kernel
theorem dX12_comes_30 : decode cX12_comes 30 = .ok (.iadd, 1) := by decide +kernel
theorem dX12_comes_31 : decode cX12_comes 31 = .ok (.iconst 0, 1) := by decide +kernel
theorem dX12_comes_32 : decode cX12_comes 32 = .ok (.iastore, 1) := by decide +kernel
theorem dX12_comes_33 : decode cX12_comes 33 = .ok (.iinc 6 1, 3) := by decide +kernel
theorem dX12_comes_36 : decode cX12_comes 36 = .ok (.goto (-21), 3) := by decide +kernel
theorem dX12_comes_39 : decode cX12_comes 39 = .ok (.aload_n 0, 1) := by decide +kernel
theorem dX12_comes_40 : decode cX12_comes 40 = .ok (.getfield 7, 3) := by decide +kernel
theorem dX12_comes_43 : decode cX12_comes 43 = .ok (.iload 5, 2) := by decide +kernel
theorem dX12_comes_45 : decode cX12_comes 45 = .ok (.iconst 0, 1) := by decide +kernel
theorem dX12_comes_46 : decode cX12_comes 46 = .ok (.iadd, 1) := by decide +kernel
theorem dX12_comes_47 : decode cX12_comes 47 = .ok (.iload_n 1, 1) := by decide +kernel
theorem dX12_comes_48 : decode cX12_comes 48 = .ok (.iastore, 1) := by decide +kernel
theorem dX12_comes_49 : decode cX12_comes 49 = .ok (.aload_n 0, 1) := by decide +kernel
theorem dX12_comes_50 : decode cX12_comes 50 = .ok (.getfield 7, 3) := by decide +kernel
theorem dX12_comes_53 : decode cX12_comes 53 = .ok (.iload 5, 2) := by decide +kernel
theorem dX12_comes_55 : decode cX12_comes 55 = .ok (.iconst 1, 1) := by decide +kernel
theorem dX12_comes_56 : decode cX12_comes 56 = .ok (.iadd, 1) := by decide +kernel
theorem dX12_comes_57 : decode cX12_comes 57 = .ok (.iload_n 2, 1) := by decide +kernel
theorem dX12_comes_58 : decode cX12_comes 58 = .ok (.iastore, 1) := by decide +kernel
theorem dX12_comes_59 : decode cX12_comes 59 = .ok (.aload_n 0, 1) := by decide +kernel
theorem dX12_comes_60 : decode cX12_comes 60 = .ok (.getfield 7, 3) := by decide +kernel
theorem dX12_comes_63 : decode cX12_comes 63 = .ok (.iload 5, 2) := by decide +kernel
theorem dX12_comes_65 : decode cX12_comes 65 = .ok (.iconst 3, 1) := by decide +kernel
theorem dX12_comes_66 : decode cX12_comes 66 = .ok (.iadd, 1) := by decide +kernel
theorem dX12_comes_67 : decode cX12_comes 67 = .ok (.iload_n 3, 1) := by decide +kernel
theorem dX12_comes_68 : decode cX12_comes 68 = .ok (.iastore, 1) := by decide +kernel
theorem dX12_comes_69 : decode cX12_comes 69 = .ok (.aload_n 0, 1) := by decide +kernel
theorem dX12_comes_70 : decode cX12_comes 70 = .ok (.getfield 7, 3) := by decide +kernel
theorem dX12_comes_73 : decode cX12_comes 73 = .ok (.iload 5, 2) := by decide +kernel
theorem dX12_comes_75 : decode cX12_comes 75 = .ok (.iconst 4, 1) := by decide +kernel
theorem dX12_comes_76 : decode cX12_comes 76 = .ok (.iadd, 1) := by decide +kernel
theorem dX12_comes_77 : decode cX12_comes 77 = .ok (.iload 4, 2) := by decide +kernel
theorem dX12_comes_79 : decode cX12_comes 79 = .ok (.iastore, 1) := by decide +kernel
theorem dX12_comes_80 : decode cX12_comes 80 = .ok (.aload_n 0, 1) := by decide +kernel
theorem dX12_comes_81 : decode cX12_comes 81 = .ok (.getfield 7, 3) := by decide +kernel
theorem dX12_comes_84 : decode cX12_comes 84 = .ok (.iconst 3, 1) := by decide +kernel
theorem dX12_comes_85 : decode cX12_comes 85 = .ok (.dup2, 1) := by decide +kernel
theorem dX12_comes_86 : decode cX12_comes 86 = .ok (.iaload, 1) := by decide +kernel
theorem dX12_comes_87 : decode cX12_comes 87 = .ok (.iconst 1, 1) := by decide +kernel
theorem dX12_comes_88 : decode cX12_comes 88 = .ok (.iadd, 1) := by decide +kernel
theorem dX12_comes_89 : decode cX12_comes 89 = .ok (.iastore, 1) := by decide +kernel
theorem dX12_comes_90 : decode cX12_comes 90 = .ok (.aload_n 0, 1) := by decide +kernel
theorem dX12_comes_91 : decode cX12_comes 91 = .ok (.aload_n 0, 1) := by decide +kernel
theorem dX12_comes_92 : decode cX12_comes 92 = .ok (.getfield 7, 3) := by decide +kernel
theorem dX12_comes_95 : decode cX12_comes 95 = .ok (.iconst 3, 1) := by decide +kernel
theorem dX12_comes_96 : decode cX12_comes 96 = .ok (.iaload, 1) := by decide +kernel
theorem dX12_comes_97 : decode cX12_comes 97 = .ok (.iconst 1, 1) := by decide +kernel
theorem dX12_comes_98 : decode cX12_comes 98 = .ok (.isub, 1) := by decide +kernel
theorem dX12_comes_99 : decode cX12_comes 99 = .ok (.invokevirtual 102, 3) := by decide +kernel
theorem dX12_comes_102 : decode cX12_comes 102 = .ok (.ireturn, 1) := by decide +kernel
theorem dX12_pair_0 : decode cX12_pair 0 = .ok (.aload_n 0, 1) := by decide +kernel
theorem dX12_pair_1 : decode cX12_pair 1 = .ok (.iload_n 1, 1) := by decide +kernel
theorem dX12_pair_2 : decode cX12_pair 2 = .ok (.invokevirtual 197, 3) := by decide +kernel
theorem dX12_pair_5 : decode cX12_pair 5 = .ok (.ifCond .eq 27, 3) := by decide +kernel
theorem dX12_pair_8 : decode cX12_pair 8 = .ok (.aload_n 0, 1) := by decide +kernel
theorem dX12_pair_9 : decode cX12_pair 9 = .ok (.iload_n 2, 1) := by decide +kernel
theorem dX12_pair_10 : decode cX12_pair 10 = .ok (.invokevirtual 197, 3) := by decide +kernel
theorem dX12_pair_13 : decode cX12_pair 13 = .ok (.ifCond .eq 19, 3) := by decide +kernel
theorem dX12_pair_16 : decode cX12_pair 16 = .ok (.iload_n 1, 1) := by decide +kernel
theorem dX12_pair_17 : decode cX12_pair 17 = .ok (.iload_n 2, 1) := by decide +kernel
theorem dX12_pair_18 : decode cX12_pair 18 = .ok (.if_icmp .eq 14, 3) := by decide +kernel
theorem dX12_pair_21 : decode cX12_pair 21 = .ok (.iload_n 3, 1) := by decide +kernel
theorem dX12_pair_22 : decode cX12_pair 22 = .ok (.iconst 0, 1) := by decide +kernel
theorem dX12_pair_23 : decode cX12_pair 23 = .ok (.sipush 10000, 3) := by decide +kernel
theorem dX12_pair_26 : decode cX12_pair 26 = .ok (.invokestatic 88, 3) := by decide +kernel
theorem dX12_pair_29 : decode cX12_pair 29 = .ok (.ifCond .ne 10, 3) := by decide +kernel
theorem dX12_pair_32 : decode cX12_pair 32 = .ok (.aload_n 0, 1) := by decide +kernel
theorem dX12_pair_33 : decode cX12_pair 33 = .ok (.bipush (-2), 2) := by decide +kernel
theorem dX12_pair_35 : decode cX12_pair 35 = .ok (.invokevirtual 92, 3) := by decide +kernel
theorem dX12_pair_38 : decode cX12_pair 38 = .ok (.ireturn, 1) := by decide +kernel
theorem dX12_pair_39 : decode cX12_pair 39 = .ok (.aload_n 0, 1) := by decide +kernel
theorem dX12_pair_40 : decode cX12_pair 40 = .ok (.getfield 7, 3) := by decide +kernel
theorem dX12_pair_43 : decode cX12_pair 43 = .ok (.iconst 3, 1) := by decide +kernel
theorem dX12_pair_44 : decode cX12_pair 44 = .ok (.iaload, 1) := by decide +kernel
theorem dX12_pair_45 : decode cX12_pair 45 = .ok (.bipush 12, 2) := by decide +kernel
theorem dX12_pair_47 : decode cX12_pair 47 = .ok (.if_icmp .ne 10, 3) := by decide +kernel
theorem dX12_pair_50 : decode cX12_pair 50 = .ok (.aload_n 0, 1) := by decide +kernel
theorem dX12_pair_51 : decode cX12_pair 51 = .ok (.bipush (-3), 2) := by decide +kernel
theorem dX12_pair_53 : decode cX12_pair 53 = .ok (.invokevirtual 92, 3) := by decide +kernel
theorem dX12_pair_56 : decode cX12_pair 56 = .ok (.ireturn, 1) := by decide +kernel
theorem dX12_pair_57 : decode cX12_pair 57 = .ok (.aload_n 0, 1) := by decide +kernel
theorem dX12_pair_58 : decode cX12_pair 58 = .ok (.iload_n 1, 1) := by decide +kernel
theorem dX12_pair_59 : decode cX12_pair 59 = .ok (.invokevirtual 200, 3) := by decide +kernel
theorem dX12_pair_62 : decode cX12_pair 62 = .ok (.istore 4, 2) := by decide +kernel
theorem dX12_pair_64 : decode cX12_pair 64 = .ok (.iload 4, 2) := by decide +kernel
theorem dX12_pair_66 : decode cX12_pair 66 = .ok (.ifCond .ne 11, 3) := by decide +kernel
theorem dX12_pair_69 : decode cX12_pair 69 = .ok (.aload_n 0, 1) := by decide +kernel
theorem dX12_pair_70 : decode cX12_pair 70 = .ok (.iload_n 2, 1) := by decide +kernel
theorem dX12_pair_71 : decode cX12_pair 71 = .ok (.invokevirtual 200, 3) := by decide +kernel
theorem dX12_pair_74 : decode cX12_pair 74 = .ok (.goto 5, 3) := by decide +kernel
theorem dX12_pair_77 : decode cX12_pair 77 = .ok (.iload 4, 2) := by decide +kernel
theorem dX12_pair_79 : decode cX12_pair 79 = .ok (.istore 4, 2) := by decide +kernel
theorem dX12_pair_81 : decode cX12_pair 81 = .ok (.iload 4, 2) := by decide +kernel
theorem dX12_pair_83 : decode cX12_pair 83 = .ok (.ifCond .eq 10, 3) := by decide +kernel
theorem dX12_pair_86 : decode cX12_pair 86 = .ok (.aload_n 0, 1) := by decide +kernel
theorem dX12_pair_87 : decode cX12_pair 87 = .ok (.iload 4, 2) := by decide +kernel
theorem dX12_pair_89 : decode cX12_pair 89 = .ok (.invokevirtual 92, 3) := by decide +kernel
theorem dX12_pair_92 : decode cX12_pair 92 = .ok (.ireturn, 1) := by decide +kernel
theorem dX12_pair_93 : decode cX12_pair 93 = .ok (.aload_n 0, 1) := by decide +kernel
theorem dX12_pair_94 : decode cX12_pair 94 = .ok (.invokevirtual 96, 3) := by decide +kernel
theorem dX12_pair_97 : decode cX12_pair 97 = .ok (.aload_n 0, 1) := by decide +kernel
theorem dX12_pair_98 : decode cX12_pair 98 = .ok (.iload_n 1, 1) := by decide +kernel
theorem dX12_pair_99 : decode cX12_pair 99 = .ok (.invokevirtual 203, 3) := by decide +kernel
theorem dX12_pair_102 : decode cX12_pair 102 = .ok (.aload_n 0, 1) := by decide +kernel
theorem dX12_pair_103 : decode cX12_pair 103 = .ok (.iload_n 2, 1) := by decide +kernel
theorem dX12_pair_104 : decode cX12_pair 104 = .ok (.invokevirtual 203, 3) := by decide +kernel
theorem dX12_pair_107 : decode cX12_pair 107 = .ok (.aload_n 0, 1) := by decide +kernel
theorem dX12_pair_108 : decode cX12_pair 108 = .ok (.iconst 4, 1) := by decide +kernel
theorem dX12_pair_109 : decode cX12_pair 109 = .ok (.iload_n 3, 1) := by decide +kernel
theorem dX12_pair_110 : decode cX12_pair 110 = .ok (.iload_n 1, 1) := by decide +kernel
theorem dX12_pair_111 : decode cX12_pair 111 = .ok (.iload_n 2, 1) := by decide +kernel
theorem dX12_pair_112 : decode cX12_pair 112 = .ok (.invokevirtual 191, 3) := by decide +kernel
theorem dX12_pair_115 : decode cX12_pair 115 = .ok (.ireturn, 1) := by decide +kernel
theorem dX12_out_0 : decode cX12_out 0 = .ok (.aload_n 0, 1) := by decide +kernel
theorem dX12_out_1 : decode cX12_out 1 = .ok (.iload_n 1, 1) := by decide +kernel
theorem dX12_out_2 : decode cX12_out 2 = .ok (.invokevirtual 197, 3) := by decide +kernel
theorem dX12_out_5 : decode cX12_out 5 = .ok (.ifCond .ne 10, 3) := by decide +kernel
theorem dX12_out_8 : decode cX12_out 8 = .ok (.aload_n 0, 1) := by decide +kernel
theorem dX12_out_9 : decode cX12_out 9 = .ok (.bipush (-2), 2) := by decide +kernel
theorem dX12_out_11 : decode cX12_out 11 = .ok (.invokevirtual 92, 3) := by decide +kernel
theorem dX12_out_14 : decode cX12_out 14 = .ok (.ireturn, 1) := by decide +kernel
theorem dX12_out_15 : decode cX12_out 15 = .ok (.aload_n 0, 1) := by decide +kernel
theorem dX12_out_16 : decode cX12_out 16 = .ok (.invokevirtual 96, 3) := by decide +kernel
theorem dX12_out_19 : decode cX12_out 19 = .ok (.aload_n 0, 1) := by decide +kernel
theorem dX12_out_20 : decode cX12_out 20 = .ok (.getfield 7, 3) := by decide +kernel
theorem dX12_out_23 : decode cX12_out 23 = .ok (.aload_n 0, 1) := by decide +kernel
theorem dX12_out_24 : decode cX12_out 24 = .ok (.iload_n 1, 1) := by decide +kernel
theorem dX12_out_25 : decode cX12_out 25 = .ok (.invokevirtual 188, 3) := by decide +kernel
theorem dX12_out_28 : decode cX12_out 28 = .ok (.iconst 2, 1) := by decide +kernel
theorem dX12_out_29 : decode cX12_out 29 = .ok (.iadd, 1) := by decide +kernel
theorem dX12_out_30 : decode cX12_out 30 = .ok (.iaload, 1) := by decide +kernel
theorem dX12_out_31 : decode cX12_out 31 = .ok (.istore_n 2, 1) := by decide +kernel
theorem dX12_out_32 : decode cX12_out 32 = .ok (.aload_n 0, 1) := by decide +kernel
theorem dX12_out_33 : decode cX12_out 33 = .ok (.iload_n 1, 1) := by decide +kernel
theorem dX12_out_34 : decode cX12_out 34 = .ok (.invokevirtual 203, 3) := by decide +kernel
theorem dX12_out_37 : decode cX12_out 37 = .ok (.aload_n 0, 1) := by decide +kernel
theorem dX12_out_38 : decode cX12_out 38 = .ok (.iconst 1, 1) := by decide +kernel
theorem dX12_out_39 : decode cX12_out 39 = .ok (.iload_n 2, 1) := by decide +kernel
theorem dX12_out_40 : decode cX12_out 40 = .ok (.isub, 1) := by decide +kernel
theorem dX12_out_41 : decode cX12_out 41 = .ok (.invokevirtual 102, 3) := by decide +kernel
theorem dX12_out_44 : decode cX12_out 44 = .ok (.ireturn, 1) := by decide +kernel
theorem dX12_asks_0 : decode cX12_asks 0 = .ok (.aload_n 0, 1) := by decide +kernel
theorem dX12_asks_1 : decode cX12_asks 1 = .ok (.iload_n 1, 1) := by decide +kernel
theorem dX12_asks_2 : decode cX12_asks 2 = .ok (.invokevirtual 197, 3) := by decide +kernel
theorem dX12_asks_5 : decode cX12_asks 5 = .ok (.ifCond .eq 20, 3) := by decide +kernel
theorem dX12_asks_8 : decode cX12_asks 8 = .ok (.aload_n 0, 1) := by decide +kernel
theorem dX12_asks_9 : decode cX12_asks 9 = .ok (.iload_n 2, 1) := by decide +kernel
theorem dX12_asks_10 : decode cX12_asks 10 = .ok (.invokevirtual 112, 3) := by decide +kernel
theorem dX12_asks_13 : decode cX12_asks 13 = .ok (.ifCond .eq 12, 3) := by decide +kernel
theorem dX12_asks_16 : decode cX12_asks 16 = .ok (.iload_n 3, 1) := by decide +kernel
theorem dX12_asks_17 : decode cX12_asks 17 = .ok (.iconst 0, 1) := by decide +kernel
theorem dX12_asks_18 : decode cX12_asks 18 = .ok (.iconst 3, 1) := by decide +kernel
theorem dX12_asks_19 : decode cX12_asks 19 = .ok (.invokestatic 88, 3) := by decide +kernel
theorem dX12_asks_22 : decode cX12_asks 22 = .ok (.ifCond .ne 10, 3) := by decide +kernel
theorem dX12_asks_25 : decode cX12_asks 25 = .ok (.aload_n 0, 1) := by decide +kernel
theorem dX12_asks_26 : decode cX12_asks 26 = .ok (.bipush (-2), 2) := by decide +kernel
theorem dX12_asks_28 : decode cX12_asks 28 = .ok (.invokevirtual 92, 3) := by decide +kernel
theorem dX12_asks_31 : decode cX12_asks 31 = .ok (.ireturn, 1) := by decide +kernel
theorem dX12_asks_32 : decode cX12_asks 32 = .ok (.aload_n 0, 1) := by decide +kernel
theorem dX12_asks_33 : decode cX12_asks 33 = .ok (.getfield 7, 3) := by decide +kernel
theorem dX12_asks_36 : decode cX12_asks 36 = .ok (.aload_n 0, 1) := by decide +kernel
theorem dX12_asks_37 : decode cX12_asks 37 = .ok (.iload_n 1, 1) := by decide +kernel
theorem dX12_asks_38 : decode cX12_asks 38 = .ok (.invokevirtual 188, 3) := by decide +kernel
theorem dX12_asks_41 : decode cX12_asks 41 = .ok (.iconst 2, 1) := by decide +kernel
theorem dX12_asks_42 : decode cX12_asks 42 = .ok (.iadd, 1) := by decide +kernel
theorem dX12_asks_43 : decode cX12_asks 43 = .ok (.iaload, 1) := by decide +kernel
theorem dX12_asks_44 : decode cX12_asks 44 = .ok (.iconst 1, 1) := by decide +kernel
theorem dX12_asks_45 : decode cX12_asks 45 = .ok (.if_icmp .ne 10, 3) := by decide +kernel
theorem dX12_asks_48 : decode cX12_asks 48 = .ok (.aload_n 0, 1) := by decide +kernel
theorem dX12_asks_49 : decode cX12_asks 49 = .ok (.bipush (-4), 2) := by decide +kernel
theorem dX12_asks_51 : decode cX12_asks 51 = .ok (.invokevirtual 92, 3) := by decide +kernel
theorem dX12_asks_54 : decode cX12_asks 54 = .ok (.ireturn, 1) := by decide +kernel
theorem dX12_asks_55 : decode cX12_asks 55 = .ok (.iload_n 3, 1) := by decide +kernel
theorem dX12_asks_56 : decode cX12_asks 56 = .ok (.tableswitch 71 0 2 #[28, 38, 48], 28) := by decide +kernel
theorem dX12_asks_84 : decode cX12_asks 84 = .ok (.aload_n 0, 1) := by decide +kernel
theorem dX12_asks_85 : decode cX12_asks 85 = .ok (.aload_n 0, 1) := by decide +kernel
theorem dX12_asks_86 : decode cX12_asks 86 = .ok (.iload_n 1, 1) := by decide +kernel
theorem dX12_asks_87 : decode cX12_asks 87 = .ok (.invokevirtual 230, 3) := by decide +kernel
theorem dX12_asks_90 : decode cX12_asks 90 = .ok (.invokevirtual 102, 3) := by decide +kernel
theorem dX12_asks_93 : decode cX12_asks 93 = .ok (.ireturn, 1) := by decide +kernel
theorem dX12_asks_94 : decode cX12_asks 94 = .ok (.aload_n 0, 1) := by decide +kernel
theorem dX12_asks_95 : decode cX12_asks 95 = .ok (.aload_n 0, 1) := by decide +kernel
theorem dX12_asks_96 : decode cX12_asks 96 = .ok (.iload_n 1, 1) := by decide +kernel
theorem dX12_asks_97 : decode cX12_asks 97 = .ok (.invokevirtual 227, 3) := by decide +kernel
theorem dX12_asks_100 : decode cX12_asks 100 = .ok (.invokevirtual 102, 3) := by decide +kernel
theorem dX12_asks_103 : decode cX12_asks 103 = .ok (.ireturn, 1) := by decide +kernel
theorem dX12_asks_104 : decode cX12_asks 104 = .ok (.aload_n 0, 1) := by decide +kernel
theorem dX12_asks_105 : decode cX12_asks 105 = .ok (.aload_n 0, 1) := by decide +kernel
theorem dX12_asks_106 : decode cX12_asks 106 = .ok (.iload_n 1, 1) := by decide +kernel
theorem dX12_asks_107 : decode cX12_asks 107 = .ok (.aload_n 0, 1) := by decide +kernel
theorem dX12_asks_108 : decode cX12_asks 108 = .ok (.getfield 7, 3) := by decide +kernel
theorem dX12_asks_111 : decode cX12_asks 111 = .ok (.aload_n 0, 1) := by decide +kernel
theorem dX12_asks_112 : decode cX12_asks 112 = .ok (.iload_n 2, 1) := by decide +kernel
theorem dX12_asks_113 : decode cX12_asks 113 = .ok (.invokevirtual 109, 3) := by decide +kernel
theorem dX12_asks_116 : decode cX12_asks 116 = .ok (.bipush 6, 2) := by decide +kernel
theorem dX12_asks_118 : decode cX12_asks 118 = .ok (.iadd, 1) := by decide +kernel
theorem dX12_asks_119 : decode cX12_asks 119 = .ok (.iaload, 1) := by decide +kernel
theorem dX12_asks_120 : decode cX12_asks 120 = .ok (.invokevirtual 233, 3) := by decide +kernel
theorem dX12_asks_123 : decode cX12_asks 123 = .ok (.invokevirtual 102, 3) := by decide +kernel
theorem dX12_asks_126 : decode cX12_asks 126 = .ok (.ireturn, 1) := by decide +kernel
theorem dX12_asks_127 : decode cX12_asks 127 = .ok (.aload_n 0, 1) := by decide +kernel
theorem dX12_asks_128 : decode cX12_asks 128 = .ok (.iload_n 1, 1) := by decide +kernel
theorem dX12_asks_129 : decode cX12_asks 129 = .ok (.aload_n 0, 1) := by decide +kernel
theorem dX12_asks_130 : decode cX12_asks 130 = .ok (.getfield 7, 3) := by decide +kernel
theorem dX12_asks_133 : decode cX12_asks 133 = .ok (.aload_n 0, 1) := by decide +kernel
theorem dX12_asks_134 : decode cX12_asks 134 = .ok (.iload_n 2, 1) := by decide +kernel
theorem dX12_asks_135 : decode cX12_asks 135 = .ok (.invokevirtual 109, 3) := by decide +kernel
theorem dX12_asks_138 : decode cX12_asks 138 = .ok (.iconst 0, 1) := by decide +kernel
theorem dX12_asks_139 : decode cX12_asks 139 = .ok (.iadd, 1) := by decide +kernel
theorem dX12_asks_140 : decode cX12_asks 140 = .ok (.iaload, 1) := by decide +kernel
theorem dX12_asks_141 : decode cX12_asks 141 = .ok (.invokevirtual 236, 3) := by decide +kernel
theorem dX12_asks_144 : decode cX12_asks 144 = .ok (.istore 4, 2) := by decide +kernel
theorem dX12_asks_146 : decode cX12_asks 146 = .ok (.iload 4, 2) := by decide +kernel
theorem dX12_asks_148 : decode cX12_asks 148 = .ok (.ifCond .ne 12, 3) := by decide +kernel
theorem dX12_asks_151 : decode cX12_asks 151 = .ok (.aload_n 0, 1) := by decide +kernel
theorem dX12_asks_152 : decode cX12_asks 152 = .ok (.bipush (-9), 2) := by decide +kernel
theorem dX12_asks_154 : decode cX12_asks 154 = .ok (.invokevirtual 92, 3) := by decide +kernel
theorem dX12_asks_157 : decode cX12_asks 157 = .ok (.goto 9, 3) := by decide +kernel
theorem dX12_asks_160 : decode cX12_asks 160 = .ok (.aload_n 0, 1) := by decide +kernel
theorem dX12_asks_161 : decode cX12_asks 161 = .ok (.iload 4, 2) := by decide +kernel
theorem dX12_asks_163 : decode cX12_asks 163 = .ok (.invokevirtual 102, 3) := by decide +kernel
theorem dX12_asks_166 : decode cX12_asks 166 = .ok (.ireturn, 1) := by decide +kernel
theorem dX12_salt_0 : decode cX12_salt 0 = .ok (.aload_n 0, 1) := by decide +kernel
theorem dX12_salt_1 : decode cX12_salt 1 = .ok (.iload_n 1, 1) := by decide +kernel
theorem dX12_salt_2 : decode cX12_salt 2 = .ok (.invokevirtual 197, 3) := by decide +kernel
theorem dX12_salt_5 : decode cX12_salt 5 = .ok (.ifCond .eq 11, 3) := by decide +kernel
theorem dX12_salt_8 : decode cX12_salt 8 = .ok (.aload_n 0, 1) := by decide +kernel
theorem dX12_salt_9 : decode cX12_salt 9 = .ok (.iload_n 2, 1) := by decide +kernel
theorem dX12_salt_10 : decode cX12_salt 10 = .ok (.invokevirtual 112, 3) := by decide +kernel
theorem dX12_salt_13 : decode cX12_salt 13 = .ok (.ifCond .ne 10, 3) := by decide +kernel
theorem dX12_salt_16 : decode cX12_salt 16 = .ok (.aload_n 0, 1) := by decide +kernel
theorem dX12_salt_17 : decode cX12_salt 17 = .ok (.bipush (-2), 2) := by decide +kernel
theorem dX12_salt_19 : decode cX12_salt 19 = .ok (.invokevirtual 92, 3) := by decide +kernel
theorem dX12_salt_22 : decode cX12_salt 22 = .ok (.ireturn, 1) := by decide +kernel
theorem dX12_salt_23 : decode cX12_salt 23 = .ok (.aload_n 0, 1) := by decide +kernel
theorem dX12_salt_24 : decode cX12_salt 24 = .ok (.getfield 7, 3) := by decide +kernel
theorem dX12_salt_27 : decode cX12_salt 27 = .ok (.aload_n 0, 1) := by decide +kernel
theorem dX12_salt_28 : decode cX12_salt 28 = .ok (.iload_n 1, 1) := by decide +kernel
theorem dX12_salt_29 : decode cX12_salt 29 = .ok (.invokevirtual 188, 3) := by decide +kernel
theorem dX12_salt_32 : decode cX12_salt 32 = .ok (.iconst 2, 1) := by decide +kernel
theorem dX12_salt_33 : decode cX12_salt 33 = .ok (.iadd, 1) := by decide +kernel
theorem dX12_salt_34 : decode cX12_salt 34 = .ok (.iaload, 1) := by decide +kernel
theorem dX12_salt_35 : decode cX12_salt 35 = .ok (.iconst 1, 1) := by decide +kernel
theorem dX12_salt_36 : decode cX12_salt 36 = .ok (.if_icmp .ne 10, 3) := by decide +kernel
theorem dX12_salt_39 : decode cX12_salt 39 = .ok (.aload_n 0, 1) := by decide +kernel
theorem dX12_salt_40 : decode cX12_salt 40 = .ok (.bipush (-4), 2) := by decide +kernel
theorem dX12_salt_42 : decode cX12_salt 42 = .ok (.invokevirtual 92, 3) := by decide +kernel
theorem dX12_salt_45 : decode cX12_salt 45 = .ok (.ireturn, 1) := by decide +kernel
theorem dX12_salt_46 : decode cX12_salt 46 = .ok (.aload_n 0, 1) := by decide +kernel
theorem dX12_salt_47 : decode cX12_salt 47 = .ok (.iload_n 1, 1) := by decide +kernel
theorem dX12_salt_48 : decode cX12_salt 48 = .ok (.invokevirtual 206, 3) := by decide +kernel
theorem dX12_salt_51 : decode cX12_salt 51 = .ok (.iconst 2, 1) := by decide +kernel
theorem dX12_salt_52 : decode cX12_salt 52 = .ok (.if_icmp .eq 10, 3) := by decide +kernel
theorem dX12_salt_55 : decode cX12_salt 55 = .ok (.aload_n 0, 1) := by decide +kernel
theorem dX12_salt_56 : decode cX12_salt 56 = .ok (.bipush (-6), 2) := by decide +kernel
theorem dX12_salt_58 : decode cX12_salt 58 = .ok (.invokevirtual 92, 3) := by decide +kernel
theorem dX12_salt_61 : decode cX12_salt 61 = .ok (.ireturn, 1) := by decide +kernel
theorem dX12_salt_62 : decode cX12_salt 62 = .ok (.aload_n 0, 1) := by decide +kernel
theorem dX12_salt_63 : decode cX12_salt 63 = .ok (.invokevirtual 96, 3) := by decide +kernel
theorem dX12_salt_66 : decode cX12_salt 66 = .ok (.aload_n 0, 1) := by decide +kernel
theorem dX12_salt_67 : decode cX12_salt 67 = .ok (.iload_n 2, 1) := by decide +kernel
theorem dX12_salt_68 : decode cX12_salt 68 = .ok (.bipush 50, 2) := by decide +kernel
theorem dX12_salt_70 : decode cX12_salt 70 = .ok (.invokevirtual 184, 3) := by decide +kernel
theorem dX12_salt_73 : decode cX12_salt 73 = .ok (.aload_n 0, 1) := by decide +kernel
theorem dX12_salt_74 : decode cX12_salt 74 = .ok (.aload_n 0, 1) := by decide +kernel
theorem dX12_salt_75 : decode cX12_salt 75 = .ok (.getfield 7, 3) := by decide +kernel
theorem dX12_salt_78 : decode cX12_salt 78 = .ok (.aload_n 0, 1) := by decide +kernel
theorem dX12_salt_79 : decode cX12_salt 79 = .ok (.iload_n 2, 1) := by decide +kernel
theorem dX12_salt_80 : decode cX12_salt 80 = .ok (.invokevirtual 109, 3) := by decide +kernel
theorem dX12_salt_83 : decode cX12_salt 83 = .ok (.iconst 0, 1) := by decide +kernel
theorem dX12_salt_84 : decode cX12_salt 84 = .ok (.iadd, 1) := by decide +kernel
theorem dX12_salt_85 : decode cX12_salt 85 = .ok (.iaload, 1) := by decide +kernel
theorem dX12_salt_86 : decode cX12_salt 86 = .ok (.invokevirtual 102, 3) := by decide +kernel
theorem dX12_salt_89 : decode cX12_salt 89 = .ok (.ireturn, 1) := by decide +kernel
theorem dX12_odd_0 : decode cX12_odd 0 = .ok (.aload_n 0, 1) := by decide +kernel
theorem dX12_odd_1 : decode cX12_odd 1 = .ok (.invokevirtual 245, 3) := by decide +kernel
theorem dX12_odd_4 : decode cX12_odd 4 = .ok (.aload_n 0, 1) := by decide +kernel
theorem dX12_odd_5 : decode cX12_odd 5 = .ok (.invokevirtual 248, 3) := by decide +kernel
theorem dX12_odd_8 : decode cX12_odd 8 = .ok (.aload_n 0, 1) := by decide +kernel
theorem dX12_odd_9 : decode cX12_odd 9 = .ok (.iload_n 1, 1) := by decide +kernel
theorem dX12_odd_10 : decode cX12_odd 10 = .ok (.iconst 0, 1) := by decide +kernel
theorem dX12_odd_11 : decode cX12_odd 11 = .ok (.aload_n 0, 1) := by decide +kernel
theorem dX12_odd_12 : decode cX12_odd 12 = .ok (.getfield 242, 3) := by decide +kernel
theorem dX12_odd_15 : decode cX12_odd 15 = .ok (.iconst 1, 1) := by decide +kernel
theorem dX12_odd_16 : decode cX12_odd 16 = .ok (.isub, 1) := by decide +kernel
theorem dX12_odd_17 : decode cX12_odd 17 = .ok (.invokestatic 88, 3) := by decide +kernel
theorem dX12_odd_20 : decode cX12_odd 20 = .ok (.ifCond .eq 12, 3) := by decide +kernel
theorem dX12_odd_23 : decode cX12_odd 23 = .ok (.aload_n 0, 1) := by decide +kernel
theorem dX12_odd_24 : decode cX12_odd 24 = .ok (.getfield 40, 3) := by decide +kernel
theorem dX12_odd_27 : decode cX12_odd 27 = .ok (.iload_n 1, 1) := by decide +kernel
theorem dX12_odd_28 : decode cX12_odd 28 = .ok (.iaload, 1) := by decide +kernel
theorem dX12_odd_29 : decode cX12_odd 29 = .ok (.goto 4, 3) := by decide +kernel
theorem dX12_odd_32 : decode cX12_odd 32 = .ok (.iconst (-1), 1) := by decide +kernel
theorem dX12_odd_33 : decode cX12_odd 33 = .ok (.invokevirtual 102, 3) := by decide +kernel
theorem dX12_odd_36 : decode cX12_odd 36 = .ok (.ireturn, 1) := by decide +kernel
theorem dX12_beginTimes_0 : decode cX12_beginTimes 0 = .ok (.iconst 0, 1) := by decide +kernel
theorem dX12_beginTimes_1 : decode cX12_beginTimes 1 = .ok (.istore_n 1, 1) := by decide +kernel
theorem dX12_beginTimes_2 : decode cX12_beginTimes 2 = .ok (.iload_n 1, 1) := by decide +kernel
theorem dX12_beginTimes_3 : decode cX12_beginTimes 3 = .ok (.aload_n 0, 1) := by decide +kernel
theorem dX12_beginTimes_4 : decode cX12_beginTimes 4 = .ok (.getfield 7, 3) := by decide +kernel
theorem dX12_beginTimes_7 : decode cX12_beginTimes 7 = .ok (.iconst 1, 1) := by decide +kernel
theorem dX12_beginTimes_8 : decode cX12_beginTimes 8 = .ok (.iaload, 1) := by decide +kernel
theorem dX12_beginTimes_9 : decode cX12_beginTimes 9 = .ok (.if_icmp .ge 39, 3) := by decide +kernel
theorem dX12_beginTimes_12 : decode cX12_beginTimes 12 = .ok (.aload_n 0, 1) := by decide +kernel
theorem dX12_beginTimes_13 : decode cX12_beginTimes 13 = .ok (.getfield 37, 3) := by decide +kernel
theorem dX12_beginTimes_16 : decode cX12_beginTimes 16 = .ok (.iload_n 1, 1) := by decide +kernel
theorem dX12_beginTimes_17 : decode cX12_beginTimes 17 = .ok (.aload_n 0, 1) := by decide +kernel
theorem dX12_beginTimes_18 : decode cX12_beginTimes 18 = .ok (.iload_n 1, 1) := by decide +kernel
theorem dX12_beginTimes_19 : decode cX12_beginTimes 19 = .ok (.invokevirtual 239, 3) := by decide +kernel
theorem dX12_beginTimes_22 : decode cX12_beginTimes 22 = .ok (.ifCond .eq 18, 3) := by decide +kernel
theorem dX12_beginTimes_25 : decode cX12_beginTimes 25 = .ok (.aload_n 0, 1) := by decide +kernel
theorem dX12_beginTimes_26 : decode cX12_beginTimes 26 = .ok (.getfield 7, 3) := by decide +kernel
theorem dX12_beginTimes_29 : decode cX12_beginTimes 29 = .ok (.aload_n 0, 1) := by decide +kernel
theorem dX12_beginTimes_30 : decode cX12_beginTimes 30 = .ok (.iload_n 1, 1) := by decide +kernel
theorem dX12_beginTimes_31 : decode cX12_beginTimes 31 = .ok (.invokevirtual 109, 3) := by decide +kernel
theorem dX12_beginTimes_34 : decode cX12_beginTimes 34 = .ok (.iconst 3, 1) := by decide +kernel
theorem dX12_beginTimes_35 : decode cX12_beginTimes 35 = .ok (.iadd, 1) := by decide +kernel
theorem dX12_beginTimes_36 : decode cX12_beginTimes 36 = .ok (.iaload, 1) := by decide +kernel
theorem dX12_beginTimes_37 : decode cX12_beginTimes 37 = .ok (.goto 4, 3) := by decide +kernel
theorem dX12_beginTimes_40 : decode cX12_beginTimes 40 = .ok (.iconst 0, 1) := by decide +kernel
theorem dX12_beginTimes_41 : decode cX12_beginTimes 41 = .ok (.iastore, 1) := by decide +kernel
theorem dX12_beginTimes_42 : decode cX12_beginTimes 42 = .ok (.iinc 1 1, 3) := by decide +kernel
theorem dX12_beginTimes_45 : decode cX12_beginTimes 45 = .ok (.goto (-43), 3) := by decide +kernel
theorem dX12_beginTimes_48 : decode cX12_beginTimes 48 = .ok (.return_, 1) := by decide +kernel
theorem dX12_findOdd_0 : decode cX12_findOdd 0 = .ok (.aload_n 0, 1) := by decide +kernel
theorem dX12_findOdd_1 : decode cX12_findOdd 1 = .ok (.iconst 0, 1) := by decide +kernel
theorem dX12_findOdd_2 : decode cX12_findOdd 2 = .ok (.putfield 242, 3) := by decide +kernel
theorem dX12_findOdd_5 : decode cX12_findOdd 5 = .ok (.iconst 0, 1) := by decide +kernel
theorem dX12_findOdd_6 : decode cX12_findOdd 6 = .ok (.istore_n 1, 1) := by decide +kernel
theorem dX12_findOdd_7 : decode cX12_findOdd 7 = .ok (.iload_n 1, 1) := by decide +kernel
theorem dX12_findOdd_8 : decode cX12_findOdd 8 = .ok (.aload_n 0, 1) := by decide +kernel
theorem dX12_findOdd_9 : decode cX12_findOdd 9 = .ok (.getfield 7, 3) := by decide +kernel
theorem dX12_findOdd_12 : decode cX12_findOdd 12 = .ok (.iconst 0, 1) := by decide +kernel
theorem dX12_findOdd_13 : decode cX12_findOdd 13 = .ok (.iaload, 1) := by decide +kernel
theorem dX12_findOdd_14 : decode cX12_findOdd 14 = .ok (.if_icmp .ge 104, 3) := by decide +kernel
theorem dX12_findOdd_17 : decode cX12_findOdd 17 = .ok (.iconst 0, 1) := by decide +kernel
theorem dX12_findOdd_18 : decode cX12_findOdd 18 = .ok (.istore_n 2, 1) := by decide +kernel
theorem dX12_findOdd_19 : decode cX12_findOdd 19 = .ok (.iconst 0, 1) := by decide +kernel
theorem dX12_findOdd_20 : decode cX12_findOdd 20 = .ok (.istore_n 3, 1) := by decide +kernel
theorem dX12_findOdd_21 : decode cX12_findOdd 21 = .ok (.iload_n 3, 1) := by decide +kernel
theorem dX12_findOdd_22 : decode cX12_findOdd 22 = .ok (.aload_n 0, 1) := by decide +kernel
theorem dX12_findOdd_23 : decode cX12_findOdd 23 = .ok (.getfield 7, 3) := by decide +kernel
theorem dX12_findOdd_26 : decode cX12_findOdd 26 = .ok (.iconst 1, 1) := by decide +kernel
theorem dX12_findOdd_27 : decode cX12_findOdd 27 = .ok (.iaload, 1) := by decide +kernel
theorem dX12_findOdd_28 : decode cX12_findOdd 28 = .ok (.if_icmp .ge 57, 3) := by decide +kernel
theorem dX12_findOdd_31 : decode cX12_findOdd 31 = .ok (.aload_n 0, 1) := by decide +kernel
theorem dX12_findOdd_32 : decode cX12_findOdd 32 = .ok (.iload_n 3, 1) := by decide +kernel
theorem dX12_findOdd_33 : decode cX12_findOdd 33 = .ok (.invokevirtual 109, 3) := by decide +kernel
theorem dX12_findOdd_36 : decode cX12_findOdd 36 = .ok (.istore 4, 2) := by decide +kernel
theorem dX12_findOdd_38 : decode cX12_findOdd 38 = .ok (.iload_n 2, 1) := by decide +kernel
theorem dX12_findOdd_39 : decode cX12_findOdd 39 = .ok (.aload_n 0, 1) := by decide +kernel
theorem dX12_findOdd_40 : decode cX12_findOdd 40 = .ok (.getfield 7, 3) := by decide +kernel
theorem dX12_findOdd_43 : decode cX12_findOdd 43 = .ok (.iload 4, 2) := by decide +kernel
theorem dX12_findOdd_45 : decode cX12_findOdd 45 = .ok (.bipush 7, 2) := by decide +kernel
theorem dX12_findOdd_47 : decode cX12_findOdd 47 = .ok (.iadd, 1) := by decide +kernel
theorem dX12_findOdd_48 : decode cX12_findOdd 48 = .ok (.iaload, 1) := by decide +kernel
theorem dX12_findOdd_49 : decode cX12_findOdd 49 = .ok (.iload_n 1, 1) := by decide +kernel
theorem dX12_findOdd_50 : decode cX12_findOdd 50 = .ok (.if_icmp .eq 17, 3) := by decide +kernel
theorem dX12_findOdd_53 : decode cX12_findOdd 53 = .ok (.aload_n 0, 1) := by decide +kernel
theorem dX12_findOdd_54 : decode cX12_findOdd 54 = .ok (.getfield 7, 3) := by decide +kernel
theorem dX12_findOdd_57 : decode cX12_findOdd 57 = .ok (.iload 4, 2) := by decide +kernel
theorem dX12_findOdd_59 : decode cX12_findOdd 59 = .ok (.bipush 8, 2) := by decide +kernel
theorem dX12_findOdd_61 : decode cX12_findOdd 61 = .ok (.iadd, 1) := by decide +kernel
theorem dX12_findOdd_62 : decode cX12_findOdd 62 = .ok (.iaload, 1) := by decide +kernel
theorem dX12_findOdd_63 : decode cX12_findOdd 63 = .ok (.iload_n 1, 1) := by decide +kernel
theorem dX12_findOdd_64 : decode cX12_findOdd 64 = .ok (.if_icmp .ne 12, 3) := by decide +kernel
theorem dX12_findOdd_67 : decode cX12_findOdd 67 = .ok (.aload_n 0, 1) := by decide +kernel
theorem dX12_findOdd_68 : decode cX12_findOdd 68 = .ok (.getfield 37, 3) := by decide +kernel
theorem dX12_findOdd_71 : decode cX12_findOdd 71 = .ok (.iload_n 3, 1) := by decide +kernel
theorem dX12_findOdd_72 : decode cX12_findOdd 72 = .ok (.iaload, 1) := by decide +kernel
theorem dX12_findOdd_73 : decode cX12_findOdd 73 = .ok (.goto 4, 3) := by decide +kernel
theorem dX12_findOdd_76 : decode cX12_findOdd 76 = .ok (.iconst 0, 1) := by decide +kernel
theorem dX12_findOdd_77 : decode cX12_findOdd 77 = .ok (.iadd, 1) := by decide +kernel
theorem dX12_findOdd_78 : decode cX12_findOdd 78 = .ok (.istore_n 2, 1) := by decide +kernel
theorem dX12_findOdd_79 : decode cX12_findOdd 79 = .ok (.iinc 3 1, 3) := by decide +kernel
theorem dX12_findOdd_82 : decode cX12_findOdd 82 = .ok (.goto (-61), 3) := by decide +kernel
theorem dX12_findOdd_85 : decode cX12_findOdd 85 = .ok (.iload_n 2, 1) := by decide +kernel
theorem dX12_findOdd_86 : decode cX12_findOdd 86 = .ok (.iconst 2, 1) := by decide +kernel
theorem dX12_findOdd_87 : decode cX12_findOdd 87 = .ok (.irem, 1) := by decide +kernel
theorem dX12_findOdd_88 : decode cX12_findOdd 88 = .ok (.iconst 1, 1) := by decide +kernel
theorem dX12_findOdd_89 : decode cX12_findOdd 89 = .ok (.if_icmp .ne 23, 3) := by decide +kernel
theorem dX12_findOdd_92 : decode cX12_findOdd 92 = .ok (.aload_n 0, 1) := by decide +kernel
theorem dX12_findOdd_93 : decode cX12_findOdd 93 = .ok (.getfield 40, 3) := by decide +kernel
theorem dX12_findOdd_96 : decode cX12_findOdd 96 = .ok (.aload_n 0, 1) := by decide +kernel
theorem dX12_findOdd_97 : decode cX12_findOdd 97 = .ok (.getfield 242, 3) := by decide +kernel
theorem dX12_findOdd_100 : decode cX12_findOdd 100 = .ok (.iload_n 1, 1) := by decide +kernel
theorem dX12_findOdd_101 : decode cX12_findOdd 101 = .ok (.iastore, 1) := by decide +kernel
theorem dX12_findOdd_102 : decode cX12_findOdd 102 = .ok (.aload_n 0, 1) := by decide +kernel
theorem dX12_findOdd_103 : decode cX12_findOdd 103 = .ok (.dup, 1) := by decide +kernel
theorem dX12_findOdd_104 : decode cX12_findOdd 104 = .ok (.getfield 242, 3) := by decide +kernel
theorem dX12_findOdd_107 : decode cX12_findOdd 107 = .ok (.iconst 1, 1) := by decide +kernel
theorem dX12_findOdd_108 : decode cX12_findOdd 108 = .ok (.iadd, 1) := by decide +kernel
theorem dX12_findOdd_109 : decode cX12_findOdd 109 = .ok (.putfield 242, 3) := by decide +kernel
theorem dX12_findOdd_112 : decode cX12_findOdd 112 = .ok (.iinc 1 1, 3) := by decide +kernel
theorem dX12_findOdd_115 : decode cX12_findOdd 115 = .ok (.goto (-108), 3) := by decide +kernel
theorem dX12_findOdd_118 : decode cX12_findOdd 118 = .ok (.return_, 1) := by decide +kernel
theorem dX12_least_0 : decode cX12_least 0 = .ok (.aload_n 0, 1) := by decide +kernel
theorem dX12_least_1 : decode cX12_least 1 = .ok (.invokevirtual 245, 3) := by decide +kernel
theorem dX12_least_4 : decode cX12_least 4 = .ok (.aload_n 0, 1) := by decide +kernel
theorem dX12_least_5 : decode cX12_least 5 = .ok (.invokevirtual 248, 3) := by decide +kernel
theorem dX12_least_8 : decode cX12_least 8 = .ok (.aload_n 0, 1) := by decide +kernel
theorem dX12_least_9 : decode cX12_least 9 = .ok (.getfield 242, 3) := by decide +kernel
theorem dX12_least_12 : decode cX12_least 12 = .ok (.bipush 14, 2) := by decide +kernel
theorem dX12_least_14 : decode cX12_least 14 = .ok (.if_icmp .gt 26, 3) := by decide +kernel
theorem dX12_least_17 : decode cX12_least 17 = .ok (.iload_n 1, 1) := by decide +kernel
theorem dX12_least_18 : decode cX12_least 18 = .ok (.iconst 0, 1) := by decide +kernel
theorem dX12_least_19 : decode cX12_least 19 = .ok (.iconst 1, 1) := by decide +kernel
theorem dX12_least_20 : decode cX12_least 20 = .ok (.aload_n 0, 1) := by decide +kernel
theorem dX12_least_21 : decode cX12_least 21 = .ok (.getfield 242, 3) := by decide +kernel
theorem dX12_least_24 : decode cX12_least 24 = .ok (.ishl, 1) := by decide +kernel
theorem dX12_least_25 : decode cX12_least 25 = .ok (.iconst 1, 1) := by decide +kernel
theorem dX12_least_26 : decode cX12_least 26 = .ok (.isub, 1) := by decide +kernel
theorem dX12_least_27 : decode cX12_least 27 = .ok (.invokestatic 88, 3) := by decide +kernel
theorem dX12_least_30 : decode cX12_least 30 = .ok (.ifCond .eq 10, 3) := by decide +kernel
theorem dX12_least_33 : decode cX12_least 33 = .ok (.aload_n 0, 1) := by decide +kernel
theorem dX12_least_34 : decode cX12_least 34 = .ok (.invokevirtual 260, 3) := by decide +kernel
theorem dX12_least_37 : decode cX12_least 37 = .ok (.ifCond .eq 10, 3) := by decide +kernel
theorem dX12_least_40 : decode cX12_least 40 = .ok (.aload_n 0, 1) := by decide +kernel
theorem dX12_least_41 : decode cX12_least 41 = .ok (.bipush (-2), 2) := by decide +kernel
theorem dX12_least_43 : decode cX12_least 43 = .ok (.invokevirtual 92, 3) := by decide +kernel
theorem dX12_least_46 : decode cX12_least 46 = .ok (.ireturn, 1) := by decide +kernel
theorem dX12_least_47 : decode cX12_least 47 = .ok (.aload_n 0, 1) := by decide +kernel
theorem dX12_least_48 : decode cX12_least 48 = .ok (.invokevirtual 134, 3) := by decide +kernel
theorem dX12_least_51 : decode cX12_least 51 = .ok (.aload_n 0, 1) := by decide +kernel
theorem dX12_least_52 : decode cX12_least 52 = .ok (.iload_n 1, 1) := by decide +kernel
theorem dX12_least_53 : decode cX12_least 53 = .ok (.invokevirtual 264, 3) := by decide +kernel
theorem dX12_least_56 : decode cX12_least 56 = .ok (.aload_n 0, 1) := by decide +kernel
theorem dX12_least_57 : decode cX12_least 57 = .ok (.getfield 46, 3) := by decide +kernel
theorem dX12_least_60 : decode cX12_least 60 = .ok (.iload_n 1, 1) := by decide +kernel
theorem dX12_least_61 : decode cX12_least 61 = .ok (.iaload, 1) := by decide +kernel
theorem dX12_least_62 : decode cX12_least 62 = .ok (.ldc 125, 2) := by decide +kernel
theorem dX12_least_64 : decode cX12_least 64 = .ok (.if_icmp .lt 12, 3) := by decide +kernel
theorem dX12_least_67 : decode cX12_least 67 = .ok (.aload_n 0, 1) := by decide +kernel
theorem dX12_least_68 : decode cX12_least 68 = .ok (.bipush (-8), 2) := by decide +kernel
theorem dX12_least_70 : decode cX12_least 70 = .ok (.invokevirtual 92, 3) := by decide +kernel
theorem dX12_least_73 : decode cX12_least 73 = .ok (.goto 13, 3) := by decide +kernel
theorem dX12_least_76 : decode cX12_least 76 = .ok (.aload_n 0, 1) := by decide +kernel
theorem dX12_least_77 : decode cX12_least 77 = .ok (.aload_n 0, 1) := by decide +kernel
theorem dX12_least_78 : decode cX12_least 78 = .ok (.getfield 46, 3) := by decide +kernel
theorem dX12_least_81 : decode cX12_least 81 = .ok (.iload_n 1, 1) := by decide +kernel
theorem dX12_least_82 : decode cX12_least 82 = .ok (.iaload, 1) := by decide +kernel
theorem dX12_least_83 : decode cX12_least 83 = .ok (.invokevirtual 102, 3) := by decide +kernel
theorem dX12_least_86 : decode cX12_least 86 = .ok (.ireturn, 1) := by decide +kernel
theorem dX12_isOneWay_0 : decode cX12_isOneWay 0 = .ok (.iconst 0, 1) := by decide +kernel
theorem dX12_isOneWay_1 : decode cX12_isOneWay 1 = .ok (.istore_n 1, 1) := by decide +kernel
theorem dX12_isOneWay_2 : decode cX12_isOneWay 2 = .ok (.iconst 0, 1) := by decide +kernel
theorem dX12_isOneWay_3 : decode cX12_isOneWay 3 = .ok (.istore_n 2, 1) := by decide +kernel
theorem dX12_isOneWay_4 : decode cX12_isOneWay 4 = .ok (.iload_n 2, 1) := by decide +kernel
theorem dX12_isOneWay_5 : decode cX12_isOneWay 5 = .ok (.aload_n 0, 1) := by decide +kernel
theorem dX12_isOneWay_6 : decode cX12_isOneWay 6 = .ok (.getfield 7, 3) := by decide +kernel
theorem dX12_isOneWay_9 : decode cX12_isOneWay 9 = .ok (.iconst 1, 1) := by decide +kernel
theorem dX12_isOneWay_10 : decode cX12_isOneWay 10 = .ok (.iaload, 1) := by decide +kernel
theorem dX12_isOneWay_11 : decode cX12_isOneWay 11 = .ok (.if_icmp .ge 43, 3) := by decide +kernel
theorem dX12_isOneWay_14 : decode cX12_isOneWay 14 = .ok (.iload_n 1, 1) := by decide +kernel
theorem dX12_isOneWay_15 : decode cX12_isOneWay 15 = .ok (.ifCond .ne 27, 3) := by decide +kernel
theorem dX12_isOneWay_18 : decode cX12_isOneWay 18 = .ok (.aload_n 0, 1) := by decide +kernel
theorem dX12_isOneWay_19 : decode cX12_isOneWay 19 = .ok (.iload_n 2, 1) := by decide +kernel
theorem dX12_isOneWay_20 : decode cX12_isOneWay 20 = .ok (.invokevirtual 119, 3) := by decide +kernel
theorem dX12_isOneWay_23 : decode cX12_isOneWay 23 = .ok (.ifCond .eq 23, 3) := by decide +kernel
theorem dX12_isOneWay_26 : decode cX12_isOneWay 26 = .ok (.aload_n 0, 1) := by decide +kernel
theorem dX12_isOneWay_27 : decode cX12_isOneWay 27 = .ok (.getfield 7, 3) := by decide +kernel
theorem dX12_isOneWay_30 : decode cX12_isOneWay 30 = .ok (.aload_n 0, 1) := by decide +kernel
theorem dX12_isOneWay_31 : decode cX12_isOneWay 31 = .ok (.iload_n 2, 1) := by decide +kernel
theorem dX12_isOneWay_32 : decode cX12_isOneWay 32 = .ok (.invokevirtual 109, 3) := by decide +kernel
theorem dX12_isOneWay_35 : decode cX12_isOneWay 35 = .ok (.iconst 5, 1) := by decide +kernel
theorem dX12_isOneWay_36 : decode cX12_isOneWay 36 = .ok (.iadd, 1) := by decide +kernel
theorem dX12_isOneWay_37 : decode cX12_isOneWay 37 = .ok (.iaload, 1) := by decide +kernel
theorem dX12_isOneWay_38 : decode cX12_isOneWay 38 = .ok (.iconst 1, 1) := by decide +kernel
theorem dX12_isOneWay_39 : decode cX12_isOneWay 39 = .ok (.if_icmp .ne 7, 3) := by decide +kernel
theorem dX12_isOneWay_42 : decode cX12_isOneWay 42 = .ok (.iconst 1, 1) := by decide +kernel
theorem dX12_isOneWay_43 : decode cX12_isOneWay 43 = .ok (.goto 4, 3) := by decide +kernel
theorem dX12_isOneWay_46 : decode cX12_isOneWay 46 = .ok (.iconst 0, 1) := by decide +kernel
theorem dX12_isOneWay_47 : decode cX12_isOneWay 47 = .ok (.istore_n 1, 1) := by decide +kernel
theorem dX12_isOneWay_48 : decode cX12_isOneWay 48 = .ok (.iinc 2 1, 3) := by decide +kernel
theorem dX12_isOneWay_51 : decode cX12_isOneWay 51 = .ok (.goto (-47), 3) := by decide +kernel
theorem dX12_isOneWay_54 : decode cX12_isOneWay 54 = .ok (.iload_n 1, 1) := by decide +kernel
theorem dX12_isOneWay_55 : decode cX12_isOneWay 55 = .ok (.ireturn, 1) := by decide +kernel
theorem dX12_reckon_0 : decode cX12_reckon 0 = .ok (.aload_n 0, 1) := by decide +kernel
theorem dX12_reckon_1 : decode cX12_reckon 1 = .ok (.getfield 99, 3) := by decide +kernel
theorem dX12_reckon_4 : decode cX12_reckon 4 = .ok (.ifCond .ne 31, 3) := by decide +kernel
theorem dX12_reckon_7 : decode cX12_reckon 7 = .ok (.iconst 0, 1) := by decide +kernel
theorem dX12_reckon_8 : decode cX12_reckon 8 = .ok (.istore_n 1, 1) := by decide +kernel
theorem dX12_reckon_9 : decode cX12_reckon 9 = .ok (.iload_n 1, 1) := by decide +kernel
theorem dX12_reckon_10 : decode cX12_reckon 10 = .ok (.aload_n 0, 1) := by decide +kernel
theorem dX12_reckon_11 : decode cX12_reckon 11 = .ok (.getfield 7, 3) := by decide +kernel
theorem dX12_reckon_14 : decode cX12_reckon 14 = .ok (.iconst 0, 1) := by decide +kernel
theorem dX12_reckon_15 : decode cX12_reckon 15 = .ok (.iaload, 1) := by decide +kernel
theorem dX12_reckon_16 : decode cX12_reckon 16 = .ok (.if_icmp .ge 14, 3) := by decide +kernel
theorem dX12_reckon_19 : decode cX12_reckon 19 = .ok (.aload_n 0, 1) := by decide +kernel
theorem dX12_reckon_20 : decode cX12_reckon 20 = .ok (.iload_n 1, 1) := by decide +kernel
theorem dX12_reckon_21 : decode cX12_reckon 21 = .ok (.invokevirtual 122, 3) := by decide +kernel
theorem dX12_reckon_24 : decode cX12_reckon 24 = .ok (.iinc 1 1, 3) := by decide +kernel
theorem dX12_reckon_27 : decode cX12_reckon 27 = .ok (.goto (-18), 3) := by decide +kernel
theorem dX12_reckon_30 : decode cX12_reckon 30 = .ok (.aload_n 0, 1) := by decide +kernel
theorem dX12_reckon_31 : decode cX12_reckon 31 = .ok (.iconst 1, 1) := by decide +kernel
theorem dX12_reckon_32 : decode cX12_reckon 32 = .ok (.putfield 99, 3) := by decide +kernel
theorem dX12_reckon_35 : decode cX12_reckon 35 = .ok (.return_, 1) := by decide +kernel
theorem dX12_findLeast_0 : decode cX12_findLeast 0 = .ok (.aload_n 0, 1) := by decide +kernel
theorem dX12_findLeast_1 : decode cX12_findLeast 1 = .ok (.getfield 46, 3) := by decide +kernel
theorem dX12_findLeast_4 : decode cX12_findLeast 4 = .ok (.iconst 0, 1) := by decide +kernel
theorem dX12_findLeast_5 : decode cX12_findLeast 5 = .ok (.iconst 0, 1) := by decide +kernel
theorem dX12_findLeast_6 : decode cX12_findLeast 6 = .ok (.iastore, 1) := by decide +kernel
theorem dX12_findLeast_7 : decode cX12_findLeast 7 = .ok (.iconst 1, 1) := by decide +kernel
theorem dX12_findLeast_8 : decode cX12_findLeast 8 = .ok (.istore_n 2, 1) := by decide +kernel
theorem dX12_findLeast_9 : decode cX12_findLeast 9 = .ok (.iload_n 2, 1) := by decide +kernel
theorem dX12_findLeast_10 : decode cX12_findLeast 10 = .ok (.iload_n 1, 1) := by decide +kernel
theorem dX12_findLeast_11 : decode cX12_findLeast 11 = .ok (.if_icmp .gt 21, 3) := by decide +kernel
theorem dX12_findLeast_14 : decode cX12_findLeast 14 = .ok (.iload_n 2, 1) := by decide +kernel
theorem dX12_findLeast_15 : decode cX12_findLeast 15 = .ok (.iload_n 1, 1) := by decide +kernel
theorem dX12_findLeast_16 : decode cX12_findLeast 16 = .ok (.iand, 1) := by decide +kernel
theorem dX12_findLeast_17 : decode cX12_findLeast 17 = .ok (.iload_n 2, 1) := by decide +kernel
theorem dX12_findLeast_18 : decode cX12_findLeast 18 = .ok (.if_icmp .ne 8, 3) := by decide +kernel
theorem dX12_findLeast_21 : decode cX12_findLeast 21 = .ok (.aload_n 0, 1) := by decide +kernel
theorem dX12_findLeast_22 : decode cX12_findLeast 22 = .ok (.iload_n 2, 1) := by decide +kernel
theorem dX12_findLeast_23 : decode cX12_findLeast 23 = .ok (.invokevirtual 251, 3) := by decide +kernel
theorem dX12_findLeast_26 : decode cX12_findLeast 26 = .ok (.iinc 2 1, 3) := by decide +kernel
theorem dX12_findLeast_29 : decode cX12_findLeast 29 = .ok (.goto (-20), 3) := by decide +kernel
theorem dX12_findLeast_32 : decode cX12_findLeast 32 = .ok (.return_, 1) := by decide +kernel
theorem dX12_round_0 : decode cX12_round 0 = .ok (.aload_n 0, 1) := by decide +kernel
theorem dX12_round_1 : decode cX12_round 1 = .ok (.invokevirtual 134, 3) := by decide +kernel
theorem dX12_round_4 : decode cX12_round 4 = .ok (.aload_n 0, 1) := by decide +kernel
theorem dX12_round_5 : decode cX12_round 5 = .ok (.iconst 0, 1) := by decide +kernel
theorem dX12_round_6 : decode cX12_round 6 = .ok (.putfield 267, 3) := by decide +kernel
theorem dX12_round_9 : decode cX12_round 9 = .ok (.aload_n 0, 1) := by decide +kernel
theorem dX12_round_10 : decode cX12_round 10 = .ok (.iconst 0, 1) := by decide +kernel
theorem dX12_round_11 : decode cX12_round 11 = .ok (.putfield 291, 3) := by decide +kernel
theorem dX12_round_14 : decode cX12_round 14 = .ok (.aload_n 0, 1) := by decide +kernel
theorem dX12_round_15 : decode cX12_round 15 = .ok (.iconst 0, 1) := by decide +kernel
theorem dX12_round_16 : decode cX12_round 16 = .ok (.putfield 285, 3) := by decide +kernel
theorem dX12_round_19 : decode cX12_round 19 = .ok (.aload_n 0, 1) := by decide +kernel
theorem dX12_round_20 : decode cX12_round 20 = .ok (.iconst 0, 1) := by decide +kernel
theorem dX12_round_21 : decode cX12_round 21 = .ok (.putfield 297, 3) := by decide +kernel
theorem dX12_round_24 : decode cX12_round 24 = .ok (.iconst 0, 1) := by decide +kernel
theorem dX12_round_25 : decode cX12_round 25 = .ok (.istore_n 1, 1) := by decide +kernel
theorem dX12_round_26 : decode cX12_round 26 = .ok (.iload_n 1, 1) := by decide +kernel
theorem dX12_round_27 : decode cX12_round 27 = .ok (.sipush 150, 3) := by decide +kernel
theorem dX12_round_30 : decode cX12_round 30 = .ok (.if_icmp .ge 16, 3) := by decide +kernel
theorem dX12_round_33 : decode cX12_round 33 = .ok (.aload_n 0, 1) := by decide +kernel
theorem dX12_round_34 : decode cX12_round 34 = .ok (.getfield 64, 3) := by decide +kernel
theorem dX12_round_37 : decode cX12_round 37 = .ok (.iload_n 1, 1) := by decide +kernel
theorem dX12_round_38 : decode cX12_round 38 = .ok (.iconst 0, 1) := by decide +kernel
theorem dX12_round_39 : decode cX12_round 39 = .ok (.iastore, 1) := by decide +kernel
theorem dX12_round_40 : decode cX12_round 40 = .ok (.iinc 1 1, 3) := by decide +kernel
theorem dX12_round_43 : decode cX12_round 43 = .ok (.goto (-17), 3) := by decide +kernel
theorem dX12_round_46 : decode cX12_round 46 = .ok (.aload_n 0, 1) := by decide +kernel
theorem dX12_round_47 : decode cX12_round 47 = .ok (.invokevirtual 260, 3) := by decide +kernel
theorem dX12_round_50 : decode cX12_round 50 = .ok (.istore_n 1, 1) := by decide +kernel
theorem dX12_round_51 : decode cX12_round 51 = .ok (.iload_n 1, 1) := by decide +kernel
theorem dX12_round_52 : decode cX12_round 52 = .ok (.ifCond .eq 10, 3) := by decide +kernel
theorem dX12_round_55 : decode cX12_round 55 = .ok (.aload_n 0, 1) := by decide +kernel
theorem dX12_round_56 : decode cX12_round 56 = .ok (.invokevirtual 322, 3) := by decide +kernel
theorem dX12_round_59 : decode cX12_round 59 = .ok (.goto 7, 3) := by decide +kernel
theorem dX12_round_62 : decode cX12_round 62 = .ok (.aload_n 0, 1) := by decide +kernel
theorem dX12_round_63 : decode cX12_round 63 = .ok (.invokevirtual 326, 3) := by decide +kernel
theorem dX12_round_66 : decode cX12_round 66 = .ok (.istore_n 2, 1) := by decide +kernel
theorem dX12_round_67 : decode cX12_round 67 = .ok (.iload_n 2, 1) := by decide +kernel
theorem dX12_round_68 : decode cX12_round 68 = .ok (.ifCond .eq 9, 3) := by decide +kernel
theorem dX12_round_71 : decode cX12_round 71 = .ok (.aload_n 0, 1) := by decide +kernel
theorem dX12_round_72 : decode cX12_round 72 = .ok (.iload_n 2, 1) := by decide +kernel
theorem dX12_round_73 : decode cX12_round 73 = .ok (.invokevirtual 92, 3) := by decide +kernel
theorem dX12_round_76 : decode cX12_round 76 = .ok (.ireturn, 1) := by decide +kernel
theorem dX12_round_77 : decode cX12_round 77 = .ok (.aload_n 0, 1) := by decide +kernel
theorem dX12_round_78 : decode cX12_round 78 = .ok (.invokevirtual 96, 3) := by decide +kernel
theorem dX12_round_81 : decode cX12_round 81 = .ok (.aload_n 0, 1) := by decide +kernel
theorem dX12_round_82 : decode cX12_round 82 = .ok (.getfield 7, 3) := by decide +kernel
theorem dX12_round_85 : decode cX12_round 85 = .ok (.iconst 4, 1) := by decide +kernel
theorem dX12_round_86 : decode cX12_round 86 = .ok (.aload_n 0, 1) := by decide +kernel
theorem dX12_round_87 : decode cX12_round 87 = .ok (.getfield 297, 3) := by decide +kernel
theorem dX12_round_90 : decode cX12_round 90 = .ok (.iastore, 1) := by decide +kernel
theorem dX12_round_91 : decode cX12_round 91 = .ok (.aload_n 0, 1) := by decide +kernel
theorem dX12_round_92 : decode cX12_round 92 = .ok (.getfield 7, 3) := by decide +kernel
theorem dX12_round_95 : decode cX12_round 95 = .ok (.iconst 5, 1) := by decide +kernel
theorem dX12_round_96 : decode cX12_round 96 = .ok (.iload_n 1, 1) := by decide +kernel
theorem dX12_round_97 : decode cX12_round 97 = .ok (.ifCond .eq 7, 3) := by decide +kernel
theorem dX12_round_100 : decode cX12_round 100 = .ok (.iconst 2, 1) := by decide +kernel
theorem dX12_round_101 : decode cX12_round 101 = .ok (.goto 4, 3) := by decide +kernel
theorem dX12_round_104 : decode cX12_round 104 = .ok (.iconst 1, 1) := by decide +kernel
theorem dX12_round_105 : decode cX12_round 105 = .ok (.iastore, 1) := by decide +kernel
theorem dX12_round_106 : decode cX12_round 106 = .ok (.aload_n 0, 1) := by decide +kernel
theorem dX12_round_107 : decode cX12_round 107 = .ok (.getfield 7, 3) := by decide +kernel
theorem dX12_round_110 : decode cX12_round 110 = .ok (.bipush 6, 2) := by decide +kernel
theorem dX12_round_112 : decode cX12_round 112 = .ok (.aload_n 0, 1) := by decide +kernel
theorem dX12_round_113 : decode cX12_round 113 = .ok (.getfield 267, 3) := by decide +kernel
theorem dX12_round_116 : decode cX12_round 116 = .ok (.iastore, 1) := by decide +kernel
theorem dX12_round_117 : decode cX12_round 117 = .ok (.aload_n 0, 1) := by decide +kernel
theorem dX12_round_118 : decode cX12_round 118 = .ok (.getfield 7, 3) := by decide +kernel
theorem dX12_round_121 : decode cX12_round 121 = .ok (.bipush 7, 2) := by decide +kernel
theorem dX12_round_123 : decode cX12_round 123 = .ok (.aload_n 0, 1) := by decide +kernel
theorem dX12_round_124 : decode cX12_round 124 = .ok (.getfield 291, 3) := by decide +kernel
theorem dX12_round_127 : decode cX12_round 127 = .ok (.iastore, 1) := by decide +kernel
theorem dX12_round_128 : decode cX12_round 128 = .ok (.aload_n 0, 1) := by decide +kernel
theorem dX12_round_129 : decode cX12_round 129 = .ok (.getfield 7, 3) := by decide +kernel
theorem dX12_round_132 : decode cX12_round 132 = .ok (.bipush 8, 2) := by decide +kernel
theorem dX12_round_134 : decode cX12_round 134 = .ok (.aload_n 0, 1) := by decide +kernel
theorem dX12_round_135 : decode cX12_round 135 = .ok (.getfield 285, 3) := by decide +kernel
theorem dX12_round_138 : decode cX12_round 138 = .ok (.iastore, 1) := by decide +kernel
theorem dX12_round_139 : decode cX12_round 139 = .ok (.iconst 0, 1) := by decide +kernel
theorem dX12_round_140 : decode cX12_round 140 = .ok (.istore_n 3, 1) := by decide +kernel
theorem dX12_round_141 : decode cX12_round 141 = .ok (.iload_n 3, 1) := by decide +kernel
theorem dX12_round_142 : decode cX12_round 142 = .ok (.bipush 60, 2) := by decide +kernel
theorem dX12_round_144 : decode cX12_round 144 = .ok (.if_icmp .ge 20, 3) := by decide +kernel
theorem dX12_round_147 : decode cX12_round 147 = .ok (.aload_n 0, 1) := by decide +kernel
theorem dX12_round_148 : decode cX12_round 148 = .ok (.getfield 7, 3) := by decide +kernel
theorem dX12_round_151 : decode cX12_round 151 = .ok (.sipush 9582, 3) := by decide +kernel
theorem dX12_round_154 : decode cX12_round 154 = .ok (.iload_n 3, 1) := by decide +kernel
theorem dX12_round_155 : decode cX12_round 155 = .ok (.iadd, 1) := by decide +kernel
theorem dX12_round_156 : decode cX12_round 156 = .ok (.iconst (-1), 1) := by decide +kernel
theorem dX12_round_157 : decode cX12_round 157 = .ok (.iastore, 1) := by decide +kernel
theorem dX12_round_158 : decode cX12_round 158 = .ok (.iinc 3 1, 3) := by decide +kernel
theorem dX12_round_161 : decode cX12_round 161 = .ok (.goto (-20), 3) := by decide +kernel
theorem dX12_round_164 : decode cX12_round 164 = .ok (.iconst 0, 1) := by decide +kernel
theorem dX12_round_165 : decode cX12_round 165 = .ok (.istore_n 3, 1) := by decide +kernel
theorem dX12_round_166 : decode cX12_round 166 = .ok (.iload_n 3, 1) := by decide +kernel
theorem dX12_round_167 : decode cX12_round 167 = .ok (.aload_n 0, 1) := by decide +kernel
theorem dX12_round_168 : decode cX12_round 168 = .ok (.getfield 285, 3) := by decide +kernel
theorem dX12_round_171 : decode cX12_round 171 = .ok (.if_icmp .ge 51, 3) := by decide +kernel
theorem dX12_round_174 : decode cX12_round 174 = .ok (.aload_n 0, 1) := by decide +kernel
theorem dX12_round_175 : decode cX12_round 175 = .ok (.getfield 7, 3) := by decide +kernel
theorem dX12_round_178 : decode cX12_round 178 = .ok (.sipush 9582, 3) := by decide +kernel
theorem dX12_round_181 : decode cX12_round 181 = .ok (.aload_n 0, 1) := by decide +kernel
theorem dX12_round_182 : decode cX12_round 182 = .ok (.getfield 49, 3) := by decide +kernel
theorem dX12_round_185 : decode cX12_round 185 = .ok (.iload_n 3, 1) := by decide +kernel
theorem dX12_round_186 : decode cX12_round 186 = .ok (.iaload, 1) := by decide +kernel
theorem dX12_round_187 : decode cX12_round 187 = .ok (.iadd, 1) := by decide +kernel
theorem dX12_round_188 : decode cX12_round 188 = .ok (.aload_n 0, 1) := by decide +kernel
theorem dX12_round_189 : decode cX12_round 189 = .ok (.getfield 52, 3) := by decide +kernel
theorem dX12_round_192 : decode cX12_round 192 = .ok (.iload_n 3, 1) := by decide +kernel
theorem dX12_round_193 : decode cX12_round 193 = .ok (.iaload, 1) := by decide +kernel
theorem dX12_round_194 : decode cX12_round 194 = .ok (.iastore, 1) := by decide +kernel
theorem dX12_round_195 : decode cX12_round 195 = .ok (.aload_n 0, 1) := by decide +kernel
theorem dX12_round_196 : decode cX12_round 196 = .ok (.getfield 7, 3) := by decide +kernel
theorem dX12_round_199 : decode cX12_round 199 = .ok (.sipush 9582, 3) := by decide +kernel
theorem dX12_round_202 : decode cX12_round 202 = .ok (.aload_n 0, 1) := by decide +kernel
theorem dX12_round_203 : decode cX12_round 203 = .ok (.getfield 52, 3) := by decide +kernel
theorem dX12_round_206 : decode cX12_round 206 = .ok (.iload_n 3, 1) := by decide +kernel
theorem dX12_round_207 : decode cX12_round 207 = .ok (.iaload, 1) := by decide +kernel
theorem dX12_round_208 : decode cX12_round 208 = .ok (.iadd, 1) := by decide +kernel
theorem dX12_round_209 : decode cX12_round 209 = .ok (.aload_n 0, 1) := by decide +kernel
theorem dX12_round_210 : decode cX12_round 210 = .ok (.getfield 49, 3) := by decide +kernel
theorem dX12_round_213 : decode cX12_round 213 = .ok (.iload_n 3, 1) := by decide +kernel
theorem dX12_round_214 : decode cX12_round 214 = .ok (.iaload, 1) := by decide +kernel
theorem dX12_round_215 : decode cX12_round 215 = .ok (.iastore, 1) := by decide +kernel
theorem dX12_round_216 : decode cX12_round 216 = .ok (.iinc 3 1, 3) := by decide +kernel
theorem dX12_round_219 : decode cX12_round 219 = .ok (.goto (-53), 3) := by decide +kernel
theorem dX12_round_222 : decode cX12_round 222 = .ok (.iconst 0, 1) := by decide +kernel
theorem dX12_round_223 : decode cX12_round 223 = .ok (.istore_n 3, 1) := by decide +kernel
theorem dX12_round_224 : decode cX12_round 224 = .ok (.iload_n 3, 1) := by decide +kernel
theorem dX12_round_225 : decode cX12_round 225 = .ok (.aload_n 0, 1) := by decide +kernel
theorem dX12_round_226 : decode cX12_round 226 = .ok (.getfield 297, 3) := by decide +kernel
theorem dX12_round_229 : decode cX12_round 229 = .ok (.if_icmp .ge 67, 3) := by decide +kernel
theorem dX12_round_232 : decode cX12_round 232 = .ok (.aload_n 0, 1) := by decide +kernel
theorem dX12_round_233 : decode cX12_round 233 = .ok (.getfield 7, 3) := by decide +kernel
theorem dX12_round_236 : decode cX12_round 236 = .ok (.sipush 9642, 3) := by decide +kernel
theorem dX12_round_239 : decode cX12_round 239 = .ok (.iconst 3, 1) := by decide +kernel
theorem dX12_round_240 : decode cX12_round 240 = .ok (.iload_n 3, 1) := by decide +kernel
theorem dX12_round_241 : decode cX12_round 241 = .ok (.imul, 1) := by decide +kernel
theorem dX12_round_242 : decode cX12_round 242 = .ok (.iadd, 1) := by decide +kernel
theorem dX12_round_243 : decode cX12_round 243 = .ok (.aload_n 0, 1) := by decide +kernel
theorem dX12_round_244 : decode cX12_round 244 = .ok (.getfield 55, 3) := by decide +kernel
theorem dX12_round_247 : decode cX12_round 247 = .ok (.iload_n 3, 1) := by decide +kernel
theorem dX12_round_248 : decode cX12_round 248 = .ok (.iaload, 1) := by decide +kernel
theorem dX12_round_249 : decode cX12_round 249 = .ok (.iastore, 1) := by decide +kernel
theorem dX12_round_250 : decode cX12_round 250 = .ok (.aload_n 0, 1) := by decide +kernel
theorem dX12_round_251 : decode cX12_round 251 = .ok (.getfield 7, 3) := by decide +kernel
theorem dX12_round_254 : decode cX12_round 254 = .ok (.sipush 9642, 3) := by decide +kernel
theorem dX12_round_257 : decode cX12_round 257 = .ok (.iconst 3, 1) := by decide +kernel
theorem dX12_round_258 : decode cX12_round 258 = .ok (.iload_n 3, 1) := by decide +kernel
theorem dX12_round_259 : decode cX12_round 259 = .ok (.imul, 1) := by decide +kernel
theorem dX12_round_260 : decode cX12_round 260 = .ok (.iadd, 1) := by decide +kernel
theorem dX12_round_261 : decode cX12_round 261 = .ok (.iconst 1, 1) := by decide +kernel
theorem dX12_round_262 : decode cX12_round 262 = .ok (.iadd, 1) := by decide +kernel
theorem dX12_round_263 : decode cX12_round 263 = .ok (.aload_n 0, 1) := by decide +kernel
theorem dX12_round_264 : decode cX12_round 264 = .ok (.getfield 58, 3) := by decide +kernel
theorem dX12_round_267 : decode cX12_round 267 = .ok (.iload_n 3, 1) := by decide +kernel
theorem dX12_round_268 : decode cX12_round 268 = .ok (.iaload, 1) := by decide +kernel
theorem dX12_round_269 : decode cX12_round 269 = .ok (.iastore, 1) := by decide +kernel
theorem dX12_round_270 : decode cX12_round 270 = .ok (.aload_n 0, 1) := by decide +kernel
theorem dX12_round_271 : decode cX12_round 271 = .ok (.getfield 7, 3) := by decide +kernel
theorem dX12_round_274 : decode cX12_round 274 = .ok (.sipush 9642, 3) := by decide +kernel
theorem dX12_round_277 : decode cX12_round 277 = .ok (.iconst 3, 1) := by decide +kernel
theorem dX12_round_278 : decode cX12_round 278 = .ok (.iload_n 3, 1) := by decide +kernel
theorem dX12_round_279 : decode cX12_round 279 = .ok (.imul, 1) := by decide +kernel
theorem dX12_round_280 : decode cX12_round 280 = .ok (.iadd, 1) := by decide +kernel
theorem dX12_round_281 : decode cX12_round 281 = .ok (.iconst 2, 1) := by decide +kernel
theorem dX12_round_282 : decode cX12_round 282 = .ok (.iadd, 1) := by decide +kernel
theorem dX12_round_283 : decode cX12_round 283 = .ok (.aload_n 0, 1) := by decide +kernel
theorem dX12_round_284 : decode cX12_round 284 = .ok (.getfield 61, 3) := by decide +kernel
theorem dX12_round_287 : decode cX12_round 287 = .ok (.iload_n 3, 1) := by decide +kernel
theorem dX12_round_288 : decode cX12_round 288 = .ok (.iaload, 1) := by decide +kernel
theorem dX12_round_289 : decode cX12_round 289 = .ok (.iastore, 1) := by decide +kernel
theorem dX12_round_290 : decode cX12_round 290 = .ok (.iinc 3 1, 3) := by decide +kernel
theorem dX12_round_293 : decode cX12_round 293 = .ok (.goto (-69), 3) := by decide +kernel
theorem dX12_round_296 : decode cX12_round 296 = .ok (.iconst 0, 1) := by decide +kernel
theorem dX12_round_297 : decode cX12_round 297 = .ok (.istore_n 3, 1) := by decide +kernel
theorem dX12_round_298 : decode cX12_round 298 = .ok (.iload_n 3, 1) := by decide +kernel
theorem dX12_round_299 : decode cX12_round 299 = .ok (.aload_n 0, 1) := by decide +kernel
theorem dX12_round_300 : decode cX12_round 300 = .ok (.getfield 7, 3) := by decide +kernel
theorem dX12_round_303 : decode cX12_round 303 = .ok (.iconst 3, 1) := by decide +kernel
theorem dX12_round_304 : decode cX12_round 304 = .ok (.iaload, 1) := by decide +kernel
theorem dX12_round_305 : decode cX12_round 305 = .ok (.if_icmp .ge 14, 3) := by decide +kernel
theorem dX12_round_308 : decode cX12_round 308 = .ok (.aload_n 0, 1) := by decide +kernel
theorem dX12_round_309 : decode cX12_round 309 = .ok (.iload_n 3, 1) := by decide +kernel
theorem dX12_round_310 : decode cX12_round 310 = .ok (.invokevirtual 194, 3) := by decide +kernel
theorem dX12_round_313 : decode cX12_round 313 = .ok (.iinc 3 1, 3) := by decide +kernel
theorem dX12_round_316 : decode cX12_round 316 = .ok (.goto (-18), 3) := by decide +kernel
theorem dX12_round_319 : decode cX12_round 319 = .ok (.aload_n 0, 1) := by decide +kernel
theorem dX12_round_320 : decode cX12_round 320 = .ok (.aload_n 0, 1) := by decide +kernel
theorem dX12_round_321 : decode cX12_round 321 = .ok (.getfield 297, 3) := by decide +kernel
theorem dX12_round_324 : decode cX12_round 324 = .ok (.invokevirtual 102, 3) := by decide +kernel
theorem dX12_round_327 : decode cX12_round 327 = .ok (.ireturn, 1) := by decide +kernel
theorem dX12_roundByPairs_0 : decode cX12_roundByPairs 0 = .ok (.aload_n 0, 1) := by decide +kernel
theorem dX12_roundByPairs_1 : decode cX12_roundByPairs 1 = .ok (.invokevirtual 245, 3) := by decide +kernel
theorem dX12_roundByPairs_4 : decode cX12_roundByPairs 4 = .ok (.aload_n 0, 1) := by decide +kernel
theorem dX12_roundByPairs_5 : decode cX12_roundByPairs 5 = .ok (.invokevirtual 307, 3) := by decide +kernel
theorem dX12_roundByPairs_8 : decode cX12_roundByPairs 8 = .ok (.ifCond .ne 6, 3) := by decide +kernel
theorem dX12_roundByPairs_11 : decode cX12_roundByPairs 11 = .ok (.bipush (-8), 2) := by decide +kernel
theorem dX12_roundByPairs_13 : decode cX12_roundByPairs 13 = .ok (.ireturn, 1) := by decide +kernel
theorem dX12_roundByPairs_14 : decode cX12_roundByPairs 14 = .ok (.aload_n 0, 1) := by decide +kernel
theorem dX12_roundByPairs_15 : decode cX12_roundByPairs 15 = .ok (.invokevirtual 248, 3) := by decide +kernel
theorem dX12_roundByPairs_18 : decode cX12_roundByPairs 18 = .ok (.aload_n 0, 1) := by decide +kernel
theorem dX12_roundByPairs_19 : decode cX12_roundByPairs 19 = .ok (.getfield 242, 3) := by decide +kernel
theorem dX12_roundByPairs_22 : decode cX12_roundByPairs 22 = .ok (.bipush 14, 2) := by decide +kernel
theorem dX12_roundByPairs_24 : decode cX12_roundByPairs 24 = .ok (.if_icmp .gt 10, 3) := by decide +kernel
theorem dX12_roundByPairs_27 : decode cX12_roundByPairs 27 = .ok (.aload_n 0, 1) := by decide +kernel
theorem dX12_roundByPairs_28 : decode cX12_roundByPairs 28 = .ok (.invokevirtual 310, 3) := by decide +kernel
theorem dX12_roundByPairs_31 : decode cX12_roundByPairs 31 = .ok (.goto 7, 3) := by decide +kernel
theorem dX12_roundByPairs_34 : decode cX12_roundByPairs 34 = .ok (.aload_n 0, 1) := by decide +kernel
theorem dX12_roundByPairs_35 : decode cX12_roundByPairs 35 = .ok (.invokevirtual 313, 3) := by decide +kernel
theorem dX12_roundByPairs_38 : decode cX12_roundByPairs 38 = .ok (.iconst 0, 1) := by decide +kernel
theorem dX12_roundByPairs_39 : decode cX12_roundByPairs 39 = .ok (.istore_n 1, 1) := by decide +kernel
theorem dX12_roundByPairs_40 : decode cX12_roundByPairs 40 = .ok (.iload_n 1, 1) := by decide +kernel
theorem dX12_roundByPairs_41 : decode cX12_roundByPairs 41 = .ok (.aload_n 0, 1) := by decide +kernel
theorem dX12_roundByPairs_42 : decode cX12_roundByPairs 42 = .ok (.getfield 285, 3) := by decide +kernel
theorem dX12_roundByPairs_45 : decode cX12_roundByPairs 45 = .ok (.if_icmp .ge 26, 3) := by decide +kernel
theorem dX12_roundByPairs_48 : decode cX12_roundByPairs 48 = .ok (.aload_n 0, 1) := by decide +kernel
theorem dX12_roundByPairs_49 : decode cX12_roundByPairs 49 = .ok (.aload_n 0, 1) := by decide +kernel
theorem dX12_roundByPairs_50 : decode cX12_roundByPairs 50 = .ok (.getfield 49, 3) := by decide +kernel
theorem dX12_roundByPairs_53 : decode cX12_roundByPairs 53 = .ok (.iload_n 1, 1) := by decide +kernel
theorem dX12_roundByPairs_54 : decode cX12_roundByPairs 54 = .ok (.iaload, 1) := by decide +kernel
theorem dX12_roundByPairs_55 : decode cX12_roundByPairs 55 = .ok (.aload_n 0, 1) := by decide +kernel
theorem dX12_roundByPairs_56 : decode cX12_roundByPairs 56 = .ok (.getfield 52, 3) := by decide +kernel
theorem dX12_roundByPairs_59 : decode cX12_roundByPairs 59 = .ok (.iload_n 1, 1) := by decide +kernel
theorem dX12_roundByPairs_60 : decode cX12_roundByPairs 60 = .ok (.iaload, 1) := by decide +kernel
theorem dX12_roundByPairs_61 : decode cX12_roundByPairs 61 = .ok (.iconst 1, 1) := by decide +kernel
theorem dX12_roundByPairs_62 : decode cX12_roundByPairs 62 = .ok (.invokevirtual 281, 3) := by decide +kernel
theorem dX12_roundByPairs_65 : decode cX12_roundByPairs 65 = .ok (.iinc 1 1, 3) := by decide +kernel
theorem dX12_roundByPairs_68 : decode cX12_roundByPairs 68 = .ok (.goto (-28), 3) := by decide +kernel
theorem dX12_roundByPairs_71 : decode cX12_roundByPairs 71 = .ok (.iconst 0, 1) := by decide +kernel
theorem dX12_roundByPairs_72 : decode cX12_roundByPairs 72 = .ok (.istore_n 1, 1) := by decide +kernel
theorem dX12_roundByPairs_73 : decode cX12_roundByPairs 73 = .ok (.iconst 0, 1) := by decide +kernel
theorem dX12_roundByPairs_74 : decode cX12_roundByPairs 74 = .ok (.istore_n 2, 1) := by decide +kernel
theorem dX12_roundByPairs_75 : decode cX12_roundByPairs 75 = .ok (.iload_n 2, 1) := by decide +kernel
theorem dX12_roundByPairs_76 : decode cX12_roundByPairs 76 = .ok (.aload_n 0, 1) := by decide +kernel
theorem dX12_roundByPairs_77 : decode cX12_roundByPairs 77 = .ok (.getfield 7, 3) := by decide +kernel
theorem dX12_roundByPairs_80 : decode cX12_roundByPairs 80 = .ok (.iconst 1, 1) := by decide +kernel
theorem dX12_roundByPairs_81 : decode cX12_roundByPairs 81 = .ok (.iaload, 1) := by decide +kernel
theorem dX12_roundByPairs_82 : decode cX12_roundByPairs 82 = .ok (.if_icmp .ge 18, 3) := by decide +kernel
theorem dX12_roundByPairs_85 : decode cX12_roundByPairs 85 = .ok (.iload_n 1, 1) := by decide +kernel
theorem dX12_roundByPairs_86 : decode cX12_roundByPairs 86 = .ok (.aload_n 0, 1) := by decide +kernel
theorem dX12_roundByPairs_87 : decode cX12_roundByPairs 87 = .ok (.getfield 37, 3) := by decide +kernel
theorem dX12_roundByPairs_90 : decode cX12_roundByPairs 90 = .ok (.iload_n 2, 1) := by decide +kernel
theorem dX12_roundByPairs_91 : decode cX12_roundByPairs 91 = .ok (.iaload, 1) := by decide +kernel
theorem dX12_roundByPairs_92 : decode cX12_roundByPairs 92 = .ok (.iadd, 1) := by decide +kernel
theorem dX12_roundByPairs_93 : decode cX12_roundByPairs 93 = .ok (.istore_n 1, 1) := by decide +kernel
theorem dX12_roundByPairs_94 : decode cX12_roundByPairs 94 = .ok (.iinc 2 1, 3) := by decide +kernel
theorem dX12_roundByPairs_97 : decode cX12_roundByPairs 97 = .ok (.goto (-22), 3) := by decide +kernel
theorem dX12_roundByPairs_100 : decode cX12_roundByPairs 100 = .ok (.iload_n 1, 1) := by decide +kernel
theorem dX12_roundByPairs_101 : decode cX12_roundByPairs 101 = .ok (.sipush 2000, 3) := by decide +kernel
theorem dX12_roundByPairs_104 : decode cX12_roundByPairs 104 = .ok (.if_icmp .le 6, 3) := by decide +kernel
theorem dX12_roundByPairs_107 : decode cX12_roundByPairs 107 = .ok (.bipush (-3), 2) := by decide +kernel
theorem dX12_roundByPairs_109 : decode cX12_roundByPairs 109 = .ok (.ireturn, 1) := by decide +kernel
theorem dX12_roundByPairs_110 : decode cX12_roundByPairs 110 = .ok (.aload_n 0, 1) := by decide +kernel
theorem dX12_roundByPairs_111 : decode cX12_roundByPairs 111 = .ok (.invokevirtual 316, 3) := by decide +kernel
theorem dX12_roundByPairs_114 : decode cX12_roundByPairs 114 = .ok (.iconst 0, 1) := by decide +kernel
theorem dX12_roundByPairs_115 : decode cX12_roundByPairs 115 = .ok (.ireturn, 1) := by decide +kernel
theorem dX12_joinsAll_0 : decode cX12_joinsAll 0 = .ok (.aload_n 0, 1) := by decide +kernel
theorem dX12_joinsAll_1 : decode cX12_joinsAll 1 = .ok (.iconst 0, 1) := by decide +kernel
theorem dX12_joinsAll_2 : decode cX12_joinsAll 2 = .ok (.putfield 267, 3) := by decide +kernel
theorem dX12_joinsAll_5 : decode cX12_joinsAll 5 = .ok (.aload_n 0, 1) := by decide +kernel
theorem dX12_joinsAll_6 : decode cX12_joinsAll 6 = .ok (.iconst 0, 1) := by decide +kernel
theorem dX12_joinsAll_7 : decode cX12_joinsAll 7 = .ok (.aload_n 0, 1) := by decide +kernel
theorem dX12_joinsAll_8 : decode cX12_joinsAll 8 = .ok (.getfield 37, 3) := by decide +kernel
theorem dX12_joinsAll_11 : decode cX12_joinsAll 11 = .ok (.invokevirtual 270, 3) := by decide +kernel
theorem dX12_joinsAll_14 : decode cX12_joinsAll 14 = .ok (.aload_n 0, 1) := by decide +kernel
theorem dX12_joinsAll_15 : decode cX12_joinsAll 15 = .ok (.aload_n 0, 1) := by decide +kernel
theorem dX12_joinsAll_16 : decode cX12_joinsAll 16 = .ok (.getfield 37, 3) := by decide +kernel
theorem dX12_joinsAll_19 : decode cX12_joinsAll 19 = .ok (.invokevirtual 274, 3) := by decide +kernel
theorem dX12_joinsAll_22 : decode cX12_joinsAll 22 = .ok (.ifCond .eq 164, 3) := by decide +kernel
theorem dX12_joinsAll_25 : decode cX12_joinsAll 25 = .ok (.iconst (-1), 1) := by decide +kernel
theorem dX12_joinsAll_26 : decode cX12_joinsAll 26 = .ok (.istore_n 1, 1) := by decide +kernel
theorem dX12_joinsAll_27 : decode cX12_joinsAll 27 = .ok (.iconst (-1), 1) := by decide +kernel
theorem dX12_joinsAll_28 : decode cX12_joinsAll 28 = .ok (.istore_n 2, 1) := by decide +kernel
theorem dX12_joinsAll_29 : decode cX12_joinsAll 29 = .ok (.ldc 125, 2) := by decide +kernel
theorem dX12_joinsAll_31 : decode cX12_joinsAll 31 = .ok (.istore_n 3, 1) := by decide +kernel
theorem dX12_joinsAll_32 : decode cX12_joinsAll 32 = .ok (.iconst 0, 1) := by decide +kernel
theorem dX12_joinsAll_33 : decode cX12_joinsAll 33 = .ok (.istore 4, 2) := by decide +kernel
theorem dX12_joinsAll_35 : decode cX12_joinsAll 35 = .ok (.iload 4, 2) := by decide +kernel
theorem dX12_joinsAll_37 : decode cX12_joinsAll 37 = .ok (.aload_n 0, 1) := by decide +kernel
theorem dX12_joinsAll_38 : decode cX12_joinsAll 38 = .ok (.getfield 7, 3) := by decide +kernel
theorem dX12_joinsAll_41 : decode cX12_joinsAll 41 = .ok (.iconst 0, 1) := by decide +kernel
theorem dX12_joinsAll_42 : decode cX12_joinsAll 42 = .ok (.iaload, 1) := by decide +kernel
theorem dX12_joinsAll_43 : decode cX12_joinsAll 43 = .ok (.if_icmp .ge 106, 3) := by decide +kernel
theorem dX12_joinsAll_46 : decode cX12_joinsAll 46 = .ok (.aload_n 0, 1) := by decide +kernel
theorem dX12_joinsAll_47 : decode cX12_joinsAll 47 = .ok (.iload 4, 2) := by decide +kernel
theorem dX12_joinsAll_49 : decode cX12_joinsAll 49 = .ok (.invokevirtual 278, 3) := by decide +kernel
theorem dX12_joinsAll_52 : decode cX12_joinsAll 52 = .ok (.istore 5, 2) := by decide +kernel
theorem dX12_joinsAll_54 : decode cX12_joinsAll 54 = .ok (.iconst 0, 1) := by decide +kernel
theorem dX12_joinsAll_55 : decode cX12_joinsAll 55 = .ok (.istore 6, 2) := by decide +kernel
theorem dX12_joinsAll_57 : decode cX12_joinsAll 57 = .ok (.iload 6, 2) := by decide +kernel
theorem dX12_joinsAll_59 : decode cX12_joinsAll 59 = .ok (.aload_n 0, 1) := by decide +kernel
theorem dX12_joinsAll_60 : decode cX12_joinsAll 60 = .ok (.getfield 7, 3) := by decide +kernel
theorem dX12_joinsAll_63 : decode cX12_joinsAll 63 = .ok (.iconst 0, 1) := by decide +kernel
theorem dX12_joinsAll_64 : decode cX12_joinsAll 64 = .ok (.iaload, 1) := by decide +kernel
theorem dX12_joinsAll_65 : decode cX12_joinsAll 65 = .ok (.if_icmp .ge 78, 3) := by decide +kernel
theorem dX12_joinsAll_68 : decode cX12_joinsAll 68 = .ok (.iload 5, 2) := by decide +kernel
theorem dX12_joinsAll_70 : decode cX12_joinsAll 70 = .ok (.ifCond .eq 73, 3) := by decide +kernel
theorem dX12_joinsAll_73 : decode cX12_joinsAll 73 = .ok (.aload_n 0, 1) := by decide +kernel
theorem dX12_joinsAll_74 : decode cX12_joinsAll 74 = .ok (.getfield 43, 3) := by decide +kernel
theorem dX12_joinsAll_77 : decode cX12_joinsAll 77 = .ok (.iload 6, 2) := by decide +kernel
theorem dX12_joinsAll_79 : decode cX12_joinsAll 79 = .ok (.baload, 1) := by decide +kernel
theorem dX12_joinsAll_80 : decode cX12_joinsAll 80 = .ok (.ifCond .eq 19, 3) := by decide +kernel
theorem dX12_joinsAll_83 : decode cX12_joinsAll 83 = .ok (.aload_n 0, 1) := by decide +kernel
theorem dX12_joinsAll_84 : decode cX12_joinsAll 84 = .ok (.getfield 23, 3) := by decide +kernel
theorem dX12_joinsAll_87 : decode cX12_joinsAll 87 = .ok (.bipush 60, 2) := by decide +kernel
theorem dX12_joinsAll_89 : decode cX12_joinsAll 89 = .ok (.iload 6, 2) := by decide +kernel
theorem dX12_joinsAll_91 : decode cX12_joinsAll 91 = .ok (.imul, 1) := by decide +kernel
theorem dX12_joinsAll_92 : decode cX12_joinsAll 92 = .ok (.iload 4, 2) := by decide +kernel
theorem dX12_joinsAll_94 : decode cX12_joinsAll 94 = .ok (.iadd, 1) := by decide +kernel
theorem dX12_joinsAll_95 : decode cX12_joinsAll 95 = .ok (.iaload, 1) := by decide +kernel
theorem dX12_joinsAll_96 : decode cX12_joinsAll 96 = .ok (.goto 5, 3) := by decide +kernel
theorem dX12_joinsAll_99 : decode cX12_joinsAll 99 = .ok (.ldc 125, 2) := by decide +kernel
theorem dX12_joinsAll_101 : decode cX12_joinsAll 101 = .ok (.istore 7, 2) := by decide +kernel
theorem dX12_joinsAll_103 : decode cX12_joinsAll 103 = .ok (.iload 7, 2) := by decide +kernel
theorem dX12_joinsAll_105 : decode cX12_joinsAll 105 = .ok (.iload_n 3, 1) := by decide +kernel
theorem dX12_joinsAll_106 : decode cX12_joinsAll 106 = .ok (.if_icmp .lt 22, 3) := by decide +kernel
theorem dX12_joinsAll_109 : decode cX12_joinsAll 109 = .ok (.iload 7, 2) := by decide +kernel
theorem dX12_joinsAll_111 : decode cX12_joinsAll 111 = .ok (.iload_n 3, 1) := by decide +kernel
theorem dX12_joinsAll_112 : decode cX12_joinsAll 112 = .ok (.if_icmp .ne 25, 3) := by decide +kernel
theorem dX12_joinsAll_115 : decode cX12_joinsAll 115 = .ok (.iload 7, 2) := by decide +kernel
theorem dX12_joinsAll_117 : decode cX12_joinsAll 117 = .ok (.ldc 125, 2) := by decide +kernel
theorem dX12_joinsAll_119 : decode cX12_joinsAll 119 = .ok (.if_icmp .ge 18, 3) := by decide +kernel
theorem dX12_joinsAll_122 : decode cX12_joinsAll 122 = .ok (.iload 6, 2) := by decide +kernel
theorem dX12_joinsAll_124 : decode cX12_joinsAll 124 = .ok (.iload_n 1, 1) := by decide +kernel
theorem dX12_joinsAll_125 : decode cX12_joinsAll 125 = .ok (.if_icmp .ge 12, 3) := by decide +kernel
theorem dX12_joinsAll_128 : decode cX12_joinsAll 128 = .ok (.iload 7, 2) := by decide +kernel
theorem dX12_joinsAll_130 : decode cX12_joinsAll 130 = .ok (.istore_n 3, 1) := by decide +kernel
theorem dX12_joinsAll_131 : decode cX12_joinsAll 131 = .ok (.iload 6, 2) := by decide +kernel
theorem dX12_joinsAll_133 : decode cX12_joinsAll 133 = .ok (.istore_n 1, 1) := by decide +kernel
theorem dX12_joinsAll_134 : decode cX12_joinsAll 134 = .ok (.iload 4, 2) := by decide +kernel
theorem dX12_joinsAll_136 : decode cX12_joinsAll 136 = .ok (.istore_n 2, 1) := by decide +kernel
theorem dX12_joinsAll_137 : decode cX12_joinsAll 137 = .ok (.iinc 6 1, 3) := by decide +kernel
theorem dX12_joinsAll_140 : decode cX12_joinsAll 140 = .ok (.goto (-83), 3) := by decide +kernel
theorem dX12_joinsAll_143 : decode cX12_joinsAll 143 = .ok (.iinc 4 1, 3) := by decide +kernel
theorem dX12_joinsAll_146 : decode cX12_joinsAll 146 = .ok (.goto (-111), 3) := by decide +kernel
theorem dX12_joinsAll_149 : decode cX12_joinsAll 149 = .ok (.iload_n 3, 1) := by decide +kernel
theorem dX12_joinsAll_150 : decode cX12_joinsAll 150 = .ok (.ldc 125, 2) := by decide +kernel
theorem dX12_joinsAll_152 : decode cX12_joinsAll 152 = .ok (.if_icmp .lt 5, 3) := by decide +kernel
theorem dX12_joinsAll_155 : decode cX12_joinsAll 155 = .ok (.iconst 0, 1) := by decide +kernel
theorem dX12_joinsAll_156 : decode cX12_joinsAll 156 = .ok (.ireturn, 1) := by decide +kernel
theorem dX12_joinsAll_157 : decode cX12_joinsAll 157 = .ok (.aload_n 0, 1) := by decide +kernel
theorem dX12_joinsAll_158 : decode cX12_joinsAll 158 = .ok (.iload_n 1, 1) := by decide +kernel
theorem dX12_joinsAll_159 : decode cX12_joinsAll 159 = .ok (.iload_n 2, 1) := by decide +kernel
theorem dX12_joinsAll_160 : decode cX12_joinsAll 160 = .ok (.iconst 2, 1) := by decide +kernel
theorem dX12_joinsAll_161 : decode cX12_joinsAll 161 = .ok (.invokevirtual 281, 3) := by decide +kernel
theorem dX12_joinsAll_164 : decode cX12_joinsAll 164 = .ok (.aload_n 0, 1) := by decide +kernel
theorem dX12_joinsAll_165 : decode cX12_joinsAll 165 = .ok (.dup, 1) := by decide +kernel
theorem dX12_joinsAll_166 : decode cX12_joinsAll 166 = .ok (.getfield 267, 3) := by decide +kernel
theorem dX12_joinsAll_169 : decode cX12_joinsAll 169 = .ok (.iconst 1, 1) := by decide +kernel
theorem dX12_joinsAll_170 : decode cX12_joinsAll 170 = .ok (.iadd, 1) := by decide +kernel
theorem dX12_joinsAll_171 : decode cX12_joinsAll 171 = .ok (.putfield 267, 3) := by decide +kernel
theorem dX12_joinsAll_174 : decode cX12_joinsAll 174 = .ok (.aload_n 0, 1) := by decide +kernel
theorem dX12_joinsAll_175 : decode cX12_joinsAll 175 = .ok (.iconst 0, 1) := by decide +kernel
theorem dX12_joinsAll_176 : decode cX12_joinsAll 176 = .ok (.aload_n 0, 1) := by decide +kernel
theorem dX12_joinsAll_177 : decode cX12_joinsAll 177 = .ok (.getfield 37, 3) := by decide +kernel
theorem dX12_joinsAll_180 : decode cX12_joinsAll 180 = .ok (.invokevirtual 270, 3) := by decide +kernel
theorem dX12_joinsAll_183 : decode cX12_joinsAll 183 = .ok (.goto (-169), 3) := by decide +kernel
theorem dX12_joinsAll_186 : decode cX12_joinsAll 186 = .ok (.iconst 1, 1) := by decide +kernel
theorem dX12_joinsAll_187 : decode cX12_joinsAll 187 = .ok (.ireturn, 1) := by decide +kernel
theorem dX12_follows_0 : decode cX12_follows 0 = .ok (.iconst 0, 1) := by decide +kernel
theorem dX12_follows_1 : decode cX12_follows 1 = .ok (.istore_n 3, 1) := by decide +kernel
theorem dX12_follows_2 : decode cX12_follows 2 = .ok (.iload_n 3, 1) := by decide +kernel
theorem dX12_follows_3 : decode cX12_follows 3 = .ok (.bipush 60, 2) := by decide +kernel
theorem dX12_follows_5 : decode cX12_follows 5 = .ok (.if_icmp .ge 25, 3) := by decide +kernel
theorem dX12_follows_8 : decode cX12_follows 8 = .ok (.aload_n 0, 1) := by decide +kernel
theorem dX12_follows_9 : decode cX12_follows 9 = .ok (.getfield 43, 3) := by decide +kernel
theorem dX12_follows_12 : decode cX12_follows 12 = .ok (.iload_n 3, 1) := by decide +kernel
theorem dX12_follows_13 : decode cX12_follows 13 = .ok (.iload_n 3, 1) := by decide +kernel
theorem dX12_follows_14 : decode cX12_follows 14 = .ok (.iload_n 1, 1) := by decide +kernel
theorem dX12_follows_15 : decode cX12_follows 15 = .ok (.if_icmp .ne 7, 3) := by decide +kernel
theorem dX12_follows_18 : decode cX12_follows 18 = .ok (.iconst 1, 1) := by decide +kernel
theorem dX12_follows_19 : decode cX12_follows 19 = .ok (.goto 4, 3) := by decide +kernel
theorem dX12_follows_22 : decode cX12_follows 22 = .ok (.iconst 0, 1) := by decide +kernel
theorem dX12_follows_23 : decode cX12_follows 23 = .ok (.bastore, 1) := by decide +kernel
theorem dX12_follows_24 : decode cX12_follows 24 = .ok (.iinc 3 1, 3) := by decide +kernel
theorem dX12_follows_27 : decode cX12_follows 27 = .ok (.goto (-25), 3) := by decide +kernel
theorem dX12_follows_30 : decode cX12_follows 30 = .ok (.iconst 1, 1) := by decide +kernel
theorem dX12_follows_31 : decode cX12_follows 31 = .ok (.istore_n 3, 1) := by decide +kernel
theorem dX12_follows_32 : decode cX12_follows 32 = .ok (.iload_n 3, 1) := by decide +kernel
theorem dX12_follows_33 : decode cX12_follows 33 = .ok (.ifCond .eq 102, 3) := by decide +kernel
theorem dX12_follows_36 : decode cX12_follows 36 = .ok (.iconst 0, 1) := by decide +kernel
theorem dX12_follows_37 : decode cX12_follows 37 = .ok (.istore_n 3, 1) := by decide +kernel
theorem dX12_follows_38 : decode cX12_follows 38 = .ok (.iconst 0, 1) := by decide +kernel
theorem dX12_follows_39 : decode cX12_follows 39 = .ok (.istore 4, 2) := by decide +kernel
theorem dX12_follows_41 : decode cX12_follows 41 = .ok (.iload 4, 2) := by decide +kernel
theorem dX12_follows_43 : decode cX12_follows 43 = .ok (.aload_n 0, 1) := by decide +kernel
theorem dX12_follows_44 : decode cX12_follows 44 = .ok (.getfield 7, 3) := by decide +kernel
theorem dX12_follows_47 : decode cX12_follows 47 = .ok (.iconst 1, 1) := by decide +kernel
theorem dX12_follows_48 : decode cX12_follows 48 = .ok (.iaload, 1) := by decide +kernel
theorem dX12_follows_49 : decode cX12_follows 49 = .ok (.if_icmp .ge 83, 3) := by decide +kernel
theorem dX12_follows_52 : decode cX12_follows 52 = .ok (.aload_n 0, 1) := by decide +kernel
theorem dX12_follows_53 : decode cX12_follows 53 = .ok (.getfield 7, 3) := by decide +kernel
theorem dX12_follows_56 : decode cX12_follows 56 = .ok (.aload_n 0, 1) := by decide +kernel
theorem dX12_follows_57 : decode cX12_follows 57 = .ok (.iload 4, 2) := by decide +kernel
theorem dX12_follows_59 : decode cX12_follows 59 = .ok (.invokevirtual 109, 3) := by decide +kernel
theorem dX12_follows_62 : decode cX12_follows 62 = .ok (.bipush 7, 2) := by decide +kernel
theorem dX12_follows_64 : decode cX12_follows 64 = .ok (.iadd, 1) := by decide +kernel
theorem dX12_follows_65 : decode cX12_follows 65 = .ok (.iaload, 1) := by decide +kernel
theorem dX12_follows_66 : decode cX12_follows 66 = .ok (.istore 5, 2) := by decide +kernel
theorem dX12_follows_68 : decode cX12_follows 68 = .ok (.aload_n 0, 1) := by decide +kernel
theorem dX12_follows_69 : decode cX12_follows 69 = .ok (.getfield 7, 3) := by decide +kernel
theorem dX12_follows_72 : decode cX12_follows 72 = .ok (.aload_n 0, 1) := by decide +kernel
theorem dX12_follows_73 : decode cX12_follows 73 = .ok (.iload 4, 2) := by decide +kernel
theorem dX12_follows_75 : decode cX12_follows 75 = .ok (.invokevirtual 109, 3) := by decide +kernel
theorem dX12_follows_78 : decode cX12_follows 78 = .ok (.bipush 8, 2) := by decide +kernel
theorem dX12_follows_80 : decode cX12_follows 80 = .ok (.iadd, 1) := by decide +kernel
theorem dX12_follows_81 : decode cX12_follows 81 = .ok (.iaload, 1) := by decide +kernel
theorem dX12_follows_82 : decode cX12_follows 82 = .ok (.istore 6, 2) := by decide +kernel
theorem dX12_follows_84 : decode cX12_follows 84 = .ok (.aload_n 2, 1) := by decide +kernel
theorem dX12_follows_85 : decode cX12_follows 85 = .ok (.iload 4, 2) := by decide +kernel
theorem dX12_follows_87 : decode cX12_follows 87 = .ok (.iaload, 1) := by decide +kernel
theorem dX12_follows_88 : decode cX12_follows 88 = .ok (.ifCond .le 38, 3) := by decide +kernel
theorem dX12_follows_91 : decode cX12_follows 91 = .ok (.aload_n 0, 1) := by decide +kernel
theorem dX12_follows_92 : decode cX12_follows 92 = .ok (.getfield 43, 3) := by decide +kernel
theorem dX12_follows_95 : decode cX12_follows 95 = .ok (.iload 5, 2) := by decide +kernel
theorem dX12_follows_97 : decode cX12_follows 97 = .ok (.baload, 1) := by decide +kernel
theorem dX12_follows_98 : decode cX12_follows 98 = .ok (.aload_n 0, 1) := by decide +kernel
theorem dX12_follows_99 : decode cX12_follows 99 = .ok (.getfield 43, 3) := by decide +kernel
theorem dX12_follows_102 : decode cX12_follows 102 = .ok (.iload 6, 2) := by decide +kernel
theorem dX12_follows_104 : decode cX12_follows 104 = .ok (.baload, 1) := by decide +kernel
theorem dX12_follows_105 : decode cX12_follows 105 = .ok (.if_icmp .eq 21, 3) := by decide +kernel
theorem dX12_follows_108 : decode cX12_follows 108 = .ok (.aload_n 0, 1) := by decide +kernel
theorem dX12_follows_109 : decode cX12_follows 109 = .ok (.getfield 43, 3) := by decide +kernel
theorem dX12_follows_112 : decode cX12_follows 112 = .ok (.iload 5, 2) := by decide +kernel
theorem dX12_follows_114 : decode cX12_follows 114 = .ok (.iconst 1, 1) := by decide +kernel
theorem dX12_follows_115 : decode cX12_follows 115 = .ok (.bastore, 1) := by decide +kernel
theorem dX12_follows_116 : decode cX12_follows 116 = .ok (.aload_n 0, 1) := by decide +kernel
theorem dX12_follows_117 : decode cX12_follows 117 = .ok (.getfield 43, 3) := by decide +kernel
theorem dX12_follows_120 : decode cX12_follows 120 = .ok (.iload 6, 2) := by decide +kernel
theorem dX12_follows_122 : decode cX12_follows 122 = .ok (.iconst 1, 1) := by decide +kernel
theorem dX12_follows_123 : decode cX12_follows 123 = .ok (.bastore, 1) := by decide +kernel
theorem dX12_follows_124 : decode cX12_follows 124 = .ok (.iconst 1, 1) := by decide +kernel
theorem dX12_follows_125 : decode cX12_follows 125 = .ok (.istore_n 3, 1) := by decide +kernel
theorem dX12_follows_126 : decode cX12_follows 126 = .ok (.iinc 4 1, 3) := by decide +kernel
theorem dX12_follows_129 : decode cX12_follows 129 = .ok (.goto (-88), 3) := by decide +kernel
theorem dX12_follows_132 : decode cX12_follows 132 = .ok (.goto (-100), 3) := by decide +kernel
theorem dX12_follows_135 : decode cX12_follows 135 = .ok (.return_, 1) := by decide +kernel
theorem dX12_hasMore_0 : decode cX12_hasMore 0 = .ok (.iconst 0, 1) := by decide +kernel
theorem dX12_hasMore_1 : decode cX12_hasMore 1 = .ok (.istore_n 2, 1) := by decide +kernel
theorem dX12_hasMore_2 : decode cX12_hasMore 2 = .ok (.iconst 0, 1) := by decide +kernel
theorem dX12_hasMore_3 : decode cX12_hasMore 3 = .ok (.istore_n 3, 1) := by decide +kernel
theorem dX12_hasMore_4 : decode cX12_hasMore 4 = .ok (.iload_n 3, 1) := by decide +kernel
theorem dX12_hasMore_5 : decode cX12_hasMore 5 = .ok (.aload_n 0, 1) := by decide +kernel
theorem dX12_hasMore_6 : decode cX12_hasMore 6 = .ok (.getfield 7, 3) := by decide +kernel
theorem dX12_hasMore_9 : decode cX12_hasMore 9 = .ok (.iconst 1, 1) := by decide +kernel
theorem dX12_hasMore_10 : decode cX12_hasMore 10 = .ok (.iaload, 1) := by decide +kernel
theorem dX12_hasMore_11 : decode cX12_hasMore 11 = .ok (.if_icmp .ge 46, 3) := by decide +kernel
theorem dX12_hasMore_14 : decode cX12_hasMore 14 = .ok (.iload_n 2, 1) := by decide +kernel
theorem dX12_hasMore_15 : decode cX12_hasMore 15 = .ok (.ifCond .ne 30, 3) := by decide +kernel
theorem dX12_hasMore_18 : decode cX12_hasMore 18 = .ok (.aload_n 1, 1) := by decide +kernel
theorem dX12_hasMore_19 : decode cX12_hasMore 19 = .ok (.iload_n 3, 1) := by decide +kernel
theorem dX12_hasMore_20 : decode cX12_hasMore 20 = .ok (.iaload, 1) := by decide +kernel
theorem dX12_hasMore_21 : decode cX12_hasMore 21 = .ok (.ifCond .le 28, 3) := by decide +kernel
theorem dX12_hasMore_24 : decode cX12_hasMore 24 = .ok (.aload_n 0, 1) := by decide +kernel
theorem dX12_hasMore_25 : decode cX12_hasMore 25 = .ok (.getfield 43, 3) := by decide +kernel
theorem dX12_hasMore_28 : decode cX12_hasMore 28 = .ok (.aload_n 0, 1) := by decide +kernel
theorem dX12_hasMore_29 : decode cX12_hasMore 29 = .ok (.getfield 7, 3) := by decide +kernel
theorem dX12_hasMore_32 : decode cX12_hasMore 32 = .ok (.aload_n 0, 1) := by decide +kernel
theorem dX12_hasMore_33 : decode cX12_hasMore 33 = .ok (.iload_n 3, 1) := by decide +kernel
theorem dX12_hasMore_34 : decode cX12_hasMore 34 = .ok (.invokevirtual 109, 3) := by decide +kernel
theorem dX12_hasMore_37 : decode cX12_hasMore 37 = .ok (.bipush 7, 2) := by decide +kernel
theorem dX12_hasMore_39 : decode cX12_hasMore 39 = .ok (.iadd, 1) := by decide +kernel
theorem dX12_hasMore_40 : decode cX12_hasMore 40 = .ok (.iaload, 1) := by decide +kernel
theorem dX12_hasMore_41 : decode cX12_hasMore 41 = .ok (.baload, 1) := by decide +kernel
theorem dX12_hasMore_42 : decode cX12_hasMore 42 = .ok (.ifCond .ne 7, 3) := by decide +kernel
theorem dX12_hasMore_45 : decode cX12_hasMore 45 = .ok (.iconst 1, 1) := by decide +kernel
theorem dX12_hasMore_46 : decode cX12_hasMore 46 = .ok (.goto 4, 3) := by decide +kernel
theorem dX12_hasMore_49 : decode cX12_hasMore 49 = .ok (.iconst 0, 1) := by decide +kernel
theorem dX12_hasMore_50 : decode cX12_hasMore 50 = .ok (.istore_n 2, 1) := by decide +kernel
theorem dX12_hasMore_51 : decode cX12_hasMore 51 = .ok (.iinc 3 1, 3) := by decide +kernel
theorem dX12_hasMore_54 : decode cX12_hasMore 54 = .ok (.goto (-50), 3) := by decide +kernel
theorem dX12_hasMore_57 : decode cX12_hasMore 57 = .ok (.iload_n 2, 1) := by decide +kernel
theorem dX12_hasMore_58 : decode cX12_hasMore 58 = .ok (.ireturn, 1) := by decide +kernel
theorem dX12_pairsLeast_0 : decode cX12_pairsLeast 0 = .ok (.iconst 1, 1) := by decide +kernel
theorem dX12_pairsLeast_1 : decode cX12_pairsLeast 1 = .ok (.aload_n 0, 1) := by decide +kernel
theorem dX12_pairsLeast_2 : decode cX12_pairsLeast 2 = .ok (.getfield 242, 3) := by decide +kernel
theorem dX12_pairsLeast_5 : decode cX12_pairsLeast 5 = .ok (.ishl, 1) := by decide +kernel
theorem dX12_pairsLeast_6 : decode cX12_pairsLeast 6 = .ok (.iconst 1, 1) := by decide +kernel
theorem dX12_pairsLeast_7 : decode cX12_pairsLeast 7 = .ok (.isub, 1) := by decide +kernel
theorem dX12_pairsLeast_8 : decode cX12_pairsLeast 8 = .ok (.istore_n 1, 1) := by decide +kernel
theorem dX12_pairsLeast_9 : decode cX12_pairsLeast 9 = .ok (.aload_n 0, 1) := by decide +kernel
theorem dX12_pairsLeast_10 : decode cX12_pairsLeast 10 = .ok (.iload_n 1, 1) := by decide +kernel
theorem dX12_pairsLeast_11 : decode cX12_pairsLeast 11 = .ok (.invokevirtual 264, 3) := by decide +kernel
theorem dX12_pairsLeast_14 : decode cX12_pairsLeast 14 = .ok (.iload_n 1, 1) := by decide +kernel
theorem dX12_pairsLeast_15 : decode cX12_pairsLeast 15 = .ok (.ifCond .eq 109, 3) := by decide +kernel
theorem dX12_pairsLeast_18 : decode cX12_pairsLeast 18 = .ok (.iload_n 1, 1) := by decide +kernel
theorem dX12_pairsLeast_19 : decode cX12_pairsLeast 19 = .ok (.invokestatic 254, 3) := by decide +kernel
theorem dX12_pairsLeast_22 : decode cX12_pairsLeast 22 = .ok (.istore_n 2, 1) := by decide +kernel
theorem dX12_pairsLeast_23 : decode cX12_pairsLeast 23 = .ok (.iload_n 2, 1) := by decide +kernel
theorem dX12_pairsLeast_24 : decode cX12_pairsLeast 24 = .ok (.iconst 1, 1) := by decide +kernel
theorem dX12_pairsLeast_25 : decode cX12_pairsLeast 25 = .ok (.iadd, 1) := by decide +kernel
theorem dX12_pairsLeast_26 : decode cX12_pairsLeast 26 = .ok (.istore_n 3, 1) := by decide +kernel
theorem dX12_pairsLeast_27 : decode cX12_pairsLeast 27 = .ok (.iload_n 1, 1) := by decide +kernel
theorem dX12_pairsLeast_28 : decode cX12_pairsLeast 28 = .ok (.iload_n 3, 1) := by decide +kernel
theorem dX12_pairsLeast_29 : decode cX12_pairsLeast 29 = .ok (.ishr, 1) := by decide +kernel
theorem dX12_pairsLeast_30 : decode cX12_pairsLeast 30 = .ok (.iconst 1, 1) := by decide +kernel
theorem dX12_pairsLeast_31 : decode cX12_pairsLeast 31 = .ok (.iand, 1) := by decide +kernel
theorem dX12_pairsLeast_32 : decode cX12_pairsLeast 32 = .ok (.ifCond .eq 43, 3) := by decide +kernel
theorem dX12_pairsLeast_35 : decode cX12_pairsLeast 35 = .ok (.aload_n 0, 1) := by decide +kernel
theorem dX12_pairsLeast_36 : decode cX12_pairsLeast 36 = .ok (.aload_n 0, 1) := by decide +kernel
theorem dX12_pairsLeast_37 : decode cX12_pairsLeast 37 = .ok (.getfield 40, 3) := by decide +kernel
theorem dX12_pairsLeast_40 : decode cX12_pairsLeast 40 = .ok (.iload_n 2, 1) := by decide +kernel
theorem dX12_pairsLeast_41 : decode cX12_pairsLeast 41 = .ok (.iaload, 1) := by decide +kernel
theorem dX12_pairsLeast_42 : decode cX12_pairsLeast 42 = .ok (.aload_n 0, 1) := by decide +kernel
theorem dX12_pairsLeast_43 : decode cX12_pairsLeast 43 = .ok (.getfield 40, 3) := by decide +kernel
theorem dX12_pairsLeast_46 : decode cX12_pairsLeast 46 = .ok (.iload_n 3, 1) := by decide +kernel
theorem dX12_pairsLeast_47 : decode cX12_pairsLeast 47 = .ok (.iaload, 1) := by decide +kernel
theorem dX12_pairsLeast_48 : decode cX12_pairsLeast 48 = .ok (.invokevirtual 257, 3) := by decide +kernel
theorem dX12_pairsLeast_51 : decode cX12_pairsLeast 51 = .ok (.aload_n 0, 1) := by decide +kernel
theorem dX12_pairsLeast_52 : decode cX12_pairsLeast 52 = .ok (.getfield 46, 3) := by decide +kernel
theorem dX12_pairsLeast_55 : decode cX12_pairsLeast 55 = .ok (.iload_n 1, 1) := by decide +kernel
theorem dX12_pairsLeast_56 : decode cX12_pairsLeast 56 = .ok (.iconst 1, 1) := by decide +kernel
theorem dX12_pairsLeast_57 : decode cX12_pairsLeast 57 = .ok (.iload_n 2, 1) := by decide +kernel
theorem dX12_pairsLeast_58 : decode cX12_pairsLeast 58 = .ok (.ishl, 1) := by decide +kernel
theorem dX12_pairsLeast_59 : decode cX12_pairsLeast 59 = .ok (.ixor, 1) := by decide +kernel
theorem dX12_pairsLeast_60 : decode cX12_pairsLeast 60 = .ok (.iconst 1, 1) := by decide +kernel
theorem dX12_pairsLeast_61 : decode cX12_pairsLeast 61 = .ok (.iload_n 3, 1) := by decide +kernel
theorem dX12_pairsLeast_62 : decode cX12_pairsLeast 62 = .ok (.ishl, 1) := by decide +kernel
theorem dX12_pairsLeast_63 : decode cX12_pairsLeast 63 = .ok (.ixor, 1) := by decide +kernel
theorem dX12_pairsLeast_64 : decode cX12_pairsLeast 64 = .ok (.iaload, 1) := by decide +kernel
theorem dX12_pairsLeast_65 : decode cX12_pairsLeast 65 = .ok (.iadd, 1) := by decide +kernel
theorem dX12_pairsLeast_66 : decode cX12_pairsLeast 66 = .ok (.aload_n 0, 1) := by decide +kernel
theorem dX12_pairsLeast_67 : decode cX12_pairsLeast 67 = .ok (.getfield 46, 3) := by decide +kernel
theorem dX12_pairsLeast_70 : decode cX12_pairsLeast 70 = .ok (.iload_n 1, 1) := by decide +kernel
theorem dX12_pairsLeast_71 : decode cX12_pairsLeast 71 = .ok (.iaload, 1) := by decide +kernel
theorem dX12_pairsLeast_72 : decode cX12_pairsLeast 72 = .ok (.if_icmp .eq 9, 3) := by decide +kernel
theorem dX12_pairsLeast_75 : decode cX12_pairsLeast 75 = .ok (.iinc 3 1, 3) := by decide +kernel
theorem dX12_pairsLeast_78 : decode cX12_pairsLeast 78 = .ok (.goto (-51), 3) := by decide +kernel
theorem dX12_pairsLeast_81 : decode cX12_pairsLeast 81 = .ok (.aload_n 0, 1) := by decide +kernel
theorem dX12_pairsLeast_82 : decode cX12_pairsLeast 82 = .ok (.aload_n 0, 1) := by decide +kernel
theorem dX12_pairsLeast_83 : decode cX12_pairsLeast 83 = .ok (.getfield 285, 3) := by decide +kernel
theorem dX12_pairsLeast_86 : decode cX12_pairsLeast 86 = .ok (.aload_n 0, 1) := by decide +kernel
theorem dX12_pairsLeast_87 : decode cX12_pairsLeast 87 = .ok (.getfield 40, 3) := by decide +kernel
theorem dX12_pairsLeast_90 : decode cX12_pairsLeast 90 = .ok (.iload_n 2, 1) := by decide +kernel
theorem dX12_pairsLeast_91 : decode cX12_pairsLeast 91 = .ok (.iaload, 1) := by decide +kernel
theorem dX12_pairsLeast_92 : decode cX12_pairsLeast 92 = .ok (.aload_n 0, 1) := by decide +kernel
theorem dX12_pairsLeast_93 : decode cX12_pairsLeast 93 = .ok (.getfield 40, 3) := by decide +kernel
theorem dX12_pairsLeast_96 : decode cX12_pairsLeast 96 = .ok (.iload_n 3, 1) := by decide +kernel
theorem dX12_pairsLeast_97 : decode cX12_pairsLeast 97 = .ok (.iaload, 1) := by decide +kernel
theorem dX12_pairsLeast_98 : decode cX12_pairsLeast 98 = .ok (.invokevirtual 288, 3) := by decide +kernel
theorem dX12_pairsLeast_101 : decode cX12_pairsLeast 101 = .ok (.aload_n 0, 1) := by decide +kernel
theorem dX12_pairsLeast_102 : decode cX12_pairsLeast 102 = .ok (.dup, 1) := by decide +kernel
theorem dX12_pairsLeast_103 : decode cX12_pairsLeast 103 = .ok (.getfield 285, 3) := by decide +kernel
theorem dX12_pairsLeast_106 : decode cX12_pairsLeast 106 = .ok (.iconst 1, 1) := by decide +kernel
theorem dX12_pairsLeast_107 : decode cX12_pairsLeast 107 = .ok (.iadd, 1) := by decide +kernel
theorem dX12_pairsLeast_108 : decode cX12_pairsLeast 108 = .ok (.putfield 285, 3) := by decide +kernel
theorem dX12_pairsLeast_111 : decode cX12_pairsLeast 111 = .ok (.iload_n 1, 1) := by decide +kernel
theorem dX12_pairsLeast_112 : decode cX12_pairsLeast 112 = .ok (.iconst 1, 1) := by decide +kernel
theorem dX12_pairsLeast_113 : decode cX12_pairsLeast 113 = .ok (.iload_n 2, 1) := by decide +kernel
theorem dX12_pairsLeast_114 : decode cX12_pairsLeast 114 = .ok (.ishl, 1) := by decide +kernel
theorem dX12_pairsLeast_115 : decode cX12_pairsLeast 115 = .ok (.iconst 1, 1) := by decide +kernel
theorem dX12_pairsLeast_116 : decode cX12_pairsLeast 116 = .ok (.iload_n 3, 1) := by decide +kernel
theorem dX12_pairsLeast_117 : decode cX12_pairsLeast 117 = .ok (.ishl, 1) := by decide +kernel
theorem dX12_pairsLeast_118 : decode cX12_pairsLeast 118 = .ok (.ixor, 1) := by decide +kernel
theorem dX12_pairsLeast_119 : decode cX12_pairsLeast 119 = .ok (.ixor, 1) := by decide +kernel
theorem dX12_pairsLeast_120 : decode cX12_pairsLeast 120 = .ok (.istore_n 1, 1) := by decide +kernel
theorem dX12_pairsLeast_121 : decode cX12_pairsLeast 121 = .ok (.goto (-107), 3) := by decide +kernel
theorem dX12_pairsLeast_124 : decode cX12_pairsLeast 124 = .ok (.return_, 1) := by decide +kernel
theorem dX12_drivesAll_0 : decode cX12_drivesAll 0 = .ok (.iconst 0, 1) := by decide +kernel
theorem dX12_drivesAll_1 : decode cX12_drivesAll 1 = .ok (.istore_n 1, 1) := by decide +kernel
theorem dX12_drivesAll_2 : decode cX12_drivesAll 2 = .ok (.aload_n 0, 1) := by decide +kernel
theorem dX12_drivesAll_3 : decode cX12_drivesAll 3 = .ok (.iload_n 1, 1) := by decide +kernel
theorem dX12_drivesAll_4 : decode cX12_drivesAll 4 = .ok (.invokevirtual 300, 3) := by decide +kernel
theorem dX12_drivesAll_7 : decode cX12_drivesAll 7 = .ok (.istore_n 2, 1) := by decide +kernel
theorem dX12_drivesAll_8 : decode cX12_drivesAll 8 = .ok (.iload_n 2, 1) := by decide +kernel
theorem dX12_drivesAll_9 : decode cX12_drivesAll 9 = .ok (.iconst (-1), 1) := by decide +kernel
theorem dX12_drivesAll_10 : decode cX12_drivesAll 10 = .ok (.if_icmp .eq 71, 3) := by decide +kernel
theorem dX12_drivesAll_13 : decode cX12_drivesAll 13 = .ok (.aload_n 0, 1) := by decide +kernel
theorem dX12_drivesAll_14 : decode cX12_drivesAll 14 = .ok (.iload_n 2, 1) := by decide +kernel
theorem dX12_drivesAll_15 : decode cX12_drivesAll 15 = .ok (.iload_n 1, 1) := by decide +kernel
theorem dX12_drivesAll_16 : decode cX12_drivesAll 16 = .ok (.aload_n 0, 1) := by decide +kernel
theorem dX12_drivesAll_17 : decode cX12_drivesAll 17 = .ok (.getfield 64, 3) := by decide +kernel
theorem dX12_drivesAll_20 : decode cX12_drivesAll 20 = .ok (.iload_n 2, 1) := by decide +kernel
theorem dX12_drivesAll_21 : decode cX12_drivesAll 21 = .ok (.iaload, 1) := by decide +kernel
theorem dX12_drivesAll_22 : decode cX12_drivesAll 22 = .ok (.aload_n 0, 1) := by decide +kernel
theorem dX12_drivesAll_23 : decode cX12_drivesAll 23 = .ok (.getfield 7, 3) := by decide +kernel
theorem dX12_drivesAll_26 : decode cX12_drivesAll 26 = .ok (.aload_n 0, 1) := by decide +kernel
theorem dX12_drivesAll_27 : decode cX12_drivesAll 27 = .ok (.iload_n 2, 1) := by decide +kernel
theorem dX12_drivesAll_28 : decode cX12_drivesAll 28 = .ok (.invokevirtual 109, 3) := by decide +kernel
theorem dX12_drivesAll_31 : decode cX12_drivesAll 31 = .ok (.iconst 3, 1) := by decide +kernel
theorem dX12_drivesAll_32 : decode cX12_drivesAll 32 = .ok (.iadd, 1) := by decide +kernel
theorem dX12_drivesAll_33 : decode cX12_drivesAll 33 = .ok (.iaload, 1) := by decide +kernel
theorem dX12_drivesAll_34 : decode cX12_drivesAll 34 = .ok (.if_icmp .ge 7, 3) := by decide +kernel
theorem dX12_drivesAll_37 : decode cX12_drivesAll 37 = .ok (.iconst 1, 1) := by decide +kernel
theorem dX12_drivesAll_38 : decode cX12_drivesAll 38 = .ok (.goto 4, 3) := by decide +kernel
theorem dX12_drivesAll_41 : decode cX12_drivesAll 41 = .ok (.iconst 0, 1) := by decide +kernel
theorem dX12_drivesAll_42 : decode cX12_drivesAll 42 = .ok (.invokevirtual 303, 3) := by decide +kernel
theorem dX12_drivesAll_45 : decode cX12_drivesAll 45 = .ok (.aload_n 0, 1) := by decide +kernel
theorem dX12_drivesAll_46 : decode cX12_drivesAll 46 = .ok (.getfield 64, 3) := by decide +kernel
theorem dX12_drivesAll_49 : decode cX12_drivesAll 49 = .ok (.iload_n 2, 1) := by decide +kernel
theorem dX12_drivesAll_50 : decode cX12_drivesAll 50 = .ok (.dup2, 1) := by decide +kernel
theorem dX12_drivesAll_51 : decode cX12_drivesAll 51 = .ok (.iaload, 1) := by decide +kernel
theorem dX12_drivesAll_52 : decode cX12_drivesAll 52 = .ok (.iconst 1, 1) := by decide +kernel
theorem dX12_drivesAll_53 : decode cX12_drivesAll 53 = .ok (.iadd, 1) := by decide +kernel
theorem dX12_drivesAll_54 : decode cX12_drivesAll 54 = .ok (.iastore, 1) := by decide +kernel
theorem dX12_drivesAll_55 : decode cX12_drivesAll 55 = .ok (.aload_n 0, 1) := by decide +kernel
theorem dX12_drivesAll_56 : decode cX12_drivesAll 56 = .ok (.getfield 37, 3) := by decide +kernel
theorem dX12_drivesAll_59 : decode cX12_drivesAll 59 = .ok (.iload_n 2, 1) := by decide +kernel
theorem dX12_drivesAll_60 : decode cX12_drivesAll 60 = .ok (.dup2, 1) := by decide +kernel
theorem dX12_drivesAll_61 : decode cX12_drivesAll 61 = .ok (.iaload, 1) := by decide +kernel
theorem dX12_drivesAll_62 : decode cX12_drivesAll 62 = .ok (.iconst 1, 1) := by decide +kernel
theorem dX12_drivesAll_63 : decode cX12_drivesAll 63 = .ok (.isub, 1) := by decide +kernel
theorem dX12_drivesAll_64 : decode cX12_drivesAll 64 = .ok (.iastore, 1) := by decide +kernel
theorem dX12_drivesAll_65 : decode cX12_drivesAll 65 = .ok (.aload_n 0, 1) := by decide +kernel
theorem dX12_drivesAll_66 : decode cX12_drivesAll 66 = .ok (.iload_n 2, 1) := by decide +kernel
theorem dX12_drivesAll_67 : decode cX12_drivesAll 67 = .ok (.iload_n 1, 1) := by decide +kernel
theorem dX12_drivesAll_68 : decode cX12_drivesAll 68 = .ok (.invokevirtual 130, 3) := by decide +kernel
theorem dX12_drivesAll_71 : decode cX12_drivesAll 71 = .ok (.istore_n 1, 1) := by decide +kernel
theorem dX12_drivesAll_72 : decode cX12_drivesAll 72 = .ok (.aload_n 0, 1) := by decide +kernel
theorem dX12_drivesAll_73 : decode cX12_drivesAll 73 = .ok (.iload_n 1, 1) := by decide +kernel
theorem dX12_drivesAll_74 : decode cX12_drivesAll 74 = .ok (.invokevirtual 300, 3) := by decide +kernel
theorem dX12_drivesAll_77 : decode cX12_drivesAll 77 = .ok (.istore_n 2, 1) := by decide +kernel
theorem dX12_drivesAll_78 : decode cX12_drivesAll 78 = .ok (.goto (-70), 3) := by decide +kernel
theorem dX12_drivesAll_81 : decode cX12_drivesAll 81 = .ok (.return_, 1) := by decide +kernel
theorem dX12_nextStreet_0 : decode cX12_nextStreet 0 = .ok (.iconst 0, 1) := by decide +kernel
theorem dX12_nextStreet_1 : decode cX12_nextStreet 1 = .ok (.istore_n 2, 1) := by decide +kernel
theorem dX12_nextStreet_2 : decode cX12_nextStreet 2 = .ok (.iload_n 2, 1) := by decide +kernel
theorem dX12_nextStreet_3 : decode cX12_nextStreet 3 = .ok (.aload_n 0, 1) := by decide +kernel
theorem dX12_nextStreet_4 : decode cX12_nextStreet 4 = .ok (.getfield 7, 3) := by decide +kernel
theorem dX12_nextStreet_7 : decode cX12_nextStreet 7 = .ok (.iconst 1, 1) := by decide +kernel
theorem dX12_nextStreet_8 : decode cX12_nextStreet 8 = .ok (.iaload, 1) := by decide +kernel
theorem dX12_nextStreet_9 : decode cX12_nextStreet 9 = .ok (.if_icmp .ge 88, 3) := by decide +kernel
theorem dX12_nextStreet_12 : decode cX12_nextStreet 12 = .ok (.aload_n 0, 1) := by decide +kernel
theorem dX12_nextStreet_13 : decode cX12_nextStreet 13 = .ok (.getfield 37, 3) := by decide +kernel
theorem dX12_nextStreet_16 : decode cX12_nextStreet 16 = .ok (.iload_n 2, 1) := by decide +kernel
theorem dX12_nextStreet_17 : decode cX12_nextStreet 17 = .ok (.iaload, 1) := by decide +kernel
theorem dX12_nextStreet_18 : decode cX12_nextStreet 18 = .ok (.ifCond .le 12, 3) := by decide +kernel
theorem dX12_nextStreet_21 : decode cX12_nextStreet 21 = .ok (.aload_n 0, 1) := by decide +kernel
theorem dX12_nextStreet_22 : decode cX12_nextStreet 22 = .ok (.iload_n 2, 1) := by decide +kernel
theorem dX12_nextStreet_23 : decode cX12_nextStreet 23 = .ok (.iload_n 1, 1) := by decide +kernel
theorem dX12_nextStreet_24 : decode cX12_nextStreet 24 = .ok (.invokevirtual 130, 3) := by decide +kernel
theorem dX12_nextStreet_27 : decode cX12_nextStreet 27 = .ok (.goto 4, 3) := by decide +kernel
theorem dX12_nextStreet_30 : decode cX12_nextStreet 30 = .ok (.iconst (-1), 1) := by decide +kernel
theorem dX12_nextStreet_31 : decode cX12_nextStreet 31 = .ok (.istore_n 3, 1) := by decide +kernel
theorem dX12_nextStreet_32 : decode cX12_nextStreet 32 = .ok (.iload_n 3, 1) := by decide +kernel
theorem dX12_nextStreet_33 : decode cX12_nextStreet 33 = .ok (.iconst (-1), 1) := by decide +kernel
theorem dX12_nextStreet_34 : decode cX12_nextStreet 34 = .ok (.if_icmp .eq 57, 3) := by decide +kernel
theorem dX12_nextStreet_37 : decode cX12_nextStreet 37 = .ok (.aload_n 0, 1) := by decide +kernel
theorem dX12_nextStreet_38 : decode cX12_nextStreet 38 = .ok (.getfield 37, 3) := by decide +kernel
theorem dX12_nextStreet_41 : decode cX12_nextStreet 41 = .ok (.iload_n 2, 1) := by decide +kernel
theorem dX12_nextStreet_42 : decode cX12_nextStreet 42 = .ok (.dup2, 1) := by decide +kernel
theorem dX12_nextStreet_43 : decode cX12_nextStreet 43 = .ok (.iaload, 1) := by decide +kernel
theorem dX12_nextStreet_44 : decode cX12_nextStreet 44 = .ok (.iconst 1, 1) := by decide +kernel
theorem dX12_nextStreet_45 : decode cX12_nextStreet 45 = .ok (.isub, 1) := by decide +kernel
theorem dX12_nextStreet_46 : decode cX12_nextStreet 46 = .ok (.iastore, 1) := by decide +kernel
theorem dX12_nextStreet_47 : decode cX12_nextStreet 47 = .ok (.aload_n 0, 1) := by decide +kernel
theorem dX12_nextStreet_48 : decode cX12_nextStreet 48 = .ok (.iload_n 3, 1) := by decide +kernel
theorem dX12_nextStreet_49 : decode cX12_nextStreet 49 = .ok (.aload_n 0, 1) := by decide +kernel
theorem dX12_nextStreet_50 : decode cX12_nextStreet 50 = .ok (.getfield 37, 3) := by decide +kernel
theorem dX12_nextStreet_53 : decode cX12_nextStreet 53 = .ok (.invokevirtual 270, 3) := by decide +kernel
theorem dX12_nextStreet_56 : decode cX12_nextStreet 56 = .ok (.aload_n 0, 1) := by decide +kernel
theorem dX12_nextStreet_57 : decode cX12_nextStreet 57 = .ok (.aload_n 0, 1) := by decide +kernel
theorem dX12_nextStreet_58 : decode cX12_nextStreet 58 = .ok (.getfield 37, 3) := by decide +kernel
theorem dX12_nextStreet_61 : decode cX12_nextStreet 61 = .ok (.invokevirtual 274, 3) := by decide +kernel
theorem dX12_nextStreet_64 : decode cX12_nextStreet 64 = .ok (.ifCond .ne 7, 3) := by decide +kernel
theorem dX12_nextStreet_67 : decode cX12_nextStreet 67 = .ok (.iconst 1, 1) := by decide +kernel
theorem dX12_nextStreet_68 : decode cX12_nextStreet 68 = .ok (.goto 4, 3) := by decide +kernel
theorem dX12_nextStreet_71 : decode cX12_nextStreet 71 = .ok (.iconst 0, 1) := by decide +kernel
theorem dX12_nextStreet_72 : decode cX12_nextStreet 72 = .ok (.istore 4, 2) := by decide +kernel
theorem dX12_nextStreet_74 : decode cX12_nextStreet 74 = .ok (.aload_n 0, 1) := by decide +kernel
theorem dX12_nextStreet_75 : decode cX12_nextStreet 75 = .ok (.getfield 37, 3) := by decide +kernel
theorem dX12_nextStreet_78 : decode cX12_nextStreet 78 = .ok (.iload_n 2, 1) := by decide +kernel
theorem dX12_nextStreet_79 : decode cX12_nextStreet 79 = .ok (.dup2, 1) := by decide +kernel
theorem dX12_nextStreet_80 : decode cX12_nextStreet 80 = .ok (.iaload, 1) := by decide +kernel
theorem dX12_nextStreet_81 : decode cX12_nextStreet 81 = .ok (.iconst 1, 1) := by decide +kernel
theorem dX12_nextStreet_82 : decode cX12_nextStreet 82 = .ok (.iadd, 1) := by decide +kernel
theorem dX12_nextStreet_83 : decode cX12_nextStreet 83 = .ok (.iastore, 1) := by decide +kernel
theorem dX12_nextStreet_84 : decode cX12_nextStreet 84 = .ok (.iload 4, 2) := by decide +kernel
theorem dX12_nextStreet_86 : decode cX12_nextStreet 86 = .ok (.ifCond .eq 5, 3) := by decide +kernel
theorem dX12_nextStreet_89 : decode cX12_nextStreet 89 = .ok (.iload_n 2, 1) := by decide +kernel
theorem dX12_nextStreet_90 : decode cX12_nextStreet 90 = .ok (.ireturn, 1) := by decide +kernel
theorem dX12_nextStreet_91 : decode cX12_nextStreet 91 = .ok (.iinc 2 1, 3) := by decide +kernel
theorem dX12_nextStreet_94 : decode cX12_nextStreet 94 = .ok (.goto (-92), 3) := by decide +kernel
theorem dX12_nextStreet_97 : decode cX12_nextStreet 97 = .ok (.iconst (-1), 1) := by decide +kernel
theorem dX12_nextStreet_98 : decode cX12_nextStreet 98 = .ok (.ireturn, 1) := by decide +kernel
theorem dX12_whole_0 : decode cX12_whole 0 = .ok (.fload_n 1, 1) := by decide +kernel
theorem dX12_whole_1 : decode cX12_whole 1 = .ok (.f2i, 1) := by decide +kernel
theorem dX12_whole_2 : decode cX12_whole 2 = .ok (.ldc 155, 2) := by decide +kernel
theorem dX12_whole_4 : decode cX12_whole 4 = .ok (.invokestatic 156, 3) := by decide +kernel
theorem dX12_whole_7 : decode cX12_whole 7 = .ok (.ireturn, 1) := by decide +kernel
theorem dX12_at_0 : decode cX12_at 0 = .ok (.iload_n 2, 1) := by decide +kernel
theorem dX12_at_1 : decode cX12_at 1 = .ok (.iconst 0, 1) := by decide +kernel
theorem dX12_at_2 : decode cX12_at 2 = .ok (.iconst 3, 1) := by decide +kernel
theorem dX12_at_3 : decode cX12_at 3 = .ok (.invokestatic 88, 3) := by decide +kernel
theorem dX12_at_6 : decode cX12_at 6 = .ok (.ifCond .ne 10, 3) := by decide +kernel
theorem dX12_at_9 : decode cX12_at 9 = .ok (.aload_n 0, 1) := by decide +kernel
theorem dX12_at_10 : decode cX12_at 10 = .ok (.bipush (-2), 2) := by decide +kernel
theorem dX12_at_12 : decode cX12_at 12 = .ok (.invokevirtual 92, 3) := by decide +kernel
theorem dX12_at_15 : decode cX12_at 15 = .ok (.ireturn, 1) := by decide +kernel
theorem dX12_at_16 : decode cX12_at 16 = .ok (.aload_n 0, 1) := by decide +kernel
theorem dX12_at_17 : decode cX12_at 17 = .ok (.iload_n 1, 1) := by decide +kernel
theorem dX12_at_18 : decode cX12_at 18 = .ok (.iconst 0, 1) := by decide +kernel
theorem dX12_at_19 : decode cX12_at 19 = .ok (.aload_n 0, 1) := by decide +kernel
theorem dX12_at_20 : decode cX12_at 20 = .ok (.getfield 7, 3) := by decide +kernel
theorem dX12_at_23 : decode cX12_at 23 = .ok (.iconst 4, 1) := by decide +kernel
theorem dX12_at_24 : decode cX12_at 24 = .ok (.iaload, 1) := by decide +kernel
theorem dX12_at_25 : decode cX12_at 25 = .ok (.iconst 1, 1) := by decide +kernel
theorem dX12_at_26 : decode cX12_at 26 = .ok (.isub, 1) := by decide +kernel
theorem dX12_at_27 : decode cX12_at 27 = .ok (.invokestatic 88, 3) := by decide +kernel
theorem dX12_at_30 : decode cX12_at 30 = .ok (.ifCond .eq 12, 3) := by decide +kernel
theorem dX12_at_33 : decode cX12_at 33 = .ok (.aload_n 0, 1) := by decide +kernel
theorem dX12_at_34 : decode cX12_at 34 = .ok (.iload_n 1, 1) := by decide +kernel
theorem dX12_at_35 : decode cX12_at 35 = .ok (.iload_n 2, 1) := by decide +kernel
theorem dX12_at_36 : decode cX12_at 36 = .ok (.invokevirtual 332, 3) := by decide +kernel
theorem dX12_at_39 : decode cX12_at 39 = .ok (.goto 4, 3) := by decide +kernel
theorem dX12_at_42 : decode cX12_at 42 = .ok (.iconst (-1), 1) := by decide +kernel
theorem dX12_at_43 : decode cX12_at 43 = .ok (.invokevirtual 102, 3) := by decide +kernel
theorem dX12_at_46 : decode cX12_at 46 = .ok (.ireturn, 1) := by decide +kernel
theorem dX12_length_0 : decode cX12_length 0 = .ok (.iconst 0, 1) := by decide +kernel
theorem dX12_length_1 : decode cX12_length 1 = .ok (.istore_n 2, 1) := by decide +kernel
theorem dX12_length_2 : decode cX12_length 2 = .ok (.iconst 0, 1) := by decide +kernel
theorem dX12_length_3 : decode cX12_length 3 = .ok (.istore_n 3, 1) := by decide +kernel
theorem dX12_length_4 : decode cX12_length 4 = .ok (.iconst 0, 1) := by decide +kernel
theorem dX12_length_5 : decode cX12_length 5 = .ok (.istore 4, 2) := by decide +kernel
theorem dX12_length_7 : decode cX12_length 7 = .ok (.iload 4, 2) := by decide +kernel
theorem dX12_length_9 : decode cX12_length 9 = .ok (.aload_n 0, 1) := by decide +kernel
theorem dX12_length_10 : decode cX12_length 10 = .ok (.getfield 7, 3) := by decide +kernel
theorem dX12_length_13 : decode cX12_length 13 = .ok (.iconst 4, 1) := by decide +kernel
theorem dX12_length_14 : decode cX12_length 14 = .ok (.iaload, 1) := by decide +kernel
theorem dX12_length_15 : decode cX12_length 15 = .ok (.if_icmp .ge 55, 3) := by decide +kernel
theorem dX12_length_18 : decode cX12_length 18 = .ok (.iload_n 2, 1) := by decide +kernel
theorem dX12_length_19 : decode cX12_length 19 = .ok (.aload_n 0, 1) := by decide +kernel
theorem dX12_length_20 : decode cX12_length 20 = .ok (.getfield 7, 3) := by decide +kernel
theorem dX12_length_23 : decode cX12_length 23 = .ok (.aload_n 0, 1) := by decide +kernel
theorem dX12_length_24 : decode cX12_length 24 = .ok (.aload_n 0, 1) := by decide +kernel
theorem dX12_length_25 : decode cX12_length 25 = .ok (.getfield 7, 3) := by decide +kernel
theorem dX12_length_28 : decode cX12_length 28 = .ok (.sipush 9642, 3) := by decide +kernel
theorem dX12_length_31 : decode cX12_length 31 = .ok (.iconst 3, 1) := by decide +kernel
theorem dX12_length_32 : decode cX12_length 32 = .ok (.iload 4, 2) := by decide +kernel
theorem dX12_length_34 : decode cX12_length 34 = .ok (.imul, 1) := by decide +kernel
theorem dX12_length_35 : decode cX12_length 35 = .ok (.iadd, 1) := by decide +kernel
theorem dX12_length_36 : decode cX12_length 36 = .ok (.iaload, 1) := by decide +kernel
theorem dX12_length_37 : decode cX12_length 37 = .ok (.invokevirtual 109, 3) := by decide +kernel
theorem dX12_length_40 : decode cX12_length 40 = .ok (.bipush 6, 2) := by decide +kernel
theorem dX12_length_42 : decode cX12_length 42 = .ok (.iadd, 1) := by decide +kernel
theorem dX12_length_43 : decode cX12_length 43 = .ok (.iaload, 1) := by decide +kernel
theorem dX12_length_44 : decode cX12_length 44 = .ok (.iadd, 1) := by decide +kernel
theorem dX12_length_45 : decode cX12_length 45 = .ok (.istore_n 2, 1) := by decide +kernel
theorem dX12_length_46 : decode cX12_length 46 = .ok (.iload_n 3, 1) := by decide +kernel
theorem dX12_length_47 : decode cX12_length 47 = .ok (.aload_n 0, 1) := by decide +kernel
theorem dX12_length_48 : decode cX12_length 48 = .ok (.getfield 7, 3) := by decide +kernel
theorem dX12_length_51 : decode cX12_length 51 = .ok (.sipush 9642, 3) := by decide +kernel
theorem dX12_length_54 : decode cX12_length 54 = .ok (.iconst 3, 1) := by decide +kernel
theorem dX12_length_55 : decode cX12_length 55 = .ok (.iload 4, 2) := by decide +kernel
theorem dX12_length_57 : decode cX12_length 57 = .ok (.imul, 1) := by decide +kernel
theorem dX12_length_58 : decode cX12_length 58 = .ok (.iadd, 1) := by decide +kernel
theorem dX12_length_59 : decode cX12_length 59 = .ok (.iconst 2, 1) := by decide +kernel
theorem dX12_length_60 : decode cX12_length 60 = .ok (.iadd, 1) := by decide +kernel
theorem dX12_length_61 : decode cX12_length 61 = .ok (.iaload, 1) := by decide +kernel
theorem dX12_length_62 : decode cX12_length 62 = .ok (.iadd, 1) := by decide +kernel
theorem dX12_length_63 : decode cX12_length 63 = .ok (.istore_n 3, 1) := by decide +kernel
theorem dX12_length_64 : decode cX12_length 64 = .ok (.iinc 4 1, 3) := by decide +kernel
theorem dX12_length_67 : decode cX12_length 67 = .ok (.goto (-60), 3) := by decide +kernel
theorem dX12_length_70 : decode cX12_length 70 = .ok (.iload_n 1, 1) := by decide +kernel
theorem dX12_length_71 : decode cX12_length 71 = .ok (.tableswitch 111 0 6 #[41, 52, 58, 64, 76, 88, 100], 41) := by decide +kernel
theorem dX12_length_112 : decode cX12_length 112 = .ok (.aload_n 0, 1) := by decide +kernel
theorem dX12_length_113 : decode cX12_length 113 = .ok (.aload_n 0, 1) := by decide +kernel
theorem dX12_length_114 : decode cX12_length 114 = .ok (.getfield 7, 3) := by decide +kernel
theorem dX12_length_117 : decode cX12_length 117 = .ok (.iconst 4, 1) := by decide +kernel
theorem dX12_length_118 : decode cX12_length 118 = .ok (.iaload, 1) := by decide +kernel
theorem dX12_length_119 : decode cX12_length 119 = .ok (.invokevirtual 102, 3) := by decide +kernel
theorem dX12_length_122 : decode cX12_length 122 = .ok (.ireturn, 1) := by decide +kernel
theorem dX12_length_123 : decode cX12_length 123 = .ok (.aload_n 0, 1) := by decide +kernel
theorem dX12_length_124 : decode cX12_length 124 = .ok (.iload_n 2, 1) := by decide +kernel
theorem dX12_length_125 : decode cX12_length 125 = .ok (.invokevirtual 102, 3) := by decide +kernel
theorem dX12_length_128 : decode cX12_length 128 = .ok (.ireturn, 1) := by decide +kernel
theorem dX12_length_129 : decode cX12_length 129 = .ok (.aload_n 0, 1) := by decide +kernel
theorem dX12_length_130 : decode cX12_length 130 = .ok (.iload_n 3, 1) := by decide +kernel
theorem dX12_length_131 : decode cX12_length 131 = .ok (.invokevirtual 102, 3) := by decide +kernel
theorem dX12_length_134 : decode cX12_length 134 = .ok (.ireturn, 1) := by decide +kernel
theorem dX12_length_135 : decode cX12_length 135 = .ok (.aload_n 0, 1) := by decide +kernel
theorem dX12_length_136 : decode cX12_length 136 = .ok (.aload_n 0, 1) := by decide +kernel
theorem dX12_length_137 : decode cX12_length 137 = .ok (.getfield 7, 3) := by decide +kernel
theorem dX12_length_140 : decode cX12_length 140 = .ok (.bipush 6, 2) := by decide +kernel
theorem dX12_length_142 : decode cX12_length 142 = .ok (.iaload, 1) := by decide +kernel
theorem dX12_length_143 : decode cX12_length 143 = .ok (.invokevirtual 102, 3) := by decide +kernel
theorem dX12_length_146 : decode cX12_length 146 = .ok (.ireturn, 1) := by decide +kernel
theorem dX12_length_147 : decode cX12_length 147 = .ok (.aload_n 0, 1) := by decide +kernel
theorem dX12_length_148 : decode cX12_length 148 = .ok (.aload_n 0, 1) := by decide +kernel
theorem dX12_length_149 : decode cX12_length 149 = .ok (.getfield 7, 3) := by decide +kernel
theorem dX12_length_152 : decode cX12_length 152 = .ok (.bipush 7, 2) := by decide +kernel
theorem dX12_length_154 : decode cX12_length 154 = .ok (.iaload, 1) := by decide +kernel
theorem dX12_length_155 : decode cX12_length 155 = .ok (.invokevirtual 102, 3) := by decide +kernel
theorem dX12_length_158 : decode cX12_length 158 = .ok (.ireturn, 1) := by decide +kernel
theorem dX12_length_159 : decode cX12_length 159 = .ok (.aload_n 0, 1) := by decide +kernel
theorem dX12_length_160 : decode cX12_length 160 = .ok (.aload_n 0, 1) := by decide +kernel
theorem dX12_length_161 : decode cX12_length 161 = .ok (.getfield 7, 3) := by decide +kernel
theorem dX12_length_164 : decode cX12_length 164 = .ok (.bipush 8, 2) := by decide +kernel
theorem dX12_length_166 : decode cX12_length 166 = .ok (.iaload, 1) := by decide +kernel
theorem dX12_length_167 : decode cX12_length 167 = .ok (.invokevirtual 102, 3) := by decide +kernel
theorem dX12_length_170 : decode cX12_length 170 = .ok (.ireturn, 1) := by decide +kernel
theorem dX12_length_171 : decode cX12_length 171 = .ok (.aload_n 0, 1) := by decide +kernel
theorem dX12_length_172 : decode cX12_length 172 = .ok (.aload_n 0, 1) := by decide +kernel
theorem dX12_length_173 : decode cX12_length 173 = .ok (.getfield 7, 3) := by decide +kernel
theorem dX12_length_176 : decode cX12_length 176 = .ok (.iconst 5, 1) := by decide +kernel
theorem dX12_length_177 : decode cX12_length 177 = .ok (.iaload, 1) := by decide +kernel
theorem dX12_length_178 : decode cX12_length 178 = .ok (.invokevirtual 102, 3) := by decide +kernel
theorem dX12_length_181 : decode cX12_length 181 = .ok (.ireturn, 1) := by decide +kernel
theorem dX12_length_182 : decode cX12_length 182 = .ok (.aload_n 0, 1) := by decide +kernel
theorem dX12_length_183 : decode cX12_length 183 = .ok (.bipush (-2), 2) := by decide +kernel
theorem dX12_length_185 : decode cX12_length 185 = .ok (.invokevirtual 92, 3) := by decide +kernel
theorem dX12_length_188 : decode cX12_length 188 = .ok (.ireturn, 1) := by decide +kernel
theorem dX12_partner_0 : decode cX12_partner 0 = .ok (.aload_n 0, 1) := by decide +kernel
theorem dX12_partner_1 : decode cX12_partner 1 = .ok (.iload_n 1, 1) := by decide +kernel
theorem dX12_partner_2 : decode cX12_partner 2 = .ok (.invokevirtual 105, 3) := by decide +kernel
theorem dX12_partner_5 : decode cX12_partner 5 = .ok (.ifCond .eq 20, 3) := by decide +kernel
theorem dX12_partner_8 : decode cX12_partner 8 = .ok (.aload_n 0, 1) := by decide +kernel
theorem dX12_partner_9 : decode cX12_partner 9 = .ok (.aload_n 0, 1) := by decide +kernel
theorem dX12_partner_10 : decode cX12_partner 10 = .ok (.getfield 7, 3) := by decide +kernel
theorem dX12_partner_13 : decode cX12_partner 13 = .ok (.sipush 9582, 3) := by decide +kernel
theorem dX12_partner_16 : decode cX12_partner 16 = .ok (.iload_n 1, 1) := by decide +kernel
theorem dX12_partner_17 : decode cX12_partner 17 = .ok (.iadd, 1) := by decide +kernel
theorem dX12_partner_18 : decode cX12_partner 18 = .ok (.iaload, 1) := by decide +kernel
theorem dX12_partner_19 : decode cX12_partner 19 = .ok (.invokevirtual 102, 3) := by decide +kernel
theorem dX12_partner_22 : decode cX12_partner 22 = .ok (.goto 9, 3) := by decide +kernel
theorem dX12_partner_25 : decode cX12_partner 25 = .ok (.aload_n 0, 1) := by decide +kernel
theorem dX12_partner_26 : decode cX12_partner 26 = .ok (.bipush (-2), 2) := by decide +kernel
theorem dX12_partner_28 : decode cX12_partner 28 = .ok (.invokevirtual 92, 3) := by decide +kernel
theorem dX12_partner_31 : decode cX12_partner 31 = .ok (.ireturn, 1) := by decide +kernel
theorem dX12_split_0 : decode cX12_split 0 = .ok (.iconst 0, 1) := by decide +kernel
theorem dX12_split_1 : decode cX12_split 1 = .ok (.istore_n 1, 1) := by decide +kernel
theorem dX12_split_2 : decode cX12_split 2 = .ok (.iconst 0, 1) := by decide +kernel
theorem dX12_split_3 : decode cX12_split 3 = .ok (.istore_n 2, 1) := by decide +kernel
theorem dX12_split_4 : decode cX12_split 4 = .ok (.iload_n 2, 1) := by decide +kernel
theorem dX12_split_5 : decode cX12_split 5 = .ok (.aload_n 0, 1) := by decide +kernel
theorem dX12_split_6 : decode cX12_split 6 = .ok (.getfield 7, 3) := by decide +kernel
theorem dX12_split_9 : decode cX12_split 9 = .ok (.iconst 3, 1) := by decide +kernel
theorem dX12_split_10 : decode cX12_split 10 = .ok (.iaload, 1) := by decide +kernel
theorem dX12_split_11 : decode cX12_split 11 = .ok (.if_icmp .ge 142, 3) := by decide +kernel
theorem dX12_split_14 : decode cX12_split 14 = .ok (.aload_n 0, 1) := by decide +kernel
theorem dX12_split_15 : decode cX12_split 15 = .ok (.getfield 67, 3) := by decide +kernel
theorem dX12_split_18 : decode cX12_split 18 = .ok (.iload_n 2, 1) := by decide +kernel
theorem dX12_split_19 : decode cX12_split 19 = .ok (.iload_n 1, 1) := by decide +kernel
theorem dX12_split_20 : decode cX12_split 20 = .ok (.iastore, 1) := by decide +kernel
theorem dX12_split_21 : decode cX12_split 21 = .ok (.aload_n 0, 1) := by decide +kernel
theorem dX12_split_22 : decode cX12_split 22 = .ok (.getfield 73, 3) := by decide +kernel
theorem dX12_split_25 : decode cX12_split 25 = .ok (.iload_n 2, 1) := by decide +kernel
theorem dX12_split_26 : decode cX12_split 26 = .ok (.iconst 0, 1) := by decide +kernel
theorem dX12_split_27 : decode cX12_split 27 = .ok (.iastore, 1) := by decide +kernel
theorem dX12_split_28 : decode cX12_split 28 = .ok (.aload_n 0, 1) := by decide +kernel
theorem dX12_split_29 : decode cX12_split 29 = .ok (.getfield 7, 3) := by decide +kernel
theorem dX12_split_32 : decode cX12_split 32 = .ok (.aload_n 0, 1) := by decide +kernel
theorem dX12_split_33 : decode cX12_split 33 = .ok (.iload_n 2, 1) := by decide +kernel
theorem dX12_split_34 : decode cX12_split 34 = .ok (.invokevirtual 188, 3) := by decide +kernel
theorem dX12_split_37 : decode cX12_split 37 = .ok (.iconst 2, 1) := by decide +kernel
theorem dX12_split_38 : decode cX12_split 38 = .ok (.iadd, 1) := by decide +kernel
theorem dX12_split_39 : decode cX12_split 39 = .ok (.iaload, 1) := by decide +kernel
theorem dX12_split_40 : decode cX12_split 40 = .ok (.ifCond .ne 7, 3) := by decide +kernel
theorem dX12_split_43 : decode cX12_split 43 = .ok (.iconst 1, 1) := by decide +kernel
theorem dX12_split_44 : decode cX12_split 44 = .ok (.goto 4, 3) := by decide +kernel
theorem dX12_split_47 : decode cX12_split 47 = .ok (.iconst 0, 1) := by decide +kernel
theorem dX12_split_48 : decode cX12_split 48 = .ok (.istore_n 3, 1) := by decide +kernel
theorem dX12_split_49 : decode cX12_split 49 = .ok (.iload_n 3, 1) := by decide +kernel
theorem dX12_split_50 : decode cX12_split 50 = .ok (.ifCond .eq 90, 3) := by decide +kernel
theorem dX12_split_53 : decode cX12_split 53 = .ok (.iload_n 1, 1) := by decide +kernel
theorem dX12_split_54 : decode cX12_split 54 = .ok (.aload_n 0, 1) := by decide +kernel
theorem dX12_split_55 : decode cX12_split 55 = .ok (.getfield 7, 3) := by decide +kernel
theorem dX12_split_58 : decode cX12_split 58 = .ok (.iconst 4, 1) := by decide +kernel
theorem dX12_split_59 : decode cX12_split 59 = .ok (.iaload, 1) := by decide +kernel
theorem dX12_split_60 : decode cX12_split 60 = .ok (.if_icmp .ge 80, 3) := by decide +kernel
theorem dX12_split_63 : decode cX12_split 63 = .ok (.aload_n 0, 1) := by decide +kernel
theorem dX12_split_64 : decode cX12_split 64 = .ok (.iload_n 2, 1) := by decide +kernel
theorem dX12_split_65 : decode cX12_split 65 = .ok (.iload_n 1, 1) := by decide +kernel
theorem dX12_split_66 : decode cX12_split 66 = .ok (.invokevirtual 335, 3) := by decide +kernel
theorem dX12_split_69 : decode cX12_split 69 = .ok (.istore 4, 2) := by decide +kernel
theorem dX12_split_71 : decode cX12_split 71 = .ok (.iload 4, 2) := by decide +kernel
theorem dX12_split_73 : decode cX12_split 73 = .ok (.ifCond .lt 31, 3) := by decide +kernel
theorem dX12_split_76 : decode cX12_split 76 = .ok (.aload_n 0, 1) := by decide +kernel
theorem dX12_split_77 : decode cX12_split 77 = .ok (.getfield 73, 3) := by decide +kernel
theorem dX12_split_80 : decode cX12_split 80 = .ok (.iload_n 2, 1) := by decide +kernel
theorem dX12_split_81 : decode cX12_split 81 = .ok (.iaload, 1) := by decide +kernel
theorem dX12_split_82 : decode cX12_split 82 = .ok (.iload 4, 2) := by decide +kernel
theorem dX12_split_84 : decode cX12_split 84 = .ok (.iadd, 1) := by decide +kernel
theorem dX12_split_85 : decode cX12_split 85 = .ok (.aload_n 0, 1) := by decide +kernel
theorem dX12_split_86 : decode cX12_split 86 = .ok (.getfield 7, 3) := by decide +kernel
theorem dX12_split_89 : decode cX12_split 89 = .ok (.aload_n 0, 1) := by decide +kernel
theorem dX12_split_90 : decode cX12_split 90 = .ok (.iload_n 2, 1) := by decide +kernel
theorem dX12_split_91 : decode cX12_split 91 = .ok (.invokevirtual 188, 3) := by decide +kernel
theorem dX12_split_94 : decode cX12_split 94 = .ok (.iconst 1, 1) := by decide +kernel
theorem dX12_split_95 : decode cX12_split 95 = .ok (.iadd, 1) := by decide +kernel
theorem dX12_split_96 : decode cX12_split 96 = .ok (.iaload, 1) := by decide +kernel
theorem dX12_split_97 : decode cX12_split 97 = .ok (.if_icmp .gt 7, 3) := by decide +kernel
theorem dX12_split_100 : decode cX12_split 100 = .ok (.iconst 1, 1) := by decide +kernel
theorem dX12_split_101 : decode cX12_split 101 = .ok (.goto 4, 3) := by decide +kernel
theorem dX12_split_104 : decode cX12_split 104 = .ok (.iconst 0, 1) := by decide +kernel
theorem dX12_split_105 : decode cX12_split 105 = .ok (.istore_n 3, 1) := by decide +kernel
theorem dX12_split_106 : decode cX12_split 106 = .ok (.aload_n 0, 1) := by decide +kernel
theorem dX12_split_107 : decode cX12_split 107 = .ok (.getfield 73, 3) := by decide +kernel
theorem dX12_split_110 : decode cX12_split 110 = .ok (.iload_n 2, 1) := by decide +kernel
theorem dX12_split_111 : decode cX12_split 111 = .ok (.dup2, 1) := by decide +kernel
theorem dX12_split_112 : decode cX12_split 112 = .ok (.iaload, 1) := by decide +kernel
theorem dX12_split_113 : decode cX12_split 113 = .ok (.iload_n 3, 1) := by decide +kernel
theorem dX12_split_114 : decode cX12_split 114 = .ok (.ifCond .eq 8, 3) := by decide +kernel
theorem dX12_split_117 : decode cX12_split 117 = .ok (.iload 4, 2) := by decide +kernel
theorem dX12_split_119 : decode cX12_split 119 = .ok (.goto 4, 3) := by decide +kernel
theorem dX12_split_122 : decode cX12_split 122 = .ok (.iconst 0, 1) := by decide +kernel
theorem dX12_split_123 : decode cX12_split 123 = .ok (.iadd, 1) := by decide +kernel
theorem dX12_split_124 : decode cX12_split 124 = .ok (.iastore, 1) := by decide +kernel
theorem dX12_split_125 : decode cX12_split 125 = .ok (.iload_n 1, 1) := by decide +kernel
theorem dX12_split_126 : decode cX12_split 126 = .ok (.iload_n 3, 1) := by decide +kernel
theorem dX12_split_127 : decode cX12_split 127 = .ok (.ifCond .eq 7, 3) := by decide +kernel
theorem dX12_split_130 : decode cX12_split 130 = .ok (.iconst 1, 1) := by decide +kernel
theorem dX12_split_131 : decode cX12_split 131 = .ok (.goto 4, 3) := by decide +kernel
theorem dX12_split_134 : decode cX12_split 134 = .ok (.iconst 0, 1) := by decide +kernel
theorem dX12_split_135 : decode cX12_split 135 = .ok (.iadd, 1) := by decide +kernel
theorem dX12_split_136 : decode cX12_split 136 = .ok (.istore_n 1, 1) := by decide +kernel
theorem dX12_split_137 : decode cX12_split 137 = .ok (.goto (-88), 3) := by decide +kernel
theorem dX12_split_140 : decode cX12_split 140 = .ok (.aload_n 0, 1) := by decide +kernel
theorem dX12_split_141 : decode cX12_split 141 = .ok (.getfield 70, 3) := by decide +kernel
theorem dX12_split_144 : decode cX12_split 144 = .ok (.iload_n 2, 1) := by decide +kernel
theorem dX12_split_145 : decode cX12_split 145 = .ok (.iload_n 1, 1) := by decide +kernel
theorem dX12_split_146 : decode cX12_split 146 = .ok (.iastore, 1) := by decide +kernel
theorem dX12_split_147 : decode cX12_split 147 = .ok (.iinc 2 1, 3) := by decide +kernel
theorem dX12_split_150 : decode cX12_split 150 = .ok (.goto (-146), 3) := by decide +kernel
theorem dX12_split_153 : decode cX12_split 153 = .ok (.iload_n 1, 1) := by decide +kernel
theorem dX12_split_154 : decode cX12_split 154 = .ok (.aload_n 0, 1) := by decide +kernel
theorem dX12_split_155 : decode cX12_split 155 = .ok (.getfield 7, 3) := by decide +kernel
theorem dX12_split_158 : decode cX12_split 158 = .ok (.iconst 4, 1) := by decide +kernel
theorem dX12_split_159 : decode cX12_split 159 = .ok (.iaload, 1) := by decide +kernel
theorem dX12_split_160 : decode cX12_split 160 = .ok (.if_icmp .ge 9, 3) := by decide +kernel
theorem dX12_split_163 : decode cX12_split 163 = .ok (.aload_n 0, 1) := by decide +kernel
theorem dX12_split_164 : decode cX12_split 164 = .ok (.iconst 0, 1) := by decide +kernel
theorem dX12_split_165 : decode cX12_split 165 = .ok (.invokevirtual 102, 3) := by decide +kernel
theorem dX12_split_168 : decode cX12_split 168 = .ok (.ireturn, 1) := by decide +kernel
theorem dX12_split_169 : decode cX12_split 169 = .ok (.aload_n 0, 1) := by decide +kernel
theorem dX12_split_170 : decode cX12_split 170 = .ok (.invokevirtual 96, 3) := by decide +kernel
theorem dX12_split_173 : decode cX12_split 173 = .ok (.iconst 0, 1) := by decide +kernel
theorem dX12_split_174 : decode cX12_split 174 = .ok (.istore_n 2, 1) := by decide +kernel
theorem dX12_split_175 : decode cX12_split 175 = .ok (.iload_n 2, 1) := by decide +kernel
theorem dX12_split_176 : decode cX12_split 176 = .ok (.aload_n 0, 1) := by decide +kernel
theorem dX12_split_177 : decode cX12_split 177 = .ok (.getfield 7, 3) := by decide +kernel
theorem dX12_split_180 : decode cX12_split 180 = .ok (.iconst 3, 1) := by decide +kernel
theorem dX12_split_181 : decode cX12_split 181 = .ok (.iaload, 1) := by decide +kernel
theorem dX12_split_182 : decode cX12_split 182 = .ok (.if_icmp .ge 106, 3) := by decide +kernel
theorem dX12_split_185 : decode cX12_split 185 = .ok (.aload_n 0, 1) := by decide +kernel
theorem dX12_split_186 : decode cX12_split 186 = .ok (.iload_n 2, 1) := by decide +kernel
theorem dX12_split_187 : decode cX12_split 187 = .ok (.invokevirtual 194, 3) := by decide +kernel
theorem dX12_split_190 : decode cX12_split 190 = .ok (.aload_n 0, 1) := by decide +kernel
theorem dX12_split_191 : decode cX12_split 191 = .ok (.getfield 7, 3) := by decide +kernel
theorem dX12_split_194 : decode cX12_split 194 = .ok (.aload_n 0, 1) := by decide +kernel
theorem dX12_split_195 : decode cX12_split 195 = .ok (.iload_n 2, 1) := by decide +kernel
theorem dX12_split_196 : decode cX12_split 196 = .ok (.invokevirtual 188, 3) := by decide +kernel
theorem dX12_split_199 : decode cX12_split 199 = .ok (.iconst 2, 1) := by decide +kernel
theorem dX12_split_200 : decode cX12_split 200 = .ok (.iadd, 1) := by decide +kernel
theorem dX12_split_201 : decode cX12_split 201 = .ok (.iaload, 1) := by decide +kernel
theorem dX12_split_202 : decode cX12_split 202 = .ok (.ifCond .ne 80, 3) := by decide +kernel
theorem dX12_split_205 : decode cX12_split 205 = .ok (.aload_n 0, 1) := by decide +kernel
theorem dX12_split_206 : decode cX12_split 206 = .ok (.getfield 7, 3) := by decide +kernel
theorem dX12_split_209 : decode cX12_split 209 = .ok (.aload_n 0, 1) := by decide +kernel
theorem dX12_split_210 : decode cX12_split 210 = .ok (.iload_n 2, 1) := by decide +kernel
theorem dX12_split_211 : decode cX12_split 211 = .ok (.invokevirtual 188, 3) := by decide +kernel
theorem dX12_split_214 : decode cX12_split 214 = .ok (.iconst 5, 1) := by decide +kernel
theorem dX12_split_215 : decode cX12_split 215 = .ok (.iadd, 1) := by decide +kernel
theorem dX12_split_216 : decode cX12_split 216 = .ok (.iconst 1, 1) := by decide +kernel
theorem dX12_split_217 : decode cX12_split 217 = .ok (.iastore, 1) := by decide +kernel
theorem dX12_split_218 : decode cX12_split 218 = .ok (.aload_n 0, 1) := by decide +kernel
theorem dX12_split_219 : decode cX12_split 219 = .ok (.getfield 7, 3) := by decide +kernel
theorem dX12_split_222 : decode cX12_split 222 = .ok (.aload_n 0, 1) := by decide +kernel
theorem dX12_split_223 : decode cX12_split 223 = .ok (.iload_n 2, 1) := by decide +kernel
theorem dX12_split_224 : decode cX12_split 224 = .ok (.invokevirtual 188, 3) := by decide +kernel
theorem dX12_split_227 : decode cX12_split 227 = .ok (.bipush 6, 2) := by decide +kernel
theorem dX12_split_229 : decode cX12_split 229 = .ok (.iadd, 1) := by decide +kernel
theorem dX12_split_230 : decode cX12_split 230 = .ok (.aload_n 0, 1) := by decide +kernel
theorem dX12_split_231 : decode cX12_split 231 = .ok (.getfield 67, 3) := by decide +kernel
theorem dX12_split_234 : decode cX12_split 234 = .ok (.iload_n 2, 1) := by decide +kernel
theorem dX12_split_235 : decode cX12_split 235 = .ok (.iaload, 1) := by decide +kernel
theorem dX12_split_236 : decode cX12_split 236 = .ok (.iastore, 1) := by decide +kernel
theorem dX12_split_237 : decode cX12_split 237 = .ok (.aload_n 0, 1) := by decide +kernel
theorem dX12_split_238 : decode cX12_split 238 = .ok (.getfield 7, 3) := by decide +kernel
theorem dX12_split_241 : decode cX12_split 241 = .ok (.aload_n 0, 1) := by decide +kernel
theorem dX12_split_242 : decode cX12_split 242 = .ok (.iload_n 2, 1) := by decide +kernel
theorem dX12_split_243 : decode cX12_split 243 = .ok (.invokevirtual 188, 3) := by decide +kernel
theorem dX12_split_246 : decode cX12_split 246 = .ok (.bipush 7, 2) := by decide +kernel
theorem dX12_split_248 : decode cX12_split 248 = .ok (.iadd, 1) := by decide +kernel
theorem dX12_split_249 : decode cX12_split 249 = .ok (.aload_n 0, 1) := by decide +kernel
theorem dX12_split_250 : decode cX12_split 250 = .ok (.getfield 70, 3) := by decide +kernel
theorem dX12_split_253 : decode cX12_split 253 = .ok (.iload_n 2, 1) := by decide +kernel
theorem dX12_split_254 : decode cX12_split 254 = .ok (.iaload, 1) := by decide +kernel
theorem dX12_split_255 : decode cX12_split 255 = .ok (.aload_n 0, 1) := by decide +kernel
theorem dX12_split_256 : decode cX12_split 256 = .ok (.getfield 67, 3) := by decide +kernel
theorem dX12_split_259 : decode cX12_split 259 = .ok (.iload_n 2, 1) := by decide +kernel
theorem dX12_split_260 : decode cX12_split 260 = .ok (.iaload, 1) := by decide +kernel
theorem dX12_split_261 : decode cX12_split 261 = .ok (.isub, 1) := by decide +kernel
theorem dX12_split_262 : decode cX12_split 262 = .ok (.iastore, 1) := by decide +kernel
theorem dX12_split_263 : decode cX12_split 263 = .ok (.aload_n 0, 1) := by decide +kernel
theorem dX12_split_264 : decode cX12_split 264 = .ok (.getfield 7, 3) := by decide +kernel
theorem dX12_split_267 : decode cX12_split 267 = .ok (.aload_n 0, 1) := by decide +kernel
theorem dX12_split_268 : decode cX12_split 268 = .ok (.iload_n 2, 1) := by decide +kernel
theorem dX12_split_269 : decode cX12_split 269 = .ok (.invokevirtual 188, 3) := by decide +kernel
theorem dX12_split_272 : decode cX12_split 272 = .ok (.bipush 10, 2) := by decide +kernel
theorem dX12_split_274 : decode cX12_split 274 = .ok (.iadd, 1) := by decide +kernel
theorem dX12_split_275 : decode cX12_split 275 = .ok (.aload_n 0, 1) := by decide +kernel
theorem dX12_split_276 : decode cX12_split 276 = .ok (.getfield 73, 3) := by decide +kernel
theorem dX12_split_279 : decode cX12_split 279 = .ok (.iload_n 2, 1) := by decide +kernel
theorem dX12_split_280 : decode cX12_split 280 = .ok (.iaload, 1) := by decide +kernel
theorem dX12_split_281 : decode cX12_split 281 = .ok (.iastore, 1) := by decide +kernel
theorem dX12_split_282 : decode cX12_split 282 = .ok (.iinc 2 1, 3) := by decide +kernel
theorem dX12_split_285 : decode cX12_split 285 = .ok (.goto (-110), 3) := by decide +kernel
theorem dX12_split_288 : decode cX12_split 288 = .ok (.aload_n 0, 1) := by decide +kernel
theorem dX12_split_289 : decode cX12_split 289 = .ok (.iconst 1, 1) := by decide +kernel
theorem dX12_split_290 : decode cX12_split 290 = .ok (.invokevirtual 102, 3) := by decide +kernel
theorem dX12_split_293 : decode cX12_split 293 = .ok (.ireturn, 1) := by decide +kernel
theorem dX12_part_0 : decode cX12_part 0 = .ok (.aload_n 0, 1) := by decide +kernel
theorem dX12_part_1 : decode cX12_part 1 = .ok (.iload_n 1, 1) := by decide +kernel
theorem dX12_part_2 : decode cX12_part 2 = .ok (.invokevirtual 197, 3) := by decide +kernel
theorem dX12_part_5 : decode cX12_part 5 = .ok (.ifCond .eq 13, 3) := by decide +kernel
theorem dX12_part_8 : decode cX12_part 8 = .ok (.iload_n 2, 1) := by decide +kernel
theorem dX12_part_9 : decode cX12_part 9 = .ok (.iconst 0, 1) := by decide +kernel
theorem dX12_part_10 : decode cX12_part 10 = .ok (.bipush 8, 2) := by decide +kernel
theorem dX12_part_12 : decode cX12_part 12 = .ok (.invokestatic 88, 3) := by decide +kernel
theorem dX12_part_15 : decode cX12_part 15 = .ok (.ifCond .ne 12, 3) := by decide +kernel
theorem dX12_part_18 : decode cX12_part 18 = .ok (.aload_n 0, 1) := by decide +kernel
theorem dX12_part_19 : decode cX12_part 19 = .ok (.bipush (-2), 2) := by decide +kernel
theorem dX12_part_21 : decode cX12_part 21 = .ok (.invokevirtual 92, 3) := by decide +kernel
theorem dX12_part_24 : decode cX12_part 24 = .ok (.goto 13, 3) := by decide +kernel
theorem dX12_part_27 : decode cX12_part 27 = .ok (.aload_n 0, 1) := by decide +kernel
theorem dX12_part_28 : decode cX12_part 28 = .ok (.aload_n 0, 1) := by decide +kernel
theorem dX12_part_29 : decode cX12_part 29 = .ok (.iload_n 1, 1) := by decide +kernel
theorem dX12_part_30 : decode cX12_part 30 = .ok (.iload_n 2, 1) := by decide +kernel
theorem dX12_part_31 : decode cX12_part 31 = .ok (.invokevirtual 338, 3) := by decide +kernel
theorem dX12_part_34 : decode cX12_part 34 = .ok (.invokevirtual 102, 3) := by decide +kernel
theorem dX12_part_37 : decode cX12_part 37 = .ok (.ireturn, 1) := by decide +kernel
theorem dX12_go_0 : decode cX12_go 0 = .ok (.aload_n 0, 1) := by decide +kernel
theorem dX12_go_1 : decode cX12_go 1 = .ok (.iload_n 1, 1) := by decide +kernel
theorem dX12_go_2 : decode cX12_go 2 = .ok (.invokevirtual 197, 3) := by decide +kernel
theorem dX12_go_5 : decode cX12_go 5 = .ok (.ifCond .eq 13, 3) := by decide +kernel
theorem dX12_go_8 : decode cX12_go 8 = .ok (.iload_n 2, 1) := by decide +kernel
theorem dX12_go_9 : decode cX12_go 9 = .ok (.iconst 1, 1) := by decide +kernel
theorem dX12_go_10 : decode cX12_go 10 = .ok (.bipush 50, 2) := by decide +kernel
theorem dX12_go_12 : decode cX12_go 12 = .ok (.invokestatic 88, 3) := by decide +kernel
theorem dX12_go_15 : decode cX12_go 15 = .ok (.ifCond .ne 10, 3) := by decide +kernel
theorem dX12_go_18 : decode cX12_go 18 = .ok (.aload_n 0, 1) := by decide +kernel
theorem dX12_go_19 : decode cX12_go 19 = .ok (.bipush (-2), 2) := by decide +kernel
theorem dX12_go_21 : decode cX12_go 21 = .ok (.invokevirtual 92, 3) := by decide +kernel
theorem dX12_go_24 : decode cX12_go 24 = .ok (.ireturn, 1) := by decide +kernel
theorem dX12_go_25 : decode cX12_go 25 = .ok (.aload_n 0, 1) := by decide +kernel
theorem dX12_go_26 : decode cX12_go 26 = .ok (.iload_n 1, 1) := by decide +kernel
theorem dX12_go_27 : decode cX12_go 27 = .ok (.invokevirtual 188, 3) := by decide +kernel
theorem dX12_go_30 : decode cX12_go 30 = .ok (.istore_n 3, 1) := by decide +kernel
theorem dX12_go_31 : decode cX12_go 31 = .ok (.aload_n 0, 1) := by decide +kernel
theorem dX12_go_32 : decode cX12_go 32 = .ok (.getfield 7, 3) := by decide +kernel
theorem dX12_go_35 : decode cX12_go 35 = .ok (.iload_n 3, 1) := by decide +kernel
theorem dX12_go_36 : decode cX12_go 36 = .ok (.iconst 2, 1) := by decide +kernel
theorem dX12_go_37 : decode cX12_go 37 = .ok (.iadd, 1) := by decide +kernel
theorem dX12_go_38 : decode cX12_go 38 = .ok (.iaload, 1) := by decide +kernel
theorem dX12_go_39 : decode cX12_go 39 = .ok (.iconst 1, 1) := by decide +kernel
theorem dX12_go_40 : decode cX12_go 40 = .ok (.if_icmp .ne 10, 3) := by decide +kernel
theorem dX12_go_43 : decode cX12_go 43 = .ok (.aload_n 0, 1) := by decide +kernel
theorem dX12_go_44 : decode cX12_go 44 = .ok (.bipush (-4), 2) := by decide +kernel
theorem dX12_go_46 : decode cX12_go 46 = .ok (.invokevirtual 92, 3) := by decide +kernel
theorem dX12_go_49 : decode cX12_go 49 = .ok (.ireturn, 1) := by decide +kernel
theorem dX12_go_50 : decode cX12_go 50 = .ok (.aload_n 0, 1) := by decide +kernel
theorem dX12_go_51 : decode cX12_go 51 = .ok (.getfield 7, 3) := by decide +kernel
theorem dX12_go_54 : decode cX12_go 54 = .ok (.iload_n 3, 1) := by decide +kernel
theorem dX12_go_55 : decode cX12_go 55 = .ok (.bipush 8, 2) := by decide +kernel
theorem dX12_go_57 : decode cX12_go 57 = .ok (.iadd, 1) := by decide +kernel
theorem dX12_go_58 : decode cX12_go 58 = .ok (.iaload, 1) := by decide +kernel
theorem dX12_go_59 : decode cX12_go 59 = .ok (.aload_n 0, 1) := by decide +kernel
theorem dX12_go_60 : decode cX12_go 60 = .ok (.getfield 7, 3) := by decide +kernel
theorem dX12_go_63 : decode cX12_go 63 = .ok (.iload_n 3, 1) := by decide +kernel
theorem dX12_go_64 : decode cX12_go 64 = .ok (.bipush 7, 2) := by decide +kernel
theorem dX12_go_66 : decode cX12_go 66 = .ok (.iadd, 1) := by decide +kernel
theorem dX12_go_67 : decode cX12_go 67 = .ok (.iaload, 1) := by decide +kernel
theorem dX12_go_68 : decode cX12_go 68 = .ok (.if_icmp .lt 10, 3) := by decide +kernel
theorem dX12_go_71 : decode cX12_go 71 = .ok (.aload_n 0, 1) := by decide +kernel
theorem dX12_go_72 : decode cX12_go 72 = .ok (.bipush (-8), 2) := by decide +kernel
theorem dX12_go_74 : decode cX12_go 74 = .ok (.invokevirtual 92, 3) := by decide +kernel
theorem dX12_go_77 : decode cX12_go 77 = .ok (.ireturn, 1) := by decide +kernel
theorem dX12_go_78 : decode cX12_go 78 = .ok (.iconst 0, 1) := by decide +kernel
theorem dX12_go_79 : decode cX12_go 79 = .ok (.istore 4, 2) := by decide +kernel
theorem dX12_go_81 : decode cX12_go 81 = .ok (.iconst 1, 1) := by decide +kernel
theorem dX12_go_82 : decode cX12_go 82 = .ok (.istore 5, 2) := by decide +kernel
theorem dX12_go_84 : decode cX12_go 84 = .ok (.iload 5, 2) := by decide +kernel
theorem dX12_go_86 : decode cX12_go 86 = .ok (.ifCond .eq 80, 3) := by decide +kernel
theorem dX12_go_89 : decode cX12_go 89 = .ok (.iload 4, 2) := by decide +kernel
theorem dX12_go_91 : decode cX12_go 91 = .ok (.iload_n 2, 1) := by decide +kernel
theorem dX12_go_92 : decode cX12_go 92 = .ok (.if_icmp .ge 74, 3) := by decide +kernel
theorem dX12_go_95 : decode cX12_go 95 = .ok (.aload_n 0, 1) := by decide +kernel
theorem dX12_go_96 : decode cX12_go 96 = .ok (.getfield 7, 3) := by decide +kernel
theorem dX12_go_99 : decode cX12_go 99 = .ok (.iload_n 3, 1) := by decide +kernel
theorem dX12_go_100 : decode cX12_go 100 = .ok (.bipush 8, 2) := by decide +kernel
theorem dX12_go_102 : decode cX12_go 102 = .ok (.iadd, 1) := by decide +kernel
theorem dX12_go_103 : decode cX12_go 103 = .ok (.iaload, 1) := by decide +kernel
theorem dX12_go_104 : decode cX12_go 104 = .ok (.aload_n 0, 1) := by decide +kernel
theorem dX12_go_105 : decode cX12_go 105 = .ok (.getfield 7, 3) := by decide +kernel
theorem dX12_go_108 : decode cX12_go 108 = .ok (.iload_n 3, 1) := by decide +kernel
theorem dX12_go_109 : decode cX12_go 109 = .ok (.bipush 7, 2) := by decide +kernel
theorem dX12_go_111 : decode cX12_go 111 = .ok (.iadd, 1) := by decide +kernel
theorem dX12_go_112 : decode cX12_go 112 = .ok (.iaload, 1) := by decide +kernel
theorem dX12_go_113 : decode cX12_go 113 = .ok (.if_icmp .ge 53, 3) := by decide +kernel
theorem dX12_go_116 : decode cX12_go 116 = .ok (.aload_n 0, 1) := by decide +kernel
theorem dX12_go_117 : decode cX12_go 117 = .ok (.dup, 1) := by decide +kernel
theorem dX12_go_118 : decode cX12_go 118 = .ok (.getfield 341, 3) := by decide +kernel
theorem dX12_go_121 : decode cX12_go 121 = .ok (.iconst 1, 1) := by decide +kernel
theorem dX12_go_122 : decode cX12_go 122 = .ok (.iadd, 1) := by decide +kernel
theorem dX12_go_123 : decode cX12_go 123 = .ok (.putfield 341, 3) := by decide +kernel
theorem dX12_go_126 : decode cX12_go 126 = .ok (.aload_n 0, 1) := by decide +kernel
theorem dX12_go_127 : decode cX12_go 127 = .ok (.iload_n 1, 1) := by decide +kernel
theorem dX12_go_128 : decode cX12_go 128 = .ok (.invokevirtual 344, 3) := by decide +kernel
theorem dX12_go_131 : decode cX12_go 131 = .ok (.ifCond .ne 7, 3) := by decide +kernel
theorem dX12_go_134 : decode cX12_go 134 = .ok (.iconst 1, 1) := by decide +kernel
theorem dX12_go_135 : decode cX12_go 135 = .ok (.goto 4, 3) := by decide +kernel
theorem dX12_go_138 : decode cX12_go 138 = .ok (.iconst 0, 1) := by decide +kernel
theorem dX12_go_139 : decode cX12_go 139 = .ok (.istore 5, 2) := by decide +kernel
theorem dX12_go_141 : decode cX12_go 141 = .ok (.iload 5, 2) := by decide +kernel
theorem dX12_go_143 : decode cX12_go 143 = .ok (.ifCond .eq (-59), 3) := by decide +kernel
theorem dX12_go_146 : decode cX12_go 146 = .ok (.iload 4, 2) := by decide +kernel
theorem dX12_go_148 : decode cX12_go 148 = .ok (.ifCond .ne 7, 3) := by decide +kernel
theorem dX12_go_151 : decode cX12_go 151 = .ok (.aload_n 0, 1) := by decide +kernel
theorem dX12_go_152 : decode cX12_go 152 = .ok (.invokevirtual 96, 3) := by decide +kernel
theorem dX12_go_155 : decode cX12_go 155 = .ok (.aload_n 0, 1) := by decide +kernel
theorem dX12_go_156 : decode cX12_go 156 = .ok (.iload_n 1, 1) := by decide +kernel
theorem dX12_go_157 : decode cX12_go 157 = .ok (.invokevirtual 347, 3) := by decide +kernel
theorem dX12_go_160 : decode cX12_go 160 = .ok (.iinc 4 1, 3) := by decide +kernel
theorem dX12_go_163 : decode cX12_go 163 = .ok (.goto (-79), 3) := by decide +kernel
theorem dX12_go_166 : decode cX12_go 166 = .ok (.aload_n 0, 1) := by decide +kernel
theorem dX12_go_167 : decode cX12_go 167 = .ok (.iload 4, 2) := by decide +kernel
theorem dX12_go_169 : decode cX12_go 169 = .ok (.invokevirtual 102, 3) := by decide +kernel
theorem dX12_go_172 : decode cX12_go 172 = .ok (.ireturn, 1) := by decide +kernel
theorem dX12_looks_0 : decode cX12_looks 0 = .ok (.aload_n 0, 1) := by decide +kernel
theorem dX12_looks_1 : decode cX12_looks 1 = .ok (.getfield 341, 3) := by decide +kernel
theorem dX12_looks_4 : decode cX12_looks 4 = .ok (.ireturn, 1) := by decide +kernel
theorem dX12_text_0 : decode cX12_text 0 = .ok (.aload_n 0, 1) := by decide +kernel
theorem dX12_text_1 : decode cX12_text 1 = .ok (.iconst 0, 1) := by decide +kernel
theorem dX12_text_2 : decode cX12_text 2 = .ok (.putfield 350, 3) := by decide +kernel
theorem dX12_text_5 : decode cX12_text 5 = .ok (.iconst 1, 1) := by decide +kernel
theorem dX12_text_6 : decode cX12_text 6 = .ok (.istore_n 1, 1) := by decide +kernel
theorem dX12_text_7 : decode cX12_text 7 = .ok (.iconst 0, 1) := by decide +kernel
theorem dX12_text_8 : decode cX12_text 8 = .ok (.istore_n 2, 1) := by decide +kernel
theorem dX12_text_9 : decode cX12_text 9 = .ok (.iload_n 2, 1) := by decide +kernel
theorem dX12_text_10 : decode cX12_text 10 = .ok (.aload_n 0, 1) := by decide +kernel
theorem dX12_text_11 : decode cX12_text 11 = .ok (.getfield 7, 3) := by decide +kernel
theorem dX12_text_14 : decode cX12_text 14 = .ok (.iconst 4, 1) := by decide +kernel
theorem dX12_text_15 : decode cX12_text 15 = .ok (.iaload, 1) := by decide +kernel
theorem dX12_text_16 : decode cX12_text 16 = .ok (.if_icmp .ge 185, 3) := by decide +kernel
theorem dX12_text_19 : decode cX12_text 19 = .ok (.iload_n 1, 1) := by decide +kernel
theorem dX12_text_20 : decode cX12_text 20 = .ok (.ifCond .eq 181, 3) := by decide +kernel
theorem dX12_text_23 : decode cX12_text 23 = .ok (.aload_n 0, 1) := by decide +kernel
theorem dX12_text_24 : decode cX12_text 24 = .ok (.getfield 7, 3) := by decide +kernel
theorem dX12_text_27 : decode cX12_text 27 = .ok (.sipush 9642, 3) := by decide +kernel
theorem dX12_text_30 : decode cX12_text 30 = .ok (.iconst 3, 1) := by decide +kernel
theorem dX12_text_31 : decode cX12_text 31 = .ok (.iload_n 2, 1) := by decide +kernel
theorem dX12_text_32 : decode cX12_text 32 = .ok (.imul, 1) := by decide +kernel
theorem dX12_text_33 : decode cX12_text 33 = .ok (.iadd, 1) := by decide +kernel
theorem dX12_text_34 : decode cX12_text 34 = .ok (.iaload, 1) := by decide +kernel
theorem dX12_text_35 : decode cX12_text 35 = .ok (.istore_n 3, 1) := by decide +kernel
theorem dX12_text_36 : decode cX12_text 36 = .ok (.aload_n 0, 1) := by decide +kernel
theorem dX12_text_37 : decode cX12_text 37 = .ok (.iload_n 2, 1) := by decide +kernel
theorem dX12_text_38 : decode cX12_text 38 = .ok (.invokevirtual 353, 3) := by decide +kernel
theorem dX12_text_41 : decode cX12_text 41 = .ok (.istore 4, 2) := by decide +kernel
theorem dX12_text_43 : decode cX12_text 43 = .ok (.iload_n 3, 1) := by decide +kernel
theorem dX12_text_44 : decode cX12_text 44 = .ok (.bipush 99, 2) := by decide +kernel
theorem dX12_text_46 : decode cX12_text 46 = .ok (.if_icmp .le 7, 3) := by decide +kernel
theorem dX12_text_49 : decode cX12_text 49 = .ok (.iconst 3, 1) := by decide +kernel
theorem dX12_text_50 : decode cX12_text 50 = .ok (.goto 14, 3) := by decide +kernel
theorem dX12_text_53 : decode cX12_text 53 = .ok (.iload_n 3, 1) := by decide +kernel
theorem dX12_text_54 : decode cX12_text 54 = .ok (.bipush 9, 2) := by decide +kernel
theorem dX12_text_56 : decode cX12_text 56 = .ok (.if_icmp .le 7, 3) := by decide +kernel
theorem dX12_text_59 : decode cX12_text 59 = .ok (.iconst 2, 1) := by decide +kernel
theorem dX12_text_60 : decode cX12_text 60 = .ok (.goto 4, 3) := by decide +kernel
theorem dX12_text_63 : decode cX12_text 63 = .ok (.iconst 1, 1) := by decide +kernel
theorem dX12_text_64 : decode cX12_text 64 = .ok (.istore 5, 2) := by decide +kernel
theorem dX12_text_66 : decode cX12_text 66 = .ok (.aload_n 0, 1) := by decide +kernel
theorem dX12_text_67 : decode cX12_text 67 = .ok (.getfield 350, 3) := by decide +kernel
theorem dX12_text_70 : decode cX12_text 70 = .ok (.iconst 1, 1) := by decide +kernel
theorem dX12_text_71 : decode cX12_text 71 = .ok (.iadd, 1) := by decide +kernel
theorem dX12_text_72 : decode cX12_text 72 = .ok (.iload 5, 2) := by decide +kernel
theorem dX12_text_74 : decode cX12_text 74 = .ok (.iadd, 1) := by decide +kernel
theorem dX12_text_75 : decode cX12_text 75 = .ok (.iload 4, 2) := by decide +kernel
theorem dX12_text_77 : decode cX12_text 77 = .ok (.iconst (-1), 1) := by decide +kernel
theorem dX12_text_78 : decode cX12_text 78 = .ok (.if_icmp .eq 7, 3) := by decide +kernel
theorem dX12_text_81 : decode cX12_text 81 = .ok (.iconst 1, 1) := by decide +kernel
theorem dX12_text_82 : decode cX12_text 82 = .ok (.goto 4, 3) := by decide +kernel
theorem dX12_text_85 : decode cX12_text 85 = .ok (.iconst 0, 1) := by decide +kernel
theorem dX12_text_86 : decode cX12_text 86 = .ok (.iadd, 1) := by decide +kernel
theorem dX12_text_87 : decode cX12_text 87 = .ok (.sipush 8000, 3) := by decide +kernel
theorem dX12_text_90 : decode cX12_text 90 = .ok (.if_icmp .gt 7, 3) := by decide +kernel
theorem dX12_text_93 : decode cX12_text 93 = .ok (.iconst 1, 1) := by decide +kernel
theorem dX12_text_94 : decode cX12_text 94 = .ok (.goto 4, 3) := by decide +kernel
theorem dX12_text_97 : decode cX12_text 97 = .ok (.iconst 0, 1) := by decide +kernel
theorem dX12_text_98 : decode cX12_text 98 = .ok (.istore_n 1, 1) := by decide +kernel
theorem dX12_text_99 : decode cX12_text 99 = .ok (.iload_n 1, 1) := by decide +kernel
theorem dX12_text_100 : decode cX12_text 100 = .ok (.ifCond .eq 95, 3) := by decide +kernel
theorem dX12_text_103 : decode cX12_text 103 = .ok (.aload_n 0, 1) := by decide +kernel
theorem dX12_text_104 : decode cX12_text 104 = .ok (.aload_n 0, 1) := by decide +kernel
theorem dX12_text_105 : decode cX12_text 105 = .ok (.getfield 7, 3) := by decide +kernel
theorem dX12_text_108 : decode cX12_text 108 = .ok (.sipush 9642, 3) := by decide +kernel
theorem dX12_text_111 : decode cX12_text 111 = .ok (.iconst 3, 1) := by decide +kernel
theorem dX12_text_112 : decode cX12_text 112 = .ok (.iload_n 2, 1) := by decide +kernel
theorem dX12_text_113 : decode cX12_text 113 = .ok (.imul, 1) := by decide +kernel
theorem dX12_text_114 : decode cX12_text 114 = .ok (.iadd, 1) := by decide +kernel
theorem dX12_text_115 : decode cX12_text 115 = .ok (.iconst 2, 1) := by decide +kernel
theorem dX12_text_116 : decode cX12_text 116 = .ok (.iadd, 1) := by decide +kernel
theorem dX12_text_117 : decode cX12_text 117 = .ok (.iaload, 1) := by decide +kernel
theorem dX12_text_118 : decode cX12_text 118 = .ok (.iconst 1, 1) := by decide +kernel
theorem dX12_text_119 : decode cX12_text 119 = .ok (.if_icmp .ne 8, 3) := by decide +kernel
theorem dX12_text_122 : decode cX12_text 122 = .ok (.bipush 43, 2) := by decide +kernel
theorem dX12_text_124 : decode cX12_text 124 = .ok (.goto 5, 3) := by decide +kernel
theorem dX12_text_127 : decode cX12_text 127 = .ok (.bipush 45, 2) := by decide +kernel
theorem dX12_text_129 : decode cX12_text 129 = .ok (.invokevirtual 356, 3) := by decide +kernel
theorem dX12_text_132 : decode cX12_text 132 = .ok (.iload 5, 2) := by decide +kernel
theorem dX12_text_134 : decode cX12_text 134 = .ok (.iconst 2, 1) := by decide +kernel
theorem dX12_text_135 : decode cX12_text 135 = .ok (.if_icmp .le 14, 3) := by decide +kernel
theorem dX12_text_138 : decode cX12_text 138 = .ok (.aload_n 0, 1) := by decide +kernel
theorem dX12_text_139 : decode cX12_text 139 = .ok (.bipush 48, 2) := by decide +kernel
theorem dX12_text_141 : decode cX12_text 141 = .ok (.iload_n 3, 1) := by decide +kernel
theorem dX12_text_142 : decode cX12_text 142 = .ok (.bipush 100, 2) := by decide +kernel
theorem dX12_text_144 : decode cX12_text 144 = .ok (.idiv, 1) := by decide +kernel
theorem dX12_text_145 : decode cX12_text 145 = .ok (.iadd, 1) := by decide +kernel
theorem dX12_text_146 : decode cX12_text 146 = .ok (.invokevirtual 356, 3) := by decide +kernel
theorem dX12_text_149 : decode cX12_text 149 = .ok (.iload 5, 2) := by decide +kernel
theorem dX12_text_151 : decode cX12_text 151 = .ok (.iconst 1, 1) := by decide +kernel
theorem dX12_text_152 : decode cX12_text 152 = .ok (.if_icmp .le 17, 3) := by decide +kernel
theorem dX12_text_155 : decode cX12_text 155 = .ok (.aload_n 0, 1) := by decide +kernel
theorem dX12_text_156 : decode cX12_text 156 = .ok (.bipush 48, 2) := by decide +kernel
theorem dX12_text_158 : decode cX12_text 158 = .ok (.iload_n 3, 1) := by decide +kernel
theorem dX12_text_159 : decode cX12_text 159 = .ok (.bipush 10, 2) := by decide +kernel
theorem dX12_text_161 : decode cX12_text 161 = .ok (.idiv, 1) := by decide +kernel
theorem dX12_text_162 : decode cX12_text 162 = .ok (.bipush 10, 2) := by decide +kernel
theorem dX12_text_164 : decode cX12_text 164 = .ok (.irem, 1) := by decide +kernel
theorem dX12_text_165 : decode cX12_text 165 = .ok (.iadd, 1) := by decide +kernel
theorem dX12_text_166 : decode cX12_text 166 = .ok (.invokevirtual 356, 3) := by decide +kernel
theorem dX12_text_169 : decode cX12_text 169 = .ok (.aload_n 0, 1) := by decide +kernel
theorem dX12_text_170 : decode cX12_text 170 = .ok (.bipush 48, 2) := by decide +kernel
theorem dX12_text_172 : decode cX12_text 172 = .ok (.iload_n 3, 1) := by decide +kernel
theorem dX12_text_173 : decode cX12_text 173 = .ok (.bipush 10, 2) := by decide +kernel
theorem dX12_text_175 : decode cX12_text 175 = .ok (.irem, 1) := by decide +kernel
theorem dX12_text_176 : decode cX12_text 176 = .ok (.iadd, 1) := by decide +kernel
theorem dX12_text_177 : decode cX12_text 177 = .ok (.invokevirtual 356, 3) := by decide +kernel
theorem dX12_text_180 : decode cX12_text 180 = .ok (.iload 4, 2) := by decide +kernel
theorem dX12_text_182 : decode cX12_text 182 = .ok (.iconst (-1), 1) := by decide +kernel
theorem dX12_text_183 : decode cX12_text 183 = .ok (.if_icmp .eq 12, 3) := by decide +kernel
theorem dX12_text_186 : decode cX12_text 186 = .ok (.aload_n 0, 1) := by decide +kernel
theorem dX12_text_187 : decode cX12_text 187 = .ok (.bipush 65, 2) := by decide +kernel
theorem dX12_text_189 : decode cX12_text 189 = .ok (.iload 4, 2) := by decide +kernel
theorem dX12_text_191 : decode cX12_text 191 = .ok (.iadd, 1) := by decide +kernel
theorem dX12_text_192 : decode cX12_text 192 = .ok (.invokevirtual 356, 3) := by decide +kernel
theorem dX12_text_195 : decode cX12_text 195 = .ok (.iinc 2 1, 3) := by decide +kernel
theorem dX12_text_198 : decode cX12_text 198 = .ok (.goto (-189), 3) := by decide +kernel
theorem dX12_text_201 : decode cX12_text 201 = .ok (.aload_n 0, 1) := by decide +kernel
theorem dX12_text_202 : decode cX12_text 202 = .ok (.aload_n 0, 1) := by decide +kernel
theorem dX12_text_203 : decode cX12_text 203 = .ok (.getfield 350, 3) := by decide +kernel
theorem dX12_text_206 : decode cX12_text 206 = .ok (.invokevirtual 102, 3) := by decide +kernel
theorem dX12_text_209 : decode cX12_text 209 = .ok (.ireturn, 1) := by decide +kernel
theorem dX12_sign_0 : decode cX12_sign 0 = .ok (.iload_n 1, 1) := by decide +kernel
theorem dX12_sign_1 : decode cX12_sign 1 = .ok (.iconst 0, 1) := by decide +kernel
theorem dX12_sign_2 : decode cX12_sign 2 = .ok (.aload_n 0, 1) := by decide +kernel
theorem dX12_sign_3 : decode cX12_sign 3 = .ok (.getfield 350, 3) := by decide +kernel
theorem dX12_sign_6 : decode cX12_sign 6 = .ok (.iconst 1, 1) := by decide +kernel
theorem dX12_sign_7 : decode cX12_sign 7 = .ok (.isub, 1) := by decide +kernel
theorem dX12_sign_8 : decode cX12_sign 8 = .ok (.invokestatic 88, 3) := by decide +kernel
theorem dX12_sign_11 : decode cX12_sign 11 = .ok (.ifCond .eq 12, 3) := by decide +kernel
theorem dX12_sign_14 : decode cX12_sign 14 = .ok (.aload_n 0, 1) := by decide +kernel
theorem dX12_sign_15 : decode cX12_sign 15 = .ok (.getfield 19, 3) := by decide +kernel
theorem dX12_sign_18 : decode cX12_sign 18 = .ok (.iload_n 1, 1) := by decide +kernel
theorem dX12_sign_19 : decode cX12_sign 19 = .ok (.caload, 1) := by decide +kernel
theorem dX12_sign_20 : decode cX12_sign 20 = .ok (.goto 4, 3) := by decide +kernel
theorem dX12_sign_23 : decode cX12_sign 23 = .ok (.iconst (-1), 1) := by decide +kernel
theorem dX12_sign_24 : decode cX12_sign 24 = .ok (.ireturn, 1) := by decide +kernel
theorem dX12_digest_0 : decode cX12_digest 0 = .ok (.sipush 217, 3) := by decide +kernel
theorem dX12_digest_3 : decode cX12_digest 3 = .ok (.aload_n 0, 1) := by decide +kernel
theorem dX12_digest_4 : decode cX12_digest 4 = .ok (.getfield 7, 3) := by decide +kernel
theorem dX12_digest_7 : decode cX12_digest 7 = .ok (.iconst 0, 1) := by decide +kernel
theorem dX12_digest_8 : decode cX12_digest 8 = .ok (.iaload, 1) := by decide +kernel
theorem dX12_digest_9 : decode cX12_digest 9 = .ok (.iadd, 1) := by decide +kernel
theorem dX12_digest_10 : decode cX12_digest 10 = .ok (.istore_n 1, 1) := by decide +kernel
theorem dX12_digest_11 : decode cX12_digest 11 = .ok (.iconst 0, 1) := by decide +kernel
theorem dX12_digest_12 : decode cX12_digest 12 = .ok (.istore_n 2, 1) := by decide +kernel
theorem dX12_digest_13 : decode cX12_digest 13 = .ok (.iload_n 2, 1) := by decide +kernel
theorem dX12_digest_14 : decode cX12_digest 14 = .ok (.aload_n 0, 1) := by decide +kernel
theorem dX12_digest_15 : decode cX12_digest 15 = .ok (.getfield 7, 3) := by decide +kernel
theorem dX12_digest_18 : decode cX12_digest 18 = .ok (.iconst 1, 1) := by decide +kernel
theorem dX12_digest_19 : decode cX12_digest 19 = .ok (.iaload, 1) := by decide +kernel
theorem dX12_digest_20 : decode cX12_digest 20 = .ok (.if_icmp .ge 41, 3) := by decide +kernel
theorem dX12_digest_23 : decode cX12_digest 23 = .ok (.iconst 0, 1) := by decide +kernel
theorem dX12_digest_24 : decode cX12_digest 24 = .ok (.istore_n 3, 1) := by decide +kernel
theorem dX12_digest_25 : decode cX12_digest 25 = .ok (.iload_n 3, 1) := by decide +kernel
theorem dX12_digest_26 : decode cX12_digest 26 = .ok (.bipush 9, 2) := by decide +kernel
theorem dX12_digest_28 : decode cX12_digest 28 = .ok (.if_icmp .ge 27, 3) := by decide +kernel
theorem dX12_digest_31 : decode cX12_digest 31 = .ok (.bipush 31, 2) := by decide +kernel
theorem dX12_digest_33 : decode cX12_digest 33 = .ok (.iload_n 1, 1) := by decide +kernel
theorem dX12_digest_34 : decode cX12_digest 34 = .ok (.imul, 1) := by decide +kernel
theorem dX12_digest_35 : decode cX12_digest 35 = .ok (.aload_n 0, 1) := by decide +kernel
theorem dX12_digest_36 : decode cX12_digest 36 = .ok (.getfield 7, 3) := by decide +kernel
theorem dX12_digest_39 : decode cX12_digest 39 = .ok (.aload_n 0, 1) := by decide +kernel
theorem dX12_digest_40 : decode cX12_digest 40 = .ok (.iload_n 2, 1) := by decide +kernel
theorem dX12_digest_41 : decode cX12_digest 41 = .ok (.invokevirtual 109, 3) := by decide +kernel
theorem dX12_digest_44 : decode cX12_digest 44 = .ok (.iload_n 3, 1) := by decide +kernel
theorem dX12_digest_45 : decode cX12_digest 45 = .ok (.iadd, 1) := by decide +kernel
theorem dX12_digest_46 : decode cX12_digest 46 = .ok (.iaload, 1) := by decide +kernel
theorem dX12_digest_47 : decode cX12_digest 47 = .ok (.iadd, 1) := by decide +kernel
theorem dX12_digest_48 : decode cX12_digest 48 = .ok (.istore_n 1, 1) := by decide +kernel
theorem dX12_digest_49 : decode cX12_digest 49 = .ok (.iinc 3 1, 3) := by decide +kernel
theorem dX12_digest_52 : decode cX12_digest 52 = .ok (.goto (-27), 3) := by decide +kernel
theorem dX12_digest_55 : decode cX12_digest 55 = .ok (.iinc 2 1, 3) := by decide +kernel
theorem dX12_digest_58 : decode cX12_digest 58 = .ok (.goto (-45), 3) := by decide +kernel
theorem dX12_digest_61 : decode cX12_digest 61 = .ok (.iconst 0, 1) := by decide +kernel
theorem dX12_digest_62 : decode cX12_digest 62 = .ok (.istore_n 2, 1) := by decide +kernel
theorem dX12_digest_63 : decode cX12_digest 63 = .ok (.iload_n 2, 1) := by decide +kernel
theorem dX12_digest_64 : decode cX12_digest 64 = .ok (.aload_n 0, 1) := by decide +kernel
theorem dX12_digest_65 : decode cX12_digest 65 = .ok (.getfield 7, 3) := by decide +kernel
theorem dX12_digest_68 : decode cX12_digest 68 = .ok (.iconst 2, 1) := by decide +kernel
theorem dX12_digest_69 : decode cX12_digest 69 = .ok (.iaload, 1) := by decide +kernel
theorem dX12_digest_70 : decode cX12_digest 70 = .ok (.if_icmp .ge 77, 3) := by decide +kernel
theorem dX12_digest_73 : decode cX12_digest 73 = .ok (.bipush 31, 2) := by decide +kernel
theorem dX12_digest_75 : decode cX12_digest 75 = .ok (.bipush 31, 2) := by decide +kernel
theorem dX12_digest_77 : decode cX12_digest 77 = .ok (.iload_n 1, 1) := by decide +kernel
theorem dX12_digest_78 : decode cX12_digest 78 = .ok (.imul, 1) := by decide +kernel
theorem dX12_digest_79 : decode cX12_digest 79 = .ok (.aload_n 0, 1) := by decide +kernel
theorem dX12_digest_80 : decode cX12_digest 80 = .ok (.getfield 7, 3) := by decide +kernel
theorem dX12_digest_83 : decode cX12_digest 83 = .ok (.aload_n 0, 1) := by decide +kernel
theorem dX12_digest_84 : decode cX12_digest 84 = .ok (.iload_n 2, 1) := by decide +kernel
theorem dX12_digest_85 : decode cX12_digest 85 = .ok (.invokevirtual 140, 3) := by decide +kernel
theorem dX12_digest_88 : decode cX12_digest 88 = .ok (.iaload, 1) := by decide +kernel
theorem dX12_digest_89 : decode cX12_digest 89 = .ok (.iadd, 1) := by decide +kernel
theorem dX12_digest_90 : decode cX12_digest 90 = .ok (.imul, 1) := by decide +kernel
theorem dX12_digest_91 : decode cX12_digest 91 = .ok (.aload_n 0, 1) := by decide +kernel
theorem dX12_digest_92 : decode cX12_digest 92 = .ok (.getfield 7, 3) := by decide +kernel
theorem dX12_digest_95 : decode cX12_digest 95 = .ok (.aload_n 0, 1) := by decide +kernel
theorem dX12_digest_96 : decode cX12_digest 96 = .ok (.iload_n 2, 1) := by decide +kernel
theorem dX12_digest_97 : decode cX12_digest 97 = .ok (.invokevirtual 140, 3) := by decide +kernel
theorem dX12_digest_100 : decode cX12_digest 100 = .ok (.iconst 2, 1) := by decide +kernel
theorem dX12_digest_101 : decode cX12_digest 101 = .ok (.iadd, 1) := by decide +kernel
theorem dX12_digest_102 : decode cX12_digest 102 = .ok (.iaload, 1) := by decide +kernel
theorem dX12_digest_103 : decode cX12_digest 103 = .ok (.iadd, 1) := by decide +kernel
theorem dX12_digest_104 : decode cX12_digest 104 = .ok (.istore_n 1, 1) := by decide +kernel
theorem dX12_digest_105 : decode cX12_digest 105 = .ok (.iconst 0, 1) := by decide +kernel
theorem dX12_digest_106 : decode cX12_digest 106 = .ok (.istore_n 3, 1) := by decide +kernel
theorem dX12_digest_107 : decode cX12_digest 107 = .ok (.iload_n 3, 1) := by decide +kernel
theorem dX12_digest_108 : decode cX12_digest 108 = .ok (.aload_n 0, 1) := by decide +kernel
theorem dX12_digest_109 : decode cX12_digest 109 = .ok (.getfield 7, 3) := by decide +kernel
theorem dX12_digest_112 : decode cX12_digest 112 = .ok (.aload_n 0, 1) := by decide +kernel
theorem dX12_digest_113 : decode cX12_digest 113 = .ok (.iload_n 2, 1) := by decide +kernel
theorem dX12_digest_114 : decode cX12_digest 114 = .ok (.invokevirtual 140, 3) := by decide +kernel
theorem dX12_digest_117 : decode cX12_digest 117 = .ok (.iconst 2, 1) := by decide +kernel
theorem dX12_digest_118 : decode cX12_digest 118 = .ok (.iadd, 1) := by decide +kernel
theorem dX12_digest_119 : decode cX12_digest 119 = .ok (.iaload, 1) := by decide +kernel
theorem dX12_digest_120 : decode cX12_digest 120 = .ok (.if_icmp .ge 21, 3) := by decide +kernel
theorem dX12_digest_123 : decode cX12_digest 123 = .ok (.bipush 31, 2) := by decide +kernel
theorem dX12_digest_125 : decode cX12_digest 125 = .ok (.iload_n 1, 1) := by decide +kernel
theorem dX12_digest_126 : decode cX12_digest 126 = .ok (.imul, 1) := by decide +kernel
theorem dX12_digest_127 : decode cX12_digest 127 = .ok (.aload_n 0, 1) := by decide +kernel
theorem dX12_digest_128 : decode cX12_digest 128 = .ok (.iload_n 2, 1) := by decide +kernel
theorem dX12_digest_129 : decode cX12_digest 129 = .ok (.iload_n 3, 1) := by decide +kernel
theorem dX12_digest_130 : decode cX12_digest 130 = .ok (.invokevirtual 167, 3) := by decide +kernel
theorem dX12_digest_133 : decode cX12_digest 133 = .ok (.iadd, 1) := by decide +kernel
theorem dX12_digest_134 : decode cX12_digest 134 = .ok (.istore_n 1, 1) := by decide +kernel
theorem dX12_digest_135 : decode cX12_digest 135 = .ok (.iinc 3 1, 3) := by decide +kernel
theorem dX12_digest_138 : decode cX12_digest 138 = .ok (.goto (-31), 3) := by decide +kernel
theorem dX12_digest_141 : decode cX12_digest 141 = .ok (.iinc 2 1, 3) := by decide +kernel
theorem dX12_digest_144 : decode cX12_digest 144 = .ok (.goto (-81), 3) := by decide +kernel
theorem dX12_digest_147 : decode cX12_digest 147 = .ok (.iconst 0, 1) := by decide +kernel
theorem dX12_digest_148 : decode cX12_digest 148 = .ok (.istore_n 2, 1) := by decide +kernel
theorem dX12_digest_149 : decode cX12_digest 149 = .ok (.iload_n 2, 1) := by decide +kernel
theorem dX12_digest_150 : decode cX12_digest 150 = .ok (.aload_n 0, 1) := by decide +kernel
theorem dX12_digest_151 : decode cX12_digest 151 = .ok (.getfield 7, 3) := by decide +kernel
theorem dX12_digest_154 : decode cX12_digest 154 = .ok (.iconst 3, 1) := by decide +kernel
theorem dX12_digest_155 : decode cX12_digest 155 = .ok (.iaload, 1) := by decide +kernel
theorem dX12_digest_156 : decode cX12_digest 156 = .ok (.if_icmp .ge 35, 3) := by decide +kernel
theorem dX12_digest_159 : decode cX12_digest 159 = .ok (.iconst 0, 1) := by decide +kernel
theorem dX12_digest_160 : decode cX12_digest 160 = .ok (.istore_n 3, 1) := by decide +kernel
theorem dX12_digest_161 : decode cX12_digest 161 = .ok (.iload_n 3, 1) := by decide +kernel
theorem dX12_digest_162 : decode cX12_digest 162 = .ok (.bipush 9, 2) := by decide +kernel
theorem dX12_digest_164 : decode cX12_digest 164 = .ok (.if_icmp .ge 21, 3) := by decide +kernel
theorem dX12_digest_167 : decode cX12_digest 167 = .ok (.bipush 31, 2) := by decide +kernel
theorem dX12_digest_169 : decode cX12_digest 169 = .ok (.iload_n 1, 1) := by decide +kernel
theorem dX12_digest_170 : decode cX12_digest 170 = .ok (.imul, 1) := by decide +kernel
theorem dX12_digest_171 : decode cX12_digest 171 = .ok (.aload_n 0, 1) := by decide +kernel
theorem dX12_digest_172 : decode cX12_digest 172 = .ok (.iload_n 2, 1) := by decide +kernel
theorem dX12_digest_173 : decode cX12_digest 173 = .ok (.iload_n 3, 1) := by decide +kernel
theorem dX12_digest_174 : decode cX12_digest 174 = .ok (.invokevirtual 338, 3) := by decide +kernel
theorem dX12_digest_177 : decode cX12_digest 177 = .ok (.iadd, 1) := by decide +kernel
theorem dX12_digest_178 : decode cX12_digest 178 = .ok (.istore_n 1, 1) := by decide +kernel
theorem dX12_digest_179 : decode cX12_digest 179 = .ok (.iinc 3 1, 3) := by decide +kernel
theorem dX12_digest_182 : decode cX12_digest 182 = .ok (.goto (-21), 3) := by decide +kernel
theorem dX12_digest_185 : decode cX12_digest 185 = .ok (.iinc 2 1, 3) := by decide +kernel
theorem dX12_digest_188 : decode cX12_digest 188 = .ok (.goto (-39), 3) := by decide +kernel
theorem dX12_digest_191 : decode cX12_digest 191 = .ok (.iconst 0, 1) := by decide +kernel
theorem dX12_digest_192 : decode cX12_digest 192 = .ok (.istore_n 2, 1) := by decide +kernel
theorem dX12_digest_193 : decode cX12_digest 193 = .ok (.iload_n 2, 1) := by decide +kernel
theorem dX12_digest_194 : decode cX12_digest 194 = .ok (.aload_n 0, 1) := by decide +kernel
theorem dX12_digest_195 : decode cX12_digest 195 = .ok (.getfield 7, 3) := by decide +kernel
theorem dX12_digest_198 : decode cX12_digest 198 = .ok (.iconst 4, 1) := by decide +kernel
theorem dX12_digest_199 : decode cX12_digest 199 = .ok (.iaload, 1) := by decide +kernel
theorem dX12_digest_200 : decode cX12_digest 200 = .ok (.if_icmp .ge 34, 3) := by decide +kernel
theorem dX12_digest_203 : decode cX12_digest 203 = .ok (.iconst 0, 1) := by decide +kernel
theorem dX12_digest_204 : decode cX12_digest 204 = .ok (.istore_n 3, 1) := by decide +kernel
theorem dX12_digest_205 : decode cX12_digest 205 = .ok (.iload_n 3, 1) := by decide +kernel
theorem dX12_digest_206 : decode cX12_digest 206 = .ok (.iconst 4, 1) := by decide +kernel
theorem dX12_digest_207 : decode cX12_digest 207 = .ok (.if_icmp .ge 21, 3) := by decide +kernel
theorem dX12_digest_210 : decode cX12_digest 210 = .ok (.bipush 31, 2) := by decide +kernel
theorem dX12_digest_212 : decode cX12_digest 212 = .ok (.iload_n 1, 1) := by decide +kernel
theorem dX12_digest_213 : decode cX12_digest 213 = .ok (.imul, 1) := by decide +kernel
theorem dX12_digest_214 : decode cX12_digest 214 = .ok (.aload_n 0, 1) := by decide +kernel
theorem dX12_digest_215 : decode cX12_digest 215 = .ok (.iload_n 2, 1) := by decide +kernel
theorem dX12_digest_216 : decode cX12_digest 216 = .ok (.iload_n 3, 1) := by decide +kernel
theorem dX12_digest_217 : decode cX12_digest 217 = .ok (.invokevirtual 332, 3) := by decide +kernel
theorem dX12_digest_220 : decode cX12_digest 220 = .ok (.iadd, 1) := by decide +kernel
theorem dX12_digest_221 : decode cX12_digest 221 = .ok (.istore_n 1, 1) := by decide +kernel
theorem dX12_digest_222 : decode cX12_digest 222 = .ok (.iinc 3 1, 3) := by decide +kernel
theorem dX12_digest_225 : decode cX12_digest 225 = .ok (.goto (-20), 3) := by decide +kernel
theorem dX12_digest_228 : decode cX12_digest 228 = .ok (.iinc 2 1, 3) := by decide +kernel
theorem dX12_digest_231 : decode cX12_digest 231 = .ok (.goto (-38), 3) := by decide +kernel
theorem dX12_digest_234 : decode cX12_digest 234 = .ok (.aload_n 0, 1) := by decide +kernel
theorem dX12_digest_235 : decode cX12_digest 235 = .ok (.iload_n 1, 1) := by decide +kernel
theorem dX12_digest_236 : decode cX12_digest 236 = .ok (.invokevirtual 102, 3) := by decide +kernel
theorem dX12_digest_239 : decode cX12_digest 239 = .ok (.ireturn, 1) := by decide +kernel
theorem dX12_undo_0 : decode cX12_undo 0 = .ok (.aload_n 0, 1) := by decide +kernel
theorem dX12_undo_1 : decode cX12_undo 1 = .ok (.getfield 84, 3) := by decide +kernel
theorem dX12_undo_4 : decode cX12_undo 4 = .ok (.ifCond .ne 9, 3) := by decide +kernel
theorem dX12_undo_7 : decode cX12_undo 7 = .ok (.aload_n 0, 1) := by decide +kernel
theorem dX12_undo_8 : decode cX12_undo 8 = .ok (.iconst 0, 1) := by decide +kernel
theorem dX12_undo_9 : decode cX12_undo 9 = .ok (.invokevirtual 102, 3) := by decide +kernel
theorem dX12_undo_12 : decode cX12_undo 12 = .ok (.ireturn, 1) := by decide +kernel
theorem dX12_undo_13 : decode cX12_undo 13 = .ok (.iconst 0, 1) := by decide +kernel
theorem dX12_undo_14 : decode cX12_undo 14 = .ok (.istore_n 1, 1) := by decide +kernel
theorem dX12_undo_15 : decode cX12_undo 15 = .ok (.iload_n 1, 1) := by decide +kernel
theorem dX12_undo_16 : decode cX12_undo 16 = .ok (.sipush 15642, 3) := by decide +kernel
theorem dX12_undo_19 : decode cX12_undo 19 = .ok (.if_icmp .ge 21, 3) := by decide +kernel
theorem dX12_undo_22 : decode cX12_undo 22 = .ok (.aload_n 0, 1) := by decide +kernel
theorem dX12_undo_23 : decode cX12_undo 23 = .ok (.getfield 7, 3) := by decide +kernel
theorem dX12_undo_26 : decode cX12_undo 26 = .ok (.iload_n 1, 1) := by decide +kernel
theorem dX12_undo_27 : decode cX12_undo 27 = .ok (.aload_n 0, 1) := by decide +kernel
theorem dX12_undo_28 : decode cX12_undo 28 = .ok (.getfield 13, 3) := by decide +kernel
theorem dX12_undo_31 : decode cX12_undo 31 = .ok (.iload_n 1, 1) := by decide +kernel
theorem dX12_undo_32 : decode cX12_undo 32 = .ok (.iaload, 1) := by decide +kernel
theorem dX12_undo_33 : decode cX12_undo 33 = .ok (.iastore, 1) := by decide +kernel
theorem dX12_undo_34 : decode cX12_undo 34 = .ok (.iinc 1 1, 3) := by decide +kernel
theorem dX12_undo_37 : decode cX12_undo 37 = .ok (.goto (-22), 3) := by decide +kernel
theorem dX12_undo_40 : decode cX12_undo 40 = .ok (.aload_n 0, 1) := by decide +kernel
theorem dX12_undo_41 : decode cX12_undo 41 = .ok (.iconst 0, 1) := by decide +kernel
theorem dX12_undo_42 : decode cX12_undo 42 = .ok (.putfield 84, 3) := by decide +kernel
theorem dX12_undo_45 : decode cX12_undo 45 = .ok (.aload_n 0, 1) := by decide +kernel
theorem dX12_undo_46 : decode cX12_undo 46 = .ok (.iconst 0, 1) := by decide +kernel
theorem dX12_undo_47 : decode cX12_undo 47 = .ok (.putfield 99, 3) := by decide +kernel
theorem dX12_undo_50 : decode cX12_undo 50 = .ok (.aload_n 0, 1) := by decide +kernel
theorem dX12_undo_51 : decode cX12_undo 51 = .ok (.iconst 1, 1) := by decide +kernel
theorem dX12_undo_52 : decode cX12_undo 52 = .ok (.invokevirtual 102, 3) := by decide +kernel
theorem dX12_undo_55 : decode cX12_undo 55 = .ok (.ireturn, 1) := by decide +kernel
theorem dX12_findings_0 : decode cX12_findings 0 = .ok (.iload_n 1, 1) := by decide +kernel
theorem dX12_findings_1 : decode cX12_findings 1 = .ok (.iconst 0, 1) := by decide +kernel
theorem dX12_findings_2 : decode cX12_findings 2 = .ok (.iconst 4, 1) := by decide +kernel
theorem dX12_findings_3 : decode cX12_findings 3 = .ok (.invokestatic 88, 3) := by decide +kernel
theorem dX12_findings_6 : decode cX12_findings 6 = .ok (.ifCond .eq 12, 3) := by decide +kernel
theorem dX12_findings_9 : decode cX12_findings 9 = .ok (.aload_n 0, 1) := by decide +kernel
theorem dX12_findings_10 : decode cX12_findings 10 = .ok (.getfield 16, 3) := by decide +kernel
theorem dX12_findings_13 : decode cX12_findings 13 = .ok (.iload_n 1, 1) := by decide +kernel
theorem dX12_findings_14 : decode cX12_findings 14 = .ok (.iaload, 1) := by decide +kernel
theorem dX12_findings_15 : decode cX12_findings 15 = .ok (.goto 5, 3) := by decide +kernel
theorem dX12_findings_18 : decode cX12_findings 18 = .ok (.bipush (-2), 2) := by decide +kernel
theorem dX12_findings_20 : decode cX12_findings 20 = .ok (.ireturn, 1) := by decide +kernel
theorem dX12_status_0 : decode cX12_status 0 = .ok (.aload_n 0, 1) := by decide +kernel
theorem dX12_status_1 : decode cX12_status 1 = .ok (.getfield 76, 3) := by decide +kernel
theorem dX12_status_4 : decode cX12_status 4 = .ok (.ireturn, 1) := by decide +kernel
theorem dX12_trace_0 : decode cX12_trace 0 = .ok (.aload_n 0, 1) := by decide +kernel
theorem dX12_trace_1 : decode cX12_trace 1 = .ok (.getfield 221, 3) := by decide +kernel
theorem dX12_trace_4 : decode cX12_trace 4 = .ok (.ireturn, 1) := by decide +kernel
theorem dX12_count_0 : decode cX12_count 0 = .ok (.iload_n 1, 1) := by decide +kernel
theorem dX12_count_1 : decode cX12_count 1 = .ok (.iconst 0, 1) := by decide +kernel
theorem dX12_count_2 : decode cX12_count 2 = .ok (.iconst 3, 1) := by decide +kernel
theorem dX12_count_3 : decode cX12_count 3 = .ok (.invokestatic 88, 3) := by decide +kernel
theorem dX12_count_6 : decode cX12_count 6 = .ok (.ifCond .eq 12, 3) := by decide +kernel
theorem dX12_count_9 : decode cX12_count 9 = .ok (.aload_n 0, 1) := by decide +kernel
theorem dX12_count_10 : decode cX12_count 10 = .ok (.getfield 7, 3) := by decide +kernel
theorem dX12_count_13 : decode cX12_count 13 = .ok (.iload_n 1, 1) := by decide +kernel
theorem dX12_count_14 : decode cX12_count 14 = .ok (.iaload, 1) := by decide +kernel
theorem dX12_count_15 : decode cX12_count 15 = .ok (.goto 5, 3) := by decide +kernel
theorem dX12_count_18 : decode cX12_count 18 = .ok (.bipush (-2), 2) := by decide +kernel
theorem dX12_count_20 : decode cX12_count 20 = .ok (.ireturn, 1) := by decide +kernel
