theorem dX12_snows_69 : decode cX12_snows 69 = .ok (.fload_n 3, 1) := by decide +kernel
theorem dX12_snows_70 : decode cX12_snows 70 = .ok (.iload 5, 2) := by decide +kernel
theorem dX12_snows_72 : decode cX12_snows 72 = .ok (.i2f, 1) := by decide +kernel
theorem dX12_snows_73 : decode cX12_snows 73 = .ok (.fadd, 1) := by decide +kernel
theorem dX12_snows_74 : decode cX12_snows 74 = .ok (.fstore_n 3, 1) := by decide +kernel
theorem dX12_snows_75 : decode cX12_snows 75 = .ok (.iinc 4 1, 3) := by decide +kernel
theorem dX12_snows_78 : decode cX12_snows 78 = .ok (.goto (-71), 3) := by decide +kernel
theorem dX12_snows_81 : decode cX12_snows 81 = .ok (.aload_n 0, 1) := by decide +kernel
theorem dX12_snows_82 : decode cX12_snows 82 = .ok (.iload_n 1, 1) := by decide +kernel
theorem dX12_snows_83 : decode cX12_snows 83 = .ok (.invokevirtual 109, 3) := by decide +kernel
theorem dX12_snows_86 : decode cX12_snows 86 = .ok (.istore 4, 2) := by decide +kernel
theorem dX12_snows_88 : decode cX12_snows 88 = .ok (.aload_n 0, 1) := by decide +kernel
theorem dX12_snows_89 : decode cX12_snows 89 = .ok (.getfield 7, 3) := by decide +kernel
theorem dX12_snows_92 : decode cX12_snows 92 = .ok (.iload 4, 2) := by decide +kernel
theorem dX12_snows_94 : decode cX12_snows 94 = .ok (.iconst 1, 1) := by decide +kernel
theorem dX12_snows_95 : decode cX12_snows 95 = .ok (.iadd, 1) := by decide +kernel
theorem dX12_snows_96 : decode cX12_snows 96 = .ok (.fload_n 3, 1) := by decide +kernel
theorem dX12_snows_97 : decode cX12_snows 97 = .ok (.fconst 0, 1) := by decide +kernel
theorem dX12_snows_98 : decode cX12_snows 98 = .ok (.fcmp .l, 1) := by decide +kernel
theorem dX12_snows_99 : decode cX12_snows 99 = .ok (.ifCond .le 7, 3) := by decide +kernel
theorem dX12_snows_102 : decode cX12_snows 102 = .ok (.iconst 0, 1) := by decide +kernel
theorem dX12_snows_103 : decode cX12_snows 103 = .ok (.goto 4, 3) := by decide +kernel
theorem dX12_snows_106 : decode cX12_snows 106 = .ok (.iconst 1, 1) := by decide +kernel
theorem dX12_snows_107 : decode cX12_snows 107 = .ok (.iastore, 1) := by decide +kernel
theorem dX12_snows_108 : decode cX12_snows 108 = .ok (.fload_n 3, 1) := by decide +kernel
theorem dX12_snows_109 : decode cX12_snows 109 = .ok (.fconst 0, 1) := by decide +kernel
theorem dX12_snows_110 : decode cX12_snows 110 = .ok (.fcmp .l, 1) := by decide +kernel
theorem dX12_snows_111 : decode cX12_snows 111 = .ok (.ifCond .le 37, 3) := by decide +kernel
theorem dX12_snows_114 : decode cX12_snows 114 = .ok (.aload_n 0, 1) := by decide +kernel
theorem dX12_snows_115 : decode cX12_snows 115 = .ok (.getfield 7, 3) := by decide +kernel
theorem dX12_snows_118 : decode cX12_snows 118 = .ok (.iload 4, 2) := by decide +kernel
theorem dX12_snows_120 : decode cX12_snows 120 = .ok (.iconst 0, 1) := by decide +kernel
theorem dX12_snows_121 : decode cX12_snows 121 = .ok (.iadd, 1) := by decide +kernel
theorem dX12_snows_122 : decode cX12_snows 122 = .ok (.aload_n 0, 1) := by decide +kernel
theorem dX12_snows_123 : decode cX12_snows 123 = .ok (.getfield 7, 3) := by decide +kernel
theorem dX12_snows_126 : decode cX12_snows 126 = .ok (.iload 4, 2) := by decide +kernel
theorem dX12_snows_128 : decode cX12_snows 128 = .ok (.iconst 0, 1) := by decide +kernel
theorem dX12_snows_129 : decode cX12_snows 129 = .ok (.iadd, 1) := by decide +kernel
theorem dX12_snows_130 : decode cX12_snows 130 = .ok (.iaload, 1) := by decide +kernel
theorem dX12_snows_131 : decode cX12_snows 131 = .ok (.aload_n 0, 1) := by decide +kernel
theorem dX12_snows_132 : decode cX12_snows 132 = .ok (.fload_n 2, 1) := by decide +kernel
theorem dX12_snows_133 : decode cX12_snows 133 = .ok (.fload_n 3, 1) := by decide +kernel
theorem dX12_snows_134 : decode cX12_snows 134 = .ok (.fdiv, 1) := by decide +kernel
theorem dX12_snows_135 : decode cX12_snows 135 = .ok (.ldc 154, 2) := by decide +kernel
theorem dX12_snows_137 : decode cX12_snows 137 = .ok (.fmul, 1) := by decide +kernel
theorem dX12_snows_138 : decode cX12_snows 138 = .ok (.invokevirtual 163, 3) := by decide +kernel
theorem dX12_snows_141 : decode cX12_snows 141 = .ok (.iadd, 1) := by decide +kernel
theorem dX12_snows_142 : decode cX12_snows 142 = .ok (.ldc 155, 2) := by decide +kernel
theorem dX12_snows_144 : decode cX12_snows 144 = .ok (.invokestatic 156, 3) := by decide +kernel
theorem dX12_snows_147 : decode cX12_snows 147 = .ok (.iastore, 1) := by decide +kernel
theorem dX12_snows_148 : decode cX12_snows 148 = .ok (.fload_n 3, 1) := by decide +kernel
theorem dX12_snows_149 : decode cX12_snows 149 = .ok (.fconst 0, 1) := by decide +kernel
theorem dX12_snows_150 : decode cX12_snows 150 = .ok (.fcmp .l, 1) := by decide +kernel
theorem dX12_snows_151 : decode cX12_snows 151 = .ok (.ifCond .le 7, 3) := by decide +kernel
theorem dX12_snows_154 : decode cX12_snows 154 = .ok (.iconst 1, 1) := by decide +kernel
theorem dX12_snows_155 : decode cX12_snows 155 = .ok (.goto 4, 3) := by decide +kernel
theorem dX12_snows_158 : decode cX12_snows 158 = .ok (.iconst 0, 1) := by decide +kernel
theorem dX12_snows_159 : decode cX12_snows 159 = .ok (.ireturn, 1) := by decide +kernel
theorem dX12_speed_0 : decode cX12_speed 0 = .ok (.aload_n 0, 1) := by decide +kernel
theorem dX12_speed_1 : decode cX12_speed 1 = .ok (.iload_n 1, 1) := by decide +kernel
theorem dX12_speed_2 : decode cX12_speed 2 = .ok (.invokevirtual 206, 3) := by decide +kernel
theorem dX12_speed_5 : decode cX12_speed 5 = .ok (.iconst 4, 1) := by decide +kernel
theorem dX12_speed_6 : decode cX12_speed 6 = .ok (.if_icmp .ne 25, 3) := by decide +kernel
theorem dX12_speed_9 : decode cX12_speed 9 = .ok (.aload_n 0, 1) := by decide +kernel
theorem dX12_speed_10 : decode cX12_speed 10 = .ok (.iload_n 1, 1) := by decide +kernel
theorem dX12_speed_11 : decode cX12_speed 11 = .ok (.invokevirtual 209, 3) := by decide +kernel
theorem dX12_speed_14 : decode cX12_speed 14 = .ok (.invokestatic 212, 3) := by decide +kernel
theorem dX12_speed_17 : decode cX12_speed 17 = .ok (.aload_n 0, 1) := by decide +kernel
theorem dX12_speed_18 : decode cX12_speed 18 = .ok (.iload_n 1, 1) := by decide +kernel
theorem dX12_speed_19 : decode cX12_speed 19 = .ok (.invokevirtual 215, 3) := by decide +kernel
theorem dX12_speed_22 : decode cX12_speed 22 = .ok (.invokestatic 212, 3) := by decide +kernel
theorem dX12_speed_25 : decode cX12_speed 25 = .ok (.invokestatic 156, 3) := by decide +kernel
theorem dX12_speed_28 : decode cX12_speed 28 = .ok (.goto 11, 3) := by decide +kernel
theorem dX12_speed_31 : decode cX12_speed 31 = .ok (.aload_n 0, 1) := by decide +kernel
theorem dX12_speed_32 : decode cX12_speed 32 = .ok (.iload_n 1, 1) := by decide +kernel
theorem dX12_speed_33 : decode cX12_speed 33 = .ok (.invokevirtual 206, 3) := by decide +kernel
theorem dX12_speed_36 : decode cX12_speed 36 = .ok (.invokestatic 212, 3) := by decide +kernel
theorem dX12_speed_39 : decode cX12_speed 39 = .ok (.ireturn, 1) := by decide +kernel
theorem dX12_speedOf_0 : decode cX12_speedOf 0 = .ok (.iload_n 0, 1) := by decide +kernel
theorem dX12_speedOf_1 : decode cX12_speedOf 1 = .ok (.ifCond .ne 8, 3) := by decide +kernel
theorem dX12_speedOf_4 : decode cX12_speedOf 4 = .ok (.bipush 50, 2) := by decide +kernel
theorem dX12_speedOf_6 : decode cX12_speedOf 6 = .ok (.goto 25, 3) := by decide +kernel
theorem dX12_speedOf_9 : decode cX12_speedOf 9 = .ok (.iload_n 0, 1) := by decide +kernel
theorem dX12_speedOf_10 : decode cX12_speedOf 10 = .ok (.iconst 1, 1) := by decide +kernel
theorem dX12_speedOf_11 : decode cX12_speedOf 11 = .ok (.if_icmp .ne 8, 3) := by decide +kernel
theorem dX12_speedOf_14 : decode cX12_speedOf 14 = .ok (.bipush 30, 2) := by decide +kernel
theorem dX12_speedOf_16 : decode cX12_speedOf 16 = .ok (.goto 15, 3) := by decide +kernel
theorem dX12_speedOf_19 : decode cX12_speedOf 19 = .ok (.iload_n 0, 1) := by decide +kernel
theorem dX12_speedOf_20 : decode cX12_speedOf 20 = .ok (.iconst 2, 1) := by decide +kernel
theorem dX12_speedOf_21 : decode cX12_speedOf 21 = .ok (.if_icmp .ne 8, 3) := by decide +kernel
theorem dX12_speedOf_24 : decode cX12_speedOf 24 = .ok (.bipush 45, 2) := by decide +kernel
theorem dX12_speedOf_26 : decode cX12_speedOf 26 = .ok (.goto 5, 3) := by decide +kernel
theorem dX12_speedOf_29 : decode cX12_speedOf 29 = .ok (.bipush 20, 2) := by decide +kernel
theorem dX12_speedOf_31 : decode cX12_speedOf 31 = .ok (.ireturn, 1) := by decide +kernel
theorem dX12_split_0 : decode cX12_split 0 = .ok (.iconst 0, 1) := by decide +kernel
theorem dX12_split_1 : decode cX12_split 1 = .ok (.istore_n 1, 1) := by decide +kernel
theorem dX12_split_2 : decode cX12_split 2 = .ok (.iconst 0, 1) := by decide +kernel
theorem dX12_split_3 : decode cX12_split 3 = .ok (.istore_n 2, 1) := by decide +kernel
theorem dX12_split_4 : decode cX12_split 4 = .ok (.iload_n 2, 1) := by decide +kernel
theorem dX12_split_5 : decode cX12_split 5 = .ok (.aload_n 0, 1) := by decide +kernel
theorem dX12_split_6 : decode cX12_split 6 = .ok (.getfield 7, 3) := by decide +kernel
theorem dX12_split_9 : decode cX12_split 9 = .ok (.iconst 3, 1) := by decide +kernel
theorem dX12_split_10 : decode cX12_split 10 = .ok (.iaload, 1) := by decide +kernel
theorem dX12_split_11 : decode cX12_split 11 = .ok (.if_icmp .ge 142, 3) := by decide +kernel
theorem dX12_split_14 : decode cX12_split 14 = .ok (.aload_n 0, 1) := by decide +kernel
theorem dX12_split_15 : decode cX12_split 15 = .ok (.getfield 67, 3) := by decide +kernel
theorem dX12_split_18 : decode cX12_split 18 = .ok (.iload_n 2, 1) := by decide +kernel
theorem dX12_split_19 : decode cX12_split 19 = .ok (.iload_n 1, 1) := by decide +kernel
theorem dX12_split_20 : decode cX12_split 20 = .ok (.iastore, 1) := by decide +kernel
theorem dX12_split_21 : decode cX12_split 21 = .ok (.aload_n 0, 1) := by decide +kernel
theorem dX12_split_22 : decode cX12_split 22 = .ok (.getfield 73, 3) := by decide +kernel
theorem dX12_split_25 : decode cX12_split 25 = .ok (.iload_n 2, 1) := by decide +kernel
theorem dX12_split_26 : decode cX12_split 26 = .ok (.iconst 0, 1) := by decide +kernel
theorem dX12_split_27 : decode cX12_split 27 = .ok (.iastore, 1) := by decide +kernel
theorem dX12_split_28 : decode cX12_split 28 = .ok (.aload_n 0, 1) := by decide +kernel
theorem dX12_split_29 : decode cX12_split 29 = .ok (.getfield 7, 3) := by decide +kernel
theorem dX12_split_32 : decode cX12_split 32 = .ok (.aload_n 0, 1) := by decide +kernel
theorem dX12_split_33 : decode cX12_split 33 = .ok (.iload_n 2, 1) := by decide +kernel
theorem dX12_split_34 : decode cX12_split 34 = .ok (.invokevirtual 188, 3) := by decide +kernel
theorem dX12_split_37 : decode cX12_split 37 = .ok (.iconst 2, 1) := by decide +kernel
theorem dX12_split_38 : decode cX12_split 38 = .ok (.iadd, 1) := by decide +kernel
theorem dX12_split_39 : decode cX12_split 39 = .ok (.iaload, 1) := by decide +kernel
theorem dX12_split_40 : decode cX12_split 40 = .ok (.ifCond .ne 7, 3) := by decide +kernel
theorem dX12_split_43 : decode cX12_split 43 = .ok (.iconst 1, 1) := by decide +kernel
theorem dX12_split_44 : decode cX12_split 44 = .ok (.goto 4, 3) := by decide +kernel
theorem dX12_split_47 : decode cX12_split 47 = .ok (.iconst 0, 1) := by decide +kernel
theorem dX12_split_48 : decode cX12_split 48 = .ok (.istore_n 3, 1) := by decide +kernel
theorem dX12_split_49 : decode cX12_split 49 = .ok (.iload_n 3, 1) := by decide +kernel
theorem dX12_split_50 : decode cX12_split 50 = .ok (.ifCond .eq 90, 3) := by decide +kernel
theorem dX12_split_53 : decode cX12_split 53 = .ok (.iload_n 1, 1) := by decide +kernel
theorem dX12_split_54 : decode cX12_split 54 = .ok (.aload_n 0, 1) := by decide +kernel
theorem dX12_split_55 : decode cX12_split 55 = .ok (.getfield 7, 3) := by decide +kernel
theorem dX12_split_58 : decode cX12_split 58 = .ok (.iconst 4, 1) := by decide +kernel
theorem dX12_split_59 : decode cX12_split 59 = .ok (.iaload, 1) := by decide +kernel
theorem dX12_split_60 : decode cX12_split 60 = .ok (.if_icmp .ge 80, 3) := by decide +kernel
theorem dX12_split_63 : decode cX12_split 63 = .ok (.aload_n 0, 1) := by decide +kernel
theorem dX12_split_64 : decode cX12_split 64 = .ok (.iload_n 2, 1) := by decide +kernel
theorem dX12_split_65 : decode cX12_split 65 = .ok (.iload_n 1, 1) := by decide +kernel
theorem dX12_split_66 : decode cX12_split 66 = .ok (.invokevirtual 335, 3) := by decide +kernel
theorem dX12_split_69 : decode cX12_split 69 = .ok (.istore 4, 2) := by decide +kernel
theorem dX12_split_71 : decode cX12_split 71 = .ok (.iload 4, 2) := by decide +kernel
theorem dX12_split_73 : decode cX12_split 73 = .ok (.ifCond .lt 31, 3) := by decide +kernel
theorem dX12_split_76 : decode cX12_split 76 = .ok (.aload_n 0, 1) := by decide +kernel
theorem dX12_split_77 : decode cX12_split 77 = .ok (.getfield 73, 3) := by decide +kernel
theorem dX12_split_80 : decode cX12_split 80 = .ok (.iload_n 2, 1) := by decide +kernel
theorem dX12_split_81 : decode cX12_split 81 = .ok (.iaload, 1) := by decide +kernel
theorem dX12_split_82 : decode cX12_split 82 = .ok (.iload 4, 2) := by decide +kernel
theorem dX12_split_84 : decode cX12_split 84 = .ok (.iadd, 1) := by decide +kernel
theorem dX12_split_85 : decode cX12_split 85 = .ok (.aload_n 0, 1) := by decide +kernel
theorem dX12_split_86 : decode cX12_split 86 = .ok (.getfield 7, 3) := by decide +kernel
theorem dX12_split_89 : decode cX12_split 89 = .ok (.aload_n 0, 1) := by decide +kernel
theorem dX12_split_90 : decode cX12_split 90 = .ok (.iload_n 2, 1) := by decide +kernel
theorem dX12_split_91 : decode cX12_split 91 = .ok (.invokevirtual 188, 3) := by decide +kernel
theorem dX12_split_94 : decode cX12_split 94 = .ok (.iconst 1, 1) := by decide +kernel
theorem dX12_split_95 : decode cX12_split 95 = .ok (.iadd, 1) := by decide +kernel
theorem dX12_split_96 : decode cX12_split 96 = .ok (.iaload, 1) := by decide +kernel
theorem dX12_split_97 : decode cX12_split 97 = .ok (.if_icmp .gt 7, 3) := by decide +kernel
theorem dX12_split_100 : decode cX12_split 100 = .ok (.iconst 1, 1) := by decide +kernel
theorem dX12_split_101 : decode cX12_split 101 = .ok (.goto 4, 3) := by decide +kernel
theorem dX12_split_104 : decode cX12_split 104 = .ok (.iconst 0, 1) := by decide +kernel
theorem dX12_split_105 : decode cX12_split 105 = .ok (.istore_n 3, 1) := by decide +kernel
theorem dX12_split_106 : decode cX12_split 106 = .ok (.aload_n 0, 1) := by decide +kernel
theorem dX12_split_107 : decode cX12_split 107 = .ok (.getfield 73, 3) := by decide +kernel
theorem dX12_split_110 : decode cX12_split 110 = .ok (.iload_n 2, 1) := by decide +kernel
theorem dX12_split_111 : decode cX12_split 111 = .ok (.dup2, 1) := by decide +kernel
theorem dX12_split_112 : decode cX12_split 112 = .ok (.iaload, 1) := by decide +kernel
theorem dX12_split_113 : decode cX12_split 113 = .ok (.iload_n 3, 1) := by decide +kernel
theorem dX12_split_114 : decode cX12_split 114 = .ok (.ifCond .eq 8, 3) := by decide +kernel
theorem dX12_split_117 : decode cX12_split 117 = .ok (.iload 4, 2) := by decide +kernel
theorem dX12_split_119 : decode cX12_split 119 = .ok (.goto 4, 3) := by decide +kernel
theorem dX12_split_122 : decode cX12_split 122 = .ok (.iconst 0, 1) := by decide +kernel
theorem dX12_split_123 : decode cX12_split 123 = .ok (.iadd, 1) := by decide +kernel
theorem dX12_split_124 : decode cX12_split 124 = .ok (.iastore, 1) := by decide +kernel
theorem dX12_split_125 : decode cX12_split 125 = .ok (.iload_n 1, 1) := by decide +kernel
theorem dX12_split_126 : decode cX12_split 126 = .ok (.iload_n 3, 1) := by decide +kernel
theorem dX12_split_127 : decode cX12_split 127 = .ok (.ifCond .eq 7, 3) := by decide +kernel
theorem dX12_split_130 : decode cX12_split 130 = .ok (.iconst 1, 1) := by decide +kernel
theorem dX12_split_131 : decode cX12_split 131 = .ok (.goto 4, 3) := by decide +kernel
theorem dX12_split_134 : decode cX12_split 134 = .ok (.iconst 0, 1) := by decide +kernel
theorem dX12_split_135 : decode cX12_split 135 = .ok (.iadd, 1) := by decide +kernel
theorem dX12_split_136 : decode cX12_split 136 = .ok (.istore_n 1, 1) := by decide +kernel
theorem dX12_split_137 : decode cX12_split 137 = .ok (.goto (-88), 3) := by decide +kernel
theorem dX12_split_140 : decode cX12_split 140 = .ok (.aload_n 0, 1) := by decide +kernel
theorem dX12_split_141 : decode cX12_split 141 = .ok (.getfield 70, 3) := by decide +kernel
theorem dX12_split_144 : decode cX12_split 144 = .ok (.iload_n 2, 1) := by decide +kernel
theorem dX12_split_145 : decode cX12_split 145 = .ok (.iload_n 1, 1) := by decide +kernel
theorem dX12_split_146 : decode cX12_split 146 = .ok (.iastore, 1) := by decide +kernel
theorem dX12_split_147 : decode cX12_split 147 = .ok (.iinc 2 1, 3) := by decide +kernel
theorem dX12_split_150 : decode cX12_split 150 = .ok (.goto (-146), 3) := by decide +kernel
theorem dX12_split_153 : decode cX12_split 153 = .ok (.iload_n 1, 1) := by decide +kernel
theorem dX12_split_154 : decode cX12_split 154 = .ok (.aload_n 0, 1) := by decide +kernel
theorem dX12_split_155 : decode cX12_split 155 = .ok (.getfield 7, 3) := by decide +kernel
theorem dX12_split_158 : decode cX12_split 158 = .ok (.iconst 4, 1) := by decide +kernel
theorem dX12_split_159 : decode cX12_split 159 = .ok (.iaload, 1) := by decide +kernel
theorem dX12_split_160 : decode cX12_split 160 = .ok (.if_icmp .ge 9, 3) := by decide +kernel
theorem dX12_split_163 : decode cX12_split 163 = .ok (.aload_n 0, 1) := by decide +kernel
theorem dX12_split_164 : decode cX12_split 164 = .ok (.iconst 0, 1) := by decide +kernel
theorem dX12_split_165 : decode cX12_split 165 = .ok (.invokevirtual 102, 3) := by decide +kernel
theorem dX12_split_168 : decode cX12_split 168 = .ok (.ireturn, 1) := by decide +kernel
theorem dX12_split_169 : decode cX12_split 169 = .ok (.aload_n 0, 1) := by decide +kernel
theorem dX12_split_170 : decode cX12_split 170 = .ok (.invokevirtual 96, 3) := by decide +kernel
theorem dX12_split_173 : decode cX12_split 173 = .ok (.iconst 0, 1) := by decide +kernel
theorem dX12_split_174 : decode cX12_split 174 = .ok (.istore_n 2, 1) := by decide +kernel
theorem dX12_split_175 : decode cX12_split 175 = .ok (.iload_n 2, 1) := by decide +kernel
theorem dX12_split_176 : decode cX12_split 176 = .ok (.aload_n 0, 1) := by decide +kernel
theorem dX12_split_177 : decode cX12_split 177 = .ok (.getfield 7, 3) := by decide +kernel
theorem dX12_split_180 : decode cX12_split 180 = .ok (.iconst 3, 1) := by decide +kernel
theorem dX12_split_181 : decode cX12_split 181 = .ok (.iaload, 1) := by decide +kernel
theorem dX12_split_182 : decode cX12_split 182 = .ok (.if_icmp .ge 106, 3) := by decide +kernel
theorem dX12_split_185 : decode cX12_split 185 = .ok (.aload_n 0, 1) := by decide +kernel
theorem dX12_split_186 : decode cX12_split 186 = .ok (.iload_n 2, 1) := by decide +kernel
theorem dX12_split_187 : decode cX12_split 187 = .ok (.invokevirtual 194, 3) := by decide +kernel
theorem dX12_split_190 : decode cX12_split 190 = .ok (.aload_n 0, 1) := by decide +kernel
theorem dX12_split_191 : decode cX12_split 191 = .ok (.getfield 7, 3) := by decide +kernel
theorem dX12_split_194 : decode cX12_split 194 = .ok (.aload_n 0, 1) := by decide +kernel
theorem dX12_split_195 : decode cX12_split 195 = .ok (.iload_n 2, 1) := by decide +kernel
theorem dX12_split_196 : decode cX12_split 196 = .ok (.invokevirtual 188, 3) := by decide +kernel
theorem dX12_split_199 : decode cX12_split 199 = .ok (.iconst 2, 1) := by decide +kernel
theorem dX12_split_200 : decode cX12_split 200 = .ok (.iadd, 1) := by decide +kernel
theorem dX12_split_201 : decode cX12_split 201 = .ok (.iaload, 1) := by decide +kernel
theorem dX12_split_202 : decode cX12_split 202 = .ok (.ifCond .ne 80, 3) := by decide +kernel
theorem dX12_split_205 : decode cX12_split 205 = .ok (.aload_n 0, 1) := by decide +kernel
theorem dX12_split_206 : decode cX12_split 206 = .ok (.getfield 7, 3) := by decide +kernel
theorem dX12_split_209 : decode cX12_split 209 = .ok (.aload_n 0, 1) := by decide +kernel
theorem dX12_split_210 : decode cX12_split 210 = .ok (.iload_n 2, 1) := by decide +kernel
theorem dX12_split_211 : decode cX12_split 211 = .ok (.invokevirtual 188, 3) := by decide +kernel
theorem dX12_split_214 : decode cX12_split 214 = .ok (.iconst 5, 1) := by decide +kernel
theorem dX12_split_215 : decode cX12_split 215 = .ok (.iadd, 1) := by decide +kernel
theorem dX12_split_216 : decode cX12_split 216 = .ok (.iconst 1, 1) := by decide +kernel
theorem dX12_split_217 : decode cX12_split 217 = .ok (.iastore, 1) := by decide +kernel
theorem dX12_split_218 : decode cX12_split 218 = .ok (.aload_n 0, 1) := by decide +kernel
theorem dX12_split_219 : decode cX12_split 219 = .ok (.getfield 7, 3) := by decide +kernel
theorem dX12_split_222 : decode cX12_split 222 = .ok (.aload_n 0, 1) := by decide +kernel
theorem dX12_split_223 : decode cX12_split 223 = .ok (.iload_n 2, 1) := by decide +kernel
theorem dX12_split_224 : decode cX12_split 224 = .ok (.invokevirtual 188, 3) := by decide +kernel
theorem dX12_split_227 : decode cX12_split 227 = .ok (.bipush 6, 2) := by decide +kernel
theorem dX12_split_229 : decode cX12_split 229 = .ok (.iadd, 1) := by decide +kernel
theorem dX12_split_230 : decode cX12_split 230 = .ok (.aload_n 0, 1) := by decide +kernel
theorem dX12_split_231 : decode cX12_split 231 = .ok (.getfield 67, 3) := by decide +kernel
theorem dX12_split_234 : decode cX12_split 234 = .ok (.iload_n 2, 1) := by decide +kernel
theorem dX12_split_235 : decode cX12_split 235 = .ok (.iaload, 1) := by decide +kernel
theorem dX12_split_236 : decode cX12_split 236 = .ok (.iastore, 1) := by decide +kernel
theorem dX12_split_237 : decode cX12_split 237 = .ok (.aload_n 0, 1) := by decide +kernel
theorem dX12_split_238 : decode cX12_split 238 = .ok (.getfield 7, 3) := by decide +kernel
theorem dX12_split_241 : decode cX12_split 241 = .ok (.aload_n 0, 1) := by decide +kernel
theorem dX12_split_242 : decode cX12_split 242 = .ok (.iload_n 2, 1) := by decide +kernel
theorem dX12_split_243 : decode cX12_split 243 = .ok (.invokevirtual 188, 3) := by decide +kernel
theorem dX12_split_246 : decode cX12_split 246 = .ok (.bipush 7, 2) := by decide +kernel
theorem dX12_split_248 : decode cX12_split 248 = .ok (.iadd, 1) := by decide +kernel
theorem dX12_split_249 : decode cX12_split 249 = .ok (.aload_n 0, 1) := by decide +kernel
theorem dX12_split_250 : decode cX12_split 250 = .ok (.getfield 70, 3) := by decide +kernel
theorem dX12_split_253 : decode cX12_split 253 = .ok (.iload_n 2, 1) := by decide +kernel
theorem dX12_split_254 : decode cX12_split 254 = .ok (.iaload, 1) := by decide +kernel
theorem dX12_split_255 : decode cX12_split 255 = .ok (.aload_n 0, 1) := by decide +kernel
theorem dX12_split_256 : decode cX12_split 256 = .ok (.getfield 67, 3) := by decide +kernel
theorem dX12_split_259 : decode cX12_split 259 = .ok (.iload_n 2, 1) := by decide +kernel
theorem dX12_split_260 : decode cX12_split 260 = .ok (.iaload, 1) := by decide +kernel
theorem dX12_split_261 : decode cX12_split 261 = .ok (.isub, 1) := by decide +kernel
theorem dX12_split_262 : decode cX12_split 262 = .ok (.iastore, 1) := by decide +kernel
theorem dX12_split_263 : decode cX12_split 263 = .ok (.aload_n 0, 1) := by decide +kernel
theorem dX12_split_264 : decode cX12_split 264 = .ok (.getfield 7, 3) := by decide +kernel
theorem dX12_split_267 : decode cX12_split 267 = .ok (.aload_n 0, 1) := by decide +kernel
theorem dX12_split_268 : decode cX12_split 268 = .ok (.iload_n 2, 1) := by decide +kernel
theorem dX12_split_269 : decode cX12_split 269 = .ok (.invokevirtual 188, 3) := by decide +kernel
theorem dX12_split_272 : decode cX12_split 272 = .ok (.bipush 10, 2) := by decide +kernel
theorem dX12_split_274 : decode cX12_split 274 = .ok (.iadd, 1) := by decide +kernel
theorem dX12_split_275 : decode cX12_split 275 = .ok (.aload_n 0, 1) := by decide +kernel
theorem dX12_split_276 : decode cX12_split 276 = .ok (.getfield 73, 3) := by decide +kernel
theorem dX12_split_279 : decode cX12_split 279 = .ok (.iload_n 2, 1) := by decide +kernel
theorem dX12_split_280 : decode cX12_split 280 = .ok (.iaload, 1) := by decide +kernel
theorem dX12_split_281 : decode cX12_split 281 = .ok (.iastore, 1) := by decide +kernel
theorem dX12_split_282 : decode cX12_split 282 = .ok (.iinc 2 1, 3) := by decide +kernel
theorem dX12_split_285 : decode cX12_split 285 = .ok (.goto (-110), 3) := by decide +kernel
theorem dX12_split_288 : decode cX12_split 288 = .ok (.aload_n 0, 1) := by decide +kernel
theorem dX12_split_289 : decode cX12_split 289 = .ok (.iconst 1, 1) := by decide +kernel
theorem dX12_split_290 : decode cX12_split 290 = .ok (.invokevirtual 102, 3) := by decide +kernel
theorem dX12_split_293 : decode cX12_split 293 = .ok (.ireturn, 1) := by decide +kernel
theorem dX12_st_0 : decode cX12_st 0 = .ok (.bipush 16, 2) := by decide +kernel
theorem dX12_st_2 : decode cX12_st 2 = .ok (.bipush 9, 2) := by decide +kernel
theorem dX12_st_4 : decode cX12_st 4 = .ok (.iload_n 1, 1) := by decide +kernel
theorem dX12_st_5 : decode cX12_st 5 = .ok (.imul, 1) := by decide +kernel
theorem dX12_st_6 : decode cX12_st 6 = .ok (.iadd, 1) := by decide +kernel
theorem dX12_st_7 : decode cX12_st 7 = .ok (.ireturn, 1) := by decide +kernel
theorem dX12_status_0 : decode cX12_status 0 = .ok (.aload_n 0, 1) := by decide +kernel
theorem dX12_status_1 : decode cX12_status 1 = .ok (.getfield 76, 3) := by decide +kernel
theorem dX12_status_4 : decode cX12_status 4 = .ok (.ireturn, 1) := by decide +kernel
theorem dX12_street_0 : decode cX12_street 0 = .ok (.aload_n 0, 1) := by decide +kernel
theorem dX12_street_1 : decode cX12_street 1 = .ok (.iload_n 1, 1) := by decide +kernel
theorem dX12_street_2 : decode cX12_street 2 = .ok (.invokevirtual 105, 3) := by decide +kernel
theorem dX12_street_5 : decode cX12_street 5 = .ok (.ifCond .eq 27, 3) := by decide +kernel
theorem dX12_street_8 : decode cX12_street 8 = .ok (.aload_n 0, 1) := by decide +kernel
theorem dX12_street_9 : decode cX12_street 9 = .ok (.iload_n 2, 1) := by decide +kernel
theorem dX12_street_10 : decode cX12_street 10 = .ok (.invokevirtual 105, 3) := by decide +kernel
theorem dX12_street_13 : decode cX12_street 13 = .ok (.ifCond .eq 19, 3) := by decide +kernel
theorem dX12_street_16 : decode cX12_street 16 = .ok (.iload_n 1, 1) := by decide +kernel
theorem dX12_street_17 : decode cX12_street 17 = .ok (.iload_n 2, 1) := by decide +kernel
theorem dX12_street_18 : decode cX12_street 18 = .ok (.if_icmp .eq 14, 3) := by decide +kernel
theorem dX12_street_21 : decode cX12_street 21 = .ok (.iload_n 3, 1) := by decide +kernel
theorem dX12_street_22 : decode cX12_street 22 = .ok (.iconst 1, 1) := by decide +kernel
theorem dX12_street_23 : decode cX12_street 23 = .ok (.sipush 10000, 3) := by decide +kernel
theorem dX12_street_26 : decode cX12_street 26 = .ok (.invokestatic 88, 3) := by decide +kernel
theorem dX12_street_29 : decode cX12_street 29 = .ok (.ifCond .ne 10, 3) := by decide +kernel
theorem dX12_street_32 : decode cX12_street 32 = .ok (.aload_n 0, 1) := by decide +kernel
theorem dX12_street_33 : decode cX12_street 33 = .ok (.bipush (-2), 2) := by decide +kernel
theorem dX12_street_35 : decode cX12_street 35 = .ok (.invokevirtual 92, 3) := by decide +kernel
theorem dX12_street_38 : decode cX12_street 38 = .ok (.ireturn, 1) := by decide +kernel
theorem dX12_street_39 : decode cX12_street 39 = .ok (.aload_n 0, 1) := by decide +kernel
theorem dX12_street_40 : decode cX12_street 40 = .ok (.getfield 7, 3) := by decide +kernel
theorem dX12_street_43 : decode cX12_street 43 = .ok (.iconst 1, 1) := by decide +kernel
theorem dX12_street_44 : decode cX12_street 44 = .ok (.iaload, 1) := by decide +kernel
theorem dX12_street_45 : decode cX12_street 45 = .ok (.sipush 150, 3) := by decide +kernel
theorem dX12_street_48 : decode cX12_street 48 = .ok (.if_icmp .ne 10, 3) := by decide +kernel
theorem dX12_street_51 : decode cX12_street 51 = .ok (.aload_n 0, 1) := by decide +kernel
theorem dX12_street_52 : decode cX12_street 52 = .ok (.bipush (-3), 2) := by decide +kernel
theorem dX12_street_54 : decode cX12_street 54 = .ok (.invokevirtual 92, 3) := by decide +kernel
theorem dX12_street_57 : decode cX12_street 57 = .ok (.ireturn, 1) := by decide +kernel
theorem dX12_street_58 : decode cX12_street 58 = .ok (.aload_n 0, 1) := by decide +kernel
theorem dX12_street_59 : decode cX12_street 59 = .ok (.invokevirtual 96, 3) := by decide +kernel
theorem dX12_street_62 : decode cX12_street 62 = .ok (.aload_n 0, 1) := by decide +kernel
theorem dX12_street_63 : decode cX12_street 63 = .ok (.iconst 0, 1) := by decide +kernel
theorem dX12_street_64 : decode cX12_street 64 = .ok (.putfield 99, 3) := by decide +kernel
theorem dX12_street_67 : decode cX12_street 67 = .ok (.aload_n 0, 1) := by decide +kernel
theorem dX12_street_68 : decode cX12_street 68 = .ok (.aload_n 0, 1) := by decide +kernel
theorem dX12_street_69 : decode cX12_street 69 = .ok (.getfield 7, 3) := by decide +kernel
theorem dX12_street_72 : decode cX12_street 72 = .ok (.iconst 1, 1) := by decide +kernel
theorem dX12_street_73 : decode cX12_street 73 = .ok (.iaload, 1) := by decide +kernel
theorem dX12_street_74 : decode cX12_street 74 = .ok (.invokevirtual 109, 3) := by decide +kernel
theorem dX12_street_77 : decode cX12_street 77 = .ok (.istore 5, 2) := by decide +kernel
theorem dX12_street_79 : decode cX12_street 79 = .ok (.aload_n 0, 1) := by decide +kernel
theorem dX12_street_80 : decode cX12_street 80 = .ok (.getfield 7, 3) := by decide +kernel
theorem dX12_street_83 : decode cX12_street 83 = .ok (.iload 5, 2) := by decide +kernel
theorem dX12_street_85 : decode cX12_street 85 = .ok (.iconst 0, 1) := by decide +kernel
theorem dX12_street_86 : decode cX12_street 86 = .ok (.iadd, 1) := by decide +kernel
theorem dX12_street_87 : decode cX12_street 87 = .ok (.iconst 0, 1) := by decide +kernel
theorem dX12_street_88 : decode cX12_street 88 = .ok (.iastore, 1) := by decide +kernel
theorem dX12_street_89 : decode cX12_street 89 = .ok (.aload_n 0, 1) := by decide +kernel
theorem dX12_street_90 : decode cX12_street 90 = .ok (.getfield 7, 3) := by decide +kernel
theorem dX12_street_93 : decode cX12_street 93 = .ok (.iload 5, 2) := by decide +kernel
theorem dX12_street_95 : decode cX12_street 95 = .ok (.iconst 1, 1) := by decide +kernel
theorem dX12_street_96 : decode cX12_street 96 = .ok (.iadd, 1) := by decide +kernel
theorem dX12_street_97 : decode cX12_street 97 = .ok (.iconst 0, 1) := by decide +kernel
theorem dX12_street_98 : decode cX12_street 98 = .ok (.iastore, 1) := by decide +kernel
theorem dX12_street_99 : decode cX12_street 99 = .ok (.aload_n 0, 1) := by decide +kernel
theorem dX12_street_100 : decode cX12_street 100 = .ok (.getfield 7, 3) := by decide +kernel
theorem dX12_street_103 : decode cX12_street 103 = .ok (.iload 5, 2) := by decide +kernel
theorem dX12_street_105 : decode cX12_street 105 = .ok (.iconst 2, 1) := by decide +kernel
theorem dX12_street_106 : decode cX12_street 106 = .ok (.iadd, 1) := by decide +kernel
theorem dX12_street_107 : decode cX12_street 107 = .ok (.iconst 0, 1) := by decide +kernel
theorem dX12_street_108 : decode cX12_street 108 = .ok (.iastore, 1) := by decide +kernel
theorem dX12_street_109 : decode cX12_street 109 = .ok (.aload_n 0, 1) := by decide +kernel
theorem dX12_street_110 : decode cX12_street 110 = .ok (.getfield 7, 3) := by decide +kernel
theorem dX12_street_113 : decode cX12_street 113 = .ok (.iload 5, 2) := by decide +kernel
theorem dX12_street_115 : decode cX12_street 115 = .ok (.iconst 3, 1) := by decide +kernel
theorem dX12_street_116 : decode cX12_street 116 = .ok (.iadd, 1) := by decide +kernel
theorem dX12_street_117 : decode cX12_street 117 = .ok (.iconst 1, 1) := by decide +kernel
theorem dX12_street_118 : decode cX12_street 118 = .ok (.iastore, 1) := by decide +kernel
theorem dX12_street_119 : decode cX12_street 119 = .ok (.aload_n 0, 1) := by decide +kernel
theorem dX12_street_120 : decode cX12_street 120 = .ok (.getfield 7, 3) := by decide +kernel
theorem dX12_street_123 : decode cX12_street 123 = .ok (.iload 5, 2) := by decide +kernel
theorem dX12_street_125 : decode cX12_street 125 = .ok (.iconst 4, 1) := by decide +kernel
theorem dX12_street_126 : decode cX12_street 126 = .ok (.iadd, 1) := by decide +kernel
theorem dX12_street_127 : decode cX12_street 127 = .ok (.iconst 0, 1) := by decide +kernel
theorem dX12_street_128 : decode cX12_street 128 = .ok (.iastore, 1) := by decide +kernel
theorem dX12_street_129 : decode cX12_street 129 = .ok (.aload_n 0, 1) := by decide +kernel
theorem dX12_street_130 : decode cX12_street 130 = .ok (.getfield 7, 3) := by decide +kernel
theorem dX12_street_133 : decode cX12_street 133 = .ok (.iload 5, 2) := by decide +kernel
theorem dX12_street_135 : decode cX12_street 135 = .ok (.iconst 5, 1) := by decide +kernel
theorem dX12_street_136 : decode cX12_street 136 = .ok (.iadd, 1) := by decide +kernel
theorem dX12_street_137 : decode cX12_street 137 = .ok (.iload 4, 2) := by decide +kernel
theorem dX12_street_139 : decode cX12_street 139 = .ok (.ifCond .eq 7, 3) := by decide +kernel
theorem dX12_street_142 : decode cX12_street 142 = .ok (.iconst 1, 1) := by decide +kernel
theorem dX12_street_143 : decode cX12_street 143 = .ok (.goto 4, 3) := by decide +kernel
theorem dX12_street_146 : decode cX12_street 146 = .ok (.iconst 0, 1) := by decide +kernel
theorem dX12_street_147 : decode cX12_street 147 = .ok (.iastore, 1) := by decide +kernel
theorem dX12_street_148 : decode cX12_street 148 = .ok (.aload_n 0, 1) := by decide +kernel
theorem dX12_street_149 : decode cX12_street 149 = .ok (.getfield 7, 3) := by decide +kernel
theorem dX12_street_152 : decode cX12_street 152 = .ok (.iload 5, 2) := by decide +kernel
theorem dX12_street_154 : decode cX12_street 154 = .ok (.bipush 6, 2) := by decide +kernel
theorem dX12_street_156 : decode cX12_street 156 = .ok (.iadd, 1) := by decide +kernel
theorem dX12_street_157 : decode cX12_street 157 = .ok (.iload_n 3, 1) := by decide +kernel
theorem dX12_street_158 : decode cX12_street 158 = .ok (.iastore, 1) := by decide +kernel
theorem dX12_street_159 : decode cX12_street 159 = .ok (.aload_n 0, 1) := by decide +kernel
theorem dX12_street_160 : decode cX12_street 160 = .ok (.getfield 7, 3) := by decide +kernel
theorem dX12_street_163 : decode cX12_street 163 = .ok (.iload 5, 2) := by decide +kernel
theorem dX12_street_165 : decode cX12_street 165 = .ok (.bipush 7, 2) := by decide +kernel
theorem dX12_street_167 : decode cX12_street 167 = .ok (.iadd, 1) := by decide +kernel
theorem dX12_street_168 : decode cX12_street 168 = .ok (.iload_n 1, 1) := by decide +kernel
theorem dX12_street_169 : decode cX12_street 169 = .ok (.iastore, 1) := by decide +kernel
theorem dX12_street_170 : decode cX12_street 170 = .ok (.aload_n 0, 1) := by decide +kernel
theorem dX12_street_171 : decode cX12_street 171 = .ok (.getfield 7, 3) := by decide +kernel
theorem dX12_street_174 : decode cX12_street 174 = .ok (.iload 5, 2) := by decide +kernel
theorem dX12_street_176 : decode cX12_street 176 = .ok (.bipush 8, 2) := by decide +kernel
theorem dX12_street_178 : decode cX12_street 178 = .ok (.iadd, 1) := by decide +kernel
theorem dX12_street_179 : decode cX12_street 179 = .ok (.iload_n 2, 1) := by decide +kernel
theorem dX12_street_180 : decode cX12_street 180 = .ok (.iastore, 1) := by decide +kernel
theorem dX12_street_181 : decode cX12_street 181 = .ok (.aload_n 0, 1) := by decide +kernel
theorem dX12_street_182 : decode cX12_street 182 = .ok (.getfield 7, 3) := by decide +kernel
theorem dX12_street_185 : decode cX12_street 185 = .ok (.iconst 1, 1) := by decide +kernel
theorem dX12_street_186 : decode cX12_street 186 = .ok (.dup2, 1) := by decide +kernel
theorem dX12_street_187 : decode cX12_street 187 = .ok (.iaload, 1) := by decide +kernel
theorem dX12_street_188 : decode cX12_street 188 = .ok (.iconst 1, 1) := by decide +kernel
theorem dX12_street_189 : decode cX12_street 189 = .ok (.iadd, 1) := by decide +kernel
theorem dX12_street_190 : decode cX12_street 190 = .ok (.iastore, 1) := by decide +kernel
theorem dX12_street_191 : decode cX12_street 191 = .ok (.aload_n 0, 1) := by decide +kernel
theorem dX12_street_192 : decode cX12_street 192 = .ok (.aload_n 0, 1) := by decide +kernel
theorem dX12_street_193 : decode cX12_street 193 = .ok (.getfield 7, 3) := by decide +kernel
theorem dX12_street_196 : decode cX12_street 196 = .ok (.iconst 1, 1) := by decide +kernel
theorem dX12_street_197 : decode cX12_street 197 = .ok (.iaload, 1) := by decide +kernel
theorem dX12_street_198 : decode cX12_street 198 = .ok (.iconst 1, 1) := by decide +kernel
theorem dX12_street_199 : decode cX12_street 199 = .ok (.isub, 1) := by decide +kernel
theorem dX12_street_200 : decode cX12_street 200 = .ok (.invokevirtual 102, 3) := by decide +kernel
theorem dX12_street_203 : decode cX12_street 203 = .ok (.ireturn, 1) := by decide +kernel
theorem dX12_takes_0 : decode cX12_takes 0 = .ok (.aload_n 0, 1) := by decide +kernel
theorem dX12_takes_1 : decode cX12_takes 1 = .ok (.iload_n 1, 1) := by decide +kernel
theorem dX12_takes_2 : decode cX12_takes 2 = .ok (.invokevirtual 206, 3) := by decide +kernel
theorem dX12_takes_5 : decode cX12_takes 5 = .ok (.iconst 4, 1) := by decide +kernel
theorem dX12_takes_6 : decode cX12_takes 6 = .ok (.if_icmp .eq 14, 3) := by decide +kernel
theorem dX12_takes_9 : decode cX12_takes 9 = .ok (.aload_n 0, 1) := by decide +kernel
theorem dX12_takes_10 : decode cX12_takes 10 = .ok (.aload_n 0, 1) := by decide +kernel
theorem dX12_takes_11 : decode cX12_takes 11 = .ok (.iload_n 1, 1) := by decide +kernel
theorem dX12_takes_12 : decode cX12_takes 12 = .ok (.invokevirtual 206, 3) := by decide +kernel
theorem dX12_takes_15 : decode cX12_takes 15 = .ok (.iload_n 2, 1) := by decide +kernel
theorem dX12_takes_16 : decode cX12_takes 16 = .ok (.invokevirtual 224, 3) := by decide +kernel
theorem dX12_takes_19 : decode cX12_takes 19 = .ok (.ireturn, 1) := by decide +kernel
theorem dX12_takes_20 : decode cX12_takes 20 = .ok (.aload_n 0, 1) := by decide +kernel
theorem dX12_takes_21 : decode cX12_takes 21 = .ok (.dup, 1) := by decide +kernel
theorem dX12_takes_22 : decode cX12_takes 22 = .ok (.getfield 221, 3) := by decide +kernel
theorem dX12_takes_25 : decode cX12_takes 25 = .ok (.iconst 5, 1) := by decide +kernel
theorem dX12_takes_26 : decode cX12_takes 26 = .ok (.iadd, 1) := by decide +kernel
theorem dX12_takes_27 : decode cX12_takes 27 = .ok (.putfield 221, 3) := by decide +kernel
theorem dX12_takes_30 : decode cX12_takes 30 = .ok (.aload_n 0, 1) := by decide +kernel
theorem dX12_takes_31 : decode cX12_takes 31 = .ok (.aload_n 0, 1) := by decide +kernel
theorem dX12_takes_32 : decode cX12_takes 32 = .ok (.iload_n 1, 1) := by decide +kernel
theorem dX12_takes_33 : decode cX12_takes 33 = .ok (.invokevirtual 209, 3) := by decide +kernel
theorem dX12_takes_36 : decode cX12_takes 36 = .ok (.iload_n 2, 1) := by decide +kernel
theorem dX12_takes_37 : decode cX12_takes 37 = .ok (.invokevirtual 224, 3) := by decide +kernel
theorem dX12_takes_40 : decode cX12_takes 40 = .ok (.istore_n 3, 1) := by decide +kernel
theorem dX12_takes_41 : decode cX12_takes 41 = .ok (.aload_n 0, 1) := by decide +kernel
theorem dX12_takes_42 : decode cX12_takes 42 = .ok (.aload_n 0, 1) := by decide +kernel
theorem dX12_takes_43 : decode cX12_takes 43 = .ok (.iload_n 1, 1) := by decide +kernel
theorem dX12_takes_44 : decode cX12_takes 44 = .ok (.invokevirtual 215, 3) := by decide +kernel
theorem dX12_takes_47 : decode cX12_takes 47 = .ok (.iload_n 2, 1) := by decide +kernel
theorem dX12_takes_48 : decode cX12_takes 48 = .ok (.invokevirtual 224, 3) := by decide +kernel
theorem dX12_takes_51 : decode cX12_takes 51 = .ok (.istore 4, 2) := by decide +kernel
theorem dX12_takes_53 : decode cX12_takes 53 = .ok (.iload_n 3, 1) := by decide +kernel
theorem dX12_takes_54 : decode cX12_takes 54 = .ok (.iload 4, 2) := by decide +kernel
theorem dX12_takes_56 : decode cX12_takes 56 = .ok (.if_icmp .le 7, 3) := by decide +kernel
theorem dX12_takes_59 : decode cX12_takes 59 = .ok (.iload_n 3, 1) := by decide +kernel
theorem dX12_takes_60 : decode cX12_takes 60 = .ok (.goto 5, 3) := by decide +kernel
theorem dX12_takes_63 : decode cX12_takes 63 = .ok (.iload 4, 2) := by decide +kernel
theorem dX12_takes_65 : decode cX12_takes 65 = .ok (.ireturn, 1) := by decide +kernel
theorem dX12_takesOf_0 : decode cX12_takesOf 0 = .ok (.iload_n 1, 1) := by decide +kernel
theorem dX12_takesOf_1 : decode cX12_takesOf 1 = .ok (.invokestatic 212, 3) := by decide +kernel
theorem dX12_takesOf_4 : decode cX12_takesOf 4 = .ok (.istore_n 3, 1) := by decide +kernel
theorem dX12_takesOf_5 : decode cX12_takesOf 5 = .ok (.iload_n 2, 1) := by decide +kernel
theorem dX12_takesOf_6 : decode cX12_takesOf 6 = .ok (.iload_n 3, 1) := by decide +kernel
theorem dX12_takesOf_7 : decode cX12_takesOf 7 = .ok (.iadd, 1) := by decide +kernel
theorem dX12_takesOf_8 : decode cX12_takesOf 8 = .ok (.iconst 1, 1) := by decide +kernel
theorem dX12_takesOf_9 : decode cX12_takesOf 9 = .ok (.isub, 1) := by decide +kernel
theorem dX12_takesOf_10 : decode cX12_takesOf 10 = .ok (.iload_n 3, 1) := by decide +kernel
theorem dX12_takesOf_11 : decode cX12_takesOf 11 = .ok (.idiv, 1) := by decide +kernel
theorem dX12_takesOf_12 : decode cX12_takesOf 12 = .ok (.istore 4, 2) := by decide +kernel
theorem dX12_takesOf_14 : decode cX12_takesOf 14 = .ok (.aload_n 0, 1) := by decide +kernel
theorem dX12_takesOf_15 : decode cX12_takesOf 15 = .ok (.dup, 1) := by decide +kernel
theorem dX12_takesOf_16 : decode cX12_takesOf 16 = .ok (.getfield 221, 3) := by decide +kernel
theorem dX12_takesOf_19 : decode cX12_takesOf 19 = .ok (.iload_n 1, 1) := by decide +kernel
theorem dX12_takesOf_20 : decode cX12_takesOf 20 = .ok (.iconst 3, 1) := by decide +kernel
theorem dX12_takesOf_21 : decode cX12_takesOf 21 = .ok (.if_icmp .ne 8, 3) := by decide +kernel
theorem dX12_takesOf_24 : decode cX12_takesOf 24 = .ok (.bipush 11, 2) := by decide +kernel
theorem dX12_takesOf_26 : decode cX12_takesOf 26 = .ok (.goto 14, 3) := by decide +kernel
theorem dX12_takesOf_29 : decode cX12_takesOf 29 = .ok (.iload_n 1, 1) := by decide +kernel
theorem dX12_takesOf_30 : decode cX12_takesOf 30 = .ok (.iconst 2, 1) := by decide +kernel
theorem dX12_takesOf_31 : decode cX12_takesOf 31 = .ok (.if_icmp .ne 8, 3) := by decide +kernel
theorem dX12_takesOf_34 : decode cX12_takesOf 34 = .ok (.bipush 21, 2) := by decide +kernel
theorem dX12_takesOf_36 : decode cX12_takesOf 36 = .ok (.goto 4, 3) := by decide +kernel
theorem dX12_takesOf_39 : decode cX12_takesOf 39 = .ok (.iconst 1, 1) := by decide +kernel
theorem dX12_takesOf_40 : decode cX12_takesOf 40 = .ok (.iadd, 1) := by decide +kernel
theorem dX12_takesOf_41 : decode cX12_takesOf 41 = .ok (.putfield 221, 3) := by decide +kernel
theorem dX12_takesOf_44 : decode cX12_takesOf 44 = .ok (.iload_n 1, 1) := by decide +kernel
theorem dX12_takesOf_45 : decode cX12_takesOf 45 = .ok (.iconst 3, 1) := by decide +kernel
theorem dX12_takesOf_46 : decode cX12_takesOf 46 = .ok (.if_icmp .ne 10, 3) := by decide +kernel
theorem dX12_takesOf_49 : decode cX12_takesOf 49 = .ok (.iload 4, 2) := by decide +kernel
theorem dX12_takesOf_51 : decode cX12_takesOf 51 = .ok (.iconst 1, 1) := by decide +kernel
theorem dX12_takesOf_52 : decode cX12_takesOf 52 = .ok (.iadd, 1) := by decide +kernel
theorem dX12_takesOf_53 : decode cX12_takesOf 53 = .ok (.goto 17, 3) := by decide +kernel
theorem dX12_takesOf_56 : decode cX12_takesOf 56 = .ok (.iload_n 1, 1) := by decide +kernel
theorem dX12_takesOf_57 : decode cX12_takesOf 57 = .ok (.iconst 2, 1) := by decide +kernel
theorem dX12_takesOf_58 : decode cX12_takesOf 58 = .ok (.if_icmp .ne 10, 3) := by decide +kernel
theorem dX12_takesOf_61 : decode cX12_takesOf 61 = .ok (.iload 4, 2) := by decide +kernel
theorem dX12_takesOf_63 : decode cX12_takesOf 63 = .ok (.iconst 2, 1) := by decide +kernel
theorem dX12_takesOf_64 : decode cX12_takesOf 64 = .ok (.iadd, 1) := by decide +kernel
theorem dX12_takesOf_65 : decode cX12_takesOf 65 = .ok (.goto 5, 3) := by decide +kernel
theorem dX12_takesOf_68 : decode cX12_takesOf 68 = .ok (.iload 4, 2) := by decide +kernel
theorem dX12_takesOf_70 : decode cX12_takesOf 70 = .ok (.ireturn, 1) := by decide +kernel
theorem dX12_tells_0 : decode cX12_tells 0 = .ok (.aload_n 0, 1) := by decide +kernel
theorem dX12_tells_1 : decode cX12_tells 1 = .ok (.getfield 7, 3) := by decide +kernel
theorem dX12_tells_4 : decode cX12_tells 4 = .ok (.sipush 5426, 3) := by decide +kernel
theorem dX12_tells_7 : decode cX12_tells 7 = .ok (.sipush 200, 3) := by decide +kernel
theorem dX12_tells_10 : decode cX12_tells 10 = .ok (.iload_n 1, 1) := by decide +kernel
theorem dX12_tells_11 : decode cX12_tells 11 = .ok (.imul, 1) := by decide +kernel
theorem dX12_tells_12 : decode cX12_tells 12 = .ok (.iadd, 1) := by decide +kernel
theorem dX12_tells_13 : decode cX12_tells 13 = .ok (.iload_n 2, 1) := by decide +kernel
theorem dX12_tells_14 : decode cX12_tells 14 = .ok (.iadd, 1) := by decide +kernel
theorem dX12_tells_15 : decode cX12_tells 15 = .ok (.iaload, 1) := by decide +kernel
theorem dX12_tells_16 : decode cX12_tells 16 = .ok (.ifCond .eq 7, 3) := by decide +kernel
theorem dX12_tells_19 : decode cX12_tells 19 = .ok (.iconst (-1), 1) := by decide +kernel
theorem dX12_tells_20 : decode cX12_tells 20 = .ok (.goto 16, 3) := by decide +kernel
theorem dX12_tells_23 : decode cX12_tells 23 = .ok (.aload_n 0, 1) := by decide +kernel
theorem dX12_tells_24 : decode cX12_tells 24 = .ok (.aload_n 0, 1) := by decide +kernel
theorem dX12_tells_25 : decode cX12_tells 25 = .ok (.iload_n 1, 1) := by decide +kernel
theorem dX12_tells_26 : decode cX12_tells 26 = .ok (.iload_n 2, 1) := by decide +kernel
theorem dX12_tells_27 : decode cX12_tells 27 = .ok (.invokevirtual 159, 3) := by decide +kernel
theorem dX12_tells_30 : decode cX12_tells 30 = .ok (.ldc 154, 2) := by decide +kernel
theorem dX12_tells_32 : decode cX12_tells 32 = .ok (.fmul, 1) := by decide +kernel
theorem dX12_tells_33 : decode cX12_tells 33 = .ok (.invokevirtual 163, 3) := by decide +kernel
theorem dX12_tells_36 : decode cX12_tells 36 = .ok (.ireturn, 1) := by decide +kernel
theorem dX12_text_0 : decode cX12_text 0 = .ok (.aload_n 0, 1) := by decide +kernel
theorem dX12_text_1 : decode cX12_text 1 = .ok (.iconst 0, 1) := by decide +kernel
theorem dX12_text_2 : decode cX12_text 2 = .ok (.putfield 350, 3) := by decide +kernel
theorem dX12_text_5 : decode cX12_text 5 = .ok (.iconst 1, 1) := by decide +kernel
theorem dX12_text_6 : decode cX12_text 6 = .ok (.istore_n 1, 1) := by decide +kernel
theorem dX12_text_7 : decode cX12_text 7 = .ok (.iconst 0, 1) := by decide +kernel
theorem dX12_text_8 : decode cX12_text 8 = .ok (.istore_n 2, 1) := by decide +kernel
theorem dX12_text_9 : decode cX12_text 9 = .ok (.iload_n 2, 1) := by decide +kernel
theorem dX12_text_10 : decode cX12_text 10 = .ok (.aload_n 0, 1) := by decide +kernel
theorem dX12_text_11 : decode cX12_text 11 = .ok (.getfield 7, 3) := by decide +kernel
theorem dX12_text_14 : decode cX12_text 14 = .ok (.iconst 4, 1) := by decide +kernel
theorem dX12_text_15 : decode cX12_text 15 = .ok (.iaload, 1) := by decide +kernel
theorem dX12_text_16 : decode cX12_text 16 = .ok (.if_icmp .ge 185, 3) := by decide +kernel
theorem dX12_text_19 : decode cX12_text 19 = .ok (.iload_n 1, 1) := by decide +kernel
theorem dX12_text_20 : decode cX12_text 20 = .ok (.ifCond .eq 181, 3) := by decide +kernel
theorem dX12_text_23 : decode cX12_text 23 = .ok (.aload_n 0, 1) := by decide +kernel
theorem dX12_text_24 : decode cX12_text 24 = .ok (.getfield 7, 3) := by decide +kernel
theorem dX12_text_27 : decode cX12_text 27 = .ok (.sipush 9642, 3) := by decide +kernel
theorem dX12_text_30 : decode cX12_text 30 = .ok (.iconst 3, 1) := by decide +kernel
theorem dX12_text_31 : decode cX12_text 31 = .ok (.iload_n 2, 1) := by decide +kernel
theorem dX12_text_32 : decode cX12_text 32 = .ok (.imul, 1) := by decide +kernel
theorem dX12_text_33 : decode cX12_text 33 = .ok (.iadd, 1) := by decide +kernel
theorem dX12_text_34 : decode cX12_text 34 = .ok (.iaload, 1) := by decide +kernel
theorem dX12_text_35 : decode cX12_text 35 = .ok (.istore_n 3, 1) := by decide +kernel
theorem dX12_text_36 : decode cX12_text 36 = .ok (.aload_n 0, 1) := by decide +kernel
theorem dX12_text_37 : decode cX12_text 37 = .ok (.iload_n 2, 1) := by decide +kernel
theorem dX12_text_38 : decode cX12_text 38 = .ok (.invokevirtual 353, 3) := by decide +kernel
theorem dX12_text_41 : decode cX12_text 41 = .ok (.istore 4, 2) := by decide +kernel
theorem dX12_text_43 : decode cX12_text 43 = .ok (.iload_n 3, 1) := by decide +kernel
theorem dX12_text_44 : decode cX12_text 44 = .ok (.bipush 99, 2) := by decide +kernel
theorem dX12_text_46 : decode cX12_text 46 = .ok (.if_icmp .le 7, 3) := by decide +kernel
theorem dX12_text_49 : decode cX12_text 49 = .ok (.iconst 3, 1) := by decide +kernel
theorem dX12_text_50 : decode cX12_text 50 = .ok (.goto 14, 3) := by decide +kernel
theorem dX12_text_53 : decode cX12_text 53 = .ok (.iload_n 3, 1) := by decide +kernel
theorem dX12_text_54 : decode cX12_text 54 = .ok (.bipush 9, 2) := by decide +kernel
theorem dX12_text_56 : decode cX12_text 56 = .ok (.if_icmp .le 7, 3) := by decide +kernel
theorem dX12_text_59 : decode cX12_text 59 = .ok (.iconst 2, 1) := by decide +kernel
theorem dX12_text_60 : decode cX12_text 60 = .ok (.goto 4, 3) := by decide +kernel
theorem dX12_text_63 : decode cX12_text 63 = .ok (.iconst 1, 1) := by decide +kernel
theorem dX12_text_64 : decode cX12_text 64 = .ok (.istore 5, 2) := by decide +kernel
theorem dX12_text_66 : decode cX12_text 66 = .ok (.aload_n 0, 1) := by decide +kernel
theorem dX12_text_67 : decode cX12_text 67 = .ok (.getfield 350, 3) := by decide +kernel
theorem dX12_text_70 : decode cX12_text 70 = .ok (.iconst 1, 1) := by decide +kernel
theorem dX12_text_71 : decode cX12_text 71 = .ok (.iadd, 1) := by decide +kernel
theorem dX12_text_72 : decode cX12_text 72 = .ok (.iload 5, 2) := by decide +kernel
theorem dX12_text_74 : decode cX12_text 74 = .ok (.iadd, 1) := by decide +kernel
theorem dX12_text_75 : decode cX12_text 75 = .ok (.iload 4, 2) := by decide +kernel
theorem dX12_text_77 : decode cX12_text 77 = .ok (.iconst (-1), 1) := by decide +kernel
theorem dX12_text_78 : decode cX12_text 78 = .ok (.if_icmp .eq 7, 3) := by decide +kernel
theorem dX12_text_81 : decode cX12_text 81 = .ok (.iconst 1, 1) := by decide +kernel
theorem dX12_text_82 : decode cX12_text 82 = .ok (.goto 4, 3) := by decide +kernel
theorem dX12_text_85 : decode cX12_text 85 = .ok (.iconst 0, 1) := by decide +kernel
theorem dX12_text_86 : decode cX12_text 86 = .ok (.iadd, 1) := by decide +kernel
theorem dX12_text_87 : decode cX12_text 87 = .ok (.sipush 8000, 3) := by decide +kernel
theorem dX12_text_90 : decode cX12_text 90 = .ok (.if_icmp .gt 7, 3) := by decide +kernel
theorem dX12_text_93 : decode cX12_text 93 = .ok (.iconst 1, 1) := by decide +kernel
theorem dX12_text_94 : decode cX12_text 94 = .ok (.goto 4, 3) := by decide +kernel
theorem dX12_text_97 : decode cX12_text 97 = .ok (.iconst 0, 1) := by decide +kernel
theorem dX12_text_98 : decode cX12_text 98 = .ok (.istore_n 1, 1) := by decide +kernel
theorem dX12_text_99 : decode cX12_text 99 = .ok (.iload_n 1, 1) := by decide +kernel
theorem dX12_text_100 : decode cX12_text 100 = .ok (.ifCond .eq 95, 3) := by decide +kernel
theorem dX12_text_103 : decode cX12_text 103 = .ok (.aload_n 0, 1) := by decide +kernel
theorem dX12_text_104 : decode cX12_text 104 = .ok (.aload_n 0, 1) := by decide +kernel
theorem dX12_text_105 : decode cX12_text 105 = .ok (.getfield 7, 3) := by decide +kernel
theorem dX12_text_108 : decode cX12_text 108 = .ok (.sipush 9642, 3) := by decide +kernel
theorem dX12_text_111 : decode cX12_text 111 = .ok (.iconst 3, 1) := by decide +kernel
theorem dX12_text_112 : decode cX12_text 112 = .ok (.iload_n 2, 1) := by decide +kernel
theorem dX12_text_113 : decode cX12_text 113 = .ok (.imul, 1) := by decide +kernel
theorem dX12_text_114 : decode cX12_text 114 = .ok (.iadd, 1) := by decide +kernel
theorem dX12_text_115 : decode cX12_text 115 = .ok (.iconst 2, 1) := by decide +kernel
theorem dX12_text_116 : decode cX12_text 116 = .ok (.iadd, 1) := by decide +kernel
theorem dX12_text_117 : decode cX12_text 117 = .ok (.iaload, 1) := by decide +kernel
theorem dX12_text_118 : decode cX12_text 118 = .ok (.iconst 1, 1) := by decide +kernel
theorem dX12_text_119 : decode cX12_text 119 = .ok (.if_icmp .ne 8, 3) := by decide +kernel
theorem dX12_text_122 : decode cX12_text 122 = .ok (.bipush 43, 2) := by decide +kernel
theorem dX12_text_124 : decode cX12_text 124 = .ok (.goto 5, 3) := by decide +kernel
theorem dX12_text_127 : decode cX12_text 127 = .ok (.bipush 45, 2) := by decide +kernel
theorem dX12_text_129 : decode cX12_text 129 = .ok (.invokevirtual 356, 3) := by decide +kernel
theorem dX12_text_132 : decode cX12_text 132 = .ok (.iload 5, 2) := by decide +kernel
theorem dX12_text_134 : decode cX12_text 134 = .ok (.iconst 2, 1) := by decide +kernel
theorem dX12_text_135 : decode cX12_text 135 = .ok (.if_icmp .le 14, 3) := by decide +kernel
theorem dX12_text_138 : decode cX12_text 138 = .ok (.aload_n 0, 1) := by decide +kernel
theorem dX12_text_139 : decode cX12_text 139 = .ok (.bipush 48, 2) := by decide +kernel
theorem dX12_text_141 : decode cX12_text 141 = .ok (.iload_n 3, 1) := by decide +kernel
theorem dX12_text_142 : decode cX12_text 142 = .ok (.bipush 100, 2) := by decide +kernel
theorem dX12_text_144 : decode cX12_text 144 = .ok (.idiv, 1) := by decide +kernel
theorem dX12_text_145 : decode cX12_text 145 = .ok (.iadd, 1) := by decide +kernel
theorem dX12_text_146 : decode cX12_text 146 = .ok (.invokevirtual 356, 3) := by decide +kernel
theorem dX12_text_149 : decode cX12_text 149 = .ok (.iload 5, 2) := by decide +kernel
theorem dX12_text_151 : decode cX12_text 151 = .ok (.iconst 1, 1) := by decide +kernel
theorem dX12_text_152 : decode cX12_text 152 = .ok (.if_icmp .le 17, 3) := by decide +kernel
theorem dX12_text_155 : decode cX12_text 155 = .ok (.aload_n 0, 1) := by decide +kernel
theorem dX12_text_156 : decode cX12_text 156 = .ok (.bipush 48, 2) := by decide +kernel
theorem dX12_text_158 : decode cX12_text 158 = .ok (.iload_n 3, 1) := by decide +kernel
theorem dX12_text_159 : decode cX12_text 159 = .ok (.bipush 10, 2) := by decide +kernel
theorem dX12_text_161 : decode cX12_text 161 = .ok (.idiv, 1) := by decide +kernel
theorem dX12_text_162 : decode cX12_text 162 = .ok (.bipush 10, 2) := by decide +kernel
theorem dX12_text_164 : decode cX12_text 164 = .ok (.irem, 1) := by decide +kernel
theorem dX12_text_165 : decode cX12_text 165 = .ok (.iadd, 1) := by decide +kernel
theorem dX12_text_166 : decode cX12_text 166 = .ok (.invokevirtual 356, 3) := by decide +kernel
theorem dX12_text_169 : decode cX12_text 169 = .ok (.aload_n 0, 1) := by decide +kernel
theorem dX12_text_170 : decode cX12_text 170 = .ok (.bipush 48, 2) := by decide +kernel
theorem dX12_text_172 : decode cX12_text 172 = .ok (.iload_n 3, 1) := by decide +kernel
theorem dX12_text_173 : decode cX12_text 173 = .ok (.bipush 10, 2) := by decide +kernel
theorem dX12_text_175 : decode cX12_text 175 = .ok (.irem, 1) := by decide +kernel
theorem dX12_text_176 : decode cX12_text 176 = .ok (.iadd, 1) := by decide +kernel
theorem dX12_text_177 : decode cX12_text 177 = .ok (.invokevirtual 356, 3) := by decide +kernel
theorem dX12_text_180 : decode cX12_text 180 = .ok (.iload 4, 2) := by decide +kernel
theorem dX12_text_182 : decode cX12_text 182 = .ok (.iconst (-1), 1) := by decide +kernel
theorem dX12_text_183 : decode cX12_text 183 = .ok (.if_icmp .eq 12, 3) := by decide +kernel
theorem dX12_text_186 : decode cX12_text 186 = .ok (.aload_n 0, 1) := by decide +kernel
theorem dX12_text_187 : decode cX12_text 187 = .ok (.bipush 65, 2) := by decide +kernel
theorem dX12_text_189 : decode cX12_text 189 = .ok (.iload 4, 2) := by decide +kernel
theorem dX12_text_191 : decode cX12_text 191 = .ok (.iadd, 1) := by decide +kernel
theorem dX12_text_192 : decode cX12_text 192 = .ok (.invokevirtual 356, 3) := by decide +kernel
theorem dX12_text_195 : decode cX12_text 195 = .ok (.iinc 2 1, 3) := by decide +kernel
theorem dX12_text_198 : decode cX12_text 198 = .ok (.goto (-189), 3) := by decide +kernel
theorem dX12_text_201 : decode cX12_text 201 = .ok (.aload_n 0, 1) := by decide +kernel
theorem dX12_text_202 : decode cX12_text 202 = .ok (.aload_n 0, 1) := by decide +kernel
theorem dX12_text_203 : decode cX12_text 203 = .ok (.getfield 350, 3) := by decide +kernel
theorem dX12_text_206 : decode cX12_text 206 = .ok (.invokevirtual 102, 3) := by decide +kernel
theorem dX12_text_209 : decode cX12_text 209 = .ok (.ireturn, 1) := by decide +kernel
theorem dX12_thins_0 : decode cX12_thins 0 = .ok (.aload_n 0, 1) := by decide +kernel
theorem dX12_thins_1 : decode cX12_thins 1 = .ok (.getfield 7, 3) := by decide +kernel
theorem dX12_thins_4 : decode cX12_thins 4 = .ok (.aload_n 0, 1) := by decide +kernel
theorem dX12_thins_5 : decode cX12_thins 5 = .ok (.iload_n 1, 1) := by decide +kernel
theorem dX12_thins_6 : decode cX12_thins 6 = .ok (.invokevirtual 109, 3) := by decide +kernel
theorem dX12_thins_9 : decode cX12_thins 9 = .ok (.iconst 0, 1) := by decide +kernel
theorem dX12_thins_10 : decode cX12_thins 10 = .ok (.iadd, 1) := by decide +kernel
theorem dX12_thins_11 : decode cX12_thins 11 = .ok (.iaload, 1) := by decide +kernel
theorem dX12_thins_12 : decode cX12_thins 12 = .ok (.iload_n 2, 1) := by decide +kernel
theorem dX12_thins_13 : decode cX12_thins 13 = .ok (.isub, 1) := by decide +kernel
theorem dX12_thins_14 : decode cX12_thins 14 = .ok (.istore_n 3, 1) := by decide +kernel
theorem dX12_thins_15 : decode cX12_thins 15 = .ok (.aload_n 0, 1) := by decide +kernel
theorem dX12_thins_16 : decode cX12_thins 16 = .ok (.getfield 7, 3) := by decide +kernel
theorem dX12_thins_19 : decode cX12_thins 19 = .ok (.aload_n 0, 1) := by decide +kernel
theorem dX12_thins_20 : decode cX12_thins 20 = .ok (.iload_n 1, 1) := by decide +kernel
theorem dX12_thins_21 : decode cX12_thins 21 = .ok (.invokevirtual 109, 3) := by decide +kernel
theorem dX12_thins_24 : decode cX12_thins 24 = .ok (.iconst 0, 1) := by decide +kernel
theorem dX12_thins_25 : decode cX12_thins 25 = .ok (.iadd, 1) := by decide +kernel
theorem dX12_thins_26 : decode cX12_thins 26 = .ok (.iload_n 3, 1) := by decide +kernel
theorem dX12_thins_27 : decode cX12_thins 27 = .ok (.ifCond .ge 7, 3) := by decide +kernel
theorem dX12_thins_30 : decode cX12_thins 30 = .ok (.iconst 0, 1) := by decide +kernel
theorem dX12_thins_31 : decode cX12_thins 31 = .ok (.goto 4, 3) := by decide +kernel
theorem dX12_thins_34 : decode cX12_thins 34 = .ok (.iload_n 3, 1) := by decide +kernel
theorem dX12_thins_35 : decode cX12_thins 35 = .ok (.iastore, 1) := by decide +kernel
theorem dX12_thins_36 : decode cX12_thins 36 = .ok (.return_, 1) := by decide +kernel
theorem dX12_to_0 : decode cX12_to 0 = .ok (.aload_n 0, 1) := by decide +kernel
theorem dX12_to_1 : decode cX12_to 1 = .ok (.aload_n 0, 1) := by decide +kernel
theorem dX12_to_2 : decode cX12_to 2 = .ok (.getfield 7, 3) := by decide +kernel
theorem dX12_to_5 : decode cX12_to 5 = .ok (.sipush 9642, 3) := by decide +kernel
theorem dX12_to_8 : decode cX12_to 8 = .ok (.iconst 3, 1) := by decide +kernel
theorem dX12_to_9 : decode cX12_to 9 = .ok (.iload_n 1, 1) := by decide +kernel
theorem dX12_to_10 : decode cX12_to 10 = .ok (.imul, 1) := by decide +kernel
theorem dX12_to_11 : decode cX12_to 11 = .ok (.iadd, 1) := by decide +kernel
theorem dX12_to_12 : decode cX12_to 12 = .ok (.iaload, 1) := by decide +kernel
theorem dX12_to_13 : decode cX12_to 13 = .ok (.invokevirtual 109, 3) := by decide +kernel
theorem dX12_to_16 : decode cX12_to 16 = .ok (.istore_n 2, 1) := by decide +kernel
theorem dX12_to_17 : decode cX12_to 17 = .ok (.aload_n 0, 1) := by decide +kernel
theorem dX12_to_18 : decode cX12_to 18 = .ok (.getfield 7, 3) := by decide +kernel
theorem dX12_to_21 : decode cX12_to 21 = .ok (.sipush 9642, 3) := by decide +kernel
theorem dX12_to_24 : decode cX12_to 24 = .ok (.iconst 3, 1) := by decide +kernel
theorem dX12_to_25 : decode cX12_to 25 = .ok (.iload_n 1, 1) := by decide +kernel
theorem dX12_to_26 : decode cX12_to 26 = .ok (.imul, 1) := by decide +kernel
theorem dX12_to_27 : decode cX12_to 27 = .ok (.iadd, 1) := by decide +kernel
theorem dX12_to_28 : decode cX12_to 28 = .ok (.iconst 1, 1) := by decide +kernel
theorem dX12_to_29 : decode cX12_to 29 = .ok (.iadd, 1) := by decide +kernel
theorem dX12_to_30 : decode cX12_to 30 = .ok (.iaload, 1) := by decide +kernel
theorem dX12_to_31 : decode cX12_to 31 = .ok (.aload_n 0, 1) := by decide +kernel
theorem dX12_to_32 : decode cX12_to 32 = .ok (.getfield 7, 3) := by decide +kernel
theorem dX12_to_35 : decode cX12_to 35 = .ok (.iload_n 2, 1) := by decide +kernel
theorem dX12_to_36 : decode cX12_to 36 = .ok (.bipush 7, 2) := by decide +kernel
theorem dX12_to_38 : decode cX12_to 38 = .ok (.iadd, 1) := by decide +kernel
theorem dX12_to_39 : decode cX12_to 39 = .ok (.iaload, 1) := by decide +kernel
theorem dX12_to_40 : decode cX12_to 40 = .ok (.if_icmp .ne 15, 3) := by decide +kernel
theorem dX12_to_43 : decode cX12_to 43 = .ok (.aload_n 0, 1) := by decide +kernel
theorem dX12_to_44 : decode cX12_to 44 = .ok (.getfield 7, 3) := by decide +kernel
theorem dX12_to_47 : decode cX12_to 47 = .ok (.iload_n 2, 1) := by decide +kernel
theorem dX12_to_48 : decode cX12_to 48 = .ok (.bipush 8, 2) := by decide +kernel
theorem dX12_to_50 : decode cX12_to 50 = .ok (.iadd, 1) := by decide +kernel
theorem dX12_to_51 : decode cX12_to 51 = .ok (.iaload, 1) := by decide +kernel
theorem dX12_to_52 : decode cX12_to 52 = .ok (.goto 12, 3) := by decide +kernel
theorem dX12_to_55 : decode cX12_to 55 = .ok (.aload_n 0, 1) := by decide +kernel
theorem dX12_to_56 : decode cX12_to 56 = .ok (.getfield 7, 3) := by decide +kernel
theorem dX12_to_59 : decode cX12_to 59 = .ok (.iload_n 2, 1) := by decide +kernel
theorem dX12_to_60 : decode cX12_to 60 = .ok (.bipush 7, 2) := by decide +kernel
theorem dX12_to_62 : decode cX12_to 62 = .ok (.iadd, 1) := by decide +kernel
theorem dX12_to_63 : decode cX12_to 63 = .ok (.iaload, 1) := by decide +kernel
theorem dX12_to_64 : decode cX12_to 64 = .ok (.ireturn, 1) := by decide +kernel
theorem dX12_told_0 : decode cX12_told 0 = .ok (.aload_n 0, 1) := by decide +kernel
theorem dX12_told_1 : decode cX12_told 1 = .ok (.iload_n 1, 1) := by decide +kernel
theorem dX12_told_2 : decode cX12_told 2 = .ok (.invokevirtual 112, 3) := by decide +kernel
theorem dX12_told_5 : decode cX12_told 5 = .ok (.ifCond .eq 13, 3) := by decide +kernel
theorem dX12_told_8 : decode cX12_told 8 = .ok (.iload_n 2, 1) := by decide +kernel
theorem dX12_told_9 : decode cX12_told 9 = .ok (.iconst 0, 1) := by decide +kernel
theorem dX12_told_10 : decode cX12_told 10 = .ok (.bipush 8, 2) := by decide +kernel
theorem dX12_told_12 : decode cX12_told 12 = .ok (.invokestatic 88, 3) := by decide +kernel
theorem dX12_told_15 : decode cX12_told 15 = .ok (.ifCond .ne 12, 3) := by decide +kernel
theorem dX12_told_18 : decode cX12_told 18 = .ok (.aload_n 0, 1) := by decide +kernel
theorem dX12_told_19 : decode cX12_told 19 = .ok (.bipush (-2), 2) := by decide +kernel
theorem dX12_told_21 : decode cX12_told 21 = .ok (.invokevirtual 92, 3) := by decide +kernel
theorem dX12_told_24 : decode cX12_told 24 = .ok (.goto 19, 3) := by decide +kernel
theorem dX12_told_27 : decode cX12_told 27 = .ok (.aload_n 0, 1) := by decide +kernel
theorem dX12_told_28 : decode cX12_told 28 = .ok (.aload_n 0, 1) := by decide +kernel
theorem dX12_told_29 : decode cX12_told 29 = .ok (.getfield 7, 3) := by decide +kernel
theorem dX12_told_32 : decode cX12_told 32 = .ok (.aload_n 0, 1) := by decide +kernel
theorem dX12_told_33 : decode cX12_told 33 = .ok (.iload_n 1, 1) := by decide +kernel
theorem dX12_told_34 : decode cX12_told 34 = .ok (.invokevirtual 109, 3) := by decide +kernel
theorem dX12_told_37 : decode cX12_told 37 = .ok (.iload_n 2, 1) := by decide +kernel
theorem dX12_told_38 : decode cX12_told 38 = .ok (.iadd, 1) := by decide +kernel
theorem dX12_told_39 : decode cX12_told 39 = .ok (.iaload, 1) := by decide +kernel
theorem dX12_told_40 : decode cX12_told 40 = .ok (.invokevirtual 102, 3) := by decide +kernel
theorem dX12_told_43 : decode cX12_told 43 = .ok (.ireturn, 1) := by decide +kernel
theorem dX12_trace_0 : decode cX12_trace 0 = .ok (.aload_n 0, 1) := by decide +kernel
theorem dX12_trace_1 : decode cX12_trace 1 = .ok (.getfield 221, 3) := by decide +kernel
theorem dX12_trace_4 : decode cX12_trace 4 = .ok (.ireturn, 1) := by decide +kernel
theorem dX12_turned_0 : decode cX12_turned 0 = .ok (.aload_n 0, 1) := by decide +kernel
theorem dX12_turned_1 : decode cX12_turned 1 = .ok (.iload_n 1, 1) := by decide +kernel
theorem dX12_turned_2 : decode cX12_turned 2 = .ok (.invokevirtual 112, 3) := by decide +kernel
theorem dX12_turned_5 : decode cX12_turned 5 = .ok (.ifCond .ne 10, 3) := by decide +kernel
theorem dX12_turned_8 : decode cX12_turned 8 = .ok (.aload_n 0, 1) := by decide +kernel
theorem dX12_turned_9 : decode cX12_turned 9 = .ok (.bipush (-2), 2) := by decide +kernel
theorem dX12_turned_11 : decode cX12_turned 11 = .ok (.invokevirtual 92, 3) := by decide +kernel
theorem dX12_turned_14 : decode cX12_turned 14 = .ok (.ireturn, 1) := by decide +kernel
theorem dX12_turned_15 : decode cX12_turned 15 = .ok (.aload_n 0, 1) := by decide +kernel
theorem dX12_turned_16 : decode cX12_turned 16 = .ok (.invokevirtual 96, 3) := by decide +kernel
theorem dX12_turned_19 : decode cX12_turned 19 = .ok (.aload_n 0, 1) := by decide +kernel
theorem dX12_turned_20 : decode cX12_turned 20 = .ok (.iconst 0, 1) := by decide +kernel
theorem dX12_turned_21 : decode cX12_turned 21 = .ok (.putfield 99, 3) := by decide +kernel
theorem dX12_turned_24 : decode cX12_turned 24 = .ok (.aload_n 0, 1) := by decide +kernel
theorem dX12_turned_25 : decode cX12_turned 25 = .ok (.getfield 7, 3) := by decide +kernel
theorem dX12_turned_28 : decode cX12_turned 28 = .ok (.aload_n 0, 1) := by decide +kernel
theorem dX12_turned_29 : decode cX12_turned 29 = .ok (.iload_n 1, 1) := by decide +kernel
theorem dX12_turned_30 : decode cX12_turned 30 = .ok (.invokevirtual 109, 3) := by decide +kernel
theorem dX12_turned_33 : decode cX12_turned 33 = .ok (.iload_n 2, 1) := by decide +kernel
theorem dX12_turned_34 : decode cX12_turned 34 = .ok (.iadd, 1) := by decide +kernel
theorem dX12_turned_35 : decode cX12_turned 35 = .ok (.iaload, 1) := by decide +kernel
theorem dX12_turned_36 : decode cX12_turned 36 = .ok (.istore 4, 2) := by decide +kernel
theorem dX12_turned_38 : decode cX12_turned 38 = .ok (.aload_n 0, 1) := by decide +kernel
theorem dX12_turned_39 : decode cX12_turned 39 = .ok (.getfield 7, 3) := by decide +kernel
theorem dX12_turned_42 : decode cX12_turned 42 = .ok (.aload_n 0, 1) := by decide +kernel
theorem dX12_turned_43 : decode cX12_turned 43 = .ok (.iload_n 1, 1) := by decide +kernel
theorem dX12_turned_44 : decode cX12_turned 44 = .ok (.invokevirtual 109, 3) := by decide +kernel
theorem dX12_turned_47 : decode cX12_turned 47 = .ok (.iload_n 2, 1) := by decide +kernel
theorem dX12_turned_48 : decode cX12_turned 48 = .ok (.iadd, 1) := by decide +kernel
theorem dX12_turned_49 : decode cX12_turned 49 = .ok (.iload_n 3, 1) := by decide +kernel
theorem dX12_turned_50 : decode cX12_turned 50 = .ok (.ifCond .eq 7, 3) := by decide +kernel
theorem dX12_turned_53 : decode cX12_turned 53 = .ok (.iconst 1, 1) := by decide +kernel
theorem dX12_turned_54 : decode cX12_turned 54 = .ok (.goto 4, 3) := by decide +kernel
theorem dX12_turned_57 : decode cX12_turned 57 = .ok (.iconst 0, 1) := by decide +kernel
theorem dX12_turned_58 : decode cX12_turned 58 = .ok (.iastore, 1) := by decide +kernel
theorem dX12_turned_59 : decode cX12_turned 59 = .ok (.aload_n 0, 1) := by decide +kernel
theorem dX12_turned_60 : decode cX12_turned 60 = .ok (.iload 4, 2) := by decide +kernel
theorem dX12_turned_62 : decode cX12_turned 62 = .ok (.invokevirtual 102, 3) := by decide +kernel
theorem dX12_turned_65 : decode cX12_turned 65 = .ok (.ireturn, 1) := by decide +kernel
theorem dX12_undo_0 : decode cX12_undo 0 = .ok (.aload_n 0, 1) := by decide +kernel
theorem dX12_undo_1 : decode cX12_undo 1 = .ok (.getfield 84, 3) := by decide +kernel
theorem dX12_undo_4 : decode cX12_undo 4 = .ok (.ifCond .ne 9, 3) := by decide +kernel
theorem dX12_undo_7 : decode cX12_undo 7 = .ok (.aload_n 0, 1) := by decide +kernel
theorem dX12_undo_8 : decode cX12_undo 8 = .ok (.iconst 0, 1) := by decide +kernel
theorem dX12_undo_9 : decode cX12_undo 9 = .ok (.invokevirtual 102, 3) := by decide +kernel
theorem dX12_undo_12 : decode cX12_undo 12 = .ok (.ireturn, 1) := by decide +kernel
theorem dX12_undo_13 : decode cX12_undo 13 = .ok (.iconst 0, 1) := by decide +kernel
theorem dX12_undo_14 : decode cX12_undo 14 = .ok (.istore_n 1, 1) := by decide +kernel
theorem dX12_undo_15 : decode cX12_undo 15 = .ok (.iload_n 1, 1) := by decide +kernel
theorem dX12_undo_16 : decode cX12_undo 16 = .ok (.sipush 15642, 3) := by decide +kernel
theorem dX12_undo_19 : decode cX12_undo 19 = .ok (.if_icmp .ge 21, 3) := by decide +kernel
theorem dX12_undo_22 : decode cX12_undo 22 = .ok (.aload_n 0, 1) := by decide +kernel
theorem dX12_undo_23 : decode cX12_undo 23 = .ok (.getfield 7, 3) := by decide +kernel
theorem dX12_undo_26 : decode cX12_undo 26 = .ok (.iload_n 1, 1) := by decide +kernel
theorem dX12_undo_27 : decode cX12_undo 27 = .ok (.aload_n 0, 1) := by decide +kernel
theorem dX12_undo_28 : decode cX12_undo 28 = .ok (.getfield 13, 3) := by decide +kernel
theorem dX12_undo_31 : decode cX12_undo 31 = .ok (.iload_n 1, 1) := by decide +kernel
theorem dX12_undo_32 : decode cX12_undo 32 = .ok (.iaload, 1) := by decide +kernel
theorem dX12_undo_33 : decode cX12_undo 33 = .ok (.iastore, 1) := by decide +kernel
theorem dX12_undo_34 : decode cX12_undo 34 = .ok (.iinc 1 1, 3) := by decide +kernel
theorem dX12_undo_37 : decode cX12_undo 37 = .ok (.goto (-22), 3) := by decide +kernel
theorem dX12_undo_40 : decode cX12_undo 40 = .ok (.aload_n 0, 1) := by decide +kernel
theorem dX12_undo_41 : decode cX12_undo 41 = .ok (.iconst 0, 1) := by decide +kernel
theorem dX12_undo_42 : decode cX12_undo 42 = .ok (.putfield 84, 3) := by decide +kernel
theorem dX12_undo_45 : decode cX12_undo 45 = .ok (.aload_n 0, 1) := by decide +kernel
theorem dX12_undo_46 : decode cX12_undo 46 = .ok (.iconst 0, 1) := by decide +kernel
theorem dX12_undo_47 : decode cX12_undo 47 = .ok (.putfield 99, 3) := by decide +kernel
theorem dX12_undo_50 : decode cX12_undo 50 = .ok (.aload_n 0, 1) := by decide +kernel
theorem dX12_undo_51 : decode cX12_undo 51 = .ok (.iconst 1, 1) := by decide +kernel
theorem dX12_undo_52 : decode cX12_undo 52 = .ok (.invokevirtual 102, 3) := by decide +kernel
theorem dX12_undo_55 : decode cX12_undo 55 = .ok (.ireturn, 1) := by decide +kernel
theorem dX12_unfit_0 : decode cX12_unfit 0 = .ok (.aload_n 0, 1) := by decide +kernel
theorem dX12_unfit_1 : decode cX12_unfit 1 = .ok (.getfield 7, 3) := by decide +kernel
theorem dX12_unfit_4 : decode cX12_unfit 4 = .ok (.aload_n 0, 1) := by decide +kernel
theorem dX12_unfit_5 : decode cX12_unfit 5 = .ok (.iload_n 1, 1) := by decide +kernel
theorem dX12_unfit_6 : decode cX12_unfit 6 = .ok (.invokevirtual 188, 3) := by decide +kernel
theorem dX12_unfit_9 : decode cX12_unfit 9 = .ok (.iconst 2, 1) := by decide +kernel
theorem dX12_unfit_10 : decode cX12_unfit 10 = .ok (.iadd, 1) := by decide +kernel
theorem dX12_unfit_11 : decode cX12_unfit 11 = .ok (.iaload, 1) := by decide +kernel
theorem dX12_unfit_12 : decode cX12_unfit 12 = .ok (.iconst 1, 1) := by decide +kernel
theorem dX12_unfit_13 : decode cX12_unfit 13 = .ok (.if_icmp .ne 8, 3) := by decide +kernel
theorem dX12_unfit_16 : decode cX12_unfit 16 = .ok (.bipush (-4), 2) := by decide +kernel
theorem dX12_unfit_18 : decode cX12_unfit 18 = .ok (.goto 25, 3) := by decide +kernel
theorem dX12_unfit_21 : decode cX12_unfit 21 = .ok (.aload_n 0, 1) := by decide +kernel
theorem dX12_unfit_22 : decode cX12_unfit 22 = .ok (.getfield 7, 3) := by decide +kernel
theorem dX12_unfit_25 : decode cX12_unfit 25 = .ok (.aload_n 0, 1) := by decide +kernel
theorem dX12_unfit_26 : decode cX12_unfit 26 = .ok (.iload_n 1, 1) := by decide +kernel
theorem dX12_unfit_27 : decode cX12_unfit 27 = .ok (.invokevirtual 188, 3) := by decide +kernel
theorem dX12_unfit_30 : decode cX12_unfit 30 = .ok (.iconst 0, 1) := by decide +kernel
theorem dX12_unfit_31 : decode cX12_unfit 31 = .ok (.iadd, 1) := by decide +kernel
theorem dX12_unfit_32 : decode cX12_unfit 32 = .ok (.iaload, 1) := by decide +kernel
theorem dX12_unfit_33 : decode cX12_unfit 33 = .ok (.iconst 4, 1) := by decide +kernel
theorem dX12_unfit_34 : decode cX12_unfit 34 = .ok (.if_icmp .ne 8, 3) := by decide +kernel
theorem dX12_unfit_37 : decode cX12_unfit 37 = .ok (.bipush (-6), 2) := by decide +kernel
theorem dX12_unfit_39 : decode cX12_unfit 39 = .ok (.goto 4, 3) := by decide +kernel
theorem dX12_unfit_42 : decode cX12_unfit 42 = .ok (.iconst 0, 1) := by decide +kernel
theorem dX12_unfit_43 : decode cX12_unfit 43 = .ok (.ireturn, 1) := by decide +kernel
theorem dX12_way_0 : decode cX12_way 0 = .ok (.aload_n 0, 1) := by decide +kernel
theorem dX12_way_1 : decode cX12_way 1 = .ok (.iload_n 1, 1) := by decide +kernel
theorem dX12_way_2 : decode cX12_way 2 = .ok (.invokevirtual 105, 3) := by decide +kernel
theorem dX12_way_5 : decode cX12_way 5 = .ok (.ifCond .eq 11, 3) := by decide +kernel
theorem dX12_way_8 : decode cX12_way 8 = .ok (.aload_n 0, 1) := by decide +kernel
theorem dX12_way_9 : decode cX12_way 9 = .ok (.iload_n 2, 1) := by decide +kernel
theorem dX12_way_10 : decode cX12_way 10 = .ok (.invokevirtual 105, 3) := by decide +kernel
theorem dX12_way_13 : decode cX12_way 13 = .ok (.ifCond .ne 10, 3) := by decide +kernel
theorem dX12_way_16 : decode cX12_way 16 = .ok (.aload_n 0, 1) := by decide +kernel
theorem dX12_way_17 : decode cX12_way 17 = .ok (.bipush (-2), 2) := by decide +kernel
theorem dX12_way_19 : decode cX12_way 19 = .ok (.invokevirtual 92, 3) := by decide +kernel
theorem dX12_way_22 : decode cX12_way 22 = .ok (.ireturn, 1) := by decide +kernel
theorem dX12_way_23 : decode cX12_way 23 = .ok (.aload_n 0, 1) := by decide +kernel
theorem dX12_way_24 : decode cX12_way 24 = .ok (.invokevirtual 134, 3) := by decide +kernel
theorem dX12_way_27 : decode cX12_way 27 = .ok (.aload_n 0, 1) := by decide +kernel
theorem dX12_way_28 : decode cX12_way 28 = .ok (.getfield 23, 3) := by decide +kernel
theorem dX12_way_31 : decode cX12_way 31 = .ok (.bipush 60, 2) := by decide +kernel
theorem dX12_way_33 : decode cX12_way 33 = .ok (.iload_n 1, 1) := by decide +kernel
theorem dX12_way_34 : decode cX12_way 34 = .ok (.imul, 1) := by decide +kernel
theorem dX12_way_35 : decode cX12_way 35 = .ok (.iload_n 2, 1) := by decide +kernel
theorem dX12_way_36 : decode cX12_way 36 = .ok (.iadd, 1) := by decide +kernel
theorem dX12_way_37 : decode cX12_way 37 = .ok (.iaload, 1) := by decide +kernel
theorem dX12_way_38 : decode cX12_way 38 = .ok (.ldc 125, 2) := by decide +kernel
theorem dX12_way_40 : decode cX12_way 40 = .ok (.if_icmp .lt 12, 3) := by decide +kernel
theorem dX12_way_43 : decode cX12_way 43 = .ok (.aload_n 0, 1) := by decide +kernel
theorem dX12_way_44 : decode cX12_way 44 = .ok (.bipush (-8), 2) := by decide +kernel
theorem dX12_way_46 : decode cX12_way 46 = .ok (.invokevirtual 92, 3) := by decide +kernel
theorem dX12_way_49 : decode cX12_way 49 = .ok (.goto 18, 3) := by decide +kernel
theorem dX12_way_52 : decode cX12_way 52 = .ok (.aload_n 0, 1) := by decide +kernel
theorem dX12_way_53 : decode cX12_way 53 = .ok (.aload_n 0, 1) := by decide +kernel
theorem dX12_way_54 : decode cX12_way 54 = .ok (.getfield 23, 3) := by decide +kernel
theorem dX12_way_57 : decode cX12_way 57 = .ok (.bipush 60, 2) := by decide +kernel
theorem dX12_way_59 : decode cX12_way 59 = .ok (.iload_n 1, 1) := by decide +kernel
theorem dX12_way_60 : decode cX12_way 60 = .ok (.imul, 1) := by decide +kernel
theorem dX12_way_61 : decode cX12_way 61 = .ok (.iload_n 2, 1) := by decide +kernel
theorem dX12_way_62 : decode cX12_way 62 = .ok (.iadd, 1) := by decide +kernel
theorem dX12_way_63 : decode cX12_way 63 = .ok (.iaload, 1) := by decide +kernel
theorem dX12_way_64 : decode cX12_way 64 = .ok (.invokevirtual 102, 3) := by decide +kernel
theorem dX12_way_67 : decode cX12_way 67 = .ok (.ireturn, 1) := by decide +kernel
theorem dX12_wayAt_0 : decode cX12_wayAt 0 = .ok (.aload_n 0, 1) := by decide +kernel
theorem dX12_wayAt_1 : decode cX12_wayAt 1 = .ok (.iload_n 1, 1) := by decide +kernel
theorem dX12_wayAt_2 : decode cX12_wayAt 2 = .ok (.invokevirtual 105, 3) := by decide +kernel
theorem dX12_wayAt_5 : decode cX12_wayAt 5 = .ok (.ifCond .eq 11, 3) := by decide +kernel
theorem dX12_wayAt_8 : decode cX12_wayAt 8 = .ok (.aload_n 0, 1) := by decide +kernel
theorem dX12_wayAt_9 : decode cX12_wayAt 9 = .ok (.iload_n 2, 1) := by decide +kernel
theorem dX12_wayAt_10 : decode cX12_wayAt 10 = .ok (.invokevirtual 105, 3) := by decide +kernel
theorem dX12_wayAt_13 : decode cX12_wayAt 13 = .ok (.ifCond .ne 10, 3) := by decide +kernel
theorem dX12_wayAt_16 : decode cX12_wayAt 16 = .ok (.aload_n 0, 1) := by decide +kernel
theorem dX12_wayAt_17 : decode cX12_wayAt 17 = .ok (.bipush (-2), 2) := by decide +kernel
theorem dX12_wayAt_19 : decode cX12_wayAt 19 = .ok (.invokevirtual 92, 3) := by decide +kernel
theorem dX12_wayAt_22 : decode cX12_wayAt 22 = .ok (.ireturn, 1) := by decide +kernel
theorem dX12_wayAt_23 : decode cX12_wayAt 23 = .ok (.aload_n 0, 1) := by decide +kernel
theorem dX12_wayAt_24 : decode cX12_wayAt 24 = .ok (.invokevirtual 134, 3) := by decide +kernel
theorem dX12_wayAt_27 : decode cX12_wayAt 27 = .ok (.aload_n 0, 1) := by decide +kernel
theorem dX12_wayAt_28 : decode cX12_wayAt 28 = .ok (.getfield 23, 3) := by decide +kernel
theorem dX12_wayAt_31 : decode cX12_wayAt 31 = .ok (.bipush 60, 2) := by decide +kernel
theorem dX12_wayAt_33 : decode cX12_wayAt 33 = .ok (.iload_n 1, 1) := by decide +kernel
theorem dX12_wayAt_34 : decode cX12_wayAt 34 = .ok (.imul, 1) := by decide +kernel
theorem dX12_wayAt_35 : decode cX12_wayAt 35 = .ok (.iload_n 2, 1) := by decide +kernel
theorem dX12_wayAt_36 : decode cX12_wayAt 36 = .ok (.iadd, 1) := by decide +kernel
theorem dX12_wayAt_37 : decode cX12_wayAt 37 = .ok (.iaload, 1) := by decide +kernel
theorem dX12_wayAt_38 : decode cX12_wayAt 38 = .ok (.ldc 125, 2) := by decide +kernel
theorem dX12_wayAt_40 : decode cX12_wayAt 40 = .ok (.if_icmp .lt 10, 3) := by decide +kernel
theorem dX12_wayAt_43 : decode cX12_wayAt 43 = .ok (.aload_n 0, 1) := by decide +kernel
theorem dX12_wayAt_44 : decode cX12_wayAt 44 = .ok (.bipush (-8), 2) := by decide +kernel
theorem dX12_wayAt_46 : decode cX12_wayAt 46 = .ok (.invokevirtual 92, 3) := by decide +kernel
theorem dX12_wayAt_49 : decode cX12_wayAt 49 = .ok (.ireturn, 1) := by decide +kernel
theorem dX12_wayAt_50 : decode cX12_wayAt 50 = .ok (.iload_n 1, 1) := by decide +kernel
theorem dX12_wayAt_51 : decode cX12_wayAt 51 = .ok (.istore 4, 2) := by decide +kernel
theorem dX12_wayAt_53 : decode cX12_wayAt 53 = .ok (.iload_n 3, 1) := by decide +kernel
theorem dX12_wayAt_54 : decode cX12_wayAt 54 = .ok (.istore 5, 2) := by decide +kernel
theorem dX12_wayAt_56 : decode cX12_wayAt 56 = .ok (.iload_n 3, 1) := by decide +kernel
theorem dX12_wayAt_57 : decode cX12_wayAt 57 = .ok (.ifCond .lt 46, 3) := by decide +kernel
theorem dX12_wayAt_60 : decode cX12_wayAt 60 = .ok (.iload 4, 2) := by decide +kernel
theorem dX12_wayAt_62 : decode cX12_wayAt 62 = .ok (.iload_n 2, 1) := by decide +kernel
theorem dX12_wayAt_63 : decode cX12_wayAt 63 = .ok (.if_icmp .eq 40, 3) := by decide +kernel
theorem dX12_wayAt_66 : decode cX12_wayAt 66 = .ok (.aload_n 0, 1) := by decide +kernel
theorem dX12_wayAt_67 : decode cX12_wayAt 67 = .ok (.iload 4, 2) := by decide +kernel
theorem dX12_wayAt_69 : decode cX12_wayAt 69 = .ok (.iload_n 2, 1) := by decide +kernel
theorem dX12_wayAt_70 : decode cX12_wayAt 70 = .ok (.invokevirtual 137, 3) := by decide +kernel
theorem dX12_wayAt_73 : decode cX12_wayAt 73 = .ok (.istore 6, 2) := by decide +kernel
theorem dX12_wayAt_75 : decode cX12_wayAt 75 = .ok (.iload 5, 2) := by decide +kernel
theorem dX12_wayAt_77 : decode cX12_wayAt 77 = .ok (.ifCond .ne 10, 3) := by decide +kernel
theorem dX12_wayAt_80 : decode cX12_wayAt 80 = .ok (.aload_n 0, 1) := by decide +kernel
theorem dX12_wayAt_81 : decode cX12_wayAt 81 = .ok (.iload 6, 2) := by decide +kernel
theorem dX12_wayAt_83 : decode cX12_wayAt 83 = .ok (.invokevirtual 102, 3) := by decide +kernel
theorem dX12_wayAt_86 : decode cX12_wayAt 86 = .ok (.ireturn, 1) := by decide +kernel
theorem dX12_wayAt_87 : decode cX12_wayAt 87 = .ok (.iinc 5 (-1), 3) := by decide +kernel
theorem dX12_wayAt_90 : decode cX12_wayAt 90 = .ok (.aload_n 0, 1) := by decide +kernel
theorem dX12_wayAt_91 : decode cX12_wayAt 91 = .ok (.iload 6, 2) := by decide +kernel
theorem dX12_wayAt_93 : decode cX12_wayAt 93 = .ok (.iload 4, 2) := by decide +kernel
theorem dX12_wayAt_95 : decode cX12_wayAt 95 = .ok (.invokevirtual 130, 3) := by decide +kernel
theorem dX12_wayAt_98 : decode cX12_wayAt 98 = .ok (.istore 4, 2) := by decide +kernel
theorem dX12_wayAt_100 : decode cX12_wayAt 100 = .ok (.goto (-44), 3) := by decide +kernel
theorem dX12_wayAt_103 : decode cX12_wayAt 103 = .ok (.aload_n 0, 1) := by decide +kernel
theorem dX12_wayAt_104 : decode cX12_wayAt 104 = .ok (.iconst (-1), 1) := by decide +kernel
theorem dX12_wayAt_105 : decode cX12_wayAt 105 = .ok (.invokevirtual 102, 3) := by decide +kernel
theorem dX12_wayAt_108 : decode cX12_wayAt 108 = .ok (.ireturn, 1) := by decide +kernel
theorem dX12_whole_0 : decode cX12_whole 0 = .ok (.fload_n 1, 1) := by decide +kernel
theorem dX12_whole_1 : decode cX12_whole 1 = .ok (.f2i, 1) := by decide +kernel
theorem dX12_whole_2 : decode cX12_whole 2 = .ok (.ldc 155, 2) := by decide +kernel
theorem dX12_whole_4 : decode cX12_whole 4 = .ok (.invokestatic 156, 3) := by decide +kernel
theorem dX12_whole_7 : decode cX12_whole 7 = .ok (.ireturn, 1) := by decide +kernel
theorem dX12_writes_0 : decode cX12_writes 0 = .ok (.aload_n 0, 1) := by decide +kernel
theorem dX12_writes_1 : decode cX12_writes 1 = .ok (.iload_n 1, 1) := by decide +kernel
theorem dX12_writes_2 : decode cX12_writes 2 = .ok (.iload_n 2, 1) := by decide +kernel
theorem dX12_writes_3 : decode cX12_writes 3 = .ok (.invokevirtual 146, 3) := by decide +kernel
theorem dX12_writes_6 : decode cX12_writes 6 = .ok (.istore 5, 2) := by decide +kernel
theorem dX12_writes_8 : decode cX12_writes 8 = .ok (.iload 5, 2) := by decide +kernel
theorem dX12_writes_10 : decode cX12_writes 10 = .ok (.ifCond .eq 10, 3) := by decide +kernel
theorem dX12_writes_13 : decode cX12_writes 13 = .ok (.aload_n 0, 1) := by decide +kernel
theorem dX12_writes_14 : decode cX12_writes 14 = .ok (.iload 5, 2) := by decide +kernel
theorem dX12_writes_16 : decode cX12_writes 16 = .ok (.invokevirtual 92, 3) := by decide +kernel
theorem dX12_writes_19 : decode cX12_writes 19 = .ok (.ireturn, 1) := by decide +kernel
theorem dX12_writes_20 : decode cX12_writes 20 = .ok (.aload_n 0, 1) := by decide +kernel
theorem dX12_writes_21 : decode cX12_writes 21 = .ok (.invokevirtual 96, 3) := by decide +kernel
theorem dX12_writes_24 : decode cX12_writes 24 = .ok (.aload_n 0, 1) := by decide +kernel
theorem dX12_writes_25 : decode cX12_writes 25 = .ok (.getfield 7, 3) := by decide +kernel
theorem dX12_writes_28 : decode cX12_writes 28 = .ok (.sipush 1426, 3) := by decide +kernel
theorem dX12_writes_31 : decode cX12_writes 31 = .ok (.sipush 200, 3) := by decide +kernel
theorem dX12_writes_34 : decode cX12_writes 34 = .ok (.iload_n 1, 1) := by decide +kernel
theorem dX12_writes_35 : decode cX12_writes 35 = .ok (.imul, 1) := by decide +kernel
theorem dX12_writes_36 : decode cX12_writes 36 = .ok (.iadd, 1) := by decide +kernel
theorem dX12_writes_37 : decode cX12_writes 37 = .ok (.iload_n 2, 1) := by decide +kernel
theorem dX12_writes_38 : decode cX12_writes 38 = .ok (.iadd, 1) := by decide +kernel
theorem dX12_writes_39 : decode cX12_writes 39 = .ok (.iload_n 3, 1) := by decide +kernel
theorem dX12_writes_40 : decode cX12_writes 40 = .ok (.iastore, 1) := by decide +kernel
theorem dX12_writes_41 : decode cX12_writes 41 = .ok (.aload_n 0, 1) := by decide +kernel
theorem dX12_writes_42 : decode cX12_writes 42 = .ok (.getfield 7, 3) := by decide +kernel
theorem dX12_writes_45 : decode cX12_writes 45 = .ok (.sipush 5426, 3) := by decide +kernel
theorem dX12_writes_48 : decode cX12_writes 48 = .ok (.sipush 200, 3) := by decide +kernel
theorem dX12_writes_51 : decode cX12_writes 51 = .ok (.iload_n 1, 1) := by decide +kernel
theorem dX12_writes_52 : decode cX12_writes 52 = .ok (.imul, 1) := by decide +kernel
theorem dX12_writes_53 : decode cX12_writes 53 = .ok (.iadd, 1) := by decide +kernel
theorem dX12_writes_54 : decode cX12_writes 54 = .ok (.iload_n 2, 1) := by decide +kernel
theorem dX12_writes_55 : decode cX12_writes 55 = .ok (.iadd, 1) := by decide +kernel
theorem dX12_writes_56 : decode cX12_writes 56 = .ok (.iload 4, 2) := by decide +kernel
theorem dX12_writes_58 : decode cX12_writes 58 = .ok (.iastore, 1) := by decide +kernel
theorem dX12_writes_59 : decode cX12_writes 59 = .ok (.aload_n 0, 1) := by decide +kernel
theorem dX12_writes_60 : decode cX12_writes 60 = .ok (.iconst 1, 1) := by decide +kernel
theorem dX12_writes_61 : decode cX12_writes 61 = .ok (.invokevirtual 102, 3) := by decide +kernel
theorem dX12_writes_64 : decode cX12_writes 64 = .ok (.ireturn, 1) := by decide +kernel
theorem dX12_writes__0 : decode cX12_writes_ 0 = .ok (.aload_n 0, 1) := by decide +kernel
theorem dX12_writes__1 : decode cX12_writes_ 1 = .ok (.getfield 19, 3) := by decide +kernel
theorem dX12_writes__4 : decode cX12_writes_ 4 = .ok (.aload_n 0, 1) := by decide +kernel
theorem dX12_writes__5 : decode cX12_writes_ 5 = .ok (.getfield 350, 3) := by decide +kernel
theorem dX12_writes__8 : decode cX12_writes_ 8 = .ok (.iload_n 1, 1) := by decide +kernel
theorem dX12_writes__9 : decode cX12_writes_ 9 = .ok (.i2c, 1) := by decide +kernel
theorem dX12_writes__10 : decode cX12_writes_ 10 = .ok (.castore, 1) := by decide +kernel
theorem dX12_writes__11 : decode cX12_writes_ 11 = .ok (.aload_n 0, 1) := by decide +kernel
theorem dX12_writes__12 : decode cX12_writes_ 12 = .ok (.dup, 1) := by decide +kernel
theorem dX12_writes__13 : decode cX12_writes_ 13 = .ok (.getfield 350, 3) := by decide +kernel
theorem dX12_writes__16 : decode cX12_writes_ 16 = .ok (.iconst 1, 1) := by decide +kernel
theorem dX12_writes__17 : decode cX12_writes_ 17 = .ok (.iadd, 1) := by decide +kernel
theorem dX12_writes__18 : decode cX12_writes_ 18 = .ok (.putfield 350, 3) := by decide +kernel
theorem dX12_writes__21 : decode cX12_writes_ 21 = .ok (.return_, 1) := by decide +kernel
theorem dX12_x_0 : decode cX12_x 0 = .ok (.aload_n 0, 1) := by decide +kernel
theorem dX12_x_1 : decode cX12_x 1 = .ok (.getfield 7, 3) := by decide +kernel
theorem dX12_x_4 : decode cX12_x 4 = .ok (.sipush 1426, 3) := by decide +kernel
theorem dX12_x_7 : decode cX12_x 7 = .ok (.sipush 200, 3) := by decide +kernel
theorem dX12_x_10 : decode cX12_x 10 = .ok (.iload_n 1, 1) := by decide +kernel
theorem dX12_x_11 : decode cX12_x 11 = .ok (.imul, 1) := by decide +kernel
theorem dX12_x_12 : decode cX12_x 12 = .ok (.iadd, 1) := by decide +kernel
theorem dX12_x_13 : decode cX12_x 13 = .ok (.iload_n 2, 1) := by decide +kernel
theorem dX12_x_14 : decode cX12_x 14 = .ok (.iadd, 1) := by decide +kernel
theorem dX12_x_15 : decode cX12_x 15 = .ok (.iaload, 1) := by decide +kernel
theorem dX12_x_16 : decode cX12_x 16 = .ok (.istore_n 3, 1) := by decide +kernel
theorem dX12_x_17 : decode cX12_x 17 = .ok (.aload_n 0, 1) := by decide +kernel
theorem dX12_x_18 : decode cX12_x 18 = .ok (.getfield 7, 3) := by decide +kernel
theorem dX12_x_21 : decode cX12_x 21 = .ok (.aload_n 0, 1) := by decide +kernel
theorem dX12_x_22 : decode cX12_x 22 = .ok (.iload_n 1, 1) := by decide +kernel
theorem dX12_x_23 : decode cX12_x 23 = .ok (.invokevirtual 140, 3) := by decide +kernel
theorem dX12_x_26 : decode cX12_x 26 = .ok (.iconst 1, 1) := by decide +kernel
theorem dX12_x_27 : decode cX12_x 27 = .ok (.iadd, 1) := by decide +kernel
theorem dX12_x_28 : decode cX12_x 28 = .ok (.iaload, 1) := by decide +kernel
theorem dX12_x_29 : decode cX12_x 29 = .ok (.ifCond .ne 11, 3) := by decide +kernel
theorem dX12_x_32 : decode cX12_x 32 = .ok (.iload_n 3, 1) := by decide +kernel
theorem dX12_x_33 : decode cX12_x 33 = .ok (.i2f, 1) := by decide +kernel
theorem dX12_x_34 : decode cX12_x 34 = .ok (.ldc 153, 2) := by decide +kernel
theorem dX12_x_36 : decode cX12_x 36 = .ok (.fdiv, 1) := by decide +kernel
theorem dX12_x_37 : decode cX12_x 37 = .ok (.goto 8, 3) := by decide +kernel
theorem dX12_x_40 : decode cX12_x 40 = .ok (.iload_n 3, 1) := by decide +kernel
theorem dX12_x_41 : decode cX12_x 41 = .ok (.i2f, 1) := by decide +kernel
theorem dX12_x_42 : decode cX12_x 42 = .ok (.ldc 154, 2) := by decide +kernel
theorem dX12_x_44 : decode cX12_x 44 = .ok (.fdiv, 1) := by decide +kernel
theorem dX12_x_45 : decode cX12_x 45 = .ok (.fstore 4, 2) := by decide +kernel
theorem dX12_x_47 : decode cX12_x 47 = .ok (.fload 4, 2) := by decide +kernel
theorem dX12_x_49 : decode cX12_x 49 = .ok (.fconst 0, 1) := by decide +kernel
theorem dX12_x_50 : decode cX12_x 50 = .ok (.fcmp .g, 1) := by decide +kernel
theorem dX12_x_51 : decode cX12_x 51 = .ok (.ifCond .ge 7, 3) := by decide +kernel
theorem dX12_x_54 : decode cX12_x 54 = .ok (.fconst 0, 1) := by decide +kernel
theorem dX12_x_55 : decode cX12_x 55 = .ok (.goto 5, 3) := by decide +kernel
theorem dX12_x_58 : decode cX12_x 58 = .ok (.fload 4, 2) := by decide +kernel
theorem dX12_x_60 : decode cX12_x 60 = .ok (.freturn, 1) := by decide +kernel
theorem dX1_addGauge_0 : decode cX1_addGauge 0 = .ok (.aload_n 0, 1) := by decide +kernel
theorem dX1_addGauge_1 : decode cX1_addGauge 1 = .ok (.getfield 24, 3) := by decide +kernel
theorem dX1_addGauge_4 : decode cX1_addGauge 4 = .ok (.invokevirtual 86, 3) := by decide +kernel
theorem dX1_addGauge_7 : decode cX1_addGauge 7 = .ok (.istore_n 3, 1) := by decide +kernel
theorem dX1_addGauge_8 : decode cX1_addGauge 8 = .ok (.aload_n 0, 1) := by decide +kernel
theorem dX1_addGauge_9 : decode cX1_addGauge 9 = .ok (.getfield 24, 3) := by decide +kernel
theorem dX1_addGauge_12 : decode cX1_addGauge 12 = .ok (.iload_n 3, 1) := by decide +kernel
theorem dX1_addGauge_13 : decode cX1_addGauge 13 = .ok (.iconst 0, 1) := by decide +kernel
theorem dX1_addGauge_14 : decode cX1_addGauge 14 = .ok (.iload_n 1, 1) := by decide +kernel
theorem dX1_addGauge_15 : decode cX1_addGauge 15 = .ok (.invokevirtual 79, 3) := by decide +kernel
theorem dX1_addGauge_18 : decode cX1_addGauge 18 = .ok (.aload_n 0, 1) := by decide +kernel
theorem dX1_addGauge_19 : decode cX1_addGauge 19 = .ok (.getfield 24, 3) := by decide +kernel
theorem dX1_addGauge_22 : decode cX1_addGauge 22 = .ok (.iload_n 3, 1) := by decide +kernel
theorem dX1_addGauge_23 : decode cX1_addGauge 23 = .ok (.iconst 1, 1) := by decide +kernel
theorem dX1_addGauge_24 : decode cX1_addGauge 24 = .ok (.iload_n 2, 1) := by decide +kernel
theorem dX1_addGauge_25 : decode cX1_addGauge 25 = .ok (.ifCond .eq 7, 3) := by decide +kernel
theorem dX1_addGauge_28 : decode cX1_addGauge 28 = .ok (.iconst 1, 1) := by decide +kernel
theorem dX1_addGauge_29 : decode cX1_addGauge 29 = .ok (.goto 4, 3) := by decide +kernel
theorem dX1_addGauge_32 : decode cX1_addGauge 32 = .ok (.iconst 0, 1) := by decide +kernel
theorem dX1_addGauge_33 : decode cX1_addGauge 33 = .ok (.invokevirtual 79, 3) := by decide +kernel
theorem dX1_addGauge_36 : decode cX1_addGauge 36 = .ok (.aload_n 0, 1) := by decide +kernel
theorem dX1_addGauge_37 : decode cX1_addGauge 37 = .ok (.getfield 24, 3) := by decide +kernel
theorem dX1_addGauge_40 : decode cX1_addGauge 40 = .ok (.iload_n 3, 1) := by decide +kernel
theorem dX1_addGauge_41 : decode cX1_addGauge 41 = .ok (.iconst 2, 1) := by decide +kernel
theorem dX1_addGauge_42 : decode cX1_addGauge 42 = .ok (.iconst (-1), 1) := by decide +kernel
theorem dX1_addGauge_43 : decode cX1_addGauge 43 = .ok (.invokevirtual 79, 3) := by decide +kernel
theorem dX1_addGauge_46 : decode cX1_addGauge 46 = .ok (.aload_n 0, 1) := by decide +kernel
theorem dX1_addGauge_47 : decode cX1_addGauge 47 = .ok (.invokevirtual 60, 3) := by decide +kernel
theorem dX1_addGauge_50 : decode cX1_addGauge 50 = .ok (.iload_n 3, 1) := by decide +kernel
theorem dX1_addGauge_51 : decode cX1_addGauge 51 = .ok (.ireturn, 1) := by decide +kernel
theorem dX1_become_0 : decode cX1_become 0 = .ok (.aload_n 0, 1) := by decide +kernel
theorem dX1_become_1 : decode cX1_become 1 = .ok (.aload_n 1, 1) := by decide +kernel
theorem dX1_become_2 : decode cX1_become 2 = .ok (.getfield 9, 3) := by decide +kernel
theorem dX1_become_5 : decode cX1_become 5 = .ok (.putfield 9, 3) := by decide +kernel
theorem dX1_become_8 : decode cX1_become 8 = .ok (.aload_n 0, 1) := by decide +kernel
theorem dX1_become_9 : decode cX1_become 9 = .ok (.getfield 20, 3) := by decide +kernel
theorem dX1_become_12 : decode cX1_become 12 = .ok (.aload_n 1, 1) := by decide +kernel
theorem dX1_become_13 : decode cX1_become 13 = .ok (.getfield 20, 3) := by decide +kernel
theorem dX1_become_16 : decode cX1_become 16 = .ok (.invokevirtual 50, 3) := by decide +kernel
theorem dX1_become_19 : decode cX1_become 19 = .ok (.aload_n 0, 1) := by decide +kernel
theorem dX1_become_20 : decode cX1_become 20 = .ok (.getfield 24, 3) := by decide +kernel
theorem dX1_become_23 : decode cX1_become 23 = .ok (.aload_n 1, 1) := by decide +kernel
theorem dX1_become_24 : decode cX1_become 24 = .ok (.getfield 24, 3) := by decide +kernel
theorem dX1_become_27 : decode cX1_become 27 = .ok (.invokevirtual 50, 3) := by decide +kernel
theorem dX1_become_30 : decode cX1_become 30 = .ok (.aload_n 0, 1) := by decide +kernel
theorem dX1_become_31 : decode cX1_become 31 = .ok (.getfield 27, 3) := by decide +kernel
theorem dX1_become_34 : decode cX1_become 34 = .ok (.aload_n 1, 1) := by decide +kernel
theorem dX1_become_35 : decode cX1_become 35 = .ok (.getfield 27, 3) := by decide +kernel
theorem dX1_become_38 : decode cX1_become 38 = .ok (.invokevirtual 50, 3) := by decide +kernel
theorem dX1_become_41 : decode cX1_become 41 = .ok (.aload_n 0, 1) := by decide +kernel
theorem dX1_become_42 : decode cX1_become 42 = .ok (.getfield 30, 3) := by decide +kernel
theorem dX1_become_45 : decode cX1_become 45 = .ok (.aload_n 1, 1) := by decide +kernel
theorem dX1_become_46 : decode cX1_become 46 = .ok (.getfield 30, 3) := by decide +kernel
theorem dX1_become_49 : decode cX1_become 49 = .ok (.invokevirtual 50, 3) := by decide +kernel
theorem dX1_become_52 : decode cX1_become 52 = .ok (.aload_n 1, 1) := by decide +kernel
theorem dX1_become_53 : decode cX1_become 53 = .ok (.getfield 33, 3) := by decide +kernel
theorem dX1_become_56 : decode cX1_become 56 = .ok (.iconst 0, 1) := by decide +kernel
theorem dX1_become_57 : decode cX1_become 57 = .ok (.aload_n 0, 1) := by decide +kernel
theorem dX1_become_58 : decode cX1_become 58 = .ok (.getfield 33, 3) := by decide +kernel
theorem dX1_become_61 : decode cX1_become 61 = .ok (.iconst 0, 1) := by decide +kernel
theorem dX1_become_62 : decode cX1_become 62 = .ok (.bipush 7, 2) := by decide +kernel
theorem dX1_become_64 : decode cX1_become 64 = .ok (.invokestatic 54, 3) := by decide +kernel
theorem dX1_become_67 : decode cX1_become 67 = .ok (.aload_n 1, 1) := by decide +kernel
theorem dX1_become_68 : decode cX1_become 68 = .ok (.getfield 37, 3) := by decide +kernel
theorem dX1_become_71 : decode cX1_become 71 = .ok (.iconst 0, 1) := by decide +kernel
theorem dX1_become_72 : decode cX1_become 72 = .ok (.aload_n 0, 1) := by decide +kernel
theorem dX1_become_73 : decode cX1_become 73 = .ok (.getfield 37, 3) := by decide +kernel
theorem dX1_become_76 : decode cX1_become 76 = .ok (.iconst 0, 1) := by decide +kernel
theorem dX1_become_77 : decode cX1_become 77 = .ok (.bipush 60, 2) := by decide +kernel
theorem dX1_become_79 : decode cX1_become 79 = .ok (.invokestatic 54, 3) := by decide +kernel
theorem dX1_become_82 : decode cX1_become 82 = .ok (.aload_n 0, 1) := by decide +kernel
theorem dX1_become_83 : decode cX1_become 83 = .ok (.invokevirtual 60, 3) := by decide +kernel
theorem dX1_become_86 : decode cX1_become 86 = .ok (.iconst 0, 1) := by decide +kernel
theorem dX1_become_87 : decode cX1_become 87 = .ok (.istore_n 2, 1) := by decide +kernel
theorem dX1_become_88 : decode cX1_become 88 = .ok (.iload_n 2, 1) := by decide +kernel
theorem dX1_become_89 : decode cX1_become 89 = .ok (.aload_n 0, 1) := by decide +kernel
theorem dX1_become_90 : decode cX1_become 90 = .ok (.getfield 24, 3) := by decide +kernel
theorem dX1_become_93 : decode cX1_become 93 = .ok (.getfield 63, 3) := by decide +kernel
theorem dX1_become_96 : decode cX1_become 96 = .ok (.if_icmp .ge 45, 3) := by decide +kernel
theorem dX1_become_99 : decode cX1_become 99 = .ok (.iconst 0, 1) := by decide +kernel
theorem dX1_become_100 : decode cX1_become 100 = .ok (.aload_n 0, 1) := by decide +kernel
theorem dX1_become_101 : decode cX1_become 101 = .ok (.getfield 24, 3) := by decide +kernel
theorem dX1_become_104 : decode cX1_become 104 = .ok (.iload_n 2, 1) := by decide +kernel
theorem dX1_become_105 : decode cX1_become 105 = .ok (.iconst 2, 1) := by decide +kernel
theorem dX1_become_106 : decode cX1_become 106 = .ok (.invokevirtual 66, 3) := by decide +kernel
theorem dX1_become_109 : decode cX1_become 109 = .ok (.invokestatic 70, 3) := by decide +kernel
theorem dX1_become_112 : decode cX1_become 112 = .ok (.istore_n 3, 1) := by decide +kernel
theorem dX1_become_113 : decode cX1_become 113 = .ok (.aload_n 1, 1) := by decide +kernel
theorem dX1_become_114 : decode cX1_become 114 = .ok (.getfield 40, 3) := by decide +kernel
theorem dX1_become_117 : decode cX1_become 117 = .ok (.iload_n 2, 1) := by decide +kernel
theorem dX1_become_118 : decode cX1_become 118 = .ok (.sipush 200, 3) := by decide +kernel
theorem dX1_become_121 : decode cX1_become 121 = .ok (.imul, 1) := by decide +kernel
theorem dX1_become_122 : decode cX1_become 122 = .ok (.aload_n 0, 1) := by decide +kernel
theorem dX1_become_123 : decode cX1_become 123 = .ok (.getfield 40, 3) := by decide +kernel
theorem dX1_become_126 : decode cX1_become 126 = .ok (.iload_n 2, 1) := by decide +kernel
theorem dX1_become_127 : decode cX1_become 127 = .ok (.sipush 200, 3) := by decide +kernel
theorem dX1_become_130 : decode cX1_become 130 = .ok (.imul, 1) := by decide +kernel
theorem dX1_become_131 : decode cX1_become 131 = .ok (.iload_n 3, 1) := by decide +kernel
theorem dX1_become_132 : decode cX1_become 132 = .ok (.invokestatic 54, 3) := by decide +kernel
theorem dX1_become_135 : decode cX1_become 135 = .ok (.iinc 2 1, 3) := by decide +kernel
theorem dX1_become_138 : decode cX1_become 138 = .ok (.goto (-50), 3) := by decide +kernel
theorem dX1_become_141 : decode cX1_become 141 = .ok (.return_, 1) := by decide +kernel
theorem dX1_cellAt_0 : decode cX1_cellAt 0 = .ok (.aload_n 0, 1) := by decide +kernel
theorem dX1_cellAt_1 : decode cX1_cellAt 1 = .ok (.getfield 24, 3) := by decide +kernel
theorem dX1_cellAt_4 : decode cX1_cellAt 4 = .ok (.iload_n 1, 1) := by decide +kernel
theorem dX1_cellAt_5 : decode cX1_cellAt 5 = .ok (.invokevirtual 106, 3) := by decide +kernel
theorem dX1_cellAt_8 : decode cX1_cellAt 8 = .ok (.ifCond .eq 18, 3) := by decide +kernel
theorem dX1_cellAt_11 : decode cX1_cellAt 11 = .ok (.iload_n 2, 1) := by decide +kernel
theorem dX1_cellAt_12 : decode cX1_cellAt 12 = .ok (.ifCond .lt 14, 3) := by decide +kernel
theorem dX1_cellAt_15 : decode cX1_cellAt 15 = .ok (.iload_n 2, 1) := by decide +kernel
theorem dX1_cellAt_16 : decode cX1_cellAt 16 = .ok (.sipush 200, 3) := by decide +kernel
theorem dX1_cellAt_19 : decode cX1_cellAt 19 = .ok (.if_icmp .ge 7, 3) := by decide +kernel
theorem dX1_cellAt_22 : decode cX1_cellAt 22 = .ok (.iconst 1, 1) := by decide +kernel
theorem dX1_cellAt_23 : decode cX1_cellAt 23 = .ok (.goto 4, 3) := by decide +kernel
theorem dX1_cellAt_26 : decode cX1_cellAt 26 = .ok (.iconst 0, 1) := by decide +kernel
theorem dX1_cellAt_27 : decode cX1_cellAt 27 = .ok (.istore_n 3, 1) := by decide +kernel
theorem dX1_cellAt_28 : decode cX1_cellAt 28 = .ok (.iload_n 3, 1) := by decide +kernel
theorem dX1_cellAt_29 : decode cX1_cellAt 29 = .ok (.ifCond .eq 13, 3) := by decide +kernel
theorem dX1_cellAt_32 : decode cX1_cellAt 32 = .ok (.iload_n 1, 1) := by decide +kernel
theorem dX1_cellAt_33 : decode cX1_cellAt 33 = .ok (.sipush 200, 3) := by decide +kernel
theorem dX1_cellAt_36 : decode cX1_cellAt 36 = .ok (.imul, 1) := by decide +kernel
theorem dX1_cellAt_37 : decode cX1_cellAt 37 = .ok (.iload_n 2, 1) := by decide +kernel
theorem dX1_cellAt_38 : decode cX1_cellAt 38 = .ok (.iadd, 1) := by decide +kernel
theorem dX1_cellAt_39 : decode cX1_cellAt 39 = .ok (.goto 4, 3) := by decide +kernel
theorem dX1_cellAt_42 : decode cX1_cellAt 42 = .ok (.iconst (-1), 1) := by decide +kernel
theorem dX1_cellAt_43 : decode cX1_cellAt 43 = .ok (.istore 4, 2) := by decide +kernel
theorem dX1_cellAt_45 : decode cX1_cellAt 45 = .ok (.iload 4, 2) := by decide +kernel
theorem dX1_cellAt_47 : decode cX1_cellAt 47 = .ok (.aload_n 0, 1) := by decide +kernel
theorem dX1_cellAt_48 : decode cX1_cellAt 48 = .ok (.getfield 40, 3) := by decide +kernel
theorem dX1_cellAt_51 : decode cX1_cellAt 51 = .ok (.arraylength, 1) := by decide +kernel
theorem dX1_cellAt_52 : decode cX1_cellAt 52 = .ok (.if_icmp .ge 8, 3) := by decide +kernel
theorem dX1_cellAt_55 : decode cX1_cellAt 55 = .ok (.iload 4, 2) := by decide +kernel
theorem dX1_cellAt_57 : decode cX1_cellAt 57 = .ok (.goto 4, 3) := by decide +kernel
theorem dX1_cellAt_60 : decode cX1_cellAt 60 = .ok (.iconst (-1), 1) := by decide +kernel
theorem dX1_cellAt_61 : decode cX1_cellAt 61 = .ok (.ireturn, 1) := by decide +kernel
theorem dX1_cellOfShort_0 : decode cX1_cellOfShort 0 = .ok (.iload_n 0, 1) := by decide +kernel
theorem dX1_cellOfShort_1 : decode cX1_cellOfShort 1 = .ok (.sipush (-32768), 3) := by decide +kernel
theorem dX1_cellOfShort_4 : decode cX1_cellOfShort 4 = .ok (.if_icmp .ne 7, 3) := by decide +kernel
theorem dX1_cellOfShort_7 : decode cX1_cellOfShort 7 = .ok (.ldc2_w 94, 3) := by decide +kernel
theorem dX1_cellOfShort_10 : decode cX1_cellOfShort 10 = .ok (.lreturn, 1) := by decide +kernel
theorem dX1_cellOfShort_11 : decode cX1_cellOfShort 11 = .ok (.iload_n 0, 1) := by decide +kernel
theorem dX1_cellOfShort_12 : decode cX1_cellOfShort 12 = .ok (.sipush 32767, 3) := by decide +kernel
theorem dX1_cellOfShort_15 : decode cX1_cellOfShort 15 = .ok (.if_icmp .ne 9, 3) := by decide +kernel
theorem dX1_cellOfShort_18 : decode cX1_cellOfShort 18 = .ok (.ldc2_w 96, 3) := by decide +kernel
theorem dX1_cellOfShort_21 : decode cX1_cellOfShort 21 = .ok (.goto 5, 3) := by decide +kernel
theorem dX1_cellOfShort_24 : decode cX1_cellOfShort 24 = .ok (.iload_n 0, 1) := by decide +kernel
theorem dX1_cellOfShort_25 : decode cX1_cellOfShort 25 = .ok (.i2l, 1) := by decide +kernel
theorem dX1_cellOfShort_26 : decode cX1_cellOfShort 26 = .ok (.lreturn, 1) := by decide +kernel
theorem dX1_clearSide_0 : decode cX1_clearSide 0 = .ok (.aload_n 0, 1) := by decide +kernel
theorem dX1_clearSide_1 : decode cX1_clearSide 1 = .ok (.getfield 20, 3) := by decide +kernel
theorem dX1_clearSide_4 : decode cX1_clearSide 4 = .ok (.iload_n 1, 1) := by decide +kernel
theorem dX1_clearSide_5 : decode cX1_clearSide 5 = .ok (.iconst 3, 1) := by decide +kernel
theorem dX1_clearSide_6 : decode cX1_clearSide 6 = .ok (.invokevirtual 66, 3) := by decide +kernel
theorem dX1_clearSide_9 : decode cX1_clearSide 9 = .ok (.istore_n 2, 1) := by decide +kernel
theorem dX1_clearSide_10 : decode cX1_clearSide 10 = .ok (.aload_n 0, 1) := by decide +kernel
theorem dX1_clearSide_11 : decode cX1_clearSide 11 = .ok (.getfield 20, 3) := by decide +kernel
theorem dX1_clearSide_14 : decode cX1_clearSide 14 = .ok (.iload_n 1, 1) := by decide +kernel
theorem dX1_clearSide_15 : decode cX1_clearSide 15 = .ok (.iconst 2, 1) := by decide +kernel
theorem dX1_clearSide_16 : decode cX1_clearSide 16 = .ok (.invokevirtual 66, 3) := by decide +kernel
theorem dX1_clearSide_19 : decode cX1_clearSide 19 = .ok (.iload_n 2, 1) := by decide +kernel
theorem dX1_clearSide_20 : decode cX1_clearSide 20 = .ok (.if_icmp .ge 13, 3) := by decide +kernel
theorem dX1_clearSide_23 : decode cX1_clearSide 23 = .ok (.aload_n 0, 1) := by decide +kernel
theorem dX1_clearSide_24 : decode cX1_clearSide 24 = .ok (.getfield 20, 3) := by decide +kernel
theorem dX1_clearSide_27 : decode cX1_clearSide 27 = .ok (.iload_n 1, 1) := by decide +kernel
theorem dX1_clearSide_28 : decode cX1_clearSide 28 = .ok (.iconst 2, 1) := by decide +kernel
theorem dX1_clearSide_29 : decode cX1_clearSide 29 = .ok (.iconst 1, 1) := by decide +kernel
theorem dX1_clearSide_30 : decode cX1_clearSide 30 = .ok (.invokevirtual 83, 3) := by decide +kernel
theorem dX1_clearSide_33 : decode cX1_clearSide 33 = .ok (.aload_n 0, 1) := by decide +kernel
theorem dX1_clearSide_34 : decode cX1_clearSide 34 = .ok (.getfield 20, 3) := by decide +kernel
theorem dX1_clearSide_37 : decode cX1_clearSide 37 = .ok (.iload_n 1, 1) := by decide +kernel
theorem dX1_clearSide_38 : decode cX1_clearSide 38 = .ok (.iconst 2, 1) := by decide +kernel
theorem dX1_clearSide_39 : decode cX1_clearSide 39 = .ok (.invokevirtual 66, 3) := by decide +kernel
theorem dX1_clearSide_42 : decode cX1_clearSide 42 = .ok (.iload_n 2, 1) := by decide +kernel
theorem dX1_clearSide_43 : decode cX1_clearSide 43 = .ok (.if_icmp .lt 13, 3) := by decide +kernel
theorem dX1_clearSide_46 : decode cX1_clearSide 46 = .ok (.aload_n 0, 1) := by decide +kernel
theorem dX1_clearSide_47 : decode cX1_clearSide 47 = .ok (.getfield 20, 3) := by decide +kernel
theorem dX1_clearSide_50 : decode cX1_clearSide 50 = .ok (.iload_n 1, 1) := by decide +kernel
theorem dX1_clearSide_51 : decode cX1_clearSide 51 = .ok (.iconst 0, 1) := by decide +kernel
theorem dX1_clearSide_52 : decode cX1_clearSide 52 = .ok (.iconst 0, 1) := by decide +kernel
theorem dX1_clearSide_53 : decode cX1_clearSide 53 = .ok (.invokevirtual 79, 3) := by decide +kernel
theorem dX1_clearSide_56 : decode cX1_clearSide 56 = .ok (.return_, 1) := by decide +kernel
theorem dX1_copyReadings_0 : decode cX1_copyReadings 0 = .ok (.aload_n 0, 1) := by decide +kernel
theorem dX1_copyReadings_1 : decode cX1_copyReadings 1 = .ok (.getfield 40, 3) := by decide +kernel
theorem dX1_copyReadings_4 : decode cX1_copyReadings 4 = .ok (.iload_n 1, 1) := by decide +kernel
theorem dX1_copyReadings_5 : decode cX1_copyReadings 5 = .ok (.sipush 200, 3) := by decide +kernel
theorem dX1_copyReadings_8 : decode cX1_copyReadings 8 = .ok (.imul, 1) := by decide +kernel
theorem dX1_copyReadings_9 : decode cX1_copyReadings 9 = .ok (.iload_n 2, 1) := by decide +kernel
theorem dX1_copyReadings_10 : decode cX1_copyReadings 10 = .ok (.iadd, 1) := by decide +kernel
theorem dX1_copyReadings_11 : decode cX1_copyReadings 11 = .ok (.aload_n 0, 1) := by decide +kernel
theorem dX1_copyReadings_12 : decode cX1_copyReadings 12 = .ok (.getfield 40, 3) := by decide +kernel
theorem dX1_copyReadings_15 : decode cX1_copyReadings 15 = .ok (.iload_n 3, 1) := by decide +kernel
theorem dX1_copyReadings_16 : decode cX1_copyReadings 16 = .ok (.sipush 200, 3) := by decide +kernel
theorem dX1_copyReadings_19 : decode cX1_copyReadings 19 = .ok (.imul, 1) := by decide +kernel
theorem dX1_copyReadings_20 : decode cX1_copyReadings 20 = .ok (.iload 4, 2) := by decide +kernel
theorem dX1_copyReadings_22 : decode cX1_copyReadings 22 = .ok (.iadd, 1) := by decide +kernel
theorem dX1_copyReadings_23 : decode cX1_copyReadings 23 = .ok (.iload 5, 2) := by decide +kernel
theorem dX1_copyReadings_25 : decode cX1_copyReadings 25 = .ok (.invokestatic 54, 3) := by decide +kernel
theorem dX1_copyReadings_28 : decode cX1_copyReadings 28 = .ok (.return_, 1) := by decide +kernel
theorem dX1_dropPart_0 : decode cX1_dropPart 0 = .ok (.iconst 0, 1) := by decide +kernel
theorem dX1_dropPart_1 : decode cX1_dropPart 1 = .ok (.istore_n 2, 1) := by decide +kernel
theorem dX1_dropPart_2 : decode cX1_dropPart 2 = .ok (.iload_n 2, 1) := by decide +kernel
theorem dX1_dropPart_3 : decode cX1_dropPart 3 = .ok (.bipush 9, 2) := by decide +kernel
theorem dX1_dropPart_5 : decode cX1_dropPart 5 = .ok (.if_icmp .ge 30, 3) := by decide +kernel
theorem dX1_dropPart_8 : decode cX1_dropPart 8 = .ok (.iload_n 2, 1) := by decide +kernel
theorem dX1_dropPart_9 : decode cX1_dropPart 9 = .ok (.iconst 5, 1) := by decide +kernel
theorem dX1_dropPart_10 : decode cX1_dropPart 10 = .ok (.if_icmp .eq 19, 3) := by decide +kernel
theorem dX1_dropPart_13 : decode cX1_dropPart 13 = .ok (.iload_n 2, 1) := by decide +kernel
theorem dX1_dropPart_14 : decode cX1_dropPart 14 = .ok (.bipush 6, 2) := by decide +kernel
theorem dX1_dropPart_16 : decode cX1_dropPart 16 = .ok (.if_icmp .eq 13, 3) := by decide +kernel
theorem dX1_dropPart_19 : decode cX1_dropPart 19 = .ok (.aload_n 0, 1) := by decide +kernel
theorem dX1_dropPart_20 : decode cX1_dropPart 20 = .ok (.getfield 27, 3) := by decide +kernel
theorem dX1_dropPart_23 : decode cX1_dropPart 23 = .ok (.iload_n 1, 1) := by decide +kernel
theorem dX1_dropPart_24 : decode cX1_dropPart 24 = .ok (.iload_n 2, 1) := by decide +kernel
theorem dX1_dropPart_25 : decode cX1_dropPart 25 = .ok (.iconst 0, 1) := by decide +kernel
theorem dX1_dropPart_26 : decode cX1_dropPart 26 = .ok (.invokevirtual 79, 3) := by decide +kernel
theorem dX1_dropPart_29 : decode cX1_dropPart 29 = .ok (.iinc 2 1, 3) := by decide +kernel
theorem dX1_dropPart_32 : decode cX1_dropPart 32 = .ok (.goto (-30), 3) := by decide +kernel
theorem dX1_dropPart_35 : decode cX1_dropPart 35 = .ok (.return_, 1) := by decide +kernel
theorem dX1_hasCrossing_0 : decode cX1_hasCrossing 0 = .ok (.iload_n 1, 1) := by decide +kernel
theorem dX1_hasCrossing_1 : decode cX1_hasCrossing 1 = .ok (.ifCond .lt 15, 3) := by decide +kernel
theorem dX1_hasCrossing_4 : decode cX1_hasCrossing 4 = .ok (.iload_n 1, 1) := by decide +kernel
theorem dX1_hasCrossing_5 : decode cX1_hasCrossing 5 = .ok (.aload_n 0, 1) := by decide +kernel
theorem dX1_hasCrossing_6 : decode cX1_hasCrossing 6 = .ok (.getfield 9, 3) := by decide +kernel
theorem dX1_hasCrossing_9 : decode cX1_hasCrossing 9 = .ok (.if_icmp .ge 7, 3) := by decide +kernel
theorem dX1_hasCrossing_12 : decode cX1_hasCrossing 12 = .ok (.iconst 1, 1) := by decide +kernel
theorem dX1_hasCrossing_13 : decode cX1_hasCrossing 13 = .ok (.goto 4, 3) := by decide +kernel
theorem dX1_hasCrossing_16 : decode cX1_hasCrossing 16 = .ok (.iconst 0, 1) := by decide +kernel
theorem dX1_hasCrossing_17 : decode cX1_hasCrossing 17 = .ok (.ireturn, 1) := by decide +kernel
theorem dX1_hasDriveLeft_0 : decode cX1_hasDriveLeft 0 = .ok (.aload_n 0, 1) := by decide +kernel
theorem dX1_hasDriveLeft_1 : decode cX1_hasDriveLeft 1 = .ok (.getfield 27, 3) := by decide +kernel
theorem dX1_hasDriveLeft_4 : decode cX1_hasDriveLeft 4 = .ok (.iload_n 1, 1) := by decide +kernel
theorem dX1_hasDriveLeft_5 : decode cX1_hasDriveLeft 5 = .ok (.iconst 2, 1) := by decide +kernel
theorem dX1_hasDriveLeft_6 : decode cX1_hasDriveLeft 6 = .ok (.invokevirtual 66, 3) := by decide +kernel
theorem dX1_hasDriveLeft_9 : decode cX1_hasDriveLeft 9 = .ok (.aload_n 0, 1) := by decide +kernel
theorem dX1_hasDriveLeft_10 : decode cX1_hasDriveLeft 10 = .ok (.getfield 27, 3) := by decide +kernel
theorem dX1_hasDriveLeft_13 : decode cX1_hasDriveLeft 13 = .ok (.iload_n 1, 1) := by decide +kernel
theorem dX1_hasDriveLeft_14 : decode cX1_hasDriveLeft 14 = .ok (.iconst 1, 1) := by decide +kernel
theorem dX1_hasDriveLeft_15 : decode cX1_hasDriveLeft 15 = .ok (.invokevirtual 66, 3) := by decide +kernel
theorem dX1_hasDriveLeft_18 : decode cX1_hasDriveLeft 18 = .ok (.if_icmp .ge 7, 3) := by decide +kernel
theorem dX1_hasDriveLeft_21 : decode cX1_hasDriveLeft 21 = .ok (.iconst 1, 1) := by decide +kernel
theorem dX1_hasDriveLeft_22 : decode cX1_hasDriveLeft 22 = .ok (.goto 4, 3) := by decide +kernel
theorem dX1_hasDriveLeft_25 : decode cX1_hasDriveLeft 25 = .ok (.iconst 0, 1) := by decide +kernel
theorem dX1_hasDriveLeft_26 : decode cX1_hasDriveLeft 26 = .ok (.ireturn, 1) := by decide +kernel
theorem dX1_hasOneWay_0 : decode cX1_hasOneWay 0 = .ok (.iconst 0, 1) := by decide +kernel
theorem dX1_hasOneWay_1 : decode cX1_hasOneWay 1 = .ok (.istore_n 1, 1) := by decide +kernel
theorem dX1_hasOneWay_2 : decode cX1_hasOneWay 2 = .ok (.iload_n 1, 1) := by decide +kernel
theorem dX1_hasOneWay_3 : decode cX1_hasOneWay 3 = .ok (.aload_n 0, 1) := by decide +kernel
theorem dX1_hasOneWay_4 : decode cX1_hasOneWay 4 = .ok (.getfield 20, 3) := by decide +kernel
theorem dX1_hasOneWay_7 : decode cX1_hasOneWay 7 = .ok (.getfield 63, 3) := by decide +kernel
theorem dX1_hasOneWay_10 : decode cX1_hasOneWay 10 = .ok (.if_icmp .ge 36, 3) := by decide +kernel
theorem dX1_hasOneWay_13 : decode cX1_hasOneWay 13 = .ok (.aload_n 0, 1) := by decide +kernel
theorem dX1_hasOneWay_14 : decode cX1_hasOneWay 14 = .ok (.getfield 20, 3) := by decide +kernel
theorem dX1_hasOneWay_17 : decode cX1_hasOneWay 17 = .ok (.iload_n 1, 1) := by decide +kernel
theorem dX1_hasOneWay_18 : decode cX1_hasOneWay 18 = .ok (.iconst 4, 1) := by decide +kernel
theorem dX1_hasOneWay_19 : decode cX1_hasOneWay 19 = .ok (.invokevirtual 66, 3) := by decide +kernel
theorem dX1_hasOneWay_22 : decode cX1_hasOneWay 22 = .ok (.ifCond .ne 18, 3) := by decide +kernel
theorem dX1_hasOneWay_25 : decode cX1_hasOneWay 25 = .ok (.aload_n 0, 1) := by decide +kernel
theorem dX1_hasOneWay_26 : decode cX1_hasOneWay 26 = .ok (.getfield 20, 3) := by decide +kernel
theorem dX1_hasOneWay_29 : decode cX1_hasOneWay 29 = .ok (.iload_n 1, 1) := by decide +kernel
theorem dX1_hasOneWay_30 : decode cX1_hasOneWay 30 = .ok (.iconst 5, 1) := by decide +kernel
theorem dX1_hasOneWay_31 : decode cX1_hasOneWay 31 = .ok (.invokevirtual 66, 3) := by decide +kernel
theorem dX1_hasOneWay_34 : decode cX1_hasOneWay 34 = .ok (.iconst 1, 1) := by decide +kernel
theorem dX1_hasOneWay_35 : decode cX1_hasOneWay 35 = .ok (.if_icmp .ne 5, 3) := by decide +kernel
theorem dX1_hasOneWay_38 : decode cX1_hasOneWay 38 = .ok (.iconst 1, 1) := by decide +kernel
theorem dX1_hasOneWay_39 : decode cX1_hasOneWay 39 = .ok (.ireturn, 1) := by decide +kernel
theorem dX1_hasOneWay_40 : decode cX1_hasOneWay 40 = .ok (.iinc 1 1, 3) := by decide +kernel
theorem dX1_hasOneWay_43 : decode cX1_hasOneWay 43 = .ok (.goto (-41), 3) := by decide +kernel
theorem dX1_hasOneWay_46 : decode cX1_hasOneWay 46 = .ok (.iconst 0, 1) := by decide +kernel
theorem dX1_hasOneWay_47 : decode cX1_hasOneWay 47 = .ok (.ireturn, 1) := by decide +kernel
theorem dX1_height_0 : decode cX1_height 0 = .ok (.aload_n 0, 1) := by decide +kernel
theorem dX1_height_1 : decode cX1_height 1 = .ok (.iload_n 1, 1) := by decide +kernel
theorem dX1_height_2 : decode cX1_height 2 = .ok (.iload_n 2, 1) := by decide +kernel
theorem dX1_height_3 : decode cX1_height 3 = .ok (.invokevirtual 109, 3) := by decide +kernel
theorem dX1_height_6 : decode cX1_height 6 = .ok (.istore_n 3, 1) := by decide +kernel
theorem dX1_height_7 : decode cX1_height 7 = .ok (.iload_n 3, 1) := by decide +kernel
theorem dX1_height_8 : decode cX1_height 8 = .ok (.ifCond .lt 29, 3) := by decide +kernel
theorem dX1_height_11 : decode cX1_height 11 = .ok (.aload_n 0, 1) := by decide +kernel
theorem dX1_height_12 : decode cX1_height 12 = .ok (.getfield 40, 3) := by decide +kernel
theorem dX1_height_15 : decode cX1_height 15 = .ok (.iload_n 3, 1) := by decide +kernel
theorem dX1_height_16 : decode cX1_height 16 = .ok (.laload, 1) := by decide +kernel
theorem dX1_height_17 : decode cX1_height 17 = .ok (.ldc2_w 94, 3) := by decide +kernel
theorem dX1_height_20 : decode cX1_height 20 = .ok (.lcmp, 1) := by decide +kernel
theorem dX1_height_21 : decode cX1_height 21 = .ok (.ifCond .eq 16, 3) := by decide +kernel
theorem dX1_height_24 : decode cX1_height 24 = .ok (.aload_n 0, 1) := by decide +kernel
theorem dX1_height_25 : decode cX1_height 25 = .ok (.getfield 40, 3) := by decide +kernel
theorem dX1_height_28 : decode cX1_height 28 = .ok (.iload_n 3, 1) := by decide +kernel
theorem dX1_height_29 : decode cX1_height 29 = .ok (.laload, 1) := by decide +kernel
theorem dX1_height_30 : decode cX1_height 30 = .ok (.ldc2_w 96, 3) := by decide +kernel
theorem dX1_height_33 : decode cX1_height 33 = .ok (.lcmp, 1) := by decide +kernel
theorem dX1_height_34 : decode cX1_height 34 = .ok (.ifCond .ne 6, 3) := by decide +kernel
theorem dX1_height_37 : decode cX1_height 37 = .ok (.ldc 112, 2) := by decide +kernel
theorem dX1_height_39 : decode cX1_height 39 = .ok (.freturn, 1) := by decide +kernel
theorem dX1_height_40 : decode cX1_height 40 = .ok (.aload_n 0, 1) := by decide +kernel
theorem dX1_height_41 : decode cX1_height 41 = .ok (.getfield 40, 3) := by decide +kernel
theorem dX1_height_44 : decode cX1_height 44 = .ok (.iload_n 3, 1) := by decide +kernel
theorem dX1_height_45 : decode cX1_height 45 = .ok (.laload, 1) := by decide +kernel
theorem dX1_height_46 : decode cX1_height 46 = .ok (.l2i, 1) := by decide +kernel
theorem dX1_height_47 : decode cX1_height 47 = .ok (.i2f, 1) := by decide +kernel
theorem dX1_height_48 : decode cX1_height 48 = .ok (.fstore 4, 2) := by decide +kernel
theorem dX1_height_50 : decode cX1_height 50 = .ok (.aload_n 0, 1) := by decide +kernel
theorem dX1_height_51 : decode cX1_height 51 = .ok (.iload_n 1, 1) := by decide +kernel
theorem dX1_height_52 : decode cX1_height 52 = .ok (.invokevirtual 113, 3) := by decide +kernel
theorem dX1_height_55 : decode cX1_height 55 = .ok (.ifCond .eq 11, 3) := by decide +kernel
theorem dX1_height_58 : decode cX1_height 58 = .ok (.fload 4, 2) := by decide +kernel
theorem dX1_height_60 : decode cX1_height 60 = .ok (.ldc 116, 2) := by decide +kernel
theorem dX1_height_62 : decode cX1_height 62 = .ok (.fdiv, 1) := by decide +kernel
theorem dX1_height_63 : decode cX1_height 63 = .ok (.goto 8, 3) := by decide +kernel
theorem dX1_height_66 : decode cX1_height 66 = .ok (.fload 4, 2) := by decide +kernel
theorem dX1_height_68 : decode cX1_height 68 = .ok (.ldc 117, 2) := by decide +kernel
theorem dX1_height_70 : decode cX1_height 70 = .ok (.fdiv, 1) := by decide +kernel
theorem dX1_height_71 : decode cX1_height 71 = .ok (.fstore 5, 2) := by decide +kernel
theorem dX1_height_73 : decode cX1_height 73 = .ok (.fload 5, 2) := by decide +kernel
theorem dX1_height_75 : decode cX1_height 75 = .ok (.fconst 0, 1) := by decide +kernel
theorem dX1_height_76 : decode cX1_height 76 = .ok (.fcmp .g, 1) := by decide +kernel
theorem dX1_height_77 : decode cX1_height 77 = .ok (.ifCond .ge 7, 3) := by decide +kernel
theorem dX1_height_80 : decode cX1_height 80 = .ok (.fconst 0, 1) := by decide +kernel
theorem dX1_height_81 : decode cX1_height 81 = .ok (.goto 5, 3) := by decide +kernel
theorem dX1_height_84 : decode cX1_height 84 = .ok (.fload 5, 2) := by decide +kernel
theorem dX1_height_86 : decode cX1_height 86 = .ok (.freturn, 1) := by decide +kernel
theorem dX1_init_0 : decode cX1_init 0 = .ok (.aload_n 0, 1) := by decide +kernel
theorem dX1_init_1 : decode cX1_init 1 = .ok (.invokespecial 3, 3) := by decide +kernel
theorem dX1_init_4 : decode cX1_init 4 = .ok (.aload_n 0, 1) := by decide +kernel
theorem dX1_init_5 : decode cX1_init 5 = .ok (.iconst 0, 1) := by decide +kernel
theorem dX1_init_6 : decode cX1_init 6 = .ok (.putfield 9, 3) := by decide +kernel
theorem dX1_init_9 : decode cX1_init 9 = .ok (.aload_n 0, 1) := by decide +kernel
theorem dX1_init_10 : decode cX1_init 10 = .ok (.new 15, 3) := by decide +kernel
theorem dX1_init_13 : decode cX1_init 13 = .ok (.dup, 1) := by decide +kernel
theorem dX1_init_14 : decode cX1_init 14 = .ok (.bipush 9, 2) := by decide +kernel
theorem dX1_init_16 : decode cX1_init 16 = .ok (.bipush 16, 2) := by decide +kernel
theorem dX1_init_18 : decode cX1_init 18 = .ok (.invokespecial 17, 3) := by decide +kernel
theorem dX1_init_21 : decode cX1_init 21 = .ok (.putfield 20, 3) := by decide +kernel
theorem dX1_init_24 : decode cX1_init 24 = .ok (.aload_n 0, 1) := by decide +kernel
theorem dX1_init_25 : decode cX1_init 25 = .ok (.new 15, 3) := by decide +kernel
theorem dX1_init_28 : decode cX1_init 28 = .ok (.dup, 1) := by decide +kernel
theorem dX1_init_29 : decode cX1_init 29 = .ok (.iconst 3, 1) := by decide +kernel
theorem dX1_init_30 : decode cX1_init 30 = .ok (.iconst 4, 1) := by decide +kernel
theorem dX1_init_31 : decode cX1_init 31 = .ok (.invokespecial 17, 3) := by decide +kernel
theorem dX1_init_34 : decode cX1_init 34 = .ok (.putfield 24, 3) := by decide +kernel
theorem dX1_init_37 : decode cX1_init 37 = .ok (.aload_n 0, 1) := by decide +kernel
theorem dX1_init_38 : decode cX1_init 38 = .ok (.new 15, 3) := by decide +kernel
theorem dX1_init_41 : decode cX1_init 41 = .ok (.dup, 1) := by decide +kernel
theorem dX1_init_42 : decode cX1_init 42 = .ok (.bipush 9, 2) := by decide +kernel
theorem dX1_init_44 : decode cX1_init 44 = .ok (.iconst 4, 1) := by decide +kernel
theorem dX1_init_45 : decode cX1_init 45 = .ok (.invokespecial 17, 3) := by decide +kernel
theorem dX1_init_48 : decode cX1_init 48 = .ok (.putfield 27, 3) := by decide +kernel
theorem dX1_init_51 : decode cX1_init 51 = .ok (.aload_n 0, 1) := by decide +kernel
theorem dX1_init_52 : decode cX1_init 52 = .ok (.new 15, 3) := by decide +kernel
theorem dX1_init_55 : decode cX1_init 55 = .ok (.dup, 1) := by decide +kernel
theorem dX1_init_56 : decode cX1_init 56 = .ok (.iconst 4, 1) := by decide +kernel
theorem dX1_init_57 : decode cX1_init 57 = .ok (.bipush 16, 2) := by decide +kernel
theorem dX1_init_59 : decode cX1_init 59 = .ok (.invokespecial 17, 3) := by decide +kernel
theorem dX1_init_62 : decode cX1_init 62 = .ok (.putfield 30, 3) := by decide +kernel
theorem dX1_init_65 : decode cX1_init 65 = .ok (.aload_n 0, 1) := by decide +kernel
theorem dX1_init_66 : decode cX1_init 66 = .ok (.bipush 7, 2) := by decide +kernel
theorem dX1_init_68 : decode cX1_init 68 = .ok (.newarray .int, 2) := by decide +kernel
theorem dX1_init_70 : decode cX1_init 70 = .ok (.putfield 33, 3) := by decide +kernel
theorem dX1_init_73 : decode cX1_init 73 = .ok (.aload_n 0, 1) := by decide +kernel
theorem dX1_init_74 : decode cX1_init 74 = .ok (.bipush 60, 2) := by decide +kernel
theorem dX1_init_76 : decode cX1_init 76 = .ok (.newarray .int, 2) := by decide +kernel
theorem dX1_init_78 : decode cX1_init 78 = .ok (.putfield 37, 3) := by decide +kernel
theorem dX1_init_81 : decode cX1_init 81 = .ok (.aload_n 0, 1) := by decide +kernel
theorem dX1_init_82 : decode cX1_init 82 = .ok (.iconst 0, 1) := by decide +kernel
theorem dX1_init_83 : decode cX1_init 83 = .ok (.newarray .long, 2) := by decide +kernel
theorem dX1_init_85 : decode cX1_init 85 = .ok (.putfield 40, 3) := by decide +kernel
theorem dX1_init_88 : decode cX1_init 88 = .ok (.aload_n 0, 1) := by decide +kernel
theorem dX1_init_89 : decode cX1_init 89 = .ok (.getfield 37, 3) := by decide +kernel
theorem dX1_init_92 : decode cX1_init 92 = .ok (.iconst (-1), 1) := by decide +kernel
theorem dX1_init_93 : decode cX1_init 93 = .ok (.invokestatic 44, 3) := by decide +kernel
theorem dX1_init_96 : decode cX1_init 96 = .ok (.return_, 1) := by decide +kernel
theorem dX1_isMissing_0 : decode cX1_isMissing 0 = .ok (.aload_n 0, 1) := by decide +kernel
theorem dX1_isMissing_1 : decode cX1_isMissing 1 = .ok (.getfield 24, 3) := by decide +kernel
theorem dX1_isMissing_4 : decode cX1_isMissing 4 = .ok (.iload_n 1, 1) := by decide +kernel
theorem dX1_isMissing_5 : decode cX1_isMissing 5 = .ok (.iconst 2, 1) := by decide +kernel
theorem dX1_isMissing_6 : decode cX1_isMissing 6 = .ok (.invokevirtual 66, 3) := by decide +kernel
theorem dX1_isMissing_9 : decode cX1_isMissing 9 = .ok (.iconst (-1), 1) := by decide +kernel
theorem dX1_isMissing_10 : decode cX1_isMissing 10 = .ok (.if_icmp .ne 7, 3) := by decide +kernel
theorem dX1_isMissing_13 : decode cX1_isMissing 13 = .ok (.iconst 1, 1) := by decide +kernel
theorem dX1_isMissing_14 : decode cX1_isMissing 14 = .ok (.goto 4, 3) := by decide +kernel
theorem dX1_isMissing_17 : decode cX1_isMissing 17 = .ok (.iconst 0, 1) := by decide +kernel
theorem dX1_isMissing_18 : decode cX1_isMissing 18 = .ok (.ireturn, 1) := by decide +kernel
theorem dX1_isNextShut_0 : decode cX1_isNextShut 0 = .ok (.aload_n 0, 1) := by decide +kernel
theorem dX1_isNextShut_1 : decode cX1_isNextShut 1 = .ok (.getfield 20, 3) := by decide +kernel
theorem dX1_isNextShut_4 : decode cX1_isNextShut 4 = .ok (.aload_n 0, 1) := by decide +kernel
theorem dX1_isNextShut_5 : decode cX1_isNextShut 5 = .ok (.getfield 30, 3) := by decide +kernel
theorem dX1_isNextShut_8 : decode cX1_isNextShut 8 = .ok (.aload_n 0, 1) := by decide +kernel
theorem dX1_isNextShut_9 : decode cX1_isNextShut 9 = .ok (.iload_n 1, 1) := by decide +kernel
theorem dX1_isNextShut_10 : decode cX1_isNextShut 10 = .ok (.invokevirtual 130, 3) := by decide +kernel
theorem dX1_isNextShut_13 : decode cX1_isNextShut 13 = .ok (.iconst 0, 1) := by decide +kernel
theorem dX1_isNextShut_14 : decode cX1_isNextShut 14 = .ok (.invokevirtual 66, 3) := by decide +kernel
theorem dX1_isNextShut_17 : decode cX1_isNextShut 17 = .ok (.iconst 4, 1) := by decide +kernel
theorem dX1_isNextShut_18 : decode cX1_isNextShut 18 = .ok (.invokevirtual 66, 3) := by decide +kernel
theorem dX1_isNextShut_21 : decode cX1_isNextShut 21 = .ok (.iconst 1, 1) := by decide +kernel
theorem dX1_isNextShut_22 : decode cX1_isNextShut 22 = .ok (.if_icmp .ne 7, 3) := by decide +kernel
theorem dX1_isNextShut_25 : decode cX1_isNextShut 25 = .ok (.iconst 1, 1) := by decide +kernel
theorem dX1_isNextShut_26 : decode cX1_isNextShut 26 = .ok (.goto 4, 3) := by decide +kernel
theorem dX1_isNextShut_29 : decode cX1_isNextShut 29 = .ok (.iconst 0, 1) := by decide +kernel
theorem dX1_isNextShut_30 : decode cX1_isNextShut 30 = .ok (.ireturn, 1) := by decide +kernel
theorem dX1_isOfShorts_0 : decode cX1_isOfShorts 0 = .ok (.aload_n 0, 1) := by decide +kernel
theorem dX1_isOfShorts_1 : decode cX1_isOfShorts 1 = .ok (.getfield 24, 3) := by decide +kernel
theorem dX1_isOfShorts_4 : decode cX1_isOfShorts 4 = .ok (.iload_n 1, 1) := by decide +kernel
theorem dX1_isOfShorts_5 : decode cX1_isOfShorts 5 = .ok (.iconst 1, 1) := by decide +kernel
theorem dX1_isOfShorts_6 : decode cX1_isOfShorts 6 = .ok (.invokevirtual 66, 3) := by decide +kernel
theorem dX1_isOfShorts_9 : decode cX1_isOfShorts 9 = .ok (.iconst 1, 1) := by decide +kernel
theorem dX1_isOfShorts_10 : decode cX1_isOfShorts 10 = .ok (.if_icmp .ne 7, 3) := by decide +kernel
theorem dX1_isOfShorts_13 : decode cX1_isOfShorts 13 = .ok (.iconst 1, 1) := by decide +kernel
theorem dX1_isOfShorts_14 : decode cX1_isOfShorts 14 = .ok (.goto 4, 3) := by decide +kernel
theorem dX1_isOfShorts_17 : decode cX1_isOfShorts 17 = .ok (.iconst 0, 1) := by decide +kernel
theorem dX1_isOfShorts_18 : decode cX1_isOfShorts 18 = .ok (.ireturn, 1) := by decide +kernel
theorem dX1_isOut_0 : decode cX1_isOut 0 = .ok (.aload_n 0, 1) := by decide +kernel
theorem dX1_isOut_1 : decode cX1_isOut 1 = .ok (.getfield 27, 3) := by decide +kernel
theorem dX1_isOut_4 : decode cX1_isOut 4 = .ok (.iload_n 1, 1) := by decide +kernel
theorem dX1_isOut_5 : decode cX1_isOut 5 = .ok (.bipush 6, 2) := by decide +kernel
theorem dX1_isOut_7 : decode cX1_isOut 7 = .ok (.invokevirtual 66, 3) := by decide +kernel
theorem dX1_isOut_10 : decode cX1_isOut 10 = .ok (.iconst (-1), 1) := by decide +kernel
theorem dX1_isOut_11 : decode cX1_isOut 11 = .ok (.if_icmp .ne 7, 3) := by decide +kernel
theorem dX1_isOut_14 : decode cX1_isOut 14 = .ok (.iconst 1, 1) := by decide +kernel
theorem dX1_isOut_15 : decode cX1_isOut 15 = .ok (.goto 4, 3) := by decide +kernel
theorem dX1_isOut_18 : decode cX1_isOut 18 = .ok (.iconst 0, 1) := by decide +kernel
theorem dX1_isOut_19 : decode cX1_isOut 19 = .ok (.ireturn, 1) := by decide +kernel
theorem dX1_lay_0 : decode cX1_lay 0 = .ok (.aload_n 0, 1) := by decide +kernel
theorem dX1_lay_1 : decode cX1_lay 1 = .ok (.getfield 24, 3) := by decide +kernel
theorem dX1_lay_4 : decode cX1_lay 4 = .ok (.iload_n 1, 1) := by decide +kernel
theorem dX1_lay_5 : decode cX1_lay 5 = .ok (.iconst 2, 1) := by decide +kernel
theorem dX1_lay_6 : decode cX1_lay 6 = .ok (.iload_n 2, 1) := by decide +kernel
theorem dX1_lay_7 : decode cX1_lay 7 = .ok (.invokevirtual 79, 3) := by decide +kernel
theorem dX1_lay_10 : decode cX1_lay 10 = .ok (.iconst 0, 1) := by decide +kernel
theorem dX1_lay_11 : decode cX1_lay 11 = .ok (.istore_n 3, 1) := by decide +kernel
theorem dX1_lay_12 : decode cX1_lay 12 = .ok (.iload_n 3, 1) := by decide +kernel
theorem dX1_lay_13 : decode cX1_lay 13 = .ok (.iload_n 2, 1) := by decide +kernel
theorem dX1_lay_14 : decode cX1_lay 14 = .ok (.if_icmp .ge 16, 3) := by decide +kernel
theorem dX1_lay_17 : decode cX1_lay 17 = .ok (.aload_n 0, 1) := by decide +kernel
theorem dX1_lay_18 : decode cX1_lay 18 = .ok (.iload_n 1, 1) := by decide +kernel
theorem dX1_lay_19 : decode cX1_lay 19 = .ok (.iload_n 3, 1) := by decide +kernel
theorem dX1_lay_20 : decode cX1_lay 20 = .ok (.lconst 0, 1) := by decide +kernel
theorem dX1_lay_21 : decode cX1_lay 21 = .ok (.invokevirtual 90, 3) := by decide +kernel
theorem dX1_lay_24 : decode cX1_lay 24 = .ok (.iinc 3 1, 3) := by decide +kernel
theorem dX1_lay_27 : decode cX1_lay 27 = .ok (.goto (-15), 3) := by decide +kernel
theorem dX1_lay_30 : decode cX1_lay 30 = .ok (.return_, 1) := by decide +kernel
theorem dX1_lessDrift_0 : decode cX1_lessDrift 0 = .ok (.aload_n 0, 1) := by decide +kernel
theorem dX1_lessDrift_1 : decode cX1_lessDrift 1 = .ok (.getfield 20, 3) := by decide +kernel
theorem dX1_lessDrift_4 : decode cX1_lessDrift 4 = .ok (.iload_n 1, 1) := by decide +kernel
theorem dX1_lessDrift_5 : decode cX1_lessDrift 5 = .ok (.iconst 0, 1) := by decide +kernel
theorem dX1_lessDrift_6 : decode cX1_lessDrift 6 = .ok (.iconst 0, 1) := by decide +kernel
theorem dX1_lessDrift_7 : decode cX1_lessDrift 7 = .ok (.aload_n 0, 1) := by decide +kernel
theorem dX1_lessDrift_8 : decode cX1_lessDrift 8 = .ok (.getfield 20, 3) := by decide +kernel
theorem dX1_lessDrift_11 : decode cX1_lessDrift 11 = .ok (.iload_n 1, 1) := by decide +kernel
theorem dX1_lessDrift_12 : decode cX1_lessDrift 12 = .ok (.iconst 0, 1) := by decide +kernel
theorem dX1_lessDrift_13 : decode cX1_lessDrift 13 = .ok (.invokevirtual 66, 3) := by decide +kernel
theorem dX1_lessDrift_16 : decode cX1_lessDrift 16 = .ok (.iload_n 2, 1) := by decide +kernel
theorem dX1_lessDrift_17 : decode cX1_lessDrift 17 = .ok (.isub, 1) := by decide +kernel
theorem dX1_lessDrift_18 : decode cX1_lessDrift 18 = .ok (.invokestatic 70, 3) := by decide +kernel
theorem dX1_lessDrift_21 : decode cX1_lessDrift 21 = .ok (.invokevirtual 79, 3) := by decide +kernel
theorem dX1_lessDrift_24 : decode cX1_lessDrift 24 = .ok (.return_, 1) := by decide +kernel
theorem dX1_nextDrive_0 : decode cX1_nextDrive 0 = .ok (.aload_n 0, 1) := by decide +kernel
theorem dX1_nextDrive_1 : decode cX1_nextDrive 1 = .ok (.getfield 27, 3) := by decide +kernel
theorem dX1_nextDrive_4 : decode cX1_nextDrive 4 = .ok (.iload_n 1, 1) := by decide +kernel
theorem dX1_nextDrive_5 : decode cX1_nextDrive 5 = .ok (.iconst 0, 1) := by decide +kernel
theorem dX1_nextDrive_6 : decode cX1_nextDrive 6 = .ok (.invokevirtual 66, 3) := by decide +kernel
theorem dX1_nextDrive_9 : decode cX1_nextDrive 9 = .ok (.aload_n 0, 1) := by decide +kernel
theorem dX1_nextDrive_10 : decode cX1_nextDrive 10 = .ok (.getfield 27, 3) := by decide +kernel
theorem dX1_nextDrive_13 : decode cX1_nextDrive 13 = .ok (.iload_n 1, 1) := by decide +kernel
theorem dX1_nextDrive_14 : decode cX1_nextDrive 14 = .ok (.iconst 2, 1) := by decide +kernel
theorem dX1_nextDrive_15 : decode cX1_nextDrive 15 = .ok (.invokevirtual 66, 3) := by decide +kernel
theorem dX1_nextDrive_18 : decode cX1_nextDrive 18 = .ok (.iadd, 1) := by decide +kernel
theorem dX1_nextDrive_19 : decode cX1_nextDrive 19 = .ok (.ireturn, 1) := by decide +kernel
theorem dX1_otherEnd_0 : decode cX1_otherEnd 0 = .ok (.aload_n 0, 1) := by decide +kernel
theorem dX1_otherEnd_1 : decode cX1_otherEnd 1 = .ok (.getfield 20, 3) := by decide +kernel
theorem dX1_otherEnd_4 : decode cX1_otherEnd 4 = .ok (.iload_n 1, 1) := by decide +kernel
theorem dX1_otherEnd_5 : decode cX1_otherEnd 5 = .ok (.bipush 7, 2) := by decide +kernel
theorem dX1_otherEnd_7 : decode cX1_otherEnd 7 = .ok (.invokevirtual 66, 3) := by decide +kernel
theorem dX1_otherEnd_10 : decode cX1_otherEnd 10 = .ok (.istore_n 3, 1) := by decide +kernel
theorem dX1_otherEnd_11 : decode cX1_otherEnd 11 = .ok (.iload_n 3, 1) := by decide +kernel
theorem dX1_otherEnd_12 : decode cX1_otherEnd 12 = .ok (.iload_n 2, 1) := by decide +kernel
theorem dX1_otherEnd_13 : decode cX1_otherEnd 13 = .ok (.if_icmp .ne 16, 3) := by decide +kernel
theorem dX1_otherEnd_16 : decode cX1_otherEnd 16 = .ok (.aload_n 0, 1) := by decide +kernel
theorem dX1_otherEnd_17 : decode cX1_otherEnd 17 = .ok (.getfield 20, 3) := by decide +kernel
theorem dX1_otherEnd_20 : decode cX1_otherEnd 20 = .ok (.iload_n 1, 1) := by decide +kernel
theorem dX1_otherEnd_21 : decode cX1_otherEnd 21 = .ok (.bipush 8, 2) := by decide +kernel
theorem dX1_otherEnd_23 : decode cX1_otherEnd 23 = .ok (.invokevirtual 66, 3) := by decide +kernel
theorem dX1_otherEnd_26 : decode cX1_otherEnd 26 = .ok (.goto 4, 3) := by decide +kernel
theorem dX1_otherEnd_29 : decode cX1_otherEnd 29 = .ok (.iload_n 3, 1) := by decide +kernel
theorem dX1_otherEnd_30 : decode cX1_otherEnd 30 = .ok (.ireturn, 1) := by decide +kernel
theorem dX1_reaches_0 : decode cX1_reaches 0 = .ok (.iload_n 2, 1) := by decide +kernel
theorem dX1_reaches_1 : decode cX1_reaches 1 = .ok (.ifCond .lt 26, 3) := by decide +kernel
theorem dX1_reaches_4 : decode cX1_reaches 4 = .ok (.iload_n 3, 1) := by decide +kernel
theorem dX1_reaches_5 : decode cX1_reaches 5 = .ok (.ifCond .lt 22, 3) := by decide +kernel
theorem dX1_reaches_8 : decode cX1_reaches 8 = .ok (.iload_n 2, 1) := by decide +kernel
theorem dX1_reaches_9 : decode cX1_reaches 9 = .ok (.aload_n 0, 1) := by decide +kernel
theorem dX1_reaches_10 : decode cX1_reaches 10 = .ok (.getfield 24, 3) := by decide +kernel
theorem dX1_reaches_13 : decode cX1_reaches 13 = .ok (.iload_n 1, 1) := by decide +kernel
theorem dX1_reaches_14 : decode cX1_reaches 14 = .ok (.iconst 2, 1) := by decide +kernel
theorem dX1_reaches_15 : decode cX1_reaches 15 = .ok (.invokevirtual 66, 3) := by decide +kernel
theorem dX1_reaches_18 : decode cX1_reaches 18 = .ok (.iload_n 3, 1) := by decide +kernel
theorem dX1_reaches_19 : decode cX1_reaches 19 = .ok (.isub, 1) := by decide +kernel
theorem dX1_reaches_20 : decode cX1_reaches 20 = .ok (.if_icmp .gt 7, 3) := by decide +kernel
theorem dX1_reaches_23 : decode cX1_reaches 23 = .ok (.iconst 1, 1) := by decide +kernel
theorem dX1_reaches_24 : decode cX1_reaches 24 = .ok (.goto 4, 3) := by decide +kernel
theorem dX1_reaches_27 : decode cX1_reaches 27 = .ok (.iconst 0, 1) := by decide +kernel
theorem dX1_reaches_28 : decode cX1_reaches 28 = .ok (.ireturn, 1) := by decide +kernel
theorem dX1_sendOut_0 : decode cX1_sendOut 0 = .ok (.aload_n 0, 1) := by decide +kernel
theorem dX1_sendOut_1 : decode cX1_sendOut 1 = .ok (.iload_n 1, 1) := by decide +kernel
theorem dX1_sendOut_2 : decode cX1_sendOut 2 = .ok (.invokevirtual 126, 3) := by decide +kernel
theorem dX1_sendOut_5 : decode cX1_sendOut 5 = .ok (.aload_n 0, 1) := by decide +kernel
theorem dX1_sendOut_6 : decode cX1_sendOut 6 = .ok (.getfield 27, 3) := by decide +kernel
theorem dX1_sendOut_9 : decode cX1_sendOut 9 = .ok (.iload_n 1, 1) := by decide +kernel
theorem dX1_sendOut_10 : decode cX1_sendOut 10 = .ok (.bipush 6, 2) := by decide +kernel
theorem dX1_sendOut_12 : decode cX1_sendOut 12 = .ok (.iconst (-1), 1) := by decide +kernel
theorem dX1_sendOut_13 : decode cX1_sendOut 13 = .ok (.invokevirtual 79, 3) := by decide +kernel
theorem dX1_sendOut_16 : decode cX1_sendOut 16 = .ok (.return_, 1) := by decide +kernel
theorem dX1_setCell_0 : decode cX1_setCell 0 = .ok (.aload_n 0, 1) := by decide +kernel
theorem dX1_setCell_1 : decode cX1_setCell 1 = .ok (.iload_n 1, 1) := by decide +kernel
theorem dX1_setCell_2 : decode cX1_setCell 2 = .ok (.iload_n 2, 1) := by decide +kernel
theorem dX1_setCell_3 : decode cX1_setCell 3 = .ok (.invokevirtual 109, 3) := by decide +kernel
theorem dX1_setCell_6 : decode cX1_setCell 6 = .ok (.istore 5, 2) := by decide +kernel
theorem dX1_setCell_8 : decode cX1_setCell 8 = .ok (.iload 5, 2) := by decide +kernel
theorem dX1_setCell_10 : decode cX1_setCell 10 = .ok (.ifCond .lt 11, 3) := by decide +kernel
theorem dX1_setCell_13 : decode cX1_setCell 13 = .ok (.aload_n 0, 1) := by decide +kernel
theorem dX1_setCell_14 : decode cX1_setCell 14 = .ok (.getfield 40, 3) := by decide +kernel
theorem dX1_setCell_17 : decode cX1_setCell 17 = .ok (.iload 5, 2) := by decide +kernel
theorem dX1_setCell_19 : decode cX1_setCell 19 = .ok (.lload_n 3, 1) := by decide +kernel
theorem dX1_setCell_20 : decode cX1_setCell 20 = .ok (.lastore, 1) := by decide +kernel
theorem dX1_setCell_21 : decode cX1_setCell 21 = .ok (.return_, 1) := by decide +kernel
theorem dX1_sidesDue_0 : decode cX1_sidesDue 0 = .ok (.aload_n 0, 1) := by decide +kernel
theorem dX1_sidesDue_1 : decode cX1_sidesDue 1 = .ok (.getfield 20, 3) := by decide +kernel
theorem dX1_sidesDue_4 : decode cX1_sidesDue 4 = .ok (.iload_n 1, 1) := by decide +kernel
theorem dX1_sidesDue_5 : decode cX1_sidesDue 5 = .ok (.iconst 4, 1) := by decide +kernel
theorem dX1_sidesDue_6 : decode cX1_sidesDue 6 = .ok (.invokevirtual 66, 3) := by decide +kernel
theorem dX1_sidesDue_9 : decode cX1_sidesDue 9 = .ok (.ifCond .ne 15, 3) := by decide +kernel
theorem dX1_sidesDue_12 : decode cX1_sidesDue 12 = .ok (.aload_n 0, 1) := by decide +kernel
theorem dX1_sidesDue_13 : decode cX1_sidesDue 13 = .ok (.getfield 20, 3) := by decide +kernel
theorem dX1_sidesDue_16 : decode cX1_sidesDue 16 = .ok (.iload_n 1, 1) := by decide +kernel
theorem dX1_sidesDue_17 : decode cX1_sidesDue 17 = .ok (.iconst 3, 1) := by decide +kernel
theorem dX1_sidesDue_18 : decode cX1_sidesDue 18 = .ok (.invokevirtual 66, 3) := by decide +kernel
theorem dX1_sidesDue_21 : decode cX1_sidesDue 21 = .ok (.goto 4, 3) := by decide +kernel
theorem dX1_sidesDue_24 : decode cX1_sidesDue 24 = .ok (.iconst 0, 1) := by decide +kernel
theorem dX1_sidesDue_25 : decode cX1_sidesDue 25 = .ok (.ireturn, 1) := by decide +kernel
theorem dX1_tenths_0 : decode cX1_tenths 0 = .ok (.aload_n 0, 1) := by decide +kernel
theorem dX1_tenths_1 : decode cX1_tenths 1 = .ok (.iload_n 1, 1) := by decide +kernel
theorem dX1_tenths_2 : decode cX1_tenths 2 = .ok (.iload_n 2, 1) := by decide +kernel
theorem dX1_tenths_3 : decode cX1_tenths 3 = .ok (.invokevirtual 118, 3) := by decide +kernel
theorem dX1_tenths_6 : decode cX1_tenths 6 = .ok (.fstore_n 3, 1) := by decide +kernel
theorem dX1_tenths_7 : decode cX1_tenths 7 = .ok (.fload_n 3, 1) := by decide +kernel
theorem dX1_tenths_8 : decode cX1_tenths 8 = .ok (.fconst 0, 1) := by decide +kernel
theorem dX1_tenths_9 : decode cX1_tenths 9 = .ok (.fcmp .g, 1) := by decide +kernel
theorem dX1_tenths_10 : decode cX1_tenths 10 = .ok (.ifCond .ge 7, 3) := by decide +kernel
theorem dX1_tenths_13 : decode cX1_tenths 13 = .ok (.iconst (-1), 1) := by decide +kernel
theorem dX1_tenths_14 : decode cX1_tenths 14 = .ok (.goto 13, 3) := by decide +kernel
theorem dX1_tenths_17 : decode cX1_tenths 17 = .ok (.ldc 122, 2) := by decide +kernel
theorem dX1_tenths_19 : decode cX1_tenths 19 = .ok (.fload_n 3, 1) := by decide +kernel
theorem dX1_tenths_20 : decode cX1_tenths 20 = .ok (.ldc 116, 2) := by decide +kernel
theorem dX1_tenths_22 : decode cX1_tenths 22 = .ok (.fmul, 1) := by decide +kernel
theorem dX1_tenths_23 : decode cX1_tenths 23 = .ok (.f2i, 1) := by decide +kernel
theorem dX1_tenths_24 : decode cX1_tenths 24 = .ok (.invokestatic 123, 3) := by decide +kernel
theorem dX1_tenths_27 : decode cX1_tenths 27 = .ok (.ireturn, 1) := by decide +kernel
theorem dX1_whoEndsAt_0 : decode cX1_whoEndsAt 0 = .ok (.iconst 0, 1) := by decide +kernel
theorem dX1_whoEndsAt_1 : decode cX1_whoEndsAt 1 = .ok (.istore_n 2, 1) := by decide +kernel
theorem dX1_whoEndsAt_2 : decode cX1_whoEndsAt 2 = .ok (.iload_n 2, 1) := by decide +kernel
theorem dX1_whoEndsAt_3 : decode cX1_whoEndsAt 3 = .ok (.aload_n 0, 1) := by decide +kernel
theorem dX1_whoEndsAt_4 : decode cX1_whoEndsAt 4 = .ok (.getfield 27, 3) := by decide +kernel
theorem dX1_whoEndsAt_7 : decode cX1_whoEndsAt 7 = .ok (.getfield 63, 3) := by decide +kernel
theorem dX1_whoEndsAt_10 : decode cX1_whoEndsAt 10 = .ok (.if_icmp .ge 42, 3) := by decide +kernel
theorem dX1_whoEndsAt_13 : decode cX1_whoEndsAt 13 = .ok (.aload_n 0, 1) := by decide +kernel
theorem dX1_whoEndsAt_14 : decode cX1_whoEndsAt 14 = .ok (.getfield 27, 3) := by decide +kernel
theorem dX1_whoEndsAt_17 : decode cX1_whoEndsAt 17 = .ok (.iload_n 2, 1) := by decide +kernel
theorem dX1_whoEndsAt_18 : decode cX1_whoEndsAt 18 = .ok (.iconst 1, 1) := by decide +kernel
theorem dX1_whoEndsAt_19 : decode cX1_whoEndsAt 19 = .ok (.invokevirtual 66, 3) := by decide +kernel
theorem dX1_whoEndsAt_22 : decode cX1_whoEndsAt 22 = .ok (.istore_n 3, 1) := by decide +kernel
theorem dX1_whoEndsAt_23 : decode cX1_whoEndsAt 23 = .ok (.iload_n 3, 1) := by decide +kernel
theorem dX1_whoEndsAt_24 : decode cX1_whoEndsAt 24 = .ok (.ifCond .le 22, 3) := by decide +kernel
theorem dX1_whoEndsAt_27 : decode cX1_whoEndsAt 27 = .ok (.aload_n 0, 1) := by decide +kernel
theorem dX1_whoEndsAt_28 : decode cX1_whoEndsAt 28 = .ok (.getfield 27, 3) := by decide +kernel
theorem dX1_whoEndsAt_31 : decode cX1_whoEndsAt 31 = .ok (.iload_n 2, 1) := by decide +kernel
theorem dX1_whoEndsAt_32 : decode cX1_whoEndsAt 32 = .ok (.iconst 0, 1) := by decide +kernel
theorem dX1_whoEndsAt_33 : decode cX1_whoEndsAt 33 = .ok (.invokevirtual 66, 3) := by decide +kernel
theorem dX1_whoEndsAt_36 : decode cX1_whoEndsAt 36 = .ok (.iload_n 3, 1) := by decide +kernel
theorem dX1_whoEndsAt_37 : decode cX1_whoEndsAt 37 = .ok (.iadd, 1) := by decide +kernel
theorem dX1_whoEndsAt_38 : decode cX1_whoEndsAt 38 = .ok (.iconst 1, 1) := by decide +kernel
theorem dX1_whoEndsAt_39 : decode cX1_whoEndsAt 39 = .ok (.isub, 1) := by decide +kernel
theorem dX1_whoEndsAt_40 : decode cX1_whoEndsAt 40 = .ok (.iload_n 1, 1) := by decide +kernel
theorem dX1_whoEndsAt_41 : decode cX1_whoEndsAt 41 = .ok (.if_icmp .ne 5, 3) := by decide +kernel
theorem dX1_whoEndsAt_44 : decode cX1_whoEndsAt 44 = .ok (.iload_n 2, 1) := by decide +kernel
theorem dX1_whoEndsAt_45 : decode cX1_whoEndsAt 45 = .ok (.ireturn, 1) := by decide +kernel
theorem dX1_whoEndsAt_46 : decode cX1_whoEndsAt 46 = .ok (.iinc 2 1, 3) := by decide +kernel
theorem dX1_whoEndsAt_49 : decode cX1_whoEndsAt 49 = .ok (.goto (-47), 3) := by decide +kernel
theorem dX1_whoEndsAt_52 : decode cX1_whoEndsAt 52 = .ok (.iconst (-1), 1) := by decide +kernel
theorem dX1_whoEndsAt_53 : decode cX1_whoEndsAt 53 = .ok (.ireturn, 1) := by decide +kernel
theorem dX1_whyUncopied_0 : decode cX1_whyUncopied 0 = .ok (.aload_n 0, 1) := by decide +kernel
theorem dX1_whyUncopied_1 : decode cX1_whyUncopied 1 = .ok (.iload_n 1, 1) := by decide +kernel
theorem dX1_whyUncopied_2 : decode cX1_whyUncopied 2 = .ok (.invokevirtual 98, 3) := by decide +kernel
theorem dX1_whyUncopied_5 : decode cX1_whyUncopied 5 = .ok (.ifCond .ne 11, 3) := by decide +kernel
theorem dX1_whyUncopied_8 : decode cX1_whyUncopied 8 = .ok (.aload_n 0, 1) := by decide +kernel
theorem dX1_whyUncopied_9 : decode cX1_whyUncopied 9 = .ok (.iload_n 3, 1) := by decide +kernel
theorem dX1_whyUncopied_10 : decode cX1_whyUncopied 10 = .ok (.invokevirtual 98, 3) := by decide +kernel
theorem dX1_whyUncopied_13 : decode cX1_whyUncopied 13 = .ok (.ifCond .eq 6, 3) := by decide +kernel
theorem dX1_whyUncopied_16 : decode cX1_whyUncopied 16 = .ok (.bipush (-4), 2) := by decide +kernel
theorem dX1_whyUncopied_18 : decode cX1_whyUncopied 18 = .ok (.ireturn, 1) := by decide +kernel
theorem dX1_whyUncopied_19 : decode cX1_whyUncopied 19 = .ok (.aload_n 0, 1) := by decide +kernel
theorem dX1_whyUncopied_20 : decode cX1_whyUncopied 20 = .ok (.iload_n 1, 1) := by decide +kernel
theorem dX1_whyUncopied_21 : decode cX1_whyUncopied 21 = .ok (.iload_n 2, 1) := by decide +kernel
theorem dX1_whyUncopied_22 : decode cX1_whyUncopied 22 = .ok (.iload 5, 2) := by decide +kernel
theorem dX1_whyUncopied_24 : decode cX1_whyUncopied 24 = .ok (.invokevirtual 102, 3) := by decide +kernel
theorem dX1_whyUncopied_27 : decode cX1_whyUncopied 27 = .ok (.ifCond .eq 19, 3) := by decide +kernel
theorem dX1_whyUncopied_30 : decode cX1_whyUncopied 30 = .ok (.aload_n 0, 1) := by decide +kernel
theorem dX1_whyUncopied_31 : decode cX1_whyUncopied 31 = .ok (.iload_n 3, 1) := by decide +kernel
theorem dX1_whyUncopied_32 : decode cX1_whyUncopied 32 = .ok (.iload 4, 2) := by decide +kernel
theorem dX1_whyUncopied_34 : decode cX1_whyUncopied 34 = .ok (.iload 5, 2) := by decide +kernel
theorem dX1_whyUncopied_36 : decode cX1_whyUncopied 36 = .ok (.invokevirtual 102, 3) := by decide +kernel
theorem dX1_whyUncopied_39 : decode cX1_whyUncopied 39 = .ok (.ifCond .eq 7, 3) := by decide +kernel
theorem dX1_whyUncopied_42 : decode cX1_whyUncopied 42 = .ok (.iconst 0, 1) := by decide +kernel
theorem dX1_whyUncopied_43 : decode cX1_whyUncopied 43 = .ok (.goto 5, 3) := by decide +kernel
theorem dX1_whyUncopied_46 : decode cX1_whyUncopied 46 = .ok (.bipush (-5), 2) := by decide +kernel
theorem dX1_whyUncopied_48 : decode cX1_whyUncopied 48 = .ok (.ireturn, 1) := by decide +kernel
theorem dX1_whyUnread_0 : decode cX1_whyUnread 0 = .ok (.aload_n 0, 1) := by decide +kernel
theorem dX1_whyUnread_1 : decode cX1_whyUnread 1 = .ok (.iload_n 1, 1) := by decide +kernel
theorem dX1_whyUnread_2 : decode cX1_whyUnread 2 = .ok (.invokevirtual 98, 3) := by decide +kernel
theorem dX1_whyUnread_5 : decode cX1_whyUnread 5 = .ok (.ifCond .eq 6, 3) := by decide +kernel
theorem dX1_whyUnread_8 : decode cX1_whyUnread 8 = .ok (.bipush (-4), 2) := by decide +kernel
theorem dX1_whyUnread_10 : decode cX1_whyUnread 10 = .ok (.ireturn, 1) := by decide +kernel
theorem dX1_whyUnread_11 : decode cX1_whyUnread 11 = .ok (.iload_n 2, 1) := by decide +kernel
theorem dX1_whyUnread_12 : decode cX1_whyUnread 12 = .ok (.ifCond .lt 16, 3) := by decide +kernel
theorem dX1_whyUnread_15 : decode cX1_whyUnread 15 = .ok (.iload_n 2, 1) := by decide +kernel
theorem dX1_whyUnread_16 : decode cX1_whyUnread 16 = .ok (.aload_n 0, 1) := by decide +kernel
theorem dX1_whyUnread_17 : decode cX1_whyUnread 17 = .ok (.getfield 24, 3) := by decide +kernel
theorem dX1_whyUnread_20 : decode cX1_whyUnread 20 = .ok (.iload_n 1, 1) := by decide +kernel
theorem dX1_whyUnread_21 : decode cX1_whyUnread 21 = .ok (.iconst 2, 1) := by decide +kernel
theorem dX1_whyUnread_22 : decode cX1_whyUnread 22 = .ok (.invokevirtual 66, 3) := by decide +kernel
theorem dX1_whyUnread_25 : decode cX1_whyUnread 25 = .ok (.if_icmp .lt 8, 3) := by decide +kernel
theorem dX1_whyUnread_28 : decode cX1_whyUnread 28 = .ok (.bipush (-5), 2) := by decide +kernel
theorem dX1_whyUnread_30 : decode cX1_whyUnread 30 = .ok (.goto 4, 3) := by decide +kernel
theorem dX1_whyUnread_33 : decode cX1_whyUnread 33 = .ok (.iconst 0, 1) := by decide +kernel
theorem dX1_whyUnread_34 : decode cX1_whyUnread 34 = .ok (.ireturn, 1) := by decide +kernel
theorem dX1_widenCells_0 : decode cX1_widenCells 0 = .ok (.aload_n 0, 1) := by decide +kernel
theorem dX1_widenCells_1 : decode cX1_widenCells 1 = .ok (.getfield 24, 3) := by decide +kernel
theorem dX1_widenCells_4 : decode cX1_widenCells 4 = .ok (.getfield 63, 3) := by decide +kernel
theorem dX1_widenCells_7 : decode cX1_widenCells 7 = .ok (.sipush 200, 3) := by decide +kernel
theorem dX1_widenCells_10 : decode cX1_widenCells 10 = .ok (.imul, 1) := by decide +kernel
theorem dX1_widenCells_11 : decode cX1_widenCells 11 = .ok (.istore_n 1, 1) := by decide +kernel
theorem dX1_widenCells_12 : decode cX1_widenCells 12 = .ok (.iload_n 1, 1) := by decide +kernel
theorem dX1_widenCells_13 : decode cX1_widenCells 13 = .ok (.aload_n 0, 1) := by decide +kernel
theorem dX1_widenCells_14 : decode cX1_widenCells 14 = .ok (.getfield 40, 3) := by decide +kernel
theorem dX1_widenCells_17 : decode cX1_widenCells 17 = .ok (.arraylength, 1) := by decide +kernel
theorem dX1_widenCells_18 : decode cX1_widenCells 18 = .ok (.if_icmp .le 25, 3) := by decide +kernel
theorem dX1_widenCells_21 : decode cX1_widenCells 21 = .ok (.aload_n 0, 1) := by decide +kernel
theorem dX1_widenCells_22 : decode cX1_widenCells 22 = .ok (.aload_n 0, 1) := by decide +kernel
theorem dX1_widenCells_23 : decode cX1_widenCells 23 = .ok (.getfield 40, 3) := by decide +kernel
theorem dX1_widenCells_26 : decode cX1_widenCells 26 = .ok (.iload_n 1, 1) := by decide +kernel
theorem dX1_widenCells_27 : decode cX1_widenCells 27 = .ok (.iconst 2, 1) := by decide +kernel
theorem dX1_widenCells_28 : decode cX1_widenCells 28 = .ok (.aload_n 0, 1) := by decide +kernel
theorem dX1_widenCells_29 : decode cX1_widenCells 29 = .ok (.getfield 40, 3) := by decide +kernel
theorem dX1_widenCells_32 : decode cX1_widenCells 32 = .ok (.arraylength, 1) := by decide +kernel
theorem dX1_widenCells_33 : decode cX1_widenCells 33 = .ok (.imul, 1) := by decide +kernel
theorem dX1_widenCells_34 : decode cX1_widenCells 34 = .ok (.invokestatic 70, 3) := by decide +kernel
theorem dX1_widenCells_37 : decode cX1_widenCells 37 = .ok (.invokestatic 75, 3) := by decide +kernel
theorem dX1_widenCells_40 : decode cX1_widenCells 40 = .ok (.putfield 40, 3) := by decide +kernel
theorem dX1_widenCells_43 : decode cX1_widenCells 43 = .ok (.return_, 1) := by decide +kernel
theorem dX2_find_0 : decode cX2_find 0 = .ok (.iload_n 1, 1) := by decide +kernel
theorem dX2_find_1 : decode cX2_find 1 = .ok (.bipush (-9), 2) := by decide +kernel
theorem dX2_find_3 : decode cX2_find 3 = .ok (.if_icmp .ne 16, 3) := by decide +kernel
theorem dX2_find_6 : decode cX2_find 6 = .ok (.aload_n 0, 1) := by decide +kernel
theorem dX2_find_7 : decode cX2_find 7 = .ok (.getfield 9, 3) := by decide +kernel
theorem dX2_find_10 : decode cX2_find 10 = .ok (.iconst 4, 1) := by decide +kernel
theorem dX2_find_11 : decode cX2_find 11 = .ok (.dup2, 1) := by decide +kernel
theorem dX2_find_12 : decode cX2_find 12 = .ok (.iaload, 1) := by decide +kernel
theorem dX2_find_13 : decode cX2_find 13 = .ok (.iconst 1, 1) := by decide +kernel
theorem dX2_find_14 : decode cX2_find 14 = .ok (.iadd, 1) := by decide +kernel
theorem dX2_find_15 : decode cX2_find 15 = .ok (.iastore, 1) := by decide +kernel
theorem dX2_find_16 : decode cX2_find 16 = .ok (.goto 28, 3) := by decide +kernel
theorem dX2_find_19 : decode cX2_find 19 = .ok (.iload_n 1, 1) := by decide +kernel
theorem dX2_find_20 : decode cX2_find 20 = .ok (.bipush (-4), 2) := by decide +kernel
theorem dX2_find_22 : decode cX2_find 22 = .ok (.if_icmp .gt 22, 3) := by decide +kernel
theorem dX2_find_25 : decode cX2_find 25 = .ok (.iload_n 1, 1) := by decide +kernel
theorem dX2_find_26 : decode cX2_find 26 = .ok (.bipush (-7), 2) := by decide +kernel
theorem dX2_find_28 : decode cX2_find 28 = .ok (.if_icmp .lt 16, 3) := by decide +kernel
theorem dX2_find_31 : decode cX2_find 31 = .ok (.aload_n 0, 1) := by decide +kernel
theorem dX2_find_32 : decode cX2_find 32 = .ok (.getfield 9, 3) := by decide +kernel
theorem dX2_find_35 : decode cX2_find 35 = .ok (.bipush (-4), 2) := by decide +kernel
theorem dX2_find_37 : decode cX2_find 37 = .ok (.iload_n 1, 1) := by decide +kernel
theorem dX2_find_38 : decode cX2_find 38 = .ok (.isub, 1) := by decide +kernel
theorem dX2_find_39 : decode cX2_find 39 = .ok (.dup2, 1) := by decide +kernel
theorem dX2_find_40 : decode cX2_find 40 = .ok (.iaload, 1) := by decide +kernel
theorem dX2_find_41 : decode cX2_find 41 = .ok (.iconst 1, 1) := by decide +kernel
theorem dX2_find_42 : decode cX2_find 42 = .ok (.iadd, 1) := by decide +kernel
theorem dX2_find_43 : decode cX2_find 43 = .ok (.iastore, 1) := by decide +kernel
theorem dX2_find_44 : decode cX2_find 44 = .ok (.return_, 1) := by decide +kernel
theorem dX2_init_0 : decode cX2_init 0 = .ok (.aload_n 0, 1) := by decide +kernel
theorem dX2_init_1 : decode cX2_init 1 = .ok (.invokespecial 3, 3) := by decide +kernel
theorem dX2_init_4 : decode cX2_init 4 = .ok (.aload_n 0, 1) := by decide +kernel
theorem dX2_init_5 : decode cX2_init 5 = .ok (.iconst 5, 1) := by decide +kernel
theorem dX2_init_6 : decode cX2_init 6 = .ok (.newarray .int, 2) := by decide +kernel
theorem dX2_init_8 : decode cX2_init 8 = .ok (.putfield 9, 3) := by decide +kernel
theorem dX2_init_11 : decode cX2_init 11 = .ok (.aload_n 0, 1) := by decide +kernel
theorem dX2_init_12 : decode cX2_init 12 = .ok (.iconst 0, 1) := by decide +kernel
theorem dX2_init_13 : decode cX2_init 13 = .ok (.putfield 15, 3) := by decide +kernel
theorem dX2_init_16 : decode cX2_init 16 = .ok (.aload_n 0, 1) := by decide +kernel
theorem dX2_init_17 : decode cX2_init 17 = .ok (.iconst 0, 1) := by decide +kernel
theorem dX2_init_18 : decode cX2_init 18 = .ok (.putfield 19, 3) := by decide +kernel
theorem dX2_init_21 : decode cX2_init 21 = .ok (.aload_n 0, 1) := by decide +kernel
theorem dX2_init_22 : decode cX2_init 22 = .ok (.iconst 0, 1) := by decide +kernel
theorem dX2_init_23 : decode cX2_init 23 = .ok (.putfield 22, 3) := by decide +kernel
theorem dX2_init_26 : decode cX2_init 26 = .ok (.return_, 1) := by decide +kernel
theorem dX3_init_0 : decode cX3_init 0 = .ok (.aload_n 0, 1) := by decide +kernel
theorem dX3_init_1 : decode cX3_init 1 = .ok (.aload_n 1, 1) := by decide +kernel
theorem dX3_init_2 : decode cX3_init 2 = .ok (.aload_n 2, 1) := by decide +kernel
theorem dX3_init_3 : decode cX3_init 3 = .ok (.getfield 1, 3) := by decide +kernel
theorem dX3_init_6 : decode cX3_init 6 = .ok (.aload_n 3, 1) := by decide +kernel
theorem dX3_init_7 : decode cX3_init 7 = .ok (.getfield 1, 3) := by decide +kernel
theorem dX3_init_10 : decode cX3_init 10 = .ok (.invokestatic 7, 3) := by decide +kernel
theorem dX3_init_13 : decode cX3_init 13 = .ok (.aload_n 2, 1) := by decide +kernel
theorem dX3_init_14 : decode cX3_init 14 = .ok (.getfield 13, 3) := by decide +kernel
theorem dX3_init_17 : decode cX3_init 17 = .ok (.aload_n 3, 1) := by decide +kernel
theorem dX3_init_18 : decode cX3_init 18 = .ok (.getfield 13, 3) := by decide +kernel
theorem dX3_init_21 : decode cX3_init 21 = .ok (.iadd, 1) := by decide +kernel
theorem dX3_init_22 : decode cX3_init 22 = .ok (.invokespecial 16, 3) := by decide +kernel
theorem dX3_init_25 : decode cX3_init 25 = .ok (.aload_n 0, 1) := by decide +kernel
theorem dX3_init_26 : decode cX3_init 26 = .ok (.aload_n 2, 1) := by decide +kernel
theorem dX3_init_27 : decode cX3_init 27 = .ok (.putfield 20, 3) := by decide +kernel
theorem dX3_init_30 : decode cX3_init 30 = .ok (.aload_n 0, 1) := by decide +kernel
theorem dX3_init_31 : decode cX3_init 31 = .ok (.aload_n 3, 1) := by decide +kernel
theorem dX3_init_32 : decode cX3_init 32 = .ok (.putfield 26, 3) := by decide +kernel
theorem dX3_init_35 : decode cX3_init 35 = .ok (.return_, 1) := by decide +kernel
theorem dX3_passes_0 : decode cX3_passes 0 = .ok (.aload_n 0, 1) := by decide +kernel
theorem dX3_passes_1 : decode cX3_passes 1 = .ok (.getfield 29, 3) := by decide +kernel
theorem dX3_passes_4 : decode cX3_passes 4 = .ok (.dup, 1) := by decide +kernel
theorem dX3_passes_5 : decode cX3_passes 5 = .ok (.getfield 33, 3) := by decide +kernel
theorem dX3_passes_8 : decode cX3_passes 8 = .ok (.sipush 10000, 3) := by decide +kernel
theorem dX3_passes_11 : decode cX3_passes 11 = .ok (.iadd, 1) := by decide +kernel
theorem dX3_passes_12 : decode cX3_passes 12 = .ok (.putfield 33, 3) := by decide +kernel
theorem dX3_passes_15 : decode cX3_passes 15 = .ok (.aload_n 0, 1) := by decide +kernel
theorem dX3_passes_16 : decode cX3_passes 16 = .ok (.iload_n 1, 1) := by decide +kernel
theorem dX3_passes_17 : decode cX3_passes 17 = .ok (.iconst 2, 1) := by decide +kernel
theorem dX3_passes_18 : decode cX3_passes 18 = .ok (.invokevirtual 45, 3) := by decide +kernel
theorem dX3_passes_21 : decode cX3_passes 21 = .ok (.ireturn, 1) := by decide +kernel
theorem dX3_takes_0 : decode cX3_takes 0 = .ok (.aload_n 0, 1) := by decide +kernel
theorem dX3_takes_1 : decode cX3_takes 1 = .ok (.getfield 29, 3) := by decide +kernel
theorem dX3_takes_4 : decode cX3_takes 4 = .ok (.dup, 1) := by decide +kernel
theorem dX3_takes_5 : decode cX3_takes 5 = .ok (.getfield 33, 3) := by decide +kernel
theorem dX3_takes_8 : decode cX3_takes 8 = .ok (.iconst 5, 1) := by decide +kernel
theorem dX3_takes_9 : decode cX3_takes 9 = .ok (.iadd, 1) := by decide +kernel
theorem dX3_takes_10 : decode cX3_takes 10 = .ok (.putfield 33, 3) := by decide +kernel
theorem dX3_takes_13 : decode cX3_takes 13 = .ok (.aload_n 0, 1) := by decide +kernel
theorem dX3_takes_14 : decode cX3_takes 14 = .ok (.getfield 20, 3) := by decide +kernel
theorem dX3_takes_17 : decode cX3_takes 17 = .ok (.iload_n 1, 1) := by decide +kernel
theorem dX3_takes_18 : decode cX3_takes 18 = .ok (.invokevirtual 38, 3) := by decide +kernel
theorem dX3_takes_21 : decode cX3_takes 21 = .ok (.istore_n 2, 1) := by decide +kernel
theorem dX3_takes_22 : decode cX3_takes 22 = .ok (.iload_n 2, 1) := by decide +kernel
theorem dX3_takes_23 : decode cX3_takes 23 = .ok (.aload_n 0, 1) := by decide +kernel
theorem dX3_takes_24 : decode cX3_takes 24 = .ok (.getfield 26, 3) := by decide +kernel
theorem dX3_takes_27 : decode cX3_takes 27 = .ok (.iload_n 1, 1) := by decide +kernel
theorem dX3_takes_28 : decode cX3_takes 28 = .ok (.invokevirtual 38, 3) := by decide +kernel
theorem dX3_takes_31 : decode cX3_takes 31 = .ok (.invokestatic 42, 3) := by decide +kernel
theorem dX3_takes_34 : decode cX3_takes 34 = .ok (.ireturn, 1) := by decide +kernel
theorem dX4_addPair_0 : decode cX4_addPair 0 = .ok (.aload_n 0, 1) := by decide +kernel
theorem dX4_addPair_1 : decode cX4_addPair 1 = .ok (.getfield 40, 3) := by decide +kernel
theorem dX4_addPair_4 : decode cX4_addPair 4 = .ok (.bipush 30, 2) := by decide +kernel
theorem dX4_addPair_6 : decode cX4_addPair 6 = .ok (.if_icmp .ge 33, 3) := by decide +kernel
theorem dX4_addPair_9 : decode cX4_addPair 9 = .ok (.aload_n 0, 1) := by decide +kernel
theorem dX4_addPair_10 : decode cX4_addPair 10 = .ok (.getfield 34, 3) := by decide +kernel
theorem dX4_addPair_13 : decode cX4_addPair 13 = .ok (.aload_n 0, 1) := by decide +kernel
theorem dX4_addPair_14 : decode cX4_addPair 14 = .ok (.getfield 40, 3) := by decide +kernel
theorem dX4_addPair_17 : decode cX4_addPair 17 = .ok (.iload_n 1, 1) := by decide +kernel
theorem dX4_addPair_18 : decode cX4_addPair 18 = .ok (.iastore, 1) := by decide +kernel
theorem dX4_addPair_19 : decode cX4_addPair 19 = .ok (.aload_n 0, 1) := by decide +kernel
theorem dX4_addPair_20 : decode cX4_addPair 20 = .ok (.getfield 37, 3) := by decide +kernel
theorem dX4_addPair_23 : decode cX4_addPair 23 = .ok (.aload_n 0, 1) := by decide +kernel
theorem dX4_addPair_24 : decode cX4_addPair 24 = .ok (.getfield 40, 3) := by decide +kernel
theorem dX4_addPair_27 : decode cX4_addPair 27 = .ok (.iload_n 2, 1) := by decide +kernel
theorem dX4_addPair_28 : decode cX4_addPair 28 = .ok (.iastore, 1) := by decide +kernel
theorem dX4_addPair_29 : decode cX4_addPair 29 = .ok (.aload_n 0, 1) := by decide +kernel
theorem dX4_addPair_30 : decode cX4_addPair 30 = .ok (.dup, 1) := by decide +kernel
theorem dX4_addPair_31 : decode cX4_addPair 31 = .ok (.getfield 40, 3) := by decide +kernel
theorem dX4_addPair_34 : decode cX4_addPair 34 = .ok (.iconst 1, 1) := by decide +kernel
theorem dX4_addPair_35 : decode cX4_addPair 35 = .ok (.iadd, 1) := by decide +kernel
theorem dX4_addPair_36 : decode cX4_addPair 36 = .ok (.putfield 40, 3) := by decide +kernel
theorem dX4_addPair_39 : decode cX4_addPair 39 = .ok (.return_, 1) := by decide +kernel
theorem dX4_exchange_0 : decode cX4_exchange 0 = .ok (.aload_n 0, 1) := by decide +kernel
theorem dX4_exchange_1 : decode cX4_exchange 1 = .ok (.getfield 34, 3) := by decide +kernel
theorem dX4_exchange_4 : decode cX4_exchange 4 = .ok (.iload_n 1, 1) := by decide +kernel
theorem dX4_exchange_5 : decode cX4_exchange 5 = .ok (.iaload, 1) := by decide +kernel
theorem dX4_exchange_6 : decode cX4_exchange 6 = .ok (.istore_n 3, 1) := by decide +kernel
theorem dX4_exchange_7 : decode cX4_exchange 7 = .ok (.aload_n 0, 1) := by decide +kernel
theorem dX4_exchange_8 : decode cX4_exchange 8 = .ok (.getfield 37, 3) := by decide +kernel
theorem dX4_exchange_11 : decode cX4_exchange 11 = .ok (.iload_n 1, 1) := by decide +kernel
theorem dX4_exchange_12 : decode cX4_exchange 12 = .ok (.iaload, 1) := by decide +kernel
theorem dX4_exchange_13 : decode cX4_exchange 13 = .ok (.istore 4, 2) := by decide +kernel
theorem dX4_exchange_15 : decode cX4_exchange 15 = .ok (.aload_n 0, 1) := by decide +kernel
theorem dX4_exchange_16 : decode cX4_exchange 16 = .ok (.getfield 34, 3) := by decide +kernel
theorem dX4_exchange_19 : decode cX4_exchange 19 = .ok (.iload_n 2, 1) := by decide +kernel
theorem dX4_exchange_20 : decode cX4_exchange 20 = .ok (.iaload, 1) := by decide +kernel
theorem dX4_exchange_21 : decode cX4_exchange 21 = .ok (.istore 5, 2) := by decide +kernel
theorem dX4_exchange_23 : decode cX4_exchange 23 = .ok (.aload_n 0, 1) := by decide +kernel
