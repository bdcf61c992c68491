theorem dX12_minutes_18 : decode cX12_minutes 18 = .ok (.getfield 7, 3) := by decide +kernel
theorem dX12_minutes_21 : decode cX12_minutes 21 = .ok (.sipush 9642, 3) := by decide +kernel
theorem dX12_minutes_24 : decode cX12_minutes 24 = .ok (.iconst 3, 1) := by decide +kernel
theorem dX12_minutes_25 : decode cX12_minutes 25 = .ok (.iload_n 2, 1) := by decide +kernel
theorem dX12_minutes_26 : decode cX12_minutes 26 = .ok (.imul, 1) := by decide +kernel
theorem dX12_minutes_27 : decode cX12_minutes 27 = .ok (.iadd, 1) := by decide +kernel
theorem dX12_minutes_28 : decode cX12_minutes 28 = .ok (.iconst 2, 1) := by decide +kernel
theorem dX12_minutes_29 : decode cX12_minutes 29 = .ok (.iadd, 1) := by decide +kernel
theorem dX12_minutes_30 : decode cX12_minutes 30 = .ok (.iaload, 1) := by decide +kernel
theorem dX12_minutes_31 : decode cX12_minutes 31 = .ok (.ifCond .ne 18, 3) := by decide +kernel
theorem dX12_minutes_34 : decode cX12_minutes 34 = .ok (.aload_n 0, 1) := by decide +kernel
theorem dX12_minutes_35 : decode cX12_minutes 35 = .ok (.iload_n 1, 1) := by decide +kernel
theorem dX12_minutes_36 : decode cX12_minutes 36 = .ok (.aload_n 0, 1) := by decide +kernel
theorem dX12_minutes_37 : decode cX12_minutes 37 = .ok (.getfield 7, 3) := by decide +kernel
theorem dX12_minutes_40 : decode cX12_minutes 40 = .ok (.iload_n 3, 1) := by decide +kernel
theorem dX12_minutes_41 : decode cX12_minutes 41 = .ok (.bipush 6, 2) := by decide +kernel
theorem dX12_minutes_43 : decode cX12_minutes 43 = .ok (.iadd, 1) := by decide +kernel
theorem dX12_minutes_44 : decode cX12_minutes 44 = .ok (.iaload, 1) := by decide +kernel
theorem dX12_minutes_45 : decode cX12_minutes 45 = .ok (.invokevirtual 233, 3) := by decide +kernel
theorem dX12_minutes_48 : decode cX12_minutes 48 = .ok (.ireturn, 1) := by decide +kernel
theorem dX12_minutes_49 : decode cX12_minutes 49 = .ok (.aload_n 0, 1) := by decide +kernel
theorem dX12_minutes_50 : decode cX12_minutes 50 = .ok (.iload_n 1, 1) := by decide +kernel
theorem dX12_minutes_51 : decode cX12_minutes 51 = .ok (.aload_n 0, 1) := by decide +kernel
theorem dX12_minutes_52 : decode cX12_minutes 52 = .ok (.getfield 7, 3) := by decide +kernel
theorem dX12_minutes_55 : decode cX12_minutes 55 = .ok (.iload_n 3, 1) := by decide +kernel
theorem dX12_minutes_56 : decode cX12_minutes 56 = .ok (.iconst 0, 1) := by decide +kernel
theorem dX12_minutes_57 : decode cX12_minutes 57 = .ok (.iadd, 1) := by decide +kernel
theorem dX12_minutes_58 : decode cX12_minutes 58 = .ok (.iaload, 1) := by decide +kernel
theorem dX12_minutes_59 : decode cX12_minutes 59 = .ok (.invokevirtual 236, 3) := by decide +kernel
theorem dX12_minutes_62 : decode cX12_minutes 62 = .ok (.istore 4, 2) := by decide +kernel
theorem dX12_minutes_64 : decode cX12_minutes 64 = .ok (.iload 4, 2) := by decide +kernel
theorem dX12_minutes_66 : decode cX12_minutes 66 = .ok (.ifCond .ne 7, 3) := by decide +kernel
theorem dX12_minutes_69 : decode cX12_minutes 69 = .ok (.iconst (-1), 1) := by decide +kernel
theorem dX12_minutes_70 : decode cX12_minutes 70 = .ok (.goto 20, 3) := by decide +kernel
theorem dX12_minutes_73 : decode cX12_minutes 73 = .ok (.iload 4, 2) := by decide +kernel
theorem dX12_minutes_75 : decode cX12_minutes 75 = .ok (.aload_n 0, 1) := by decide +kernel
theorem dX12_minutes_76 : decode cX12_minutes 76 = .ok (.iload_n 1, 1) := by decide +kernel
theorem dX12_minutes_77 : decode cX12_minutes 77 = .ok (.aload_n 0, 1) := by decide +kernel
theorem dX12_minutes_78 : decode cX12_minutes 78 = .ok (.getfield 7, 3) := by decide +kernel
theorem dX12_minutes_81 : decode cX12_minutes 81 = .ok (.iload_n 3, 1) := by decide +kernel
theorem dX12_minutes_82 : decode cX12_minutes 82 = .ok (.bipush 6, 2) := by decide +kernel
theorem dX12_minutes_84 : decode cX12_minutes 84 = .ok (.iadd, 1) := by decide +kernel
theorem dX12_minutes_85 : decode cX12_minutes 85 = .ok (.iaload, 1) := by decide +kernel
theorem dX12_minutes_86 : decode cX12_minutes 86 = .ok (.invokevirtual 233, 3) := by decide +kernel
theorem dX12_minutes_89 : decode cX12_minutes 89 = .ok (.imul, 1) := by decide +kernel
theorem dX12_minutes_90 : decode cX12_minutes 90 = .ok (.ireturn, 1) := by decide +kernel
theorem dX12_must_0 : decode cX12_must 0 = .ok (.aload_n 0, 1) := by decide +kernel
theorem dX12_must_1 : decode cX12_must 1 = .ok (.iload_n 1, 1) := by decide +kernel
theorem dX12_must_2 : decode cX12_must 2 = .ok (.invokevirtual 119, 3) := by decide +kernel
theorem dX12_must_5 : decode cX12_must 5 = .ok (.ifCond .eq 22, 3) := by decide +kernel
theorem dX12_must_8 : decode cX12_must 8 = .ok (.aload_n 0, 1) := by decide +kernel
theorem dX12_must_9 : decode cX12_must 9 = .ok (.getfield 7, 3) := by decide +kernel
theorem dX12_must_12 : decode cX12_must 12 = .ok (.aload_n 0, 1) := by decide +kernel
theorem dX12_must_13 : decode cX12_must 13 = .ok (.iload_n 1, 1) := by decide +kernel
theorem dX12_must_14 : decode cX12_must 14 = .ok (.invokevirtual 109, 3) := by decide +kernel
theorem dX12_must_17 : decode cX12_must 17 = .ok (.iconst 3, 1) := by decide +kernel
theorem dX12_must_18 : decode cX12_must 18 = .ok (.iadd, 1) := by decide +kernel
theorem dX12_must_19 : decode cX12_must 19 = .ok (.iaload, 1) := by decide +kernel
theorem dX12_must_20 : decode cX12_must 20 = .ok (.ifCond .le 7, 3) := by decide +kernel
theorem dX12_must_23 : decode cX12_must 23 = .ok (.iconst 1, 1) := by decide +kernel
theorem dX12_must_24 : decode cX12_must 24 = .ok (.goto 4, 3) := by decide +kernel
theorem dX12_must_27 : decode cX12_must 27 = .ok (.iconst 0, 1) := by decide +kernel
theorem dX12_must_28 : decode cX12_must 28 = .ok (.ireturn, 1) := by decide +kernel
theorem dX12_near_0 : decode cX12_near 0 = .ok (.aload_n 0, 1) := by decide +kernel
theorem dX12_near_1 : decode cX12_near 1 = .ok (.getfield 7, 3) := by decide +kernel
theorem dX12_near_4 : decode cX12_near 4 = .ok (.aload_n 0, 1) := by decide +kernel
theorem dX12_near_5 : decode cX12_near 5 = .ok (.iload_n 2, 1) := by decide +kernel
theorem dX12_near_6 : decode cX12_near 6 = .ok (.invokevirtual 109, 3) := by decide +kernel
theorem dX12_near_9 : decode cX12_near 9 = .ok (.bipush 7, 2) := by decide +kernel
theorem dX12_near_11 : decode cX12_near 11 = .ok (.iadd, 1) := by decide +kernel
theorem dX12_near_12 : decode cX12_near 12 = .ok (.iaload, 1) := by decide +kernel
theorem dX12_near_13 : decode cX12_near 13 = .ok (.istore_n 3, 1) := by decide +kernel
theorem dX12_near_14 : decode cX12_near 14 = .ok (.aload_n 0, 1) := by decide +kernel
theorem dX12_near_15 : decode cX12_near 15 = .ok (.getfield 7, 3) := by decide +kernel
theorem dX12_near_18 : decode cX12_near 18 = .ok (.aload_n 0, 1) := by decide +kernel
theorem dX12_near_19 : decode cX12_near 19 = .ok (.iload_n 2, 1) := by decide +kernel
theorem dX12_near_20 : decode cX12_near 20 = .ok (.invokevirtual 109, 3) := by decide +kernel
theorem dX12_near_23 : decode cX12_near 23 = .ok (.bipush 8, 2) := by decide +kernel
theorem dX12_near_25 : decode cX12_near 25 = .ok (.iadd, 1) := by decide +kernel
theorem dX12_near_26 : decode cX12_near 26 = .ok (.iaload, 1) := by decide +kernel
theorem dX12_near_27 : decode cX12_near 27 = .ok (.istore 4, 2) := by decide +kernel
theorem dX12_near_29 : decode cX12_near 29 = .ok (.iload_n 1, 1) := by decide +kernel
theorem dX12_near_30 : decode cX12_near 30 = .ok (.iload_n 3, 1) := by decide +kernel
theorem dX12_near_31 : decode cX12_near 31 = .ok (.if_icmp .eq 9, 3) := by decide +kernel
theorem dX12_near_34 : decode cX12_near 34 = .ok (.iload_n 1, 1) := by decide +kernel
theorem dX12_near_35 : decode cX12_near 35 = .ok (.iload 4, 2) := by decide +kernel
theorem dX12_near_37 : decode cX12_near 37 = .ok (.if_icmp .ne 5, 3) := by decide +kernel
theorem dX12_near_40 : decode cX12_near 40 = .ok (.iconst 2, 1) := by decide +kernel
theorem dX12_near_41 : decode cX12_near 41 = .ok (.ireturn, 1) := by decide +kernel
theorem dX12_near_42 : decode cX12_near 42 = .ok (.iconst 0, 1) := by decide +kernel
theorem dX12_near_43 : decode cX12_near 43 = .ok (.istore 5, 2) := by decide +kernel
theorem dX12_near_45 : decode cX12_near 45 = .ok (.iconst 0, 1) := by decide +kernel
theorem dX12_near_46 : decode cX12_near 46 = .ok (.istore 6, 2) := by decide +kernel
theorem dX12_near_48 : decode cX12_near 48 = .ok (.iload 6, 2) := by decide +kernel
theorem dX12_near_50 : decode cX12_near 50 = .ok (.aload_n 0, 1) := by decide +kernel
theorem dX12_near_51 : decode cX12_near 51 = .ok (.getfield 7, 3) := by decide +kernel
theorem dX12_near_54 : decode cX12_near 54 = .ok (.iconst 1, 1) := by decide +kernel
theorem dX12_near_55 : decode cX12_near 55 = .ok (.iaload, 1) := by decide +kernel
theorem dX12_near_56 : decode cX12_near 56 = .ok (.if_icmp .ge 148, 3) := by decide +kernel
theorem dX12_near_59 : decode cX12_near 59 = .ok (.iload 5, 2) := by decide +kernel
theorem dX12_near_61 : decode cX12_near 61 = .ok (.ifCond .ne 143, 3) := by decide +kernel
theorem dX12_near_64 : decode cX12_near 64 = .ok (.aload_n 0, 1) := by decide +kernel
theorem dX12_near_65 : decode cX12_near 65 = .ok (.iload 6, 2) := by decide +kernel
theorem dX12_near_67 : decode cX12_near 67 = .ok (.invokevirtual 109, 3) := by decide +kernel
theorem dX12_near_70 : decode cX12_near 70 = .ok (.istore 7, 2) := by decide +kernel
theorem dX12_near_72 : decode cX12_near 72 = .ok (.aload_n 0, 1) := by decide +kernel
theorem dX12_near_73 : decode cX12_near 73 = .ok (.getfield 7, 3) := by decide +kernel
theorem dX12_near_76 : decode cX12_near 76 = .ok (.iload 7, 2) := by decide +kernel
theorem dX12_near_78 : decode cX12_near 78 = .ok (.bipush 7, 2) := by decide +kernel
theorem dX12_near_80 : decode cX12_near 80 = .ok (.iadd, 1) := by decide +kernel
theorem dX12_near_81 : decode cX12_near 81 = .ok (.iaload, 1) := by decide +kernel
theorem dX12_near_82 : decode cX12_near 82 = .ok (.iload_n 1, 1) := by decide +kernel
theorem dX12_near_83 : decode cX12_near 83 = .ok (.if_icmp .ne 36, 3) := by decide +kernel
theorem dX12_near_86 : decode cX12_near 86 = .ok (.aload_n 0, 1) := by decide +kernel
theorem dX12_near_87 : decode cX12_near 87 = .ok (.getfield 7, 3) := by decide +kernel
theorem dX12_near_90 : decode cX12_near 90 = .ok (.iload 7, 2) := by decide +kernel
theorem dX12_near_92 : decode cX12_near 92 = .ok (.bipush 8, 2) := by decide +kernel
theorem dX12_near_94 : decode cX12_near 94 = .ok (.iadd, 1) := by decide +kernel
theorem dX12_near_95 : decode cX12_near 95 = .ok (.iaload, 1) := by decide +kernel
theorem dX12_near_96 : decode cX12_near 96 = .ok (.iload_n 3, 1) := by decide +kernel
theorem dX12_near_97 : decode cX12_near 97 = .ok (.if_icmp .eq 18, 3) := by decide +kernel
theorem dX12_near_100 : decode cX12_near 100 = .ok (.aload_n 0, 1) := by decide +kernel
theorem dX12_near_101 : decode cX12_near 101 = .ok (.getfield 7, 3) := by decide +kernel
theorem dX12_near_104 : decode cX12_near 104 = .ok (.iload 7, 2) := by decide +kernel
theorem dX12_near_106 : decode cX12_near 106 = .ok (.bipush 8, 2) := by decide +kernel
theorem dX12_near_108 : decode cX12_near 108 = .ok (.iadd, 1) := by decide +kernel
theorem dX12_near_109 : decode cX12_near 109 = .ok (.iaload, 1) := by decide +kernel
theorem dX12_near_110 : decode cX12_near 110 = .ok (.iload 4, 2) := by decide +kernel
theorem dX12_near_112 : decode cX12_near 112 = .ok (.if_icmp .ne 7, 3) := by decide +kernel
theorem dX12_near_115 : decode cX12_near 115 = .ok (.iconst 1, 1) := by decide +kernel
theorem dX12_near_116 : decode cX12_near 116 = .ok (.goto 4, 3) := by decide +kernel
theorem dX12_near_119 : decode cX12_near 119 = .ok (.iconst 0, 1) := by decide +kernel
theorem dX12_near_120 : decode cX12_near 120 = .ok (.istore 8, 2) := by decide +kernel
theorem dX12_near_122 : decode cX12_near 122 = .ok (.aload_n 0, 1) := by decide +kernel
theorem dX12_near_123 : decode cX12_near 123 = .ok (.getfield 7, 3) := by decide +kernel
theorem dX12_near_126 : decode cX12_near 126 = .ok (.iload 7, 2) := by decide +kernel
theorem dX12_near_128 : decode cX12_near 128 = .ok (.bipush 8, 2) := by decide +kernel
theorem dX12_near_130 : decode cX12_near 130 = .ok (.iadd, 1) := by decide +kernel
theorem dX12_near_131 : decode cX12_near 131 = .ok (.iaload, 1) := by decide +kernel
theorem dX12_near_132 : decode cX12_near 132 = .ok (.iload_n 1, 1) := by decide +kernel
theorem dX12_near_133 : decode cX12_near 133 = .ok (.if_icmp .ne 36, 3) := by decide +kernel
theorem dX12_near_136 : decode cX12_near 136 = .ok (.aload_n 0, 1) := by decide +kernel
theorem dX12_near_137 : decode cX12_near 137 = .ok (.getfield 7, 3) := by decide +kernel
theorem dX12_near_140 : decode cX12_near 140 = .ok (.iload 7, 2) := by decide +kernel
theorem dX12_near_142 : decode cX12_near 142 = .ok (.bipush 7, 2) := by decide +kernel
theorem dX12_near_144 : decode cX12_near 144 = .ok (.iadd, 1) := by decide +kernel
theorem dX12_near_145 : decode cX12_near 145 = .ok (.iaload, 1) := by decide +kernel
theorem dX12_near_146 : decode cX12_near 146 = .ok (.iload_n 3, 1) := by decide +kernel
theorem dX12_near_147 : decode cX12_near 147 = .ok (.if_icmp .eq 18, 3) := by decide +kernel
theorem dX12_near_150 : decode cX12_near 150 = .ok (.aload_n 0, 1) := by decide +kernel
theorem dX12_near_151 : decode cX12_near 151 = .ok (.getfield 7, 3) := by decide +kernel
theorem dX12_near_154 : decode cX12_near 154 = .ok (.iload 7, 2) := by decide +kernel
theorem dX12_near_156 : decode cX12_near 156 = .ok (.bipush 7, 2) := by decide +kernel
theorem dX12_near_158 : decode cX12_near 158 = .ok (.iadd, 1) := by decide +kernel
theorem dX12_near_159 : decode cX12_near 159 = .ok (.iaload, 1) := by decide +kernel
theorem dX12_near_160 : decode cX12_near 160 = .ok (.iload 4, 2) := by decide +kernel
theorem dX12_near_162 : decode cX12_near 162 = .ok (.if_icmp .ne 7, 3) := by decide +kernel
theorem dX12_near_165 : decode cX12_near 165 = .ok (.iconst 1, 1) := by decide +kernel
theorem dX12_near_166 : decode cX12_near 166 = .ok (.goto 4, 3) := by decide +kernel
theorem dX12_near_169 : decode cX12_near 169 = .ok (.iconst 0, 1) := by decide +kernel
theorem dX12_near_170 : decode cX12_near 170 = .ok (.istore 9, 2) := by decide +kernel
theorem dX12_near_172 : decode cX12_near 172 = .ok (.aload_n 0, 1) := by decide +kernel
theorem dX12_near_173 : decode cX12_near 173 = .ok (.iload 6, 2) := by decide +kernel
theorem dX12_near_175 : decode cX12_near 175 = .ok (.invokevirtual 119, 3) := by decide +kernel
theorem dX12_near_178 : decode cX12_near 178 = .ok (.ifCond .eq 17, 3) := by decide +kernel
theorem dX12_near_181 : decode cX12_near 181 = .ok (.iload 8, 2) := by decide +kernel
theorem dX12_near_183 : decode cX12_near 183 = .ok (.ifCond .ne 8, 3) := by decide +kernel
theorem dX12_near_186 : decode cX12_near 186 = .ok (.iload 9, 2) := by decide +kernel
theorem dX12_near_188 : decode cX12_near 188 = .ok (.ifCond .eq 7, 3) := by decide +kernel
theorem dX12_near_191 : decode cX12_near 191 = .ok (.iconst 1, 1) := by decide +kernel
theorem dX12_near_192 : decode cX12_near 192 = .ok (.goto 4, 3) := by decide +kernel
theorem dX12_near_195 : decode cX12_near 195 = .ok (.iconst 0, 1) := by decide +kernel
theorem dX12_near_196 : decode cX12_near 196 = .ok (.istore 5, 2) := by decide +kernel
theorem dX12_near_198 : decode cX12_near 198 = .ok (.iinc 6 1, 3) := by decide +kernel
theorem dX12_near_201 : decode cX12_near 201 = .ok (.goto (-153), 3) := by decide +kernel
theorem dX12_near_204 : decode cX12_near 204 = .ok (.iload 5, 2) := by decide +kernel
theorem dX12_near_206 : decode cX12_near 206 = .ok (.ifCond .eq 7, 3) := by decide +kernel
theorem dX12_near_209 : decode cX12_near 209 = .ok (.iconst 1, 1) := by decide +kernel
theorem dX12_near_210 : decode cX12_near 210 = .ok (.goto 4, 3) := by decide +kernel
theorem dX12_near_213 : decode cX12_near 213 = .ok (.iconst 0, 1) := by decide +kernel
theorem dX12_near_214 : decode cX12_near 214 = .ok (.ireturn, 1) := by decide +kernel
theorem dX12_nextStreet_0 : decode cX12_nextStreet 0 = .ok (.iconst 0, 1) := by decide +kernel
theorem dX12_nextStreet_1 : decode cX12_nextStreet 1 = .ok (.istore_n 2, 1) := by decide +kernel
theorem dX12_nextStreet_2 : decode cX12_nextStreet 2 = .ok (.iload_n 2, 1) := by decide +kernel
theorem dX12_nextStreet_3 : decode cX12_nextStreet 3 = .ok (.aload_n 0, 1) := by decide +kernel
theorem dX12_nextStreet_4 : decode cX12_nextStreet 4 = .ok (.getfield 7, 3) := by decide +kernel
theorem dX12_nextStreet_7 : decode cX12_nextStreet 7 = .ok (.iconst 1, 1) := by decide +kernel
theorem dX12_nextStreet_8 : decode cX12_nextStreet 8 = .ok (.iaload, 1) := by decide +kernel
theorem dX12_nextStreet_9 : decode cX12_nextStreet 9 = .ok (.if_icmp .ge 88, 3) := by decide +kernel
theorem dX12_nextStreet_12 : decode cX12_nextStreet 12 = .ok (.aload_n 0, 1) := by decide +kernel
theorem dX12_nextStreet_13 : decode cX12_nextStreet 13 = .ok (.getfield 37, 3) := by decide +kernel
theorem dX12_nextStreet_16 : decode cX12_nextStreet 16 = .ok (.iload_n 2, 1) := by decide +kernel
theorem dX12_nextStreet_17 : decode cX12_nextStreet 17 = .ok (.iaload, 1) := by decide +kernel
theorem dX12_nextStreet_18 : decode cX12_nextStreet 18 = .ok (.ifCond .le 12, 3) := by decide +kernel
theorem dX12_nextStreet_21 : decode cX12_nextStreet 21 = .ok (.aload_n 0, 1) := by decide +kernel
theorem dX12_nextStreet_22 : decode cX12_nextStreet 22 = .ok (.iload_n 2, 1) := by decide +kernel
theorem dX12_nextStreet_23 : decode cX12_nextStreet 23 = .ok (.iload_n 1, 1) := by decide +kernel
theorem dX12_nextStreet_24 : decode cX12_nextStreet 24 = .ok (.invokevirtual 130, 3) := by decide +kernel
theorem dX12_nextStreet_27 : decode cX12_nextStreet 27 = .ok (.goto 4, 3) := by decide +kernel
theorem dX12_nextStreet_30 : decode cX12_nextStreet 30 = .ok (.iconst (-1), 1) := by decide +kernel
theorem dX12_nextStreet_31 : decode cX12_nextStreet 31 = .ok (.istore_n 3, 1) := by decide +kernel
theorem dX12_nextStreet_32 : decode cX12_nextStreet 32 = .ok (.iload_n 3, 1) := by decide +kernel
theorem dX12_nextStreet_33 : decode cX12_nextStreet 33 = .ok (.iconst (-1), 1) := by decide +kernel
theorem dX12_nextStreet_34 : decode cX12_nextStreet 34 = .ok (.if_icmp .eq 57, 3) := by decide +kernel
theorem dX12_nextStreet_37 : decode cX12_nextStreet 37 = .ok (.aload_n 0, 1) := by decide +kernel
theorem dX12_nextStreet_38 : decode cX12_nextStreet 38 = .ok (.getfield 37, 3) := by decide +kernel
theorem dX12_nextStreet_41 : decode cX12_nextStreet 41 = .ok (.iload_n 2, 1) := by decide +kernel
theorem dX12_nextStreet_42 : decode cX12_nextStreet 42 = .ok (.dup2, 1) := by decide +kernel
theorem dX12_nextStreet_43 : decode cX12_nextStreet 43 = .ok (.iaload, 1) := by decide +kernel
theorem dX12_nextStreet_44 : decode cX12_nextStreet 44 = .ok (.iconst 1, 1) := by decide +kernel
theorem dX12_nextStreet_45 : decode cX12_nextStreet 45 = .ok (.isub, 1) := by decide +kernel
theorem dX12_nextStreet_46 : decode cX12_nextStreet 46 = .ok (.iastore, 1) := by decide +kernel
theorem dX12_nextStreet_47 : decode cX12_nextStreet 47 = .ok (.aload_n 0, 1) := by decide +kernel
theorem dX12_nextStreet_48 : decode cX12_nextStreet 48 = .ok (.iload_n 3, 1) := by decide +kernel
theorem dX12_nextStreet_49 : decode cX12_nextStreet 49 = .ok (.aload_n 0, 1) := by decide +kernel
theorem dX12_nextStreet_50 : decode cX12_nextStreet 50 = .ok (.getfield 37, 3) := by decide +kernel
theorem dX12_nextStreet_53 : decode cX12_nextStreet 53 = .ok (.invokevirtual 270, 3) := by decide +kernel
theorem dX12_nextStreet_56 : decode cX12_nextStreet 56 = .ok (.aload_n 0, 1) := by decide +kernel
theorem dX12_nextStreet_57 : decode cX12_nextStreet 57 = .ok (.aload_n 0, 1) := by decide +kernel
theorem dX12_nextStreet_58 : decode cX12_nextStreet 58 = .ok (.getfield 37, 3) := by decide +kernel
theorem dX12_nextStreet_61 : decode cX12_nextStreet 61 = .ok (.invokevirtual 274, 3) := by decide +kernel
theorem dX12_nextStreet_64 : decode cX12_nextStreet 64 = .ok (.ifCond .ne 7, 3) := by decide +kernel
theorem dX12_nextStreet_67 : decode cX12_nextStreet 67 = .ok (.iconst 1, 1) := by decide +kernel
theorem dX12_nextStreet_68 : decode cX12_nextStreet 68 = .ok (.goto 4, 3) := by decide +kernel
theorem dX12_nextStreet_71 : decode cX12_nextStreet 71 = .ok (.iconst 0, 1) := by decide +kernel
theorem dX12_nextStreet_72 : decode cX12_nextStreet 72 = .ok (.istore 4, 2) := by decide +kernel
theorem dX12_nextStreet_74 : decode cX12_nextStreet 74 = .ok (.aload_n 0, 1) := by decide +kernel
theorem dX12_nextStreet_75 : decode cX12_nextStreet 75 = .ok (.getfield 37, 3) := by decide +kernel
theorem dX12_nextStreet_78 : decode cX12_nextStreet 78 = .ok (.iload_n 2, 1) := by decide +kernel
theorem dX12_nextStreet_79 : decode cX12_nextStreet 79 = .ok (.dup2, 1) := by decide +kernel
theorem dX12_nextStreet_80 : decode cX12_nextStreet 80 = .ok (.iaload, 1) := by decide +kernel
theorem dX12_nextStreet_81 : decode cX12_nextStreet 81 = .ok (.iconst 1, 1) := by decide +kernel
theorem dX12_nextStreet_82 : decode cX12_nextStreet 82 = .ok (.iadd, 1) := by decide +kernel
theorem dX12_nextStreet_83 : decode cX12_nextStreet 83 = .ok (.iastore, 1) := by decide +kernel
theorem dX12_nextStreet_84 : decode cX12_nextStreet 84 = .ok (.iload 4, 2) := by decide +kernel
theorem dX12_nextStreet_86 : decode cX12_nextStreet 86 = .ok (.ifCond .eq 5, 3) := by decide +kernel
theorem dX12_nextStreet_89 : decode cX12_nextStreet 89 = .ok (.iload_n 2, 1) := by decide +kernel
theorem dX12_nextStreet_90 : decode cX12_nextStreet 90 = .ok (.ireturn, 1) := by decide +kernel
theorem dX12_nextStreet_91 : decode cX12_nextStreet 91 = .ok (.iinc 2 1, 3) := by decide +kernel
theorem dX12_nextStreet_94 : decode cX12_nextStreet 94 = .ok (.goto (-92), 3) := by decide +kernel
theorem dX12_nextStreet_97 : decode cX12_nextStreet 97 = .ok (.iconst (-1), 1) := by decide +kernel
theorem dX12_nextStreet_98 : decode cX12_nextStreet 98 = .ok (.ireturn, 1) := by decide +kernel
theorem dX12_none_0 : decode cX12_none 0 = .ok (.aload_n 0, 1) := by decide +kernel
theorem dX12_none_1 : decode cX12_none 1 = .ok (.iload_n 1, 1) := by decide +kernel
theorem dX12_none_2 : decode cX12_none 2 = .ok (.invokevirtual 143, 3) := by decide +kernel
theorem dX12_none_5 : decode cX12_none 5 = .ok (.ifCond .eq 12, 3) := by decide +kernel
theorem dX12_none_8 : decode cX12_none 8 = .ok (.iload_n 3, 1) := by decide +kernel
theorem dX12_none_9 : decode cX12_none 9 = .ok (.iconst 0, 1) := by decide +kernel
theorem dX12_none_10 : decode cX12_none 10 = .ok (.iconst 1, 1) := by decide +kernel
theorem dX12_none_11 : decode cX12_none 11 = .ok (.invokestatic 88, 3) := by decide +kernel
theorem dX12_none_14 : decode cX12_none 14 = .ok (.ifCond .ne 10, 3) := by decide +kernel
theorem dX12_none_17 : decode cX12_none 17 = .ok (.aload_n 0, 1) := by decide +kernel
theorem dX12_none_18 : decode cX12_none 18 = .ok (.bipush (-2), 2) := by decide +kernel
theorem dX12_none_20 : decode cX12_none 20 = .ok (.invokevirtual 92, 3) := by decide +kernel
theorem dX12_none_23 : decode cX12_none 23 = .ok (.ireturn, 1) := by decide +kernel
theorem dX12_none_24 : decode cX12_none 24 = .ok (.aload_n 0, 1) := by decide +kernel
theorem dX12_none_25 : decode cX12_none 25 = .ok (.iload_n 1, 1) := by decide +kernel
theorem dX12_none_26 : decode cX12_none 26 = .ok (.iload_n 2, 1) := by decide +kernel
theorem dX12_none_27 : decode cX12_none 27 = .ok (.iload_n 3, 1) := by decide +kernel
theorem dX12_none_28 : decode cX12_none 28 = .ok (.ifCond .ne 9, 3) := by decide +kernel
theorem dX12_none_31 : decode cX12_none 31 = .ok (.sipush (-32768), 3) := by decide +kernel
theorem dX12_none_34 : decode cX12_none 34 = .ok (.goto 6, 3) := by decide +kernel
theorem dX12_none_37 : decode cX12_none 37 = .ok (.sipush 32767, 3) := by decide +kernel
theorem dX12_none_40 : decode cX12_none 40 = .ok (.iconst 1, 1) := by decide +kernel
theorem dX12_none_41 : decode cX12_none 41 = .ok (.iload_n 3, 1) := by decide +kernel
theorem dX12_none_42 : decode cX12_none 42 = .ok (.iadd, 1) := by decide +kernel
theorem dX12_none_43 : decode cX12_none 43 = .ok (.invokevirtual 149, 3) := by decide +kernel
theorem dX12_none_46 : decode cX12_none 46 = .ok (.ireturn, 1) := by decide +kernel
theorem dX12_odd_0 : decode cX12_odd 0 = .ok (.aload_n 0, 1) := by decide +kernel
theorem dX12_odd_1 : decode cX12_odd 1 = .ok (.invokevirtual 245, 3) := by decide +kernel
theorem dX12_odd_4 : decode cX12_odd 4 = .ok (.aload_n 0, 1) := by decide +kernel
theorem dX12_odd_5 : decode cX12_odd 5 = .ok (.invokevirtual 248, 3) := by decide +kernel
theorem dX12_odd_8 : decode cX12_odd 8 = .ok (.aload_n 0, 1) := by decide +kernel
theorem dX12_odd_9 : decode cX12_odd 9 = .ok (.iload_n 1, 1) := by decide +kernel
theorem dX12_odd_10 : decode cX12_odd 10 = .ok (.iconst 0, 1) := by decide +kernel
theorem dX12_odd_11 : decode cX12_odd 11 = .ok (.aload_n 0, 1) := by decide +kernel
theorem dX12_odd_12 : decode cX12_odd 12 = .ok (.getfield 242, 3) := by decide +kernel
theorem dX12_odd_15 : decode cX12_odd 15 = .ok (.iconst 1, 1) := by decide +kernel
theorem dX12_odd_16 : decode cX12_odd 16 = .ok (.isub, 1) := by decide +kernel
theorem dX12_odd_17 : decode cX12_odd 17 = .ok (.invokestatic 88, 3) := by decide +kernel
theorem dX12_odd_20 : decode cX12_odd 20 = .ok (.ifCond .eq 12, 3) := by decide +kernel
theorem dX12_odd_23 : decode cX12_odd 23 = .ok (.aload_n 0, 1) := by decide +kernel
theorem dX12_odd_24 : decode cX12_odd 24 = .ok (.getfield 40, 3) := by decide +kernel
theorem dX12_odd_27 : decode cX12_odd 27 = .ok (.iload_n 1, 1) := by decide +kernel
theorem dX12_odd_28 : decode cX12_odd 28 = .ok (.iaload, 1) := by decide +kernel
theorem dX12_odd_29 : decode cX12_odd 29 = .ok (.goto 4, 3) := by decide +kernel
theorem dX12_odd_32 : decode cX12_odd 32 = .ok (.iconst (-1), 1) := by decide +kernel
theorem dX12_odd_33 : decode cX12_odd 33 = .ok (.invokevirtual 102, 3) := by decide +kernel
theorem dX12_odd_36 : decode cX12_odd 36 = .ok (.ireturn, 1) := by decide +kernel
theorem dX12_onTo_0 : decode cX12_onTo 0 = .ok (.iconst (-1), 1) := by decide +kernel
theorem dX12_onTo_1 : decode cX12_onTo 1 = .ok (.istore_n 3, 1) := by decide +kernel
theorem dX12_onTo_2 : decode cX12_onTo 2 = .ok (.bipush 60, 2) := by decide +kernel
theorem dX12_onTo_4 : decode cX12_onTo 4 = .ok (.istore 4, 2) := by decide +kernel
theorem dX12_onTo_6 : decode cX12_onTo 6 = .ok (.iconst 0, 1) := by decide +kernel
theorem dX12_onTo_7 : decode cX12_onTo 7 = .ok (.istore 5, 2) := by decide +kernel
theorem dX12_onTo_9 : decode cX12_onTo 9 = .ok (.iload 5, 2) := by decide +kernel
theorem dX12_onTo_11 : decode cX12_onTo 11 = .ok (.aload_n 0, 1) := by decide +kernel
theorem dX12_onTo_12 : decode cX12_onTo 12 = .ok (.getfield 7, 3) := by decide +kernel
theorem dX12_onTo_15 : decode cX12_onTo 15 = .ok (.iconst 1, 1) := by decide +kernel
theorem dX12_onTo_16 : decode cX12_onTo 16 = .ok (.iaload, 1) := by decide +kernel
theorem dX12_onTo_17 : decode cX12_onTo 17 = .ok (.if_icmp .ge 92, 3) := by decide +kernel
theorem dX12_onTo_20 : decode cX12_onTo 20 = .ok (.aload_n 0, 1) := by decide +kernel
theorem dX12_onTo_21 : decode cX12_onTo 21 = .ok (.iload 5, 2) := by decide +kernel
theorem dX12_onTo_23 : decode cX12_onTo 23 = .ok (.invokevirtual 119, 3) := by decide +kernel
theorem dX12_onTo_26 : decode cX12_onTo 26 = .ok (.ifCond .eq 13, 3) := by decide +kernel
theorem dX12_onTo_29 : decode cX12_onTo 29 = .ok (.aload_n 0, 1) := by decide +kernel
theorem dX12_onTo_30 : decode cX12_onTo 30 = .ok (.iload 5, 2) := by decide +kernel
theorem dX12_onTo_32 : decode cX12_onTo 32 = .ok (.iload_n 1, 1) := by decide +kernel
theorem dX12_onTo_33 : decode cX12_onTo 33 = .ok (.invokevirtual 130, 3) := by decide +kernel
theorem dX12_onTo_36 : decode cX12_onTo 36 = .ok (.goto 4, 3) := by decide +kernel
theorem dX12_onTo_39 : decode cX12_onTo 39 = .ok (.iconst (-1), 1) := by decide +kernel
theorem dX12_onTo_40 : decode cX12_onTo 40 = .ok (.istore 6, 2) := by decide +kernel
theorem dX12_onTo_42 : decode cX12_onTo 42 = .ok (.iload 6, 2) := by decide +kernel
theorem dX12_onTo_44 : decode cX12_onTo 44 = .ok (.iconst (-1), 1) := by decide +kernel
theorem dX12_onTo_45 : decode cX12_onTo 45 = .ok (.if_icmp .eq 58, 3) := by decide +kernel
theorem dX12_onTo_48 : decode cX12_onTo 48 = .ok (.iload 6, 2) := by decide +kernel
theorem dX12_onTo_50 : decode cX12_onTo 50 = .ok (.iload 4, 2) := by decide +kernel
theorem dX12_onTo_52 : decode cX12_onTo 52 = .ok (.if_icmp .ge 51, 3) := by decide +kernel
theorem dX12_onTo_55 : decode cX12_onTo 55 = .ok (.aload_n 0, 1) := by decide +kernel
theorem dX12_onTo_56 : decode cX12_onTo 56 = .ok (.getfield 7, 3) := by decide +kernel
theorem dX12_onTo_59 : decode cX12_onTo 59 = .ok (.aload_n 0, 1) := by decide +kernel
theorem dX12_onTo_60 : decode cX12_onTo 60 = .ok (.iload 5, 2) := by decide +kernel
theorem dX12_onTo_62 : decode cX12_onTo 62 = .ok (.invokevirtual 109, 3) := by decide +kernel
theorem dX12_onTo_65 : decode cX12_onTo 65 = .ok (.bipush 6, 2) := by decide +kernel
theorem dX12_onTo_67 : decode cX12_onTo 67 = .ok (.iadd, 1) := by decide +kernel
theorem dX12_onTo_68 : decode cX12_onTo 68 = .ok (.iaload, 1) := by decide +kernel
theorem dX12_onTo_69 : decode cX12_onTo 69 = .ok (.aload_n 0, 1) := by decide +kernel
theorem dX12_onTo_70 : decode cX12_onTo 70 = .ok (.getfield 23, 3) := by decide +kernel
theorem dX12_onTo_73 : decode cX12_onTo 73 = .ok (.bipush 60, 2) := by decide +kernel
theorem dX12_onTo_75 : decode cX12_onTo 75 = .ok (.iload 6, 2) := by decide +kernel
theorem dX12_onTo_77 : decode cX12_onTo 77 = .ok (.imul, 1) := by decide +kernel
theorem dX12_onTo_78 : decode cX12_onTo 78 = .ok (.iload_n 2, 1) := by decide +kernel
theorem dX12_onTo_79 : decode cX12_onTo 79 = .ok (.iadd, 1) := by decide +kernel
theorem dX12_onTo_80 : decode cX12_onTo 80 = .ok (.iaload, 1) := by decide +kernel
theorem dX12_onTo_81 : decode cX12_onTo 81 = .ok (.iadd, 1) := by decide +kernel
theorem dX12_onTo_82 : decode cX12_onTo 82 = .ok (.aload_n 0, 1) := by decide +kernel
theorem dX12_onTo_83 : decode cX12_onTo 83 = .ok (.getfield 23, 3) := by decide +kernel
theorem dX12_onTo_86 : decode cX12_onTo 86 = .ok (.bipush 60, 2) := by decide +kernel
theorem dX12_onTo_88 : decode cX12_onTo 88 = .ok (.iload_n 1, 1) := by decide +kernel
theorem dX12_onTo_89 : decode cX12_onTo 89 = .ok (.imul, 1) := by decide +kernel
theorem dX12_onTo_90 : decode cX12_onTo 90 = .ok (.iload_n 2, 1) := by decide +kernel
theorem dX12_onTo_91 : decode cX12_onTo 91 = .ok (.iadd, 1) := by decide +kernel
theorem dX12_onTo_92 : decode cX12_onTo 92 = .ok (.iaload, 1) := by decide +kernel
theorem dX12_onTo_93 : decode cX12_onTo 93 = .ok (.if_icmp .ne 10, 3) := by decide +kernel
theorem dX12_onTo_96 : decode cX12_onTo 96 = .ok (.iload 5, 2) := by decide +kernel
theorem dX12_onTo_98 : decode cX12_onTo 98 = .ok (.istore_n 3, 1) := by decide +kernel
theorem dX12_onTo_99 : decode cX12_onTo 99 = .ok (.iload 6, 2) := by decide +kernel
theorem dX12_onTo_101 : decode cX12_onTo 101 = .ok (.istore 4, 2) := by decide +kernel
theorem dX12_onTo_103 : decode cX12_onTo 103 = .ok (.iinc 5 1, 3) := by decide +kernel
theorem dX12_onTo_106 : decode cX12_onTo 106 = .ok (.goto (-97), 3) := by decide +kernel
theorem dX12_onTo_109 : decode cX12_onTo 109 = .ok (.iload_n 3, 1) := by decide +kernel
theorem dX12_onTo_110 : decode cX12_onTo 110 = .ok (.ireturn, 1) := by decide +kernel
theorem dX12_oneWay_0 : decode cX12_oneWay 0 = .ok (.aload_n 0, 1) := by decide +kernel
theorem dX12_oneWay_1 : decode cX12_oneWay 1 = .ok (.iload_n 1, 1) := by decide +kernel
theorem dX12_oneWay_2 : decode cX12_oneWay 2 = .ok (.iconst 5, 1) := by decide +kernel
theorem dX12_oneWay_3 : decode cX12_oneWay 3 = .ok (.iload_n 2, 1) := by decide +kernel
theorem dX12_oneWay_4 : decode cX12_oneWay 4 = .ok (.invokevirtual 115, 3) := by decide +kernel
theorem dX12_oneWay_7 : decode cX12_oneWay 7 = .ok (.ireturn, 1) := by decide +kernel
theorem dX12_out_0 : decode cX12_out 0 = .ok (.aload_n 0, 1) := by decide +kernel
theorem dX12_out_1 : decode cX12_out 1 = .ok (.iload_n 1, 1) := by decide +kernel
theorem dX12_out_2 : decode cX12_out 2 = .ok (.invokevirtual 197, 3) := by decide +kernel
theorem dX12_out_5 : decode cX12_out 5 = .ok (.ifCond .ne 10, 3) := by decide +kernel
theorem dX12_out_8 : decode cX12_out 8 = .ok (.aload_n 0, 1) := by decide +kernel
theorem dX12_out_9 : decode cX12_out 9 = .ok (.bipush (-2), 2) := by decide +kernel
theorem dX12_out_11 : decode cX12_out 11 = .ok (.invokevirtual 92, 3) := by decide +kernel
theorem dX12_out_14 : decode cX12_out 14 = .ok (.ireturn, 1) := by decide +kernel
theorem dX12_out_15 : decode cX12_out 15 = .ok (.aload_n 0, 1) := by decide +kernel
theorem dX12_out_16 : decode cX12_out 16 = .ok (.invokevirtual 96, 3) := by decide +kernel
theorem dX12_out_19 : decode cX12_out 19 = .ok (.aload_n 0, 1) := by decide +kernel
theorem dX12_out_20 : decode cX12_out 20 = .ok (.getfield 7, 3) := by decide +kernel
theorem dX12_out_23 : decode cX12_out 23 = .ok (.aload_n 0, 1) := by decide +kernel
theorem dX12_out_24 : decode cX12_out 24 = .ok (.iload_n 1, 1) := by decide +kernel
theorem dX12_out_25 : decode cX12_out 25 = .ok (.invokevirtual 188, 3) := by decide +kernel
theorem dX12_out_28 : decode cX12_out 28 = .ok (.iconst 2, 1) := by decide +kernel
theorem dX12_out_29 : decode cX12_out 29 = .ok (.iadd, 1) := by decide +kernel
theorem dX12_out_30 : decode cX12_out 30 = .ok (.iaload, 1) := by decide +kernel
theorem dX12_out_31 : decode cX12_out 31 = .ok (.istore_n 2, 1) := by decide +kernel
theorem dX12_out_32 : decode cX12_out 32 = .ok (.aload_n 0, 1) := by decide +kernel
theorem dX12_out_33 : decode cX12_out 33 = .ok (.iload_n 1, 1) := by decide +kernel
theorem dX12_out_34 : decode cX12_out 34 = .ok (.invokevirtual 203, 3) := by decide +kernel
theorem dX12_out_37 : decode cX12_out 37 = .ok (.aload_n 0, 1) := by decide +kernel
theorem dX12_out_38 : decode cX12_out 38 = .ok (.iconst 1, 1) := by decide +kernel
theorem dX12_out_39 : decode cX12_out 39 = .ok (.iload_n 2, 1) := by decide +kernel
theorem dX12_out_40 : decode cX12_out 40 = .ok (.isub, 1) := by decide +kernel
theorem dX12_out_41 : decode cX12_out 41 = .ok (.invokevirtual 102, 3) := by decide +kernel
theorem dX12_out_44 : decode cX12_out 44 = .ok (.ireturn, 1) := by decide +kernel
theorem dX12_pair_0 : decode cX12_pair 0 = .ok (.aload_n 0, 1) := by decide +kernel
theorem dX12_pair_1 : decode cX12_pair 1 = .ok (.iload_n 1, 1) := by decide +kernel
theorem dX12_pair_2 : decode cX12_pair 2 = .ok (.invokevirtual 197, 3) := by decide +kernel
theorem dX12_pair_5 : decode cX12_pair 5 = .ok (.ifCond .eq 27, 3) := by decide +kernel
theorem dX12_pair_8 : decode cX12_pair 8 = .ok (.aload_n 0, 1) := by decide +kernel
theorem dX12_pair_9 : decode cX12_pair 9 = .ok (.iload_n 2, 1) := by decide +kernel
theorem dX12_pair_10 : decode cX12_pair 10 = .ok (.invokevirtual 197, 3) := by decide +kernel
theorem dX12_pair_13 : decode cX12_pair 13 = .ok (.ifCond .eq 19, 3) := by decide +kernel
theorem dX12_pair_16 : decode cX12_pair 16 = .ok (.iload_n 1, 1) := by decide +kernel
theorem dX12_pair_17 : decode cX12_pair 17 = .ok (.iload_n 2, 1) := by decide +kernel
theorem dX12_pair_18 : decode cX12_pair 18 = .ok (.if_icmp .eq 14, 3) := by decide +kernel
theorem dX12_pair_21 : decode cX12_pair 21 = .ok (.iload_n 3, 1) := by decide +kernel
theorem dX12_pair_22 : decode cX12_pair 22 = .ok (.iconst 0, 1) := by decide +kernel
theorem dX12_pair_23 : decode cX12_pair 23 = .ok (.sipush 10000, 3) := by decide +kernel
theorem dX12_pair_26 : decode cX12_pair 26 = .ok (.invokestatic 88, 3) := by decide +kernel
theorem dX12_pair_29 : decode cX12_pair 29 = .ok (.ifCond .ne 10, 3) := by decide +kernel
theorem dX12_pair_32 : decode cX12_pair 32 = .ok (.aload_n 0, 1) := by decide +kernel
theorem dX12_pair_33 : decode cX12_pair 33 = .ok (.bipush (-2), 2) := by decide +kernel
theorem dX12_pair_35 : decode cX12_pair 35 = .ok (.invokevirtual 92, 3) := by decide +kernel
theorem dX12_pair_38 : decode cX12_pair 38 = .ok (.ireturn, 1) := by decide +kernel
theorem dX12_pair_39 : decode cX12_pair 39 = .ok (.aload_n 0, 1) := by decide +kernel
theorem dX12_pair_40 : decode cX12_pair 40 = .ok (.getfield 7, 3) := by decide +kernel
theorem dX12_pair_43 : decode cX12_pair 43 = .ok (.iconst 3, 1) := by decide +kernel
theorem dX12_pair_44 : decode cX12_pair 44 = .ok (.iaload, 1) := by decide +kernel
theorem dX12_pair_45 : decode cX12_pair 45 = .ok (.bipush 12, 2) := by decide +kernel
theorem dX12_pair_47 : decode cX12_pair 47 = .ok (.if_icmp .ne 10, 3) := by decide +kernel
theorem dX12_pair_50 : decode cX12_pair 50 = .ok (.aload_n 0, 1) := by decide +kernel
theorem dX12_pair_51 : decode cX12_pair 51 = .ok (.bipush (-3), 2) := by decide +kernel
theorem dX12_pair_53 : decode cX12_pair 53 = .ok (.invokevirtual 92, 3) := by decide +kernel
theorem dX12_pair_56 : decode cX12_pair 56 = .ok (.ireturn, 1) := by decide +kernel
theorem dX12_pair_57 : decode cX12_pair 57 = .ok (.aload_n 0, 1) := by decide +kernel
theorem dX12_pair_58 : decode cX12_pair 58 = .ok (.iload_n 1, 1) := by decide +kernel
theorem dX12_pair_59 : decode cX12_pair 59 = .ok (.invokevirtual 200, 3) := by decide +kernel
theorem dX12_pair_62 : decode cX12_pair 62 = .ok (.istore 4, 2) := by decide +kernel
theorem dX12_pair_64 : decode cX12_pair 64 = .ok (.iload 4, 2) := by decide +kernel
theorem dX12_pair_66 : decode cX12_pair 66 = .ok (.ifCond .ne 11, 3) := by decide +kernel
theorem dX12_pair_69 : decode cX12_pair 69 = .ok (.aload_n 0, 1) := by decide +kernel
theorem dX12_pair_70 : decode cX12_pair 70 = .ok (.iload_n 2, 1) := by decide +kernel
theorem dX12_pair_71 : decode cX12_pair 71 = .ok (.invokevirtual 200, 3) := by decide +kernel
theorem dX12_pair_74 : decode cX12_pair 74 = .ok (.goto 5, 3) := by decide +kernel
theorem dX12_pair_77 : decode cX12_pair 77 = .ok (.iload 4, 2) := by decide +kernel
theorem dX12_pair_79 : decode cX12_pair 79 = .ok (.istore 4, 2) := by decide +kernel
theorem dX12_pair_81 : decode cX12_pair 81 = .ok (.iload 4, 2) := by decide +kernel
theorem dX12_pair_83 : decode cX12_pair 83 = .ok (.ifCond .eq 10, 3) := by decide +kernel
theorem dX12_pair_86 : decode cX12_pair 86 = .ok (.aload_n 0, 1) := by decide +kernel
theorem dX12_pair_87 : decode cX12_pair 87 = .ok (.iload 4, 2) := by decide +kernel
theorem dX12_pair_89 : decode cX12_pair 89 = .ok (.invokevirtual 92, 3) := by decide +kernel
theorem dX12_pair_92 : decode cX12_pair 92 = .ok (.ireturn, 1) := by decide +kernel
theorem dX12_pair_93 : decode cX12_pair 93 = .ok (.aload_n 0, 1) := by decide +kernel
theorem dX12_pair_94 : decode cX12_pair 94 = .ok (.invokevirtual 96, 3) := by decide +kernel
theorem dX12_pair_97 : decode cX12_pair 97 = .ok (.aload_n 0, 1) := by decide +kernel
theorem dX12_pair_98 : decode cX12_pair 98 = .ok (.iload_n 1, 1) := by decide +kernel
theorem dX12_pair_99 : decode cX12_pair 99 = .ok (.invokevirtual 203, 3) := by decide +kernel
theorem dX12_pair_102 : decode cX12_pair 102 = .ok (.aload_n 0, 1) := by decide +kernel
theorem dX12_pair_103 : decode cX12_pair 103 = .ok (.iload_n 2, 1) := by decide +kernel
theorem dX12_pair_104 : decode cX12_pair 104 = .ok (.invokevirtual 203, 3) := by decide +kernel
theorem dX12_pair_107 : decode cX12_pair 107 = .ok (.aload_n 0, 1) := by decide +kernel
theorem dX12_pair_108 : decode cX12_pair 108 = .ok (.iconst 4, 1) := by decide +kernel
theorem dX12_pair_109 : decode cX12_pair 109 = .ok (.iload_n 3, 1) := by decide +kernel
theorem dX12_pair_110 : decode cX12_pair 110 = .ok (.iload_n 1, 1) := by decide +kernel
theorem dX12_pair_111 : decode cX12_pair 111 = .ok (.iload_n 2, 1) := by decide +kernel
theorem dX12_pair_112 : decode cX12_pair 112 = .ok (.invokevirtual 191, 3) := by decide +kernel
theorem dX12_pair_115 : decode cX12_pair 115 = .ok (.ireturn, 1) := by decide +kernel
theorem dX12_pairsInOrder_0 : decode cX12_pairsInOrder 0 = .ok (.iconst 0, 1) := by decide +kernel
theorem dX12_pairsInOrder_1 : decode cX12_pairsInOrder 1 = .ok (.istore_n 1, 1) := by decide +kernel
theorem dX12_pairsInOrder_2 : decode cX12_pairsInOrder 2 = .ok (.iload_n 1, 1) := by decide +kernel
theorem dX12_pairsInOrder_3 : decode cX12_pairsInOrder 3 = .ok (.aload_n 0, 1) := by decide +kernel
theorem dX12_pairsInOrder_4 : decode cX12_pairsInOrder 4 = .ok (.getfield 242, 3) := by decide +kernel
theorem dX12_pairsInOrder_7 : decode cX12_pairsInOrder 7 = .ok (.if_icmp .ge 41, 3) := by decide +kernel
theorem dX12_pairsInOrder_10 : decode cX12_pairsInOrder 10 = .ok (.aload_n 0, 1) := by decide +kernel
theorem dX12_pairsInOrder_11 : decode cX12_pairsInOrder 11 = .ok (.aload_n 0, 1) := by decide +kernel
theorem dX12_pairsInOrder_12 : decode cX12_pairsInOrder 12 = .ok (.getfield 285, 3) := by decide +kernel
theorem dX12_pairsInOrder_15 : decode cX12_pairsInOrder 15 = .ok (.aload_n 0, 1) := by decide +kernel
theorem dX12_pairsInOrder_16 : decode cX12_pairsInOrder 16 = .ok (.getfield 40, 3) := by decide +kernel
theorem dX12_pairsInOrder_19 : decode cX12_pairsInOrder 19 = .ok (.iload_n 1, 1) := by decide +kernel
theorem dX12_pairsInOrder_20 : decode cX12_pairsInOrder 20 = .ok (.iaload, 1) := by decide +kernel
theorem dX12_pairsInOrder_21 : decode cX12_pairsInOrder 21 = .ok (.aload_n 0, 1) := by decide +kernel
theorem dX12_pairsInOrder_22 : decode cX12_pairsInOrder 22 = .ok (.getfield 40, 3) := by decide +kernel
theorem dX12_pairsInOrder_25 : decode cX12_pairsInOrder 25 = .ok (.iload_n 1, 1) := by decide +kernel
theorem dX12_pairsInOrder_26 : decode cX12_pairsInOrder 26 = .ok (.iconst 1, 1) := by decide +kernel
theorem dX12_pairsInOrder_27 : decode cX12_pairsInOrder 27 = .ok (.iadd, 1) := by decide +kernel
theorem dX12_pairsInOrder_28 : decode cX12_pairsInOrder 28 = .ok (.iaload, 1) := by decide +kernel
theorem dX12_pairsInOrder_29 : decode cX12_pairsInOrder 29 = .ok (.invokevirtual 288, 3) := by decide +kernel
theorem dX12_pairsInOrder_32 : decode cX12_pairsInOrder 32 = .ok (.aload_n 0, 1) := by decide +kernel
theorem dX12_pairsInOrder_33 : decode cX12_pairsInOrder 33 = .ok (.dup, 1) := by decide +kernel
theorem dX12_pairsInOrder_34 : decode cX12_pairsInOrder 34 = .ok (.getfield 285, 3) := by decide +kernel
theorem dX12_pairsInOrder_37 : decode cX12_pairsInOrder 37 = .ok (.iconst 1, 1) := by decide +kernel
theorem dX12_pairsInOrder_38 : decode cX12_pairsInOrder 38 = .ok (.iadd, 1) := by decide +kernel
theorem dX12_pairsInOrder_39 : decode cX12_pairsInOrder 39 = .ok (.putfield 285, 3) := by decide +kernel
theorem dX12_pairsInOrder_42 : decode cX12_pairsInOrder 42 = .ok (.iinc 1 2, 3) := by decide +kernel
theorem dX12_pairsInOrder_45 : decode cX12_pairsInOrder 45 = .ok (.goto (-43), 3) := by decide +kernel
theorem dX12_pairsInOrder_48 : decode cX12_pairsInOrder 48 = .ok (.aload_n 0, 1) := by decide +kernel
theorem dX12_pairsInOrder_49 : decode cX12_pairsInOrder 49 = .ok (.getfield 291, 3) := by decide +kernel
theorem dX12_pairsInOrder_52 : decode cX12_pairsInOrder 52 = .ok (.sipush 1000, 3) := by decide +kernel
theorem dX12_pairsInOrder_55 : decode cX12_pairsInOrder 55 = .ok (.if_icmp .ge 23, 3) := by decide +kernel
theorem dX12_pairsInOrder_58 : decode cX12_pairsInOrder 58 = .ok (.aload_n 0, 1) := by decide +kernel
theorem dX12_pairsInOrder_59 : decode cX12_pairsInOrder 59 = .ok (.invokevirtual 294, 3) := by decide +kernel
theorem dX12_pairsInOrder_62 : decode cX12_pairsInOrder 62 = .ok (.ifCond .eq 16, 3) := by decide +kernel
theorem dX12_pairsInOrder_65 : decode cX12_pairsInOrder 65 = .ok (.aload_n 0, 1) := by decide +kernel
theorem dX12_pairsInOrder_66 : decode cX12_pairsInOrder 66 = .ok (.dup, 1) := by decide +kernel
theorem dX12_pairsInOrder_67 : decode cX12_pairsInOrder 67 = .ok (.getfield 291, 3) := by decide +kernel
theorem dX12_pairsInOrder_70 : decode cX12_pairsInOrder 70 = .ok (.iconst 1, 1) := by decide +kernel
theorem dX12_pairsInOrder_71 : decode cX12_pairsInOrder 71 = .ok (.iadd, 1) := by decide +kernel
theorem dX12_pairsInOrder_72 : decode cX12_pairsInOrder 72 = .ok (.putfield 291, 3) := by decide +kernel
theorem dX12_pairsInOrder_75 : decode cX12_pairsInOrder 75 = .ok (.goto (-27), 3) := by decide +kernel
theorem dX12_pairsInOrder_78 : decode cX12_pairsInOrder 78 = .ok (.return_, 1) := by decide +kernel
theorem dX12_pairsLeast_0 : decode cX12_pairsLeast 0 = .ok (.iconst 1, 1) := by decide +kernel
theorem dX12_pairsLeast_1 : decode cX12_pairsLeast 1 = .ok (.aload_n 0, 1) := by decide +kernel
theorem dX12_pairsLeast_2 : decode cX12_pairsLeast 2 = .ok (.getfield 242, 3) := by decide +kernel
theorem dX12_pairsLeast_5 : decode cX12_pairsLeast 5 = .ok (.ishl, 1) := by decide +kernel
theorem dX12_pairsLeast_6 : decode cX12_pairsLeast 6 = .ok (.iconst 1, 1) := by decide +kernel
theorem dX12_pairsLeast_7 : decode cX12_pairsLeast 7 = .ok (.isub, 1) := by decide +kernel
theorem dX12_pairsLeast_8 : decode cX12_pairsLeast 8 = .ok (.istore_n 1, 1) := by decide +kernel
theorem dX12_pairsLeast_9 : decode cX12_pairsLeast 9 = .ok (.aload_n 0, 1) := by decide +kernel
theorem dX12_pairsLeast_10 : decode cX12_pairsLeast 10 = .ok (.iload_n 1, 1) := by decide +kernel
theorem dX12_pairsLeast_11 : decode cX12_pairsLeast 11 = .ok (.invokevirtual 264, 3) := by decide +kernel
theorem dX12_pairsLeast_14 : decode cX12_pairsLeast 14 = .ok (.iload_n 1, 1) := by decide +kernel
theorem dX12_pairsLeast_15 : decode cX12_pairsLeast 15 = .ok (.ifCond .eq 109, 3) := by decide +kernel
theorem dX12_pairsLeast_18 : decode cX12_pairsLeast 18 = .ok (.iload_n 1, 1) := by decide +kernel
theorem dX12_pairsLeast_19 : decode cX12_pairsLeast 19 = .ok (.invokestatic 254, 3) := by decide +kernel
theorem dX12_pairsLeast_22 : decode cX12_pairsLeast 22 = .ok (.istore_n 2, 1) := by decide +kernel
theorem dX12_pairsLeast_23 : decode cX12_pairsLeast 23 = .ok (.iload_n 2, 1) := by decide +kernel
theorem dX12_pairsLeast_24 : decode cX12_pairsLeast 24 = .ok (.iconst 1, 1) := by decide +kernel
theorem dX12_pairsLeast_25 : decode cX12_pairsLeast 25 = .ok (.iadd, 1) := by decide +kernel
theorem dX12_pairsLeast_26 : decode cX12_pairsLeast 26 = .ok (.istore_n 3, 1) := by decide +kernel
theorem dX12_pairsLeast_27 : decode cX12_pairsLeast 27 = .ok (.iload_n 1, 1) := by decide +kernel
theorem dX12_pairsLeast_28 : decode cX12_pairsLeast 28 = .ok (.iload_n 3, 1) := by decide +kernel
theorem dX12_pairsLeast_29 : decode cX12_pairsLeast 29 = .ok (.ishr, 1) := by decide +kernel
theorem dX12_pairsLeast_30 : decode cX12_pairsLeast 30 = .ok (.iconst 1, 1) := by decide +kernel
theorem dX12_pairsLeast_31 : decode cX12_pairsLeast 31 = .ok (.iand, 1) := by decide +kernel
theorem dX12_pairsLeast_32 : decode cX12_pairsLeast 32 = .ok (.ifCond .eq 43, 3) := by decide +kernel
theorem dX12_pairsLeast_35 : decode cX12_pairsLeast 35 = .ok (.aload_n 0, 1) := by decide +kernel
theorem dX12_pairsLeast_36 : decode cX12_pairsLeast 36 = .ok (.aload_n 0, 1) := by decide +kernel
theorem dX12_pairsLeast_37 : decode cX12_pairsLeast 37 = .ok (.getfield 40, 3) := by decide +kernel
theorem dX12_pairsLeast_40 : decode cX12_pairsLeast 40 = .ok (.iload_n 2, 1) := by decide +kernel
theorem dX12_pairsLeast_41 : decode cX12_pairsLeast 41 = .ok (.iaload, 1) := by decide +kernel
theorem dX12_pairsLeast_42 : decode cX12_pairsLeast 42 = .ok (.aload_n 0, 1) := by decide +kernel
theorem dX12_pairsLeast_43 : decode cX12_pairsLeast 43 = .ok (.getfield 40, 3) := by decide +kernel
theorem dX12_pairsLeast_46 : decode cX12_pairsLeast 46 = .ok (.iload_n 3, 1) := by decide +kernel
theorem dX12_pairsLeast_47 : decode cX12_pairsLeast 47 = .ok (.iaload, 1) := by decide +kernel
theorem dX12_pairsLeast_48 : decode cX12_pairsLeast 48 = .ok (.invokevirtual 257, 3) := by decide +kernel
theorem dX12_pairsLeast_51 : decode cX12_pairsLeast 51 = .ok (.aload_n 0, 1) := by decide +kernel
theorem dX12_pairsLeast_52 : decode cX12_pairsLeast 52 = .ok (.getfield 46, 3) := by decide +kernel
theorem dX12_pairsLeast_55 : decode cX12_pairsLeast 55 = .ok (.iload_n 1, 1) := by decide +kernel
theorem dX12_pairsLeast_56 : decode cX12_pairsLeast 56 = .ok (.iconst 1, 1) := by decide +kernel
theorem dX12_pairsLeast_57 : decode cX12_pairsLeast 57 = .ok (.iload_n 2, 1) := by decide +kernel
theorem dX12_pairsLeast_58 : decode cX12_pairsLeast 58 = .ok (.ishl, 1) := by decide +kernel
theorem dX12_pairsLeast_59 : decode cX12_pairsLeast 59 = .ok (.ixor, 1) := by decide +kernel
theorem dX12_pairsLeast_60 : decode cX12_pairsLeast 60 = .ok (.iconst 1, 1) := by decide +kernel
theorem dX12_pairsLeast_61 : decode cX12_pairsLeast 61 = .ok (.iload_n 3, 1) := by decide +kernel
theorem dX12_pairsLeast_62 : decode cX12_pairsLeast 62 = .ok (.ishl, 1) := by decide +kernel
theorem dX12_pairsLeast_63 : decode cX12_pairsLeast 63 = .ok (.ixor, 1) := by decide +kernel
theorem dX12_pairsLeast_64 : decode cX12_pairsLeast 64 = .ok (.iaload, 1) := by decide +kernel
theorem dX12_pairsLeast_65 : decode cX12_pairsLeast 65 = .ok (.iadd, 1) := by decide +kernel
theorem dX12_pairsLeast_66 : decode cX12_pairsLeast 66 = .ok (.aload_n 0, 1) := by decide +kernel
theorem dX12_pairsLeast_67 : decode cX12_pairsLeast 67 = .ok (.getfield 46, 3) := by decide +kernel
theorem dX12_pairsLeast_70 : decode cX12_pairsLeast 70 = .ok (.iload_n 1, 1) := by decide +kernel
theorem dX12_pairsLeast_71 : decode cX12_pairsLeast 71 = .ok (.iaload, 1) := by decide +kernel
theorem dX12_pairsLeast_72 : decode cX12_pairsLeast 72 = .ok (.if_icmp .eq 9, 3) := by decide +kernel
theorem dX12_pairsLeast_75 : decode cX12_pairsLeast 75 = .ok (.iinc 3 1, 3) := by decide +kernel
theorem dX12_pairsLeast_78 : decode cX12_pairsLeast 78 = .ok (.goto (-51), 3) := by decide +kernel
theorem dX12_pairsLeast_81 : decode cX12_pairsLeast 81 = .ok (.aload_n 0, 1) := by decide +kernel
theorem dX12_pairsLeast_82 : decode cX12_pairsLeast 82 = .ok (.aload_n 0, 1) := by decide +kernel
theorem dX12_pairsLeast_83 : decode cX12_pairsLeast 83 = .ok (.getfield 285, 3) := by decide +kernel
theorem dX12_pairsLeast_86 : decode cX12_pairsLeast 86 = .ok (.aload_n 0, 1) := by decide +kernel
theorem dX12_pairsLeast_87 : decode cX12_pairsLeast 87 = .ok (.getfield 40, 3) := by decide +kernel
theorem dX12_pairsLeast_90 : decode cX12_pairsLeast 90 = .ok (.iload_n 2, 1) := by decide +kernel
theorem dX12_pairsLeast_91 : decode cX12_pairsLeast 91 = .ok (.iaload, 1) := by decide +kernel
theorem dX12_pairsLeast_92 : decode cX12_pairsLeast 92 = .ok (.aload_n 0, 1) := by decide +kernel
theorem dX12_pairsLeast_93 : decode cX12_pairsLeast 93 = .ok (.getfield 40, 3) := by decide +kernel
theorem dX12_pairsLeast_96 : decode cX12_pairsLeast 96 = .ok (.iload_n 3, 1) := by decide +kernel
theorem dX12_pairsLeast_97 : decode cX12_pairsLeast 97 = .ok (.iaload, 1) := by decide +kernel
theorem dX12_pairsLeast_98 : decode cX12_pairsLeast 98 = .ok (.invokevirtual 288, 3) := by decide +kernel
theorem dX12_pairsLeast_101 : decode cX12_pairsLeast 101 = .ok (.aload_n 0, 1) := by decide +kernel
theorem dX12_pairsLeast_102 : decode cX12_pairsLeast 102 = .ok (.dup, 1) := by decide +kernel
theorem dX12_pairsLeast_103 : decode cX12_pairsLeast 103 = .ok (.getfield 285, 3) := by decide +kernel
theorem dX12_pairsLeast_106 : decode cX12_pairsLeast 106 = .ok (.iconst 1, 1) := by decide +kernel
theorem dX12_pairsLeast_107 : decode cX12_pairsLeast 107 = .ok (.iadd, 1) := by decide +kernel
theorem dX12_pairsLeast_108 : decode cX12_pairsLeast 108 = .ok (.putfield 285, 3) := by decide +kernel
theorem dX12_pairsLeast_111 : decode cX12_pairsLeast 111 = .ok (.iload_n 1, 1) := by decide +kernel
theorem dX12_pairsLeast_112 : decode cX12_pairsLeast 112 = .ok (.iconst 1, 1) := by decide +kernel
theorem dX12_pairsLeast_113 : decode cX12_pairsLeast 113 = .ok (.iload_n 2, 1) := by decide +kernel
theorem dX12_pairsLeast_114 : decode cX12_pairsLeast 114 = .ok (.ishl, 1) := by decide +kernel
theorem dX12_pairsLeast_115 : decode cX12_pairsLeast 115 = .ok (.iconst 1, 1) := by decide +kernel
theorem dX12_pairsLeast_116 : decode cX12_pairsLeast 116 = .ok (.iload_n 3, 1) := by decide +kernel
theorem dX12_pairsLeast_117 : decode cX12_pairsLeast 117 = .ok (.ishl, 1) := by decide +kernel
theorem dX12_pairsLeast_118 : decode cX12_pairsLeast 118 = .ok (.ixor, 1) := by decide +kernel
theorem dX12_pairsLeast_119 : decode cX12_pairsLeast 119 = .ok (.ixor, 1) := by decide +kernel
theorem dX12_pairsLeast_120 : decode cX12_pairsLeast 120 = .ok (.istore_n 1, 1) := by decide +kernel
theorem dX12_pairsLeast_121 : decode cX12_pairsLeast 121 = .ok (.goto (-107), 3) := by decide +kernel
theorem dX12_pairsLeast_124 : decode cX12_pairsLeast 124 = .ok (.return_, 1) := by decide +kernel
theorem dX12_pairsUp_0 : decode cX12_pairsUp 0 = .ok (.aload_n 0, 1) := by decide +kernel
theorem dX12_pairsUp_1 : decode cX12_pairsUp 1 = .ok (.getfield 49, 3) := by decide +kernel
theorem dX12_pairsUp_4 : decode cX12_pairsUp 4 = .ok (.iload_n 1, 1) := by decide +kernel
theorem dX12_pairsUp_5 : decode cX12_pairsUp 5 = .ok (.iload_n 2, 1) := by decide +kernel
theorem dX12_pairsUp_6 : decode cX12_pairsUp 6 = .ok (.iload_n 3, 1) := by decide +kernel
theorem dX12_pairsUp_7 : decode cX12_pairsUp 7 = .ok (.invokestatic 156, 3) := by decide +kernel
theorem dX12_pairsUp_10 : decode cX12_pairsUp 10 = .ok (.iastore, 1) := by decide +kernel
theorem dX12_pairsUp_11 : decode cX12_pairsUp 11 = .ok (.aload_n 0, 1) := by decide +kernel
theorem dX12_pairsUp_12 : decode cX12_pairsUp 12 = .ok (.getfield 52, 3) := by decide +kernel
theorem dX12_pairsUp_15 : decode cX12_pairsUp 15 = .ok (.iload_n 1, 1) := by decide +kernel
theorem dX12_pairsUp_16 : decode cX12_pairsUp 16 = .ok (.iload_n 2, 1) := by decide +kernel
theorem dX12_pairsUp_17 : decode cX12_pairsUp 17 = .ok (.iload_n 3, 1) := by decide +kernel
theorem dX12_pairsUp_18 : decode cX12_pairsUp 18 = .ok (.iadd, 1) := by decide +kernel
theorem dX12_pairsUp_19 : decode cX12_pairsUp 19 = .ok (.iload_n 2, 1) := by decide +kernel
theorem dX12_pairsUp_20 : decode cX12_pairsUp 20 = .ok (.iload_n 3, 1) := by decide +kernel
theorem dX12_pairsUp_21 : decode cX12_pairsUp 21 = .ok (.invokestatic 156, 3) := by decide +kernel
theorem dX12_pairsUp_24 : decode cX12_pairsUp 24 = .ok (.isub, 1) := by decide +kernel
theorem dX12_pairsUp_25 : decode cX12_pairsUp 25 = .ok (.iastore, 1) := by decide +kernel
theorem dX12_pairsUp_26 : decode cX12_pairsUp 26 = .ok (.return_, 1) := by decide +kernel
theorem dX12_part_0 : decode cX12_part 0 = .ok (.aload_n 0, 1) := by decide +kernel
theorem dX12_part_1 : decode cX12_part 1 = .ok (.iload_n 1, 1) := by decide +kernel
theorem dX12_part_2 : decode cX12_part 2 = .ok (.invokevirtual 197, 3) := by decide +kernel
theorem dX12_part_5 : decode cX12_part 5 = .ok (.ifCond .eq 13, 3) := by decide +kernel
theorem dX12_part_8 : decode cX12_part 8 = .ok (.iload_n 2, 1) := by decide +kernel
theorem dX12_part_9 : decode cX12_part 9 = .ok (.iconst 0, 1) := by decide +kernel
theorem dX12_part_10 : decode cX12_part 10 = .ok (.bipush 8, 2) := by decide +kernel
theorem dX12_part_12 : decode cX12_part 12 = .ok (.invokestatic 88, 3) := by decide +kernel
theorem dX12_part_15 : decode cX12_part 15 = .ok (.ifCond .ne 12, 3) := by decide +kernel
theorem dX12_part_18 : decode cX12_part 18 = .ok (.aload_n 0, 1) := by decide +kernel
theorem dX12_part_19 : decode cX12_part 19 = .ok (.bipush (-2), 2) := by decide +kernel
theorem dX12_part_21 : decode cX12_part 21 = .ok (.invokevirtual 92, 3) := by decide +kernel
theorem dX12_part_24 : decode cX12_part 24 = .ok (.goto 13, 3) := by decide +kernel
theorem dX12_part_27 : decode cX12_part 27 = .ok (.aload_n 0, 1) := by decide +kernel
theorem dX12_part_28 : decode cX12_part 28 = .ok (.aload_n 0, 1) := by decide +kernel
theorem dX12_part_29 : decode cX12_part 29 = .ok (.iload_n 1, 1) := by decide +kernel
theorem dX12_part_30 : decode cX12_part 30 = .ok (.iload_n 2, 1) := by decide +kernel
theorem dX12_part_31 : decode cX12_part 31 = .ok (.invokevirtual 338, 3) := by decide +kernel
theorem dX12_part_34 : decode cX12_part 34 = .ok (.invokevirtual 102, 3) := by decide +kernel
theorem dX12_part_37 : decode cX12_part 37 = .ok (.ireturn, 1) := by decide +kernel
theorem dX12_partAt_0 : decode cX12_partAt 0 = .ok (.aload_n 0, 1) := by decide +kernel
theorem dX12_partAt_1 : decode cX12_partAt 1 = .ok (.iload_n 1, 1) := by decide +kernel
theorem dX12_partAt_2 : decode cX12_partAt 2 = .ok (.invokevirtual 188, 3) := by decide +kernel
theorem dX12_partAt_5 : decode cX12_partAt 5 = .ok (.istore_n 3, 1) := by decide +kernel
theorem dX12_partAt_6 : decode cX12_partAt 6 = .ok (.iload_n 2, 1) := by decide +kernel
theorem dX12_partAt_7 : decode cX12_partAt 7 = .ok (.tableswitch 139 0 7 #[45, 55, 65, 75, 85, 95, 104, 129], 45) := by decide +kernel
theorem dX12_partAt_52 : decode cX12_partAt 52 = .ok (.aload_n 0, 1) := by decide +kernel
theorem dX12_partAt_53 : decode cX12_partAt 53 = .ok (.getfield 7, 3) := by decide +kernel
theorem dX12_partAt_56 : decode cX12_partAt 56 = .ok (.iload_n 3, 1) := by decide +kernel
theorem dX12_partAt_57 : decode cX12_partAt 57 = .ok (.bipush 6, 2) := by decide +kernel
theorem dX12_partAt_59 : decode cX12_partAt 59 = .ok (.iadd, 1) := by decide +kernel
theorem dX12_partAt_60 : decode cX12_partAt 60 = .ok (.iaload, 1) := by decide +kernel
theorem dX12_partAt_61 : decode cX12_partAt 61 = .ok (.ireturn, 1) := by decide +kernel
theorem dX12_partAt_62 : decode cX12_partAt 62 = .ok (.aload_n 0, 1) := by decide +kernel
theorem dX12_partAt_63 : decode cX12_partAt 63 = .ok (.getfield 7, 3) := by decide +kernel
theorem dX12_partAt_66 : decode cX12_partAt 66 = .ok (.iload_n 3, 1) := by decide +kernel
theorem dX12_partAt_67 : decode cX12_partAt 67 = .ok (.bipush 7, 2) := by decide +kernel
theorem dX12_partAt_69 : decode cX12_partAt 69 = .ok (.iadd, 1) := by decide +kernel
theorem dX12_partAt_70 : decode cX12_partAt 70 = .ok (.iaload, 1) := by decide +kernel
theorem dX12_partAt_71 : decode cX12_partAt 71 = .ok (.ireturn, 1) := by decide +kernel
theorem dX12_partAt_72 : decode cX12_partAt 72 = .ok (.aload_n 0, 1) := by decide +kernel
theorem dX12_partAt_73 : decode cX12_partAt 73 = .ok (.getfield 7, 3) := by decide +kernel
theorem dX12_partAt_76 : decode cX12_partAt 76 = .ok (.iload_n 3, 1) := by decide +kernel
theorem dX12_partAt_77 : decode cX12_partAt 77 = .ok (.bipush 8, 2) := by decide +kernel
theorem dX12_partAt_79 : decode cX12_partAt 79 = .ok (.iadd, 1) := by decide +kernel
theorem dX12_partAt_80 : decode cX12_partAt 80 = .ok (.iaload, 1) := by decide +kernel
theorem dX12_partAt_81 : decode cX12_partAt 81 = .ok (.ireturn, 1) := by decide +kernel
theorem dX12_partAt_82 : decode cX12_partAt 82 = .ok (.aload_n 0, 1) := by decide +kernel
theorem dX12_partAt_83 : decode cX12_partAt 83 = .ok (.getfield 7, 3) := by decide +kernel
theorem dX12_partAt_86 : decode cX12_partAt 86 = .ok (.iload_n 3, 1) := by decide +kernel
theorem dX12_partAt_87 : decode cX12_partAt 87 = .ok (.bipush 9, 2) := by decide +kernel
theorem dX12_partAt_89 : decode cX12_partAt 89 = .ok (.iadd, 1) := by decide +kernel
theorem dX12_partAt_90 : decode cX12_partAt 90 = .ok (.iaload, 1) := by decide +kernel
theorem dX12_partAt_91 : decode cX12_partAt 91 = .ok (.ireturn, 1) := by decide +kernel
theorem dX12_partAt_92 : decode cX12_partAt 92 = .ok (.aload_n 0, 1) := by decide +kernel
theorem dX12_partAt_93 : decode cX12_partAt 93 = .ok (.getfield 7, 3) := by decide +kernel
theorem dX12_partAt_96 : decode cX12_partAt 96 = .ok (.iload_n 3, 1) := by decide +kernel
theorem dX12_partAt_97 : decode cX12_partAt 97 = .ok (.bipush 10, 2) := by decide +kernel
theorem dX12_partAt_99 : decode cX12_partAt 99 = .ok (.iadd, 1) := by decide +kernel
theorem dX12_partAt_100 : decode cX12_partAt 100 = .ok (.iaload, 1) := by decide +kernel
theorem dX12_partAt_101 : decode cX12_partAt 101 = .ok (.ireturn, 1) := by decide +kernel
theorem dX12_partAt_102 : decode cX12_partAt 102 = .ok (.aload_n 0, 1) := by decide +kernel
theorem dX12_partAt_103 : decode cX12_partAt 103 = .ok (.getfield 7, 3) := by decide +kernel
theorem dX12_partAt_106 : decode cX12_partAt 106 = .ok (.iload_n 3, 1) := by decide +kernel
theorem dX12_partAt_107 : decode cX12_partAt 107 = .ok (.iconst 1, 1) := by decide +kernel
theorem dX12_partAt_108 : decode cX12_partAt 108 = .ok (.iadd, 1) := by decide +kernel
theorem dX12_partAt_109 : decode cX12_partAt 109 = .ok (.iaload, 1) := by decide +kernel
theorem dX12_partAt_110 : decode cX12_partAt 110 = .ok (.ireturn, 1) := by decide +kernel
theorem dX12_partAt_111 : decode cX12_partAt 111 = .ok (.aload_n 0, 1) := by decide +kernel
theorem dX12_partAt_112 : decode cX12_partAt 112 = .ok (.getfield 7, 3) := by decide +kernel
theorem dX12_partAt_115 : decode cX12_partAt 115 = .ok (.iload_n 3, 1) := by decide +kernel
theorem dX12_partAt_116 : decode cX12_partAt 116 = .ok (.iconst 2, 1) := by decide +kernel
theorem dX12_partAt_117 : decode cX12_partAt 117 = .ok (.iadd, 1) := by decide +kernel
theorem dX12_partAt_118 : decode cX12_partAt 118 = .ok (.iaload, 1) := by decide +kernel
theorem dX12_partAt_119 : decode cX12_partAt 119 = .ok (.iconst 1, 1) := by decide +kernel
theorem dX12_partAt_120 : decode cX12_partAt 120 = .ok (.if_icmp .ne 7, 3) := by decide +kernel
theorem dX12_partAt_123 : decode cX12_partAt 123 = .ok (.iconst (-1), 1) := by decide +kernel
theorem dX12_partAt_124 : decode cX12_partAt 124 = .ok (.goto 11, 3) := by decide +kernel
theorem dX12_partAt_127 : decode cX12_partAt 127 = .ok (.aload_n 0, 1) := by decide +kernel
theorem dX12_partAt_128 : decode cX12_partAt 128 = .ok (.getfield 7, 3) := by decide +kernel
theorem dX12_partAt_131 : decode cX12_partAt 131 = .ok (.iload_n 3, 1) := by decide +kernel
theorem dX12_partAt_132 : decode cX12_partAt 132 = .ok (.iconst 0, 1) := by decide +kernel
theorem dX12_partAt_133 : decode cX12_partAt 133 = .ok (.iadd, 1) := by decide +kernel
theorem dX12_partAt_134 : decode cX12_partAt 134 = .ok (.iaload, 1) := by decide +kernel
theorem dX12_partAt_135 : decode cX12_partAt 135 = .ok (.ireturn, 1) := by decide +kernel
theorem dX12_partAt_136 : decode cX12_partAt 136 = .ok (.aload_n 0, 1) := by decide +kernel
theorem dX12_partAt_137 : decode cX12_partAt 137 = .ok (.getfield 7, 3) := by decide +kernel
theorem dX12_partAt_140 : decode cX12_partAt 140 = .ok (.iload_n 3, 1) := by decide +kernel
theorem dX12_partAt_141 : decode cX12_partAt 141 = .ok (.bipush 11, 2) := by decide +kernel
theorem dX12_partAt_143 : decode cX12_partAt 143 = .ok (.iadd, 1) := by decide +kernel
theorem dX12_partAt_144 : decode cX12_partAt 144 = .ok (.iaload, 1) := by decide +kernel
theorem dX12_partAt_145 : decode cX12_partAt 145 = .ok (.ireturn, 1) := by decide +kernel
theorem dX12_partAt_146 : decode cX12_partAt 146 = .ok (.aload_n 0, 1) := by decide +kernel
theorem dX12_partAt_147 : decode cX12_partAt 147 = .ok (.getfield 7, 3) := by decide +kernel
theorem dX12_partAt_150 : decode cX12_partAt 150 = .ok (.iload_n 3, 1) := by decide +kernel
theorem dX12_partAt_151 : decode cX12_partAt 151 = .ok (.bipush 12, 2) := by decide +kernel
theorem dX12_partAt_153 : decode cX12_partAt 153 = .ok (.iadd, 1) := by decide +kernel
theorem dX12_partAt_154 : decode cX12_partAt 154 = .ok (.iaload, 1) := by decide +kernel
theorem dX12_partAt_155 : decode cX12_partAt 155 = .ok (.ireturn, 1) := by decide +kernel
theorem dX12_partner_0 : decode cX12_partner 0 = .ok (.aload_n 0, 1) := by decide +kernel
theorem dX12_partner_1 : decode cX12_partner 1 = .ok (.iload_n 1, 1) := by decide +kernel
theorem dX12_partner_2 : decode cX12_partner 2 = .ok (.invokevirtual 105, 3) := by decide +kernel
theorem dX12_partner_5 : decode cX12_partner 5 = .ok (.ifCond .eq 20, 3) := by decide +kernel
theorem dX12_partner_8 : decode cX12_partner 8 = .ok (.aload_n 0, 1) := by decide +kernel
theorem dX12_partner_9 : decode cX12_partner 9 = .ok (.aload_n 0, 1) := by decide +kernel
theorem dX12_partner_10 : decode cX12_partner 10 = .ok (.getfield 7, 3) := by decide +kernel
theorem dX12_partner_13 : decode cX12_partner 13 = .ok (.sipush 9582, 3) := by decide +kernel
theorem dX12_partner_16 : decode cX12_partner 16 = .ok (.iload_n 1, 1) := by decide +kernel
theorem dX12_partner_17 : decode cX12_partner 17 = .ok (.iadd, 1) := by decide +kernel
theorem dX12_partner_18 : decode cX12_partner 18 = .ok (.iaload, 1) := by decide +kernel
theorem dX12_partner_19 : decode cX12_partner 19 = .ok (.invokevirtual 102, 3) := by decide +kernel
theorem dX12_partner_22 : decode cX12_partner 22 = .ok (.goto 9, 3) := by decide +kernel
theorem dX12_partner_25 : decode cX12_partner 25 = .ok (.aload_n 0, 1) := by decide +kernel
theorem dX12_partner_26 : decode cX12_partner 26 = .ok (.bipush (-2), 2) := by decide +kernel
theorem dX12_partner_28 : decode cX12_partner 28 = .ok (.invokevirtual 92, 3) := by decide +kernel
theorem dX12_partner_31 : decode cX12_partner 31 = .ok (.ireturn, 1) := by decide +kernel
theorem dX12_passes_0 : decode cX12_passes 0 = .ok (.aload_n 0, 1) := by decide +kernel
theorem dX12_passes_1 : decode cX12_passes 1 = .ok (.iload_n 1, 1) := by decide +kernel
theorem dX12_passes_2 : decode cX12_passes 2 = .ok (.invokevirtual 227, 3) := by decide +kernel
theorem dX12_passes_5 : decode cX12_passes 5 = .ok (.istore_n 3, 1) := by decide +kernel
theorem dX12_passes_6 : decode cX12_passes 6 = .ok (.aload_n 0, 1) := by decide +kernel
theorem dX12_passes_7 : decode cX12_passes 7 = .ok (.iload_n 1, 1) := by decide +kernel
theorem dX12_passes_8 : decode cX12_passes 8 = .ok (.invokevirtual 206, 3) := by decide +kernel
theorem dX12_passes_11 : decode cX12_passes 11 = .ok (.istore 4, 2) := by decide +kernel
theorem dX12_passes_13 : decode cX12_passes 13 = .ok (.aload_n 0, 1) := by decide +kernel
theorem dX12_passes_14 : decode cX12_passes 14 = .ok (.dup, 1) := by decide +kernel
theorem dX12_passes_15 : decode cX12_passes 15 = .ok (.getfield 221, 3) := by decide +kernel
theorem dX12_passes_18 : decode cX12_passes 18 = .ok (.iload 4, 2) := by decide +kernel
theorem dX12_passes_20 : decode cX12_passes 20 = .ok (.iconst 1, 1) := by decide +kernel
theorem dX12_passes_21 : decode cX12_passes 21 = .ok (.if_icmp .ne 9, 3) := by decide +kernel
theorem dX12_passes_24 : decode cX12_passes 24 = .ok (.sipush 1000, 3) := by decide +kernel
theorem dX12_passes_27 : decode cX12_passes 27 = .ok (.goto 17, 3) := by decide +kernel
theorem dX12_passes_30 : decode cX12_passes 30 = .ok (.iload 4, 2) := by decide +kernel
theorem dX12_passes_32 : decode cX12_passes 32 = .ok (.iconst 4, 1) := by decide +kernel
theorem dX12_passes_33 : decode cX12_passes 33 = .ok (.if_icmp .ne 9, 3) := by decide +kernel
theorem dX12_passes_36 : decode cX12_passes 36 = .ok (.sipush 10000, 3) := by decide +kernel
theorem dX12_passes_39 : decode cX12_passes 39 = .ok (.goto 5, 3) := by decide +kernel
theorem dX12_passes_42 : decode cX12_passes 42 = .ok (.bipush 100, 2) := by decide +kernel
theorem dX12_passes_44 : decode cX12_passes 44 = .ok (.iadd, 1) := by decide +kernel
theorem dX12_passes_45 : decode cX12_passes 45 = .ok (.putfield 221, 3) := by decide +kernel
theorem dX12_passes_48 : decode cX12_passes 48 = .ok (.iload_n 2, 1) := by decide +kernel
theorem dX12_passes_49 : decode cX12_passes 49 = .ok (.iload_n 3, 1) := by decide +kernel
theorem dX12_passes_50 : decode cX12_passes 50 = .ok (.if_icmp .gt 5, 3) := by decide +kernel
theorem dX12_passes_53 : decode cX12_passes 53 = .ok (.iconst 1, 1) := by decide +kernel
theorem dX12_passes_54 : decode cX12_passes 54 = .ok (.ireturn, 1) := by decide +kernel
theorem dX12_passes_55 : decode cX12_passes 55 = .ok (.iload 4, 2) := by decide +kernel
theorem dX12_passes_57 : decode cX12_passes 57 = .ok (.iconst 1, 1) := by decide +kernel
theorem dX12_passes_58 : decode cX12_passes 58 = .ok (.if_icmp .ne 18, 3) := by decide +kernel
theorem dX12_passes_61 : decode cX12_passes 61 = .ok (.iload_n 2, 1) := by decide +kernel
theorem dX12_passes_62 : decode cX12_passes 62 = .ok (.iconst 3, 1) := by decide +kernel
theorem dX12_passes_63 : decode cX12_passes 63 = .ok (.iload_n 3, 1) := by decide +kernel
theorem dX12_passes_64 : decode cX12_passes 64 = .ok (.imul, 1) := by decide +kernel
theorem dX12_passes_65 : decode cX12_passes 65 = .ok (.if_icmp .gt 7, 3) := by decide +kernel
theorem dX12_passes_68 : decode cX12_passes 68 = .ok (.iconst 3, 1) := by decide +kernel
theorem dX12_passes_69 : decode cX12_passes 69 = .ok (.goto 19, 3) := by decide +kernel
theorem dX12_passes_72 : decode cX12_passes 72 = .ok (.iconst 0, 1) := by decide +kernel
theorem dX12_passes_73 : decode cX12_passes 73 = .ok (.goto 15, 3) := by decide +kernel
theorem dX12_passes_76 : decode cX12_passes 76 = .ok (.iload_n 2, 1) := by decide +kernel
theorem dX12_passes_77 : decode cX12_passes 77 = .ok (.iconst 2, 1) := by decide +kernel
theorem dX12_passes_78 : decode cX12_passes 78 = .ok (.iload_n 3, 1) := by decide +kernel
theorem dX12_passes_79 : decode cX12_passes 79 = .ok (.imul, 1) := by decide +kernel
theorem dX12_passes_80 : decode cX12_passes 80 = .ok (.if_icmp .gt 7, 3) := by decide +kernel
theorem dX12_passes_83 : decode cX12_passes 83 = .ok (.iconst 2, 1) := by decide +kernel
theorem dX12_passes_84 : decode cX12_passes 84 = .ok (.goto 4, 3) := by decide +kernel
theorem dX12_passes_87 : decode cX12_passes 87 = .ok (.iconst 0, 1) := by decide +kernel
theorem dX12_passes_88 : decode cX12_passes 88 = .ok (.ireturn, 1) := by decide +kernel
theorem dX12_pl_0 : decode cX12_pl 0 = .ok (.sipush 9426, 3) := by decide +kernel
theorem dX12_pl_3 : decode cX12_pl 3 = .ok (.bipush 13, 2) := by decide +kernel
theorem dX12_pl_5 : decode cX12_pl 5 = .ok (.iload_n 1, 1) := by decide +kernel
theorem dX12_pl_6 : decode cX12_pl 6 = .ok (.imul, 1) := by decide +kernel
theorem dX12_pl_7 : decode cX12_pl 7 = .ok (.iadd, 1) := by decide +kernel
theorem dX12_pl_8 : decode cX12_pl 8 = .ok (.ireturn, 1) := by decide +kernel
theorem dX12_plough_0 : decode cX12_plough 0 = .ok (.iload_n 1, 1) := by decide +kernel
theorem dX12_plough_1 : decode cX12_plough 1 = .ok (.iconst 0, 1) := by decide +kernel
theorem dX12_plough_2 : decode cX12_plough 2 = .ok (.iconst 3, 1) := by decide +kernel
theorem dX12_plough_3 : decode cX12_plough 3 = .ok (.invokestatic 88, 3) := by decide +kernel
theorem dX12_plough_6 : decode cX12_plough 6 = .ok (.ifCond .eq 14, 3) := by decide +kernel
theorem dX12_plough_9 : decode cX12_plough 9 = .ok (.iload_n 2, 1) := by decide +kernel
theorem dX12_plough_10 : decode cX12_plough 10 = .ok (.iconst 0, 1) := by decide +kernel
theorem dX12_plough_11 : decode cX12_plough 11 = .ok (.sipush 10000, 3) := by decide +kernel
theorem dX12_plough_14 : decode cX12_plough 14 = .ok (.invokestatic 88, 3) := by decide +kernel
theorem dX12_plough_17 : decode cX12_plough 17 = .ok (.ifCond .ne 10, 3) := by decide +kernel
theorem dX12_plough_20 : decode cX12_plough 20 = .ok (.aload_n 0, 1) := by decide +kernel
theorem dX12_plough_21 : decode cX12_plough 21 = .ok (.bipush (-2), 2) := by decide +kernel
theorem dX12_plough_23 : decode cX12_plough 23 = .ok (.invokevirtual 92, 3) := by decide +kernel
theorem dX12_plough_26 : decode cX12_plough 26 = .ok (.ireturn, 1) := by decide +kernel
theorem dX12_plough_27 : decode cX12_plough 27 = .ok (.aload_n 0, 1) := by decide +kernel
theorem dX12_plough_28 : decode cX12_plough 28 = .ok (.getfield 7, 3) := by decide +kernel
theorem dX12_plough_31 : decode cX12_plough 31 = .ok (.iconst 3, 1) := by decide +kernel
theorem dX12_plough_32 : decode cX12_plough 32 = .ok (.iaload, 1) := by decide +kernel
theorem dX12_plough_33 : decode cX12_plough 33 = .ok (.bipush 12, 2) := by decide +kernel
theorem dX12_plough_35 : decode cX12_plough 35 = .ok (.if_icmp .ne 10, 3) := by decide +kernel
theorem dX12_plough_38 : decode cX12_plough 38 = .ok (.aload_n 0, 1) := by decide +kernel
theorem dX12_plough_39 : decode cX12_plough 39 = .ok (.bipush (-3), 2) := by decide +kernel
theorem dX12_plough_41 : decode cX12_plough 41 = .ok (.invokevirtual 92, 3) := by decide +kernel
theorem dX12_plough_44 : decode cX12_plough 44 = .ok (.ireturn, 1) := by decide +kernel
theorem dX12_plough_45 : decode cX12_plough 45 = .ok (.aload_n 0, 1) := by decide +kernel
theorem dX12_plough_46 : decode cX12_plough 46 = .ok (.invokevirtual 96, 3) := by decide +kernel
theorem dX12_plough_49 : decode cX12_plough 49 = .ok (.aload_n 0, 1) := by decide +kernel
theorem dX12_plough_50 : decode cX12_plough 50 = .ok (.iload_n 1, 1) := by decide +kernel
theorem dX12_plough_51 : decode cX12_plough 51 = .ok (.iload_n 2, 1) := by decide +kernel
theorem dX12_plough_52 : decode cX12_plough 52 = .ok (.iconst (-1), 1) := by decide +kernel
theorem dX12_plough_53 : decode cX12_plough 53 = .ok (.iconst (-1), 1) := by decide +kernel
theorem dX12_plough_54 : decode cX12_plough 54 = .ok (.invokevirtual 191, 3) := by decide +kernel
theorem dX12_plough_57 : decode cX12_plough 57 = .ok (.ireturn, 1) := by decide +kernel
theorem dX12_reach_0 : decode cX12_reach 0 = .ok (.aload_n 0, 1) := by decide +kernel
theorem dX12_reach_1 : decode cX12_reach 1 = .ok (.iload_n 1, 1) := by decide +kernel
theorem dX12_reach_2 : decode cX12_reach 2 = .ok (.invokevirtual 206, 3) := by decide +kernel
theorem dX12_reach_5 : decode cX12_reach 5 = .ok (.iconst 4, 1) := by decide +kernel
theorem dX12_reach_6 : decode cX12_reach 6 = .ok (.if_icmp .ne 23, 3) := by decide +kernel
theorem dX12_reach_9 : decode cX12_reach 9 = .ok (.aload_n 0, 1) := by decide +kernel
theorem dX12_reach_10 : decode cX12_reach 10 = .ok (.iload_n 1, 1) := by decide +kernel
theorem dX12_reach_11 : decode cX12_reach 11 = .ok (.invokevirtual 209, 3) := by decide +kernel
theorem dX12_reach_14 : decode cX12_reach 14 = .ok (.invokestatic 218, 3) := by decide +kernel
theorem dX12_reach_17 : decode cX12_reach 17 = .ok (.aload_n 0, 1) := by decide +kernel
theorem dX12_reach_18 : decode cX12_reach 18 = .ok (.iload_n 1, 1) := by decide +kernel
theorem dX12_reach_19 : decode cX12_reach 19 = .ok (.invokevirtual 215, 3) := by decide +kernel
theorem dX12_reach_22 : decode cX12_reach 22 = .ok (.invokestatic 218, 3) := by decide +kernel
theorem dX12_reach_25 : decode cX12_reach 25 = .ok (.iadd, 1) := by decide +kernel
theorem dX12_reach_26 : decode cX12_reach 26 = .ok (.goto 11, 3) := by decide +kernel
theorem dX12_reach_29 : decode cX12_reach 29 = .ok (.aload_n 0, 1) := by decide +kernel
theorem dX12_reach_30 : decode cX12_reach 30 = .ok (.iload_n 1, 1) := by decide +kernel
theorem dX12_reach_31 : decode cX12_reach 31 = .ok (.invokevirtual 206, 3) := by decide +kernel
theorem dX12_reach_34 : decode cX12_reach 34 = .ok (.invokestatic 218, 3) := by decide +kernel
theorem dX12_reach_37 : decode cX12_reach 37 = .ok (.ireturn, 1) := by decide +kernel
theorem dX12_reachOf_0 : decode cX12_reachOf 0 = .ok (.iload_n 0, 1) := by decide +kernel
theorem dX12_reachOf_1 : decode cX12_reachOf 1 = .ok (.iconst 1, 1) := by decide +kernel
theorem dX12_reachOf_2 : decode cX12_reachOf 2 = .ok (.if_icmp .ne 9, 3) := by decide +kernel
theorem dX12_reachOf_5 : decode cX12_reachOf 5 = .ok (.sipush 600, 3) := by decide +kernel
theorem dX12_reachOf_8 : decode cX12_reachOf 8 = .ok (.goto 17, 3) := by decide +kernel
theorem dX12_reachOf_11 : decode cX12_reachOf 11 = .ok (.iload_n 0, 1) := by decide +kernel
theorem dX12_reachOf_12 : decode cX12_reachOf 12 = .ok (.iconst 3, 1) := by decide +kernel
theorem dX12_reachOf_13 : decode cX12_reachOf 13 = .ok (.if_icmp .ne 9, 3) := by decide +kernel
theorem dX12_reachOf_16 : decode cX12_reachOf 16 = .ok (.sipush 400, 3) := by decide +kernel
theorem dX12_reachOf_19 : decode cX12_reachOf 19 = .ok (.goto 6, 3) := by decide +kernel
theorem dX12_reachOf_22 : decode cX12_reachOf 22 = .ok (.sipush 200, 3) := by decide +kernel
theorem dX12_reachOf_25 : decode cX12_reachOf 25 = .ok (.ireturn, 1) := by decide +kernel
theorem dX12_read_0 : decode cX12_read 0 = .ok (.aload_n 0, 1) := by decide +kernel
theorem dX12_read_1 : decode cX12_read 1 = .ok (.iload_n 1, 1) := by decide +kernel
theorem dX12_read_2 : decode cX12_read 2 = .ok (.invokevirtual 143, 3) := by decide +kernel
theorem dX12_read_5 : decode cX12_read 5 = .ok (.ifCond .ne 10, 3) := by decide +kernel
theorem dX12_read_8 : decode cX12_read 8 = .ok (.aload_n 0, 1) := by decide +kernel
theorem dX12_read_9 : decode cX12_read 9 = .ok (.bipush (-2), 2) := by decide +kernel
theorem dX12_read_11 : decode cX12_read 11 = .ok (.invokevirtual 92, 3) := by decide +kernel
theorem dX12_read_14 : decode cX12_read 14 = .ok (.ireturn, 1) := by decide +kernel
theorem dX12_read_15 : decode cX12_read 15 = .ok (.aload_n 0, 1) := by decide +kernel
theorem dX12_read_16 : decode cX12_read 16 = .ok (.iload_n 1, 1) := by decide +kernel
theorem dX12_read_17 : decode cX12_read 17 = .ok (.iload_n 2, 1) := by decide +kernel
theorem dX12_read_18 : decode cX12_read 18 = .ok (.invokevirtual 146, 3) := by decide +kernel
theorem dX12_read_21 : decode cX12_read 21 = .ok (.istore_n 3, 1) := by decide +kernel
theorem dX12_read_22 : decode cX12_read 22 = .ok (.iload_n 3, 1) := by decide +kernel
theorem dX12_read_23 : decode cX12_read 23 = .ok (.ifCond .eq 11, 3) := by decide +kernel
theorem dX12_read_26 : decode cX12_read 26 = .ok (.aload_n 0, 1) := by decide +kernel
theorem dX12_read_27 : decode cX12_read 27 = .ok (.iload_n 3, 1) := by decide +kernel
theorem dX12_read_28 : decode cX12_read 28 = .ok (.invokevirtual 92, 3) := by decide +kernel
theorem dX12_read_31 : decode cX12_read 31 = .ok (.goto 13, 3) := by decide +kernel
theorem dX12_read_34 : decode cX12_read 34 = .ok (.aload_n 0, 1) := by decide +kernel
theorem dX12_read_35 : decode cX12_read 35 = .ok (.aload_n 0, 1) := by decide +kernel
theorem dX12_read_36 : decode cX12_read 36 = .ok (.iload_n 1, 1) := by decide +kernel
theorem dX12_read_37 : decode cX12_read 37 = .ok (.iload_n 2, 1) := by decide +kernel
theorem dX12_read_38 : decode cX12_read 38 = .ok (.invokevirtual 167, 3) := by decide +kernel
theorem dX12_read_41 : decode cX12_read 41 = .ok (.invokevirtual 102, 3) := by decide +kernel
theorem dX12_read_44 : decode cX12_read 44 = .ok (.ireturn, 1) := by decide +kernel
theorem dX12_reading_0 : decode cX12_reading 0 = .ok (.aload_n 0, 1) := by decide +kernel
theorem dX12_reading_1 : decode cX12_reading 1 = .ok (.iload_n 1, 1) := by decide +kernel
theorem dX12_reading_2 : decode cX12_reading 2 = .ok (.invokevirtual 143, 3) := by decide +kernel
theorem dX12_reading_5 : decode cX12_reading 5 = .ok (.ifCond .ne 10, 3) := by decide +kernel
theorem dX12_reading_8 : decode cX12_reading 8 = .ok (.aload_n 0, 1) := by decide +kernel
theorem dX12_reading_9 : decode cX12_reading 9 = .ok (.bipush (-2), 2) := by decide +kernel
theorem dX12_reading_11 : decode cX12_reading 11 = .ok (.invokevirtual 92, 3) := by decide +kernel
theorem dX12_reading_14 : decode cX12_reading 14 = .ok (.ireturn, 1) := by decide +kernel
theorem dX12_reading_15 : decode cX12_reading 15 = .ok (.aload_n 0, 1) := by decide +kernel
theorem dX12_reading_16 : decode cX12_reading 16 = .ok (.getfield 7, 3) := by decide +kernel
theorem dX12_reading_19 : decode cX12_reading 19 = .ok (.aload_n 0, 1) := by decide +kernel
theorem dX12_reading_20 : decode cX12_reading 20 = .ok (.iload_n 1, 1) := by decide +kernel
theorem dX12_reading_21 : decode cX12_reading 21 = .ok (.invokevirtual 140, 3) := by decide +kernel
theorem dX12_reading_24 : decode cX12_reading 24 = .ok (.iconst 1, 1) := by decide +kernel
theorem dX12_reading_25 : decode cX12_reading 25 = .ok (.iadd, 1) := by decide +kernel
theorem dX12_reading_26 : decode cX12_reading 26 = .ok (.iaload, 1) := by decide +kernel
theorem dX12_reading_27 : decode cX12_reading 27 = .ok (.ifCond .ne 12, 3) := by decide +kernel
theorem dX12_reading_30 : decode cX12_reading 30 = .ok (.aload_n 0, 1) := by decide +kernel
theorem dX12_reading_31 : decode cX12_reading 31 = .ok (.iload_n 1, 1) := by decide +kernel
theorem dX12_reading_32 : decode cX12_reading 32 = .ok (.iload_n 2, 1) := by decide +kernel
theorem dX12_reading_33 : decode cX12_reading 33 = .ok (.iload_n 3, 1) := by decide +kernel
theorem dX12_reading_34 : decode cX12_reading 34 = .ok (.iconst 0, 1) := by decide +kernel
theorem dX12_reading_35 : decode cX12_reading 35 = .ok (.invokevirtual 149, 3) := by decide +kernel
theorem dX12_reading_38 : decode cX12_reading 38 = .ok (.ireturn, 1) := by decide +kernel
theorem dX12_reading_39 : decode cX12_reading 39 = .ok (.iload_n 3, 1) := by decide +kernel
theorem dX12_reading_40 : decode cX12_reading 40 = .ok (.i2s, 1) := by decide +kernel
theorem dX12_reading_41 : decode cX12_reading 41 = .ok (.istore 4, 2) := by decide +kernel
theorem dX12_reading_43 : decode cX12_reading 43 = .ok (.aload_n 0, 1) := by decide +kernel
theorem dX12_reading_44 : decode cX12_reading 44 = .ok (.iload_n 1, 1) := by decide +kernel
theorem dX12_reading_45 : decode cX12_reading 45 = .ok (.iload_n 2, 1) := by decide +kernel
theorem dX12_reading_46 : decode cX12_reading 46 = .ok (.iload 4, 2) := by decide +kernel
theorem dX12_reading_48 : decode cX12_reading 48 = .ok (.iload 4, 2) := by decide +kernel
theorem dX12_reading_50 : decode cX12_reading 50 = .ok (.sipush (-32768), 3) := by decide +kernel
theorem dX12_reading_53 : decode cX12_reading 53 = .ok (.if_icmp .ne 7, 3) := by decide +kernel
theorem dX12_reading_56 : decode cX12_reading 56 = .ok (.iconst 1, 1) := by decide +kernel
theorem dX12_reading_57 : decode cX12_reading 57 = .ok (.goto 16, 3) := by decide +kernel
theorem dX12_reading_60 : decode cX12_reading 60 = .ok (.iload 4, 2) := by decide +kernel
theorem dX12_reading_62 : decode cX12_reading 62 = .ok (.sipush 32767, 3) := by decide +kernel
theorem dX12_reading_65 : decode cX12_reading 65 = .ok (.if_icmp .ne 7, 3) := by decide +kernel
theorem dX12_reading_68 : decode cX12_reading 68 = .ok (.iconst 2, 1) := by decide +kernel
theorem dX12_reading_69 : decode cX12_reading 69 = .ok (.goto 4, 3) := by decide +kernel
theorem dX12_reading_72 : decode cX12_reading 72 = .ok (.iconst 0, 1) := by decide +kernel
theorem dX12_reading_73 : decode cX12_reading 73 = .ok (.invokevirtual 149, 3) := by decide +kernel
theorem dX12_reading_76 : decode cX12_reading 76 = .ok (.ireturn, 1) := by decide +kernel
theorem dX12_reckon_0 : decode cX12_reckon 0 = .ok (.aload_n 0, 1) := by decide +kernel
theorem dX12_reckon_1 : decode cX12_reckon 1 = .ok (.getfield 99, 3) := by decide +kernel
theorem dX12_reckon_4 : decode cX12_reckon 4 = .ok (.ifCond .ne 31, 3) := by decide +kernel
theorem dX12_reckon_7 : decode cX12_reckon 7 = .ok (.iconst 0, 1) := by decide +kernel
theorem dX12_reckon_8 : decode cX12_reckon 8 = .ok (.istore_n 1, 1) := by decide +kernel
theorem dX12_reckon_9 : decode cX12_reckon 9 = .ok (.iload_n 1, 1) := by decide +kernel
theorem dX12_reckon_10 : decode cX12_reckon 10 = .ok (.aload_n 0, 1) := by decide +kernel
theorem dX12_reckon_11 : decode cX12_reckon 11 = .ok (.getfield 7, 3) := by decide +kernel
theorem dX12_reckon_14 : decode cX12_reckon 14 = .ok (.iconst 0, 1) := by decide +kernel
theorem dX12_reckon_15 : decode cX12_reckon 15 = .ok (.iaload, 1) := by decide +kernel
theorem dX12_reckon_16 : decode cX12_reckon 16 = .ok (.if_icmp .ge 14, 3) := by decide +kernel
theorem dX12_reckon_19 : decode cX12_reckon 19 = .ok (.aload_n 0, 1) := by decide +kernel
theorem dX12_reckon_20 : decode cX12_reckon 20 = .ok (.iload_n 1, 1) := by decide +kernel
theorem dX12_reckon_21 : decode cX12_reckon 21 = .ok (.invokevirtual 122, 3) := by decide +kernel
theorem dX12_reckon_24 : decode cX12_reckon 24 = .ok (.iinc 1 1, 3) := by decide +kernel
theorem dX12_reckon_27 : decode cX12_reckon 27 = .ok (.goto (-18), 3) := by decide +kernel
theorem dX12_reckon_30 : decode cX12_reckon 30 = .ok (.aload_n 0, 1) := by decide +kernel
theorem dX12_reckon_31 : decode cX12_reckon 31 = .ok (.iconst 1, 1) := by decide +kernel
theorem dX12_reckon_32 : decode cX12_reckon 32 = .ok (.putfield 99, 3) := by decide +kernel
theorem dX12_reckon_35 : decode cX12_reckon 35 = .ok (.return_, 1) := by decide +kernel
theorem dX12_reckonTo_0 : decode cX12_reckonTo 0 = .ok (.iconst 0, 1) := by decide +kernel
theorem dX12_reckonTo_1 : decode cX12_reckonTo 1 = .ok (.istore_n 2, 1) := by decide +kernel
theorem dX12_reckonTo_2 : decode cX12_reckonTo 2 = .ok (.iload_n 2, 1) := by decide +kernel
theorem dX12_reckonTo_3 : decode cX12_reckonTo 3 = .ok (.aload_n 0, 1) := by decide +kernel
theorem dX12_reckonTo_4 : decode cX12_reckonTo 4 = .ok (.getfield 7, 3) := by decide +kernel
theorem dX12_reckonTo_7 : decode cX12_reckonTo 7 = .ok (.iconst 0, 1) := by decide +kernel
theorem dX12_reckonTo_8 : decode cX12_reckonTo 8 = .ok (.iaload, 1) := by decide +kernel
theorem dX12_reckonTo_9 : decode cX12_reckonTo 9 = .ok (.if_icmp .ge 31, 3) := by decide +kernel
theorem dX12_reckonTo_12 : decode cX12_reckonTo 12 = .ok (.aload_n 0, 1) := by decide +kernel
theorem dX12_reckonTo_13 : decode cX12_reckonTo 13 = .ok (.getfield 23, 3) := by decide +kernel
theorem dX12_reckonTo_16 : decode cX12_reckonTo 16 = .ok (.bipush 60, 2) := by decide +kernel
theorem dX12_reckonTo_18 : decode cX12_reckonTo 18 = .ok (.iload_n 2, 1) := by decide +kernel
theorem dX12_reckonTo_19 : decode cX12_reckonTo 19 = .ok (.imul, 1) := by decide +kernel
theorem dX12_reckonTo_20 : decode cX12_reckonTo 20 = .ok (.iload_n 1, 1) := by decide +kernel
theorem dX12_reckonTo_21 : decode cX12_reckonTo 21 = .ok (.iadd, 1) := by decide +kernel
theorem dX12_reckonTo_22 : decode cX12_reckonTo 22 = .ok (.iload_n 2, 1) := by decide +kernel
theorem dX12_reckonTo_23 : decode cX12_reckonTo 23 = .ok (.iload_n 1, 1) := by decide +kernel
theorem dX12_reckonTo_24 : decode cX12_reckonTo 24 = .ok (.if_icmp .ne 7, 3) := by decide +kernel
theorem dX12_reckonTo_27 : decode cX12_reckonTo 27 = .ok (.iconst 0, 1) := by decide +kernel
theorem dX12_reckonTo_28 : decode cX12_reckonTo 28 = .ok (.goto 5, 3) := by decide +kernel
theorem dX12_reckonTo_31 : decode cX12_reckonTo 31 = .ok (.ldc 125, 2) := by decide +kernel
theorem dX12_reckonTo_33 : decode cX12_reckonTo 33 = .ok (.iastore, 1) := by decide +kernel
theorem dX12_reckonTo_34 : decode cX12_reckonTo 34 = .ok (.iinc 2 1, 3) := by decide +kernel
theorem dX12_reckonTo_37 : decode cX12_reckonTo 37 = .ok (.goto (-35), 3) := by decide +kernel
theorem dX12_reckonTo_40 : decode cX12_reckonTo 40 = .ok (.iconst 1, 1) := by decide +kernel
theorem dX12_reckonTo_41 : decode cX12_reckonTo 41 = .ok (.istore_n 2, 1) := by decide +kernel
theorem dX12_reckonTo_42 : decode cX12_reckonTo 42 = .ok (.iload_n 2, 1) := by decide +kernel
theorem dX12_reckonTo_43 : decode cX12_reckonTo 43 = .ok (.ifCond .eq 155, 3) := by decide +kernel
theorem dX12_reckonTo_46 : decode cX12_reckonTo 46 = .ok (.iconst 0, 1) := by decide +kernel
theorem dX12_reckonTo_47 : decode cX12_reckonTo 47 = .ok (.istore_n 2, 1) := by decide +kernel
theorem dX12_reckonTo_48 : decode cX12_reckonTo 48 = .ok (.iconst 0, 1) := by decide +kernel
theorem dX12_reckonTo_49 : decode cX12_reckonTo 49 = .ok (.istore_n 3, 1) := by decide +kernel
theorem dX12_reckonTo_50 : decode cX12_reckonTo 50 = .ok (.iload_n 3, 1) := by decide +kernel
theorem dX12_reckonTo_51 : decode cX12_reckonTo 51 = .ok (.aload_n 0, 1) := by decide +kernel
theorem dX12_reckonTo_52 : decode cX12_reckonTo 52 = .ok (.getfield 7, 3) := by decide +kernel
theorem dX12_reckonTo_55 : decode cX12_reckonTo 55 = .ok (.iconst 1, 1) := by decide +kernel
theorem dX12_reckonTo_56 : decode cX12_reckonTo 56 = .ok (.iaload, 1) := by decide +kernel
theorem dX12_reckonTo_57 : decode cX12_reckonTo 57 = .ok (.if_icmp .ge 138, 3) := by decide +kernel
theorem dX12_reckonTo_60 : decode cX12_reckonTo 60 = .ok (.aload_n 0, 1) := by decide +kernel
theorem dX12_reckonTo_61 : decode cX12_reckonTo 61 = .ok (.iload_n 3, 1) := by decide +kernel
theorem dX12_reckonTo_62 : decode cX12_reckonTo 62 = .ok (.invokevirtual 119, 3) := by decide +kernel
theorem dX12_reckonTo_65 : decode cX12_reckonTo 65 = .ok (.ifCond .eq 124, 3) := by decide +kernel
theorem dX12_reckonTo_68 : decode cX12_reckonTo 68 = .ok (.aload_n 0, 1) := by decide +kernel
theorem dX12_reckonTo_69 : decode cX12_reckonTo 69 = .ok (.iload_n 3, 1) := by decide +kernel
theorem dX12_reckonTo_70 : decode cX12_reckonTo 70 = .ok (.invokevirtual 109, 3) := by decide +kernel
theorem dX12_reckonTo_73 : decode cX12_reckonTo 73 = .ok (.istore 4, 2) := by decide +kernel
theorem dX12_reckonTo_75 : decode cX12_reckonTo 75 = .ok (.aload_n 0, 1) := by decide +kernel
theorem dX12_reckonTo_76 : decode cX12_reckonTo 76 = .ok (.aload_n 0, 1) := by decide +kernel
theorem dX12_reckonTo_77 : decode cX12_reckonTo 77 = .ok (.getfield 7, 3) := by decide +kernel
theorem dX12_reckonTo_80 : decode cX12_reckonTo 80 = .ok (.iload 4, 2) := by decide +kernel
theorem dX12_reckonTo_82 : decode cX12_reckonTo 82 = .ok (.bipush 7, 2) := by decide +kernel
theorem dX12_reckonTo_84 : decode cX12_reckonTo 84 = .ok (.iadd, 1) := by decide +kernel
theorem dX12_reckonTo_85 : decode cX12_reckonTo 85 = .ok (.iaload, 1) := by decide +kernel
theorem dX12_reckonTo_86 : decode cX12_reckonTo 86 = .ok (.aload_n 0, 1) := by decide +kernel
theorem dX12_reckonTo_87 : decode cX12_reckonTo 87 = .ok (.getfield 7, 3) := by decide +kernel
theorem dX12_reckonTo_90 : decode cX12_reckonTo 90 = .ok (.iload 4, 2) := by decide +kernel
theorem dX12_reckonTo_92 : decode cX12_reckonTo 92 = .ok (.bipush 8, 2) := by decide +kernel
theorem dX12_reckonTo_94 : decode cX12_reckonTo 94 = .ok (.iadd, 1) := by decide +kernel
theorem dX12_reckonTo_95 : decode cX12_reckonTo 95 = .ok (.iaload, 1) := by decide +kernel
theorem dX12_reckonTo_96 : decode cX12_reckonTo 96 = .ok (.aload_n 0, 1) := by decide +kernel
theorem dX12_reckonTo_97 : decode cX12_reckonTo 97 = .ok (.getfield 7, 3) := by decide +kernel
theorem dX12_reckonTo_100 : decode cX12_reckonTo 100 = .ok (.iload 4, 2) := by decide +kernel
theorem dX12_reckonTo_102 : decode cX12_reckonTo 102 = .ok (.bipush 6, 2) := by decide +kernel
theorem dX12_reckonTo_104 : decode cX12_reckonTo 104 = .ok (.iadd, 1) := by decide +kernel
theorem dX12_reckonTo_105 : decode cX12_reckonTo 105 = .ok (.iaload, 1) := by decide +kernel
theorem dX12_reckonTo_106 : decode cX12_reckonTo 106 = .ok (.iload_n 1, 1) := by decide +kernel
theorem dX12_reckonTo_107 : decode cX12_reckonTo 107 = .ok (.invokevirtual 126, 3) := by decide +kernel
theorem dX12_reckonTo_110 : decode cX12_reckonTo 110 = .ok (.istore 5, 2) := by decide +kernel
theorem dX12_reckonTo_112 : decode cX12_reckonTo 112 = .ok (.aload_n 0, 1) := by decide +kernel
theorem dX12_reckonTo_113 : decode cX12_reckonTo 113 = .ok (.getfield 7, 3) := by decide +kernel
theorem dX12_reckonTo_116 : decode cX12_reckonTo 116 = .ok (.iload 4, 2) := by decide +kernel
theorem dX12_reckonTo_118 : decode cX12_reckonTo 118 = .ok (.iconst 5, 1) := by decide +kernel
theorem dX12_reckonTo_119 : decode cX12_reckonTo 119 = .ok (.iadd, 1) := by decide +kernel
theorem dX12_reckonTo_120 : decode cX12_reckonTo 120 = .ok (.iaload, 1) := by decide +kernel
theorem dX12_reckonTo_121 : decode cX12_reckonTo 121 = .ok (.ifCond .ne 45, 3) := by decide +kernel
theorem dX12_reckonTo_124 : decode cX12_reckonTo 124 = .ok (.aload_n 0, 1) := by decide +kernel
theorem dX12_reckonTo_125 : decode cX12_reckonTo 125 = .ok (.aload_n 0, 1) := by decide +kernel
theorem dX12_reckonTo_126 : decode cX12_reckonTo 126 = .ok (.getfield 7, 3) := by decide +kernel
theorem dX12_reckonTo_129 : decode cX12_reckonTo 129 = .ok (.iload 4, 2) := by decide +kernel
theorem dX12_reckonTo_131 : decode cX12_reckonTo 131 = .ok (.bipush 8, 2) := by decide +kernel
theorem dX12_reckonTo_133 : decode cX12_reckonTo 133 = .ok (.iadd, 1) := by decide +kernel
theorem dX12_reckonTo_134 : decode cX12_reckonTo 134 = .ok (.iaload, 1) := by decide +kernel
theorem dX12_reckonTo_135 : decode cX12_reckonTo 135 = .ok (.aload_n 0, 1) := by decide +kernel
theorem dX12_reckonTo_136 : decode cX12_reckonTo 136 = .ok (.getfield 7, 3) := by decide +kernel
theorem dX12_reckonTo_139 : decode cX12_reckonTo 139 = .ok (.iload 4, 2) := by decide +kernel
theorem dX12_reckonTo_141 : decode cX12_reckonTo 141 = .ok (.bipush 7, 2) := by decide +kernel
theorem dX12_reckonTo_143 : decode cX12_reckonTo 143 = .ok (.iadd, 1) := by decide +kernel
theorem dX12_reckonTo_144 : decode cX12_reckonTo 144 = .ok (.iaload, 1) := by decide +kernel
theorem dX12_reckonTo_145 : decode cX12_reckonTo 145 = .ok (.aload_n 0, 1) := by decide +kernel
theorem dX12_reckonTo_146 : decode cX12_reckonTo 146 = .ok (.getfield 7, 3) := by decide +kernel
theorem dX12_reckonTo_149 : decode cX12_reckonTo 149 = .ok (.iload 4, 2) := by decide +kernel
theorem dX12_reckonTo_151 : decode cX12_reckonTo 151 = .ok (.bipush 6, 2) := by decide +kernel
theorem dX12_reckonTo_153 : decode cX12_reckonTo 153 = .ok (.iadd, 1) := by decide +kernel
theorem dX12_reckonTo_154 : decode cX12_reckonTo 154 = .ok (.iaload, 1) := by decide +kernel
theorem dX12_reckonTo_155 : decode cX12_reckonTo 155 = .ok (.iload_n 1, 1) := by decide +kernel
theorem dX12_reckonTo_156 : decode cX12_reckonTo 156 = .ok (.invokevirtual 126, 3) := by decide +kernel
theorem dX12_reckonTo_159 : decode cX12_reckonTo 159 = .ok (.ifCond .eq 7, 3) := by decide +kernel
theorem dX12_reckonTo_162 : decode cX12_reckonTo 162 = .ok (.iconst 1, 1) := by decide +kernel
theorem dX12_reckonTo_163 : decode cX12_reckonTo 163 = .ok (.goto 4, 3) := by decide +kernel
theorem dX12_reckonTo_166 : decode cX12_reckonTo 166 = .ok (.iconst 0, 1) := by decide +kernel
theorem dX12_reckonTo_167 : decode cX12_reckonTo 167 = .ok (.istore 6, 2) := by decide +kernel
theorem dX12_reckonTo_169 : decode cX12_reckonTo 169 = .ok (.iload_n 2, 1) := by decide +kernel
theorem dX12_reckonTo_170 : decode cX12_reckonTo 170 = .ok (.ifCond .ne 13, 3) := by decide +kernel
theorem dX12_reckonTo_173 : decode cX12_reckonTo 173 = .ok (.iload 5, 2) := by decide +kernel
theorem dX12_reckonTo_175 : decode cX12_reckonTo 175 = .ok (.ifCond .ne 8, 3) := by decide +kernel
theorem dX12_reckonTo_178 : decode cX12_reckonTo 178 = .ok (.iload 6, 2) := by decide +kernel
theorem dX12_reckonTo_180 : decode cX12_reckonTo 180 = .ok (.ifCond .eq 7, 3) := by decide +kernel
theorem dX12_reckonTo_183 : decode cX12_reckonTo 183 = .ok (.iconst 1, 1) := by decide +kernel
theorem dX12_reckonTo_184 : decode cX12_reckonTo 184 = .ok (.goto 4, 3) := by decide +kernel
theorem dX12_reckonTo_187 : decode cX12_reckonTo 187 = .ok (.iconst 0, 1) := by decide +kernel
theorem dX12_reckonTo_188 : decode cX12_reckonTo 188 = .ok (.istore_n 2, 1) := by decide +kernel
theorem dX12_reckonTo_189 : decode cX12_reckonTo 189 = .ok (.iinc 3 1, 3) := by decide +kernel
theorem dX12_reckonTo_192 : decode cX12_reckonTo 192 = .ok (.goto (-142), 3) := by decide +kernel
theorem dX12_reckonTo_195 : decode cX12_reckonTo 195 = .ok (.goto (-153), 3) := by decide +kernel
theorem dX12_reckonTo_198 : decode cX12_reckonTo 198 = .ok (.return_, 1) := by decide +kernel
theorem dX12_refuses_0 : decode cX12_refuses 0 = .ok (.aload_n 0, 1) := by decide +kernel
theorem dX12_refuses_1 : decode cX12_refuses 1 = .ok (.iload_n 1, 1) := by decide +kernel
theorem dX12_refuses_2 : decode cX12_refuses 2 = .ok (.putfield 76, 3) := by decide +kernel
theorem dX12_refuses_5 : decode cX12_refuses 5 = .ok (.aload_n 0, 1) := by decide +kernel
theorem dX12_refuses_6 : decode cX12_refuses 6 = .ok (.iload_n 1, 1) := by decide +kernel
theorem dX12_refuses_7 : decode cX12_refuses 7 = .ok (.invokevirtual 80, 3) := by decide +kernel
theorem dX12_refuses_10 : decode cX12_refuses 10 = .ok (.iload_n 1, 1) := by decide +kernel
theorem dX12_refuses_11 : decode cX12_refuses 11 = .ok (.ireturn, 1) := by decide +kernel
theorem dX12_round_0 : decode cX12_round 0 = .ok (.aload_n 0, 1) := by decide +kernel
theorem dX12_round_1 : decode cX12_round 1 = .ok (.invokevirtual 134, 3) := by decide +kernel
theorem dX12_round_4 : decode cX12_round 4 = .ok (.aload_n 0, 1) := by decide +kernel
theorem dX12_round_5 : decode cX12_round 5 = .ok (.iconst 0, 1) := by decide +kernel
theorem dX12_round_6 : decode cX12_round 6 = .ok (.putfield 267, 3) := by decide +kernel
theorem dX12_round_9 : decode cX12_round 9 = .ok (.aload_n 0, 1) := by decide +kernel
theorem dX12_round_10 : decode cX12_round 10 = .ok (.iconst 0, 1) := by decide +kernel
theorem dX12_round_11 : decode cX12_round 11 = .ok (.putfield 291, 3) := by decide +kernel
theorem dX12_round_14 : decode cX12_round 14 = .ok (.aload_n 0, 1) := by decide +kernel
theorem dX12_round_15 : decode cX12_round 15 = .ok (.iconst 0, 1) := by decide +kernel
theorem dX12_round_16 : decode cX12_round 16 = .ok (.putfield 285, 3) := by decide +kernel
theorem dX12_round_19 : decode cX12_round 19 = .ok (.aload_n 0, 1) := by decide +kernel
theorem dX12_round_20 : decode cX12_round 20 = .ok (.iconst 0, 1) := by decide +kernel
theorem dX12_round_21 : decode cX12_round 21 = .ok (.putfield 297, 3) := by decide +kernel
theorem dX12_round_24 : decode cX12_round 24 = .ok (.iconst 0, 1) := by decide +kernel
theorem dX12_round_25 : decode cX12_round 25 = .ok (.istore_n 1, 1) := by decide +kernel
theorem dX12_round_26 : decode cX12_round 26 = .ok (.iload_n 1, 1) := by decide +kernel
theorem dX12_round_27 : decode cX12_round 27 = .ok (.sipush 150, 3) := by decide +kernel
theorem dX12_round_30 : decode cX12_round 30 = .ok (.if_icmp .ge 16, 3) := by decide +kernel
theorem dX12_round_33 : decode cX12_round 33 = .ok (.aload_n 0, 1) := by decide +kernel
theorem dX12_round_34 : decode cX12_round 34 = .ok (.getfield 64, 3) := by decide +kernel
theorem dX12_round_37 : decode cX12_round 37 = .ok (.iload_n 1, 1) := by decide +kernel
theorem dX12_round_38 : decode cX12_round 38 = .ok (.iconst 0, 1) := by decide +kernel
theorem dX12_round_39 : decode cX12_round 39 = .ok (.iastore, 1) := by decide +kernel
theorem dX12_round_40 : decode cX12_round 40 = .ok (.iinc 1 1, 3) := by decide +kernel
theorem dX12_round_43 : decode cX12_round 43 = .ok (.goto (-17), 3) := by decide +kernel
theorem dX12_round_46 : decode cX12_round 46 = .ok (.aload_n 0, 1) := by decide +kernel
theorem dX12_round_47 : decode cX12_round 47 = .ok (.invokevirtual 260, 3) := by decide +kernel
theorem dX12_round_50 : decode cX12_round 50 = .ok (.istore_n 1, 1) := by decide +kernel
theorem dX12_round_51 : decode cX12_round 51 = .ok (.iload_n 1, 1) := by decide +kernel
theorem dX12_round_52 : decode cX12_round 52 = .ok (.ifCond .eq 10, 3) := by decide +kernel
theorem dX12_round_55 : decode cX12_round 55 = .ok (.aload_n 0, 1) := by decide +kernel
theorem dX12_round_56 : decode cX12_round 56 = .ok (.invokevirtual 322, 3) := by decide +kernel
theorem dX12_round_59 : decode cX12_round 59 = .ok (.goto 7, 3) := by decide +kernel
theorem dX12_round_62 : decode cX12_round 62 = .ok (.aload_n 0, 1) := by decide +kernel
theorem dX12_round_63 : decode cX12_round 63 = .ok (.invokevirtual 326, 3) := by decide +kernel
theorem dX12_round_66 : decode cX12_round 66 = .ok (.istore_n 2, 1) := by decide +kernel
theorem dX12_round_67 : decode cX12_round 67 = .ok (.iload_n 2, 1) := by decide +kernel
theorem dX12_round_68 : decode cX12_round 68 = .ok (.ifCond .eq 9, 3) := by decide +kernel
theorem dX12_round_71 : decode cX12_round 71 = .ok (.aload_n 0, 1) := by decide +kernel
theorem dX12_round_72 : decode cX12_round 72 = .ok (.iload_n 2, 1) := by decide +kernel
theorem dX12_round_73 : decode cX12_round 73 = .ok (.invokevirtual 92, 3) := by decide +kernel
theorem dX12_round_76 : decode cX12_round 76 = .ok (.ireturn, 1) := by decide +kernel
theorem dX12_round_77 : decode cX12_round 77 = .ok (.aload_n 0, 1) := by decide +kernel
theorem dX12_round_78 : decode cX12_round 78 = .ok (.invokevirtual 96, 3) := by decide +kernel
theorem dX12_round_81 : decode cX12_round 81 = .ok (.aload_n 0, 1) := by decide +kernel
theorem dX12_round_82 : decode cX12_round 82 = .ok (.getfield 7, 3) := by decide +kernel
theorem dX12_round_85 : decode cX12_round 85 = .ok (.iconst 4, 1) := by decide +kernel
theorem dX12_round_86 : decode cX12_round 86 = .ok (.aload_n 0, 1) := by decide +kernel
theorem dX12_round_87 : decode cX12_round 87 = .ok (.getfield 297, 3) := by decide +kernel
theorem dX12_round_90 : decode cX12_round 90 = .ok (.iastore, 1) := by decide +kernel
theorem dX12_round_91 : decode cX12_round 91 = .ok (.aload_n 0, 1) := by decide +kernel
theorem dX12_round_92 : decode cX12_round 92 = .ok (.getfield 7, 3) := by decide +kernel
theorem dX12_round_95 : decode cX12_round 95 = .ok (.iconst 5, 1) := by decide +kernel
theorem dX12_round_96 : decode cX12_round 96 = .ok (.iload_n 1, 1) := by decide +kernel
theorem dX12_round_97 : decode cX12_round 97 = .ok (.ifCond .eq 7, 3) := by decide +kernel
theorem dX12_round_100 : decode cX12_round 100 = .ok (.iconst 2, 1) := by decide +kernel
theorem dX12_round_101 : decode cX12_round 101 = .ok (.goto 4, 3) := by decide +kernel
theorem dX12_round_104 : decode cX12_round 104 = .ok (.iconst 1, 1) := by decide +kernel
theorem dX12_round_105 : decode cX12_round 105 = .ok (.iastore, 1) := by decide +kernel
theorem dX12_round_106 : decode cX12_round 106 = .ok (.aload_n 0, 1) := by decide +kernel
theorem dX12_round_107 : decode cX12_round 107 = .ok (.getfield 7, 3) := by decide +kernel
theorem dX12_round_110 : decode cX12_round 110 = .ok (.bipush 6, 2) := by decide +kernel
theorem dX12_round_112 : decode cX12_round 112 = .ok (.aload_n 0, 1) := by decide +kernel
theorem dX12_round_113 : decode cX12_round 113 = .ok (.getfield 267, 3) := by decide +kernel
theorem dX12_round_116 : decode cX12_round 116 = .ok (.iastore, 1) := by decide +kernel
theorem dX12_round_117 : decode cX12_round 117 = .ok (.aload_n 0, 1) := by decide +kernel
theorem dX12_round_118 : decode cX12_round 118 = .ok (.getfield 7, 3) := by decide +kernel
theorem dX12_round_121 : decode cX12_round 121 = .ok (.bipush 7, 2) := by decide +kernel
theorem dX12_round_123 : decode cX12_round 123 = .ok (.aload_n 0, 1) := by decide +kernel
theorem dX12_round_124 : decode cX12_round 124 = .ok (.getfield 291, 3) := by decide +kernel
theorem dX12_round_127 : decode cX12_round 127 = .ok (.iastore, 1) := by decide +kernel
theorem dX12_round_128 : decode cX12_round 128 = .ok (.aload_n 0, 1) := by decide +kernel
theorem dX12_round_129 : decode cX12_round 129 = .ok (.getfield 7, 3) := by decide +kernel
theorem dX12_round_132 : decode cX12_round 132 = .ok (.bipush 8, 2) := by decide +kernel
theorem dX12_round_134 : decode cX12_round 134 = .ok (.aload_n 0, 1) := by decide +kernel
theorem dX12_round_135 : decode cX12_round 135 = .ok (.getfield 285, 3) := by decide +kernel
theorem dX12_round_138 : decode cX12_round 138 = .ok (.iastore, 1) := by decide +kernel
theorem dX12_round_139 : decode cX12_round 139 = .ok (.iconst 0, 1) := by decide +kernel
theorem dX12_round_140 : decode cX12_round 140 = .ok (.istore_n 3, 1) := by decide +kernel
theorem dX12_round_141 : decode cX12_round 141 = .ok (.iload_n 3, 1) := by decide +kernel
theorem dX12_round_142 : decode cX12_round 142 = .ok (.bipush 60, 2) := by decide +kernel
theorem dX12_round_144 : decode cX12_round 144 = .ok (.if_icmp .ge 20, 3) := by decide +kernel
theorem dX12_round_147 : decode cX12_round 147 = .ok (.aload_n 0, 1) := by decide +kernel
theorem dX12_round_148 : decode cX12_round 148 = .ok (.getfield 7, 3) := by decide +kernel
theorem dX12_round_151 : decode cX12_round 151 = .ok (.sipush 9582, 3) := by decide +kernel
theorem dX12_round_154 : decode cX12_round 154 = .ok (.iload_n 3, 1) := by decide +kernel
theorem dX12_round_155 : decode cX12_round 155 = .ok (.iadd, 1) := by decide +kernel
theorem dX12_round_156 : decode cX12_round 156 = .ok (.iconst (-1), 1) := by decide +kernel
theorem dX12_round_157 : decode cX12_round 157 = .ok (.iastore, 1) := by decide +kernel
theorem dX12_round_158 : decode cX12_round 158 = .ok (.iinc 3 1, 3) := by decide +kernel
theorem dX12_round_161 : decode cX12_round 161 = .ok (.goto (-20), 3) := by decide +kernel
theorem dX12_round_164 : decode cX12_round 164 = .ok (.iconst 0, 1) := by decide +kernel
theorem dX12_round_165 : decode cX12_round 165 = .ok (.istore_n 3, 1) := by decide +kernel
theorem dX12_round_166 : decode cX12_round 166 = .ok (.iload_n 3, 1) := by decide +kernel
theorem dX12_round_167 : decode cX12_round 167 = .ok (.aload_n 0, 1) := by decide +kernel
theorem dX12_round_168 : decode cX12_round 168 = .ok (.getfield 285, 3) := by decide +kernel
theorem dX12_round_171 : decode cX12_round 171 = .ok (.if_icmp .ge 51, 3) := by decide +kernel
theorem dX12_round_174 : decode cX12_round 174 = .ok (.aload_n 0, 1) := by decide +kernel
theorem dX12_round_175 : decode cX12_round 175 = .ok (.getfield 7, 3) := by decide +kernel
theorem dX12_round_178 : decode cX12_round 178 = .ok (.sipush 9582, 3) := by decide +kernel
theorem dX12_round_181 : decode cX12_round 181 = .ok (.aload_n 0, 1) := by decide +kernel
theorem dX12_round_182 : decode cX12_round 182 = .ok (.getfield 49, 3) := by decide +kernel
theorem dX12_round_185 : decode cX12_round 185 = .ok (.iload_n 3, 1) := by decide +kernel
theorem dX12_round_186 : decode cX12_round 186 = .ok (.iaload, 1) := by decide +kernel
theorem dX12_round_187 : decode cX12_round 187 = .ok (.iadd, 1) := by decide +kernel
theorem dX12_round_188 : decode cX12_round 188 = .ok (.aload_n 0, 1) := by decide +kernel
theorem dX12_round_189 : decode cX12_round 189 = .ok (.getfield 52, 3) := by decide +kernel
theorem dX12_round_192 : decode cX12_round 192 = .ok (.iload_n 3, 1) := by decide +kernel
theorem dX12_round_193 : decode cX12_round 193 = .ok (.iaload, 1) := by decide +kernel
theorem dX12_round_194 : decode cX12_round 194 = .ok (.iastore, 1) := by decide +kernel
theorem dX12_round_195 : decode cX12_round 195 = .ok (.aload_n 0, 1) := by decide +kernel
theorem dX12_round_196 : decode cX12_round 196 = .ok (.getfield 7, 3) := by decide +kernel
theorem dX12_round_199 : decode cX12_round 199 = .ok (.sipush 9582, 3) := by decide +kernel
theorem dX12_round_202 : decode cX12_round 202 = .ok (.aload_n 0, 1) := by decide +kernel
theorem dX12_round_203 : decode cX12_round 203 = .ok (.getfield 52, 3) := by decide +kernel
theorem dX12_round_206 : decode cX12_round 206 = .ok (.iload_n 3, 1) := by decide +kernel
theorem dX12_round_207 : decode cX12_round 207 = .ok (.iaload, 1) := by decide +kernel
theorem dX12_round_208 : decode cX12_round 208 = .ok (.iadd, 1) := by decide +kernel
theorem dX12_round_209 : decode cX12_round 209 = .ok (.aload_n 0, 1) := by decide +kernel
theorem dX12_round_210 : decode cX12_round 210 = .ok (.getfield 49, 3) := by decide +kernel
theorem dX12_round_213 : decode cX12_round 213 = .ok (.iload_n 3, 1) := by decide +kernel
theorem dX12_round_214 : decode cX12_round 214 = .ok (.iaload, 1) := by decide +kernel
theorem dX12_round_215 : decode cX12_round 215 = .ok (.iastore, 1) := by decide +kernel
theorem dX12_round_216 : decode cX12_round 216 = .ok (.iinc 3 1, 3) := by decide +kernel
theorem dX12_round_219 : decode cX12_round 219 = .ok (.goto (-53), 3) := by decide +kernel
theorem dX12_round_222 : decode cX12_round 222 = .ok (.iconst 0, 1) := by decide +kernel
theorem dX12_round_223 : decode cX12_round 223 = .ok (.istore_n 3, 1) := by decide +kernel
theorem dX12_round_224 : decode cX12_round 224 = .ok (.iload_n 3, 1) := by decide +kernel
theorem dX12_round_225 : decode cX12_round 225 = .ok (.aload_n 0, 1) := by decide +kernel
theorem dX12_round_226 : decode cX12_round 226 = .ok (.getfield 297, 3) := by decide +kernel
theorem dX12_round_229 : decode cX12_round 229 = .ok (.if_icmp .ge 67, 3) := by decide +kernel
theorem dX12_round_232 : decode cX12_round 232 = .ok (.aload_n 0, 1) := by decide +kernel
theorem dX12_round_233 : decode cX12_round 233 = .ok (.getfield 7, 3) := by decide +kernel
theorem dX12_round_236 : decode cX12_round 236 = .ok (.sipush 9642, 3) := by decide +kernel
theorem dX12_round_239 : decode cX12_round 239 = .ok (.iconst 3, 1) := by decide +kernel
theorem dX12_round_240 : decode cX12_round 240 = .ok (.iload_n 3, 1) := by decide +kernel
theorem dX12_round_241 : decode cX12_round 241 = .ok (.imul, 1) := by decide +kernel
theorem dX12_round_242 : decode cX12_round 242 = .ok (.iadd, 1) := by decide +kernel
theorem dX12_round_243 : decode cX12_round 243 = .ok (.aload_n 0, 1) := by decide +kernel
theorem dX12_round_244 : decode cX12_round 244 = .ok (.getfield 55, 3) := by decide +kernel
theorem dX12_round_247 : decode cX12_round 247 = .ok (.iload_n 3, 1) := by decide +kernel
theorem dX12_round_248 : decode cX12_round 248 = .ok (.iaload, 1) := by decide +kernel
theorem dX12_round_249 : decode cX12_round 249 = .ok (.iastore, 1) := by decide +kernel
theorem dX12_round_250 : decode cX12_round 250 = .ok (.aload_n 0, 1) := by decide +kernel
theorem dX12_round_251 : decode cX12_round 251 = .ok (.getfield 7, 3) := by decide +kernel
theorem dX12_round_254 : decode cX12_round 254 = .ok (.sipush 9642, 3) := by decide +kernel
theorem dX12_round_257 : decode cX12_round 257 = .ok (.iconst 3, 1) := by decide +kernel
theorem dX12_round_258 : decode cX12_round 258 = .ok (.iload_n 3, 1) := by decide +kernel
theorem dX12_round_259 : decode cX12_round 259 = .ok (.imul, 1) := by decide +kernel
theorem dX12_round_260 : decode cX12_round 260 = .ok (.iadd, 1) := by decide +kernel
theorem dX12_round_261 : decode cX12_round 261 = .ok (.iconst 1, 1) := by decide +kernel
theorem dX12_round_262 : decode cX12_round 262 = .ok (.iadd, 1) := by decide +kernel
theorem dX12_round_263 : decode cX12_round 263 = .ok (.aload_n 0, 1) := by decide +kernel
theorem dX12_round_264 : decode cX12_round 264 = .ok (.getfield 58, 3) := by decide +kernel
theorem dX12_round_267 : decode cX12_round 267 = .ok (.iload_n 3, 1) := by decide +kernel
theorem dX12_round_268 : decode cX12_round 268 = .ok (.iaload, 1) := by decide +kernel
theorem dX12_round_269 : decode cX12_round 269 = .ok (.iastore, 1) := by decide +kernel
theorem dX12_round_270 : decode cX12_round 270 = .ok (.aload_n 0, 1) := by decide +kernel
theorem dX12_round_271 : decode cX12_round 271 = .ok (.getfield 7, 3) := by decide +kernel
theorem dX12_round_274 : decode cX12_round 274 = .ok (.sipush 9642, 3) := by decide +kernel
theorem dX12_round_277 : decode cX12_round 277 = .ok (.iconst 3, 1) := by decide +kernel
theorem dX12_round_278 : decode cX12_round 278 = .ok (.iload_n 3, 1) := by decide +kernel
theorem dX12_round_279 : decode cX12_round 279 = .ok (.imul, 1) := by decide +kernel
theorem dX12_round_280 : decode cX12_round 280 = .ok (.iadd, 1) := by decide +kernel
theorem dX12_round_281 : decode cX12_round 281 = .ok (.iconst 2, 1) := by decide +kernel
theorem dX12_round_282 : decode cX12_round 282 = .ok (.iadd, 1) := by decide +kernel
theorem dX12_round_283 : decode cX12_round 283 = .ok (.aload_n 0, 1) := by decide +kernel
theorem dX12_round_284 : decode cX12_round 284 = .ok (.getfield 61, 3) := by decide +kernel
theorem dX12_round_287 : decode cX12_round 287 = .ok (.iload_n 3, 1) := by decide +kernel
theorem dX12_round_288 : decode cX12_round 288 = .ok (.iaload, 1) := by decide +kernel
theorem dX12_round_289 : decode cX12_round 289 = .ok (.iastore, 1) := by decide +kernel
theorem dX12_round_290 : decode cX12_round 290 = .ok (.iinc 3 1, 3) := by decide +kernel
theorem dX12_round_293 : decode cX12_round 293 = .ok (.goto (-69), 3) := by decide +kernel
theorem dX12_round_296 : decode cX12_round 296 = .ok (.iconst 0, 1) := by decide +kernel
theorem dX12_round_297 : decode cX12_round 297 = .ok (.istore_n 3, 1) := by decide +kernel
theorem dX12_round_298 : decode cX12_round 298 = .ok (.iload_n 3, 1) := by decide +kernel
theorem dX12_round_299 : decode cX12_round 299 = .ok (.aload_n 0, 1) := by decide +kernel
theorem dX12_round_300 : decode cX12_round 300 = .ok (.getfield 7, 3) := by decide +kernel
theorem dX12_round_303 : decode cX12_round 303 = .ok (.iconst 3, 1) := by decide +kernel
theorem dX12_round_304 : decode cX12_round 304 = .ok (.iaload, 1) := by decide +kernel
theorem dX12_round_305 : decode cX12_round 305 = .ok (.if_icmp .ge 14, 3) := by decide +kernel
theorem dX12_round_308 : decode cX12_round 308 = .ok (.aload_n 0, 1) := by decide +kernel
theorem dX12_round_309 : decode cX12_round 309 = .ok (.iload_n 3, 1) := by decide +kernel
theorem dX12_round_310 : decode cX12_round 310 = .ok (.invokevirtual 194, 3) := by decide +kernel
theorem dX12_round_313 : decode cX12_round 313 = .ok (.iinc 3 1, 3) := by decide +kernel
theorem dX12_round_316 : decode cX12_round 316 = .ok (.goto (-18), 3) := by decide +kernel
theorem dX12_round_319 : decode cX12_round 319 = .ok (.aload_n 0, 1) := by decide +kernel
theorem dX12_round_320 : decode cX12_round 320 = .ok (.aload_n 0, 1) := by decide +kernel
theorem dX12_round_321 : decode cX12_round 321 = .ok (.getfield 297, 3) := by decide +kernel
theorem dX12_round_324 : decode cX12_round 324 = .ok (.invokevirtual 102, 3) := by decide +kernel
theorem dX12_round_327 : decode cX12_round 327 = .ok (.ireturn, 1) := by decide +kernel
theorem dX12_roundByNearest_0 : decode cX12_roundByNearest 0 = .ok (.iconst 0, 1) := by decide +kernel
theorem dX12_roundByNearest_1 : decode cX12_roundByNearest 1 = .ok (.istore_n 1, 1) := by decide +kernel
theorem dX12_roundByNearest_2 : decode cX12_roundByNearest 2 = .ok (.iconst 0, 1) := by decide +kernel
theorem dX12_roundByNearest_3 : decode cX12_roundByNearest 3 = .ok (.istore_n 2, 1) := by decide +kernel
theorem dX12_roundByNearest_4 : decode cX12_roundByNearest 4 = .ok (.iload_n 2, 1) := by decide +kernel
theorem dX12_roundByNearest_5 : decode cX12_roundByNearest 5 = .ok (.iconst (-1), 1) := by decide +kernel
theorem dX12_roundByNearest_6 : decode cX12_roundByNearest 6 = .ok (.if_icmp .eq 255, 3) := by decide +kernel
theorem dX12_roundByNearest_9 : decode cX12_roundByNearest 9 = .ok (.ldc 125, 2) := by decide +kernel
theorem dX12_roundByNearest_11 : decode cX12_roundByNearest 11 = .ok (.istore_n 3, 1) := by decide +kernel
theorem dX12_roundByNearest_12 : decode cX12_roundByNearest 12 = .ok (.iconst (-1), 1) := by decide +kernel
theorem dX12_roundByNearest_13 : decode cX12_roundByNearest 13 = .ok (.istore 4, 2) := by decide +kernel
theorem dX12_roundByNearest_15 : decode cX12_roundByNearest 15 = .ok (.iconst 0, 1) := by decide +kernel
theorem dX12_roundByNearest_16 : decode cX12_roundByNearest 16 = .ok (.istore 5, 2) := by decide +kernel
theorem dX12_roundByNearest_18 : decode cX12_roundByNearest 18 = .ok (.iconst (-1), 1) := by decide +kernel
theorem dX12_roundByNearest_19 : decode cX12_roundByNearest 19 = .ok (.istore_n 2, 1) := by decide +kernel
theorem dX12_roundByNearest_20 : decode cX12_roundByNearest 20 = .ok (.iconst 0, 1) := by decide +kernel
theorem dX12_roundByNearest_21 : decode cX12_roundByNearest 21 = .ok (.istore 6, 2) := by decide +kernel
theorem dX12_roundByNearest_23 : decode cX12_roundByNearest 23 = .ok (.iload 6, 2) := by decide +kernel
theorem dX12_roundByNearest_25 : decode cX12_roundByNearest 25 = .ok (.aload_n 0, 1) := by decide +kernel
theorem dX12_roundByNearest_26 : decode cX12_roundByNearest 26 = .ok (.getfield 7, 3) := by decide +kernel
theorem dX12_roundByNearest_29 : decode cX12_roundByNearest 29 = .ok (.iconst 1, 1) := by decide +kernel
theorem dX12_roundByNearest_30 : decode cX12_roundByNearest 30 = .ok (.iaload, 1) := by decide +kernel
theorem dX12_roundByNearest_31 : decode cX12_roundByNearest 31 = .ok (.if_icmp .ge 164, 3) := by decide +kernel
theorem dX12_roundByNearest_34 : decode cX12_roundByNearest 34 = .ok (.aload_n 0, 1) := by decide +kernel
theorem dX12_roundByNearest_35 : decode cX12_roundByNearest 35 = .ok (.iload 6, 2) := by decide +kernel
theorem dX12_roundByNearest_37 : decode cX12_roundByNearest 37 = .ok (.invokevirtual 239, 3) := by decide +kernel
theorem dX12_roundByNearest_40 : decode cX12_roundByNearest 40 = .ok (.ifCond .eq 149, 3) := by decide +kernel
theorem dX12_roundByNearest_43 : decode cX12_roundByNearest 43 = .ok (.aload_n 0, 1) := by decide +kernel
theorem dX12_roundByNearest_44 : decode cX12_roundByNearest 44 = .ok (.getfield 64, 3) := by decide +kernel
theorem dX12_roundByNearest_47 : decode cX12_roundByNearest 47 = .ok (.iload 6, 2) := by decide +kernel
theorem dX12_roundByNearest_49 : decode cX12_roundByNearest 49 = .ok (.iaload, 1) := by decide +kernel
theorem dX12_roundByNearest_50 : decode cX12_roundByNearest 50 = .ok (.aload_n 0, 1) := by decide +kernel
theorem dX12_roundByNearest_51 : decode cX12_roundByNearest 51 = .ok (.getfield 7, 3) := by decide +kernel
theorem dX12_roundByNearest_54 : decode cX12_roundByNearest 54 = .ok (.aload_n 0, 1) := by decide +kernel
theorem dX12_roundByNearest_55 : decode cX12_roundByNearest 55 = .ok (.iload 6, 2) := by decide +kernel
theorem dX12_roundByNearest_57 : decode cX12_roundByNearest 57 = .ok (.invokevirtual 109, 3) := by decide +kernel
theorem dX12_roundByNearest_60 : decode cX12_roundByNearest 60 = .ok (.iconst 3, 1) := by decide +kernel
theorem dX12_roundByNearest_61 : decode cX12_roundByNearest 61 = .ok (.iadd, 1) := by decide +kernel
theorem dX12_roundByNearest_62 : decode cX12_roundByNearest 62 = .ok (.iaload, 1) := by decide +kernel
theorem dX12_roundByNearest_63 : decode cX12_roundByNearest 63 = .ok (.if_icmp .ge 126, 3) := by decide +kernel
theorem dX12_roundByNearest_66 : decode cX12_roundByNearest 66 = .ok (.aload_n 0, 1) := by decide +kernel
theorem dX12_roundByNearest_67 : decode cX12_roundByNearest 67 = .ok (.getfield 7, 3) := by decide +kernel
theorem dX12_roundByNearest_70 : decode cX12_roundByNearest 70 = .ok (.aload_n 0, 1) := by decide +kernel
theorem dX12_roundByNearest_71 : decode cX12_roundByNearest 71 = .ok (.iload 6, 2) := by decide +kernel
theorem dX12_roundByNearest_73 : decode cX12_roundByNearest 73 = .ok (.invokevirtual 109, 3) := by decide +kernel
theorem dX12_roundByNearest_76 : decode cX12_roundByNearest 76 = .ok (.bipush 7, 2) := by decide +kernel
theorem dX12_roundByNearest_78 : decode cX12_roundByNearest 78 = .ok (.iadd, 1) := by decide +kernel
theorem dX12_roundByNearest_79 : decode cX12_roundByNearest 79 = .ok (.iaload, 1) := by decide +kernel
theorem dX12_roundByNearest_80 : decode cX12_roundByNearest 80 = .ok (.istore 7, 2) := by decide +kernel
theorem dX12_roundByNearest_82 : decode cX12_roundByNearest 82 = .ok (.aload_n 0, 1) := by decide +kernel
theorem dX12_roundByNearest_83 : decode cX12_roundByNearest 83 = .ok (.getfield 7, 3) := by decide +kernel
theorem dX12_roundByNearest_86 : decode cX12_roundByNearest 86 = .ok (.aload_n 0, 1) := by decide +kernel
theorem dX12_roundByNearest_87 : decode cX12_roundByNearest 87 = .ok (.iload 6, 2) := by decide +kernel
theorem dX12_roundByNearest_89 : decode cX12_roundByNearest 89 = .ok (.invokevirtual 109, 3) := by decide +kernel
theorem dX12_roundByNearest_92 : decode cX12_roundByNearest 92 = .ok (.bipush 8, 2) := by decide +kernel
theorem dX12_roundByNearest_94 : decode cX12_roundByNearest 94 = .ok (.iadd, 1) := by decide +kernel
theorem dX12_roundByNearest_95 : decode cX12_roundByNearest 95 = .ok (.iaload, 1) := by decide +kernel
theorem dX12_roundByNearest_96 : decode cX12_roundByNearest 96 = .ok (.istore 8, 2) := by decide +kernel
theorem dX12_roundByNearest_98 : decode cX12_roundByNearest 98 = .ok (.iconst 1, 1) := by decide +kernel
theorem dX12_roundByNearest_99 : decode cX12_roundByNearest 99 = .ok (.istore 5, 2) := by decide +kernel
theorem dX12_roundByNearest_101 : decode cX12_roundByNearest 101 = .ok (.aload_n 0, 1) := by decide +kernel
theorem dX12_roundByNearest_102 : decode cX12_roundByNearest 102 = .ok (.getfield 23, 3) := by decide +kernel
theorem dX12_roundByNearest_105 : decode cX12_roundByNearest 105 = .ok (.bipush 60, 2) := by decide +kernel
theorem dX12_roundByNearest_107 : decode cX12_roundByNearest 107 = .ok (.iload_n 1, 1) := by decide +kernel
theorem dX12_roundByNearest_108 : decode cX12_roundByNearest 108 = .ok (.imul, 1) := by decide +kernel
theorem dX12_roundByNearest_109 : decode cX12_roundByNearest 109 = .ok (.iload 7, 2) := by decide +kernel
theorem dX12_roundByNearest_111 : decode cX12_roundByNearest 111 = .ok (.iadd, 1) := by decide +kernel
theorem dX12_roundByNearest_112 : decode cX12_roundByNearest 112 = .ok (.iaload, 1) := by decide +kernel
theorem dX12_roundByNearest_113 : decode cX12_roundByNearest 113 = .ok (.iload_n 3, 1) := by decide +kernel
theorem dX12_roundByNearest_114 : decode cX12_roundByNearest 114 = .ok (.if_icmp .ge 23, 3) := by decide +kernel
theorem dX12_roundByNearest_117 : decode cX12_roundByNearest 117 = .ok (.aload_n 0, 1) := by decide +kernel
theorem dX12_roundByNearest_118 : decode cX12_roundByNearest 118 = .ok (.getfield 23, 3) := by decide +kernel
theorem dX12_roundByNearest_121 : decode cX12_roundByNearest 121 = .ok (.bipush 60, 2) := by decide +kernel
theorem dX12_roundByNearest_123 : decode cX12_roundByNearest 123 = .ok (.iload_n 1, 1) := by decide +kernel
theorem dX12_roundByNearest_124 : decode cX12_roundByNearest 124 = .ok (.imul, 1) := by decide +kernel
theorem dX12_roundByNearest_125 : decode cX12_roundByNearest 125 = .ok (.iload 7, 2) := by decide +kernel
theorem dX12_roundByNearest_127 : decode cX12_roundByNearest 127 = .ok (.iadd, 1) := by decide +kernel
theorem dX12_roundByNearest_128 : decode cX12_roundByNearest 128 = .ok (.iaload, 1) := by decide +kernel
theorem dX12_roundByNearest_129 : decode cX12_roundByNearest 129 = .ok (.istore_n 3, 1) := by decide +kernel
theorem dX12_roundByNearest_130 : decode cX12_roundByNearest 130 = .ok (.iload 7, 2) := by decide +kernel
theorem dX12_roundByNearest_132 : decode cX12_roundByNearest 132 = .ok (.istore 4, 2) := by decide +kernel
theorem dX12_roundByNearest_134 : decode cX12_roundByNearest 134 = .ok (.iload 6, 2) := by decide +kernel
theorem dX12_roundByNearest_136 : decode cX12_roundByNearest 136 = .ok (.istore_n 2, 1) := by decide +kernel
theorem dX12_roundByNearest_137 : decode cX12_roundByNearest 137 = .ok (.aload_n 0, 1) := by decide +kernel
theorem dX12_roundByNearest_138 : decode cX12_roundByNearest 138 = .ok (.getfield 7, 3) := by decide +kernel
theorem dX12_roundByNearest_141 : decode cX12_roundByNearest 141 = .ok (.aload_n 0, 1) := by decide +kernel
theorem dX12_roundByNearest_142 : decode cX12_roundByNearest 142 = .ok (.iload 6, 2) := by decide +kernel
theorem dX12_roundByNearest_144 : decode cX12_roundByNearest 144 = .ok (.invokevirtual 109, 3) := by decide +kernel
theorem dX12_roundByNearest_147 : decode cX12_roundByNearest 147 = .ok (.iconst 5, 1) := by decide +kernel
theorem dX12_roundByNearest_148 : decode cX12_roundByNearest 148 = .ok (.iadd, 1) := by decide +kernel
theorem dX12_roundByNearest_149 : decode cX12_roundByNearest 149 = .ok (.iaload, 1) := by decide +kernel
theorem dX12_roundByNearest_150 : decode cX12_roundByNearest 150 = .ok (.ifCond .ne 39, 3) := by decide +kernel
theorem dX12_roundByNearest_153 : decode cX12_roundByNearest 153 = .ok (.aload_n 0, 1) := by decide +kernel
theorem dX12_roundByNearest_154 : decode cX12_roundByNearest 154 = .ok (.getfield 23, 3) := by decide +kernel
theorem dX12_roundByNearest_157 : decode cX12_roundByNearest 157 = .ok (.bipush 60, 2) := by decide +kernel
theorem dX12_roundByNearest_159 : decode cX12_roundByNearest 159 = .ok (.iload_n 1, 1) := by decide +kernel
theorem dX12_roundByNearest_160 : decode cX12_roundByNearest 160 = .ok (.imul, 1) := by decide +kernel
theorem dX12_roundByNearest_161 : decode cX12_roundByNearest 161 = .ok (.iload 8, 2) := by decide +kernel
theorem dX12_roundByNearest_163 : decode cX12_roundByNearest 163 = .ok (.iadd, 1) := by decide +kernel
theorem dX12_roundByNearest_164 : decode cX12_roundByNearest 164 = .ok (.iaload, 1) := by decide +kernel
theorem dX12_roundByNearest_165 : decode cX12_roundByNearest 165 = .ok (.iload_n 3, 1) := by decide +kernel
theorem dX12_roundByNearest_166 : decode cX12_roundByNearest 166 = .ok (.if_icmp .ge 23, 3) := by decide +kernel
theorem dX12_roundByNearest_169 : decode cX12_roundByNearest 169 = .ok (.aload_n 0, 1) := by decide +kernel
theorem dX12_roundByNearest_170 : decode cX12_roundByNearest 170 = .ok (.getfield 23, 3) := by decide +kernel
theorem dX12_roundByNearest_173 : decode cX12_roundByNearest 173 = .ok (.bipush 60, 2) := by decide +kernel
theorem dX12_roundByNearest_175 : decode cX12_roundByNearest 175 = .ok (.iload_n 1, 1) := by decide +kernel
theorem dX12_roundByNearest_176 : decode cX12_roundByNearest 176 = .ok (.imul, 1) := by decide +kernel
theorem dX12_roundByNearest_177 : decode cX12_roundByNearest 177 = .ok (.iload 8, 2) := by decide +kernel
theorem dX12_roundByNearest_179 : decode cX12_roundByNearest 179 = .ok (.iadd, 1) := by decide +kernel
theorem dX12_roundByNearest_180 : decode cX12_roundByNearest 180 = .ok (.iaload, 1) := by decide +kernel
theorem dX12_roundByNearest_181 : decode cX12_roundByNearest 181 = .ok (.istore_n 3, 1) := by decide +kernel
theorem dX12_roundByNearest_182 : decode cX12_roundByNearest 182 = .ok (.iload 8, 2) := by decide +kernel
theorem dX12_roundByNearest_184 : decode cX12_roundByNearest 184 = .ok (.istore 4, 2) := by decide +kernel
theorem dX12_roundByNearest_186 : decode cX12_roundByNearest 186 = .ok (.iload 6, 2) := by decide +kernel
theorem dX12_roundByNearest_188 : decode cX12_roundByNearest 188 = .ok (.istore_n 2, 1) := by decide +kernel
theorem dX12_roundByNearest_189 : decode cX12_roundByNearest 189 = .ok (.iinc 6 1, 3) := by decide +kernel
theorem dX12_roundByNearest_192 : decode cX12_roundByNearest 192 = .ok (.goto (-169), 3) := by decide +kernel
theorem dX12_roundByNearest_195 : decode cX12_roundByNearest 195 = .ok (.iload 5, 2) := by decide +kernel
theorem dX12_roundByNearest_197 : decode cX12_roundByNearest 197 = .ok (.ifCond .eq 11, 3) := by decide +kernel
theorem dX12_roundByNearest_200 : decode cX12_roundByNearest 200 = .ok (.iload_n 2, 1) := by decide +kernel
theorem dX12_roundByNearest_201 : decode cX12_roundByNearest 201 = .ok (.iconst (-1), 1) := by decide +kernel
theorem dX12_roundByNearest_202 : decode cX12_roundByNearest 202 = .ok (.if_icmp .ne 6, 3) := by decide +kernel
theorem dX12_roundByNearest_205 : decode cX12_roundByNearest 205 = .ok (.bipush (-8), 2) := by decide +kernel
theorem dX12_roundByNearest_207 : decode cX12_roundByNearest 207 = .ok (.ireturn, 1) := by decide +kernel
theorem dX12_roundByNearest_208 : decode cX12_roundByNearest 208 = .ok (.iload_n 2, 1) := by decide +kernel
theorem dX12_roundByNearest_209 : decode cX12_roundByNearest 209 = .ok (.iconst (-1), 1) := by decide +kernel
theorem dX12_roundByNearest_210 : decode cX12_roundByNearest 210 = .ok (.if_icmp .eq 48, 3) := by decide +kernel
theorem dX12_roundByNearest_213 : decode cX12_roundByNearest 213 = .ok (.aload_n 0, 1) := by decide +kernel
theorem dX12_roundByNearest_214 : decode cX12_roundByNearest 214 = .ok (.iload_n 1, 1) := by decide +kernel
theorem dX12_roundByNearest_215 : decode cX12_roundByNearest 215 = .ok (.iload 4, 2) := by decide +kernel
theorem dX12_roundByNearest_217 : decode cX12_roundByNearest 217 = .ok (.invokevirtual 319, 3) := by decide +kernel
theorem dX12_roundByNearest_220 : decode cX12_roundByNearest 220 = .ok (.istore_n 1, 1) := by decide +kernel
theorem dX12_roundByNearest_221 : decode cX12_roundByNearest 221 = .ok (.aload_n 0, 1) := by decide +kernel
theorem dX12_roundByNearest_222 : decode cX12_roundByNearest 222 = .ok (.iload_n 2, 1) := by decide +kernel
theorem dX12_roundByNearest_223 : decode cX12_roundByNearest 223 = .ok (.iload_n 1, 1) := by decide +kernel
theorem dX12_roundByNearest_224 : decode cX12_roundByNearest 224 = .ok (.iconst 1, 1) := by decide +kernel
theorem dX12_roundByNearest_225 : decode cX12_roundByNearest 225 = .ok (.invokevirtual 303, 3) := by decide +kernel
theorem dX12_roundByNearest_228 : decode cX12_roundByNearest 228 = .ok (.aload_n 0, 1) := by decide +kernel
theorem dX12_roundByNearest_229 : decode cX12_roundByNearest 229 = .ok (.getfield 64, 3) := by decide +kernel
theorem dX12_roundByNearest_232 : decode cX12_roundByNearest 232 = .ok (.iload_n 2, 1) := by decide +kernel
theorem dX12_roundByNearest_233 : decode cX12_roundByNearest 233 = .ok (.dup2, 1) := by decide +kernel
theorem dX12_roundByNearest_234 : decode cX12_roundByNearest 234 = .ok (.iaload, 1) := by decide +kernel
theorem dX12_roundByNearest_235 : decode cX12_roundByNearest 235 = .ok (.iconst 1, 1) := by decide +kernel
theorem dX12_roundByNearest_236 : decode cX12_roundByNearest 236 = .ok (.iadd, 1) := by decide +kernel
theorem dX12_roundByNearest_237 : decode cX12_roundByNearest 237 = .ok (.iastore, 1) := by decide +kernel
theorem dX12_roundByNearest_238 : decode cX12_roundByNearest 238 = .ok (.aload_n 0, 1) := by decide +kernel
theorem dX12_roundByNearest_239 : decode cX12_roundByNearest 239 = .ok (.iload_n 2, 1) := by decide +kernel
theorem dX12_roundByNearest_240 : decode cX12_roundByNearest 240 = .ok (.iload_n 1, 1) := by decide +kernel
theorem dX12_roundByNearest_241 : decode cX12_roundByNearest 241 = .ok (.invokevirtual 130, 3) := by decide +kernel
theorem dX12_roundByNearest_244 : decode cX12_roundByNearest 244 = .ok (.istore_n 1, 1) := by decide +kernel
theorem dX12_roundByNearest_245 : decode cX12_roundByNearest 245 = .ok (.aload_n 0, 1) := by decide +kernel
theorem dX12_roundByNearest_246 : decode cX12_roundByNearest 246 = .ok (.getfield 297, 3) := by decide +kernel
theorem dX12_roundByNearest_249 : decode cX12_roundByNearest 249 = .ok (.sipush 2000, 3) := by decide +kernel
theorem dX12_roundByNearest_252 : decode cX12_roundByNearest 252 = .ok (.if_icmp .le 6, 3) := by decide +kernel
theorem dX12_roundByNearest_255 : decode cX12_roundByNearest 255 = .ok (.bipush (-3), 2) := by decide +kernel
theorem dX12_roundByNearest_257 : decode cX12_roundByNearest 257 = .ok (.ireturn, 1) := by decide +kernel
theorem dX12_roundByNearest_258 : decode cX12_roundByNearest 258 = .ok (.goto (-254), 3) := by decide +kernel
theorem dX12_roundByNearest_261 : decode cX12_roundByNearest 261 = .ok (.aload_n 0, 1) := by decide +kernel
theorem dX12_roundByNearest_262 : decode cX12_roundByNearest 262 = .ok (.getfield 7, 3) := by decide +kernel
theorem dX12_roundByNearest_265 : decode cX12_roundByNearest 265 = .ok (.iconst 0, 1) := by decide +kernel
theorem dX12_roundByNearest_266 : decode cX12_roundByNearest 266 = .ok (.iaload, 1) := by decide +kernel
theorem dX12_roundByNearest_267 : decode cX12_roundByNearest 267 = .ok (.ifCond .le 20, 3) := by decide +kernel
theorem dX12_roundByNearest_270 : decode cX12_roundByNearest 270 = .ok (.aload_n 0, 1) := by decide +kernel
theorem dX12_roundByNearest_271 : decode cX12_roundByNearest 271 = .ok (.getfield 23, 3) := by decide +kernel
theorem dX12_roundByNearest_274 : decode cX12_roundByNearest 274 = .ok (.bipush 60, 2) := by decide +kernel
theorem dX12_roundByNearest_276 : decode cX12_roundByNearest 276 = .ok (.iload_n 1, 1) := by decide +kernel
theorem dX12_roundByNearest_277 : decode cX12_roundByNearest 277 = .ok (.imul, 1) := by decide +kernel
theorem dX12_roundByNearest_278 : decode cX12_roundByNearest 278 = .ok (.iaload, 1) := by decide +kernel
theorem dX12_roundByNearest_279 : decode cX12_roundByNearest 279 = .ok (.ldc 125, 2) := by decide +kernel
theorem dX12_roundByNearest_281 : decode cX12_roundByNearest 281 = .ok (.if_icmp .lt 6, 3) := by decide +kernel
theorem dX12_roundByNearest_284 : decode cX12_roundByNearest 284 = .ok (.bipush (-8), 2) := by decide +kernel
theorem dX12_roundByNearest_286 : decode cX12_roundByNearest 286 = .ok (.ireturn, 1) := by decide +kernel
theorem dX12_roundByNearest_287 : decode cX12_roundByNearest 287 = .ok (.aload_n 0, 1) := by decide +kernel
theorem dX12_roundByNearest_288 : decode cX12_roundByNearest 288 = .ok (.iload_n 1, 1) := by decide +kernel
theorem dX12_roundByNearest_289 : decode cX12_roundByNearest 289 = .ok (.iconst 0, 1) := by decide +kernel
theorem dX12_roundByNearest_290 : decode cX12_roundByNearest 290 = .ok (.invokevirtual 319, 3) := by decide +kernel
theorem dX12_roundByNearest_293 : decode cX12_roundByNearest 293 = .ok (.istore_n 1, 1) := by decide +kernel
theorem dX12_roundByNearest_294 : decode cX12_roundByNearest 294 = .ok (.aload_n 0, 1) := by decide +kernel
theorem dX12_roundByNearest_295 : decode cX12_roundByNearest 295 = .ok (.getfield 297, 3) := by decide +kernel
theorem dX12_roundByNearest_298 : decode cX12_roundByNearest 298 = .ok (.sipush 2000, 3) := by decide +kernel
theorem dX12_roundByNearest_301 : decode cX12_roundByNearest 301 = .ok (.if_icmp .le 8, 3) := by decide +kernel
theorem dX12_roundByNearest_304 : decode cX12_roundByNearest 304 = .ok (.bipush (-3), 2) := by decide +kernel
theorem dX12_roundByNearest_306 : decode cX12_roundByNearest 306 = .ok (.goto 4, 3) := by decide +kernel
theorem dX12_roundByNearest_309 : decode cX12_roundByNearest 309 = .ok (.iconst 0, 1) := by decide +kernel
theorem dX12_roundByNearest_310 : decode cX12_roundByNearest 310 = .ok (.ireturn, 1) := by decide +kernel
theorem dX12_roundByPairs_0 : decode cX12_roundByPairs 0 = .ok (.aload_n 0, 1) := by decide +kernel
theorem dX12_roundByPairs_1 : decode cX12_roundByPairs 1 = .ok (.invokevirtual 245, 3) := by decide +kernel
theorem dX12_roundByPairs_4 : decode cX12_roundByPairs 4 = .ok (.aload_n 0, 1) := by decide +kernel
theorem dX12_roundByPairs_5 : decode cX12_roundByPairs 5 = .ok (.invokevirtual 307, 3) := by decide +kernel
theorem dX12_roundByPairs_8 : decode cX12_roundByPairs 8 = .ok (.ifCond .ne 6, 3) := by decide +kernel
theorem dX12_roundByPairs_11 : decode cX12_roundByPairs 11 = .ok (.bipush (-8), 2) := by decide +kernel
theorem dX12_roundByPairs_13 : decode cX12_roundByPairs 13 = .ok (.ireturn, 1) := by decide +kernel
theorem dX12_roundByPairs_14 : decode cX12_roundByPairs 14 = .ok (.aload_n 0, 1) := by decide +kernel
theorem dX12_roundByPairs_15 : decode cX12_roundByPairs 15 = .ok (.invokevirtual 248, 3) := by decide +kernel
theorem dX12_roundByPairs_18 : decode cX12_roundByPairs 18 = .ok (.aload_n 0, 1) := by decide +kernel
theorem dX12_roundByPairs_19 : decode cX12_roundByPairs 19 = .ok (.getfield 242, 3) := by decide +kernel
theorem dX12_roundByPairs_22 : decode cX12_roundByPairs 22 = .ok (.bipush 14, 2) := by decide +kernel
theorem dX12_roundByPairs_24 : decode cX12_roundByPairs 24 = .ok (.if_icmp .gt 10, 3) := by decide +kernel
theorem dX12_roundByPairs_27 : decode cX12_roundByPairs 27 = .ok (.aload_n 0, 1) := by decide +kernel
theorem dX12_roundByPairs_28 : decode cX12_roundByPairs 28 = .ok (.invokevirtual 310, 3) := by decide +kernel
theorem dX12_roundByPairs_31 : decode cX12_roundByPairs 31 = .ok (.goto 7, 3) := by decide +kernel
theorem dX12_roundByPairs_34 : decode cX12_roundByPairs 34 = .ok (.aload_n 0, 1) := by decide +kernel
theorem dX12_roundByPairs_35 : decode cX12_roundByPairs 35 = .ok (.invokevirtual 313, 3) := by decide +kernel
theorem dX12_roundByPairs_38 : decode cX12_roundByPairs 38 = .ok (.iconst 0, 1) := by decide +kernel
theorem dX12_roundByPairs_39 : decode cX12_roundByPairs 39 = .ok (.istore_n 1, 1) := by decide +kernel
theorem dX12_roundByPairs_40 : decode cX12_roundByPairs 40 = .ok (.iload_n 1, 1) := by decide +kernel
theorem dX12_roundByPairs_41 : decode cX12_roundByPairs 41 = .ok (.aload_n 0, 1) := by decide +kernel
theorem dX12_roundByPairs_42 : decode cX12_roundByPairs 42 = .ok (.getfield 285, 3) := by decide +kernel
theorem dX12_roundByPairs_45 : decode cX12_roundByPairs 45 = .ok (.if_icmp .ge 26, 3) := by decide +kernel
theorem dX12_roundByPairs_48 : decode cX12_roundByPairs 48 = .ok (.aload_n 0, 1) := by decide +kernel
theorem dX12_roundByPairs_49 : decode cX12_roundByPairs 49 = .ok (.aload_n 0, 1) := by decide +kernel
theorem dX12_roundByPairs_50 : decode cX12_roundByPairs 50 = .ok (.getfield 49, 3) := by decide +kernel
theorem dX12_roundByPairs_53 : decode cX12_roundByPairs 53 = .ok (.iload_n 1, 1) := by decide +kernel
theorem dX12_roundByPairs_54 : decode cX12_roundByPairs 54 = .ok (.iaload, 1) := by decide +kernel
theorem dX12_roundByPairs_55 : decode cX12_roundByPairs 55 = .ok (.aload_n 0, 1) := by decide +kernel
theorem dX12_roundByPairs_56 : decode cX12_roundByPairs 56 = .ok (.getfield 52, 3) := by decide +kernel
theorem dX12_roundByPairs_59 : decode cX12_roundByPairs 59 = .ok (.iload_n 1, 1) := by decide +kernel
theorem dX12_roundByPairs_60 : decode cX12_roundByPairs 60 = .ok (.iaload, 1) := by decide +kernel
theorem dX12_roundByPairs_61 : decode cX12_roundByPairs 61 = .ok (.iconst 1, 1) := by decide +kernel
theorem dX12_roundByPairs_62 : decode cX12_roundByPairs 62 = .ok (.invokevirtual 281, 3) := by decide +kernel
theorem dX12_roundByPairs_65 : decode cX12_roundByPairs 65 = .ok (.iinc 1 1, 3) := by decide +kernel
theorem dX12_roundByPairs_68 : decode cX12_roundByPairs 68 = .ok (.goto (-28), 3) := by decide +kernel
theorem dX12_roundByPairs_71 : decode cX12_roundByPairs 71 = .ok (.iconst 0, 1) := by decide +kernel
theorem dX12_roundByPairs_72 : decode cX12_roundByPairs 72 = .ok (.istore_n 1, 1) := by decide +kernel
theorem dX12_roundByPairs_73 : decode cX12_roundByPairs 73 = .ok (.iconst 0, 1) := by decide +kernel
theorem dX12_roundByPairs_74 : decode cX12_roundByPairs 74 = .ok (.istore_n 2, 1) := by decide +kernel
theorem dX12_roundByPairs_75 : decode cX12_roundByPairs 75 = .ok (.iload_n 2, 1) := by decide +kernel
theorem dX12_roundByPairs_76 : decode cX12_roundByPairs 76 = .ok (.aload_n 0, 1) := by decide +kernel
theorem dX12_roundByPairs_77 : decode cX12_roundByPairs 77 = .ok (.getfield 7, 3) := by decide +kernel
theorem dX12_roundByPairs_80 : decode cX12_roundByPairs 80 = .ok (.iconst 1, 1) := by decide +kernel
theorem dX12_roundByPairs_81 : decode cX12_roundByPairs 81 = .ok (.iaload, 1) := by decide +kernel
theorem dX12_roundByPairs_82 : decode cX12_roundByPairs 82 = .ok (.if_icmp .ge 18, 3) := by decide +kernel
theorem dX12_roundByPairs_85 : decode cX12_roundByPairs 85 = .ok (.iload_n 1, 1) := by decide +kernel
theorem dX12_roundByPairs_86 : decode cX12_roundByPairs 86 = .ok (.aload_n 0, 1) := by decide +kernel
theorem dX12_roundByPairs_87 : decode cX12_roundByPairs 87 = .ok (.getfield 37, 3) := by decide +kernel
theorem dX12_roundByPairs_90 : decode cX12_roundByPairs 90 = .ok (.iload_n 2, 1) := by decide +kernel
theorem dX12_roundByPairs_91 : decode cX12_roundByPairs 91 = .ok (.iaload, 1) := by decide +kernel
theorem dX12_roundByPairs_92 : decode cX12_roundByPairs 92 = .ok (.iadd, 1) := by decide +kernel
theorem dX12_roundByPairs_93 : decode cX12_roundByPairs 93 = .ok (.istore_n 1, 1) := by decide +kernel
theorem dX12_roundByPairs_94 : decode cX12_roundByPairs 94 = .ok (.iinc 2 1, 3) := by decide +kernel
theorem dX12_roundByPairs_97 : decode cX12_roundByPairs 97 = .ok (.goto (-22), 3) := by decide +kernel
theorem dX12_roundByPairs_100 : decode cX12_roundByPairs 100 = .ok (.iload_n 1, 1) := by decide +kernel
theorem dX12_roundByPairs_101 : decode cX12_roundByPairs 101 = .ok (.sipush 2000, 3) := by decide +kernel
theorem dX12_roundByPairs_104 : decode cX12_roundByPairs 104 = .ok (.if_icmp .le 6, 3) := by decide +kernel
theorem dX12_roundByPairs_107 : decode cX12_roundByPairs 107 = .ok (.bipush (-3), 2) := by decide +kernel
theorem dX12_roundByPairs_109 : decode cX12_roundByPairs 109 = .ok (.ireturn, 1) := by decide +kernel
theorem dX12_roundByPairs_110 : decode cX12_roundByPairs 110 = .ok (.aload_n 0, 1) := by decide +kernel
theorem dX12_roundByPairs_111 : decode cX12_roundByPairs 111 = .ok (.invokevirtual 316, 3) := by decide +kernel
theorem dX12_roundByPairs_114 : decode cX12_roundByPairs 114 = .ok (.iconst 0, 1) := by decide +kernel
theorem dX12_roundByPairs_115 : decode cX12_roundByPairs 115 = .ok (.ireturn, 1) := by decide +kernel
theorem dX12_row_0 : decode cX12_row 0 = .ok (.aload_n 0, 1) := by decide +kernel
theorem dX12_row_1 : decode cX12_row 1 = .ok (.iload_n 1, 1) := by decide +kernel
theorem dX12_row_2 : decode cX12_row 2 = .ok (.invokevirtual 143, 3) := by decide +kernel
theorem dX12_row_5 : decode cX12_row 5 = .ok (.ifCond .eq 10, 3) := by decide +kernel
theorem dX12_row_8 : decode cX12_row 8 = .ok (.iload_n 2, 1) := by decide +kernel
theorem dX12_row_9 : decode cX12_row 9 = .ok (.sipush 200, 3) := by decide +kernel
theorem dX12_row_12 : decode cX12_row 12 = .ok (.if_icmp .le 10, 3) := by decide +kernel
theorem dX12_row_15 : decode cX12_row 15 = .ok (.aload_n 0, 1) := by decide +kernel
theorem dX12_row_16 : decode cX12_row 16 = .ok (.bipush (-2), 2) := by decide +kernel
theorem dX12_row_18 : decode cX12_row 18 = .ok (.invokevirtual 92, 3) := by decide +kernel
theorem dX12_row_21 : decode cX12_row 21 = .ok (.ireturn, 1) := by decide +kernel
theorem dX12_row_22 : decode cX12_row 22 = .ok (.iload_n 2, 1) := by decide +kernel
theorem dX12_row_23 : decode cX12_row 23 = .ok (.ifCond .ge 10, 3) := by decide +kernel
theorem dX12_row_26 : decode cX12_row 26 = .ok (.aload_n 0, 1) := by decide +kernel
theorem dX12_row_27 : decode cX12_row 27 = .ok (.bipush (-7), 2) := by decide +kernel
theorem dX12_row_29 : decode cX12_row 29 = .ok (.invokevirtual 92, 3) := by decide +kernel
theorem dX12_row_32 : decode cX12_row 32 = .ok (.ireturn, 1) := by decide +kernel
theorem dX12_row_33 : decode cX12_row 33 = .ok (.aload_n 0, 1) := by decide +kernel
theorem dX12_row_34 : decode cX12_row 34 = .ok (.invokevirtual 96, 3) := by decide +kernel
theorem dX12_row_37 : decode cX12_row 37 = .ok (.aload_n 0, 1) := by decide +kernel
theorem dX12_row_38 : decode cX12_row 38 = .ok (.getfield 7, 3) := by decide +kernel
theorem dX12_row_41 : decode cX12_row 41 = .ok (.aload_n 0, 1) := by decide +kernel
theorem dX12_row_42 : decode cX12_row 42 = .ok (.iload_n 1, 1) := by decide +kernel
theorem dX12_row_43 : decode cX12_row 43 = .ok (.invokevirtual 140, 3) := by decide +kernel
theorem dX12_row_46 : decode cX12_row 46 = .ok (.iconst 2, 1) := by decide +kernel
theorem dX12_row_47 : decode cX12_row 47 = .ok (.iadd, 1) := by decide +kernel
theorem dX12_row_48 : decode cX12_row 48 = .ok (.iload_n 2, 1) := by decide +kernel
theorem dX12_row_49 : decode cX12_row 49 = .ok (.iastore, 1) := by decide +kernel
theorem dX12_row_50 : decode cX12_row 50 = .ok (.sipush 200, 3) := by decide +kernel
theorem dX12_row_53 : decode cX12_row 53 = .ok (.iload_n 1, 1) := by decide +kernel
theorem dX12_row_54 : decode cX12_row 54 = .ok (.imul, 1) := by decide +kernel
theorem dX12_row_55 : decode cX12_row 55 = .ok (.istore_n 3, 1) := by decide +kernel
theorem dX12_row_56 : decode cX12_row 56 = .ok (.iload_n 3, 1) := by decide +kernel
theorem dX12_row_57 : decode cX12_row 57 = .ok (.sipush 200, 3) := by decide +kernel
theorem dX12_row_60 : decode cX12_row 60 = .ok (.iload_n 1, 1) := by decide +kernel
theorem dX12_row_61 : decode cX12_row 61 = .ok (.imul, 1) := by decide +kernel
theorem dX12_row_62 : decode cX12_row 62 = .ok (.iload_n 2, 1) := by decide +kernel
theorem dX12_row_63 : decode cX12_row 63 = .ok (.iadd, 1) := by decide +kernel
theorem dX12_row_64 : decode cX12_row 64 = .ok (.if_icmp .ge 31, 3) := by decide +kernel
theorem dX12_row_67 : decode cX12_row 67 = .ok (.aload_n 0, 1) := by decide +kernel
theorem dX12_row_68 : decode cX12_row 68 = .ok (.getfield 7, 3) := by decide +kernel
theorem dX12_row_71 : decode cX12_row 71 = .ok (.sipush 1426, 3) := by decide +kernel
theorem dX12_row_74 : decode cX12_row 74 = .ok (.iload_n 3, 1) := by decide +kernel
theorem dX12_row_75 : decode cX12_row 75 = .ok (.iadd, 1) := by decide +kernel
theorem dX12_row_76 : decode cX12_row 76 = .ok (.iconst 0, 1) := by decide +kernel
theorem dX12_row_77 : decode cX12_row 77 = .ok (.iastore, 1) := by decide +kernel
theorem dX12_row_78 : decode cX12_row 78 = .ok (.aload_n 0, 1) := by decide +kernel
theorem dX12_row_79 : decode cX12_row 79 = .ok (.getfield 7, 3) := by decide +kernel
theorem dX12_row_82 : decode cX12_row 82 = .ok (.sipush 5426, 3) := by decide +kernel
theorem dX12_row_85 : decode cX12_row 85 = .ok (.iload_n 3, 1) := by decide +kernel
theorem dX12_row_86 : decode cX12_row 86 = .ok (.iadd, 1) := by decide +kernel
theorem dX12_row_87 : decode cX12_row 87 = .ok (.iconst 0, 1) := by decide +kernel
theorem dX12_row_88 : decode cX12_row 88 = .ok (.iastore, 1) := by decide +kernel
theorem dX12_row_89 : decode cX12_row 89 = .ok (.iinc 3 1, 3) := by decide +kernel
theorem dX12_row_92 : decode cX12_row 92 = .ok (.goto (-36), 3) := by decide +kernel
theorem dX12_row_95 : decode cX12_row 95 = .ok (.aload_n 0, 1) := by decide +kernel
theorem dX12_row_96 : decode cX12_row 96 = .ok (.iconst 1, 1) := by decide +kernel
theorem dX12_row_97 : decode cX12_row 97 = .ok (.invokevirtual 102, 3) := by decide +kernel
theorem dX12_row_100 : decode cX12_row 100 = .ok (.ireturn, 1) := by decide +kernel
theorem dX12_salt_0 : decode cX12_salt 0 = .ok (.aload_n 0, 1) := by decide +kernel
theorem dX12_salt_1 : decode cX12_salt 1 = .ok (.iload_n 1, 1) := by decide +kernel
theorem dX12_salt_2 : decode cX12_salt 2 = .ok (.invokevirtual 197, 3) := by decide +kernel
theorem dX12_salt_5 : decode cX12_salt 5 = .ok (.ifCond .eq 11, 3) := by decide +kernel
theorem dX12_salt_8 : decode cX12_salt 8 = .ok (.aload_n 0, 1) := by decide +kernel
theorem dX12_salt_9 : decode cX12_salt 9 = .ok (.iload_n 2, 1) := by decide +kernel
theorem dX12_salt_10 : decode cX12_salt 10 = .ok (.invokevirtual 112, 3) := by decide +kernel
theorem dX12_salt_13 : decode cX12_salt 13 = .ok (.ifCond .ne 10, 3) := by decide +kernel
theorem dX12_salt_16 : decode cX12_salt 16 = .ok (.aload_n 0, 1) := by decide +kernel
theorem dX12_salt_17 : decode cX12_salt 17 = .ok (.bipush (-2), 2) := by decide +kernel
theorem dX12_salt_19 : decode cX12_salt 19 = .ok (.invokevirtual 92, 3) := by decide +kernel
theorem dX12_salt_22 : decode cX12_salt 22 = .ok (.ireturn, 1) := by decide +kernel
theorem dX12_salt_23 : decode cX12_salt 23 = .ok (.aload_n 0, 1) := by decide +kernel
theorem dX12_salt_24 : decode cX12_salt 24 = .ok (.getfield 7, 3) := by decide +kernel
theorem dX12_salt_27 : decode cX12_salt 27 = .ok (.aload_n 0, 1) := by decide +kernel
theorem dX12_salt_28 : decode cX12_salt 28 = .ok (.iload_n 1, 1) := by decide +kernel
theorem dX12_salt_29 : decode cX12_salt 29 = .ok (.invokevirtual 188, 3) := by decide +kernel
theorem dX12_salt_32 : decode cX12_salt 32 = .ok (.iconst 2, 1) := by decide +kernel
theorem dX12_salt_33 : decode cX12_salt 33 = .ok (.iadd, 1) := by decide +kernel
theorem dX12_salt_34 : decode cX12_salt 34 = .ok (.iaload, 1) := by decide +kernel
theorem dX12_salt_35 : decode cX12_salt 35 = .ok (.iconst 1, 1) := by decide +kernel
theorem dX12_salt_36 : decode cX12_salt 36 = .ok (.if_icmp .ne 10, 3) := by decide +kernel
theorem dX12_salt_39 : decode cX12_salt 39 = .ok (.aload_n 0, 1) := by decide +kernel
theorem dX12_salt_40 : decode cX12_salt 40 = .ok (.bipush (-4), 2) := by decide +kernel
theorem dX12_salt_42 : decode cX12_salt 42 = .ok (.invokevirtual 92, 3) := by decide +kernel
theorem dX12_salt_45 : decode cX12_salt 45 = .ok (.ireturn, 1) := by decide +kernel
theorem dX12_salt_46 : decode cX12_salt 46 = .ok (.aload_n 0, 1) := by decide +kernel
theorem dX12_salt_47 : decode cX12_salt 47 = .ok (.iload_n 1, 1) := by decide +kernel
theorem dX12_salt_48 : decode cX12_salt 48 = .ok (.invokevirtual 206, 3) := by decide +kernel
theorem dX12_salt_51 : decode cX12_salt 51 = .ok (.iconst 2, 1) := by decide +kernel
theorem dX12_salt_52 : decode cX12_salt 52 = .ok (.if_icmp .eq 10, 3) := by decide +kernel
theorem dX12_salt_55 : decode cX12_salt 55 = .ok (.aload_n 0, 1) := by decide +kernel
theorem dX12_salt_56 : decode cX12_salt 56 = .ok (.bipush (-6), 2) := by decide +kernel
theorem dX12_salt_58 : decode cX12_salt 58 = .ok (.invokevirtual 92, 3) := by decide +kernel
theorem dX12_salt_61 : decode cX12_salt 61 = .ok (.ireturn, 1) := by decide +kernel
theorem dX12_salt_62 : decode cX12_salt 62 = .ok (.aload_n 0, 1) := by decide +kernel
theorem dX12_salt_63 : decode cX12_salt 63 = .ok (.invokevirtual 96, 3) := by decide +kernel
theorem dX12_salt_66 : decode cX12_salt 66 = .ok (.aload_n 0, 1) := by decide +kernel
theorem dX12_salt_67 : decode cX12_salt 67 = .ok (.iload_n 2, 1) := by decide +kernel
theorem dX12_salt_68 : decode cX12_salt 68 = .ok (.bipush 50, 2) := by decide +kernel
theorem dX12_salt_70 : decode cX12_salt 70 = .ok (.invokevirtual 184, 3) := by decide +kernel
theorem dX12_salt_73 : decode cX12_salt 73 = .ok (.aload_n 0, 1) := by decide +kernel
theorem dX12_salt_74 : decode cX12_salt 74 = .ok (.aload_n 0, 1) := by decide +kernel
theorem dX12_salt_75 : decode cX12_salt 75 = .ok (.getfield 7, 3) := by decide +kernel
theorem dX12_salt_78 : decode cX12_salt 78 = .ok (.aload_n 0, 1) := by decide +kernel
theorem dX12_salt_79 : decode cX12_salt 79 = .ok (.iload_n 2, 1) := by decide +kernel
theorem dX12_salt_80 : decode cX12_salt 80 = .ok (.invokevirtual 109, 3) := by decide +kernel
theorem dX12_salt_83 : decode cX12_salt 83 = .ok (.iconst 0, 1) := by decide +kernel
theorem dX12_salt_84 : decode cX12_salt 84 = .ok (.iadd, 1) := by decide +kernel
theorem dX12_salt_85 : decode cX12_salt 85 = .ok (.iaload, 1) := by decide +kernel
theorem dX12_salt_86 : decode cX12_salt 86 = .ok (.invokevirtual 102, 3) := by decide +kernel
theorem dX12_salt_89 : decode cX12_salt 89 = .ok (.ireturn, 1) := by decide +kernel
theorem dX12_says_0 : decode cX12_says 0 = .ok (.aload_n 0, 1) := by decide +kernel
theorem dX12_says_1 : decode cX12_says 1 = .ok (.iconst 0, 1) := by decide +kernel
theorem dX12_says_2 : decode cX12_says 2 = .ok (.putfield 76, 3) := by decide +kernel
theorem dX12_says_5 : decode cX12_says 5 = .ok (.iload_n 1, 1) := by decide +kernel
theorem dX12_says_6 : decode cX12_says 6 = .ok (.ireturn, 1) := by decide +kernel
theorem dX12_second_0 : decode cX12_second 0 = .ok (.aload_n 0, 1) := by decide +kernel
theorem dX12_second_1 : decode cX12_second 1 = .ok (.aload_n 0, 1) := by decide +kernel
theorem dX12_second_2 : decode cX12_second 2 = .ok (.getfield 7, 3) := by decide +kernel
theorem dX12_second_5 : decode cX12_second 5 = .ok (.aload_n 0, 1) := by decide +kernel
theorem dX12_second_6 : decode cX12_second 6 = .ok (.iload_n 1, 1) := by decide +kernel
theorem dX12_second_7 : decode cX12_second 7 = .ok (.invokevirtual 188, 3) := by decide +kernel
theorem dX12_second_10 : decode cX12_second 10 = .ok (.iconst 4, 1) := by decide +kernel
theorem dX12_second_11 : decode cX12_second 11 = .ok (.iadd, 1) := by decide +kernel
theorem dX12_second_12 : decode cX12_second 12 = .ok (.iaload, 1) := by decide +kernel
theorem dX12_second_13 : decode cX12_second 13 = .ok (.invokevirtual 206, 3) := by decide +kernel
theorem dX12_second_16 : decode cX12_second 16 = .ok (.ireturn, 1) := by decide +kernel
theorem dX12_shut_0 : decode cX12_shut 0 = .ok (.aload_n 0, 1) := by decide +kernel
theorem dX12_shut_1 : decode cX12_shut 1 = .ok (.iload_n 1, 1) := by decide +kernel
theorem dX12_shut_2 : decode cX12_shut 2 = .ok (.iconst 4, 1) := by decide +kernel
theorem dX12_shut_3 : decode cX12_shut 3 = .ok (.iload_n 2, 1) := by decide +kernel
theorem dX12_shut_4 : decode cX12_shut 4 = .ok (.invokevirtual 115, 3) := by decide +kernel
theorem dX12_shut_7 : decode cX12_shut 7 = .ok (.ireturn, 1) := by decide +kernel
theorem dX12_sides_0 : decode cX12_sides 0 = .ok (.aload_n 0, 1) := by decide +kernel
theorem dX12_sides_1 : decode cX12_sides 1 = .ok (.iload_n 1, 1) := by decide +kernel
theorem dX12_sides_2 : decode cX12_sides 2 = .ok (.invokevirtual 112, 3) := by decide +kernel
theorem dX12_sides_5 : decode cX12_sides 5 = .ok (.ifCond .eq 12, 3) := by decide +kernel
theorem dX12_sides_8 : decode cX12_sides 8 = .ok (.iload_n 2, 1) := by decide +kernel
theorem dX12_sides_9 : decode cX12_sides 9 = .ok (.iconst 0, 1) := by decide +kernel
theorem dX12_sides_10 : decode cX12_sides 10 = .ok (.iconst 2, 1) := by decide +kernel
theorem dX12_sides_11 : decode cX12_sides 11 = .ok (.invokestatic 88, 3) := by decide +kernel
theorem dX12_sides_14 : decode cX12_sides 14 = .ok (.ifCond .ne 10, 3) := by decide +kernel
theorem dX12_sides_17 : decode cX12_sides 17 = .ok (.aload_n 0, 1) := by decide +kernel
theorem dX12_sides_18 : decode cX12_sides 18 = .ok (.bipush (-2), 2) := by decide +kernel
theorem dX12_sides_20 : decode cX12_sides 20 = .ok (.invokevirtual 92, 3) := by decide +kernel
theorem dX12_sides_23 : decode cX12_sides 23 = .ok (.ireturn, 1) := by decide +kernel
theorem dX12_sides_24 : decode cX12_sides 24 = .ok (.aload_n 0, 1) := by decide +kernel
theorem dX12_sides_25 : decode cX12_sides 25 = .ok (.invokevirtual 96, 3) := by decide +kernel
theorem dX12_sides_28 : decode cX12_sides 28 = .ok (.aload_n 0, 1) := by decide +kernel
theorem dX12_sides_29 : decode cX12_sides 29 = .ok (.getfield 7, 3) := by decide +kernel
theorem dX12_sides_32 : decode cX12_sides 32 = .ok (.aload_n 0, 1) := by decide +kernel
theorem dX12_sides_33 : decode cX12_sides 33 = .ok (.iload_n 1, 1) := by decide +kernel
theorem dX12_sides_34 : decode cX12_sides 34 = .ok (.invokevirtual 109, 3) := by decide +kernel
theorem dX12_sides_37 : decode cX12_sides 37 = .ok (.iconst 3, 1) := by decide +kernel
theorem dX12_sides_38 : decode cX12_sides 38 = .ok (.iadd, 1) := by decide +kernel
theorem dX12_sides_39 : decode cX12_sides 39 = .ok (.iaload, 1) := by decide +kernel
theorem dX12_sides_40 : decode cX12_sides 40 = .ok (.istore_n 3, 1) := by decide +kernel
theorem dX12_sides_41 : decode cX12_sides 41 = .ok (.aload_n 0, 1) := by decide +kernel
theorem dX12_sides_42 : decode cX12_sides 42 = .ok (.getfield 7, 3) := by decide +kernel
theorem dX12_sides_45 : decode cX12_sides 45 = .ok (.aload_n 0, 1) := by decide +kernel
theorem dX12_sides_46 : decode cX12_sides 46 = .ok (.iload_n 1, 1) := by decide +kernel
theorem dX12_sides_47 : decode cX12_sides 47 = .ok (.invokevirtual 109, 3) := by decide +kernel
theorem dX12_sides_50 : decode cX12_sides 50 = .ok (.iconst 3, 1) := by decide +kernel
theorem dX12_sides_51 : decode cX12_sides 51 = .ok (.iadd, 1) := by decide +kernel
theorem dX12_sides_52 : decode cX12_sides 52 = .ok (.iload_n 2, 1) := by decide +kernel
theorem dX12_sides_53 : decode cX12_sides 53 = .ok (.iastore, 1) := by decide +kernel
theorem dX12_sides_54 : decode cX12_sides 54 = .ok (.aload_n 0, 1) := by decide +kernel
theorem dX12_sides_55 : decode cX12_sides 55 = .ok (.getfield 7, 3) := by decide +kernel
theorem dX12_sides_58 : decode cX12_sides 58 = .ok (.aload_n 0, 1) := by decide +kernel
theorem dX12_sides_59 : decode cX12_sides 59 = .ok (.iload_n 1, 1) := by decide +kernel
theorem dX12_sides_60 : decode cX12_sides 60 = .ok (.invokevirtual 109, 3) := by decide +kernel
theorem dX12_sides_63 : decode cX12_sides 63 = .ok (.iconst 2, 1) := by decide +kernel
theorem dX12_sides_64 : decode cX12_sides 64 = .ok (.iadd, 1) := by decide +kernel
theorem dX12_sides_65 : decode cX12_sides 65 = .ok (.iconst 0, 1) := by decide +kernel
theorem dX12_sides_66 : decode cX12_sides 66 = .ok (.iastore, 1) := by decide +kernel
theorem dX12_sides_67 : decode cX12_sides 67 = .ok (.aload_n 0, 1) := by decide +kernel
theorem dX12_sides_68 : decode cX12_sides 68 = .ok (.iload_n 3, 1) := by decide +kernel
theorem dX12_sides_69 : decode cX12_sides 69 = .ok (.invokevirtual 102, 3) := by decide +kernel
theorem dX12_sides_72 : decode cX12_sides 72 = .ok (.ireturn, 1) := by decide +kernel
theorem dX12_sign_0 : decode cX12_sign 0 = .ok (.iload_n 1, 1) := by decide +kernel
theorem dX12_sign_1 : decode cX12_sign 1 = .ok (.iconst 0, 1) := by decide +kernel
theorem dX12_sign_2 : decode cX12_sign 2 = .ok (.aload_n 0, 1) := by decide +kernel
theorem dX12_sign_3 : decode cX12_sign 3 = .ok (.getfield 350, 3) := by decide +kernel
theorem dX12_sign_6 : decode cX12_sign 6 = .ok (.iconst 1, 1) := by decide +kernel
theorem dX12_sign_7 : decode cX12_sign 7 = .ok (.isub, 1) := by decide +kernel
theorem dX12_sign_8 : decode cX12_sign 8 = .ok (.invokestatic 88, 3) := by decide +kernel
theorem dX12_sign_11 : decode cX12_sign 11 = .ok (.ifCond .eq 12, 3) := by decide +kernel
theorem dX12_sign_14 : decode cX12_sign 14 = .ok (.aload_n 0, 1) := by decide +kernel
theorem dX12_sign_15 : decode cX12_sign 15 = .ok (.getfield 19, 3) := by decide +kernel
theorem dX12_sign_18 : decode cX12_sign 18 = .ok (.iload_n 1, 1) := by decide +kernel
theorem dX12_sign_19 : decode cX12_sign 19 = .ok (.caload, 1) := by decide +kernel
theorem dX12_sign_20 : decode cX12_sign 20 = .ok (.goto 4, 3) := by decide +kernel
theorem dX12_sign_23 : decode cX12_sign 23 = .ok (.iconst (-1), 1) := by decide +kernel
theorem dX12_sign_24 : decode cX12_sign 24 = .ok (.ireturn, 1) := by decide +kernel
theorem dX12_snow_0 : decode cX12_snow 0 = .ok (.iload_n 1, 1) := by decide +kernel
theorem dX12_snow_1 : decode cX12_snow 1 = .ok (.iconst 0, 1) := by decide +kernel
theorem dX12_snow_2 : decode cX12_snow 2 = .ok (.sipush 199, 3) := by decide +kernel
theorem dX12_snow_5 : decode cX12_snow 5 = .ok (.invokestatic 88, 3) := by decide +kernel
theorem dX12_snow_8 : decode cX12_snow 8 = .ok (.ifCond .ne 10, 3) := by decide +kernel
theorem dX12_snow_11 : decode cX12_snow 11 = .ok (.aload_n 0, 1) := by decide +kernel
theorem dX12_snow_12 : decode cX12_snow 12 = .ok (.bipush (-2), 2) := by decide +kernel
theorem dX12_snow_14 : decode cX12_snow 14 = .ok (.invokevirtual 92, 3) := by decide +kernel
theorem dX12_snow_17 : decode cX12_snow 17 = .ok (.ireturn, 1) := by decide +kernel
theorem dX12_snow_18 : decode cX12_snow 18 = .ok (.aload_n 0, 1) := by decide +kernel
theorem dX12_snow_19 : decode cX12_snow 19 = .ok (.invokevirtual 96, 3) := by decide +kernel
theorem dX12_snow_22 : decode cX12_snow 22 = .ok (.iconst 0, 1) := by decide +kernel
theorem dX12_snow_23 : decode cX12_snow 23 = .ok (.istore_n 2, 1) := by decide +kernel
theorem dX12_snow_24 : decode cX12_snow 24 = .ok (.iload_n 2, 1) := by decide +kernel
theorem dX12_snow_25 : decode cX12_snow 25 = .ok (.aload_n 0, 1) := by decide +kernel
theorem dX12_snow_26 : decode cX12_snow 26 = .ok (.getfield 7, 3) := by decide +kernel
theorem dX12_snow_29 : decode cX12_snow 29 = .ok (.iconst 2, 1) := by decide +kernel
theorem dX12_snow_30 : decode cX12_snow 30 = .ok (.iaload, 1) := by decide +kernel
theorem dX12_snow_31 : decode cX12_snow 31 = .ok (.if_icmp .ge 80, 3) := by decide +kernel
theorem dX12_snow_34 : decode cX12_snow 34 = .ok (.aload_n 0, 1) := by decide +kernel
theorem dX12_snow_35 : decode cX12_snow 35 = .ok (.iload_n 2, 1) := by decide +kernel
theorem dX12_snow_36 : decode cX12_snow 36 = .ok (.iload_n 1, 1) := by decide +kernel
theorem dX12_snow_37 : decode cX12_snow 37 = .ok (.invokevirtual 146, 3) := by decide +kernel
theorem dX12_snow_40 : decode cX12_snow 40 = .ok (.istore_n 3, 1) := by decide +kernel
theorem dX12_snow_41 : decode cX12_snow 41 = .ok (.aload_n 0, 1) := by decide +kernel
theorem dX12_snow_42 : decode cX12_snow 42 = .ok (.iload_n 3, 1) := by decide +kernel
theorem dX12_snow_43 : decode cX12_snow 43 = .ok (.invokevirtual 80, 3) := by decide +kernel
theorem dX12_snow_46 : decode cX12_snow 46 = .ok (.aload_n 0, 1) := by decide +kernel
theorem dX12_snow_47 : decode cX12_snow 47 = .ok (.getfield 29, 3) := by decide +kernel
theorem dX12_snow_50 : decode cX12_snow 50 = .ok (.iload_n 2, 1) := by decide +kernel
theorem dX12_snow_51 : decode cX12_snow 51 = .ok (.iload_n 3, 1) := by decide +kernel
theorem dX12_snow_52 : decode cX12_snow 52 = .ok (.ifCond .ne 26, 3) := by decide +kernel
theorem dX12_snow_55 : decode cX12_snow 55 = .ok (.aload_n 0, 1) := by decide +kernel
theorem dX12_snow_56 : decode cX12_snow 56 = .ok (.getfield 7, 3) := by decide +kernel
theorem dX12_snow_59 : decode cX12_snow 59 = .ok (.sipush 5426, 3) := by decide +kernel
theorem dX12_snow_62 : decode cX12_snow 62 = .ok (.sipush 200, 3) := by decide +kernel
theorem dX12_snow_65 : decode cX12_snow 65 = .ok (.iload_n 2, 1) := by decide +kernel
theorem dX12_snow_66 : decode cX12_snow 66 = .ok (.imul, 1) := by decide +kernel
theorem dX12_snow_67 : decode cX12_snow 67 = .ok (.iadd, 1) := by decide +kernel
theorem dX12_snow_68 : decode cX12_snow 68 = .ok (.iload_n 1, 1) := by decide +kernel
theorem dX12_snow_69 : decode cX12_snow 69 = .ok (.iadd, 1) := by decide +kernel
theorem dX12_snow_70 : decode cX12_snow 70 = .ok (.iaload, 1) := by decide +kernel
theorem dX12_snow_71 : decode cX12_snow 71 = .ok (.ifCond .ne 7, 3) := by decide +kernel
theorem dX12_snow_74 : decode cX12_snow 74 = .ok (.iconst 1, 1) := by decide +kernel
theorem dX12_snow_75 : decode cX12_snow 75 = .ok (.goto 4, 3) := by decide +kernel
theorem dX12_snow_78 : decode cX12_snow 78 = .ok (.iconst 0, 1) := by decide +kernel
theorem dX12_snow_79 : decode cX12_snow 79 = .ok (.bastore, 1) := by decide +kernel
theorem dX12_snow_80 : decode cX12_snow 80 = .ok (.aload_n 0, 1) := by decide +kernel
theorem dX12_snow_81 : decode cX12_snow 81 = .ok (.getfield 33, 3) := by decide +kernel
theorem dX12_snow_84 : decode cX12_snow 84 = .ok (.iload_n 2, 1) := by decide +kernel
theorem dX12_snow_85 : decode cX12_snow 85 = .ok (.aload_n 0, 1) := by decide +kernel
theorem dX12_snow_86 : decode cX12_snow 86 = .ok (.getfield 29, 3) := by decide +kernel
theorem dX12_snow_89 : decode cX12_snow 89 = .ok (.iload_n 2, 1) := by decide +kernel
theorem dX12_snow_90 : decode cX12_snow 90 = .ok (.baload, 1) := by decide +kernel
theorem dX12_snow_91 : decode cX12_snow 91 = .ok (.ifCond .eq 12, 3) := by decide +kernel
theorem dX12_snow_94 : decode cX12_snow 94 = .ok (.aload_n 0, 1) := by decide +kernel
theorem dX12_snow_95 : decode cX12_snow 95 = .ok (.iload_n 2, 1) := by decide +kernel
theorem dX12_snow_96 : decode cX12_snow 96 = .ok (.iload_n 1, 1) := by decide +kernel
theorem dX12_snow_97 : decode cX12_snow 97 = .ok (.invokevirtual 159, 3) := by decide +kernel
theorem dX12_snow_100 : decode cX12_snow 100 = .ok (.goto 4, 3) := by decide +kernel
theorem dX12_snow_103 : decode cX12_snow 103 = .ok (.fconst 0, 1) := by decide +kernel
theorem dX12_snow_104 : decode cX12_snow 104 = .ok (.fastore, 1) := by decide +kernel
theorem dX12_snow_105 : decode cX12_snow 105 = .ok (.iinc 2 1, 3) := by decide +kernel
theorem dX12_snow_108 : decode cX12_snow 108 = .ok (.goto (-84), 3) := by decide +kernel
theorem dX12_snow_111 : decode cX12_snow 111 = .ok (.iconst 0, 1) := by decide +kernel
theorem dX12_snow_112 : decode cX12_snow 112 = .ok (.istore_n 2, 1) := by decide +kernel
theorem dX12_snow_113 : decode cX12_snow 113 = .ok (.iconst 0, 1) := by decide +kernel
theorem dX12_snow_114 : decode cX12_snow 114 = .ok (.istore_n 3, 1) := by decide +kernel
theorem dX12_snow_115 : decode cX12_snow 115 = .ok (.iload_n 3, 1) := by decide +kernel
theorem dX12_snow_116 : decode cX12_snow 116 = .ok (.aload_n 0, 1) := by decide +kernel
theorem dX12_snow_117 : decode cX12_snow 117 = .ok (.getfield 7, 3) := by decide +kernel
theorem dX12_snow_120 : decode cX12_snow 120 = .ok (.iconst 1, 1) := by decide +kernel
theorem dX12_snow_121 : decode cX12_snow 121 = .ok (.iaload, 1) := by decide +kernel
theorem dX12_snow_122 : decode cX12_snow 122 = .ok (.if_icmp .ge 25, 3) := by decide +kernel
theorem dX12_snow_125 : decode cX12_snow 125 = .ok (.iload_n 2, 1) := by decide +kernel
theorem dX12_snow_126 : decode cX12_snow 126 = .ok (.aload_n 0, 1) := by decide +kernel
theorem dX12_snow_127 : decode cX12_snow 127 = .ok (.iload_n 3, 1) := by decide +kernel
theorem dX12_snow_128 : decode cX12_snow 128 = .ok (.invokevirtual 178, 3) := by decide +kernel
theorem dX12_snow_131 : decode cX12_snow 131 = .ok (.ifCond .eq 7, 3) := by decide +kernel
theorem dX12_snow_134 : decode cX12_snow 134 = .ok (.iconst 1, 1) := by decide +kernel
theorem dX12_snow_135 : decode cX12_snow 135 = .ok (.goto 4, 3) := by decide +kernel
theorem dX12_snow_138 : decode cX12_snow 138 = .ok (.iconst 0, 1) := by decide +kernel
theorem dX12_snow_139 : decode cX12_snow 139 = .ok (.iadd, 1) := by decide +kernel
theorem dX12_snow_140 : decode cX12_snow 140 = .ok (.istore_n 2, 1) := by decide +kernel
theorem dX12_snow_141 : decode cX12_snow 141 = .ok (.iinc 3 1, 3) := by decide +kernel
theorem dX12_snow_144 : decode cX12_snow 144 = .ok (.goto (-29), 3) := by decide +kernel
theorem dX12_snow_147 : decode cX12_snow 147 = .ok (.aload_n 0, 1) := by decide +kernel
theorem dX12_snow_148 : decode cX12_snow 148 = .ok (.iload_n 2, 1) := by decide +kernel
theorem dX12_snow_149 : decode cX12_snow 149 = .ok (.invokevirtual 102, 3) := by decide +kernel
theorem dX12_snow_152 : decode cX12_snow 152 = .ok (.ireturn, 1) := by decide +kernel
theorem dX12_snows_0 : decode cX12_snows 0 = .ok (.fconst 0, 1) := by decide +kernel
theorem dX12_snows_1 : decode cX12_snows 1 = .ok (.fstore_n 2, 1) := by decide +kernel
theorem dX12_snows_2 : decode cX12_snows 2 = .ok (.fconst 0, 1) := by decide +kernel
theorem dX12_snows_3 : decode cX12_snows 3 = .ok (.fstore_n 3, 1) := by decide +kernel
theorem dX12_snows_4 : decode cX12_snows 4 = .ok (.iconst 0, 1) := by decide +kernel
theorem dX12_snows_5 : decode cX12_snows 5 = .ok (.istore 4, 2) := by decide +kernel
theorem dX12_snows_7 : decode cX12_snows 7 = .ok (.iload 4, 2) := by decide +kernel
theorem dX12_snows_9 : decode cX12_snows 9 = .ok (.aload_n 0, 1) := by decide +kernel
theorem dX12_snows_10 : decode cX12_snows 10 = .ok (.getfield 7, 3) := by decide +kernel
theorem dX12_snows_13 : decode cX12_snows 13 = .ok (.iconst 2, 1) := by decide +kernel
theorem dX12_snows_14 : decode cX12_snows 14 = .ok (.iaload, 1) := by decide +kernel
theorem dX12_snows_15 : decode cX12_snows 15 = .ok (.if_icmp .ge 66, 3) := by decide +kernel
theorem dX12_snows_18 : decode cX12_snows 18 = .ok (.aload_n 0, 1) := by decide +kernel
theorem dX12_snows_19 : decode cX12_snows 19 = .ok (.getfield 29, 3) := by decide +kernel
theorem dX12_snows_22 : decode cX12_snows 22 = .ok (.iload 4, 2) := by decide +kernel
theorem dX12_snows_24 : decode cX12_snows 24 = .ok (.baload, 1) := by decide +kernel
theorem dX12_snows_25 : decode cX12_snows 25 = .ok (.ifCond .eq 22, 3) := by decide +kernel
theorem dX12_snows_28 : decode cX12_snows 28 = .ok (.aload_n 0, 1) := by decide +kernel
theorem dX12_snows_29 : decode cX12_snows 29 = .ok (.aload_n 0, 1) := by decide +kernel
theorem dX12_snows_30 : decode cX12_snows 30 = .ok (.getfield 7, 3) := by decide +kernel
theorem dX12_snows_33 : decode cX12_snows 33 = .ok (.aload_n 0, 1) := by decide +kernel
theorem dX12_snows_34 : decode cX12_snows 34 = .ok (.iload 4, 2) := by decide +kernel
theorem dX12_snows_36 : decode cX12_snows 36 = .ok (.invokevirtual 140, 3) := by decide +kernel
theorem dX12_snows_39 : decode cX12_snows 39 = .ok (.iaload, 1) := by decide +kernel
theorem dX12_snows_40 : decode cX12_snows 40 = .ok (.iload_n 1, 1) := by decide +kernel
theorem dX12_snows_41 : decode cX12_snows 41 = .ok (.invokevirtual 181, 3) := by decide +kernel
theorem dX12_snows_44 : decode cX12_snows 44 = .ok (.goto 4, 3) := by decide +kernel
theorem dX12_snows_47 : decode cX12_snows 47 = .ok (.iconst 0, 1) := by decide +kernel
theorem dX12_snows_48 : decode cX12_snows 48 = .ok (.istore 5, 2) := by decide +kernel
theorem dX12_snows_50 : decode cX12_snows 50 = .ok (.iload 5, 2) := by decide +kernel
theorem dX12_snows_52 : decode cX12_snows 52 = .ok (.ifCond .le 23, 3) := by decide +kernel
theorem dX12_snows_55 : decode cX12_snows 55 = .ok (.fload_n 2, 1) := by decide +kernel
theorem dX12_snows_56 : decode cX12_snows 56 = .ok (.aload_n 0, 1) := by decide +kernel
theorem dX12_snows_57 : decode cX12_snows 57 = .ok (.getfield 33, 3) := by decide +kernel
theorem dX12_snows_60 : decode cX12_snows 60 = .ok (.iload 4, 2) := by decide +kernel
theorem dX12_snows_62 : decode cX12_snows 62 = .ok (.faload, 1) := by decide +kernel
theorem dX12_snows_63 : decode cX12_snows 63 = .ok (.iload 5, 2) := by decide +kernel
theorem dX12_snows_65 : decode cX12_snows 65 = .ok (.i2f, 1) := by decide +kernel
theorem dX12_snows_66 : decode cX12_snows 66 = .ok (.fmul, 1) := by decide +kernel
theorem dX12_snows_67 : decode cX12_snows 67 = .ok (.fadd, 1) := by decide +kernel
theorem dX12_snows_68 : decode cX12_snows 68 = .ok (.fstore_n 2, 1) := by decide +kernel
