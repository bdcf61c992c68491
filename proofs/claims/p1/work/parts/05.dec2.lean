theorem dX11_pair_75 : decode cX11_pair 75 = .ok (.invokevirtual 214, 3) := by decide +kernel
theorem dX11_pair_78 : decode cX11_pair 78 = .ok (.istore 4, 2) := by decide +kernel
theorem dX11_pair_80 : decode cX11_pair 80 = .ok (.iload 4, 2) := by decide +kernel
theorem dX11_pair_82 : decode cX11_pair 82 = .ok (.ifCond .ne 10, 3) := by decide +kernel
theorem dX11_pair_85 : decode cX11_pair 85 = .ok (.aload_n 0, 1) := by decide +kernel
theorem dX11_pair_86 : decode cX11_pair 86 = .ok (.iload_n 2, 1) := by decide +kernel
theorem dX11_pair_87 : decode cX11_pair 87 = .ok (.invokevirtual 214, 3) := by decide +kernel
theorem dX11_pair_90 : decode cX11_pair 90 = .ok (.istore 4, 2) := by decide +kernel
theorem dX11_pair_92 : decode cX11_pair 92 = .ok (.iload 4, 2) := by decide +kernel
theorem dX11_pair_94 : decode cX11_pair 94 = .ok (.ifCond .eq 10, 3) := by decide +kernel
theorem dX11_pair_97 : decode cX11_pair 97 = .ok (.aload_n 0, 1) := by decide +kernel
theorem dX11_pair_98 : decode cX11_pair 98 = .ok (.iload 4, 2) := by decide +kernel
theorem dX11_pair_100 : decode cX11_pair 100 = .ok (.invokevirtual 88, 3) := by decide +kernel
theorem dX11_pair_103 : decode cX11_pair 103 = .ok (.ireturn, 1) := by decide +kernel
theorem dX11_pair_104 : decode cX11_pair 104 = .ok (.aload_n 0, 1) := by decide +kernel
theorem dX11_pair_105 : decode cX11_pair 105 = .ok (.invokevirtual 95, 3) := by decide +kernel
theorem dX11_pair_108 : decode cX11_pair 108 = .ok (.aload_n 0, 1) := by decide +kernel
theorem dX11_pair_109 : decode cX11_pair 109 = .ok (.getfield 19, 3) := by decide +kernel
theorem dX11_pair_112 : decode cX11_pair 112 = .ok (.iload_n 1, 1) := by decide +kernel
theorem dX11_pair_113 : decode cX11_pair 113 = .ok (.invokevirtual 217, 3) := by decide +kernel
theorem dX11_pair_116 : decode cX11_pair 116 = .ok (.aload_n 0, 1) := by decide +kernel
theorem dX11_pair_117 : decode cX11_pair 117 = .ok (.getfield 19, 3) := by decide +kernel
theorem dX11_pair_120 : decode cX11_pair 120 = .ok (.iload_n 2, 1) := by decide +kernel
theorem dX11_pair_121 : decode cX11_pair 121 = .ok (.invokevirtual 217, 3) := by decide +kernel
theorem dX11_pair_124 : decode cX11_pair 124 = .ok (.aload_n 0, 1) := by decide +kernel
theorem dX11_pair_125 : decode cX11_pair 125 = .ok (.aload_n 0, 1) := by decide +kernel
theorem dX11_pair_126 : decode cX11_pair 126 = .ok (.new 220, 3) := by decide +kernel
theorem dX11_pair_129 : decode cX11_pair 129 = .ok (.dup, 1) := by decide +kernel
theorem dX11_pair_130 : decode cX11_pair 130 = .ok (.aload_n 0, 1) := by decide +kernel
theorem dX11_pair_131 : decode cX11_pair 131 = .ok (.getfield 10, 3) := by decide +kernel
theorem dX11_pair_134 : decode cX11_pair 134 = .ok (.aload_n 0, 1) := by decide +kernel
theorem dX11_pair_135 : decode cX11_pair 135 = .ok (.getfield 55, 3) := by decide +kernel
theorem dX11_pair_138 : decode cX11_pair 138 = .ok (.iload_n 1, 1) := by decide +kernel
theorem dX11_pair_139 : decode cX11_pair 139 = .ok (.aaload, 1) := by decide +kernel
theorem dX11_pair_140 : decode cX11_pair 140 = .ok (.aload_n 0, 1) := by decide +kernel
theorem dX11_pair_141 : decode cX11_pair 141 = .ok (.getfield 55, 3) := by decide +kernel
theorem dX11_pair_144 : decode cX11_pair 144 = .ok (.iload_n 2, 1) := by decide +kernel
theorem dX11_pair_145 : decode cX11_pair 145 = .ok (.aaload, 1) := by decide +kernel
theorem dX11_pair_146 : decode cX11_pair 146 = .ok (.invokespecial 222, 3) := by decide +kernel
theorem dX11_pair_149 : decode cX11_pair 149 = .ok (.iconst 4, 1) := by decide +kernel
theorem dX11_pair_150 : decode cX11_pair 150 = .ok (.iload_n 3, 1) := by decide +kernel
theorem dX11_pair_151 : decode cX11_pair 151 = .ok (.invokevirtual 210, 3) := by decide +kernel
theorem dX11_pair_154 : decode cX11_pair 154 = .ok (.invokevirtual 98, 3) := by decide +kernel
theorem dX11_pair_157 : decode cX11_pair 157 = .ok (.ireturn, 1) := by decide +kernel
theorem dX11_out_0 : decode cX11_out 0 = .ok (.aload_n 0, 1) := by decide +kernel
theorem dX11_out_1 : decode cX11_out 1 = .ok (.getfield 19, 3) := by decide +kernel
theorem dX11_out_4 : decode cX11_out 4 = .ok (.getfield 203, 3) := by decide +kernel
theorem dX11_out_7 : decode cX11_out 7 = .ok (.iload_n 1, 1) := by decide +kernel
theorem dX11_out_8 : decode cX11_out 8 = .ok (.invokevirtual 126, 3) := by decide +kernel
theorem dX11_out_11 : decode cX11_out 11 = .ok (.ifCond .ne 10, 3) := by decide +kernel
theorem dX11_out_14 : decode cX11_out 14 = .ok (.aload_n 0, 1) := by decide +kernel
theorem dX11_out_15 : decode cX11_out 15 = .ok (.bipush (-2), 2) := by decide +kernel
theorem dX11_out_17 : decode cX11_out 17 = .ok (.invokevirtual 88, 3) := by decide +kernel
theorem dX11_out_20 : decode cX11_out 20 = .ok (.ireturn, 1) := by decide +kernel
theorem dX11_out_21 : decode cX11_out 21 = .ok (.aload_n 0, 1) := by decide +kernel
theorem dX11_out_22 : decode cX11_out 22 = .ok (.getfield 19, 3) := by decide +kernel
theorem dX11_out_25 : decode cX11_out 25 = .ok (.iload_n 1, 1) := by decide +kernel
theorem dX11_out_26 : decode cX11_out 26 = .ok (.invokevirtual 225, 3) := by decide +kernel
theorem dX11_out_29 : decode cX11_out 29 = .ok (.istore_n 2, 1) := by decide +kernel
theorem dX11_out_30 : decode cX11_out 30 = .ok (.aload_n 0, 1) := by decide +kernel
theorem dX11_out_31 : decode cX11_out 31 = .ok (.invokevirtual 95, 3) := by decide +kernel
theorem dX11_out_34 : decode cX11_out 34 = .ok (.aload_n 0, 1) := by decide +kernel
theorem dX11_out_35 : decode cX11_out 35 = .ok (.getfield 19, 3) := by decide +kernel
theorem dX11_out_38 : decode cX11_out 38 = .ok (.iload_n 1, 1) := by decide +kernel
theorem dX11_out_39 : decode cX11_out 39 = .ok (.invokevirtual 217, 3) := by decide +kernel
theorem dX11_out_42 : decode cX11_out 42 = .ok (.aload_n 0, 1) := by decide +kernel
theorem dX11_out_43 : decode cX11_out 43 = .ok (.iload_n 2, 1) := by decide +kernel
theorem dX11_out_44 : decode cX11_out 44 = .ok (.ifCond .eq 7, 3) := by decide +kernel
theorem dX11_out_47 : decode cX11_out 47 = .ok (.iconst 0, 1) := by decide +kernel
theorem dX11_out_48 : decode cX11_out 48 = .ok (.goto 4, 3) := by decide +kernel
theorem dX11_out_51 : decode cX11_out 51 = .ok (.iconst 1, 1) := by decide +kernel
theorem dX11_out_52 : decode cX11_out 52 = .ok (.invokevirtual 98, 3) := by decide +kernel
theorem dX11_out_55 : decode cX11_out 55 = .ok (.ireturn, 1) := by decide +kernel
theorem dX11_asks_0 : decode cX11_asks 0 = .ok (.aload_n 0, 1) := by decide +kernel
theorem dX11_asks_1 : decode cX11_asks 1 = .ok (.getfield 19, 3) := by decide +kernel
theorem dX11_asks_4 : decode cX11_asks 4 = .ok (.getfield 203, 3) := by decide +kernel
theorem dX11_asks_7 : decode cX11_asks 7 = .ok (.iload_n 1, 1) := by decide +kernel
theorem dX11_asks_8 : decode cX11_asks 8 = .ok (.invokevirtual 126, 3) := by decide +kernel
theorem dX11_asks_11 : decode cX11_asks 11 = .ok (.ifCond .eq 26, 3) := by decide +kernel
theorem dX11_asks_14 : decode cX11_asks 14 = .ok (.aload_n 0, 1) := by decide +kernel
theorem dX11_asks_15 : decode cX11_asks 15 = .ok (.getfield 19, 3) := by decide +kernel
theorem dX11_asks_18 : decode cX11_asks 18 = .ok (.getfield 105, 3) := by decide +kernel
theorem dX11_asks_21 : decode cX11_asks 21 = .ok (.iload_n 2, 1) := by decide +kernel
theorem dX11_asks_22 : decode cX11_asks 22 = .ok (.invokevirtual 126, 3) := by decide +kernel
theorem dX11_asks_25 : decode cX11_asks 25 = .ok (.ifCond .eq 12, 3) := by decide +kernel
theorem dX11_asks_28 : decode cX11_asks 28 = .ok (.iload_n 3, 1) := by decide +kernel
theorem dX11_asks_29 : decode cX11_asks 29 = .ok (.ifCond .lt 8, 3) := by decide +kernel
theorem dX11_asks_32 : decode cX11_asks 32 = .ok (.iload_n 3, 1) := by decide +kernel
theorem dX11_asks_33 : decode cX11_asks 33 = .ok (.iconst 3, 1) := by decide +kernel
theorem dX11_asks_34 : decode cX11_asks 34 = .ok (.if_icmp .le 10, 3) := by decide +kernel
theorem dX11_asks_37 : decode cX11_asks 37 = .ok (.aload_n 0, 1) := by decide +kernel
theorem dX11_asks_38 : decode cX11_asks 38 = .ok (.bipush (-2), 2) := by decide +kernel
theorem dX11_asks_40 : decode cX11_asks 40 = .ok (.invokevirtual 88, 3) := by decide +kernel
theorem dX11_asks_43 : decode cX11_asks 43 = .ok (.ireturn, 1) := by decide +kernel
theorem dX11_asks_44 : decode cX11_asks 44 = .ok (.aload_n 0, 1) := by decide +kernel
theorem dX11_asks_45 : decode cX11_asks 45 = .ok (.getfield 19, 3) := by decide +kernel
theorem dX11_asks_48 : decode cX11_asks 48 = .ok (.iload_n 1, 1) := by decide +kernel
theorem dX11_asks_49 : decode cX11_asks 49 = .ok (.invokevirtual 225, 3) := by decide +kernel
theorem dX11_asks_52 : decode cX11_asks 52 = .ok (.ifCond .eq 10, 3) := by decide +kernel
theorem dX11_asks_55 : decode cX11_asks 55 = .ok (.aload_n 0, 1) := by decide +kernel
theorem dX11_asks_56 : decode cX11_asks 56 = .ok (.bipush (-4), 2) := by decide +kernel
theorem dX11_asks_58 : decode cX11_asks 58 = .ok (.invokevirtual 88, 3) := by decide +kernel
theorem dX11_asks_61 : decode cX11_asks 61 = .ok (.ireturn, 1) := by decide +kernel
theorem dX11_asks_62 : decode cX11_asks 62 = .ok (.aload_n 0, 1) := by decide +kernel
theorem dX11_asks_63 : decode cX11_asks 63 = .ok (.getfield 55, 3) := by decide +kernel
theorem dX11_asks_66 : decode cX11_asks 66 = .ok (.iload_n 1, 1) := by decide +kernel
theorem dX11_asks_67 : decode cX11_asks 67 = .ok (.aaload, 1) := by decide +kernel
theorem dX11_asks_68 : decode cX11_asks 68 = .ok (.astore 4, 2) := by decide +kernel
theorem dX11_asks_70 : decode cX11_asks 70 = .ok (.iload_n 3, 1) := by decide +kernel
theorem dX11_asks_71 : decode cX11_asks 71 = .ok (.tableswitch 68 0 2 #[25, 35, 45], 25) := by decide +kernel
theorem dX11_asks_96 : decode cX11_asks 96 = .ok (.aload_n 0, 1) := by decide +kernel
theorem dX11_asks_97 : decode cX11_asks 97 = .ok (.aload 4, 2) := by decide +kernel
theorem dX11_asks_99 : decode cX11_asks 99 = .ok (.getfield 228, 3) := by decide +kernel
theorem dX11_asks_102 : decode cX11_asks 102 = .ok (.invokevirtual 98, 3) := by decide +kernel
theorem dX11_asks_105 : decode cX11_asks 105 = .ok (.ireturn, 1) := by decide +kernel
theorem dX11_asks_106 : decode cX11_asks 106 = .ok (.aload_n 0, 1) := by decide +kernel
theorem dX11_asks_107 : decode cX11_asks 107 = .ok (.aload 4, 2) := by decide +kernel
theorem dX11_asks_109 : decode cX11_asks 109 = .ok (.getfield 231, 3) := by decide +kernel
theorem dX11_asks_112 : decode cX11_asks 112 = .ok (.invokevirtual 98, 3) := by decide +kernel
theorem dX11_asks_115 : decode cX11_asks 115 = .ok (.ireturn, 1) := by decide +kernel
theorem dX11_asks_116 : decode cX11_asks 116 = .ok (.aload_n 0, 1) := by decide +kernel
theorem dX11_asks_117 : decode cX11_asks 117 = .ok (.aload 4, 2) := by decide +kernel
theorem dX11_asks_119 : decode cX11_asks 119 = .ok (.aload_n 0, 1) := by decide +kernel
theorem dX11_asks_120 : decode cX11_asks 120 = .ok (.getfield 19, 3) := by decide +kernel
theorem dX11_asks_123 : decode cX11_asks 123 = .ok (.getfield 105, 3) := by decide +kernel
theorem dX11_asks_126 : decode cX11_asks 126 = .ok (.iload_n 2, 1) := by decide +kernel
theorem dX11_asks_127 : decode cX11_asks 127 = .ok (.bipush 6, 2) := by decide +kernel
theorem dX11_asks_129 : decode cX11_asks 129 = .ok (.invokevirtual 129, 3) := by decide +kernel
theorem dX11_asks_132 : decode cX11_asks 132 = .ok (.invokevirtual 234, 3) := by decide +kernel
theorem dX11_asks_135 : decode cX11_asks 135 = .ok (.invokevirtual 98, 3) := by decide +kernel
theorem dX11_asks_138 : decode cX11_asks 138 = .ok (.ireturn, 1) := by decide +kernel
theorem dX11_asks_139 : decode cX11_asks 139 = .ok (.aload 4, 2) := by decide +kernel
theorem dX11_asks_141 : decode cX11_asks 141 = .ok (.aload_n 0, 1) := by decide +kernel
theorem dX11_asks_142 : decode cX11_asks 142 = .ok (.getfield 19, 3) := by decide +kernel
theorem dX11_asks_145 : decode cX11_asks 145 = .ok (.getfield 105, 3) := by decide +kernel
theorem dX11_asks_148 : decode cX11_asks 148 = .ok (.iload_n 2, 1) := by decide +kernel
theorem dX11_asks_149 : decode cX11_asks 149 = .ok (.iconst 0, 1) := by decide +kernel
theorem dX11_asks_150 : decode cX11_asks 150 = .ok (.invokevirtual 129, 3) := by decide +kernel
theorem dX11_asks_153 : decode cX11_asks 153 = .ok (.invokevirtual 237, 3) := by decide +kernel
theorem dX11_asks_156 : decode cX11_asks 156 = .ok (.istore 5, 2) := by decide +kernel
theorem dX11_asks_158 : decode cX11_asks 158 = .ok (.iload 5, 2) := by decide +kernel
theorem dX11_asks_160 : decode cX11_asks 160 = .ok (.ifCond .ne 12, 3) := by decide +kernel
theorem dX11_asks_163 : decode cX11_asks 163 = .ok (.aload_n 0, 1) := by decide +kernel
theorem dX11_asks_164 : decode cX11_asks 164 = .ok (.bipush (-9), 2) := by decide +kernel
theorem dX11_asks_166 : decode cX11_asks 166 = .ok (.invokevirtual 88, 3) := by decide +kernel
theorem dX11_asks_169 : decode cX11_asks 169 = .ok (.goto 9, 3) := by decide +kernel
theorem dX11_asks_172 : decode cX11_asks 172 = .ok (.aload_n 0, 1) := by decide +kernel
theorem dX11_asks_173 : decode cX11_asks 173 = .ok (.iload 5, 2) := by decide +kernel
theorem dX11_asks_175 : decode cX11_asks 175 = .ok (.invokevirtual 98, 3) := by decide +kernel
theorem dX11_asks_178 : decode cX11_asks 178 = .ok (.ireturn, 1) := by decide +kernel
theorem dX11_salt_0 : decode cX11_salt 0 = .ok (.aload_n 0, 1) := by decide +kernel
theorem dX11_salt_1 : decode cX11_salt 1 = .ok (.getfield 19, 3) := by decide +kernel
theorem dX11_salt_4 : decode cX11_salt 4 = .ok (.getfield 203, 3) := by decide +kernel
theorem dX11_salt_7 : decode cX11_salt 7 = .ok (.iload_n 1, 1) := by decide +kernel
theorem dX11_salt_8 : decode cX11_salt 8 = .ok (.invokevirtual 126, 3) := by decide +kernel
theorem dX11_salt_11 : decode cX11_salt 11 = .ok (.ifCond .eq 17, 3) := by decide +kernel
theorem dX11_salt_14 : decode cX11_salt 14 = .ok (.aload_n 0, 1) := by decide +kernel
theorem dX11_salt_15 : decode cX11_salt 15 = .ok (.getfield 19, 3) := by decide +kernel
theorem dX11_salt_18 : decode cX11_salt 18 = .ok (.getfield 105, 3) := by decide +kernel
theorem dX11_salt_21 : decode cX11_salt 21 = .ok (.iload_n 2, 1) := by decide +kernel
theorem dX11_salt_22 : decode cX11_salt 22 = .ok (.invokevirtual 126, 3) := by decide +kernel
theorem dX11_salt_25 : decode cX11_salt 25 = .ok (.ifCond .ne 10, 3) := by decide +kernel
theorem dX11_salt_28 : decode cX11_salt 28 = .ok (.aload_n 0, 1) := by decide +kernel
theorem dX11_salt_29 : decode cX11_salt 29 = .ok (.bipush (-2), 2) := by decide +kernel
theorem dX11_salt_31 : decode cX11_salt 31 = .ok (.invokevirtual 88, 3) := by decide +kernel
theorem dX11_salt_34 : decode cX11_salt 34 = .ok (.ireturn, 1) := by decide +kernel
theorem dX11_salt_35 : decode cX11_salt 35 = .ok (.aload_n 0, 1) := by decide +kernel
theorem dX11_salt_36 : decode cX11_salt 36 = .ok (.getfield 19, 3) := by decide +kernel
theorem dX11_salt_39 : decode cX11_salt 39 = .ok (.iload_n 1, 1) := by decide +kernel
theorem dX11_salt_40 : decode cX11_salt 40 = .ok (.invokevirtual 225, 3) := by decide +kernel
theorem dX11_salt_43 : decode cX11_salt 43 = .ok (.ifCond .eq 10, 3) := by decide +kernel
theorem dX11_salt_46 : decode cX11_salt 46 = .ok (.aload_n 0, 1) := by decide +kernel
theorem dX11_salt_47 : decode cX11_salt 47 = .ok (.bipush (-4), 2) := by decide +kernel
theorem dX11_salt_49 : decode cX11_salt 49 = .ok (.invokevirtual 88, 3) := by decide +kernel
theorem dX11_salt_52 : decode cX11_salt 52 = .ok (.ireturn, 1) := by decide +kernel
theorem dX11_salt_53 : decode cX11_salt 53 = .ok (.aload_n 0, 1) := by decide +kernel
theorem dX11_salt_54 : decode cX11_salt 54 = .ok (.getfield 55, 3) := by decide +kernel
theorem dX11_salt_57 : decode cX11_salt 57 = .ok (.iload_n 1, 1) := by decide +kernel
theorem dX11_salt_58 : decode cX11_salt 58 = .ok (.aaload, 1) := by decide +kernel
theorem dX11_salt_59 : decode cX11_salt 59 = .ok (.instanceof 240, 3) := by decide +kernel
theorem dX11_salt_62 : decode cX11_salt 62 = .ok (.ifCond .ne 10, 3) := by decide +kernel
theorem dX11_salt_65 : decode cX11_salt 65 = .ok (.aload_n 0, 1) := by decide +kernel
theorem dX11_salt_66 : decode cX11_salt 66 = .ok (.bipush (-6), 2) := by decide +kernel
theorem dX11_salt_68 : decode cX11_salt 68 = .ok (.invokevirtual 88, 3) := by decide +kernel
theorem dX11_salt_71 : decode cX11_salt 71 = .ok (.ireturn, 1) := by decide +kernel
theorem dX11_salt_72 : decode cX11_salt 72 = .ok (.aload_n 0, 1) := by decide +kernel
theorem dX11_salt_73 : decode cX11_salt 73 = .ok (.invokevirtual 95, 3) := by decide +kernel
theorem dX11_salt_76 : decode cX11_salt 76 = .ok (.aload_n 0, 1) := by decide +kernel
theorem dX11_salt_77 : decode cX11_salt 77 = .ok (.getfield 19, 3) := by decide +kernel
theorem dX11_salt_80 : decode cX11_salt 80 = .ok (.iload_n 2, 1) := by decide +kernel
theorem dX11_salt_81 : decode cX11_salt 81 = .ok (.bipush 50, 2) := by decide +kernel
theorem dX11_salt_83 : decode cX11_salt 83 = .ok (.invokevirtual 200, 3) := by decide +kernel
theorem dX11_salt_86 : decode cX11_salt 86 = .ok (.aload_n 0, 1) := by decide +kernel
theorem dX11_salt_87 : decode cX11_salt 87 = .ok (.aload_n 0, 1) := by decide +kernel
theorem dX11_salt_88 : decode cX11_salt 88 = .ok (.getfield 19, 3) := by decide +kernel
theorem dX11_salt_91 : decode cX11_salt 91 = .ok (.getfield 105, 3) := by decide +kernel
theorem dX11_salt_94 : decode cX11_salt 94 = .ok (.iload_n 2, 1) := by decide +kernel
theorem dX11_salt_95 : decode cX11_salt 95 = .ok (.iconst 0, 1) := by decide +kernel
theorem dX11_salt_96 : decode cX11_salt 96 = .ok (.invokevirtual 129, 3) := by decide +kernel
theorem dX11_salt_99 : decode cX11_salt 99 = .ok (.invokevirtual 98, 3) := by decide +kernel
theorem dX11_salt_102 : decode cX11_salt 102 = .ok (.ireturn, 1) := by decide +kernel
theorem dX11_odd_0 : decode cX11_odd 0 = .ok (.aload_n 0, 1) := by decide +kernel
theorem dX11_odd_1 : decode cX11_odd 1 = .ok (.getfield 40, 3) := by decide +kernel
theorem dX11_odd_4 : decode cX11_odd 4 = .ok (.invokevirtual 242, 3) := by decide +kernel
theorem dX11_odd_7 : decode cX11_odd 7 = .ok (.pop, 1) := by decide +kernel
theorem dX11_odd_8 : decode cX11_odd 8 = .ok (.aload_n 0, 1) := by decide +kernel
theorem dX11_odd_9 : decode cX11_odd 9 = .ok (.aload_n 0, 1) := by decide +kernel
theorem dX11_odd_10 : decode cX11_odd 10 = .ok (.getfield 40, 3) := by decide +kernel
theorem dX11_odd_13 : decode cX11_odd 13 = .ok (.iload_n 1, 1) := by decide +kernel
theorem dX11_odd_14 : decode cX11_odd 14 = .ok (.invokevirtual 245, 3) := by decide +kernel
theorem dX11_odd_17 : decode cX11_odd 17 = .ok (.invokevirtual 98, 3) := by decide +kernel
theorem dX11_odd_20 : decode cX11_odd 20 = .ok (.ireturn, 1) := by decide +kernel
theorem dX11_least_0 : decode cX11_least 0 = .ok (.aload_n 0, 1) := by decide +kernel
theorem dX11_least_1 : decode cX11_least 1 = .ok (.getfield 40, 3) := by decide +kernel
theorem dX11_least_4 : decode cX11_least 4 = .ok (.invokevirtual 242, 3) := by decide +kernel
theorem dX11_least_7 : decode cX11_least 7 = .ok (.istore_n 2, 1) := by decide +kernel
theorem dX11_least_8 : decode cX11_least 8 = .ok (.iload_n 2, 1) := by decide +kernel
theorem dX11_least_9 : decode cX11_least 9 = .ok (.bipush 14, 2) := by decide +kernel
theorem dX11_least_11 : decode cX11_least 11 = .ok (.if_icmp .gt 24, 3) := by decide +kernel
theorem dX11_least_14 : decode cX11_least 14 = .ok (.aload_n 0, 1) := by decide +kernel
theorem dX11_least_15 : decode cX11_least 15 = .ok (.getfield 19, 3) := by decide +kernel
theorem dX11_least_18 : decode cX11_least 18 = .ok (.invokevirtual 248, 3) := by decide +kernel
theorem dX11_least_21 : decode cX11_least 21 = .ok (.ifCond .ne 14, 3) := by decide +kernel
theorem dX11_least_24 : decode cX11_least 24 = .ok (.iload_n 1, 1) := by decide +kernel
theorem dX11_least_25 : decode cX11_least 25 = .ok (.ifCond .lt 10, 3) := by decide +kernel
theorem dX11_least_28 : decode cX11_least 28 = .ok (.iload_n 1, 1) := by decide +kernel
theorem dX11_least_29 : decode cX11_least 29 = .ok (.iconst 1, 1) := by decide +kernel
theorem dX11_least_30 : decode cX11_least 30 = .ok (.iload_n 2, 1) := by decide +kernel
theorem dX11_least_31 : decode cX11_least 31 = .ok (.ishl, 1) := by decide +kernel
theorem dX11_least_32 : decode cX11_least 32 = .ok (.if_icmp .lt 10, 3) := by decide +kernel
theorem dX11_least_35 : decode cX11_least 35 = .ok (.aload_n 0, 1) := by decide +kernel
theorem dX11_least_36 : decode cX11_least 36 = .ok (.bipush (-2), 2) := by decide +kernel
theorem dX11_least_38 : decode cX11_least 38 = .ok (.invokevirtual 88, 3) := by decide +kernel
theorem dX11_least_41 : decode cX11_least 41 = .ok (.ireturn, 1) := by decide +kernel
theorem dX11_least_42 : decode cX11_least 42 = .ok (.aload_n 0, 1) := by decide +kernel
theorem dX11_least_43 : decode cX11_least 43 = .ok (.getfield 31, 3) := by decide +kernel
theorem dX11_least_46 : decode cX11_least 46 = .ok (.aload_n 0, 1) := by decide +kernel
theorem dX11_least_47 : decode cX11_least 47 = .ok (.getfield 40, 3) := by decide +kernel
theorem dX11_least_50 : decode cX11_least 50 = .ok (.invokevirtual 252, 3) := by decide +kernel
theorem dX11_least_53 : decode cX11_least 53 = .ok (.invokevirtual 133, 3) := by decide +kernel
theorem dX11_least_56 : decode cX11_least 56 = .ok (.aload_n 0, 1) := by decide +kernel
theorem dX11_least_57 : decode cX11_least 57 = .ok (.getfield 40, 3) := by decide +kernel
theorem dX11_least_60 : decode cX11_least 60 = .ok (.invokevirtual 256, 3) := by decide +kernel
theorem dX11_least_63 : decode cX11_least 63 = .ok (.aload_n 0, 1) := by decide +kernel
theorem dX11_least_64 : decode cX11_least 64 = .ok (.getfield 40, 3) := by decide +kernel
theorem dX11_least_67 : decode cX11_least 67 = .ok (.iload_n 1, 1) := by decide +kernel
theorem dX11_least_68 : decode cX11_least 68 = .ok (.invokevirtual 259, 3) := by decide +kernel
theorem dX11_least_71 : decode cX11_least 71 = .ok (.istore_n 3, 1) := by decide +kernel
theorem dX11_least_72 : decode cX11_least 72 = .ok (.iload_n 3, 1) := by decide +kernel
theorem dX11_least_73 : decode cX11_least 73 = .ok (.ldc 140, 2) := by decide +kernel
theorem dX11_least_75 : decode cX11_least 75 = .ok (.if_icmp .lt 12, 3) := by decide +kernel
theorem dX11_least_78 : decode cX11_least 78 = .ok (.aload_n 0, 1) := by decide +kernel
theorem dX11_least_79 : decode cX11_least 79 = .ok (.bipush (-8), 2) := by decide +kernel
theorem dX11_least_81 : decode cX11_least 81 = .ok (.invokevirtual 88, 3) := by decide +kernel
theorem dX11_least_84 : decode cX11_least 84 = .ok (.goto 8, 3) := by decide +kernel
theorem dX11_least_87 : decode cX11_least 87 = .ok (.aload_n 0, 1) := by decide +kernel
theorem dX11_least_88 : decode cX11_least 88 = .ok (.iload_n 3, 1) := by decide +kernel
theorem dX11_least_89 : decode cX11_least 89 = .ok (.invokevirtual 98, 3) := by decide +kernel
theorem dX11_least_92 : decode cX11_least 92 = .ok (.ireturn, 1) := by decide +kernel
theorem dX11_round_0 : decode cX11_round 0 = .ok (.aload_n 0, 1) := by decide +kernel
theorem dX11_round_1 : decode cX11_round 1 = .ok (.getfield 19, 3) := by decide +kernel
theorem dX11_round_4 : decode cX11_round 4 = .ok (.invokevirtual 248, 3) := by decide +kernel
theorem dX11_round_7 : decode cX11_round 7 = .ok (.ifCond .eq 13, 3) := by decide +kernel
theorem dX11_round_10 : decode cX11_round 10 = .ok (.aload_n 0, 1) := by decide +kernel
theorem dX11_round_11 : decode cX11_round 11 = .ok (.getfield 49, 3) := by decide +kernel
theorem dX11_round_14 : decode cX11_round 14 = .ok (.invokevirtual 262, 3) := by decide +kernel
theorem dX11_round_17 : decode cX11_round 17 = .ok (.goto 10, 3) := by decide +kernel
theorem dX11_round_20 : decode cX11_round 20 = .ok (.aload_n 0, 1) := by decide +kernel
theorem dX11_round_21 : decode cX11_round 21 = .ok (.getfield 49, 3) := by decide +kernel
theorem dX11_round_24 : decode cX11_round 24 = .ok (.invokevirtual 265, 3) := by decide +kernel
theorem dX11_round_27 : decode cX11_round 27 = .ok (.istore_n 1, 1) := by decide +kernel
theorem dX11_round_28 : decode cX11_round 28 = .ok (.iload_n 1, 1) := by decide +kernel
theorem dX11_round_29 : decode cX11_round 29 = .ok (.ifCond .eq 9, 3) := by decide +kernel
theorem dX11_round_32 : decode cX11_round 32 = .ok (.aload_n 0, 1) := by decide +kernel
theorem dX11_round_33 : decode cX11_round 33 = .ok (.iload_n 1, 1) := by decide +kernel
theorem dX11_round_34 : decode cX11_round 34 = .ok (.invokevirtual 88, 3) := by decide +kernel
theorem dX11_round_37 : decode cX11_round 37 = .ok (.ireturn, 1) := by decide +kernel
theorem dX11_round_38 : decode cX11_round 38 = .ok (.aload_n 0, 1) := by decide +kernel
theorem dX11_round_39 : decode cX11_round 39 = .ok (.invokevirtual 95, 3) := by decide +kernel
theorem dX11_round_42 : decode cX11_round 42 = .ok (.aload_n 0, 1) := by decide +kernel
theorem dX11_round_43 : decode cX11_round 43 = .ok (.getfield 49, 3) := by decide +kernel
theorem dX11_round_46 : decode cX11_round 46 = .ok (.aload_n 0, 1) := by decide +kernel
theorem dX11_round_47 : decode cX11_round 47 = .ok (.getfield 19, 3) := by decide +kernel
theorem dX11_round_50 : decode cX11_round 50 = .ok (.invokevirtual 268, 3) := by decide +kernel
theorem dX11_round_53 : decode cX11_round 53 = .ok (.iconst 0, 1) := by decide +kernel
theorem dX11_round_54 : decode cX11_round 54 = .ok (.istore_n 2, 1) := by decide +kernel
theorem dX11_round_55 : decode cX11_round 55 = .ok (.iload_n 2, 1) := by decide +kernel
theorem dX11_round_56 : decode cX11_round 56 = .ok (.aload_n 0, 1) := by decide +kernel
theorem dX11_round_57 : decode cX11_round 57 = .ok (.getfield 19, 3) := by decide +kernel
theorem dX11_round_60 : decode cX11_round 60 = .ok (.getfield 203, 3) := by decide +kernel
theorem dX11_round_63 : decode cX11_round 63 = .ok (.getfield 109, 3) := by decide +kernel
theorem dX11_round_66 : decode cX11_round 66 = .ok (.if_icmp .ge 17, 3) := by decide +kernel
theorem dX11_round_69 : decode cX11_round 69 = .ok (.aload_n 0, 1) := by decide +kernel
theorem dX11_round_70 : decode cX11_round 70 = .ok (.getfield 19, 3) := by decide +kernel
theorem dX11_round_73 : decode cX11_round 73 = .ok (.iload_n 2, 1) := by decide +kernel
theorem dX11_round_74 : decode cX11_round 74 = .ok (.invokevirtual 271, 3) := by decide +kernel
theorem dX11_round_77 : decode cX11_round 77 = .ok (.iinc 2 1, 3) := by decide +kernel
theorem dX11_round_80 : decode cX11_round 80 = .ok (.goto (-25), 3) := by decide +kernel
theorem dX11_round_83 : decode cX11_round 83 = .ok (.aload_n 0, 1) := by decide +kernel
theorem dX11_round_84 : decode cX11_round 84 = .ok (.aload_n 0, 1) := by decide +kernel
theorem dX11_round_85 : decode cX11_round 85 = .ok (.getfield 19, 3) := by decide +kernel
theorem dX11_round_88 : decode cX11_round 88 = .ok (.getfield 274, 3) := by decide +kernel
theorem dX11_round_91 : decode cX11_round 91 = .ok (.getfield 109, 3) := by decide +kernel
theorem dX11_round_94 : decode cX11_round 94 = .ok (.invokevirtual 98, 3) := by decide +kernel
theorem dX11_round_97 : decode cX11_round 97 = .ok (.ireturn, 1) := by decide +kernel
theorem dX11_at_0 : decode cX11_at 0 = .ok (.iload_n 2, 1) := by decide +kernel
theorem dX11_at_1 : decode cX11_at 1 = .ok (.ifCond .lt 8, 3) := by decide +kernel
theorem dX11_at_4 : decode cX11_at 4 = .ok (.iload_n 2, 1) := by decide +kernel
theorem dX11_at_5 : decode cX11_at 5 = .ok (.iconst 4, 1) := by decide +kernel
theorem dX11_at_6 : decode cX11_at 6 = .ok (.if_icmp .lt 10, 3) := by decide +kernel
theorem dX11_at_9 : decode cX11_at 9 = .ok (.aload_n 0, 1) := by decide +kernel
theorem dX11_at_10 : decode cX11_at 10 = .ok (.bipush (-2), 2) := by decide +kernel
theorem dX11_at_12 : decode cX11_at 12 = .ok (.invokevirtual 88, 3) := by decide +kernel
theorem dX11_at_15 : decode cX11_at 15 = .ok (.ireturn, 1) := by decide +kernel
theorem dX11_at_16 : decode cX11_at 16 = .ok (.aload_n 0, 1) := by decide +kernel
theorem dX11_at_17 : decode cX11_at 17 = .ok (.aload_n 0, 1) := by decide +kernel
theorem dX11_at_18 : decode cX11_at 18 = .ok (.getfield 19, 3) := by decide +kernel
theorem dX11_at_21 : decode cX11_at 21 = .ok (.getfield 274, 3) := by decide +kernel
theorem dX11_at_24 : decode cX11_at 24 = .ok (.iload_n 1, 1) := by decide +kernel
theorem dX11_at_25 : decode cX11_at 25 = .ok (.invokevirtual 126, 3) := by decide +kernel
theorem dX11_at_28 : decode cX11_at 28 = .ok (.ifCond .eq 18, 3) := by decide +kernel
theorem dX11_at_31 : decode cX11_at 31 = .ok (.aload_n 0, 1) := by decide +kernel
theorem dX11_at_32 : decode cX11_at 32 = .ok (.getfield 19, 3) := by decide +kernel
theorem dX11_at_35 : decode cX11_at 35 = .ok (.getfield 274, 3) := by decide +kernel
theorem dX11_at_38 : decode cX11_at 38 = .ok (.iload_n 1, 1) := by decide +kernel
theorem dX11_at_39 : decode cX11_at 39 = .ok (.iload_n 2, 1) := by decide +kernel
theorem dX11_at_40 : decode cX11_at 40 = .ok (.invokevirtual 129, 3) := by decide +kernel
theorem dX11_at_43 : decode cX11_at 43 = .ok (.goto 4, 3) := by decide +kernel
theorem dX11_at_46 : decode cX11_at 46 = .ok (.iconst (-1), 1) := by decide +kernel
theorem dX11_at_47 : decode cX11_at 47 = .ok (.invokevirtual 98, 3) := by decide +kernel
theorem dX11_at_50 : decode cX11_at 50 = .ok (.ireturn, 1) := by decide +kernel
theorem dX11_length_0 : decode cX11_length 0 = .ok (.iload_n 1, 1) := by decide +kernel
theorem dX11_length_1 : decode cX11_length 1 = .ok (.ifCond .lt 9, 3) := by decide +kernel
theorem dX11_length_4 : decode cX11_length 4 = .ok (.iload_n 1, 1) := by decide +kernel
theorem dX11_length_5 : decode cX11_length 5 = .ok (.bipush 7, 2) := by decide +kernel
theorem dX11_length_7 : decode cX11_length 7 = .ok (.if_icmp .lt 10, 3) := by decide +kernel
theorem dX11_length_10 : decode cX11_length 10 = .ok (.aload_n 0, 1) := by decide +kernel
theorem dX11_length_11 : decode cX11_length 11 = .ok (.bipush (-2), 2) := by decide +kernel
theorem dX11_length_13 : decode cX11_length 13 = .ok (.invokevirtual 88, 3) := by decide +kernel
theorem dX11_length_16 : decode cX11_length 16 = .ok (.ireturn, 1) := by decide +kernel
theorem dX11_length_17 : decode cX11_length 17 = .ok (.aload_n 0, 1) := by decide +kernel
theorem dX11_length_18 : decode cX11_length 18 = .ok (.aload_n 0, 1) := by decide +kernel
theorem dX11_length_19 : decode cX11_length 19 = .ok (.getfield 19, 3) := by decide +kernel
theorem dX11_length_22 : decode cX11_length 22 = .ok (.getfield 277, 3) := by decide +kernel
theorem dX11_length_25 : decode cX11_length 25 = .ok (.iload_n 1, 1) := by decide +kernel
theorem dX11_length_26 : decode cX11_length 26 = .ok (.iaload, 1) := by decide +kernel
theorem dX11_length_27 : decode cX11_length 27 = .ok (.invokevirtual 98, 3) := by decide +kernel
theorem dX11_length_30 : decode cX11_length 30 = .ok (.ireturn, 1) := by decide +kernel
theorem dX11_partner_0 : decode cX11_partner 0 = .ok (.aload_n 0, 1) := by decide +kernel
theorem dX11_partner_1 : decode cX11_partner 1 = .ok (.getfield 19, 3) := by decide +kernel
theorem dX11_partner_4 : decode cX11_partner 4 = .ok (.iload_n 1, 1) := by decide +kernel
theorem dX11_partner_5 : decode cX11_partner 5 = .ok (.invokevirtual 101, 3) := by decide +kernel
theorem dX11_partner_8 : decode cX11_partner 8 = .ok (.ifCond .eq 19, 3) := by decide +kernel
theorem dX11_partner_11 : decode cX11_partner 11 = .ok (.aload_n 0, 1) := by decide +kernel
theorem dX11_partner_12 : decode cX11_partner 12 = .ok (.aload_n 0, 1) := by decide +kernel
theorem dX11_partner_13 : decode cX11_partner 13 = .ok (.getfield 19, 3) := by decide +kernel
theorem dX11_partner_16 : decode cX11_partner 16 = .ok (.getfield 280, 3) := by decide +kernel
theorem dX11_partner_19 : decode cX11_partner 19 = .ok (.iload_n 1, 1) := by decide +kernel
theorem dX11_partner_20 : decode cX11_partner 20 = .ok (.iaload, 1) := by decide +kernel
theorem dX11_partner_21 : decode cX11_partner 21 = .ok (.invokevirtual 98, 3) := by decide +kernel
theorem dX11_partner_24 : decode cX11_partner 24 = .ok (.goto 9, 3) := by decide +kernel
theorem dX11_partner_27 : decode cX11_partner 27 = .ok (.aload_n 0, 1) := by decide +kernel
theorem dX11_partner_28 : decode cX11_partner 28 = .ok (.bipush (-2), 2) := by decide +kernel
theorem dX11_partner_30 : decode cX11_partner 30 = .ok (.invokevirtual 88, 3) := by decide +kernel
theorem dX11_partner_33 : decode cX11_partner 33 = .ok (.ireturn, 1) := by decide +kernel
theorem dX11_split_0 : decode cX11_split 0 = .ok (.iconst 0, 1) := by decide +kernel
theorem dX11_split_1 : decode cX11_split 1 = .ok (.istore_n 1, 1) := by decide +kernel
theorem dX11_split_2 : decode cX11_split 2 = .ok (.iconst 0, 1) := by decide +kernel
theorem dX11_split_3 : decode cX11_split 3 = .ok (.istore_n 2, 1) := by decide +kernel
theorem dX11_split_4 : decode cX11_split 4 = .ok (.iload_n 2, 1) := by decide +kernel
theorem dX11_split_5 : decode cX11_split 5 = .ok (.aload_n 0, 1) := by decide +kernel
theorem dX11_split_6 : decode cX11_split 6 = .ok (.getfield 19, 3) := by decide +kernel
theorem dX11_split_9 : decode cX11_split 9 = .ok (.getfield 203, 3) := by decide +kernel
theorem dX11_split_12 : decode cX11_split 12 = .ok (.getfield 109, 3) := by decide +kernel
theorem dX11_split_15 : decode cX11_split 15 = .ok (.if_icmp .ge 27, 3) := by decide +kernel
theorem dX11_split_18 : decode cX11_split 18 = .ok (.aload_n 0, 1) := by decide +kernel
theorem dX11_split_19 : decode cX11_split 19 = .ok (.getfield 19, 3) := by decide +kernel
theorem dX11_split_22 : decode cX11_split 22 = .ok (.iload_n 2, 1) := by decide +kernel
theorem dX11_split_23 : decode cX11_split 23 = .ok (.invokevirtual 225, 3) := by decide +kernel
theorem dX11_split_26 : decode cX11_split 26 = .ok (.ifCond .ne 10, 3) := by decide +kernel
theorem dX11_split_29 : decode cX11_split 29 = .ok (.aload_n 0, 1) := by decide +kernel
theorem dX11_split_30 : decode cX11_split 30 = .ok (.iload_n 2, 1) := by decide +kernel
theorem dX11_split_31 : decode cX11_split 31 = .ok (.iload_n 1, 1) := by decide +kernel
theorem dX11_split_32 : decode cX11_split 32 = .ok (.invokevirtual 283, 3) := by decide +kernel
theorem dX11_split_35 : decode cX11_split 35 = .ok (.istore_n 1, 1) := by decide +kernel
theorem dX11_split_36 : decode cX11_split 36 = .ok (.iinc 2 1, 3) := by decide +kernel
theorem dX11_split_39 : decode cX11_split 39 = .ok (.goto (-35), 3) := by decide +kernel
theorem dX11_split_42 : decode cX11_split 42 = .ok (.iload_n 1, 1) := by decide +kernel
theorem dX11_split_43 : decode cX11_split 43 = .ok (.aload_n 0, 1) := by decide +kernel
theorem dX11_split_44 : decode cX11_split 44 = .ok (.getfield 19, 3) := by decide +kernel
theorem dX11_split_47 : decode cX11_split 47 = .ok (.getfield 274, 3) := by decide +kernel
theorem dX11_split_50 : decode cX11_split 50 = .ok (.getfield 109, 3) := by decide +kernel
theorem dX11_split_53 : decode cX11_split 53 = .ok (.if_icmp .ge 9, 3) := by decide +kernel
theorem dX11_split_56 : decode cX11_split 56 = .ok (.aload_n 0, 1) := by decide +kernel
theorem dX11_split_57 : decode cX11_split 57 = .ok (.iconst 0, 1) := by decide +kernel
theorem dX11_split_58 : decode cX11_split 58 = .ok (.invokevirtual 98, 3) := by decide +kernel
theorem dX11_split_61 : decode cX11_split 61 = .ok (.ireturn, 1) := by decide +kernel
theorem dX11_split_62 : decode cX11_split 62 = .ok (.aload_n 0, 1) := by decide +kernel
theorem dX11_split_63 : decode cX11_split 63 = .ok (.invokevirtual 95, 3) := by decide +kernel
theorem dX11_split_66 : decode cX11_split 66 = .ok (.iconst 0, 1) := by decide +kernel
theorem dX11_split_67 : decode cX11_split 67 = .ok (.istore_n 2, 1) := by decide +kernel
theorem dX11_split_68 : decode cX11_split 68 = .ok (.iload_n 2, 1) := by decide +kernel
theorem dX11_split_69 : decode cX11_split 69 = .ok (.aload_n 0, 1) := by decide +kernel
theorem dX11_split_70 : decode cX11_split 70 = .ok (.getfield 19, 3) := by decide +kernel
theorem dX11_split_73 : decode cX11_split 73 = .ok (.getfield 203, 3) := by decide +kernel
theorem dX11_split_76 : decode cX11_split 76 = .ok (.getfield 109, 3) := by decide +kernel
theorem dX11_split_79 : decode cX11_split 79 = .ok (.if_icmp .ge 89, 3) := by decide +kernel
theorem dX11_split_82 : decode cX11_split 82 = .ok (.aload_n 0, 1) := by decide +kernel
theorem dX11_split_83 : decode cX11_split 83 = .ok (.getfield 19, 3) := by decide +kernel
theorem dX11_split_86 : decode cX11_split 86 = .ok (.iload_n 2, 1) := by decide +kernel
theorem dX11_split_87 : decode cX11_split 87 = .ok (.invokevirtual 225, 3) := by decide +kernel
theorem dX11_split_90 : decode cX11_split 90 = .ok (.ifCond .ne 72, 3) := by decide +kernel
theorem dX11_split_93 : decode cX11_split 93 = .ok (.aload_n 0, 1) := by decide +kernel
theorem dX11_split_94 : decode cX11_split 94 = .ok (.getfield 19, 3) := by decide +kernel
theorem dX11_split_97 : decode cX11_split 97 = .ok (.iload_n 2, 1) := by decide +kernel
theorem dX11_split_98 : decode cX11_split 98 = .ok (.invokevirtual 271, 3) := by decide +kernel
theorem dX11_split_101 : decode cX11_split 101 = .ok (.aload_n 0, 1) := by decide +kernel
theorem dX11_split_102 : decode cX11_split 102 = .ok (.getfield 19, 3) := by decide +kernel
theorem dX11_split_105 : decode cX11_split 105 = .ok (.getfield 203, 3) := by decide +kernel
theorem dX11_split_108 : decode cX11_split 108 = .ok (.iload_n 2, 1) := by decide +kernel
theorem dX11_split_109 : decode cX11_split 109 = .ok (.iconst 0, 1) := by decide +kernel
theorem dX11_split_110 : decode cX11_split 110 = .ok (.aload_n 0, 1) := by decide +kernel
theorem dX11_split_111 : decode cX11_split 111 = .ok (.getfield 63, 3) := by decide +kernel
theorem dX11_split_114 : decode cX11_split 114 = .ok (.iload_n 2, 1) := by decide +kernel
theorem dX11_split_115 : decode cX11_split 115 = .ok (.iaload, 1) := by decide +kernel
theorem dX11_split_116 : decode cX11_split 116 = .ok (.invokevirtual 118, 3) := by decide +kernel
theorem dX11_split_119 : decode cX11_split 119 = .ok (.aload_n 0, 1) := by decide +kernel
theorem dX11_split_120 : decode cX11_split 120 = .ok (.getfield 19, 3) := by decide +kernel
theorem dX11_split_123 : decode cX11_split 123 = .ok (.getfield 203, 3) := by decide +kernel
theorem dX11_split_126 : decode cX11_split 126 = .ok (.iload_n 2, 1) := by decide +kernel
theorem dX11_split_127 : decode cX11_split 127 = .ok (.iconst 1, 1) := by decide +kernel
theorem dX11_split_128 : decode cX11_split 128 = .ok (.aload_n 0, 1) := by decide +kernel
theorem dX11_split_129 : decode cX11_split 129 = .ok (.getfield 67, 3) := by decide +kernel
theorem dX11_split_132 : decode cX11_split 132 = .ok (.iload_n 2, 1) := by decide +kernel
theorem dX11_split_133 : decode cX11_split 133 = .ok (.iaload, 1) := by decide +kernel
theorem dX11_split_134 : decode cX11_split 134 = .ok (.aload_n 0, 1) := by decide +kernel
theorem dX11_split_135 : decode cX11_split 135 = .ok (.getfield 63, 3) := by decide +kernel
theorem dX11_split_138 : decode cX11_split 138 = .ok (.iload_n 2, 1) := by decide +kernel
theorem dX11_split_139 : decode cX11_split 139 = .ok (.iaload, 1) := by decide +kernel
theorem dX11_split_140 : decode cX11_split 140 = .ok (.isub, 1) := by decide +kernel
theorem dX11_split_141 : decode cX11_split 141 = .ok (.invokevirtual 118, 3) := by decide +kernel
theorem dX11_split_144 : decode cX11_split 144 = .ok (.aload_n 0, 1) := by decide +kernel
theorem dX11_split_145 : decode cX11_split 145 = .ok (.getfield 19, 3) := by decide +kernel
theorem dX11_split_148 : decode cX11_split 148 = .ok (.getfield 203, 3) := by decide +kernel
theorem dX11_split_151 : decode cX11_split 151 = .ok (.iload_n 2, 1) := by decide +kernel
theorem dX11_split_152 : decode cX11_split 152 = .ok (.iconst 4, 1) := by decide +kernel
theorem dX11_split_153 : decode cX11_split 153 = .ok (.aload_n 0, 1) := by decide +kernel
theorem dX11_split_154 : decode cX11_split 154 = .ok (.getfield 70, 3) := by decide +kernel
theorem dX11_split_157 : decode cX11_split 157 = .ok (.iload_n 2, 1) := by decide +kernel
theorem dX11_split_158 : decode cX11_split 158 = .ok (.iaload, 1) := by decide +kernel
theorem dX11_split_159 : decode cX11_split 159 = .ok (.invokevirtual 118, 3) := by decide +kernel
theorem dX11_split_162 : decode cX11_split 162 = .ok (.iinc 2 1, 3) := by decide +kernel
theorem dX11_split_165 : decode cX11_split 165 = .ok (.goto (-97), 3) := by decide +kernel
theorem dX11_split_168 : decode cX11_split 168 = .ok (.aload_n 0, 1) := by decide +kernel
theorem dX11_split_169 : decode cX11_split 169 = .ok (.iconst 1, 1) := by decide +kernel
theorem dX11_split_170 : decode cX11_split 170 = .ok (.invokevirtual 98, 3) := by decide +kernel
theorem dX11_split_173 : decode cX11_split 173 = .ok (.ireturn, 1) := by decide +kernel
theorem dX11_part_0 : decode cX11_part 0 = .ok (.aload_n 0, 1) := by decide +kernel
theorem dX11_part_1 : decode cX11_part 1 = .ok (.getfield 19, 3) := by decide +kernel
theorem dX11_part_4 : decode cX11_part 4 = .ok (.getfield 203, 3) := by decide +kernel
theorem dX11_part_7 : decode cX11_part 7 = .ok (.iload_n 1, 1) := by decide +kernel
theorem dX11_part_8 : decode cX11_part 8 = .ok (.invokevirtual 126, 3) := by decide +kernel
theorem dX11_part_11 : decode cX11_part 11 = .ok (.ifCond .eq 13, 3) := by decide +kernel
theorem dX11_part_14 : decode cX11_part 14 = .ok (.iload_n 2, 1) := by decide +kernel
theorem dX11_part_15 : decode cX11_part 15 = .ok (.ifCond .lt 9, 3) := by decide +kernel
theorem dX11_part_18 : decode cX11_part 18 = .ok (.iload_n 2, 1) := by decide +kernel
theorem dX11_part_19 : decode cX11_part 19 = .ok (.bipush 9, 2) := by decide +kernel
theorem dX11_part_21 : decode cX11_part 21 = .ok (.if_icmp .lt 10, 3) := by decide +kernel
theorem dX11_part_24 : decode cX11_part 24 = .ok (.aload_n 0, 1) := by decide +kernel
theorem dX11_part_25 : decode cX11_part 25 = .ok (.bipush (-2), 2) := by decide +kernel
theorem dX11_part_27 : decode cX11_part 27 = .ok (.invokevirtual 88, 3) := by decide +kernel
theorem dX11_part_30 : decode cX11_part 30 = .ok (.ireturn, 1) := by decide +kernel
theorem dX11_part_31 : decode cX11_part 31 = .ok (.aload_n 0, 1) := by decide +kernel
theorem dX11_part_32 : decode cX11_part 32 = .ok (.aload_n 0, 1) := by decide +kernel
theorem dX11_part_33 : decode cX11_part 33 = .ok (.getfield 19, 3) := by decide +kernel
theorem dX11_part_36 : decode cX11_part 36 = .ok (.getfield 203, 3) := by decide +kernel
theorem dX11_part_39 : decode cX11_part 39 = .ok (.iload_n 1, 1) := by decide +kernel
theorem dX11_part_40 : decode cX11_part 40 = .ok (.iload_n 2, 1) := by decide +kernel
theorem dX11_part_41 : decode cX11_part 41 = .ok (.invokevirtual 129, 3) := by decide +kernel
theorem dX11_part_44 : decode cX11_part 44 = .ok (.invokevirtual 98, 3) := by decide +kernel
theorem dX11_part_47 : decode cX11_part 47 = .ok (.ireturn, 1) := by decide +kernel
theorem dX11_go_0 : decode cX11_go 0 = .ok (.aload_n 0, 1) := by decide +kernel
theorem dX11_go_1 : decode cX11_go 1 = .ok (.getfield 19, 3) := by decide +kernel
theorem dX11_go_4 : decode cX11_go 4 = .ok (.getfield 203, 3) := by decide +kernel
theorem dX11_go_7 : decode cX11_go 7 = .ok (.iload_n 1, 1) := by decide +kernel
theorem dX11_go_8 : decode cX11_go 8 = .ok (.invokevirtual 126, 3) := by decide +kernel
theorem dX11_go_11 : decode cX11_go 11 = .ok (.ifCond .eq 14, 3) := by decide +kernel
theorem dX11_go_14 : decode cX11_go 14 = .ok (.iload_n 2, 1) := by decide +kernel
theorem dX11_go_15 : decode cX11_go 15 = .ok (.iconst 1, 1) := by decide +kernel
theorem dX11_go_16 : decode cX11_go 16 = .ok (.if_icmp .lt 9, 3) := by decide +kernel
theorem dX11_go_19 : decode cX11_go 19 = .ok (.iload_n 2, 1) := by decide +kernel
theorem dX11_go_20 : decode cX11_go 20 = .ok (.bipush 50, 2) := by decide +kernel
theorem dX11_go_22 : decode cX11_go 22 = .ok (.if_icmp .le 10, 3) := by decide +kernel
theorem dX11_go_25 : decode cX11_go 25 = .ok (.aload_n 0, 1) := by decide +kernel
theorem dX11_go_26 : decode cX11_go 26 = .ok (.bipush (-2), 2) := by decide +kernel
theorem dX11_go_28 : decode cX11_go 28 = .ok (.invokevirtual 88, 3) := by decide +kernel
theorem dX11_go_31 : decode cX11_go 31 = .ok (.ireturn, 1) := by decide +kernel
theorem dX11_go_32 : decode cX11_go 32 = .ok (.aload_n 0, 1) := by decide +kernel
theorem dX11_go_33 : decode cX11_go 33 = .ok (.getfield 19, 3) := by decide +kernel
theorem dX11_go_36 : decode cX11_go 36 = .ok (.iload_n 1, 1) := by decide +kernel
theorem dX11_go_37 : decode cX11_go 37 = .ok (.invokevirtual 225, 3) := by decide +kernel
theorem dX11_go_40 : decode cX11_go 40 = .ok (.ifCond .eq 10, 3) := by decide +kernel
theorem dX11_go_43 : decode cX11_go 43 = .ok (.aload_n 0, 1) := by decide +kernel
theorem dX11_go_44 : decode cX11_go 44 = .ok (.bipush (-4), 2) := by decide +kernel
theorem dX11_go_46 : decode cX11_go 46 = .ok (.invokevirtual 88, 3) := by decide +kernel
theorem dX11_go_49 : decode cX11_go 49 = .ok (.ireturn, 1) := by decide +kernel
theorem dX11_go_50 : decode cX11_go 50 = .ok (.aload_n 0, 1) := by decide +kernel
theorem dX11_go_51 : decode cX11_go 51 = .ok (.getfield 19, 3) := by decide +kernel
theorem dX11_go_54 : decode cX11_go 54 = .ok (.iload_n 1, 1) := by decide +kernel
theorem dX11_go_55 : decode cX11_go 55 = .ok (.invokevirtual 286, 3) := by decide +kernel
theorem dX11_go_58 : decode cX11_go 58 = .ok (.ifCond .ne 10, 3) := by decide +kernel
theorem dX11_go_61 : decode cX11_go 61 = .ok (.aload_n 0, 1) := by decide +kernel
theorem dX11_go_62 : decode cX11_go 62 = .ok (.bipush (-8), 2) := by decide +kernel
theorem dX11_go_64 : decode cX11_go 64 = .ok (.invokevirtual 88, 3) := by decide +kernel
theorem dX11_go_67 : decode cX11_go 67 = .ok (.ireturn, 1) := by decide +kernel
theorem dX11_go_68 : decode cX11_go 68 = .ok (.aload_n 0, 1) := by decide +kernel
theorem dX11_go_69 : decode cX11_go 69 = .ok (.getfield 19, 3) := by decide +kernel
theorem dX11_go_72 : decode cX11_go 72 = .ok (.iload_n 1, 1) := by decide +kernel
theorem dX11_go_73 : decode cX11_go 73 = .ok (.invokevirtual 289, 3) := by decide +kernel
theorem dX11_go_76 : decode cX11_go 76 = .ok (.ifCond .eq 22, 3) := by decide +kernel
theorem dX11_go_79 : decode cX11_go 79 = .ok (.aload_n 0, 1) := by decide +kernel
theorem dX11_go_80 : decode cX11_go 80 = .ok (.getfield 10, 3) := by decide +kernel
theorem dX11_go_83 : decode cX11_go 83 = .ok (.dup, 1) := by decide +kernel
theorem dX11_go_84 : decode cX11_go 84 = .ok (.getfield 292, 3) := by decide +kernel
theorem dX11_go_87 : decode cX11_go 87 = .ok (.iconst 1, 1) := by decide +kernel
theorem dX11_go_88 : decode cX11_go 88 = .ok (.iadd, 1) := by decide +kernel
theorem dX11_go_89 : decode cX11_go 89 = .ok (.putfield 292, 3) := by decide +kernel
theorem dX11_go_92 : decode cX11_go 92 = .ok (.aload_n 0, 1) := by decide +kernel
theorem dX11_go_93 : decode cX11_go 93 = .ok (.iconst 0, 1) := by decide +kernel
theorem dX11_go_94 : decode cX11_go 94 = .ok (.invokevirtual 98, 3) := by decide +kernel
theorem dX11_go_97 : decode cX11_go 97 = .ok (.ireturn, 1) := by decide +kernel
theorem dX11_go_98 : decode cX11_go 98 = .ok (.aload_n 0, 1) := by decide +kernel
theorem dX11_go_99 : decode cX11_go 99 = .ok (.invokevirtual 95, 3) := by decide +kernel
theorem dX11_go_102 : decode cX11_go 102 = .ok (.iconst 0, 1) := by decide +kernel
theorem dX11_go_103 : decode cX11_go 103 = .ok (.istore_n 3, 1) := by decide +kernel
theorem dX11_go_104 : decode cX11_go 104 = .ok (.iload_n 3, 1) := by decide +kernel
theorem dX11_go_105 : decode cX11_go 105 = .ok (.iload_n 2, 1) := by decide +kernel
theorem dX11_go_106 : decode cX11_go 106 = .ok (.if_icmp .ge 52, 3) := by decide +kernel
theorem dX11_go_109 : decode cX11_go 109 = .ok (.aload_n 0, 1) := by decide +kernel
theorem dX11_go_110 : decode cX11_go 110 = .ok (.getfield 19, 3) := by decide +kernel
theorem dX11_go_113 : decode cX11_go 113 = .ok (.iload_n 1, 1) := by decide +kernel
theorem dX11_go_114 : decode cX11_go 114 = .ok (.invokevirtual 286, 3) := by decide +kernel
theorem dX11_go_117 : decode cX11_go 117 = .ok (.ifCond .eq 41, 3) := by decide +kernel
theorem dX11_go_120 : decode cX11_go 120 = .ok (.aload_n 0, 1) := by decide +kernel
theorem dX11_go_121 : decode cX11_go 121 = .ok (.getfield 10, 3) := by decide +kernel
theorem dX11_go_124 : decode cX11_go 124 = .ok (.dup, 1) := by decide +kernel
theorem dX11_go_125 : decode cX11_go 125 = .ok (.getfield 292, 3) := by decide +kernel
theorem dX11_go_128 : decode cX11_go 128 = .ok (.iconst 1, 1) := by decide +kernel
theorem dX11_go_129 : decode cX11_go 129 = .ok (.iadd, 1) := by decide +kernel
theorem dX11_go_130 : decode cX11_go 130 = .ok (.putfield 292, 3) := by decide +kernel
theorem dX11_go_133 : decode cX11_go 133 = .ok (.aload_n 0, 1) := by decide +kernel
theorem dX11_go_134 : decode cX11_go 134 = .ok (.getfield 19, 3) := by decide +kernel
theorem dX11_go_137 : decode cX11_go 137 = .ok (.iload_n 1, 1) := by decide +kernel
theorem dX11_go_138 : decode cX11_go 138 = .ok (.invokevirtual 289, 3) := by decide +kernel
theorem dX11_go_141 : decode cX11_go 141 = .ok (.ifCond .eq 6, 3) := by decide +kernel
theorem dX11_go_144 : decode cX11_go 144 = .ok (.goto 14, 3) := by decide +kernel
theorem dX11_go_147 : decode cX11_go 147 = .ok (.aload_n 0, 1) := by decide +kernel
theorem dX11_go_148 : decode cX11_go 148 = .ok (.iload_n 1, 1) := by decide +kernel
theorem dX11_go_149 : decode cX11_go 149 = .ok (.invokevirtual 295, 3) := by decide +kernel
theorem dX11_go_152 : decode cX11_go 152 = .ok (.iinc 3 1, 3) := by decide +kernel
theorem dX11_go_155 : decode cX11_go 155 = .ok (.goto (-51), 3) := by decide +kernel
theorem dX11_go_158 : decode cX11_go 158 = .ok (.aload_n 0, 1) := by decide +kernel
theorem dX11_go_159 : decode cX11_go 159 = .ok (.iload_n 3, 1) := by decide +kernel
theorem dX11_go_160 : decode cX11_go 160 = .ok (.invokevirtual 98, 3) := by decide +kernel
theorem dX11_go_163 : decode cX11_go 163 = .ok (.ireturn, 1) := by decide +kernel
theorem dX11_looks_0 : decode cX11_looks 0 = .ok (.aload_n 0, 1) := by decide +kernel
theorem dX11_looks_1 : decode cX11_looks 1 = .ok (.getfield 10, 3) := by decide +kernel
theorem dX11_looks_4 : decode cX11_looks 4 = .ok (.getfield 292, 3) := by decide +kernel
theorem dX11_looks_7 : decode cX11_looks 7 = .ok (.ireturn, 1) := by decide +kernel
theorem dX11_text_0 : decode cX11_text 0 = .ok (.aload_n 0, 1) := by decide +kernel
theorem dX11_text_1 : decode cX11_text 1 = .ok (.iconst 0, 1) := by decide +kernel
theorem dX11_text_2 : decode cX11_text 2 = .ok (.putfield 77, 3) := by decide +kernel
theorem dX11_text_5 : decode cX11_text 5 = .ok (.iconst 1, 1) := by decide +kernel
theorem dX11_text_6 : decode cX11_text 6 = .ok (.istore_n 1, 1) := by decide +kernel
theorem dX11_text_7 : decode cX11_text 7 = .ok (.iconst 0, 1) := by decide +kernel
theorem dX11_text_8 : decode cX11_text 8 = .ok (.istore_n 2, 1) := by decide +kernel
theorem dX11_text_9 : decode cX11_text 9 = .ok (.iload_n 2, 1) := by decide +kernel
theorem dX11_text_10 : decode cX11_text 10 = .ok (.aload_n 0, 1) := by decide +kernel
theorem dX11_text_11 : decode cX11_text 11 = .ok (.getfield 19, 3) := by decide +kernel
theorem dX11_text_14 : decode cX11_text 14 = .ok (.getfield 274, 3) := by decide +kernel
theorem dX11_text_17 : decode cX11_text 17 = .ok (.getfield 109, 3) := by decide +kernel
theorem dX11_text_20 : decode cX11_text 20 = .ok (.if_icmp .ge 19, 3) := by decide +kernel
theorem dX11_text_23 : decode cX11_text 23 = .ok (.iload_n 1, 1) := by decide +kernel
theorem dX11_text_24 : decode cX11_text 24 = .ok (.ifCond .eq 15, 3) := by decide +kernel
theorem dX11_text_27 : decode cX11_text 27 = .ok (.aload_n 0, 1) := by decide +kernel
theorem dX11_text_28 : decode cX11_text 28 = .ok (.iload_n 2, 1) := by decide +kernel
theorem dX11_text_29 : decode cX11_text 29 = .ok (.invokevirtual 298, 3) := by decide +kernel
theorem dX11_text_32 : decode cX11_text 32 = .ok (.istore_n 1, 1) := by decide +kernel
theorem dX11_text_33 : decode cX11_text 33 = .ok (.iinc 2 1, 3) := by decide +kernel
theorem dX11_text_36 : decode cX11_text 36 = .ok (.goto (-27), 3) := by decide +kernel
theorem dX11_text_39 : decode cX11_text 39 = .ok (.aload_n 0, 1) := by decide +kernel
theorem dX11_text_40 : decode cX11_text 40 = .ok (.aload_n 0, 1) := by decide +kernel
theorem dX11_text_41 : decode cX11_text 41 = .ok (.getfield 77, 3) := by decide +kernel
theorem dX11_text_44 : decode cX11_text 44 = .ok (.invokevirtual 98, 3) := by decide +kernel
theorem dX11_text_47 : decode cX11_text 47 = .ok (.ireturn, 1) := by decide +kernel
theorem dX11_sign_0 : decode cX11_sign 0 = .ok (.iload_n 1, 1) := by decide +kernel
theorem dX11_sign_1 : decode cX11_sign 1 = .ok (.ifCond .lt 20, 3) := by decide +kernel
theorem dX11_sign_4 : decode cX11_sign 4 = .ok (.iload_n 1, 1) := by decide +kernel
theorem dX11_sign_5 : decode cX11_sign 5 = .ok (.aload_n 0, 1) := by decide +kernel
theorem dX11_sign_6 : decode cX11_sign 6 = .ok (.getfield 77, 3) := by decide +kernel
theorem dX11_sign_9 : decode cX11_sign 9 = .ok (.if_icmp .ge 12, 3) := by decide +kernel
theorem dX11_sign_12 : decode cX11_sign 12 = .ok (.aload_n 0, 1) := by decide +kernel
theorem dX11_sign_13 : decode cX11_sign 13 = .ok (.getfield 73, 3) := by decide +kernel
theorem dX11_sign_16 : decode cX11_sign 16 = .ok (.iload_n 1, 1) := by decide +kernel
theorem dX11_sign_17 : decode cX11_sign 17 = .ok (.caload, 1) := by decide +kernel
theorem dX11_sign_18 : decode cX11_sign 18 = .ok (.goto 4, 3) := by decide +kernel
theorem dX11_sign_21 : decode cX11_sign 21 = .ok (.iconst (-1), 1) := by decide +kernel
theorem dX11_sign_22 : decode cX11_sign 22 = .ok (.ireturn, 1) := by decide +kernel
theorem dX11_digest_0 : decode cX11_digest 0 = .ok (.sipush 217, 3) := by decide +kernel
theorem dX11_digest_3 : decode cX11_digest 3 = .ok (.aload_n 0, 1) := by decide +kernel
theorem dX11_digest_4 : decode cX11_digest 4 = .ok (.getfield 19, 3) := by decide +kernel
theorem dX11_digest_7 : decode cX11_digest 7 = .ok (.getfield 92, 3) := by decide +kernel
theorem dX11_digest_10 : decode cX11_digest 10 = .ok (.iadd, 1) := by decide +kernel
theorem dX11_digest_11 : decode cX11_digest 11 = .ok (.istore_n 1, 1) := by decide +kernel
theorem dX11_digest_12 : decode cX11_digest 12 = .ok (.aload_n 0, 1) := by decide +kernel
theorem dX11_digest_13 : decode cX11_digest 13 = .ok (.getfield 19, 3) := by decide +kernel
theorem dX11_digest_16 : decode cX11_digest 16 = .ok (.getfield 105, 3) := by decide +kernel
theorem dX11_digest_19 : decode cX11_digest 19 = .ok (.iload_n 1, 1) := by decide +kernel
theorem dX11_digest_20 : decode cX11_digest 20 = .ok (.invokevirtual 301, 3) := by decide +kernel
theorem dX11_digest_23 : decode cX11_digest 23 = .ok (.istore_n 1, 1) := by decide +kernel
theorem dX11_digest_24 : decode cX11_digest 24 = .ok (.iconst 0, 1) := by decide +kernel
theorem dX11_digest_25 : decode cX11_digest 25 = .ok (.istore_n 2, 1) := by decide +kernel
theorem dX11_digest_26 : decode cX11_digest 26 = .ok (.iload_n 2, 1) := by decide +kernel
theorem dX11_digest_27 : decode cX11_digest 27 = .ok (.aload_n 0, 1) := by decide +kernel
theorem dX11_digest_28 : decode cX11_digest 28 = .ok (.getfield 19, 3) := by decide +kernel
theorem dX11_digest_31 : decode cX11_digest 31 = .ok (.getfield 144, 3) := by decide +kernel
theorem dX11_digest_34 : decode cX11_digest 34 = .ok (.getfield 109, 3) := by decide +kernel
theorem dX11_digest_37 : decode cX11_digest 37 = .ok (.if_icmp .ge 76, 3) := by decide +kernel
theorem dX11_digest_40 : decode cX11_digest 40 = .ok (.aload_n 0, 1) := by decide +kernel
theorem dX11_digest_41 : decode cX11_digest 41 = .ok (.getfield 19, 3) := by decide +kernel
theorem dX11_digest_44 : decode cX11_digest 44 = .ok (.getfield 144, 3) := by decide +kernel
theorem dX11_digest_47 : decode cX11_digest 47 = .ok (.iload_n 2, 1) := by decide +kernel
theorem dX11_digest_48 : decode cX11_digest 48 = .ok (.iconst 2, 1) := by decide +kernel
theorem dX11_digest_49 : decode cX11_digest 49 = .ok (.invokevirtual 129, 3) := by decide +kernel
theorem dX11_digest_52 : decode cX11_digest 52 = .ok (.istore_n 3, 1) := by decide +kernel
theorem dX11_digest_53 : decode cX11_digest 53 = .ok (.bipush 31, 2) := by decide +kernel
theorem dX11_digest_55 : decode cX11_digest 55 = .ok (.bipush 31, 2) := by decide +kernel
theorem dX11_digest_57 : decode cX11_digest 57 = .ok (.iload_n 1, 1) := by decide +kernel
theorem dX11_digest_58 : decode cX11_digest 58 = .ok (.imul, 1) := by decide +kernel
theorem dX11_digest_59 : decode cX11_digest 59 = .ok (.aload_n 0, 1) := by decide +kernel
theorem dX11_digest_60 : decode cX11_digest 60 = .ok (.getfield 19, 3) := by decide +kernel
theorem dX11_digest_63 : decode cX11_digest 63 = .ok (.getfield 144, 3) := by decide +kernel
theorem dX11_digest_66 : decode cX11_digest 66 = .ok (.iload_n 2, 1) := by decide +kernel
theorem dX11_digest_67 : decode cX11_digest 67 = .ok (.iconst 0, 1) := by decide +kernel
theorem dX11_digest_68 : decode cX11_digest 68 = .ok (.invokevirtual 129, 3) := by decide +kernel
theorem dX11_digest_71 : decode cX11_digest 71 = .ok (.iadd, 1) := by decide +kernel
theorem dX11_digest_72 : decode cX11_digest 72 = .ok (.imul, 1) := by decide +kernel
theorem dX11_digest_73 : decode cX11_digest 73 = .ok (.iload_n 3, 1) := by decide +kernel
theorem dX11_digest_74 : decode cX11_digest 74 = .ok (.iadd, 1) := by decide +kernel
theorem dX11_digest_75 : decode cX11_digest 75 = .ok (.istore_n 1, 1) := by decide +kernel
theorem dX11_digest_76 : decode cX11_digest 76 = .ok (.iconst 0, 1) := by decide +kernel
theorem dX11_digest_77 : decode cX11_digest 77 = .ok (.istore 4, 2) := by decide +kernel
theorem dX11_digest_79 : decode cX11_digest 79 = .ok (.iload 4, 2) := by decide +kernel
theorem dX11_digest_81 : decode cX11_digest 81 = .ok (.iload_n 3, 1) := by decide +kernel
theorem dX11_digest_82 : decode cX11_digest 82 = .ok (.if_icmp .ge 25, 3) := by decide +kernel
theorem dX11_digest_85 : decode cX11_digest 85 = .ok (.bipush 31, 2) := by decide +kernel
theorem dX11_digest_87 : decode cX11_digest 87 = .ok (.iload_n 1, 1) := by decide +kernel
theorem dX11_digest_88 : decode cX11_digest 88 = .ok (.imul, 1) := by decide +kernel
theorem dX11_digest_89 : decode cX11_digest 89 = .ok (.aload_n 0, 1) := by decide +kernel
theorem dX11_digest_90 : decode cX11_digest 90 = .ok (.getfield 19, 3) := by decide +kernel
theorem dX11_digest_93 : decode cX11_digest 93 = .ok (.iload_n 2, 1) := by decide +kernel
theorem dX11_digest_94 : decode cX11_digest 94 = .ok (.iload 4, 2) := by decide +kernel
theorem dX11_digest_96 : decode cX11_digest 96 = .ok (.invokevirtual 176, 3) := by decide +kernel
theorem dX11_digest_99 : decode cX11_digest 99 = .ok (.iadd, 1) := by decide +kernel
theorem dX11_digest_100 : decode cX11_digest 100 = .ok (.istore_n 1, 1) := by decide +kernel
theorem dX11_digest_101 : decode cX11_digest 101 = .ok (.iinc 4 1, 3) := by decide +kernel
theorem dX11_digest_104 : decode cX11_digest 104 = .ok (.goto (-25), 3) := by decide +kernel
theorem dX11_digest_107 : decode cX11_digest 107 = .ok (.iinc 2 1, 3) := by decide +kernel
theorem dX11_digest_110 : decode cX11_digest 110 = .ok (.goto (-84), 3) := by decide +kernel
theorem dX11_digest_113 : decode cX11_digest 113 = .ok (.aload_n 0, 1) := by decide +kernel
theorem dX11_digest_114 : decode cX11_digest 114 = .ok (.getfield 19, 3) := by decide +kernel
theorem dX11_digest_117 : decode cX11_digest 117 = .ok (.getfield 203, 3) := by decide +kernel
theorem dX11_digest_120 : decode cX11_digest 120 = .ok (.iload_n 1, 1) := by decide +kernel
theorem dX11_digest_121 : decode cX11_digest 121 = .ok (.invokevirtual 301, 3) := by decide +kernel
theorem dX11_digest_124 : decode cX11_digest 124 = .ok (.istore_n 1, 1) := by decide +kernel
theorem dX11_digest_125 : decode cX11_digest 125 = .ok (.aload_n 0, 1) := by decide +kernel
theorem dX11_digest_126 : decode cX11_digest 126 = .ok (.aload_n 0, 1) := by decide +kernel
theorem dX11_digest_127 : decode cX11_digest 127 = .ok (.getfield 19, 3) := by decide +kernel
theorem dX11_digest_130 : decode cX11_digest 130 = .ok (.getfield 274, 3) := by decide +kernel
theorem dX11_digest_133 : decode cX11_digest 133 = .ok (.iload_n 1, 1) := by decide +kernel
theorem dX11_digest_134 : decode cX11_digest 134 = .ok (.invokevirtual 301, 3) := by decide +kernel
theorem dX11_digest_137 : decode cX11_digest 137 = .ok (.invokevirtual 98, 3) := by decide +kernel
theorem dX11_digest_140 : decode cX11_digest 140 = .ok (.ireturn, 1) := by decide +kernel
theorem dX11_undo_0 : decode cX11_undo 0 = .ok (.aload_n 0, 1) := by decide +kernel
theorem dX11_undo_1 : decode cX11_undo 1 = .ok (.getfield 81, 3) := by decide +kernel
theorem dX11_undo_4 : decode cX11_undo 4 = .ok (.ifCond .ne 9, 3) := by decide +kernel
theorem dX11_undo_7 : decode cX11_undo 7 = .ok (.aload_n 0, 1) := by decide +kernel
theorem dX11_undo_8 : decode cX11_undo 8 = .ok (.iconst 0, 1) := by decide +kernel
theorem dX11_undo_9 : decode cX11_undo 9 = .ok (.invokevirtual 98, 3) := by decide +kernel
theorem dX11_undo_12 : decode cX11_undo 12 = .ok (.ireturn, 1) := by decide +kernel
theorem dX11_undo_13 : decode cX11_undo 13 = .ok (.aload_n 0, 1) := by decide +kernel
theorem dX11_undo_14 : decode cX11_undo 14 = .ok (.iconst 0, 1) := by decide +kernel
theorem dX11_undo_15 : decode cX11_undo 15 = .ok (.putfield 81, 3) := by decide +kernel
theorem dX11_undo_18 : decode cX11_undo 18 = .ok (.aload_n 0, 1) := by decide +kernel
theorem dX11_undo_19 : decode cX11_undo 19 = .ok (.getfield 19, 3) := by decide +kernel
theorem dX11_undo_22 : decode cX11_undo 22 = .ok (.aload_n 0, 1) := by decide +kernel
theorem dX11_undo_23 : decode cX11_undo 23 = .ok (.getfield 23, 3) := by decide +kernel
theorem dX11_undo_26 : decode cX11_undo 26 = .ok (.invokevirtual 304, 3) := by decide +kernel
theorem dX11_undo_29 : decode cX11_undo 29 = .ok (.aload_n 0, 1) := by decide +kernel
theorem dX11_undo_30 : decode cX11_undo 30 = .ok (.invokevirtual 306, 3) := by decide +kernel
theorem dX11_undo_33 : decode cX11_undo 33 = .ok (.aload_n 0, 1) := by decide +kernel
theorem dX11_undo_34 : decode cX11_undo 34 = .ok (.iconst 1, 1) := by decide +kernel
theorem dX11_undo_35 : decode cX11_undo 35 = .ok (.invokevirtual 98, 3) := by decide +kernel
theorem dX11_undo_38 : decode cX11_undo 38 = .ok (.ireturn, 1) := by decide +kernel
theorem dX11_findings_0 : decode cX11_findings 0 = .ok (.iload_n 1, 1) := by decide +kernel
theorem dX11_findings_1 : decode cX11_findings 1 = .ok (.ifCond .lt 27, 3) := by decide +kernel
theorem dX11_findings_4 : decode cX11_findings 4 = .ok (.iload_n 1, 1) := by decide +kernel
theorem dX11_findings_5 : decode cX11_findings 5 = .ok (.aload_n 0, 1) := by decide +kernel
theorem dX11_findings_6 : decode cX11_findings 6 = .ok (.getfield 10, 3) := by decide +kernel
theorem dX11_findings_9 : decode cX11_findings 9 = .ok (.getfield 309, 3) := by decide +kernel
theorem dX11_findings_12 : decode cX11_findings 12 = .ok (.arraylength, 1) := by decide +kernel
theorem dX11_findings_13 : decode cX11_findings 13 = .ok (.if_icmp .ge 15, 3) := by decide +kernel
theorem dX11_findings_16 : decode cX11_findings 16 = .ok (.aload_n 0, 1) := by decide +kernel
theorem dX11_findings_17 : decode cX11_findings 17 = .ok (.getfield 10, 3) := by decide +kernel
theorem dX11_findings_20 : decode cX11_findings 20 = .ok (.getfield 309, 3) := by decide +kernel
theorem dX11_findings_23 : decode cX11_findings 23 = .ok (.iload_n 1, 1) := by decide +kernel
theorem dX11_findings_24 : decode cX11_findings 24 = .ok (.iaload, 1) := by decide +kernel
theorem dX11_findings_25 : decode cX11_findings 25 = .ok (.goto 5, 3) := by decide +kernel
theorem dX11_findings_28 : decode cX11_findings 28 = .ok (.bipush (-2), 2) := by decide +kernel
theorem dX11_findings_30 : decode cX11_findings 30 = .ok (.ireturn, 1) := by decide +kernel
theorem dX11_status_0 : decode cX11_status 0 = .ok (.aload_n 0, 1) := by decide +kernel
theorem dX11_status_1 : decode cX11_status 1 = .ok (.getfield 10, 3) := by decide +kernel
theorem dX11_status_4 : decode cX11_status 4 = .ok (.getfield 312, 3) := by decide +kernel
theorem dX11_status_7 : decode cX11_status 7 = .ok (.ireturn, 1) := by decide +kernel
theorem dX11_trace_0 : decode cX11_trace 0 = .ok (.aload_n 0, 1) := by decide +kernel
theorem dX11_trace_1 : decode cX11_trace 1 = .ok (.getfield 10, 3) := by decide +kernel
theorem dX11_trace_4 : decode cX11_trace 4 = .ok (.getfield 315, 3) := by decide +kernel
theorem dX11_trace_7 : decode cX11_trace 7 = .ok (.ireturn, 1) := by decide +kernel
theorem dX11_count_0 : decode cX11_count 0 = .ok (.iload_n 1, 1) := by decide +kernel
theorem dX11_count_1 : decode cX11_count 1 = .ok (.tableswitch 72 0 3 #[31, 39, 50, 61], 31) := by decide +kernel
theorem dX11_count_32 : decode cX11_count 32 = .ok (.aload_n 0, 1) := by decide +kernel
theorem dX11_count_33 : decode cX11_count 33 = .ok (.getfield 19, 3) := by decide +kernel
theorem dX11_count_36 : decode cX11_count 36 = .ok (.getfield 92, 3) := by decide +kernel
theorem dX11_count_39 : decode cX11_count 39 = .ok (.ireturn, 1) := by decide +kernel
theorem dX11_count_40 : decode cX11_count 40 = .ok (.aload_n 0, 1) := by decide +kernel
theorem dX11_count_41 : decode cX11_count 41 = .ok (.getfield 19, 3) := by decide +kernel
theorem dX11_count_44 : decode cX11_count 44 = .ok (.getfield 105, 3) := by decide +kernel
theorem dX11_count_47 : decode cX11_count 47 = .ok (.getfield 109, 3) := by decide +kernel
theorem dX11_count_50 : decode cX11_count 50 = .ok (.ireturn, 1) := by decide +kernel
theorem dX11_count_51 : decode cX11_count 51 = .ok (.aload_n 0, 1) := by decide +kernel
theorem dX11_count_52 : decode cX11_count 52 = .ok (.getfield 19, 3) := by decide +kernel
theorem dX11_count_55 : decode cX11_count 55 = .ok (.getfield 144, 3) := by decide +kernel
theorem dX11_count_58 : decode cX11_count 58 = .ok (.getfield 109, 3) := by decide +kernel
theorem dX11_count_61 : decode cX11_count 61 = .ok (.ireturn, 1) := by decide +kernel
theorem dX11_count_62 : decode cX11_count 62 = .ok (.aload_n 0, 1) := by decide +kernel
theorem dX11_count_63 : decode cX11_count 63 = .ok (.getfield 19, 3) := by decide +kernel
theorem dX11_count_66 : decode cX11_count 66 = .ok (.getfield 203, 3) := by decide +kernel
theorem dX11_count_69 : decode cX11_count 69 = .ok (.getfield 109, 3) := by decide +kernel
theorem dX11_count_72 : decode cX11_count 72 = .ok (.ireturn, 1) := by decide +kernel
theorem dX11_count_73 : decode cX11_count 73 = .ok (.bipush (-2), 2) := by decide +kernel
theorem dX11_count_75 : decode cX11_count 75 = .ok (.ireturn, 1) := by decide +kernel
theorem dX11_lowest_0 : decode cX11_lowest 0 = .ok (.lload_n 0, 1) := by decide +kernel
theorem dX11_lowest_1 : decode cX11_lowest 1 = .ok (.lload_n 0, 1) := by decide +kernel
theorem dX11_lowest_2 : decode cX11_lowest 2 = .ok (.lneg, 1) := by decide +kernel
theorem dX11_lowest_3 : decode cX11_lowest 3 = .ok (.land, 1) := by decide +kernel
theorem dX11_lowest_4 : decode cX11_lowest 4 = .ok (.lconst 1, 1) := by decide +kernel
theorem dX11_lowest_5 : decode cX11_lowest 5 = .ok (.lsub, 1) := by decide +kernel
theorem dX11_lowest_6 : decode cX11_lowest 6 = .ok (.invokestatic 318, 3) := by decide +kernel
theorem dX11_lowest_9 : decode cX11_lowest 9 = .ok (.ireturn, 1) := by decide +kernel
theorem dX11_answer_0 : decode cX11_answer 0 = .ok (.aload_n 0, 1) := by decide +kernel
theorem dX11_answer_1 : decode cX11_answer 1 = .ok (.getfield 10, 3) := by decide +kernel
theorem dX11_answer_4 : decode cX11_answer 4 = .ok (.iconst 0, 1) := by decide +kernel
theorem dX11_answer_5 : decode cX11_answer 5 = .ok (.putfield 312, 3) := by decide +kernel
theorem dX11_answer_8 : decode cX11_answer 8 = .ok (.iload_n 1, 1) := by decide +kernel
theorem dX11_answer_9 : decode cX11_answer 9 = .ok (.ireturn, 1) := by decide +kernel
theorem dX11_refuse_0 : decode cX11_refuse 0 = .ok (.aload_n 0, 1) := by decide +kernel
theorem dX11_refuse_1 : decode cX11_refuse 1 = .ok (.getfield 10, 3) := by decide +kernel
theorem dX11_refuse_4 : decode cX11_refuse 4 = .ok (.iload_n 1, 1) := by decide +kernel
theorem dX11_refuse_5 : decode cX11_refuse 5 = .ok (.putfield 312, 3) := by decide +kernel
theorem dX11_refuse_8 : decode cX11_refuse 8 = .ok (.aload_n 0, 1) := by decide +kernel
theorem dX11_refuse_9 : decode cX11_refuse 9 = .ok (.getfield 10, 3) := by decide +kernel
theorem dX11_refuse_12 : decode cX11_refuse 12 = .ok (.iload_n 1, 1) := by decide +kernel
theorem dX11_refuse_13 : decode cX11_refuse 13 = .ok (.invokevirtual 324, 3) := by decide +kernel
theorem dX11_refuse_16 : decode cX11_refuse 16 = .ok (.iload_n 1, 1) := by decide +kernel
theorem dX11_refuse_17 : decode cX11_refuse 17 = .ok (.ireturn, 1) := by decide +kernel
theorem dX11_change_0 : decode cX11_change 0 = .ok (.aload_n 0, 1) := by decide +kernel
theorem dX11_change_1 : decode cX11_change 1 = .ok (.getfield 23, 3) := by decide +kernel
theorem dX11_change_4 : decode cX11_change 4 = .ok (.aload_n 0, 1) := by decide +kernel
theorem dX11_change_5 : decode cX11_change 5 = .ok (.getfield 19, 3) := by decide +kernel
theorem dX11_change_8 : decode cX11_change 8 = .ok (.invokevirtual 304, 3) := by decide +kernel
theorem dX11_change_11 : decode cX11_change 11 = .ok (.aload_n 0, 1) := by decide +kernel
theorem dX11_change_12 : decode cX11_change 12 = .ok (.iconst 1, 1) := by decide +kernel
theorem dX11_change_13 : decode cX11_change 13 = .ok (.putfield 81, 3) := by decide +kernel
theorem dX11_change_16 : decode cX11_change 16 = .ok (.aload_n 0, 1) := by decide +kernel
theorem dX11_change_17 : decode cX11_change 17 = .ok (.invokevirtual 306, 3) := by decide +kernel
theorem dX11_change_20 : decode cX11_change 20 = .ok (.return_, 1) := by decide +kernel
theorem dX11_forgetWays_0 : decode cX11_forgetWays 0 = .ok (.aload_n 0, 1) := by decide +kernel
theorem dX11_forgetWays_1 : decode cX11_forgetWays 1 = .ok (.getfield 31, 3) := by decide +kernel
theorem dX11_forgetWays_4 : decode cX11_forgetWays 4 = .ok (.invokevirtual 327, 3) := by decide +kernel
theorem dX11_forgetWays_7 : decode cX11_forgetWays 7 = .ok (.aload_n 0, 1) := by decide +kernel
theorem dX11_forgetWays_8 : decode cX11_forgetWays 8 = .ok (.getfield 40, 3) := by decide +kernel
theorem dX11_forgetWays_11 : decode cX11_forgetWays 11 = .ok (.invokevirtual 330, 3) := by decide +kernel
theorem dX11_forgetWays_14 : decode cX11_forgetWays 14 = .ok (.return_, 1) := by decide +kernel
theorem dX11_become_0 : decode cX11_become 0 = .ok (.aload_n 0, 1) := by decide +kernel
theorem dX11_become_1 : decode cX11_become 1 = .ok (.getfield 19, 3) := by decide +kernel
theorem dX11_become_4 : decode cX11_become 4 = .ok (.getfield 105, 3) := by decide +kernel
theorem dX11_become_7 : decode cX11_become 7 = .ok (.iload_n 1, 1) := by decide +kernel
theorem dX11_become_8 : decode cX11_become 8 = .ok (.invokevirtual 126, 3) := by decide +kernel
theorem dX11_become_11 : decode cX11_become 11 = .ok (.ifCond .ne 10, 3) := by decide +kernel
theorem dX11_become_14 : decode cX11_become 14 = .ok (.aload_n 0, 1) := by decide +kernel
theorem dX11_become_15 : decode cX11_become 15 = .ok (.bipush (-2), 2) := by decide +kernel
theorem dX11_become_17 : decode cX11_become 17 = .ok (.invokevirtual 88, 3) := by decide +kernel
theorem dX11_become_20 : decode cX11_become 20 = .ok (.ireturn, 1) := by decide +kernel
theorem dX11_become_21 : decode cX11_become 21 = .ok (.aload_n 0, 1) := by decide +kernel
theorem dX11_become_22 : decode cX11_become 22 = .ok (.getfield 19, 3) := by decide +kernel
theorem dX11_become_25 : decode cX11_become 25 = .ok (.getfield 105, 3) := by decide +kernel
theorem dX11_become_28 : decode cX11_become 28 = .ok (.iload_n 1, 1) := by decide +kernel
theorem dX11_become_29 : decode cX11_become 29 = .ok (.iload_n 2, 1) := by decide +kernel
theorem dX11_become_30 : decode cX11_become 30 = .ok (.invokevirtual 129, 3) := by decide +kernel
theorem dX11_become_33 : decode cX11_become 33 = .ok (.istore 4, 2) := by decide +kernel
theorem dX11_become_35 : decode cX11_become 35 = .ok (.aload_n 0, 1) := by decide +kernel
theorem dX11_become_36 : decode cX11_become 36 = .ok (.invokevirtual 95, 3) := by decide +kernel
theorem dX11_become_39 : decode cX11_become 39 = .ok (.aload_n 0, 1) := by decide +kernel
theorem dX11_become_40 : decode cX11_become 40 = .ok (.getfield 19, 3) := by decide +kernel
theorem dX11_become_43 : decode cX11_become 43 = .ok (.getfield 105, 3) := by decide +kernel
theorem dX11_become_46 : decode cX11_become 46 = .ok (.iload_n 1, 1) := by decide +kernel
theorem dX11_become_47 : decode cX11_become 47 = .ok (.iload_n 2, 1) := by decide +kernel
theorem dX11_become_48 : decode cX11_become 48 = .ok (.iload_n 3, 1) := by decide +kernel
theorem dX11_become_49 : decode cX11_become 49 = .ok (.invokevirtual 118, 3) := by decide +kernel
theorem dX11_become_52 : decode cX11_become 52 = .ok (.aload_n 0, 1) := by decide +kernel
theorem dX11_become_53 : decode cX11_become 53 = .ok (.iload 4, 2) := by decide +kernel
theorem dX11_become_55 : decode cX11_become 55 = .ok (.invokevirtual 98, 3) := by decide +kernel
theorem dX11_become_58 : decode cX11_become 58 = .ok (.ireturn, 1) := by decide +kernel
theorem dX11_wholeIn_0 : decode cX11_wholeIn 0 = .ok (.iload_n 0, 1) := by decide +kernel
theorem dX11_wholeIn_1 : decode cX11_wholeIn 1 = .ok (.i2f, 1) := by decide +kernel
theorem dX11_wholeIn_2 : decode cX11_wholeIn 2 = .ok (.f2l, 1) := by decide +kernel
theorem dX11_wholeIn_3 : decode cX11_wholeIn 3 = .ok (.lstore_n 2, 1) := by decide +kernel
theorem dX11_wholeIn_4 : decode cX11_wholeIn 4 = .ok (.iload_n 1, 1) := by decide +kernel
theorem dX11_wholeIn_5 : decode cX11_wholeIn 5 = .ok (.i2f, 1) := by decide +kernel
theorem dX11_wholeIn_6 : decode cX11_wholeIn 6 = .ok (.f2l, 1) := by decide +kernel
theorem dX11_wholeIn_7 : decode cX11_wholeIn 7 = .ok (.lstore 4, 2) := by decide +kernel
theorem dX11_wholeIn_9 : decode cX11_wholeIn 9 = .ok (.lload 4, 2) := by decide +kernel
theorem dX11_wholeIn_11 : decode cX11_wholeIn 11 = .ok (.lconst 1, 1) := by decide +kernel
theorem dX11_wholeIn_12 : decode cX11_wholeIn 12 = .ok (.lcmp, 1) := by decide +kernel
theorem dX11_wholeIn_13 : decode cX11_wholeIn 13 = .ok (.ifCond .ge 5, 3) := by decide +kernel
theorem dX11_wholeIn_16 : decode cX11_wholeIn 16 = .ok (.iconst 0, 1) := by decide +kernel
theorem dX11_wholeIn_17 : decode cX11_wholeIn 17 = .ok (.ireturn, 1) := by decide +kernel
theorem dX11_wholeIn_18 : decode cX11_wholeIn 18 = .ok (.lload_n 2, 1) := by decide +kernel
theorem dX11_wholeIn_19 : decode cX11_wholeIn 19 = .ok (.lload 4, 2) := by decide +kernel
theorem dX11_wholeIn_21 : decode cX11_wholeIn 21 = .ok (.lrem, 1) := by decide +kernel
theorem dX11_wholeIn_22 : decode cX11_wholeIn 22 = .ok (.l2f, 1) := by decide +kernel
theorem dX11_wholeIn_23 : decode cX11_wholeIn 23 = .ok (.ldc_w 354, 3) := by decide +kernel
theorem dX11_wholeIn_26 : decode cX11_wholeIn 26 = .ok (.fdiv, 1) := by decide +kernel
theorem dX11_wholeIn_27 : decode cX11_wholeIn 27 = .ok (.fstore 6, 2) := by decide +kernel
theorem dX11_wholeIn_29 : decode cX11_wholeIn 29 = .ok (.iload_n 0, 1) := by decide +kernel
theorem dX11_wholeIn_30 : decode cX11_wholeIn 30 = .ok (.i2f, 1) := by decide +kernel
theorem dX11_wholeIn_31 : decode cX11_wholeIn 31 = .ok (.ldc_w 354, 3) := by decide +kernel
theorem dX11_wholeIn_34 : decode cX11_wholeIn 34 = .ok (.fdiv, 1) := by decide +kernel
theorem dX11_wholeIn_35 : decode cX11_wholeIn 35 = .ok (.fstore 7, 2) := by decide +kernel
theorem dX11_wholeIn_37 : decode cX11_wholeIn 37 = .ok (.iload_n 1, 1) := by decide +kernel
theorem dX11_wholeIn_38 : decode cX11_wholeIn 38 = .ok (.i2f, 1) := by decide +kernel
theorem dX11_wholeIn_39 : decode cX11_wholeIn 39 = .ok (.ldc_w 354, 3) := by decide +kernel
theorem dX11_wholeIn_42 : decode cX11_wholeIn 42 = .ok (.fdiv, 1) := by decide +kernel
theorem dX11_wholeIn_43 : decode cX11_wholeIn 43 = .ok (.fstore 8, 2) := by decide +kernel
theorem dX11_wholeIn_45 : decode cX11_wholeIn 45 = .ok (.ldc_w 343, 3) := by decide +kernel
theorem dX11_wholeIn_48 : decode cX11_wholeIn 48 = .ok (.fload 7, 2) := by decide +kernel
theorem dX11_wholeIn_50 : decode cX11_wholeIn 50 = .ok (.fload 6, 2) := by decide +kernel
theorem dX11_wholeIn_52 : decode cX11_wholeIn 52 = .ok (.fsub, 1) := by decide +kernel
theorem dX11_wholeIn_53 : decode cX11_wholeIn 53 = .ok (.fload 8, 2) := by decide +kernel
theorem dX11_wholeIn_55 : decode cX11_wholeIn 55 = .ok (.fdiv, 1) := by decide +kernel
theorem dX11_wholeIn_56 : decode cX11_wholeIn 56 = .ok (.f2i, 1) := by decide +kernel
theorem dX11_wholeIn_57 : decode cX11_wholeIn 57 = .ok (.invokestatic 345, 3) := by decide +kernel
theorem dX11_wholeIn_60 : decode cX11_wholeIn 60 = .ok (.ireturn, 1) := by decide +kernel
theorem dX11_bodyOf_0 : decode cX11_bodyOf 0 = .ok (.iload_n 1, 1) := by decide +kernel
theorem dX11_bodyOf_1 : decode cX11_bodyOf 1 = .ok (.tableswitch 78 1 3 #[27, 44, 61], 27) := by decide +kernel
theorem dX11_bodyOf_28 : decode cX11_bodyOf 28 = .ok (.new 355, 3) := by decide +kernel
theorem dX11_bodyOf_31 : decode cX11_bodyOf 31 = .ok (.dup, 1) := by decide +kernel
theorem dX11_bodyOf_32 : decode cX11_bodyOf 32 = .ok (.aload_n 0, 1) := by decide +kernel
theorem dX11_bodyOf_33 : decode cX11_bodyOf 33 = .ok (.getfield 10, 3) := by decide +kernel
theorem dX11_bodyOf_36 : decode cX11_bodyOf 36 = .ok (.bipush 30, 2) := by decide +kernel
theorem dX11_bodyOf_38 : decode cX11_bodyOf 38 = .ok (.sipush 600, 3) := by decide +kernel
theorem dX11_bodyOf_41 : decode cX11_bodyOf 41 = .ok (.invokespecial 357, 3) := by decide +kernel
theorem dX11_bodyOf_44 : decode cX11_bodyOf 44 = .ok (.areturn, 1) := by decide +kernel
theorem dX11_bodyOf_45 : decode cX11_bodyOf 45 = .ok (.new 240, 3) := by decide +kernel
theorem dX11_bodyOf_48 : decode cX11_bodyOf 48 = .ok (.dup, 1) := by decide +kernel
theorem dX11_bodyOf_49 : decode cX11_bodyOf 49 = .ok (.aload_n 0, 1) := by decide +kernel
theorem dX11_bodyOf_50 : decode cX11_bodyOf 50 = .ok (.getfield 10, 3) := by decide +kernel
theorem dX11_bodyOf_53 : decode cX11_bodyOf 53 = .ok (.bipush 45, 2) := by decide +kernel
theorem dX11_bodyOf_55 : decode cX11_bodyOf 55 = .ok (.sipush 200, 3) := by decide +kernel
theorem dX11_bodyOf_58 : decode cX11_bodyOf 58 = .ok (.invokespecial 358, 3) := by decide +kernel
theorem dX11_bodyOf_61 : decode cX11_bodyOf 61 = .ok (.areturn, 1) := by decide +kernel
theorem dX11_bodyOf_62 : decode cX11_bodyOf 62 = .ok (.new 359, 3) := by decide +kernel
theorem dX11_bodyOf_65 : decode cX11_bodyOf 65 = .ok (.dup, 1) := by decide +kernel
theorem dX11_bodyOf_66 : decode cX11_bodyOf 66 = .ok (.aload_n 0, 1) := by decide +kernel
theorem dX11_bodyOf_67 : decode cX11_bodyOf 67 = .ok (.getfield 10, 3) := by decide +kernel
theorem dX11_bodyOf_70 : decode cX11_bodyOf 70 = .ok (.bipush 20, 2) := by decide +kernel
theorem dX11_bodyOf_72 : decode cX11_bodyOf 72 = .ok (.sipush 400, 3) := by decide +kernel
theorem dX11_bodyOf_75 : decode cX11_bodyOf 75 = .ok (.invokespecial 361, 3) := by decide +kernel
theorem dX11_bodyOf_78 : decode cX11_bodyOf 78 = .ok (.areturn, 1) := by decide +kernel
theorem dX11_bodyOf_79 : decode cX11_bodyOf 79 = .ok (.new 53, 3) := by decide +kernel
theorem dX11_bodyOf_82 : decode cX11_bodyOf 82 = .ok (.dup, 1) := by decide +kernel
theorem dX11_bodyOf_83 : decode cX11_bodyOf 83 = .ok (.aload_n 0, 1) := by decide +kernel
theorem dX11_bodyOf_84 : decode cX11_bodyOf 84 = .ok (.getfield 10, 3) := by decide +kernel
theorem dX11_bodyOf_87 : decode cX11_bodyOf 87 = .ok (.bipush 50, 2) := by decide +kernel
theorem dX11_bodyOf_89 : decode cX11_bodyOf 89 = .ok (.sipush 200, 3) := by decide +kernel
theorem dX11_bodyOf_92 : decode cX11_bodyOf 92 = .ok (.invokespecial 85, 3) := by decide +kernel
theorem dX11_bodyOf_95 : decode cX11_bodyOf 95 = .ok (.areturn, 1) := by decide +kernel
theorem dX11_enlist_0 : decode cX11_enlist 0 = .ok (.aload_n 0, 1) := by decide +kernel
theorem dX11_enlist_1 : decode cX11_enlist 1 = .ok (.getfield 19, 3) := by decide +kernel
theorem dX11_enlist_4 : decode cX11_enlist 4 = .ok (.getfield 203, 3) := by decide +kernel
theorem dX11_enlist_7 : decode cX11_enlist 7 = .ok (.invokevirtual 114, 3) := by decide +kernel
theorem dX11_enlist_10 : decode cX11_enlist 10 = .ok (.istore 4, 2) := by decide +kernel
theorem dX11_enlist_12 : decode cX11_enlist 12 = .ok (.aload_n 0, 1) := by decide +kernel
theorem dX11_enlist_13 : decode cX11_enlist 13 = .ok (.getfield 55, 3) := by decide +kernel
theorem dX11_enlist_16 : decode cX11_enlist 16 = .ok (.iload 4, 2) := by decide +kernel
theorem dX11_enlist_18 : decode cX11_enlist 18 = .ok (.aload_n 1, 1) := by decide +kernel
theorem dX11_enlist_19 : decode cX11_enlist 19 = .ok (.aastore, 1) := by decide +kernel
theorem dX11_enlist_20 : decode cX11_enlist 20 = .ok (.aload_n 0, 1) := by decide +kernel
theorem dX11_enlist_21 : decode cX11_enlist 21 = .ok (.getfield 19, 3) := by decide +kernel
theorem dX11_enlist_24 : decode cX11_enlist 24 = .ok (.getfield 203, 3) := by decide +kernel
theorem dX11_enlist_27 : decode cX11_enlist 27 = .ok (.iload 4, 2) := by decide +kernel
theorem dX11_enlist_29 : decode cX11_enlist 29 = .ok (.bipush 6, 2) := by decide +kernel
theorem dX11_enlist_31 : decode cX11_enlist 31 = .ok (.iload_n 2, 1) := by decide +kernel
theorem dX11_enlist_32 : decode cX11_enlist 32 = .ok (.invokevirtual 118, 3) := by decide +kernel
theorem dX11_enlist_35 : decode cX11_enlist 35 = .ok (.aload_n 0, 1) := by decide +kernel
theorem dX11_enlist_36 : decode cX11_enlist 36 = .ok (.getfield 19, 3) := by decide +kernel
theorem dX11_enlist_39 : decode cX11_enlist 39 = .ok (.getfield 203, 3) := by decide +kernel
theorem dX11_enlist_42 : decode cX11_enlist 42 = .ok (.iload 4, 2) := by decide +kernel
theorem dX11_enlist_44 : decode cX11_enlist 44 = .ok (.iconst 5, 1) := by decide +kernel
theorem dX11_enlist_45 : decode cX11_enlist 45 = .ok (.iload_n 3, 1) := by decide +kernel
theorem dX11_enlist_46 : decode cX11_enlist 46 = .ok (.invokevirtual 118, 3) := by decide +kernel
theorem dX11_enlist_49 : decode cX11_enlist 49 = .ok (.iload 4, 2) := by decide +kernel
theorem dX11_enlist_51 : decode cX11_enlist 51 = .ok (.ireturn, 1) := by decide +kernel
theorem dX11_readGauges_0 : decode cX11_readGauges 0 = .ok (.iconst 0, 1) := by decide +kernel
theorem dX11_readGauges_1 : decode cX11_readGauges 1 = .ok (.istore_n 2, 1) := by decide +kernel
theorem dX11_readGauges_2 : decode cX11_readGauges 2 = .ok (.iload_n 2, 1) := by decide +kernel
theorem dX11_readGauges_3 : decode cX11_readGauges 3 = .ok (.aload_n 0, 1) := by decide +kernel
theorem dX11_readGauges_4 : decode cX11_readGauges 4 = .ok (.getfield 19, 3) := by decide +kernel
theorem dX11_readGauges_7 : decode cX11_readGauges 7 = .ok (.getfield 144, 3) := by decide +kernel
theorem dX11_readGauges_10 : decode cX11_readGauges 10 = .ok (.getfield 109, 3) := by decide +kernel
theorem dX11_readGauges_13 : decode cX11_readGauges 13 = .ok (.if_icmp .ge 52, 3) := by decide +kernel
theorem dX11_readGauges_16 : decode cX11_readGauges 16 = .ok (.aload_n 0, 1) := by decide +kernel
theorem dX11_readGauges_17 : decode cX11_readGauges 17 = .ok (.getfield 19, 3) := by decide +kernel
theorem dX11_readGauges_20 : decode cX11_readGauges 20 = .ok (.iload_n 2, 1) := by decide +kernel
theorem dX11_readGauges_21 : decode cX11_readGauges 21 = .ok (.iload_n 1, 1) := by decide +kernel
theorem dX11_readGauges_22 : decode cX11_readGauges 22 = .ok (.invokevirtual 173, 3) := by decide +kernel
theorem dX11_readGauges_25 : decode cX11_readGauges 25 = .ok (.istore_n 3, 1) := by decide +kernel
theorem dX11_readGauges_26 : decode cX11_readGauges 26 = .ok (.aload_n 0, 1) := by decide +kernel
theorem dX11_readGauges_27 : decode cX11_readGauges 27 = .ok (.getfield 10, 3) := by decide +kernel
theorem dX11_readGauges_30 : decode cX11_readGauges 30 = .ok (.iload_n 3, 1) := by decide +kernel
theorem dX11_readGauges_31 : decode cX11_readGauges 31 = .ok (.invokevirtual 324, 3) := by decide +kernel
theorem dX11_readGauges_34 : decode cX11_readGauges 34 = .ok (.aload_n 0, 1) := by decide +kernel
theorem dX11_readGauges_35 : decode cX11_readGauges 35 = .ok (.getfield 59, 3) := by decide +kernel
theorem dX11_readGauges_38 : decode cX11_readGauges 38 = .ok (.iload_n 2, 1) := by decide +kernel
theorem dX11_readGauges_39 : decode cX11_readGauges 39 = .ok (.iload_n 3, 1) := by decide +kernel
theorem dX11_readGauges_40 : decode cX11_readGauges 40 = .ok (.ifCond .ne 15, 3) := by decide +kernel
theorem dX11_readGauges_43 : decode cX11_readGauges 43 = .ok (.aload_n 0, 1) := by decide +kernel
theorem dX11_readGauges_44 : decode cX11_readGauges 44 = .ok (.getfield 19, 3) := by decide +kernel
theorem dX11_readGauges_47 : decode cX11_readGauges 47 = .ok (.iload_n 2, 1) := by decide +kernel
theorem dX11_readGauges_48 : decode cX11_readGauges 48 = .ok (.iload_n 1, 1) := by decide +kernel
theorem dX11_readGauges_49 : decode cX11_readGauges 49 = .ok (.invokevirtual 335, 3) := by decide +kernel
theorem dX11_readGauges_52 : decode cX11_readGauges 52 = .ok (.goto 6, 3) := by decide +kernel
theorem dX11_readGauges_55 : decode cX11_readGauges 55 = .ok (.ldc_w 339, 3) := by decide +kernel
theorem dX11_readGauges_58 : decode cX11_readGauges 58 = .ok (.fastore, 1) := by decide +kernel
theorem dX11_readGauges_59 : decode cX11_readGauges 59 = .ok (.iinc 2 1, 3) := by decide +kernel
theorem dX11_readGauges_62 : decode cX11_readGauges 62 = .ok (.goto (-60), 3) := by decide +kernel
theorem dX11_readGauges_65 : decode cX11_readGauges 65 = .ok (.return_, 1) := by decide +kernel
theorem dJ6_bitCount_0f7a4_0 : decode cJ6_bitCount_0f7a4 0 = .ok (.iload_n 0, 1) := by decide +kernel
theorem dJ6_bitCount_0f7a4_1 : decode cJ6_bitCount_0f7a4 1 = .ok (.iload_n 0, 1) := by decide +kernel
theorem dJ6_bitCount_0f7a4_2 : decode cJ6_bitCount_0f7a4 2 = .ok (.iconst 1, 1) := by decide +kernel
theorem dJ6_bitCount_0f7a4_3 : decode cJ6_bitCount_0f7a4 3 = .ok (.iushr, 1) := by decide +kernel
theorem dJ6_bitCount_0f7a4_4 : decode cJ6_bitCount_0f7a4 4 = .ok (.ldc_w 265, 3) := by decide +kernel
theorem dJ6_bitCount_0f7a4_7 : decode cJ6_bitCount_0f7a4 7 = .ok (.iand, 1) := by decide +kernel
theorem dJ6_bitCount_0f7a4_8 : decode cJ6_bitCount_0f7a4 8 = .ok (.isub, 1) := by decide +kernel
theorem dJ6_bitCount_0f7a4_9 : decode cJ6_bitCount_0f7a4 9 = .ok (.istore_n 0, 1) := by decide +kernel
theorem dJ6_bitCount_0f7a4_10 : decode cJ6_bitCount_0f7a4 10 = .ok (.iload_n 0, 1) := by decide +kernel
theorem dJ6_bitCount_0f7a4_11 : decode cJ6_bitCount_0f7a4 11 = .ok (.ldc_w 266, 3) := by decide +kernel
theorem dJ6_bitCount_0f7a4_14 : decode cJ6_bitCount_0f7a4 14 = .ok (.iand, 1) := by decide +kernel
theorem dJ6_bitCount_0f7a4_15 : decode cJ6_bitCount_0f7a4 15 = .ok (.iload_n 0, 1) := by decide +kernel
theorem dJ6_bitCount_0f7a4_16 : decode cJ6_bitCount_0f7a4 16 = .ok (.iconst 2, 1) := by decide +kernel
theorem dJ6_bitCount_0f7a4_17 : decode cJ6_bitCount_0f7a4 17 = .ok (.iushr, 1) := by decide +kernel
theorem dJ6_bitCount_0f7a4_18 : decode cJ6_bitCount_0f7a4 18 = .ok (.ldc_w 266, 3) := by decide +kernel
theorem dJ6_bitCount_0f7a4_21 : decode cJ6_bitCount_0f7a4 21 = .ok (.iand, 1) := by decide +kernel
theorem dJ6_bitCount_0f7a4_22 : decode cJ6_bitCount_0f7a4 22 = .ok (.iadd, 1) := by decide +kernel
theorem dJ6_bitCount_0f7a4_23 : decode cJ6_bitCount_0f7a4 23 = .ok (.istore_n 0, 1) := by decide +kernel
theorem dJ6_bitCount_0f7a4_24 : decode cJ6_bitCount_0f7a4 24 = .ok (.iload_n 0, 1) := by decide +kernel
theorem dJ6_bitCount_0f7a4_25 : decode cJ6_bitCount_0f7a4 25 = .ok (.iload_n 0, 1) := by decide +kernel
theorem dJ6_bitCount_0f7a4_26 : decode cJ6_bitCount_0f7a4 26 = .ok (.iconst 4, 1) := by decide +kernel
theorem dJ6_bitCount_0f7a4_27 : decode cJ6_bitCount_0f7a4 27 = .ok (.iushr, 1) := by decide +kernel
theorem dJ6_bitCount_0f7a4_28 : decode cJ6_bitCount_0f7a4 28 = .ok (.iadd, 1) := by decide +kernel
theorem dJ6_bitCount_0f7a4_29 : decode cJ6_bitCount_0f7a4 29 = .ok (.ldc_w 267, 3) := by decide +kernel
theorem dJ6_bitCount_0f7a4_32 : decode cJ6_bitCount_0f7a4 32 = .ok (.iand, 1) := by decide +kernel
theorem dJ6_bitCount_0f7a4_33 : decode cJ6_bitCount_0f7a4 33 = .ok (.istore_n 0, 1) := by decide +kernel
theorem dJ6_bitCount_0f7a4_34 : decode cJ6_bitCount_0f7a4 34 = .ok (.iload_n 0, 1) := by decide +kernel
theorem dJ6_bitCount_0f7a4_35 : decode cJ6_bitCount_0f7a4 35 = .ok (.iload_n 0, 1) := by decide +kernel
theorem dJ6_bitCount_0f7a4_36 : decode cJ6_bitCount_0f7a4 36 = .ok (.bipush 8, 2) := by decide +kernel
theorem dJ6_bitCount_0f7a4_38 : decode cJ6_bitCount_0f7a4 38 = .ok (.iushr, 1) := by decide +kernel
theorem dJ6_bitCount_0f7a4_39 : decode cJ6_bitCount_0f7a4 39 = .ok (.iadd, 1) := by decide +kernel
theorem dJ6_bitCount_0f7a4_40 : decode cJ6_bitCount_0f7a4 40 = .ok (.istore_n 0, 1) := by decide +kernel
theorem dJ6_bitCount_0f7a4_41 : decode cJ6_bitCount_0f7a4 41 = .ok (.iload_n 0, 1) := by decide +kernel
theorem dJ6_bitCount_0f7a4_42 : decode cJ6_bitCount_0f7a4 42 = .ok (.iload_n 0, 1) := by decide +kernel
theorem dJ6_bitCount_0f7a4_43 : decode cJ6_bitCount_0f7a4 43 = .ok (.bipush 16, 2) := by decide +kernel
theorem dJ6_bitCount_0f7a4_45 : decode cJ6_bitCount_0f7a4 45 = .ok (.iushr, 1) := by decide +kernel
theorem dJ6_bitCount_0f7a4_46 : decode cJ6_bitCount_0f7a4 46 = .ok (.iadd, 1) := by decide +kernel
theorem dJ6_bitCount_0f7a4_47 : decode cJ6_bitCount_0f7a4 47 = .ok (.istore_n 0, 1) := by decide +kernel
theorem dJ6_bitCount_0f7a4_48 : decode cJ6_bitCount_0f7a4 48 = .ok (.iload_n 0, 1) := by decide +kernel
theorem dJ6_bitCount_0f7a4_49 : decode cJ6_bitCount_0f7a4 49 = .ok (.bipush 63, 2) := by decide +kernel
theorem dJ6_bitCount_0f7a4_51 : decode cJ6_bitCount_0f7a4 51 = .ok (.iand, 1) := by decide +kernel
theorem dJ6_bitCount_0f7a4_52 : decode cJ6_bitCount_0f7a4 52 = .ok (.ireturn, 1) := by decide +kernel
theorem dJ13_bitCount_95d88_0 : decode cJ13_bitCount_95d88 0 = .ok (.lload_n 0, 1) := by decide +kernel
theorem dJ13_bitCount_95d88_1 : decode cJ13_bitCount_95d88 1 = .ok (.lload_n 0, 1) := by decide +kernel
theorem dJ13_bitCount_95d88_2 : decode cJ13_bitCount_95d88 2 = .ok (.iconst 1, 1) := by decide +kernel
theorem dJ13_bitCount_95d88_3 : decode cJ13_bitCount_95d88 3 = .ok (.lushr, 1) := by decide +kernel
theorem dJ13_bitCount_95d88_4 : decode cJ13_bitCount_95d88 4 = .ok (.ldc2_w 314, 3) := by decide +kernel
theorem dJ13_bitCount_95d88_7 : decode cJ13_bitCount_95d88 7 = .ok (.land, 1) := by decide +kernel
theorem dJ13_bitCount_95d88_8 : decode cJ13_bitCount_95d88 8 = .ok (.lsub, 1) := by decide +kernel
theorem dJ13_bitCount_95d88_9 : decode cJ13_bitCount_95d88 9 = .ok (.lstore_n 0, 1) := by decide +kernel
theorem dJ13_bitCount_95d88_10 : decode cJ13_bitCount_95d88 10 = .ok (.lload_n 0, 1) := by decide +kernel
theorem dJ13_bitCount_95d88_11 : decode cJ13_bitCount_95d88 11 = .ok (.ldc2_w 316, 3) := by decide +kernel
theorem dJ13_bitCount_95d88_14 : decode cJ13_bitCount_95d88 14 = .ok (.land, 1) := by decide +kernel
theorem dJ13_bitCount_95d88_15 : decode cJ13_bitCount_95d88 15 = .ok (.lload_n 0, 1) := by decide +kernel
theorem dJ13_bitCount_95d88_16 : decode cJ13_bitCount_95d88 16 = .ok (.iconst 2, 1) := by decide +kernel
theorem dJ13_bitCount_95d88_17 : decode cJ13_bitCount_95d88 17 = .ok (.lushr, 1) := by decide +kernel
theorem dJ13_bitCount_95d88_18 : decode cJ13_bitCount_95d88 18 = .ok (.ldc2_w 316, 3) := by decide +kernel
theorem dJ13_bitCount_95d88_21 : decode cJ13_bitCount_95d88 21 = .ok (.land, 1) := by decide +kernel
theorem dJ13_bitCount_95d88_22 : decode cJ13_bitCount_95d88 22 = .ok (.ladd, 1) := by decide +kernel
theorem dJ13_bitCount_95d88_23 : decode cJ13_bitCount_95d88 23 = .ok (.lstore_n 0, 1) := by decide +kernel
theorem dJ13_bitCount_95d88_24 : decode cJ13_bitCount_95d88 24 = .ok (.lload_n 0, 1) := by decide +kernel
theorem dJ13_bitCount_95d88_25 : decode cJ13_bitCount_95d88 25 = .ok (.lload_n 0, 1) := by decide +kernel
theorem dJ13_bitCount_95d88_26 : decode cJ13_bitCount_95d88 26 = .ok (.iconst 4, 1) := by decide +kernel
theorem dJ13_bitCount_95d88_27 : decode cJ13_bitCount_95d88 27 = .ok (.lushr, 1) := by decide +kernel
theorem dJ13_bitCount_95d88_28 : decode cJ13_bitCount_95d88 28 = .ok (.ladd, 1) := by decide +kernel
theorem dJ13_bitCount_95d88_29 : decode cJ13_bitCount_95d88 29 = .ok (.ldc2_w 318, 3) := by decide +kernel
theorem dJ13_bitCount_95d88_32 : decode cJ13_bitCount_95d88 32 = .ok (.land, 1) := by decide +kernel
theorem dJ13_bitCount_95d88_33 : decode cJ13_bitCount_95d88 33 = .ok (.lstore_n 0, 1) := by decide +kernel
theorem dJ13_bitCount_95d88_34 : decode cJ13_bitCount_95d88 34 = .ok (.lload_n 0, 1) := by decide +kernel
theorem dJ13_bitCount_95d88_35 : decode cJ13_bitCount_95d88 35 = .ok (.lload_n 0, 1) := by decide +kernel
theorem dJ13_bitCount_95d88_36 : decode cJ13_bitCount_95d88 36 = .ok (.bipush 8, 2) := by decide +kernel
theorem dJ13_bitCount_95d88_38 : decode cJ13_bitCount_95d88 38 = .ok (.lushr, 1) := by decide +kernel
theorem dJ13_bitCount_95d88_39 : decode cJ13_bitCount_95d88 39 = .ok (.ladd, 1) := by decide +kernel
theorem dJ13_bitCount_95d88_40 : decode cJ13_bitCount_95d88 40 = .ok (.lstore_n 0, 1) := by decide +kernel
theorem dJ13_bitCount_95d88_41 : decode cJ13_bitCount_95d88 41 = .ok (.lload_n 0, 1) := by decide +kernel
theorem dJ13_bitCount_95d88_42 : decode cJ13_bitCount_95d88 42 = .ok (.lload_n 0, 1) := by decide +kernel
theorem dJ13_bitCount_95d88_43 : decode cJ13_bitCount_95d88 43 = .ok (.bipush 16, 2) := by decide +kernel
theorem dJ13_bitCount_95d88_45 : decode cJ13_bitCount_95d88 45 = .ok (.lushr, 1) := by decide +kernel
theorem dJ13_bitCount_95d88_46 : decode cJ13_bitCount_95d88 46 = .ok (.ladd, 1) := by decide +kernel
theorem dJ13_bitCount_95d88_47 : decode cJ13_bitCount_95d88 47 = .ok (.lstore_n 0, 1) := by decide +kernel
theorem dJ13_bitCount_95d88_48 : decode cJ13_bitCount_95d88 48 = .ok (.lload_n 0, 1) := by decide +kernel
theorem dJ13_bitCount_95d88_49 : decode cJ13_bitCount_95d88 49 = .ok (.lload_n 0, 1) := by decide +kernel
theorem dJ13_bitCount_95d88_50 : decode cJ13_bitCount_95d88 50 = .ok (.bipush 32, 2) := by decide +kernel
theorem dJ13_bitCount_95d88_52 : decode cJ13_bitCount_95d88 52 = .ok (.lushr, 1) := by decide +kernel
theorem dJ13_bitCount_95d88_53 : decode cJ13_bitCount_95d88 53 = .ok (.ladd, 1) := by decide +kernel
theorem dJ13_bitCount_95d88_54 : decode cJ13_bitCount_95d88 54 = .ok (.lstore_n 0, 1) := by decide +kernel
theorem dJ13_bitCount_95d88_55 : decode cJ13_bitCount_95d88 55 = .ok (.lload_n 0, 1) := by decide +kernel
theorem dJ13_bitCount_95d88_56 : decode cJ13_bitCount_95d88 56 = .ok (.l2i, 1) := by decide +kernel
theorem dJ13_bitCount_95d88_57 : decode cJ13_bitCount_95d88 57 = .ok (.bipush 127, 2) := by decide +kernel
theorem dJ13_bitCount_95d88_59 : decode cJ13_bitCount_95d88 59 = .ok (.iand, 1) := by decide +kernel
theorem dJ13_bitCount_95d88_60 : decode cJ13_bitCount_95d88 60 = .ok (.ireturn, 1) := by decide +kernel
theorem dJ9_max_7cf53_0 : decode cJ9_max_7cf53 0 = .ok (.iload_n 0, 1) := by decide +kernel
theorem dJ9_max_7cf53_1 : decode cJ9_max_7cf53 1 = .ok (.iload_n 1, 1) := by decide +kernel
theorem dJ9_max_7cf53_2 : decode cJ9_max_7cf53 2 = .ok (.if_icmp .lt 7, 3) := by decide +kernel
theorem dJ9_max_7cf53_5 : decode cJ9_max_7cf53 5 = .ok (.iload_n 0, 1) := by decide +kernel
theorem dJ9_max_7cf53_6 : decode cJ9_max_7cf53 6 = .ok (.goto 4, 3) := by decide +kernel
theorem dJ9_max_7cf53_9 : decode cJ9_max_7cf53 9 = .ok (.iload_n 1, 1) := by decide +kernel
theorem dJ9_max_7cf53_10 : decode cJ9_max_7cf53 10 = .ok (.ireturn, 1) := by decide +kernel
theorem dJ9_min_7cf53_0 : decode cJ9_min_7cf53 0 = .ok (.iload_n 0, 1) := by decide +kernel
theorem dJ9_min_7cf53_1 : decode cJ9_min_7cf53 1 = .ok (.iload_n 1, 1) := by decide +kernel
theorem dJ9_min_7cf53_2 : decode cJ9_min_7cf53 2 = .ok (.if_icmp .gt 7, 3) := by decide +kernel
theorem dJ9_min_7cf53_5 : decode cJ9_min_7cf53 5 = .ok (.iload_n 0, 1) := by decide +kernel
theorem dJ9_min_7cf53_6 : decode cJ9_min_7cf53 6 = .ok (.goto 4, 3) := by decide +kernel
theorem dJ9_min_7cf53_9 : decode cJ9_min_7cf53 9 = .ok (.iload_n 1, 1) := by decide +kernel
theorem dJ9_min_7cf53_10 : decode cJ9_min_7cf53 10 = .ok (.ireturn, 1) := by decide +kernel
theorem dJ7_fill_d0a16_0 : decode cJ7_fill_d0a16 0 = .ok (.iconst 0, 1) := by decide +kernel
theorem dJ7_fill_d0a16_1 : decode cJ7_fill_d0a16 1 = .ok (.istore_n 3, 1) := by decide +kernel
theorem dJ7_fill_d0a16_2 : decode cJ7_fill_d0a16 2 = .ok (.aload_n 0, 1) := by decide +kernel
theorem dJ7_fill_d0a16_3 : decode cJ7_fill_d0a16 3 = .ok (.arraylength, 1) := by decide +kernel
theorem dJ7_fill_d0a16_4 : decode cJ7_fill_d0a16 4 = .ok (.istore 4, 2) := by decide +kernel
theorem dJ7_fill_d0a16_6 : decode cJ7_fill_d0a16 6 = .ok (.iload_n 3, 1) := by decide +kernel
theorem dJ7_fill_d0a16_7 : decode cJ7_fill_d0a16 7 = .ok (.iload 4, 2) := by decide +kernel
theorem dJ7_fill_d0a16_9 : decode cJ7_fill_d0a16 9 = .ok (.if_icmp .ge 13, 3) := by decide +kernel
theorem dJ7_fill_d0a16_12 : decode cJ7_fill_d0a16 12 = .ok (.aload_n 0, 1) := by decide +kernel
theorem dJ7_fill_d0a16_13 : decode cJ7_fill_d0a16 13 = .ok (.iload_n 3, 1) := by decide +kernel
theorem dJ7_fill_d0a16_14 : decode cJ7_fill_d0a16 14 = .ok (.lload_n 1, 1) := by decide +kernel
theorem dJ7_fill_d0a16_15 : decode cJ7_fill_d0a16 15 = .ok (.lastore, 1) := by decide +kernel
theorem dJ7_fill_d0a16_16 : decode cJ7_fill_d0a16 16 = .ok (.iinc 3 1, 3) := by decide +kernel
theorem dJ7_fill_d0a16_19 : decode cJ7_fill_d0a16 19 = .ok (.goto (-13), 3) := by decide +kernel
theorem dJ7_fill_d0a16_22 : decode cJ7_fill_d0a16 22 = .ok (.return_, 1) := by decide +kernel
theorem dJ7_fill_53178_0 : decode cJ7_fill_53178 0 = .ok (.iconst 0, 1) := by decide +kernel
theorem dJ7_fill_53178_1 : decode cJ7_fill_53178 1 = .ok (.istore_n 2, 1) := by decide +kernel
theorem dJ7_fill_53178_2 : decode cJ7_fill_53178 2 = .ok (.aload_n 0, 1) := by decide +kernel
theorem dJ7_fill_53178_3 : decode cJ7_fill_53178 3 = .ok (.arraylength, 1) := by decide +kernel
theorem dJ7_fill_53178_4 : decode cJ7_fill_53178 4 = .ok (.istore_n 3, 1) := by decide +kernel
theorem dJ7_fill_53178_5 : decode cJ7_fill_53178 5 = .ok (.iload_n 2, 1) := by decide +kernel
theorem dJ7_fill_53178_6 : decode cJ7_fill_53178 6 = .ok (.iload_n 3, 1) := by decide +kernel
theorem dJ7_fill_53178_7 : decode cJ7_fill_53178 7 = .ok (.if_icmp .ge 13, 3) := by decide +kernel
theorem dJ7_fill_53178_10 : decode cJ7_fill_53178 10 = .ok (.aload_n 0, 1) := by decide +kernel
theorem dJ7_fill_53178_11 : decode cJ7_fill_53178 11 = .ok (.iload_n 2, 1) := by decide +kernel
theorem dJ7_fill_53178_12 : decode cJ7_fill_53178 12 = .ok (.iload_n 1, 1) := by decide +kernel
theorem dJ7_fill_53178_13 : decode cJ7_fill_53178 13 = .ok (.iastore, 1) := by decide +kernel
theorem dJ7_fill_53178_14 : decode cJ7_fill_53178 14 = .ok (.iinc 2 1, 3) := by decide +kernel
theorem dJ7_fill_53178_17 : decode cJ7_fill_53178 17 = .ok (.goto (-12), 3) := by decide +kernel
theorem dJ7_fill_53178_20 : decode cJ7_fill_53178 20 = .ok (.return_, 1) := by decide +kernel
theorem dJ7_copyOf_59c91_0 : decode cJ7_copyOf_59c91 0 = .ok (.iload_n 1, 1) := by decide +kernel
theorem dJ7_copyOf_59c91_1 : decode cJ7_copyOf_59c91 1 = .ok (.aload_n 0, 1) := by decide +kernel
theorem dJ7_copyOf_59c91_2 : decode cJ7_copyOf_59c91 2 = .ok (.arraylength, 1) := by decide +kernel
theorem dJ7_copyOf_59c91_3 : decode cJ7_copyOf_59c91 3 = .ok (.if_icmp .ne 11, 3) := by decide +kernel
theorem dJ7_copyOf_59c91_6 : decode cJ7_copyOf_59c91 6 = .ok (.aload_n 0, 1) := by decide +kernel
theorem dJ7_copyOf_59c91_7 : decode cJ7_copyOf_59c91 7 = .ok (.invokevirtual 316, 3) := by decide +kernel
theorem dJ7_copyOf_59c91_10 : decode cJ7_copyOf_59c91 10 = .ok (.checkcast 317, 3) := by decide +kernel
theorem dJ7_copyOf_59c91_13 : decode cJ7_copyOf_59c91 13 = .ok (.areturn, 1) := by decide +kernel
theorem dJ7_copyOf_59c91_14 : decode cJ7_copyOf_59c91 14 = .ok (.iload_n 1, 1) := by decide +kernel
theorem dJ7_copyOf_59c91_15 : decode cJ7_copyOf_59c91 15 = .ok (.newarray .int, 2) := by decide +kernel
theorem dJ7_copyOf_59c91_17 : decode cJ7_copyOf_59c91 17 = .ok (.astore_n 2, 1) := by decide +kernel
theorem dJ7_copyOf_59c91_18 : decode cJ7_copyOf_59c91 18 = .ok (.aload_n 0, 1) := by decide +kernel
theorem dJ7_copyOf_59c91_19 : decode cJ7_copyOf_59c91 19 = .ok (.iconst 0, 1) := by decide +kernel
theorem dJ7_copyOf_59c91_20 : decode cJ7_copyOf_59c91 20 = .ok (.aload_n 2, 1) := by decide +kernel
theorem dJ7_copyOf_59c91_21 : decode cJ7_copyOf_59c91 21 = .ok (.iconst 0, 1) := by decide +kernel
theorem dJ7_copyOf_59c91_22 : decode cJ7_copyOf_59c91 22 = .ok (.aload_n 0, 1) := by decide +kernel
theorem dJ7_copyOf_59c91_23 : decode cJ7_copyOf_59c91 23 = .ok (.arraylength, 1) := by decide +kernel
theorem dJ7_copyOf_59c91_24 : decode cJ7_copyOf_59c91 24 = .ok (.iload_n 1, 1) := by decide +kernel
theorem dJ7_copyOf_59c91_25 : decode cJ7_copyOf_59c91 25 = .ok (.invokestatic 304, 3) := by decide +kernel
theorem dJ7_copyOf_59c91_28 : decode cJ7_copyOf_59c91 28 = .ok (.invokestatic 150, 3) := by decide +kernel
theorem dJ7_copyOf_59c91_31 : decode cJ7_copyOf_59c91 31 = .ok (.aload_n 2, 1) := by decide +kernel
theorem dJ7_copyOf_59c91_32 : decode cJ7_copyOf_59c91 32 = .ok (.areturn, 1) := by decide +kernel
theorem dJ7_copyOf_c38d5_0 : decode cJ7_copyOf_c38d5 0 = .ok (.iload_n 1, 1) := by decide +kernel
theorem dJ7_copyOf_c38d5_1 : decode cJ7_copyOf_c38d5 1 = .ok (.aload_n 0, 1) := by decide +kernel
theorem dJ7_copyOf_c38d5_2 : decode cJ7_copyOf_c38d5 2 = .ok (.arraylength, 1) := by decide +kernel
theorem dJ7_copyOf_c38d5_3 : decode cJ7_copyOf_c38d5 3 = .ok (.if_icmp .ne 11, 3) := by decide +kernel
theorem dJ7_copyOf_c38d5_6 : decode cJ7_copyOf_c38d5 6 = .ok (.aload_n 0, 1) := by decide +kernel
theorem dJ7_copyOf_c38d5_7 : decode cJ7_copyOf_c38d5 7 = .ok (.invokevirtual 319, 3) := by decide +kernel
theorem dJ7_copyOf_c38d5_10 : decode cJ7_copyOf_c38d5 10 = .ok (.checkcast 320, 3) := by decide +kernel
theorem dJ7_copyOf_c38d5_13 : decode cJ7_copyOf_c38d5 13 = .ok (.areturn, 1) := by decide +kernel
theorem dJ7_copyOf_c38d5_14 : decode cJ7_copyOf_c38d5 14 = .ok (.iload_n 1, 1) := by decide +kernel
theorem dJ7_copyOf_c38d5_15 : decode cJ7_copyOf_c38d5 15 = .ok (.newarray .long, 2) := by decide +kernel
theorem dJ7_copyOf_c38d5_17 : decode cJ7_copyOf_c38d5 17 = .ok (.astore_n 2, 1) := by decide +kernel
theorem dJ7_copyOf_c38d5_18 : decode cJ7_copyOf_c38d5 18 = .ok (.aload_n 0, 1) := by decide +kernel
theorem dJ7_copyOf_c38d5_19 : decode cJ7_copyOf_c38d5 19 = .ok (.iconst 0, 1) := by decide +kernel
theorem dJ7_copyOf_c38d5_20 : decode cJ7_copyOf_c38d5 20 = .ok (.aload_n 2, 1) := by decide +kernel
theorem dJ7_copyOf_c38d5_21 : decode cJ7_copyOf_c38d5 21 = .ok (.iconst 0, 1) := by decide +kernel
theorem dJ7_copyOf_c38d5_22 : decode cJ7_copyOf_c38d5 22 = .ok (.aload_n 0, 1) := by decide +kernel
theorem dJ7_copyOf_c38d5_23 : decode cJ7_copyOf_c38d5 23 = .ok (.arraylength, 1) := by decide +kernel
theorem dJ7_copyOf_c38d5_24 : decode cJ7_copyOf_c38d5 24 = .ok (.iload_n 1, 1) := by decide +kernel
theorem dJ7_copyOf_c38d5_25 : decode cJ7_copyOf_c38d5 25 = .ok (.invokestatic 304, 3) := by decide +kernel
theorem dJ7_copyOf_c38d5_28 : decode cJ7_copyOf_c38d5 28 = .ok (.invokestatic 150, 3) := by decide +kernel
theorem dJ7_copyOf_c38d5_31 : decode cJ7_copyOf_c38d5 31 = .ok (.aload_n 2, 1) := by decide +kernel
theorem dJ7_copyOf_c38d5_32 : decode cJ7_copyOf_c38d5 32 = .ok (.areturn, 1) := by decide +kernel
theorem dX12_init_0 : decode cX12_init 0 = .ok (.aload_n 0, 1) := by decide +kernel
theorem dX12_init_1 : decode cX12_init 1 = .ok (.invokespecial 1, 3) := by decide +kernel
theorem dX12_init_4 : decode cX12_init 4 = .ok (.aload_n 0, 1) := by decide +kernel
theorem dX12_init_5 : decode cX12_init 5 = .ok (.sipush 15642, 3) := by decide +kernel
theorem dX12_init_8 : decode cX12_init 8 = .ok (.newarray .int, 2) := by decide +kernel
theorem dX12_init_10 : decode cX12_init 10 = .ok (.putfield 7, 3) := by decide +kernel
theorem dX12_init_13 : decode cX12_init 13 = .ok (.aload_n 0, 1) := by decide +kernel
theorem dX12_init_14 : decode cX12_init 14 = .ok (.sipush 15642, 3) := by decide +kernel
theorem dX12_init_17 : decode cX12_init 17 = .ok (.newarray .int, 2) := by decide +kernel
theorem dX12_init_19 : decode cX12_init 19 = .ok (.putfield 13, 3) := by decide +kernel
theorem dX12_init_22 : decode cX12_init 22 = .ok (.aload_n 0, 1) := by decide +kernel
theorem dX12_init_23 : decode cX12_init 23 = .ok (.iconst 5, 1) := by decide +kernel
theorem dX12_init_24 : decode cX12_init 24 = .ok (.newarray .int, 2) := by decide +kernel
theorem dX12_init_26 : decode cX12_init 26 = .ok (.putfield 16, 3) := by decide +kernel
theorem dX12_init_29 : decode cX12_init 29 = .ok (.aload_n 0, 1) := by decide +kernel
theorem dX12_init_30 : decode cX12_init 30 = .ok (.sipush 8000, 3) := by decide +kernel
theorem dX12_init_33 : decode cX12_init 33 = .ok (.newarray .char, 2) := by decide +kernel
theorem dX12_init_35 : decode cX12_init 35 = .ok (.putfield 19, 3) := by decide +kernel
theorem dX12_init_38 : decode cX12_init 38 = .ok (.aload_n 0, 1) := by decide +kernel
theorem dX12_init_39 : decode cX12_init 39 = .ok (.sipush 3600, 3) := by decide +kernel
theorem dX12_init_42 : decode cX12_init 42 = .ok (.newarray .int, 2) := by decide +kernel
theorem dX12_init_44 : decode cX12_init 44 = .ok (.putfield 23, 3) := by decide +kernel
theorem dX12_init_47 : decode cX12_init 47 = .ok (.aload_n 0, 1) := by decide +kernel
theorem dX12_init_48 : decode cX12_init 48 = .ok (.sipush 400, 3) := by decide +kernel
theorem dX12_init_51 : decode cX12_init 51 = .ok (.newarray .int, 2) := by decide +kernel
theorem dX12_init_53 : decode cX12_init 53 = .ok (.putfield 26, 3) := by decide +kernel
theorem dX12_init_56 : decode cX12_init 56 = .ok (.aload_n 0, 1) := by decide +kernel
theorem dX12_init_57 : decode cX12_init 57 = .ok (.bipush 20, 2) := by decide +kernel
theorem dX12_init_59 : decode cX12_init 59 = .ok (.newarray .boolean, 2) := by decide +kernel
theorem dX12_init_61 : decode cX12_init 61 = .ok (.putfield 29, 3) := by decide +kernel
theorem dX12_init_64 : decode cX12_init 64 = .ok (.aload_n 0, 1) := by decide +kernel
theorem dX12_init_65 : decode cX12_init 65 = .ok (.bipush 20, 2) := by decide +kernel
theorem dX12_init_67 : decode cX12_init 67 = .ok (.newarray .float, 2) := by decide +kernel
theorem dX12_init_69 : decode cX12_init 69 = .ok (.putfield 33, 3) := by decide +kernel
theorem dX12_init_72 : decode cX12_init 72 = .ok (.aload_n 0, 1) := by decide +kernel
theorem dX12_init_73 : decode cX12_init 73 = .ok (.sipush 150, 3) := by decide +kernel
theorem dX12_init_76 : decode cX12_init 76 = .ok (.newarray .int, 2) := by decide +kernel
theorem dX12_init_78 : decode cX12_init 78 = .ok (.putfield 37, 3) := by decide +kernel
theorem dX12_init_81 : decode cX12_init 81 = .ok (.aload_n 0, 1) := by decide +kernel
theorem dX12_init_82 : decode cX12_init 82 = .ok (.bipush 60, 2) := by decide +kernel
theorem dX12_init_84 : decode cX12_init 84 = .ok (.newarray .int, 2) := by decide +kernel
theorem dX12_init_86 : decode cX12_init 86 = .ok (.putfield 40, 3) := by decide +kernel
theorem dX12_init_89 : decode cX12_init 89 = .ok (.aload_n 0, 1) := by decide +kernel
theorem dX12_init_90 : decode cX12_init 90 = .ok (.bipush 60, 2) := by decide +kernel
theorem dX12_init_92 : decode cX12_init 92 = .ok (.newarray .boolean, 2) := by decide +kernel
theorem dX12_init_94 : decode cX12_init 94 = .ok (.putfield 43, 3) := by decide +kernel
theorem dX12_init_97 : decode cX12_init 97 = .ok (.aload_n 0, 1) := by decide +kernel
theorem dX12_init_98 : decode cX12_init 98 = .ok (.sipush 16384, 3) := by decide +kernel
theorem dX12_init_101 : decode cX12_init 101 = .ok (.newarray .int, 2) := by decide +kernel
theorem dX12_init_103 : decode cX12_init 103 = .ok (.putfield 46, 3) := by decide +kernel
theorem dX12_init_106 : decode cX12_init 106 = .ok (.aload_n 0, 1) := by decide +kernel
theorem dX12_init_107 : decode cX12_init 107 = .ok (.bipush 30, 2) := by decide +kernel
theorem dX12_init_109 : decode cX12_init 109 = .ok (.newarray .int, 2) := by decide +kernel
theorem dX12_init_111 : decode cX12_init 111 = .ok (.putfield 49, 3) := by decide +kernel
theorem dX12_init_114 : decode cX12_init 114 = .ok (.aload_n 0, 1) := by decide +kernel
theorem dX12_init_115 : decode cX12_init 115 = .ok (.bipush 30, 2) := by decide +kernel
theorem dX12_init_117 : decode cX12_init 117 = .ok (.newarray .int, 2) := by decide +kernel
theorem dX12_init_119 : decode cX12_init 119 = .ok (.putfield 52, 3) := by decide +kernel
theorem dX12_init_122 : decode cX12_init 122 = .ok (.aload_n 0, 1) := by decide +kernel
theorem dX12_init_123 : decode cX12_init 123 = .ok (.sipush 2000, 3) := by decide +kernel
theorem dX12_init_126 : decode cX12_init 126 = .ok (.newarray .int, 2) := by decide +kernel
theorem dX12_init_128 : decode cX12_init 128 = .ok (.putfield 55, 3) := by decide +kernel
theorem dX12_init_131 : decode cX12_init 131 = .ok (.aload_n 0, 1) := by decide +kernel
theorem dX12_init_132 : decode cX12_init 132 = .ok (.sipush 2000, 3) := by decide +kernel
theorem dX12_init_135 : decode cX12_init 135 = .ok (.newarray .int, 2) := by decide +kernel
theorem dX12_init_137 : decode cX12_init 137 = .ok (.putfield 58, 3) := by decide +kernel
theorem dX12_init_140 : decode cX12_init 140 = .ok (.aload_n 0, 1) := by decide +kernel
theorem dX12_init_141 : decode cX12_init 141 = .ok (.sipush 2000, 3) := by decide +kernel
theorem dX12_init_144 : decode cX12_init 144 = .ok (.newarray .int, 2) := by decide +kernel
theorem dX12_init_146 : decode cX12_init 146 = .ok (.putfield 61, 3) := by decide +kernel
theorem dX12_init_149 : decode cX12_init 149 = .ok (.aload_n 0, 1) := by decide +kernel
theorem dX12_init_150 : decode cX12_init 150 = .ok (.sipush 150, 3) := by decide +kernel
theorem dX12_init_153 : decode cX12_init 153 = .ok (.newarray .int, 2) := by decide +kernel
theorem dX12_init_155 : decode cX12_init 155 = .ok (.putfield 64, 3) := by decide +kernel
theorem dX12_init_158 : decode cX12_init 158 = .ok (.aload_n 0, 1) := by decide +kernel
theorem dX12_init_159 : decode cX12_init 159 = .ok (.bipush 12, 2) := by decide +kernel
theorem dX12_init_161 : decode cX12_init 161 = .ok (.newarray .int, 2) := by decide +kernel
theorem dX12_init_163 : decode cX12_init 163 = .ok (.putfield 67, 3) := by decide +kernel
theorem dX12_init_166 : decode cX12_init 166 = .ok (.aload_n 0, 1) := by decide +kernel
theorem dX12_init_167 : decode cX12_init 167 = .ok (.bipush 12, 2) := by decide +kernel
theorem dX12_init_169 : decode cX12_init 169 = .ok (.newarray .int, 2) := by decide +kernel
theorem dX12_init_171 : decode cX12_init 171 = .ok (.putfield 70, 3) := by decide +kernel
theorem dX12_init_174 : decode cX12_init 174 = .ok (.aload_n 0, 1) := by decide +kernel
theorem dX12_init_175 : decode cX12_init 175 = .ok (.bipush 12, 2) := by decide +kernel
theorem dX12_init_177 : decode cX12_init 177 = .ok (.newarray .int, 2) := by decide +kernel
theorem dX12_init_179 : decode cX12_init 179 = .ok (.putfield 73, 3) := by decide +kernel
theorem dX12_init_182 : decode cX12_init 182 = .ok (.iconst 0, 1) := by decide +kernel
theorem dX12_init_183 : decode cX12_init 183 = .ok (.istore_n 1, 1) := by decide +kernel
theorem dX12_init_184 : decode cX12_init 184 = .ok (.iload_n 1, 1) := by decide +kernel
theorem dX12_init_185 : decode cX12_init 185 = .ok (.bipush 60, 2) := by decide +kernel
theorem dX12_init_187 : decode cX12_init 187 = .ok (.if_icmp .ge 20, 3) := by decide +kernel
theorem dX12_init_190 : decode cX12_init 190 = .ok (.aload_n 0, 1) := by decide +kernel
theorem dX12_init_191 : decode cX12_init 191 = .ok (.getfield 7, 3) := by decide +kernel
theorem dX12_init_194 : decode cX12_init 194 = .ok (.sipush 9582, 3) := by decide +kernel
theorem dX12_init_197 : decode cX12_init 197 = .ok (.iload_n 1, 1) := by decide +kernel
theorem dX12_init_198 : decode cX12_init 198 = .ok (.iadd, 1) := by decide +kernel
theorem dX12_init_199 : decode cX12_init 199 = .ok (.iconst (-1), 1) := by decide +kernel
theorem dX12_init_200 : decode cX12_init 200 = .ok (.iastore, 1) := by decide +kernel
theorem dX12_init_201 : decode cX12_init 201 = .ok (.iinc 1 1, 3) := by decide +kernel
theorem dX12_init_204 : decode cX12_init 204 = .ok (.goto (-20), 3) := by decide +kernel
theorem dX12_init_207 : decode cX12_init 207 = .ok (.return_, 1) := by decide +kernel
theorem dX12_in_0 : decode cX12_in 0 = .ok (.iload_n 0, 1) := by decide +kernel
theorem dX12_in_1 : decode cX12_in 1 = .ok (.iload_n 1, 1) := by decide +kernel
theorem dX12_in_2 : decode cX12_in 2 = .ok (.if_icmp .lt 12, 3) := by decide +kernel
theorem dX12_in_5 : decode cX12_in 5 = .ok (.iload_n 0, 1) := by decide +kernel
theorem dX12_in_6 : decode cX12_in 6 = .ok (.iload_n 2, 1) := by decide +kernel
theorem dX12_in_7 : decode cX12_in 7 = .ok (.if_icmp .gt 7, 3) := by decide +kernel
theorem dX12_in_10 : decode cX12_in 10 = .ok (.iconst 1, 1) := by decide +kernel
theorem dX12_in_11 : decode cX12_in 11 = .ok (.goto 4, 3) := by decide +kernel
theorem dX12_in_14 : decode cX12_in 14 = .ok (.iconst 0, 1) := by decide +kernel
theorem dX12_in_15 : decode cX12_in 15 = .ok (.ireturn, 1) := by decide +kernel
theorem dX12_lesser_0 : decode cX12_lesser 0 = .ok (.iload_n 0, 1) := by decide +kernel
theorem dX12_lesser_1 : decode cX12_lesser 1 = .ok (.iload_n 1, 1) := by decide +kernel
theorem dX12_lesser_2 : decode cX12_lesser 2 = .ok (.if_icmp .ge 7, 3) := by decide +kernel
theorem dX12_lesser_5 : decode cX12_lesser 5 = .ok (.iload_n 0, 1) := by decide +kernel
theorem dX12_lesser_6 : decode cX12_lesser 6 = .ok (.goto 4, 3) := by decide +kernel
theorem dX12_lesser_9 : decode cX12_lesser 9 = .ok (.iload_n 1, 1) := by decide +kernel
theorem dX12_lesser_10 : decode cX12_lesser 10 = .ok (.ireturn, 1) := by decide +kernel
theorem dX12_refuses_0 : decode cX12_refuses 0 = .ok (.aload_n 0, 1) := by decide +kernel
theorem dX12_refuses_1 : decode cX12_refuses 1 = .ok (.iload_n 1, 1) := by decide +kernel
theorem dX12_refuses_2 : decode cX12_refuses 2 = .ok (.putfield 76, 3) := by decide +kernel
theorem dX12_refuses_5 : decode cX12_refuses 5 = .ok (.aload_n 0, 1) := by decide +kernel
theorem dX12_refuses_6 : decode cX12_refuses 6 = .ok (.iload_n 1, 1) := by decide +kernel
theorem dX12_refuses_7 : decode cX12_refuses 7 = .ok (.invokevirtual 80, 3) := by decide +kernel
theorem dX12_refuses_10 : decode cX12_refuses 10 = .ok (.iload_n 1, 1) := by decide +kernel
theorem dX12_refuses_11 : decode cX12_refuses 11 = .ok (.ireturn, 1) := by decide +kernel
theorem dX12_finds_0 : decode cX12_finds 0 = .ok (.iload_n 1, 1) := by decide +kernel
theorem dX12_finds_1 : decode cX12_finds 1 = .ok (.bipush (-4), 2) := by decide +kernel
theorem dX12_finds_3 : decode cX12_finds 3 = .ok (.if_icmp .gt 25, 3) := by decide +kernel
theorem dX12_finds_6 : decode cX12_finds 6 = .ok (.iload_n 1, 1) := by decide +kernel
theorem dX12_finds_7 : decode cX12_finds 7 = .ok (.bipush (-7), 2) := by decide +kernel
theorem dX12_finds_9 : decode cX12_finds 9 = .ok (.if_icmp .lt 19, 3) := by decide +kernel
theorem dX12_finds_12 : decode cX12_finds 12 = .ok (.aload_n 0, 1) := by decide +kernel
theorem dX12_finds_13 : decode cX12_finds 13 = .ok (.getfield 16, 3) := by decide +kernel
theorem dX12_finds_16 : decode cX12_finds 16 = .ok (.bipush (-4), 2) := by decide +kernel
theorem dX12_finds_18 : decode cX12_finds 18 = .ok (.iload_n 1, 1) := by decide +kernel
theorem dX12_finds_19 : decode cX12_finds 19 = .ok (.isub, 1) := by decide +kernel
theorem dX12_finds_20 : decode cX12_finds 20 = .ok (.dup2, 1) := by decide +kernel
theorem dX12_finds_21 : decode cX12_finds 21 = .ok (.iaload, 1) := by decide +kernel
theorem dX12_finds_22 : decode cX12_finds 22 = .ok (.iconst 1, 1) := by decide +kernel
theorem dX12_finds_23 : decode cX12_finds 23 = .ok (.iadd, 1) := by decide +kernel
theorem dX12_finds_24 : decode cX12_finds 24 = .ok (.iastore, 1) := by decide +kernel
theorem dX12_finds_25 : decode cX12_finds 25 = .ok (.goto 19, 3) := by decide +kernel
theorem dX12_finds_28 : decode cX12_finds 28 = .ok (.iload_n 1, 1) := by decide +kernel
theorem dX12_finds_29 : decode cX12_finds 29 = .ok (.bipush (-9), 2) := by decide +kernel
theorem dX12_finds_31 : decode cX12_finds 31 = .ok (.if_icmp .ne 13, 3) := by decide +kernel
theorem dX12_finds_34 : decode cX12_finds 34 = .ok (.aload_n 0, 1) := by decide +kernel
theorem dX12_finds_35 : decode cX12_finds 35 = .ok (.getfield 16, 3) := by decide +kernel
theorem dX12_finds_38 : decode cX12_finds 38 = .ok (.iconst 4, 1) := by decide +kernel
theorem dX12_finds_39 : decode cX12_finds 39 = .ok (.dup2, 1) := by decide +kernel
theorem dX12_finds_40 : decode cX12_finds 40 = .ok (.iaload, 1) := by decide +kernel
theorem dX12_finds_41 : decode cX12_finds 41 = .ok (.iconst 1, 1) := by decide +kernel
theorem dX12_finds_42 : decode cX12_finds 42 = .ok (.iadd, 1) := by decide +kernel
theorem dX12_finds_43 : decode cX12_finds 43 = .ok (.iastore, 1) := by decide +kernel
theorem dX12_finds_44 : decode cX12_finds 44 = .ok (.return_, 1) := by decide +kernel
theorem dX12_says_0 : decode cX12_says 0 = .ok (.aload_n 0, 1) := by decide +kernel
theorem dX12_says_1 : decode cX12_says 1 = .ok (.iconst 0, 1) := by decide +kernel
theorem dX12_says_2 : decode cX12_says 2 = .ok (.putfield 76, 3) := by decide +kernel
theorem dX12_says_5 : decode cX12_says 5 = .ok (.iload_n 1, 1) := by decide +kernel
theorem dX12_says_6 : decode cX12_says 6 = .ok (.ireturn, 1) := by decide +kernel
theorem dX12_keeps_0 : decode cX12_keeps 0 = .ok (.iconst 0, 1) := by decide +kernel
theorem dX12_keeps_1 : decode cX12_keeps 1 = .ok (.istore_n 1, 1) := by decide +kernel
theorem dX12_keeps_2 : decode cX12_keeps 2 = .ok (.iload_n 1, 1) := by decide +kernel
theorem dX12_keeps_3 : decode cX12_keeps 3 = .ok (.sipush 15642, 3) := by decide +kernel
theorem dX12_keeps_6 : decode cX12_keeps 6 = .ok (.if_icmp .ge 21, 3) := by decide +kernel
theorem dX12_keeps_9 : decode cX12_keeps 9 = .ok (.aload_n 0, 1) := by decide +kernel
theorem dX12_keeps_10 : decode cX12_keeps 10 = .ok (.getfield 13, 3) := by decide +kernel
theorem dX12_keeps_13 : decode cX12_keeps 13 = .ok (.iload_n 1, 1) := by decide +kernel
theorem dX12_keeps_14 : decode cX12_keeps 14 = .ok (.aload_n 0, 1) := by decide +kernel
theorem dX12_keeps_15 : decode cX12_keeps 15 = .ok (.getfield 7, 3) := by decide +kernel
theorem dX12_keeps_18 : decode cX12_keeps 18 = .ok (.iload_n 1, 1) := by decide +kernel
theorem dX12_keeps_19 : decode cX12_keeps 19 = .ok (.iaload, 1) := by decide +kernel
theorem dX12_keeps_20 : decode cX12_keeps 20 = .ok (.iastore, 1) := by decide +kernel
theorem dX12_keeps_21 : decode cX12_keeps 21 = .ok (.iinc 1 1, 3) := by decide +kernel
theorem dX12_keeps_24 : decode cX12_keeps 24 = .ok (.goto (-22), 3) := by decide +kernel
theorem dX12_keeps_27 : decode cX12_keeps 27 = .ok (.aload_n 0, 1) := by decide +kernel
theorem dX12_keeps_28 : decode cX12_keeps 28 = .ok (.iconst 1, 1) := by decide +kernel
theorem dX12_keeps_29 : decode cX12_keeps 29 = .ok (.putfield 84, 3) := by decide +kernel
theorem dX12_keeps_32 : decode cX12_keeps 32 = .ok (.return_, 1) := by decide +kernel
theorem dX12_isCrossing_0 : decode cX12_isCrossing 0 = .ok (.iload_n 1, 1) := by decide +kernel
theorem dX12_isCrossing_1 : decode cX12_isCrossing 1 = .ok (.iconst 0, 1) := by decide +kernel
theorem dX12_isCrossing_2 : decode cX12_isCrossing 2 = .ok (.aload_n 0, 1) := by decide +kernel
theorem dX12_isCrossing_3 : decode cX12_isCrossing 3 = .ok (.getfield 7, 3) := by decide +kernel
theorem dX12_isCrossing_6 : decode cX12_isCrossing 6 = .ok (.iconst 0, 1) := by decide +kernel
theorem dX12_isCrossing_7 : decode cX12_isCrossing 7 = .ok (.iaload, 1) := by decide +kernel
theorem dX12_isCrossing_8 : decode cX12_isCrossing 8 = .ok (.iconst 1, 1) := by decide +kernel
theorem dX12_isCrossing_9 : decode cX12_isCrossing 9 = .ok (.isub, 1) := by decide +kernel
theorem dX12_isCrossing_10 : decode cX12_isCrossing 10 = .ok (.invokestatic 88, 3) := by decide +kernel
theorem dX12_isCrossing_13 : decode cX12_isCrossing 13 = .ok (.ireturn, 1) := by decide +kernel
theorem dX12_isStreet_0 : decode cX12_isStreet 0 = .ok (.iload_n 1, 1) := by decide +kernel
theorem dX12_isStreet_1 : decode cX12_isStreet 1 = .ok (.iconst 0, 1) := by decide +kernel
theorem dX12_isStreet_2 : decode cX12_isStreet 2 = .ok (.aload_n 0, 1) := by decide +kernel
theorem dX12_isStreet_3 : decode cX12_isStreet 3 = .ok (.getfield 7, 3) := by decide +kernel
theorem dX12_isStreet_6 : decode cX12_isStreet 6 = .ok (.iconst 1, 1) := by decide +kernel
theorem dX12_isStreet_7 : decode cX12_isStreet 7 = .ok (.iaload, 1) := by decide +kernel
theorem dX12_isStreet_8 : decode cX12_isStreet 8 = .ok (.iconst 1, 1) := by decide +kernel
theorem dX12_isStreet_9 : decode cX12_isStreet 9 = .ok (.isub, 1) := by decide +kernel
theorem dX12_isStreet_10 : decode cX12_isStreet 10 = .ok (.invokestatic 88, 3) := by decide +kernel
theorem dX12_isStreet_13 : decode cX12_isStreet 13 = .ok (.ireturn, 1) := by decide +kernel
theorem dX12_isGauge_0 : decode cX12_isGauge 0 = .ok (.iload_n 1, 1) := by decide +kernel
theorem dX12_isGauge_1 : decode cX12_isGauge 1 = .ok (.iconst 0, 1) := by decide +kernel
theorem dX12_isGauge_2 : decode cX12_isGauge 2 = .ok (.aload_n 0, 1) := by decide +kernel
theorem dX12_isGauge_3 : decode cX12_isGauge 3 = .ok (.getfield 7, 3) := by decide +kernel
theorem dX12_isGauge_6 : decode cX12_isGauge 6 = .ok (.iconst 2, 1) := by decide +kernel
theorem dX12_isGauge_7 : decode cX12_isGauge 7 = .ok (.iaload, 1) := by decide +kernel
theorem dX12_isGauge_8 : decode cX12_isGauge 8 = .ok (.iconst 1, 1) := by decide +kernel
theorem dX12_isGauge_9 : decode cX12_isGauge 9 = .ok (.isub, 1) := by decide +kernel
theorem dX12_isGauge_10 : decode cX12_isGauge 10 = .ok (.invokestatic 88, 3) := by decide +kernel
theorem dX12_isGauge_13 : decode cX12_isGauge 13 = .ok (.ireturn, 1) := by decide +kernel
theorem dX12_isPlough_0 : decode cX12_isPlough 0 = .ok (.iload_n 1, 1) := by decide +kernel
theorem dX12_isPlough_1 : decode cX12_isPlough 1 = .ok (.iconst 0, 1) := by decide +kernel
theorem dX12_isPlough_2 : decode cX12_isPlough 2 = .ok (.aload_n 0, 1) := by decide +kernel
theorem dX12_isPlough_3 : decode cX12_isPlough 3 = .ok (.getfield 7, 3) := by decide +kernel
theorem dX12_isPlough_6 : decode cX12_isPlough 6 = .ok (.iconst 3, 1) := by decide +kernel
theorem dX12_isPlough_7 : decode cX12_isPlough 7 = .ok (.iaload, 1) := by decide +kernel
theorem dX12_isPlough_8 : decode cX12_isPlough 8 = .ok (.iconst 1, 1) := by decide +kernel
theorem dX12_isPlough_9 : decode cX12_isPlough 9 = .ok (.isub, 1) := by decide +kernel
theorem dX12_isPlough_10 : decode cX12_isPlough 10 = .ok (.invokestatic 88, 3) := by decide +kernel
theorem dX12_isPlough_13 : decode cX12_isPlough 13 = .ok (.ireturn, 1) := by decide +kernel
theorem dX12_st_0 : decode cX12_st 0 = .ok (.bipush 16, 2) := by decide +kernel
theorem dX12_st_2 : decode cX12_st 2 = .ok (.bipush 9, 2) := by decide +kernel
theorem dX12_st_4 : decode cX12_st 4 = .ok (.iload_n 1, 1) := by decide +kernel
theorem dX12_st_5 : decode cX12_st 5 = .ok (.imul, 1) := by decide +kernel
theorem dX12_st_6 : decode cX12_st 6 = .ok (.iadd, 1) := by decide +kernel
theorem dX12_st_7 : decode cX12_st 7 = .ok (.ireturn, 1) := by decide +kernel
theorem dX12_ga_0 : decode cX12_ga 0 = .ok (.sipush 1366, 3) := by decide +kernel
theorem dX12_ga_3 : decode cX12_ga 3 = .ok (.iconst 3, 1) := by decide +kernel
theorem dX12_ga_4 : decode cX12_ga 4 = .ok (.iload_n 1, 1) := by decide +kernel
theorem dX12_ga_5 : decode cX12_ga 5 = .ok (.imul, 1) := by decide +kernel
theorem dX12_ga_6 : decode cX12_ga 6 = .ok (.iadd, 1) := by decide +kernel
theorem dX12_ga_7 : decode cX12_ga 7 = .ok (.ireturn, 1) := by decide +kernel
theorem dX12_pl_0 : decode cX12_pl 0 = .ok (.sipush 9426, 3) := by decide +kernel
theorem dX12_pl_3 : decode cX12_pl 3 = .ok (.bipush 13, 2) := by decide +kernel
theorem dX12_pl_5 : decode cX12_pl 5 = .ok (.iload_n 1, 1) := by decide +kernel
theorem dX12_pl_6 : decode cX12_pl 6 = .ok (.imul, 1) := by decide +kernel
theorem dX12_pl_7 : decode cX12_pl 7 = .ok (.iadd, 1) := by decide +kernel
theorem dX12_pl_8 : decode cX12_pl 8 = .ok (.ireturn, 1) := by decide +kernel
theorem dX12_crossings_0 : decode cX12_crossings 0 = .ok (.iload_n 1, 1) := by decide +kernel
theorem dX12_crossings_1 : decode cX12_crossings 1 = .ok (.iconst 1, 1) := by decide +kernel
theorem dX12_crossings_2 : decode cX12_crossings 2 = .ok (.bipush 20, 2) := by decide +kernel
theorem dX12_crossings_4 : decode cX12_crossings 4 = .ok (.invokestatic 88, 3) := by decide +kernel
theorem dX12_crossings_7 : decode cX12_crossings 7 = .ok (.ifCond .ne 10, 3) := by decide +kernel
theorem dX12_crossings_10 : decode cX12_crossings 10 = .ok (.aload_n 0, 1) := by decide +kernel
theorem dX12_crossings_11 : decode cX12_crossings 11 = .ok (.bipush (-2), 2) := by decide +kernel
theorem dX12_crossings_13 : decode cX12_crossings 13 = .ok (.invokevirtual 92, 3) := by decide +kernel
theorem dX12_crossings_16 : decode cX12_crossings 16 = .ok (.ireturn, 1) := by decide +kernel
theorem dX12_crossings_17 : decode cX12_crossings 17 = .ok (.aload_n 0, 1) := by decide +kernel
theorem dX12_crossings_18 : decode cX12_crossings 18 = .ok (.getfield 7, 3) := by decide +kernel
theorem dX12_crossings_21 : decode cX12_crossings 21 = .ok (.iconst 0, 1) := by decide +kernel
theorem dX12_crossings_22 : decode cX12_crossings 22 = .ok (.iaload, 1) := by decide +kernel
theorem dX12_crossings_23 : decode cX12_crossings 23 = .ok (.iload_n 1, 1) := by decide +kernel
theorem dX12_crossings_24 : decode cX12_crossings 24 = .ok (.iadd, 1) := by decide +kernel
theorem dX12_crossings_25 : decode cX12_crossings 25 = .ok (.bipush 60, 2) := by decide +kernel
theorem dX12_crossings_27 : decode cX12_crossings 27 = .ok (.if_icmp .le 10, 3) := by decide +kernel
theorem dX12_crossings_30 : decode cX12_crossings 30 = .ok (.aload_n 0, 1) := by decide +kernel
theorem dX12_crossings_31 : decode cX12_crossings 31 = .ok (.bipush (-3), 2) := by decide +kernel
theorem dX12_crossings_33 : decode cX12_crossings 33 = .ok (.invokevirtual 92, 3) := by decide +kernel
theorem dX12_crossings_36 : decode cX12_crossings 36 = .ok (.ireturn, 1) := by decide +kernel
theorem dX12_crossings_37 : decode cX12_crossings 37 = .ok (.aload_n 0, 1) := by decide +kernel
theorem dX12_crossings_38 : decode cX12_crossings 38 = .ok (.invokevirtual 96, 3) := by decide +kernel
theorem dX12_crossings_41 : decode cX12_crossings 41 = .ok (.aload_n 0, 1) := by decide +kernel
theorem dX12_crossings_42 : decode cX12_crossings 42 = .ok (.iconst 0, 1) := by decide +kernel
theorem dX12_crossings_43 : decode cX12_crossings 43 = .ok (.putfield 99, 3) := by decide +kernel
theorem dX12_crossings_46 : decode cX12_crossings 46 = .ok (.aload_n 0, 1) := by decide +kernel
theorem dX12_crossings_47 : decode cX12_crossings 47 = .ok (.getfield 7, 3) := by decide +kernel
theorem dX12_crossings_50 : decode cX12_crossings 50 = .ok (.iconst 0, 1) := by decide +kernel
theorem dX12_crossings_51 : decode cX12_crossings 51 = .ok (.dup2, 1) := by decide +kernel
theorem dX12_crossings_52 : decode cX12_crossings 52 = .ok (.iaload, 1) := by decide +kernel
theorem dX12_crossings_53 : decode cX12_crossings 53 = .ok (.iload_n 1, 1) := by decide +kernel
theorem dX12_crossings_54 : decode cX12_crossings 54 = .ok (.iadd, 1) := by decide +kernel
theorem dX12_crossings_55 : decode cX12_crossings 55 = .ok (.iastore, 1) := by decide +kernel
theorem dX12_crossings_56 : decode cX12_crossings 56 = .ok (.aload_n 0, 1) := by decide +kernel
theorem dX12_crossings_57 : decode cX12_crossings 57 = .ok (.aload_n 0, 1) := by decide +kernel
theorem dX12_crossings_58 : decode cX12_crossings 58 = .ok (.getfield 7, 3) := by decide +kernel
theorem dX12_crossings_61 : decode cX12_crossings 61 = .ok (.iconst 0, 1) := by decide +kernel
theorem dX12_crossings_62 : decode cX12_crossings 62 = .ok (.iaload, 1) := by decide +kernel
theorem dX12_crossings_63 : decode cX12_crossings 63 = .ok (.invokevirtual 102, 3) := by decide +kernel
theorem dX12_crossings_66 : decode cX12_crossings 66 = .ok (.ireturn, 1) := by decide +kernel
theorem dX12_street_0 : decode cX12_street 0 = .ok (.aload_n 0, 1) := by decide +kernel
theorem dX12_street_1 : decode cX12_street 1 = .ok (.iload_n 1, 1) := by decide +kernel
theorem dX12_street_2 : decode cX12_street 2 = .ok (.invokevirtual 105, 3) := by decide +kernel
theorem dX12_street_5 : decode cX12_street 5 = .ok (.ifCond .eq 27, 3) := by decide +kernel
theorem dX12_street_8 : decode cX12_street 8 = .ok (.aload_n 0, 1) := by decide +kernel
theorem dX12_street_9 : decode cX12_street 9 = .ok (.iload_n 2, 1) := by decide +kernel
theorem dX12_street_10 : decode cX12_street 10 = .ok (.invokevirtual 105, 3) := by decide +kernel
theorem dX12_street_13 : decode cX12_street 13 = .ok (.ifCond .eq 19, 3) := by decide +kernel
theorem dX12_street_16 : decode cX12_street 16 = .ok (.iload_n 1, 1) := by decide +kernel
theorem dX12_street_17 : decode cX12_street 17 = .ok (.iload_n 2, 1) := by decide +kernel
theorem dX12_street_18 : decode cX12_street 18 = .ok (.if_icmp .eq 14, 3) := by decide +kernel
theorem dX12_street_21 : decode cX12_street 21 = .ok (.iload_n 3, 1) := by decide +kernel
theorem dX12_street_22 : decode cX12_street 22 = .ok (.iconst 1, 1) := by decide +kernel
theorem dX12_street_23 : decode cX12_street 23 = .ok (.sipush 10000, 3) := by decide +kernel
theorem dX12_street_26 : decode cX12_street 26 = .ok (.invokestatic 88, 3) := by decide +kernel
theorem dX12_street_29 : decode cX12_street 29 = .ok (.ifCond .ne 10, 3) := by decide +kernel
theorem dX12_street_32 : decode cX12_street 32 = .ok (.aload_n 0, 1) := by decide +kernel
theorem dX12_street_33 : decode cX12_street 33 = .ok (.bipush (-2), 2) := by decide +kernel
theorem dX12_street_35 : decode cX12_street 35 = .ok (.invokevirtual 92, 3) := by decide +kernel
theorem dX12_street_38 : decode cX12_street 38 = .ok (.ireturn, 1) := by decide +kernel
theorem dX12_street_39 : decode cX12_street 39 = .ok (.aload_n 0, 1) := by decide +kernel
theorem dX12_street_40 : decode cX12_street 40 = .ok (.getfield 7, 3) := by decide +kernel
theorem dX12_street_43 : decode cX12_street 43 = .ok (.iconst 1, 1) := by decide +kernel
theorem dX12_street_44 : decode cX12_street 44 = .ok (.iaload, 1) := by decide +kernel
theorem dX12_street_45 : decode cX12_street 45 = .ok (.sipush 150, 3) := by decide +kernel
theorem dX12_street_48 : decode cX12_street 48 = .ok (.if_icmp .ne 10, 3) := by decide +kernel
theorem dX12_street_51 : decode cX12_street 51 = .ok (.aload_n 0, 1) := by decide +kernel
theorem dX12_street_52 : decode cX12_street 52 = .ok (.bipush (-3), 2) := by decide +kernel
theorem dX12_street_54 : decode cX12_street 54 = .ok (.invokevirtual 92, 3) := by decide +kernel
theorem dX12_street_57 : decode cX12_street 57 = .ok (.ireturn, 1) := by decide +kernel
theorem dX12_street_58 : decode cX12_street 58 = .ok (.aload_n 0, 1) := by decide +kernel
theorem dX12_street_59 : decode cX12_street 59 = .ok (.invokevirtual 96, 3) := by decide +kernel
theorem dX12_street_62 : decode cX12_street 62 = .ok (.aload_n 0, 1) := by decide +kernel
theorem dX12_street_63 : decode cX12_street 63 = .ok (.iconst 0, 1) := by decide +kernel
theorem dX12_street_64 : decode cX12_street 64 = .ok (.putfield 99, 3) := by decide +kernel
theorem dX12_street_67 : decode cX12_street 67 = .ok (.aload_n 0, 1) := by decide +kernel
theorem dX12_street_68 : decode cX12_street 68 = .ok (.aload_n 0, 1) := by decide +kernel
theorem dX12_street_69 : decode cX12_street 69 = .ok (.getfield 7, 3) := by decide +kernel
theorem dX12_street_72 : decode cX12_street 72 = .ok (.iconst 1, 1) := by decide +kernel
theorem dX12_street_73 : decode cX12_street 73 = .ok (.iaload, 1) := by decide +kernel
theorem dX12_street_74 : decode cX12_street 74 = .ok (.invokevirtual 109, 3) := by decide +kernel
theorem dX12_street_77 : decode cX12_street 77 = .ok (.istore 5, 2) := by decide +kernel
theorem dX12_street_79 : decode cX12_street 79 = .ok (.aload_n 0, 1) := by decide +kernel
theorem dX12_street_80 : decode cX12_street 80 = .ok (.getfield 7, 3) := by decide +kernel
theorem dX12_street_83 : decode cX12_street 83 = .ok (.iload 5, 2) := by decide +kernel
theorem dX12_street_85 : decode cX12_street 85 = .ok (.iconst 0, 1) := by decide +kernel
theorem dX12_street_86 : decode cX12_street 86 = .ok (.iadd, 1) := by decide +kernel
theorem dX12_street_87 : decode cX12_street 87 = .ok (.iconst 0, 1) := by decide +kernel
theorem dX12_street_88 : decode cX12_street 88 = .ok (.iastore, 1) := by decide +kernel
theorem dX12_street_89 : decode cX12_street 89 = .ok (.aload_n 0, 1) := by decide +kernel
theorem dX12_street_90 : decode cX12_street 90 = .ok (.getfield 7, 3) := by decide +kernel
theorem dX12_street_93 : decode cX12_street 93 = .ok (.iload 5, 2) := by decide +kernel
theorem dX12_street_95 : decode cX12_street 95 = .ok (.iconst 1, 1) := by decide +kernel
theorem dX12_street_96 : decode cX12_street 96 = .ok (.iadd, 1) := by decide +kernel
theorem dX12_street_97 : decode cX12_street 97 = .ok (.iconst 0, 1) := by decide +kernel
theorem dX12_street_98 : decode cX12_street 98 = .ok (.iastore, 1) := by decide +kernel
theorem dX12_street_99 : decode cX12_street 99 = .ok (.aload_n 0, 1) := by decide +kernel
theorem dX12_street_100 : decode cX12_street 100 = .ok (.getfield 7, 3) := by decide +kernel
theorem dX12_street_103 : decode cX12_street 103 = .ok (.iload 5, 2) := by decide +kernel
theorem dX12_street_105 : decode cX12_street 105 = .ok (.iconst 2, 1) := by decide +kernel
theorem dX12_street_106 : decode cX12_street 106 = .ok (.iadd, 1) := by decide +kernel
theorem dX12_street_107 : decode cX12_street 107 = .ok (.iconst 0, 1) := by decide +kernel
theorem dX12_street_108 : decode cX12_street 108 = .ok (.iastore, 1) := by decide +kernel
theorem dX12_street_109 : decode cX12_street 109 = .ok (.aload_n 0, 1) := by decide +kernel
theorem dX12_street_110 : decode cX12_street 110 = .ok (.getfield 7, 3) := by decide +kernel
theorem dX12_street_113 : decode cX12_street 113 = .ok (.iload 5, 2) := by decide +kernel
theorem dX12_street_115 : decode cX12_street 115 = .ok (.iconst 3, 1) := by decide +kernel
theorem dX12_street_116 : decode cX12_street 116 = .ok (.iadd, 1) := by decide +kernel
theorem dX12_street_117 : decode cX12_street 117 = .ok (.iconst 1, 1) := by decide +kernel
theorem dX12_street_118 : decode cX12_street 118 = .ok (.iastore, 1) := by decide +kernel
theorem dX12_street_119 : decode cX12_street 119 = .ok (.aload_n 0, 1) := by decide +kernel
theorem dX12_street_120 : decode cX12_street 120 = .ok (.getfield 7, 3) := by decide +kernel
theorem dX12_street_123 : decode cX12_street 123 = .ok (.iload 5, 2) := by decide +kernel
theorem dX12_street_125 : decode cX12_street 125 = .ok (.iconst 4, 1) := by decide +kernel
theorem dX12_street_126 : decode cX12_street 126 = .ok (.iadd, 1) := by decide +kernel
theorem dX12_street_127 : decode cX12_street 127 = .ok (.iconst 0, 1) := by decide +kernel
theorem dX12_street_128 : decode cX12_street 128 = .ok (.iastore, 1) := by decide +kernel
theorem dX12_street_129 : decode cX12_street 129 = .ok (.aload_n 0, 1) := by decide +kernel
theorem dX12_street_130 : decode cX12_street 130 = .ok (.getfield 7, 3) := by decide +kernel
theorem dX12_street_133 : decode cX12_street 133 = .ok (.iload 5, 2) := by decide +kernel
theorem dX12_street_135 : decode cX12_street 135 = .ok (.iconst 5, 1) := by decide +kernel
theorem dX12_street_136 : decode cX12_street 136 = .ok (.iadd, 1) := by decide +kernel
theorem dX12_street_137 : decode cX12_street 137 = .ok (.iload 4, 2) := by decide +kernel
theorem dX12_street_139 : decode cX12_street 139 = .ok (.ifCond .eq 7, 3) := by decide +kernel
theorem dX12_street_142 : decode cX12_street 142 = .ok (.iconst 1, 1) := by decide +kernel
theorem dX12_street_143 : decode cX12_street 143 = .ok (.goto 4, 3) := by decide +kernel
theorem dX12_street_146 : decode cX12_street 146 = .ok (.iconst 0, 1) := by decide +kernel
theorem dX12_street_147 : decode cX12_street 147 = .ok (.iastore, 1) := by decide +kernel
theorem dX12_street_148 : decode cX12_street 148 = .ok (.aload_n 0, 1) := by decide +kernel
theorem dX12_street_149 : decode cX12_street 149 = .ok (.getfield 7, 3) := by decide +kernel
theorem dX12_street_152 : decode cX12_street 152 = .ok (.iload 5, 2) := by decide +kernel
theorem dX12_street_154 : decode cX12_street 154 = .ok (.bipush 6, 2) := by decide +kernel
theorem dX12_street_156 : decode cX12_street 156 = .ok (.iadd, 1) := by decide +kernel
theorem dX12_street_157 : decode cX12_street 157 = .ok (.iload_n 3, 1) := by decide +kernel
theorem dX12_street_158 : decode cX12_street 158 = .ok (.iastore, 1) := by decide +kernel
theorem dX12_street_159 : decode cX12_street 159 = .ok (.aload_n 0, 1) := by decide +kernel
theorem dX12_street_160 : decode cX12_street 160 = .ok (.getfield 7, 3) := by decide +kernel
theorem dX12_street_163 : decode cX12_street 163 = .ok (.iload 5, 2) := by decide +kernel
theorem dX12_street_165 : decode cX12_street 165 = .ok (.bipush 7, 2) := by decide +kernel
theorem dX12_street_167 : decode cX12_street 167 = .ok (.iadd, 1) := by decide +kernel
theorem dX12_street_168 : decode cX12_street 168 = .ok (.iload_n 1, 1) := by decide +kernel
theorem dX12_street_169 : decode cX12_street 169 = .ok (.iastore, 1) := by decide +kernel
theorem dX12_street_170 : decode cX12_street 170 = .ok (.aload_n 0, 1) := by decide +kernel
theorem dX12_street_171 : decode cX12_street 171 = .ok (.getfield 7, 3) := by decide +kernel
theorem dX12_street_174 : decode cX12_street 174 = .ok (.iload 5, 2) := by decide +kernel
theorem dX12_street_176 : decode cX12_street 176 = .ok (.bipush 8, 2) := by decide +kernel
theorem dX12_street_178 : decode cX12_street 178 = .ok (.iadd, 1) := by decide +kernel
theorem dX12_street_179 : decode cX12_street 179 = .ok (.iload_n 2, 1) := by decide +kernel
theorem dX12_street_180 : decode cX12_street 180 = .ok (.iastore, 1) := by decide +kernel
theorem dX12_street_181 : decode cX12_street 181 = .ok (.aload_n 0, 1) := by decide +kernel
theorem dX12_street_182 : decode cX12_street 182 = .ok (.getfield 7, 3) := by decide +kernel
theorem dX12_street_185 : decode cX12_street 185 = .ok (.iconst 1, 1) := by decide +kernel
theorem dX12_street_186 : decode cX12_street 186 = .ok (.dup2, 1) := by decide +kernel
theorem dX12_street_187 : decode cX12_street 187 = .ok (.iaload, 1) := by decide +kernel
theorem dX12_street_188 : decode cX12_street 188 = .ok (.iconst 1, 1) := by decide +kernel
theorem dX12_street_189 : decode cX12_street 189 = .ok (.iadd, 1) := by decide +kernel
theorem dX12_street_190 : decode cX12_street 190 = .ok (.iastore, 1) := by decide +kernel
theorem dX12_street_191 : decode cX12_street 191 = .ok (.aload_n 0, 1) := by decide +kernel
theorem dX12_street_192 : decode cX12_street 192 = .ok (.aload_n 0, 1) := by decide +kernel
theorem dX12_street_193 : decode cX12_street 193 = .ok (.getfield 7, 3) := by decide +kernel
theorem dX12_street_196 : decode cX12_street 196 = .ok (.iconst 1, 1) := by decide +kernel
theorem dX12_street_197 : decode cX12_street 197 = .ok (.iaload, 1) := by decide +kernel
theorem dX12_street_198 : decode cX12_street 198 = .ok (.iconst 1, 1) := by decide +kernel
theorem dX12_street_199 : decode cX12_street 199 = .ok (.isub, 1) := by decide +kernel
theorem dX12_street_200 : decode cX12_street 200 = .ok (.invokevirtual 102, 3) := by decide +kernel
theorem dX12_street_203 : decode cX12_street 203 = .ok (.ireturn, 1) := by decide +kernel
theorem dX12_turned_0 : decode cX12_turned 0 = .ok (.aload_n 0, 1) := by decide +kernel
theorem dX12_turned_1 : decode cX12_turned 1 = .ok (.iload_n 1, 1) := by decide +kernel
theorem dX12_turned_2 : decode cX12_turned 2 = .ok (.invokevirtual 112, 3) := by decide +kernel
theorem dX12_turned_5 : decode cX12_turned 5 = .ok (.ifCond .ne 10, 3) := by decide +kernel
theorem dX12_turned_8 : decode cX12_turned 8 = .ok (.aload_n 0, 1) := by decide +kernel
theorem dX12_turned_9 : decode cX12_turned 9 = .ok (.bipush (-2), 2) := by decide +kernel
theorem dX12_turned_11 : decode cX12_turned 11 = .ok (.invokevirtual 92, 3) := by decide +kernel
theorem dX12_turned_14 : decode cX12_turned 14 = .ok (.ireturn, 1) := by decide +kernel
theorem dX12_turned_15 : decode cX12_turned 15 = .ok (.aload_n 0, 1) := by decide +kernel
theorem dX12_turned_16 : decode cX12_turned 16 = .ok (.invokevirtual 96, 3) := by decide +kernel
theorem dX12_turned_19 : decode cX12_turned 19 = .ok (.aload_n 0, 1) := by decide +kernel
theorem dX12_turned_20 : decode cX12_turned 20 = .ok (.iconst 0, 1) := by decide +kernel
theorem dX12_turned_21 : decode cX12_turned 21 = .ok (.putfield 99, 3) := by decide +kernel
theorem dX12_turned_24 : decode cX12_turned 24 = .ok (.aload_n 0, 1) := by decide +kernel
theorem dX12_turned_25 : decode cX12_turned 25 = .ok (.getfield 7, 3) := by decide +kernel
theorem dX12_turned_28 : decode cX12_turned 28 = .ok (.aload_n 0, 1) := by decide +kernel
theorem dX12_turned_29 : decode cX12_turned 29 = .ok (.iload_n 1, 1) := by decide +kernel
theorem dX12_turned_30 : decode cX12_turned 30 = .ok (.invokevirtual 109, 3) := by decide +kernel
theorem dX12_turned_33 : decode cX12_turned 33 = .ok (.iload_n 2, 1) := by decide +kernel
theorem dX12_turned_34 : decode cX12_turned 34 = .ok (.iadd, 1) := by decide +kernel
theorem dX12_turned_35 : decode cX12_turned 35 = .ok (.iaload, 1) := by decide +kernel
theorem dX12_turned_36 : decode cX12_turned 36 = .ok (.istore 4, 2) := by decide +kernel
theorem dX12_turned_38 : decode cX12_turned 38 = .ok (.aload_n 0, 1) := by decide +kernel
theorem dX12_turned_39 : decode cX12_turned 39 = .ok (.getfield 7, 3) := by decide +kernel
theorem dX12_turned_42 : decode cX12_turned 42 = .ok (.aload_n 0, 1) := by decide +kernel
theorem dX12_turned_43 : decode cX12_turned 43 = .ok (.iload_n 1, 1) := by decide +kernel
theorem dX12_turned_44 : decode cX12_turned 44 = .ok (.invokevirtual 109, 3) := by decide +kernel
theorem dX12_turned_47 : decode cX12_turned 47 = .ok (.iload_n 2, 1) := by decide +kernel
theorem dX12_turned_48 : decode cX12_turned 48 = .ok (.iadd, 1) := by decide +kernel
theorem dX12_turned_49 : decode cX12_turned 49 = .ok (.iload_n 3, 1) := by decide +kernel
theorem dX12_turned_50 : decode cX12_turned 50 = .ok (.ifCond .eq 7, 3) := by decide +kernel
theorem dX12_turned_53 : decode cX12_turned 53 = .ok (.iconst 1, 1) := by decide +kernel
theorem dX12_turned_54 : decode cX12_turned 54 = .ok (.goto 4, 3) := by decide +kernel
theorem dX12_turned_57 : decode cX12_turned 57 = .ok (.iconst 0, 1) := by decide +kernel
theorem dX12_turned_58 : decode cX12_turned 58 = .ok (.iastore, 1) := by decide +kernel
theorem dX12_turned_59 : decode cX12_turned 59 = .ok (.aload_n 0, 1) := by decide +kernel
theorem dX12_turned_60 : decode cX12_turned 60 = .ok (.iload 4, 2) := by decide +kernel
theorem dX12_turned_62 : decode cX12_turned 62 = .ok (.invokevirtual 102, 3) := by decide +kernel
theorem dX12_turned_65 : decode cX12_turned 65 = .ok (.ireturn, 1) := by decide +kernel
theorem dX12_oneWay_0 : decode cX12_oneWay 0 = .ok (.aload_n 0, 1) := by decide +kernel
theorem dX12_oneWay_1 : decode cX12_oneWay 1 = .ok (.iload_n 1, 1) := by decide +kernel
theorem dX12_oneWay_2 : decode cX12_oneWay 2 = .ok (.iconst 5, 1) := by decide +kernel
theorem dX12_oneWay_3 : decode cX12_oneWay 3 = .ok (.iload_n 2, 1) := by decide +kernel
theorem dX12_oneWay_4 : decode cX12_oneWay 4 = .ok (.invokevirtual 115, 3) := by decide +kernel
theorem dX12_oneWay_7 : decode cX12_oneWay 7 = .ok (.ireturn, 1) := by decide +kernel
theorem dX12_shut_0 : decode cX12_shut 0 = .ok (.aload_n 0, 1) := by decide +kernel
theorem dX12_shut_1 : decode cX12_shut 1 = .ok (.iload_n 1, 1) := by decide +kernel
theorem dX12_shut_2 : decode cX12_shut 2 = .ok (.iconst 4, 1) := by decide +kernel
theorem dX12_shut_3 : decode cX12_shut 3 = .ok (.iload_n 2, 1) := by decide +kernel
theorem dX12_shut_4 : decode cX12_shut 4 = .ok (.invokevirtual 115, 3) := by decide +kernel
theorem dX12_shut_7 : decode cX12_shut 7 = .ok (.ireturn, 1) := by decide +kernel
theorem dX12_sides_0 : decode cX12_sides 0 = .ok (.aload_n 0, 1) := by decide +kernel
theorem dX12_sides_1 : decode cX12_sides 1 = .ok (.iload_n 1, 1) := by decide +kernel
theorem dX12_sides_2 : decode cX12_sides 2 = .ok (.invokevirtual 112, 3) := by decide +kernel
theorem dX12_sides_5 : decode cX12_sides 5 = .ok (.ifCond .eq 12, 3) := by decide +kernel
theorem dX12_sides_8 : decode cX12_sides 8 = .ok (.iload_n 2, 1) := by decide +kernel
theorem dX12_sides_9 : decode cX12_sides 9 = .ok (.iconst 0, 1) := by decide +kernel
theorem dX12_sides_10 : decode cX12_sides 10 = .ok (.iconst 2, 1) := by decide +kernel
theorem dX12_sides_11 : decode cX12_sides 11 = .ok (.invokestatic 88, 3) := by decide +kernel
theorem dX12_sides_14 : decode cX12_sides 14 = .ok (.ifCond .ne 10, 3) := by decide +kernel
theorem dX12_sides_17 : decode cX12_sides 17 = .ok (.aload_n 0, 1) := by decide +kernel
theorem dX12_sides_18 : decode cX12_sides 18 = .ok (.bipush (-2), 2) := by decide +kernel
theorem dX12_sides_20 : decode cX12_sides 20 = .ok (.invokevirtual 92, 3) := by decide +kernel
theorem dX12_sides_23 : decode cX12_sides 23 = .ok (.ireturn, 1) := by decide +kernel
theorem dX12_sides_24 : decode cX12_sides 24 = .ok (.aload_n 0, 1) := by decide +kernel
theorem dX12_sides_25 : decode cX12_sides 25 = .ok (.invokevirtual 96, 3) := by decide +kernel
theorem dX12_sides_28 : decode cX12_sides 28 = .ok (.aload_n 0, 1) := by decide +kernel
theorem dX12_sides_29 : decode cX12_sides 29 = .ok (.getfield 7, 3) := by decide +kernel
theorem dX12_sides_32 : decode cX12_sides 32 = .ok (.aload_n 0, 1) := by decide +kernel
theorem dX12_sides_33 : decode cX12_sides 33 = .ok (.iload_n 1, 1) := by decide +kernel
theorem dX12_sides_34 : decode cX12_sides 34 = .ok (.invokevirtual 109, 3) := by decide +kernel
theorem dX12_sides_37 : decode cX12_sides 37 = .ok (.iconst 3, 1) := by decide +kernel
theorem dX12_sides_38 : decode cX12_sides 38 = .ok (.iadd, 1) := by decide +kernel
theorem dX12_sides_39 : decode cX12_sides 39 = .ok (.iaload, 1) := by decide +kernel
theorem dX12_sides_40 : decode cX12_sides 40 = .ok (.istore_n 3, 1) := by decide +kernel
theorem dX12_sides_41 : decode cX12_sides 41 = .ok (.aload_n 0, 1) := by decide +kernel
theorem dX12_sides_42 : decode cX12_sides 42 = .ok (.getfield 7, 3) := by decide +kernel
theorem dX12_sides_45 : decode cX12_sides 45 = .ok (.aload_n 0, 1) := by decide +kernel
theorem dX12_sides_46 : decode cX12_sides 46 = .ok (.iload_n 1, 1) := by decide +kernel
theorem dX12_sides_47 : decode cX12_sides 47 = .ok (.invokevirtual 109, 3) := by decide +kernel
theorem dX12_sides_50 : decode cX12_sides 50 = .ok (.iconst 3, 1) := by decide +kernel
theorem dX12_sides_51 : decode cX12_sides 51 = .ok (.iadd, 1) := by decide +kernel
theorem dX12_sides_52 : decode cX12_sides 52 = .ok (.iload_n 2, 1) := by decide +kernel
theorem dX12_sides_53 : decode cX12_sides 53 = .ok (.iastore, 1) := by decide +kernel
theorem dX12_sides_54 : decode cX12_sides 54 = .ok (.aload_n 0, 1) := by decide +kernel
theorem dX12_sides_55 : decode cX12_sides 55 = .ok (.getfield 7, 3) := by decide +kernel
theorem dX12_sides_58 : decode cX12_sides 58 = .ok (.aload_n 0, 1) := by decide +kernel
theorem dX12_sides_59 : decode cX12_sides 59 = .ok (.iload_n 1, 1) := by decide +kernel
theorem dX12_sides_60 : decode cX12_sides 60 = .ok (.invokevirtual 109, 3) := by decide +kernel
theorem dX12_sides_63 : decode cX12_sides 63 = .ok (.iconst 2, 1) := by decide +kernel
theorem dX12_sides_64 : decode cX12_sides 64 = .ok (.iadd, 1) := by decide +kernel
theorem dX12_sides_65 : decode cX12_sides 65 = .ok (.iconst 0, 1) := by decide +kernel
theorem dX12_sides_66 : decode cX12_sides 66 = .ok (.iastore, 1) := by decide +kernel
theorem dX12_sides_67 : decode cX12_sides 67 = .ok (.aload_n 0, 1) := by decide +kernel
theorem dX12_sides_68 : decode cX12_sides 68 = .ok (.iload_n 3, 1) := by decide +kernel
theorem dX12_sides_69 : decode cX12_sides 69 = .ok (.invokevirtual 102, 3) := by decide +kernel
theorem dX12_sides_72 : decode cX12_sides 72 = .ok (.ireturn, 1) := by decide +kernel
theorem dX12_told_0 : decode cX12_told 0 = .ok (.aload_n 0, 1) := by decide +kernel
theorem dX12_told_1 : decode cX12_told 1 = .ok (.iload_n 1, 1) := by decide +kernel
theorem dX12_told_2 : decode cX12_told 2 = .ok (.invokevirtual 112, 3) := by decide +kernel
theorem dX12_told_5 : decode cX12_told 5 = .ok (.ifCond .eq 13, 3) := by decide +kernel
theorem dX12_told_8 : decode cX12_told 8 = .ok (.iload_n 2, 1) := by decide +kernel
theorem dX12_told_9 : decode cX12_told 9 = .ok (.iconst 0, 1) := by decide +kernel
theorem dX12_told_10 : decode cX12_told 10 = .ok (.bipush 8, 2) := by decide +kernel
theorem dX12_told_12 : decode cX12_told 12 = .ok (.invokestatic 88, 3) := by decide +kernel
theorem dX12_told_15 : decode cX12_told 15 = .ok (.ifCond .ne 12, 3) := by decide +kernel
theorem dX12_told_18 : decode cX12_told 18 = .ok (.aload_n 0, 1) := by decide +kernel
theorem dX12_told_19 : decode cX12_told 19 = .ok (.bipush (-2), 2) := by decide +kernel
theorem dX12_told_21 : decode cX12_told 21 = .ok (.invokevirtual 92, 3) := by decide +kernel
theorem dX12_told_24 : decode cX12_told 24 = .ok (.goto 19, 3) := by decide +kernel
theorem dX12_told_27 : decode cX12_told 27 = .ok (.aload_n 0, 1) := by decide +kernel
theorem dX12_told_28 : decode cX12_told 28 = .ok (.aload_n 0, 1) := by decide +kernel
theorem dX12_told_29 : decode cX12_told 29 = .ok (.getfield 7, 3) := by decide +kernel
theorem dX12_told_32 : decode cX12_told 32 = .ok (.aload_n 0, 1) := by decide +kernel
theorem dX12_told_33 : decode cX12_told 33 = .ok (.iload_n 1, 1) := by decide +kernel
theorem dX12_told_34 : decode cX12_told 34 = .ok (.invokevirtual 109, 3) := by decide +kernel
theorem dX12_told_37 : decode cX12_told 37 = .ok (.iload_n 2, 1) := by decide +kernel
theorem dX12_told_38 : decode cX12_told 38 = .ok (.iadd, 1) := by decide +kernel
theorem dX12_told_39 : decode cX12_told 39 = .ok (.iaload, 1) := by decide +kernel
theorem dX12_told_40 : decode cX12_told 40 = .ok (.invokevirtual 102, 3) := by decide +kernel
theorem dX12_told_43 : decode cX12_told 43 = .ok (.ireturn, 1) := by decide +kernel
theorem dX12_way_0 : decode cX12_way 0 = .ok (.aload_n 0, 1) := by decide +kernel
theorem dX12_way_1 : decode cX12_way 1 = .ok (.iload_n 1, 1) := by decide +kernel
theorem dX12_way_2 : decode cX12_way 2 = .ok (.invokevirtual 105, 3) := by decide +kernel
theorem dX12_way_5 : decode cX12_way 5 = .ok (.ifCond .eq 11, 3) := by decide +kernel
theorem dX12_way_8 : decode cX12_way 8 = .ok (.aload_n 0, 1) := by decide +kernel
theorem dX12_way_9 : decode cX12_way 9 = .ok (.iload_n 2, 1) := by decide +kernel
theorem dX12_way_10 : decode cX12_way 10 = .ok (.invokevirtual 105, 3) := by decide +kernel
theorem dX12_way_13 : decode cX12_way 13 = .ok (.ifCond .ne 10, 3) := by decide +kernel
theorem dX12_way_16 : decode cX12_way 16 = .ok (.aload_n 0, 1) := by decide +kernel
theorem dX12_way_17 : decode cX12_way 17 = .ok (.bipush (-2), 2) := by decide +kernel
theorem dX12_way_19 : decode cX12_way 19 = .ok (.invokevirtual 92, 3) := by decide +kernel
theorem dX12_way_22 : decode cX12_way 22 = .ok (.ireturn, 1) := by decide +kernel
theorem dX12_way_23 : decode cX12_way 23 = .ok (.aload_n 0, 1) := by decide +kernel
theorem dX12_way_24 : decode cX12_way 24 = .ok (.invokevirtual 134, 3) := by decide +kernel
theorem dX12_way_27 : decode cX12_way 27 = .ok (.aload_n 0, 1) := by decide +kernel
theorem dX12_way_28 : decode cX12_way 28 = .ok (.getfield 23, 3) := by decide +kernel
theorem dX12_way_31 : decode cX12_way 31 = .ok (.bipush 60, 2) := by decide +kernel
theorem dX12_way_33 : decode cX12_way 33 = .ok (.iload_n 1, 1) := by decide +kernel
theorem dX12_way_34 : decode cX12_way 34 = .ok (.imul, 1) := by decide +kernel
theorem dX12_way_35 : decode cX12_way 35 = .ok (.iload_n 2, 1) := by decide +kernel
theorem dX12_way_36 : decode cX12_way 36 = .ok (.iadd, 1) := by decide +kernel
theorem dX12_way_37 : decode cX12_way 37 = .ok (.iaload, 1) := by decide +kernel
theorem dX12_way_38 : decode cX12_way 38 = .ok (.ldc 125, 2) := by decide +kernel
theorem dX12_way_40 : decode cX12_way 40 = .ok (.if_icmp .lt 12, 3) := by decide +kernel
theorem dX12_way_43 : decode cX12_way 43 = .ok (.aload_n 0, 1) := by decide +kernel
theorem dX12_way_44 : decode cX12_way 44 = .ok (.bipush (-8), 2) := by decide +kernel
theorem dX12_way_46 : decode cX12_way 46 = .ok (.invokevirtual 92, 3) := by decide +kernel
theorem dX12_way_49 : decode cX12_way 49 = .ok (.goto 18, 3) := by decide +kernel
theorem dX12_way_52 : decode cX12_way 52 = .ok (.aload_n 0, 1) := by decide +kernel
theorem dX12_way_53 : decode cX12_way 53 = .ok (.aload_n 0, 1) := by decide +kernel
theorem dX12_way_54 : decode cX12_way 54 = .ok (.getfield 23, 3) := by decide +kernel
theorem dX12_way_57 : decode cX12_way 57 = .ok (.bipush 60, 2) := by decide +kernel
theorem dX12_way_59 : decode cX12_way 59 = .ok (.iload_n 1, 1) := by decide +kernel
theorem dX12_way_60 : decode cX12_way 60 = .ok (.imul, 1) := by decide +kernel
theorem dX12_way_61 : decode cX12_way 61 = .ok (.iload_n 2, 1) := by decide +kernel
theorem dX12_way_62 : decode cX12_way 62 = .ok (.iadd, 1) := by decide +kernel
theorem dX12_way_63 : decode cX12_way 63 = .ok (.iaload, 1) := by decide +kernel
theorem dX12_way_64 : decode cX12_way 64 = .ok (.invokevirtual 102, 3) := by decide +kernel
theorem dX12_way_67 : decode cX12_way 67 = .ok (.ireturn, 1) := by decide +kernel
theorem dX12_wayAt_0 : decode cX12_wayAt 0 = .ok (.aload_n 0, 1) := by decide +kernel
theorem dX12_wayAt_1 : decode cX12_wayAt 1 = .ok (.iload_n 1, 1) := by decide +kernel
theorem dX12_wayAt_2 : decode cX12_wayAt 2 = .ok (.invokevirtual 105, 3) := by decide +kernel
theorem dX12_wayAt_5 : decode cX12_wayAt 5 = .ok (.ifCond .eq 11, 3) := by decide +kernel
theorem dX12_wayAt_8 : decode cX12_wayAt 8 = .ok (.aload_n 0, 1) := by decide +kernel
theorem dX12_wayAt_9 : decode cX12_wayAt 9 = .ok (.iload_n 2, 1) := by decide +kernel
theorem dX12_wayAt_10 : decode cX12_wayAt 10 = .ok (.invokevirtual 105, 3) := by decide +kernel
theorem dX12_wayAt_13 : decode cX12_wayAt 13 = .ok (.ifCond .ne 10, 3) := by decide +kernel
theorem dX12_wayAt_16 : decode cX12_wayAt 16 = .ok (.aload_n 0, 1) := by decide +kernel
theorem dX12_wayAt_17 : decode cX12_wayAt 17 = .ok (.bipush (-2), 2) := by decide +kernel
theorem dX12_wayAt_19 : decode cX12_wayAt 19 = .ok (.invokevirtual 92, 3) := by decide +kernel
theorem dX12_wayAt_22 : decode cX12_wayAt 22 = .ok (.ireturn, 1) := by decide +kernel
theorem dX12_wayAt_23 : decode cX12_wayAt 23 = .ok (.aload_n 0, 1) := by decide +kernel
theorem dX12_wayAt_24 : decode cX12_wayAt 24 = .ok (.invokevirtual 134, 3) := by decide +kernel
theorem dX12_wayAt_27 : decode cX12_wayAt 27 = .ok (.aload_n 0, 1) := by decide +kernel
theorem dX12_wayAt_28 : decode cX12_wayAt 28 = .ok (.getfield 23, 3) := by decide +kernel
theorem dX12_wayAt_31 : decode cX12_wayAt 31 = .ok (.bipush 60, 2) := by decide +kernel
theorem dX12_wayAt_33 : decode cX12_wayAt 33 = .ok (.iload_n 1, 1) := by decide +kernel
theorem dX12_wayAt_34 : decode cX12_wayAt 34 = .ok (.imul, 1) := by decide +kernel
theorem dX12_wayAt_35 : decode cX12_wayAt 35 = .ok (.iload_n 2, 1) := by decide +kernel
theorem dX12_wayAt_36 : decode cX12_wayAt 36 = .ok (.iadd, 1) := by decide +kernel
theorem dX12_wayAt_37 : decode cX12_wayAt 37 = .ok (.iaload, 1) := by decide +kernel
theorem dX12_wayAt_38 : decode cX12_wayAt 38 = .ok (.ldc 125, 2) := by decide +kernel
theorem dX12_wayAt_40 : decode cX12_wayAt 40 = .ok (.if_icmp .lt 10, 3) := by decide +kernel
theorem dX12_wayAt_43 : decode cX12_wayAt 43 = .ok (.aload_n 0, 1) := by decide +kernel
theorem dX12_wayAt_44 : decode cX12_wayAt 44 = .ok (.bipush (-8), 2) := by decide +kernel
theorem dX12_wayAt_46 : decode cX12_wayAt 46 = .ok (.invokevirtual 92, 3) := by decide +kernel
theorem dX12_wayAt_49 : decode cX12_wayAt 49 = .ok (.ireturn, 1) := by decide +kernel
theorem dX12_wayAt_50 : decode cX12_wayAt 50 = .ok (.iload_n 1, 1) := by decide +kernel
theorem dX12_wayAt_51 : decode cX12_wayAt 51 = .ok (.istore 4, 2) := by decide +kernel
theorem dX12_wayAt_53 : decode cX12_wayAt 53 = .ok (.iload_n 3, 1) := by decide +kernel
theorem dX12_wayAt_54 : decode cX12_wayAt 54 = .ok (.istore 5, 2) := by decide +kernel
theorem dX12_wayAt_56 : decode cX12_wayAt 56 = .ok (.iload_n 3, 1) := by decide +kernel
theorem dX12_wayAt_57 : decode cX12_wayAt 57 = .ok (.ifCond .lt 46, 3) := by decide +kernel
theorem dX12_wayAt_60 : decode cX12_wayAt 60 = .ok (.iload 4, 2) := by decide +kernel
theorem dX12_wayAt_62 : decode cX12_wayAt 62 = .ok (.iload_n 2, 1) := by decide +kernel
theorem dX12_wayAt_63 : decode cX12_wayAt 63 = .ok (.if_icmp .eq 40, 3) := by decide +kernel
theorem dX12_wayAt_66 : decode cX12_wayAt 66 = .ok (.aload_n 0, 1) := by decide +kernel
theorem dX12_wayAt_67 : decode cX12_wayAt 67 = .ok (.iload 4, 2) := by decide +kernel
theorem dX12_wayAt_69 : decode cX12_wayAt 69 = .ok (.iload_n 2, 1) := by decide +kernel
theorem dX12_wayAt_70 : decode cX12_wayAt 70 = .ok (.invokevirtual 137, 3) := by decide +kernel
theorem dX12_wayAt_73 : decode cX12_wayAt 73 = .ok (.istore 6, 2) := by decide +kernel
theorem dX12_wayAt_75 : decode cX12_wayAt 75 = .ok (.iload 5, 2) := by decide +kernel
theorem dX12_wayAt_77 : decode cX12_wayAt 77 = .ok (.ifCond .ne 10, 3) := by decide +kernel
theorem dX12_wayAt_80 : decode cX12_wayAt 80 = .ok (.aload_n 0, 1) := by decide +kernel
theorem dX12_wayAt_81 : decode cX12_wayAt 81 = .ok (.iload 6, 2) := by decide +kernel
theorem dX12_wayAt_83 : decode cX12_wayAt 83 = .ok (.invokevirtual 102, 3) := by decide +kernel
theorem dX12_wayAt_86 : decode cX12_wayAt 86 = .ok (.ireturn, 1) := by decide +kernel
theorem dX12_wayAt_87 : decode cX12_wayAt 87 = .ok (.iinc 5 (-1), 3) := by decide +kernel
theorem dX12_wayAt_90 : decode cX12_wayAt 90 = .ok (.aload_n 0, 1) := by decide +kernel
theorem dX12_wayAt_91 : decode cX12_wayAt 91 = .ok (.iload 6, 2) := by decide +kernel
theorem dX12_wayAt_93 : decode cX12_wayAt 93 = .ok (.iload 4, 2) := by decide +kernel
theorem dX12_wayAt_95 : decode cX12_wayAt 95 = .ok (.invokevirtual 130, 3) := by decide +kernel
theorem dX12_wayAt_98 : decode cX12_wayAt 98 = .ok (.istore 4, 2) := by decide +kernel
theorem dX12_wayAt_100 : decode cX12_wayAt 100 = .ok (.goto (-44), 3) := by decide +kernel
theorem dX12_wayAt_103 : decode cX12_wayAt 103 = .ok (.aload_n 0, 1) := by decide +kernel
theorem dX12_wayAt_104 : decode cX12_wayAt 104 = .ok (.iconst (-1), 1) := by decide +kernel
theorem dX12_wayAt_105 : decode cX12_wayAt 105 = .ok (.invokevirtual 102, 3) := by decide +kernel
theorem dX12_wayAt_108 : decode cX12_wayAt 108 = .ok (.ireturn, 1) := by decide +kernel
theorem dX12_gauge_0 : decode cX12_gauge 0 = .ok (.aload_n 0, 1) := by decide +kernel
theorem dX12_gauge_1 : decode cX12_gauge 1 = .ok (.iload_n 1, 1) := by decide +kernel
theorem dX12_gauge_2 : decode cX12_gauge 2 = .ok (.invokevirtual 105, 3) := by decide +kernel
theorem dX12_gauge_5 : decode cX12_gauge 5 = .ok (.ifCond .ne 10, 3) := by decide +kernel
theorem dX12_gauge_8 : decode cX12_gauge 8 = .ok (.aload_n 0, 1) := by decide +kernel
theorem dX12_gauge_9 : decode cX12_gauge 9 = .ok (.bipush (-2), 2) := by decide +kernel
theorem dX12_gauge_11 : decode cX12_gauge 11 = .ok (.invokevirtual 92, 3) := by decide +kernel
theorem dX12_gauge_14 : decode cX12_gauge 14 = .ok (.ireturn, 1) := by decide +kernel
theorem dX12_gauge_15 : decode cX12_gauge 15 = .ok (.aload_n 0, 1) := by decide +kernel
theorem dX12_gauge_16 : decode cX12_gauge 16 = .ok (.getfield 7, 3) := by decide +kernel
theorem dX12_gauge_19 : decode cX12_gauge 19 = .ok (.iconst 2, 1) := by decide +kernel
theorem dX12_gauge_20 : decode cX12_gauge 20 = .ok (.iaload, 1) := by decide +kernel
theorem dX12_gauge_21 : decode cX12_gauge 21 = .ok (.bipush 20, 2) := by decide +kernel
theorem dX12_gauge_23 : decode cX12_gauge 23 = .ok (.if_icmp .ne 10, 3) := by decide +kernel
theorem dX12_gauge_26 : decode cX12_gauge 26 = .ok (.aload_n 0, 1) := by decide +kernel
theorem dX12_gauge_27 : decode cX12_gauge 27 = .ok (.bipush (-3), 2) := by decide +kernel
theorem dX12_gauge_29 : decode cX12_gauge 29 = .ok (.invokevirtual 92, 3) := by decide +kernel
theorem dX12_gauge_32 : decode cX12_gauge 32 = .ok (.ireturn, 1) := by decide +kernel
theorem dX12_gauge_33 : decode cX12_gauge 33 = .ok (.aload_n 0, 1) := by decide +kernel
theorem dX12_gauge_34 : decode cX12_gauge 34 = .ok (.invokevirtual 96, 3) := by decide +kernel
theorem dX12_gauge_37 : decode cX12_gauge 37 = .ok (.aload_n 0, 1) := by decide +kernel
theorem dX12_gauge_38 : decode cX12_gauge 38 = .ok (.aload_n 0, 1) := by decide +kernel
theorem dX12_gauge_39 : decode cX12_gauge 39 = .ok (.getfield 7, 3) := by decide +kernel
theorem dX12_gauge_42 : decode cX12_gauge 42 = .ok (.iconst 2, 1) := by decide +kernel
theorem dX12_gauge_43 : decode cX12_gauge 43 = .ok (.iaload, 1) := by decide +kernel
theorem dX12_gauge_44 : decode cX12_gauge 44 = .ok (.invokevirtual 140, 3) := by decide +kernel
theorem dX12_gauge_47 : decode cX12_gauge 47 = .ok (.istore_n 3, 1) := by decide +kernel
theorem dX12_gauge_48 : decode cX12_gauge 48 = .ok (.aload_n 0, 1) := by decide +kernel
theorem dX12_gauge_49 : decode cX12_gauge 49 = .ok (.getfield 7, 3) := by decide +kernel
theorem dX12_gauge_52 : decode cX12_gauge 52 = .ok (.iload_n 3, 1) := by decide +kernel
theorem dX12_gauge_53 : decode cX12_gauge 53 = .ok (.iload_n 1, 1) := by decide +kernel
theorem dX12_gauge_54 : decode cX12_gauge 54 = .ok (.iastore, 1) := by decide +kernel
theorem dX12_gauge_55 : decode cX12_gauge 55 = .ok (.aload_n 0, 1) := by decide +kernel
theorem dX12_gauge_56 : decode cX12_gauge 56 = .ok (.getfield 7, 3) := by decide +kernel
theorem dX12_gauge_59 : decode cX12_gauge 59 = .ok (.iload_n 3, 1) := by decide +kernel
theorem dX12_gauge_60 : decode cX12_gauge 60 = .ok (.iconst 1, 1) := by decide +kernel
theorem dX12_gauge_61 : decode cX12_gauge 61 = .ok (.iadd, 1) := by decide +kernel
theorem dX12_gauge_62 : decode cX12_gauge 62 = .ok (.iload_n 2, 1) := by decide +kernel
theorem dX12_gauge_63 : decode cX12_gauge 63 = .ok (.ifCond .eq 7, 3) := by decide +kernel
theorem dX12_gauge_66 : decode cX12_gauge 66 = .ok (.iconst 1, 1) := by decide +kernel
theorem dX12_gauge_67 : decode cX12_gauge 67 = .ok (.goto 4, 3) := by decide +kernel
theorem dX12_gauge_70 : decode cX12_gauge 70 = .ok (.iconst 0, 1) := by decide +kernel
theorem dX12_gauge_71 : decode cX12_gauge 71 = .ok (.iastore, 1) := by decide +kernel
theorem dX12_gauge_72 : decode cX12_gauge 72 = .ok (.aload_n 0, 1) := by decide +kernel
theorem dX12_gauge_73 : decode cX12_gauge 73 = .ok (.getfield 7, 3) := by decide +kernel
theorem dX12_gauge_76 : decode cX12_gauge 76 = .ok (.iload_n 3, 1) := by decide +kernel
theorem dX12_gauge_77 : decode cX12_gauge 77 = .ok (.iconst 2, 1) := by decide +kernel
theorem dX12_gauge_78 : decode cX12_gauge 78 = .ok (.iadd, 1) := by decide +kernel
theorem dX12_gauge_79 : decode cX12_gauge 79 = .ok (.iconst (-1), 1) := by decide +kernel
theorem dX12_gauge_80 : decode cX12_gauge 80 = .ok (.iastore, 1) := by decide +kernel
theorem dX12_gauge_81 : decode cX12_gauge 81 = .ok (.aload_n 0, 1) := by decide +kernel
theorem dX12_gauge_82 : decode cX12_gauge 82 = .ok (.getfield 7, 3) := by decide +kernel
theorem dX12_gauge_85 : decode cX12_gauge 85 = .ok (.iconst 2, 1) := by decide +kernel
theorem dX12_gauge_86 : decode cX12_gauge 86 = .ok (.dup2, 1) := by decide +kernel
theorem dX12_gauge_87 : decode cX12_gauge 87 = .ok (.iaload, 1) := by decide +kernel
theorem dX12_gauge_88 : decode cX12_gauge 88 = .ok (.iconst 1, 1) := by decide +kernel
theorem dX12_gauge_89 : decode cX12_gauge 89 = .ok (.iadd, 1) := by decide +kernel
theorem dX12_gauge_90 : decode cX12_gauge 90 = .ok (.iastore, 1) := by decide +kernel
theorem dX12_gauge_91 : decode cX12_gauge 91 = .ok (.aload_n 0, 1) := by decide +kernel
theorem dX12_gauge_92 : decode cX12_gauge 92 = .ok (.aload_n 0, 1) := by decide +kernel
theorem dX12_gauge_93 : decode cX12_gauge 93 = .ok (.getfield 7, 3) := by decide +kernel
theorem dX12_gauge_96 : decode cX12_gauge 96 = .ok (.iconst 2, 1) := by decide +kernel
theorem dX12_gauge_97 : decode cX12_gauge 97 = .ok (.iaload, 1) := by decide +kernel
theorem dX12_gauge_98 : decode cX12_gauge 98 = .ok (.iconst 1, 1) := by decide +kernel
theorem dX12_gauge_99 : decode cX12_gauge 99 = .ok (.isub, 1) := by decide +kernel
theorem dX12_gauge_100 : decode cX12_gauge 100 = .ok (.invokevirtual 102, 3) := by decide +kernel
theorem dX12_gauge_103 : decode cX12_gauge 103 = .ok (.ireturn, 1) := by decide +kernel
theorem dX12_row_0 : decode cX12_row 0 = .ok (.aload_n 0, 1) := by decide +kernel
theorem dX12_row_1 : decode cX12_row 1 = .ok (.iload_n 1, 1) := by decide +kernel
theorem dX12_row_2 : decode cX12_row 2 = .ok (.invokevirtual 143, 3) := by decide +kernel
theorem dX12_row_5 : decode cX12_row 5 = .ok (.ifCond .eq 10, 3) := by decide +kernel
theorem dX12_row_8 : decode cX12_row 8 = .ok (.iload_n 2, 1) := by decide +kernel
theorem dX12_row_9 : decode cX12_row 9 = .ok (.sipush 200, 3) := by decide +kernel
theorem dX12_row_12 : decode cX12_row 12 = .ok (.if_icmp .le 10, 3) := by decide +kernel
theorem dX12_row_15 : decode cX12_row 15 = .ok (.aload_n 0, 1) := by decide +kernel
theorem dX12_row_16 : decode cX12_row 16 = .ok (.bipush (-2), 2) := by decide +kernel
theorem dX12_row_18 : decode cX12_row 18 = .ok (.invokevirtual 92, 3) := by decide +kernel
theorem dX12_row_21 : decode cX12_row 21 = .ok (.ireturn, 1) := by decide +kernel
theorem dX12_row_22 : decode cX12_row 22 = .ok (.iload_n 2, 1) := by decide +kernel
theorem dX12_row_23 : decode cX12_row 23 = .ok (.ifCond .ge 10, 3) := by decide +kernel
theorem dX12_row_26 : decode cX12_row 26 = .ok (.aload_n 0, 1) := by decide +kernel
theorem dX12_row_27 : decode cX12_row 27 = .ok (.bipush (-7), 2) := by decide +kernel
theorem dX12_row_29 : decode cX12_row 29 = .ok (.invokevirtual 92, 3) := by decide +kernel
theorem dX12_row_32 : decode cX12_row 32 = .ok (.ireturn, 1) := by decide +kernel
theorem dX12_row_33 : decode cX12_row 33 = .ok (.aload_n 0, 1) := by decide +kernel
theorem dX12_row_34 : decode cX12_row 34 = .ok (.invokevirtual 96, 3) := by decide +kernel
theorem dX12_row_37 : decode cX12_row 37 = .ok (.aload_n 0, 1) := by decide +kernel
theorem dX12_row_38 : decode cX12_row 38 = .ok (.getfield 7, 3) := by decide +kernel
theorem dX12_row_41 : decode cX12_row 41 = .ok (.aload_n 0, 1) := by decide +kernel
theorem dX12_row_42 : decode cX12_row 42 = .ok (.iload_n 1, 1) := by decide +kernel
theorem dX12_row_43 : decode cX12_row 43 = .ok (.invokevirtual 140, 3) := by decide +kernel
theorem dX12_row_46 : decode cX12_row 46 = .ok (.iconst 2, 1) := by decide +kernel
theorem dX12_row_47 : decode cX12_row 47 = .ok (.iadd, 1) := by decide +kernel
theorem dX12_row_48 : decode cX12_row 48 = .ok (.iload_n 2, 1) := by decide +kernel
theorem dX12_row_49 : decode cX12_row 49 = .ok (.iastore, 1) := by decide +kernel
theorem dX12_row_50 : decode cX12_row 50 = .ok (.sipush 200, 3) := by decide +kernel
theorem dX12_row_53 : decode cX12_row 53 = .ok (.iload_n 1, 1) := by decide +kernel
theorem dX12_row_54 : decode cX12_row 54 = .ok (.imul, 1) := by decide +kernel
theorem dX12_row_55 : decode cX12_row 55 = .ok (.istore_n 3, 1) := by decide +kernel
theorem dX12_row_56 : decode cX12_row 56 = .ok (.iload_n 3, 1) := by decide +kernel
theorem dX12_row_57 : decode cX12_row 57 = .ok (.sipush 200, 3) := by decide +kernel
theorem dX12_row_60 : decode cX12_row 60 = .ok (.iload_n 1, 1) := by decide +kernel
theorem dX12_row_61 : decode cX12_row 61 = .ok (.imul, 1) := by decide +kernel
theorem dX12_row_62 : decode cX12_row 62 = .ok (.iload_n 2, 1) := by decide +kernel
theorem dX12_row_63 : decode cX12_row 63 = .ok (.iadd, 1) := by decide +kernel
theorem dX12_row_64 : decode cX12_row 64 = .ok (.if_icmp .ge 31, 3) := by decide +kernel
theorem dX12_row_67 : decode cX12_row 67 = .ok (.aload_n 0, 1) := by decide +kernel
theorem dX12_row_68 : decode cX12_row 68 = .ok (.getfield 7, 3) := by decide +kernel
theorem dX12_row_71 : decode cX12_row 71 = .ok (.sipush 1426, 3) := by decide +kernel
theorem dX12_row_74 : decode cX12_row 74 = .ok (.iload_n 3, 1) := by decide +kernel
theorem dX12_row_75 : decode cX12_row 75 = .ok (.iadd, 1) := by decide +kernel
theorem dX12_row_76 : decode cX12_row 76 = .ok (.iconst 0, 1) := by decide +kernel
theorem dX12_row_77 : decode cX12_row 77 = .ok (.iastore, 1) := by decide +kernel
theorem dX12_row_78 : decode cX12_row 78 = .ok (.aload_n 0, 1) := by decide +kernel
theorem dX12_row_79 : decode cX12_row 79 = .ok (.getfield 7, 3) := by decide +kernel
theorem dX12_row_82 : decode cX12_row 82 = .ok (.sipush 5426, 3) := by decide +kernel
theorem dX12_row_85 : decode cX12_row 85 = .ok (.iload_n 3, 1) := by decide +kernel
theorem dX12_row_86 : decode cX12_row 86 = .ok (.iadd, 1) := by decide +kernel
theorem dX12_row_87 : decode cX12_row 87 = .ok (.iconst 0, 1) := by decide +kernel
theorem dX12_row_88 : decode cX12_row 88 = .ok (.iastore, 1) := by decide +kernel
theorem dX12_row_89 : decode cX12_row 89 = .ok (.iinc 3 1, 3) := by decide +kernel
theorem dX12_row_92 : decode cX12_row 92 = .ok (.goto (-36), 3) := by decide +kernel
theorem dX12_row_95 : decode cX12_row 95 = .ok (.aload_n 0, 1) := by decide +kernel
theorem dX12_row_96 : decode cX12_row 96 = .ok (.iconst 1, 1) := by decide +kernel
theorem dX12_row_97 : decode cX12_row 97 = .ok (.invokevirtual 102, 3) := by decide +kernel
theorem dX12_row_100 : decode cX12_row 100 = .ok (.ireturn, 1) := by decide +kernel
theorem dX12_lose_0 : decode cX12_lose 0 = .ok (.aload_n 0, 1) := by decide +kernel
theorem dX12_lose_1 : decode cX12_lose 1 = .ok (.iload_n 1, 1) := by decide +kernel
theorem dX12_lose_2 : decode cX12_lose 2 = .ok (.invokevirtual 143, 3) := by decide +kernel
theorem dX12_lose_5 : decode cX12_lose 5 = .ok (.ifCond .ne 10, 3) := by decide +kernel
theorem dX12_lose_8 : decode cX12_lose 8 = .ok (.aload_n 0, 1) := by decide +kernel
theorem dX12_lose_9 : decode cX12_lose 9 = .ok (.bipush (-2), 2) := by decide +kernel
theorem dX12_lose_11 : decode cX12_lose 11 = .ok (.invokevirtual 92, 3) := by decide +kernel
theorem dX12_lose_14 : decode cX12_lose 14 = .ok (.ireturn, 1) := by decide +kernel
theorem dX12_lose_15 : decode cX12_lose 15 = .ok (.aload_n 0, 1) := by decide +kernel
theorem dX12_lose_16 : decode cX12_lose 16 = .ok (.invokevirtual 96, 3) := by decide +kernel
theorem dX12_lose_19 : decode cX12_lose 19 = .ok (.aload_n 0, 1) := by decide +kernel
theorem dX12_lose_20 : decode cX12_lose 20 = .ok (.getfield 7, 3) := by decide +kernel
theorem dX12_lose_23 : decode cX12_lose 23 = .ok (.aload_n 0, 1) := by decide +kernel
theorem dX12_lose_24 : decode cX12_lose 24 = .ok (.iload_n 1, 1) := by decide +kernel
theorem dX12_lose_25 : decode cX12_lose 25 = .ok (.invokevirtual 140, 3) := by decide +kernel
theorem dX12_lose_28 : decode cX12_lose 28 = .ok (.iconst 2, 1) := by decide +kernel
theorem dX12_lose_29 : decode cX12_lose 29 = .ok (.iadd, 1) := by decide +kernel
theorem dX12_lose_30 : decode cX12_lose 30 = .ok (.iaload, 1) := by decide +kernel
theorem dX12_lose_31 : decode cX12_lose 31 = .ok (.istore_n 2, 1) := by decide +kernel
theorem dX12_lose_32 : decode cX12_lose 32 = .ok (.aload_n 0, 1) := by decide +kernel
theorem dX12_lose_33 : decode cX12_lose 33 = .ok (.getfield 7, 3) := by decide +kernel
theorem dX12_lose_36 : decode cX12_lose 36 = .ok (.aload_n 0, 1) := by decide +kernel
theorem dX12_lose_37 : decode cX12_lose 37 = .ok (.iload_n 1, 1) := by decide +kernel
theorem dX12_lose_38 : decode cX12_lose 38 = .ok (.invokevirtual 140, 3) := by decide +kernel
theorem dX12_lose_41 : decode cX12_lose 41 = .ok (.iconst 2, 1) := by decide +kernel
theorem dX12_lose_42 : decode cX12_lose 42 = .ok (.iadd, 1) := by decide +kernel
theorem dX12_lose_43 : decode cX12_lose 43 = .ok (.iconst (-1), 1) := by decide +kernel
theorem dX12_lose_44 : decode cX12_lose 44 = .ok (.iastore, 1) := by decide +kernel
theorem dX12_lose_45 : decode cX12_lose 45 = .ok (.aload_n 0, 1) := by decide +kernel
theorem dX12_lose_46 : decode cX12_lose 46 = .ok (.iload_n 2, 1) := by decide +kernel
theorem dX12_lose_47 : decode cX12_lose 47 = .ok (.ifCond .ge 7, 3) := by decide +kernel
theorem dX12_lose_50 : decode cX12_lose 50 = .ok (.iconst 0, 1) := by decide +kernel
theorem dX12_lose_51 : decode cX12_lose 51 = .ok (.goto 4, 3) := by decide +kernel
theorem dX12_lose_54 : decode cX12_lose 54 = .ok (.iconst 1, 1) := by decide +kernel
theorem dX12_lose_55 : decode cX12_lose 55 = .ok (.invokevirtual 102, 3) := by decide +kernel
theorem dX12_lose_58 : decode cX12_lose 58 = .ok (.ireturn, 1) := by decide +kernel
theorem dX12_reading_0 : decode cX12_reading 0 = .ok (.aload_n 0, 1) := by decide +kernel
theorem dX12_reading_1 : decode cX12_reading 1 = .ok (.iload_n 1, 1) := by decide +kernel
theorem dX12_reading_2 : decode cX12_reading 2 = .ok (.invokevirtual 143, 3) := by decide +kernel
theorem dX12_reading_5 : decode cX12_reading 5 = .ok (.ifCond .ne 10, 3) := by decide +kernel
theorem dX12_reading_8 : decode cX12_reading 8 = .ok (.aload_n 0, 1) := by decide +kernel
theorem dX12_reading_9 : decode cX12_reading 9 = .ok (.bipush (-2), 2) := by decide +kernel
theorem dX12_reading_11 : decode cX12_reading 11 = .ok (.invokevirtual 92, 3) := by decide +kernel
theorem dX12_reading_14 : decode cX12_reading 14 = .ok (.ireturn, 1) := by decide +kernel
theorem dX12_reading_15 : decode cX12_reading 15 = .ok (.aload_n 0, 1) := by decide +kernel
theorem dX12_reading_16 : decode cX12_reading 16 = .ok (.getfield 7, 3) := by decide +kernel
theorem dX12_reading_19 : decode cX12_reading 19 = .ok (.aload_n 0, 1) := by decide +kernel
theorem dX12_reading_20 : decode cX12_reading 20 = .ok (.iload_n 1, 1) := by decide +kernel
theorem dX12_reading_21 : decode cX12_reading 21 = .ok (.invokevirtual 140, 3) := by decide +kernel
theorem dX12_reading_24 : decode cX12_reading 24 = .ok (.iconst 1, 1) := by decide +kernel
theorem dX12_reading_25 : decode cX12_reading 25 = .ok (.iadd, 1) := by decide +kernel
theorem dX12_reading_26 : decode cX12_reading 26 = .ok (.iaload, 1) := by decide +kernel
theorem dX12_reading_27 : decode cX12_reading 27 = .ok (.ifCond .ne 12, 3) := by decide +kernel
theorem dX12_reading_30 : decode cX12_reading 30 = .ok (.aload_n 0, 1) := by decide +kernel
theorem dX12_reading_31 : decode cX12_reading 31 = .ok (.iload_n 1, 1) := by decide +kernel
theorem dX12_reading_32 : decode cX12_reading 32 = .ok (.iload_n 2, 1) := by decide +kernel
theorem dX12_reading_33 : decode cX12_reading 33 = .ok (.iload_n 3, 1) := by decide +kernel
theorem dX12_reading_34 : decode cX12_reading 34 = .ok (.iconst 0, 1) := by decide +kernel
theorem dX12_reading_35 : decode cX12_reading 35 = .ok (.invokevirtual 149, 3) := by decide +kernel
theorem dX12_reading_38 : decode cX12_reading 38 = .ok (.ireturn, 1) := by decide +kernel
theorem dX12_reading_39 : decode cX12_reading 39 = .ok (.iload_n 3, 1) := by decide +kernel
theorem dX12_reading_40 : decode cX12_reading 40 = .ok (.i2s, 1) := by decide +kernel
theorem dX12_reading_41 : decode cX12_reading 41 = .ok (.istore 4, 2) := by decide +kernel
theorem dX12_reading_43 : decode cX12_reading 43 = .ok (.aload_n 0, 1) := by decide +kernel
theorem dX12_reading_44 : decode cX12_reading 44 = .ok (.iload_n 1, 1) := by decide +kernel
theorem dX12_reading_45 : decode cX12_reading 45 = .ok (.iload_n 2, 1) := by decide +kernel
theorem dX12_reading_46 : decode cX12_reading 46 = .ok (.iload 4, 2) := by decide +kernel
theorem dX12_reading_48 : decode cX12_reading 48 = .ok (.iload 4, 2) := by decide +kernel
theorem dX12_reading_50 : decode cX12_reading 50 = .ok (.sipush (-32768), 3) := by decide +kernel
theorem dX12_reading_53 : decode cX12_reading 53 = .ok (.if_icmp .ne 7, 3) := by decide +kernel
theorem dX12_reading_56 : decode cX12_reading 56 = .ok (.iconst 1, 1) := by decide +kernel
theorem dX12_reading_57 : decode cX12_reading 57 = .ok (.goto 16, 3) := by decide +kernel
theorem dX12_reading_60 : decode cX12_reading 60 = .ok (.iload 4, 2) := by decide +kernel
theorem dX12_reading_62 : decode cX12_reading 62 = .ok (.sipush 32767, 3) := by decide +kernel
theorem dX12_reading_65 : decode cX12_reading 65 = .ok (.if_icmp .ne 7, 3) := by decide +kernel
theorem dX12_reading_68 : decode cX12_reading 68 = .ok (.iconst 2, 1) := by decide +kernel
theorem dX12_reading_69 : decode cX12_reading 69 = .ok (.goto 4, 3) := by decide +kernel
theorem dX12_reading_72 : decode cX12_reading 72 = .ok (.iconst 0, 1) := by decide +kernel
theorem dX12_reading_73 : decode cX12_reading 73 = .ok (.invokevirtual 149, 3) := by decide +kernel
theorem dX12_reading_76 : decode cX12_reading 76 = .ok (.ireturn, 1) := by decide +kernel
theorem dX12_none_0 : decode cX12_none 0 = .ok (.aload_n 0, 1) := by decide +kernel
theorem dX12_none_1 : decode cX12_none 1 = .ok (.iload_n 1, 1) := by decide +kernel
theorem dX12_none_2 : decode cX12_none 2 = .ok (.invokevirtual 143, 3) := by decide +kernel
theorem dX12_none_5 : decode cX12_none 5 = .ok (.ifCond .eq 12, 3) := by decide +kernel
theorem dX12_none_8 : decode cX12_none 8 = .ok (.iload_n 3, 1) := by decide +kernel
theorem dX12_none_9 : decode cX12_none 9 = .ok (.iconst 0, 1) := by decide +kernel
theorem dX12_none_10 : decode cX12_none 10 = .ok (.iconst 1, 1) := by decide +kernel
theorem dX12_none_11 : decode cX12_none 11 = .ok (.invokestatic 88, 3) := by decide +kernel
theorem dX12_none_14 : decode cX12_none 14 = .ok (.ifCond .ne 10, 3) := by decide +kernel
theorem dX12_none_17 : decode cX12_none 17 = .ok (.aload_n 0, 1) := by decide +kernel
theorem dX12_none_18 : decode cX12_none 18 = .ok (.bipush (-2), 2) := by decide +kernel
theorem dX12_none_20 : decode cX12_none 20 = .ok (.invokevirtual 92, 3) := by decide +kernel
theorem dX12_none_23 : decode cX12_none 23 = .ok (.ireturn, 1) := by decide +kernel
theorem dX12_none_24 : decode cX12_none 24 = .ok (.aload_n 0, 1) := by decide +kernel
theorem dX12_none_25 : decode cX12_none 25 = .ok (.iload_n 1, 1) := by decide +kernel
theorem dX12_none_26 : decode cX12_none 26 = .ok (.iload_n 2, 1) := by decide +kernel
theorem dX12_none_27 : decode cX12_none 27 = .ok (.iload_n 3, 1) := by decide +kernel
theorem dX12_none_28 : decode cX12_none 28 = .ok (.ifCond .ne 9, 3) := by decide +kernel
theorem dX12_none_31 : decode cX12_none 31 = .ok (.sipush (-32768), 3) := by decide +kernel
theorem dX12_none_34 : decode cX12_none 34 = .ok (.goto 6, 3) := by decide +kernel
theorem dX12_none_37 : decode cX12_none 37 = .ok (.sipush 32767, 3) := by decide +kernel
theorem dX12_none_40 : decode cX12_none 40 = .ok (.iconst 1, 1) := by decide +kernel
theorem dX12_none_41 : decode cX12_none 41 = .ok (.iload_n 3, 1) := by decide +kernel
theorem dX12_none_42 : decode cX12_none 42 = .ok (.iadd, 1) := by decide +kernel
theorem dX12_none_43 : decode cX12_none 43 = .ok (.invokevirtual 149, 3) := by decide +kernel
theorem dX12_none_46 : decode cX12_none 46 = .ok (.ireturn, 1) := by decide +kernel
theorem dX12_read_0 : decode cX12_read 0 = .ok (.aload_n 0, 1) := by decide +kernel
theorem dX12_read_1 : decode cX12_read 1 = .ok (.iload_n 1, 1) := by decide +kernel
theorem dX12_read_2 : decode cX12_read 2 = .ok (.invokevirtual 143, 3) := by decide +kernel
theorem dX12_read_5 : decode cX12_read 5 = .ok (.ifCond .ne 10, 3) := by decide +kernel
theorem dX12_read_8 : decode cX12_read 8 = .ok (.aload_n 0, 1) := by decide +kernel
theorem dX12_read_9 : decode cX12_read 9 = .ok (.bipush (-2), 2) := by decide +kernel
theorem dX12_read_11 : decode cX12_read 11 = .ok (.invokevirtual 92, 3) := by decide +kernel
theorem dX12_read_14 : decode cX12_read 14 = .ok (.ireturn, 1) := by decide +kernel
theorem dX12_read_15 : decode cX12_read 15 = .ok (.aload_n 0, 1) := by decide +kernel
theorem dX12_read_16 : decode cX12_read 16 = .ok (.iload_n 1, 1) := by decide +kernel
theorem dX12_read_17 : decode cX12_read 17 = .ok (.iload_n 2, 1) := by decide +kernel
theorem dX12_read_18 : decode cX12_read 18 = .ok (.invokevirtual 146, 3) := by decide +kernel
theorem dX12_read_21 : decode cX12_read 21 = .ok (.istore_n 3, 1) := by decide +kernel
theorem dX12_read_22 : decode cX12_read 22 = .ok (.iload_n 3, 1) := by decide +kernel
theorem dX12_read_23 : decode cX12_read 23 = .ok (.ifCond .eq 11, 3) := by decide +kernel
theorem dX12_read_26 : decode cX12_read 26 = .ok (.aload_n 0, 1) := by decide +kernel
theorem dX12_read_27 : decode cX12_read 27 = .ok (.iload_n 3, 1) := by decide +kernel
theorem dX12_read_28 : decode cX12_read 28 = .ok (.invokevirtual 92, 3) := by decide +kernel
theorem dX12_read_31 : decode cX12_read 31 = .ok (.goto 13, 3) := by decide +kernel
theorem dX12_read_34 : decode cX12_read 34 = .ok (.aload_n 0, 1) := by decide +kernel
theorem dX12_read_35 : decode cX12_read 35 = .ok (.aload_n 0, 1) := by decide +kernel
theorem dX12_read_36 : decode cX12_read 36 = .ok (.iload_n 1, 1) := by decide +kernel
theorem dX12_read_37 : decode cX12_read 37 = .ok (.iload_n 2, 1) := by decide +kernel
theorem dX12_read_38 : decode cX12_read 38 = .ok (.invokevirtual 167, 3) := by decide +kernel
theorem dX12_read_41 : decode cX12_read 41 = .ok (.invokevirtual 102, 3) := by decide +kernel
theorem dX12_read_44 : decode cX12_read 44 = .ok (.ireturn, 1) := by decide +kernel
theorem dX12_copy_0 : decode cX12_copy 0 = .ok (.aload_n 0, 1) := by decide +kernel
theorem dX12_copy_1 : decode cX12_copy 1 = .ok (.iload_n 1, 1) := by decide +kernel
theorem dX12_copy_2 : decode cX12_copy 2 = .ok (.invokevirtual 143, 3) := by decide +kernel
theorem dX12_copy_5 : decode cX12_copy 5 = .ok (.ifCond .eq 38, 3) := by decide +kernel
theorem dX12_copy_8 : decode cX12_copy 8 = .ok (.aload_n 0, 1) := by decide +kernel
theorem dX12_copy_9 : decode cX12_copy 9 = .ok (.iload_n 3, 1) := by decide +kernel
theorem dX12_copy_10 : decode cX12_copy 10 = .ok (.invokevirtual 143, 3) := by decide +kernel
theorem dX12_copy_13 : decode cX12_copy 13 = .ok (.ifCond .eq 30, 3) := by decide +kernel
theorem dX12_copy_16 : decode cX12_copy 16 = .ok (.aload_n 0, 1) := by decide +kernel
theorem dX12_copy_17 : decode cX12_copy 17 = .ok (.getfield 7, 3) := by decide +kernel
theorem dX12_copy_20 : decode cX12_copy 20 = .ok (.aload_n 0, 1) := by decide +kernel
theorem dX12_copy_21 : decode cX12_copy 21 = .ok (.iload_n 1, 1) := by decide +kernel
theorem dX12_copy_22 : decode cX12_copy 22 = .ok (.invokevirtual 140, 3) := by decide +kernel
theorem dX12_copy_25 : decode cX12_copy 25 = .ok (.iconst 1, 1) := by decide +kernel
theorem dX12_copy_26 : decode cX12_copy 26 = .ok (.iadd, 1) := by decide +kernel
theorem dX12_copy_27 : decode cX12_copy 27 = .ok (.iaload, 1) := by decide +kernel
theorem dX12_copy_28 : decode cX12_copy 28 = .ok (.aload_n 0, 1) := by decide +kernel
theorem dX12_copy_29 : decode cX12_copy 29 = .ok (.getfield 7, 3) := by decide +kernel
theorem dX12_copy_32 : decode cX12_copy 32 = .ok (.aload_n 0, 1) := by decide +kernel
theorem dX12_copy_33 : decode cX12_copy 33 = .ok (.iload_n 3, 1) := by decide +kernel
theorem dX12_copy_34 : decode cX12_copy 34 = .ok (.invokevirtual 140, 3) := by decide +kernel
theorem dX12_copy_37 : decode cX12_copy 37 = .ok (.iconst 1, 1) := by decide +kernel
theorem dX12_copy_38 : decode cX12_copy 38 = .ok (.iadd, 1) := by decide +kernel
theorem dX12_copy_39 : decode cX12_copy 39 = .ok (.iaload, 1) := by decide +kernel
theorem dX12_copy_40 : decode cX12_copy 40 = .ok (.if_icmp .eq 10, 3) := by decide +kernel
theorem dX12_copy_43 : decode cX12_copy 43 = .ok (.aload_n 0, 1) := by decide +kernel
theorem dX12_copy_44 : decode cX12_copy 44 = .ok (.bipush (-2), 2) := by decide +kernel
theorem dX12_copy_46 : decode cX12_copy 46 = .ok (.invokevirtual 92, 3) := by decide +kernel
theorem dX12_copy_49 : decode cX12_copy 49 = .ok (.ireturn, 1) := by decide +kernel
theorem dX12_copy_50 : decode cX12_copy 50 = .ok (.aload_n 0, 1) := by decide +kernel
theorem dX12_copy_51 : decode cX12_copy 51 = .ok (.iload_n 1, 1) := by decide +kernel
theorem dX12_copy_52 : decode cX12_copy 52 = .ok (.iload_n 2, 1) := by decide +kernel
theorem dX12_copy_53 : decode cX12_copy 53 = .ok (.iload_n 3, 1) := by decide +kernel
theorem dX12_copy_54 : decode cX12_copy 54 = .ok (.iload 4, 2) := by decide +kernel
theorem dX12_copy_56 : decode cX12_copy 56 = .ok (.iload 5, 2) := by decide +kernel
theorem dX12_copy_58 : decode cX12_copy 58 = .ok (.invokevirtual 170, 3) := by decide +kernel
theorem dX12_copy_61 : decode cX12_copy 61 = .ok (.istore 6, 2) := by decide +kernel
theorem dX12_copy_63 : decode cX12_copy 63 = .ok (.iload 6, 2) := by decide +kernel
theorem dX12_copy_65 : decode cX12_copy 65 = .ok (.ifCond .eq 10, 3) := by decide +kernel
theorem dX12_copy_68 : decode cX12_copy 68 = .ok (.aload_n 0, 1) := by decide +kernel
theorem dX12_copy_69 : decode cX12_copy 69 = .ok (.iload 6, 2) := by decide +kernel
theorem dX12_copy_71 : decode cX12_copy 71 = .ok (.invokevirtual 92, 3) := by decide +kernel
theorem dX12_copy_74 : decode cX12_copy 74 = .ok (.ireturn, 1) := by decide +kernel
theorem dX12_copy_75 : decode cX12_copy 75 = .ok (.aload_n 0, 1) := by decide +kernel
theorem dX12_copy_76 : decode cX12_copy 76 = .ok (.invokevirtual 96, 3) := by decide +kernel
theorem dX12_copy_79 : decode cX12_copy 79 = .ok (.aload_n 0, 1) := by decide +kernel
theorem dX12_copy_80 : decode cX12_copy 80 = .ok (.iload_n 1, 1) := by decide +kernel
theorem dX12_copy_81 : decode cX12_copy 81 = .ok (.iload_n 2, 1) := by decide +kernel
theorem dX12_copy_82 : decode cX12_copy 82 = .ok (.iload_n 3, 1) := by decide +kernel
theorem dX12_copy_83 : decode cX12_copy 83 = .ok (.iload 4, 2) := by decide +kernel
theorem dX12_copy_85 : decode cX12_copy 85 = .ok (.iload 5, 2) := by decide +kernel
theorem dX12_copy_87 : decode cX12_copy 87 = .ok (.invokevirtual 174, 3) := by decide +kernel
theorem dX12_copy_90 : decode cX12_copy 90 = .ok (.aload_n 0, 1) := by decide +kernel
theorem dX12_copy_91 : decode cX12_copy 91 = .ok (.iconst 1, 1) := by decide +kernel
theorem dX12_copy_92 : decode cX12_copy 92 = .ok (.invokevirtual 102, 3) := by decide +kernel
theorem dX12_copy_95 : decode cX12_copy 95 = .ok (.ireturn, 1) := by decide +kernel
theorem dX12_copies_0 : decode cX12_copies 0 = .ok (.iconst 0, 1) := by decide +kernel
theorem dX12_copies_1 : decode cX12_copies 1 = .ok (.istore 4, 2) := by decide +kernel
theorem dX12_copies_3 : decode cX12_copies 3 = .ok (.iconst 0, 1) := by decide +kernel
theorem dX12_copies_4 : decode cX12_copies 4 = .ok (.istore 5, 2) := by decide +kernel
theorem dX12_copies_6 : decode cX12_copies 6 = .ok (.iload 4, 2) := by decide +kernel
theorem dX12_copies_8 : decode cX12_copies 8 = .ok (.aload_n 0, 1) := by decide +kernel
theorem dX12_copies_9 : decode cX12_copies 9 = .ok (.getfield 7, 3) := by decide +kernel
theorem dX12_copies_12 : decode cX12_copies 12 = .ok (.iconst 2, 1) := by decide +kernel
theorem dX12_copies_13 : decode cX12_copies 13 = .ok (.iaload, 1) := by decide +kernel
theorem dX12_copies_14 : decode cX12_copies 14 = .ok (.if_icmp .ge 52, 3) := by decide +kernel
theorem dX12_copies_17 : decode cX12_copies 17 = .ok (.iload 5, 2) := by decide +kernel
theorem dX12_copies_19 : decode cX12_copies 19 = .ok (.ifCond .ne 47, 3) := by decide +kernel
theorem dX12_copies_22 : decode cX12_copies 22 = .ok (.aload_n 0, 1) := by decide +kernel
theorem dX12_copies_23 : decode cX12_copies 23 = .ok (.iload 4, 2) := by decide +kernel
theorem dX12_copies_25 : decode cX12_copies 25 = .ok (.iload_n 1, 1) := by decide +kernel
theorem dX12_copies_26 : decode cX12_copies 26 = .ok (.iload 4, 2) := by decide +kernel
theorem dX12_copies_28 : decode cX12_copies 28 = .ok (.iload_n 2, 1) := by decide +kernel
theorem dX12_copies_29 : decode cX12_copies 29 = .ok (.iload_n 3, 1) := by decide +kernel
theorem dX12_copies_30 : decode cX12_copies 30 = .ok (.invokevirtual 170, 3) := by decide +kernel
theorem dX12_copies_33 : decode cX12_copies 33 = .ok (.istore 5, 2) := by decide +kernel
theorem dX12_copies_35 : decode cX12_copies 35 = .ok (.iload 5, 2) := by decide +kernel
theorem dX12_copies_37 : decode cX12_copies 37 = .ok (.ifCond .ne (-31), 3) := by decide +kernel
theorem dX12_copies_40 : decode cX12_copies 40 = .ok (.iload 4, 2) := by decide +kernel
theorem dX12_copies_42 : decode cX12_copies 42 = .ok (.ifCond .ne 7, 3) := by decide +kernel
theorem dX12_copies_45 : decode cX12_copies 45 = .ok (.aload_n 0, 1) := by decide +kernel
theorem dX12_copies_46 : decode cX12_copies 46 = .ok (.invokevirtual 96, 3) := by decide +kernel
theorem dX12_copies_49 : decode cX12_copies 49 = .ok (.aload_n 0, 1) := by decide +kernel
theorem dX12_copies_50 : decode cX12_copies 50 = .ok (.iload 4, 2) := by decide +kernel
theorem dX12_copies_52 : decode cX12_copies 52 = .ok (.iload_n 1, 1) := by decide +kernel
theorem dX12_copies_53 : decode cX12_copies 53 = .ok (.iload 4, 2) := by decide +kernel
theorem dX12_copies_55 : decode cX12_copies 55 = .ok (.iload_n 2, 1) := by decide +kernel
theorem dX12_copies_56 : decode cX12_copies 56 = .ok (.iload_n 3, 1) := by decide +kernel
theorem dX12_copies_57 : decode cX12_copies 57 = .ok (.invokevirtual 174, 3) := by decide +kernel
theorem dX12_copies_60 : decode cX12_copies 60 = .ok (.iinc 4 1, 3) := by decide +kernel
theorem dX12_copies_63 : decode cX12_copies 63 = .ok (.goto (-57), 3) := by decide +kernel
theorem dX12_copies_66 : decode cX12_copies 66 = .ok (.aload_n 0, 1) := by decide +kernel
theorem dX12_copies_67 : decode cX12_copies 67 = .ok (.iload 5, 2) := by decide +kernel
theorem dX12_copies_69 : decode cX12_copies 69 = .ok (.invokevirtual 80, 3) := by decide +kernel
theorem dX12_copies_72 : decode cX12_copies 72 = .ok (.aload_n 0, 1) := by decide +kernel
theorem dX12_copies_73 : decode cX12_copies 73 = .ok (.iload 5, 2) := by decide +kernel
theorem dX12_copies_75 : decode cX12_copies 75 = .ok (.putfield 76, 3) := by decide +kernel
theorem dX12_copies_78 : decode cX12_copies 78 = .ok (.iload 4, 2) := by decide +kernel
theorem dX12_copies_80 : decode cX12_copies 80 = .ok (.ireturn, 1) := by decide +kernel
theorem dX12_snow_0 : decode cX12_snow 0 = .ok (.iload_n 1, 1) := by decide +kernel
theorem dX12_snow_1 : decode cX12_snow 1 = .ok (.iconst 0, 1) := by decide +kernel
theorem dX12_snow_2 : decode cX12_snow 2 = .ok (.sipush 199, 3) := by decide +kernel
theorem dX12_snow_5 : decode cX12_snow 5 = .ok (.invokestatic 88, 3) := by decide +kernel
theorem dX12_snow_8 : decode cX12_snow 8 = .ok (.ifCond .ne 10, 3) := by decide +kernel
theorem dX12_snow_11 : decode cX12_snow 11 = .ok (.aload_n 0, 1) := by decide +kernel
theorem dX12_snow_12 : decode cX12_snow 12 = .ok (.bipush (-2), 2) := by decide +kernel
theorem dX12_snow_14 : decode cX12_snow 14 = .ok (.invokevirtual 92, 3) := by decide +kernel
theorem dX12_snow_17 : decode cX12_snow 17 = .ok (.ireturn, 1) := by decide +kernel
theorem dX12_snow_18 : decode cX12_snow 18 = .ok (.aload_n 0, 1) := by decide +kernel
theorem dX12_snow_19 : decode cX12_snow 19 = .ok (.invokevirtual 96, 3) := by decide +kernel
theorem dX12_snow_22 : decode cX12_snow 22 = .ok (.iconst 0, 1) := by decide +kernel
theorem dX12_snow_23 : decode cX12_snow 23 = .ok (.istore_n 2, 1) := by decide +kernel
theorem dX12_snow_24 : decode cX12_snow 24 = .ok (.iload_n 2, 1) := by decide +kernel
theorem dX12_snow_25 : decode cX12_snow 25 = .ok (.aload_n 0, 1) := by decide +kernel
theorem dX12_snow_26 : decode cX12_snow 26 = .ok (.getfield 7, 3) := by decide +kernel
theorem dX12_snow_29 : decode cX12_snow 29 = .ok (.iconst 2, 1) := by decide +kernel
theorem dX12_snow_30 : decode cX12_snow 30 = .ok (.iaload, 1) := by decide +kernel
theorem dX12_snow_31 : decode cX12_snow 31 = .ok (.if_icmp .ge 80, 3) := by decide +kernel
theorem dX12_snow_34 : decode cX12_snow 34 = .ok (.aload_n 0, 1) := by decide +kernel
theorem dX12_snow_35 : decode cX12_snow 35 = .ok (.iload_n 2, 1) := by decide +kernel
theorem dX12_snow_36 : decode cX12_snow 36 = .ok (.iload_n 1, 1) := by decide +kernel
theorem dX12_snow_37 : decode cX12_snow 37 = .ok (.invokevirtual 146, 3) := by decide +kernel
theorem dX12_snow_40 : decode cX12_snow 40 = .ok (.istore_n 3, 1) := by decide +kernel
theorem dX12_snow_41 : decode cX12_snow 41 = .ok (.aload_n 0, 1) := by decide +kernel
theorem dX12_snow_42 : decode cX12_snow 42 = .ok (.iload_n 3, 1) := by decide +kernel
theorem dX12_snow_43 : decode cX12_snow 43 = .ok (.invokevirtual 80, 3) := by decide +kernel
theorem dX12_snow_46 : decode cX12_snow 46 = .ok (.aload_n 0, 1) := by decide +kernel
theorem dX12_snow_47 : decode cX12_snow 47 = .ok (.getfield 29, 3) := by decide +kernel
theorem dX12_snow_50 : decode cX12_snow 50 = .ok (.iload_n 2, 1) := by decide +kernel
theorem dX12_snow_51 : decode cX12_snow 51 = .ok (.iload_n 3, 1) := by decide +kernel
theorem dX12_snow_52 : decode cX12_snow 52 = .ok (.ifCond .ne 26, 3) := by decide +kernel
theorem dX12_snow_55 : decode cX12_snow 55 = .ok (.aload_n 0, 1) := by decide +kernel
theorem dX12_snow_56 : decode cX12_snow 56 = .ok (.getfield 7, 3) := by decide +kernel
