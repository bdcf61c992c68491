theorem dX11_note_42 : decode cX11_note 42 = .ok (.ireturn, 1) := by decide +kernel
theorem dX11_odd_0 : decode cX11_odd 0 = .ok (.aload_n 0, 1) := by decide +kernel
theorem dX11_odd_1 : decode cX11_odd 1 = .ok (.getfield 40, 3) := by decide +kernel
theorem dX11_odd_4 : decode cX11_odd 4 = .ok (.invokevirtual 242, 3) := by decide +kernel
theorem dX11_odd_7 : decode cX11_odd 7 = .ok (.pop, 1) := by decide +kernel
theorem dX11_odd_8 : decode cX11_odd 8 = .ok (.aload_n 0, 1) := by decide +kernel
theorem dX11_odd_9 : decode cX11_odd 9 = .ok (.aload_n 0, 1) := by decide +kernel
theorem dX11_odd_10 : decode cX11_odd 10 = .ok (.getfield 40, 3) := by decide +kernel
theorem dX11_odd_13 : decode cX11_odd 13 = .ok (.iload_n 1, 1) := by decide +kernel
theorem dX11_odd_14 : decode cX11_odd 14 = .ok (.invokevirtual 245, 3) := by decide +kernel
theorem dX11_odd_17 : decode cX11_odd 17 = .ok (.invokevirtual 98, 3) := by decide +kernel
theorem dX11_odd_20 : decode cX11_odd 20 = .ok (.ireturn, 1) := by decide +kernel
theorem dX11_oneWay_0 : decode cX11_oneWay 0 = .ok (.aload_n 0, 1) := by decide +kernel
theorem dX11_oneWay_1 : decode cX11_oneWay 1 = .ok (.iload_n 1, 1) := by decide +kernel
theorem dX11_oneWay_2 : decode cX11_oneWay 2 = .ok (.iconst 5, 1) := by decide +kernel
theorem dX11_oneWay_3 : decode cX11_oneWay 3 = .ok (.iload_n 2, 1) := by decide +kernel
theorem dX11_oneWay_4 : decode cX11_oneWay 4 = .ok (.ifCond .eq 7, 3) := by decide +kernel
theorem dX11_oneWay_7 : decode cX11_oneWay 7 = .ok (.iconst 1, 1) := by decide +kernel
theorem dX11_oneWay_8 : decode cX11_oneWay 8 = .ok (.goto 4, 3) := by decide +kernel
theorem dX11_oneWay_11 : decode cX11_oneWay 11 = .ok (.iconst 0, 1) := by decide +kernel
theorem dX11_oneWay_12 : decode cX11_oneWay 12 = .ok (.invokevirtual 122, 3) := by decide +kernel
theorem dX11_oneWay_15 : decode cX11_oneWay 15 = .ok (.ireturn, 1) := by decide +kernel
theorem dX11_out_0 : decode cX11_out 0 = .ok (.aload_n 0, 1) := by decide +kernel
theorem dX11_out_1 : decode cX11_out 1 = .ok (.getfield 19, 3) := by decide +kernel
theorem dX11_out_4 : decode cX11_out 4 = .ok (.getfield 203, 3) := by decide +kernel
theorem dX11_out_7 : decode cX11_out 7 = .ok (.iload_n 1, 1) := by decide +kernel
theorem dX11_out_8 : decode cX11_out 8 = .ok (.invokevirtual 126, 3) := by decide +kernel
theorem dX11_out_11 : decode cX11_out 11 = .ok (.ifCond .ne 10, 3) := by decide +kernel
theorem dX11_out_14 : decode cX11_out 14 = .ok (.aload_n 0, 1) := by decide +kernel
theorem dX11_out_15 : decode cX11_out 15 = .ok (.bipush (-2), 2) := by decide +kernel
theorem dX11_out_17 : decode cX11_out 17 = .ok (.invokevirtual 88, 3) := by decide +kernel
theorem dX11_out_20 : decode cX11_out 20 = .ok (.ireturn, 1) := by decide +kernel
theorem dX11_out_21 : decode cX11_out 21 = .ok (.aload_n 0, 1) := by decide +kernel
theorem dX11_out_22 : decode cX11_out 22 = .ok (.getfield 19, 3) := by decide +kernel
theorem dX11_out_25 : decode cX11_out 25 = .ok (.iload_n 1, 1) := by decide +kernel
theorem dX11_out_26 : decode cX11_out 26 = .ok (.invokevirtual 225, 3) := by decide +kernel
theorem dX11_out_29 : decode cX11_out 29 = .ok (.istore_n 2, 1) := by decide +kernel
theorem dX11_out_30 : decode cX11_out 30 = .ok (.aload_n 0, 1) := by decide +kernel
theorem dX11_out_31 : decode cX11_out 31 = .ok (.invokevirtual 95, 3) := by decide +kernel
theorem dX11_out_34 : decode cX11_out 34 = .ok (.aload_n 0, 1) := by decide +kernel
theorem dX11_out_35 : decode cX11_out 35 = .ok (.getfield 19, 3) := by decide +kernel
theorem dX11_out_38 : decode cX11_out 38 = .ok (.iload_n 1, 1) := by decide +kernel
theorem dX11_out_39 : decode cX11_out 39 = .ok (.invokevirtual 217, 3) := by decide +kernel
theorem dX11_out_42 : decode cX11_out 42 = .ok (.aload_n 0, 1) := by decide +kernel
theorem dX11_out_43 : decode cX11_out 43 = .ok (.iload_n 2, 1) := by decide +kernel
theorem dX11_out_44 : decode cX11_out 44 = .ok (.ifCond .eq 7, 3) := by decide +kernel
theorem dX11_out_47 : decode cX11_out 47 = .ok (.iconst 0, 1) := by decide +kernel
theorem dX11_out_48 : decode cX11_out 48 = .ok (.goto 4, 3) := by decide +kernel
theorem dX11_out_51 : decode cX11_out 51 = .ok (.iconst 1, 1) := by decide +kernel
theorem dX11_out_52 : decode cX11_out 52 = .ok (.invokevirtual 98, 3) := by decide +kernel
theorem dX11_out_55 : decode cX11_out 55 = .ok (.ireturn, 1) := by decide +kernel
theorem dX11_pair_0 : decode cX11_pair 0 = .ok (.aload_n 0, 1) := by decide +kernel
theorem dX11_pair_1 : decode cX11_pair 1 = .ok (.getfield 19, 3) := by decide +kernel
theorem dX11_pair_4 : decode cX11_pair 4 = .ok (.getfield 203, 3) := by decide +kernel
theorem dX11_pair_7 : decode cX11_pair 7 = .ok (.iload_n 1, 1) := by decide +kernel
theorem dX11_pair_8 : decode cX11_pair 8 = .ok (.invokevirtual 126, 3) := by decide +kernel
theorem dX11_pair_11 : decode cX11_pair 11 = .ok (.ifCond .eq 33, 3) := by decide +kernel
theorem dX11_pair_14 : decode cX11_pair 14 = .ok (.aload_n 0, 1) := by decide +kernel
theorem dX11_pair_15 : decode cX11_pair 15 = .ok (.getfield 19, 3) := by decide +kernel
theorem dX11_pair_18 : decode cX11_pair 18 = .ok (.getfield 203, 3) := by decide +kernel
theorem dX11_pair_21 : decode cX11_pair 21 = .ok (.iload_n 2, 1) := by decide +kernel
theorem dX11_pair_22 : decode cX11_pair 22 = .ok (.invokevirtual 126, 3) := by decide +kernel
theorem dX11_pair_25 : decode cX11_pair 25 = .ok (.ifCond .eq 19, 3) := by decide +kernel
theorem dX11_pair_28 : decode cX11_pair 28 = .ok (.iload_n 1, 1) := by decide +kernel
theorem dX11_pair_29 : decode cX11_pair 29 = .ok (.iload_n 2, 1) := by decide +kernel
theorem dX11_pair_30 : decode cX11_pair 30 = .ok (.if_icmp .eq 14, 3) := by decide +kernel
theorem dX11_pair_33 : decode cX11_pair 33 = .ok (.iload_n 3, 1) := by decide +kernel
theorem dX11_pair_34 : decode cX11_pair 34 = .ok (.ifCond .lt 10, 3) := by decide +kernel
theorem dX11_pair_37 : decode cX11_pair 37 = .ok (.iload_n 3, 1) := by decide +kernel
theorem dX11_pair_38 : decode cX11_pair 38 = .ok (.sipush 10000, 3) := by decide +kernel
theorem dX11_pair_41 : decode cX11_pair 41 = .ok (.if_icmp .le 10, 3) := by decide +kernel
theorem dX11_pair_44 : decode cX11_pair 44 = .ok (.aload_n 0, 1) := by decide +kernel
theorem dX11_pair_45 : decode cX11_pair 45 = .ok (.bipush (-2), 2) := by decide +kernel
theorem dX11_pair_47 : decode cX11_pair 47 = .ok (.invokevirtual 88, 3) := by decide +kernel
theorem dX11_pair_50 : decode cX11_pair 50 = .ok (.ireturn, 1) := by decide +kernel
theorem dX11_pair_51 : decode cX11_pair 51 = .ok (.aload_n 0, 1) := by decide +kernel
theorem dX11_pair_52 : decode cX11_pair 52 = .ok (.getfield 19, 3) := by decide +kernel
theorem dX11_pair_55 : decode cX11_pair 55 = .ok (.getfield 203, 3) := by decide +kernel
theorem dX11_pair_58 : decode cX11_pair 58 = .ok (.getfield 109, 3) := by decide +kernel
theorem dX11_pair_61 : decode cX11_pair 61 = .ok (.bipush 12, 2) := by decide +kernel
theorem dX11_pair_63 : decode cX11_pair 63 = .ok (.if_icmp .lt 10, 3) := by decide +kernel
theorem dX11_pair_66 : decode cX11_pair 66 = .ok (.aload_n 0, 1) := by decide +kernel
theorem dX11_pair_67 : decode cX11_pair 67 = .ok (.bipush (-3), 2) := by decide +kernel
theorem dX11_pair_69 : decode cX11_pair 69 = .ok (.invokevirtual 88, 3) := by decide +kernel
theorem dX11_pair_72 : decode cX11_pair 72 = .ok (.ireturn, 1) := by decide +kernel
theorem dX11_pair_73 : decode cX11_pair 73 = .ok (.aload_n 0, 1) := by decide +kernel
theorem dX11_pair_74 : decode cX11_pair 74 = .ok (.iload_n 1, 1) := by decide +kernel
theorem dX11_pair_75 : decode cX11_pair 75 = .ok (.invokevirtual 214, 3) := by decide +kernel
theorem dX11_pair_78 : decode cX11_pair 78 = .ok (.istore 4, 2) := by decide +kernel
theorem dX11_pair_80 : decode cX11_pair 80 = .ok (.iload 4, 2) := by decide +kernel
theorem dX11_pair_82 : decode cX11_pair 82 = .ok (.ifCond .ne 10, 3) := by decide +kernel
theorem dX11_pair_85 : decode cX11_pair 85 = .ok (.aload_n 0, 1) := by decide +kernel
theorem dX11_pair_86 : decode cX11_pair 86 = .ok (.iload_n 2, 1) := by decide +kernel
theorem dX11_pair_87 : decode cX11_pair 87 = .ok (.invokevirtual 214, 3) := by decide +kernel
theorem dX11_pair_90 : decode cX11_pair 90 = .ok (.istore 4, 2) := by decide +kernel
theorem dX11_pair_92 : decode cX11_pair 92 = .ok (.iload 4, 2) := by decide +kernel
theorem dX11_pair_94 : decode cX11_pair 94 = .ok (.ifCond .eq 10, 3) := by decide +kernel
theorem dX11_pair_97 : decode cX11_pair 97 = .ok (.aload_n 0, 1) := by decide +kernel
theorem dX11_pair_98 : decode cX11_pair 98 = .ok (.iload 4, 2) := by decide +kernel
theorem dX11_pair_100 : decode cX11_pair 100 = .ok (.invokevirtual 88, 3) := by decide +kernel
theorem dX11_pair_103 : decode cX11_pair 103 = .ok (.ireturn, 1) := by decide +kernel
theorem dX11_pair_104 : decode cX11_pair 104 = .ok (.aload_n 0, 1) := by decide +kernel
theorem dX11_pair_105 : decode cX11_pair 105 = .ok (.invokevirtual 95, 3) := by decide +kernel
theorem dX11_pair_108 : decode cX11_pair 108 = .ok (.aload_n 0, 1) := by decide +kernel
theorem dX11_pair_109 : decode cX11_pair 109 = .ok (.getfield 19, 3) := by decide +kernel
theorem dX11_pair_112 : decode cX11_pair 112 = .ok (.iload_n 1, 1) := by decide +kernel
theorem dX11_pair_113 : decode cX11_pair 113 = .ok (.invokevirtual 217, 3) := by decide +kernel
theorem dX11_pair_116 : decode cX11_pair 116 = .ok (.aload_n 0, 1) := by decide +kernel
theorem dX11_pair_117 : decode cX11_pair 117 = .ok (.getfield 19, 3) := by decide +kernel
theorem dX11_pair_120 : decode cX11_pair 120 = .ok (.iload_n 2, 1) := by decide +kernel
theorem dX11_pair_121 : decode cX11_pair 121 = .ok (.invokevirtual 217, 3) := by decide +kernel
theorem dX11_pair_124 : decode cX11_pair 124 = .ok (.aload_n 0, 1) := by decide +kernel
theorem dX11_pair_125 : decode cX11_pair 125 = .ok (.aload_n 0, 1) := by decide +kernel
theorem dX11_pair_126 : decode cX11_pair 126 = .ok (.new 220, 3) := by decide +kernel
theorem dX11_pair_129 : decode cX11_pair 129 = .ok (.dup, 1) := by decide +kernel
theorem dX11_pair_130 : decode cX11_pair 130 = .ok (.aload_n 0, 1) := by decide +kernel
theorem dX11_pair_131 : decode cX11_pair 131 = .ok (.getfield 10, 3) := by decide +kernel
theorem dX11_pair_134 : decode cX11_pair 134 = .ok (.aload_n 0, 1) := by decide +kernel
theorem dX11_pair_135 : decode cX11_pair 135 = .ok (.getfield 55, 3) := by decide +kernel
theorem dX11_pair_138 : decode cX11_pair 138 = .ok (.iload_n 1, 1) := by decide +kernel
theorem dX11_pair_139 : decode cX11_pair 139 = .ok (.aaload, 1) := by decide +kernel
theorem dX11_pair_140 : decode cX11_pair 140 = .ok (.aload_n 0, 1) := by decide +kernel
theorem dX11_pair_141 : decode cX11_pair 141 = .ok (.getfield 55, 3) := by decide +kernel
theorem dX11_pair_144 : decode cX11_pair 144 = .ok (.iload_n 2, 1) := by decide +kernel
theorem dX11_pair_145 : decode cX11_pair 145 = .ok (.aaload, 1) := by decide +kernel
theorem dX11_pair_146 : decode cX11_pair 146 = .ok (.invokespecial 222, 3) := by decide +kernel
theorem dX11_pair_149 : decode cX11_pair 149 = .ok (.iconst 4, 1) := by decide +kernel
theorem dX11_pair_150 : decode cX11_pair 150 = .ok (.iload_n 3, 1) := by decide +kernel
theorem dX11_pair_151 : decode cX11_pair 151 = .ok (.invokevirtual 210, 3) := by decide +kernel
theorem dX11_pair_154 : decode cX11_pair 154 = .ok (.invokevirtual 98, 3) := by decide +kernel
theorem dX11_pair_157 : decode cX11_pair 157 = .ok (.ireturn, 1) := by decide +kernel
theorem dX11_part_0 : decode cX11_part 0 = .ok (.aload_n 0, 1) := by decide +kernel
theorem dX11_part_1 : decode cX11_part 1 = .ok (.getfield 19, 3) := by decide +kernel
theorem dX11_part_4 : decode cX11_part 4 = .ok (.getfield 203, 3) := by decide +kernel
theorem dX11_part_7 : decode cX11_part 7 = .ok (.iload_n 1, 1) := by decide +kernel
theorem dX11_part_8 : decode cX11_part 8 = .ok (.invokevirtual 126, 3) := by decide +kernel
theorem dX11_part_11 : decode cX11_part 11 = .ok (.ifCond .eq 13, 3) := by decide +kernel
theorem dX11_part_14 : decode cX11_part 14 = .ok (.iload_n 2, 1) := by decide +kernel
theorem dX11_part_15 : decode cX11_part 15 = .ok (.ifCond .lt 9, 3) := by decide +kernel
theorem dX11_part_18 : decode cX11_part 18 = .ok (.iload_n 2, 1) := by decide +kernel
theorem dX11_part_19 : decode cX11_part 19 = .ok (.bipush 9, 2) := by decide +kernel
theorem dX11_part_21 : decode cX11_part 21 = .ok (.if_icmp .lt 10, 3) := by decide +kernel
theorem dX11_part_24 : decode cX11_part 24 = .ok (.aload_n 0, 1) := by decide +kernel
theorem dX11_part_25 : decode cX11_part 25 = .ok (.bipush (-2), 2) := by decide +kernel
theorem dX11_part_27 : decode cX11_part 27 = .ok (.invokevirtual 88, 3) := by decide +kernel
theorem dX11_part_30 : decode cX11_part 30 = .ok (.ireturn, 1) := by decide +kernel
theorem dX11_part_31 : decode cX11_part 31 = .ok (.aload_n 0, 1) := by decide +kernel
theorem dX11_part_32 : decode cX11_part 32 = .ok (.aload_n 0, 1) := by decide +kernel
theorem dX11_part_33 : decode cX11_part 33 = .ok (.getfield 19, 3) := by decide +kernel
theorem dX11_part_36 : decode cX11_part 36 = .ok (.getfield 203, 3) := by decide +kernel
theorem dX11_part_39 : decode cX11_part 39 = .ok (.iload_n 1, 1) := by decide +kernel
theorem dX11_part_40 : decode cX11_part 40 = .ok (.iload_n 2, 1) := by decide +kernel
theorem dX11_part_41 : decode cX11_part 41 = .ok (.invokevirtual 129, 3) := by decide +kernel
theorem dX11_part_44 : decode cX11_part 44 = .ok (.invokevirtual 98, 3) := by decide +kernel
theorem dX11_part_47 : decode cX11_part 47 = .ok (.ireturn, 1) := by decide +kernel
theorem dX11_partner_0 : decode cX11_partner 0 = .ok (.aload_n 0, 1) := by decide +kernel
theorem dX11_partner_1 : decode cX11_partner 1 = .ok (.getfield 19, 3) := by decide +kernel
theorem dX11_partner_4 : decode cX11_partner 4 = .ok (.iload_n 1, 1) := by decide +kernel
theorem dX11_partner_5 : decode cX11_partner 5 = .ok (.invokevirtual 101, 3) := by decide +kernel
theorem dX11_partner_8 : decode cX11_partner 8 = .ok (.ifCond .eq 19, 3) := by decide +kernel
theorem dX11_partner_11 : decode cX11_partner 11 = .ok (.aload_n 0, 1) := by decide +kernel
theorem dX11_partner_12 : decode cX11_partner 12 = .ok (.aload_n 0, 1) := by decide +kernel
theorem dX11_partner_13 : decode cX11_partner 13 = .ok (.getfield 19, 3) := by decide +kernel
theorem dX11_partner_16 : decode cX11_partner 16 = .ok (.getfield 280, 3) := by decide +kernel
theorem dX11_partner_19 : decode cX11_partner 19 = .ok (.iload_n 1, 1) := by decide +kernel
theorem dX11_partner_20 : decode cX11_partner 20 = .ok (.iaload, 1) := by decide +kernel
theorem dX11_partner_21 : decode cX11_partner 21 = .ok (.invokevirtual 98, 3) := by decide +kernel
theorem dX11_partner_24 : decode cX11_partner 24 = .ok (.goto 9, 3) := by decide +kernel
theorem dX11_partner_27 : decode cX11_partner 27 = .ok (.aload_n 0, 1) := by decide +kernel
theorem dX11_partner_28 : decode cX11_partner 28 = .ok (.bipush (-2), 2) := by decide +kernel
theorem dX11_partner_30 : decode cX11_partner 30 = .ok (.invokevirtual 88, 3) := by decide +kernel
theorem dX11_partner_33 : decode cX11_partner 33 = .ok (.ireturn, 1) := by decide +kernel
theorem dX11_plough_0 : decode cX11_plough 0 = .ok (.iload_n 1, 1) := by decide +kernel
theorem dX11_plough_1 : decode cX11_plough 1 = .ok (.ifCond .lt 19, 3) := by decide +kernel
theorem dX11_plough_4 : decode cX11_plough 4 = .ok (.iload_n 1, 1) := by decide +kernel
theorem dX11_plough_5 : decode cX11_plough 5 = .ok (.iconst 3, 1) := by decide +kernel
theorem dX11_plough_6 : decode cX11_plough 6 = .ok (.if_icmp .gt 14, 3) := by decide +kernel
theorem dX11_plough_9 : decode cX11_plough 9 = .ok (.iload_n 2, 1) := by decide +kernel
theorem dX11_plough_10 : decode cX11_plough 10 = .ok (.ifCond .lt 10, 3) := by decide +kernel
theorem dX11_plough_13 : decode cX11_plough 13 = .ok (.iload_n 2, 1) := by decide +kernel
theorem dX11_plough_14 : decode cX11_plough 14 = .ok (.sipush 10000, 3) := by decide +kernel
theorem dX11_plough_17 : decode cX11_plough 17 = .ok (.if_icmp .le 10, 3) := by decide +kernel
theorem dX11_plough_20 : decode cX11_plough 20 = .ok (.aload_n 0, 1) := by decide +kernel
theorem dX11_plough_21 : decode cX11_plough 21 = .ok (.bipush (-2), 2) := by decide +kernel
theorem dX11_plough_23 : decode cX11_plough 23 = .ok (.invokevirtual 88, 3) := by decide +kernel
theorem dX11_plough_26 : decode cX11_plough 26 = .ok (.ireturn, 1) := by decide +kernel
theorem dX11_plough_27 : decode cX11_plough 27 = .ok (.aload_n 0, 1) := by decide +kernel
theorem dX11_plough_28 : decode cX11_plough 28 = .ok (.getfield 19, 3) := by decide +kernel
theorem dX11_plough_31 : decode cX11_plough 31 = .ok (.getfield 203, 3) := by decide +kernel
theorem dX11_plough_34 : decode cX11_plough 34 = .ok (.getfield 109, 3) := by decide +kernel
theorem dX11_plough_37 : decode cX11_plough 37 = .ok (.bipush 12, 2) := by decide +kernel
theorem dX11_plough_39 : decode cX11_plough 39 = .ok (.if_icmp .lt 10, 3) := by decide +kernel
theorem dX11_plough_42 : decode cX11_plough 42 = .ok (.aload_n 0, 1) := by decide +kernel
theorem dX11_plough_43 : decode cX11_plough 43 = .ok (.bipush (-3), 2) := by decide +kernel
theorem dX11_plough_45 : decode cX11_plough 45 = .ok (.invokevirtual 88, 3) := by decide +kernel
theorem dX11_plough_48 : decode cX11_plough 48 = .ok (.ireturn, 1) := by decide +kernel
theorem dX11_plough_49 : decode cX11_plough 49 = .ok (.aload_n 0, 1) := by decide +kernel
theorem dX11_plough_50 : decode cX11_plough 50 = .ok (.invokevirtual 95, 3) := by decide +kernel
theorem dX11_plough_53 : decode cX11_plough 53 = .ok (.aload_n 0, 1) := by decide +kernel
theorem dX11_plough_54 : decode cX11_plough 54 = .ok (.aload_n 0, 1) := by decide +kernel
theorem dX11_plough_55 : decode cX11_plough 55 = .ok (.aload_n 0, 1) := by decide +kernel
theorem dX11_plough_56 : decode cX11_plough 56 = .ok (.iload_n 1, 1) := by decide +kernel
theorem dX11_plough_57 : decode cX11_plough 57 = .ok (.invokevirtual 206, 3) := by decide +kernel
theorem dX11_plough_60 : decode cX11_plough 60 = .ok (.iload_n 1, 1) := by decide +kernel
theorem dX11_plough_61 : decode cX11_plough 61 = .ok (.iload_n 2, 1) := by decide +kernel
theorem dX11_plough_62 : decode cX11_plough 62 = .ok (.invokevirtual 210, 3) := by decide +kernel
theorem dX11_plough_65 : decode cX11_plough 65 = .ok (.invokevirtual 98, 3) := by decide +kernel
theorem dX11_plough_68 : decode cX11_plough 68 = .ok (.ireturn, 1) := by decide +kernel
theorem dX11_put_0 : decode cX11_put 0 = .ok (.aload_n 0, 1) := by decide +kernel
theorem dX11_put_1 : decode cX11_put 1 = .ok (.getfield 77, 3) := by decide +kernel
theorem dX11_put_4 : decode cX11_put 4 = .ok (.aload_n 0, 1) := by decide +kernel
theorem dX11_put_5 : decode cX11_put 5 = .ok (.getfield 73, 3) := by decide +kernel
theorem dX11_put_8 : decode cX11_put 8 = .ok (.arraylength, 1) := by decide +kernel
theorem dX11_put_9 : decode cX11_put 9 = .ok (.if_icmp .lt 32, 3) := by decide +kernel
theorem dX11_put_12 : decode cX11_put 12 = .ok (.iconst 2, 1) := by decide +kernel
theorem dX11_put_13 : decode cX11_put 13 = .ok (.aload_n 0, 1) := by decide +kernel
theorem dX11_put_14 : decode cX11_put 14 = .ok (.getfield 73, 3) := by decide +kernel
theorem dX11_put_17 : decode cX11_put 17 = .ok (.arraylength, 1) := by decide +kernel
theorem dX11_put_18 : decode cX11_put 18 = .ok (.imul, 1) := by decide +kernel
theorem dX11_put_19 : decode cX11_put 19 = .ok (.newarray .char, 2) := by decide +kernel
theorem dX11_put_21 : decode cX11_put 21 = .ok (.astore_n 2, 1) := by decide +kernel
theorem dX11_put_22 : decode cX11_put 22 = .ok (.aload_n 0, 1) := by decide +kernel
theorem dX11_put_23 : decode cX11_put 23 = .ok (.getfield 73, 3) := by decide +kernel
theorem dX11_put_26 : decode cX11_put 26 = .ok (.iconst 0, 1) := by decide +kernel
theorem dX11_put_27 : decode cX11_put 27 = .ok (.aload_n 2, 1) := by decide +kernel
theorem dX11_put_28 : decode cX11_put 28 = .ok (.iconst 0, 1) := by decide +kernel
theorem dX11_put_29 : decode cX11_put 29 = .ok (.aload_n 0, 1) := by decide +kernel
theorem dX11_put_30 : decode cX11_put 30 = .ok (.getfield 77, 3) := by decide +kernel
theorem dX11_put_33 : decode cX11_put 33 = .ok (.invokestatic 380, 3) := by decide +kernel
theorem dX11_put_36 : decode cX11_put 36 = .ok (.aload_n 0, 1) := by decide +kernel
theorem dX11_put_37 : decode cX11_put 37 = .ok (.aload_n 2, 1) := by decide +kernel
theorem dX11_put_38 : decode cX11_put 38 = .ok (.putfield 73, 3) := by decide +kernel
theorem dX11_put_41 : decode cX11_put 41 = .ok (.aload_n 0, 1) := by decide +kernel
theorem dX11_put_42 : decode cX11_put 42 = .ok (.getfield 73, 3) := by decide +kernel
theorem dX11_put_45 : decode cX11_put 45 = .ok (.aload_n 0, 1) := by decide +kernel
theorem dX11_put_46 : decode cX11_put 46 = .ok (.getfield 77, 3) := by decide +kernel
theorem dX11_put_49 : decode cX11_put 49 = .ok (.iload_n 1, 1) := by decide +kernel
theorem dX11_put_50 : decode cX11_put 50 = .ok (.castore, 1) := by decide +kernel
theorem dX11_put_51 : decode cX11_put 51 = .ok (.aload_n 0, 1) := by decide +kernel
theorem dX11_put_52 : decode cX11_put 52 = .ok (.dup, 1) := by decide +kernel
theorem dX11_put_53 : decode cX11_put 53 = .ok (.getfield 77, 3) := by decide +kernel
theorem dX11_put_56 : decode cX11_put 56 = .ok (.iconst 1, 1) := by decide +kernel
theorem dX11_put_57 : decode cX11_put 57 = .ok (.iadd, 1) := by decide +kernel
theorem dX11_put_58 : decode cX11_put 58 = .ok (.putfield 77, 3) := by decide +kernel
theorem dX11_put_61 : decode cX11_put 61 = .ok (.return_, 1) := by decide +kernel
theorem dX11_read_0 : decode cX11_read 0 = .ok (.aload_n 0, 1) := by decide +kernel
theorem dX11_read_1 : decode cX11_read 1 = .ok (.getfield 19, 3) := by decide +kernel
theorem dX11_read_4 : decode cX11_read 4 = .ok (.getfield 144, 3) := by decide +kernel
theorem dX11_read_7 : decode cX11_read 7 = .ok (.iload_n 1, 1) := by decide +kernel
theorem dX11_read_8 : decode cX11_read 8 = .ok (.invokevirtual 126, 3) := by decide +kernel
theorem dX11_read_11 : decode cX11_read 11 = .ok (.ifCond .ne 10, 3) := by decide +kernel
theorem dX11_read_14 : decode cX11_read 14 = .ok (.aload_n 0, 1) := by decide +kernel
theorem dX11_read_15 : decode cX11_read 15 = .ok (.bipush (-2), 2) := by decide +kernel
theorem dX11_read_17 : decode cX11_read 17 = .ok (.invokevirtual 88, 3) := by decide +kernel
theorem dX11_read_20 : decode cX11_read 20 = .ok (.ireturn, 1) := by decide +kernel
theorem dX11_read_21 : decode cX11_read 21 = .ok (.aload_n 0, 1) := by decide +kernel
theorem dX11_read_22 : decode cX11_read 22 = .ok (.getfield 19, 3) := by decide +kernel
theorem dX11_read_25 : decode cX11_read 25 = .ok (.iload_n 1, 1) := by decide +kernel
theorem dX11_read_26 : decode cX11_read 26 = .ok (.iload_n 2, 1) := by decide +kernel
theorem dX11_read_27 : decode cX11_read 27 = .ok (.invokevirtual 173, 3) := by decide +kernel
theorem dX11_read_30 : decode cX11_read 30 = .ok (.istore_n 3, 1) := by decide +kernel
theorem dX11_read_31 : decode cX11_read 31 = .ok (.iload_n 3, 1) := by decide +kernel
theorem dX11_read_32 : decode cX11_read 32 = .ok (.ifCond .eq 11, 3) := by decide +kernel
theorem dX11_read_35 : decode cX11_read 35 = .ok (.aload_n 0, 1) := by decide +kernel
theorem dX11_read_36 : decode cX11_read 36 = .ok (.iload_n 3, 1) := by decide +kernel
theorem dX11_read_37 : decode cX11_read 37 = .ok (.invokevirtual 88, 3) := by decide +kernel
theorem dX11_read_40 : decode cX11_read 40 = .ok (.goto 16, 3) := by decide +kernel
theorem dX11_read_43 : decode cX11_read 43 = .ok (.aload_n 0, 1) := by decide +kernel
theorem dX11_read_44 : decode cX11_read 44 = .ok (.aload_n 0, 1) := by decide +kernel
theorem dX11_read_45 : decode cX11_read 45 = .ok (.getfield 19, 3) := by decide +kernel
theorem dX11_read_48 : decode cX11_read 48 = .ok (.iload_n 1, 1) := by decide +kernel
theorem dX11_read_49 : decode cX11_read 49 = .ok (.iload_n 2, 1) := by decide +kernel
theorem dX11_read_50 : decode cX11_read 50 = .ok (.invokevirtual 176, 3) := by decide +kernel
theorem dX11_read_53 : decode cX11_read 53 = .ok (.invokevirtual 98, 3) := by decide +kernel
theorem dX11_read_56 : decode cX11_read 56 = .ok (.ireturn, 1) := by decide +kernel
theorem dX11_readGauges_0 : decode cX11_readGauges 0 = .ok (.iconst 0, 1) := by decide +kernel
theorem dX11_readGauges_1 : decode cX11_readGauges 1 = .ok (.istore_n 2, 1) := by decide +kernel
theorem dX11_readGauges_2 : decode cX11_readGauges 2 = .ok (.iload_n 2, 1) := by decide +kernel
theorem dX11_readGauges_3 : decode cX11_readGauges 3 = .ok (.aload_n 0, 1) := by decide +kernel
theorem dX11_readGauges_4 : decode cX11_readGauges 4 = .ok (.getfield 19, 3) := by decide +kernel
theorem dX11_readGauges_7 : decode cX11_readGauges 7 = .ok (.getfield 144, 3) := by decide +kernel
theorem dX11_readGauges_10 : decode cX11_readGauges 10 = .ok (.getfield 109, 3) := by decide +kernel
theorem dX11_readGauges_13 : decode cX11_readGauges 13 = .ok (.if_icmp .ge 52, 3) := by decide +kernel
theorem dX11_readGauges_16 : decode cX11_readGauges 16 = .ok (.aload_n 0, 1) := by decide +kernel
theorem dX11_readGauges_17 : decode cX11_readGauges 17 = .ok (.getfield 19, 3) := by decide +kernel
theorem dX11_readGauges_20 : decode cX11_readGauges 20 = .ok (.iload_n 2, 1) := by decide +kernel
theorem dX11_readGauges_21 : decode cX11_readGauges 21 = .ok (.iload_n 1, 1) := by decide +kernel
theorem dX11_readGauges_22 : decode cX11_readGauges 22 = .ok (.invokevirtual 173, 3) := by decide +kernel
theorem dX11_readGauges_25 : decode cX11_readGauges 25 = .ok (.istore_n 3, 1) := by decide +kernel
theorem dX11_readGauges_26 : decode cX11_readGauges 26 = .ok (.aload_n 0, 1) := by decide +kernel
theorem dX11_readGauges_27 : decode cX11_readGauges 27 = .ok (.getfield 10, 3) := by decide +kernel
theorem dX11_readGauges_30 : decode cX11_readGauges 30 = .ok (.iload_n 3, 1) := by decide +kernel
theorem dX11_readGauges_31 : decode cX11_readGauges 31 = .ok (.invokevirtual 324, 3) := by decide +kernel
theorem dX11_readGauges_34 : decode cX11_readGauges 34 = .ok (.aload_n 0, 1) := by decide +kernel
theorem dX11_readGauges_35 : decode cX11_readGauges 35 = .ok (.getfield 59, 3) := by decide +kernel
theorem dX11_readGauges_38 : decode cX11_readGauges 38 = .ok (.iload_n 2, 1) := by decide +kernel
theorem dX11_readGauges_39 : decode cX11_readGauges 39 = .ok (.iload_n 3, 1) := by decide +kernel
theorem dX11_readGauges_40 : decode cX11_readGauges 40 = .ok (.ifCond .ne 15, 3) := by decide +kernel
theorem dX11_readGauges_43 : decode cX11_readGauges 43 = .ok (.aload_n 0, 1) := by decide +kernel
theorem dX11_readGauges_44 : decode cX11_readGauges 44 = .ok (.getfield 19, 3) := by decide +kernel
theorem dX11_readGauges_47 : decode cX11_readGauges 47 = .ok (.iload_n 2, 1) := by decide +kernel
theorem dX11_readGauges_48 : decode cX11_readGauges 48 = .ok (.iload_n 1, 1) := by decide +kernel
theorem dX11_readGauges_49 : decode cX11_readGauges 49 = .ok (.invokevirtual 335, 3) := by decide +kernel
theorem dX11_readGauges_52 : decode cX11_readGauges 52 = .ok (.goto 6, 3) := by decide +kernel
theorem dX11_readGauges_55 : decode cX11_readGauges 55 = .ok (.ldc_w 339, 3) := by decide +kernel
theorem dX11_readGauges_58 : decode cX11_readGauges 58 = .ok (.fastore, 1) := by decide +kernel
theorem dX11_readGauges_59 : decode cX11_readGauges 59 = .ok (.iinc 2 1, 3) := by decide +kernel
theorem dX11_readGauges_62 : decode cX11_readGauges 62 = .ok (.goto (-60), 3) := by decide +kernel
theorem dX11_readGauges_65 : decode cX11_readGauges 65 = .ok (.return_, 1) := by decide +kernel
theorem dX11_reading_0 : decode cX11_reading 0 = .ok (.aload_n 0, 1) := by decide +kernel
theorem dX11_reading_1 : decode cX11_reading 1 = .ok (.getfield 19, 3) := by decide +kernel
theorem dX11_reading_4 : decode cX11_reading 4 = .ok (.getfield 144, 3) := by decide +kernel
theorem dX11_reading_7 : decode cX11_reading 7 = .ok (.iload_n 1, 1) := by decide +kernel
theorem dX11_reading_8 : decode cX11_reading 8 = .ok (.invokevirtual 126, 3) := by decide +kernel
theorem dX11_reading_11 : decode cX11_reading 11 = .ok (.ifCond .ne 10, 3) := by decide +kernel
theorem dX11_reading_14 : decode cX11_reading 14 = .ok (.aload_n 0, 1) := by decide +kernel
theorem dX11_reading_15 : decode cX11_reading 15 = .ok (.bipush (-2), 2) := by decide +kernel
theorem dX11_reading_17 : decode cX11_reading 17 = .ok (.invokevirtual 88, 3) := by decide +kernel
theorem dX11_reading_20 : decode cX11_reading 20 = .ok (.ireturn, 1) := by decide +kernel
theorem dX11_reading_21 : decode cX11_reading 21 = .ok (.aload_n 0, 1) := by decide +kernel
theorem dX11_reading_22 : decode cX11_reading 22 = .ok (.iload_n 1, 1) := by decide +kernel
theorem dX11_reading_23 : decode cX11_reading 23 = .ok (.iload_n 2, 1) := by decide +kernel
theorem dX11_reading_24 : decode cX11_reading 24 = .ok (.aload_n 0, 1) := by decide +kernel
theorem dX11_reading_25 : decode cX11_reading 25 = .ok (.getfield 19, 3) := by decide +kernel
theorem dX11_reading_28 : decode cX11_reading 28 = .ok (.iload_n 1, 1) := by decide +kernel
theorem dX11_reading_29 : decode cX11_reading 29 = .ok (.invokevirtual 158, 3) := by decide +kernel
theorem dX11_reading_32 : decode cX11_reading 32 = .ok (.ifCond .eq 11, 3) := by decide +kernel
theorem dX11_reading_35 : decode cX11_reading 35 = .ok (.iload_n 3, 1) := by decide +kernel
theorem dX11_reading_36 : decode cX11_reading 36 = .ok (.i2s, 1) := by decide +kernel
theorem dX11_reading_37 : decode cX11_reading 37 = .ok (.invokestatic 161, 3) := by decide +kernel
theorem dX11_reading_40 : decode cX11_reading 40 = .ok (.goto 5, 3) := by decide +kernel
theorem dX11_reading_43 : decode cX11_reading 43 = .ok (.iload_n 3, 1) := by decide +kernel
theorem dX11_reading_44 : decode cX11_reading 44 = .ok (.i2l, 1) := by decide +kernel
theorem dX11_reading_45 : decode cX11_reading 45 = .ok (.invokevirtual 165, 3) := by decide +kernel
theorem dX11_reading_48 : decode cX11_reading 48 = .ok (.ireturn, 1) := by decide +kernel
theorem dX11_refuse_0 : decode cX11_refuse 0 = .ok (.aload_n 0, 1) := by decide +kernel
theorem dX11_refuse_1 : decode cX11_refuse 1 = .ok (.getfield 10, 3) := by decide +kernel
theorem dX11_refuse_4 : decode cX11_refuse 4 = .ok (.iload_n 1, 1) := by decide +kernel
theorem dX11_refuse_5 : decode cX11_refuse 5 = .ok (.putfield 312, 3) := by decide +kernel
theorem dX11_refuse_8 : decode cX11_refuse 8 = .ok (.aload_n 0, 1) := by decide +kernel
theorem dX11_refuse_9 : decode cX11_refuse 9 = .ok (.getfield 10, 3) := by decide +kernel
theorem dX11_refuse_12 : decode cX11_refuse 12 = .ok (.iload_n 1, 1) := by decide +kernel
theorem dX11_refuse_13 : decode cX11_refuse 13 = .ok (.invokevirtual 324, 3) := by decide +kernel
theorem dX11_refuse_16 : decode cX11_refuse 16 = .ok (.iload_n 1, 1) := by decide +kernel
theorem dX11_refuse_17 : decode cX11_refuse 17 = .ok (.ireturn, 1) := by decide +kernel
theorem dX11_round_0 : decode cX11_round 0 = .ok (.aload_n 0, 1) := by decide +kernel
theorem dX11_round_1 : decode cX11_round 1 = .ok (.getfield 19, 3) := by decide +kernel
theorem dX11_round_4 : decode cX11_round 4 = .ok (.invokevirtual 248, 3) := by decide +kernel
theorem dX11_round_7 : decode cX11_round 7 = .ok (.ifCond .eq 13, 3) := by decide +kernel
theorem dX11_round_10 : decode cX11_round 10 = .ok (.aload_n 0, 1) := by decide +kernel
theorem dX11_round_11 : decode cX11_round 11 = .ok (.getfield 49, 3) := by decide +kernel
theorem dX11_round_14 : decode cX11_round 14 = .ok (.invokevirtual 262, 3) := by decide +kernel
theorem dX11_round_17 : decode cX11_round 17 = .ok (.goto 10, 3) := by decide +kernel
theorem dX11_round_20 : decode cX11_round 20 = .ok (.aload_n 0, 1) := by decide +kernel
theorem dX11_round_21 : decode cX11_round 21 = .ok (.getfield 49, 3) := by decide +kernel
theorem dX11_round_24 : decode cX11_round 24 = .ok (.invokevirtual 265, 3) := by decide +kernel
theorem dX11_round_27 : decode cX11_round 27 = .ok (.istore_n 1, 1) := by decide +kernel
theorem dX11_round_28 : decode cX11_round 28 = .ok (.iload_n 1, 1) := by decide +kernel
theorem dX11_round_29 : decode cX11_round 29 = .ok (.ifCond .eq 9, 3) := by decide +kernel
theorem dX11_round_32 : decode cX11_round 32 = .ok (.aload_n 0, 1) := by decide +kernel
theorem dX11_round_33 : decode cX11_round 33 = .ok (.iload_n 1, 1) := by decide +kernel
theorem dX11_round_34 : decode cX11_round 34 = .ok (.invokevirtual 88, 3) := by decide +kernel
theorem dX11_round_37 : decode cX11_round 37 = .ok (.ireturn, 1) := by decide +kernel
theorem dX11_round_38 : decode cX11_round 38 = .ok (.aload_n 0, 1) := by decide +kernel
theorem dX11_round_39 : decode cX11_round 39 = .ok (.invokevirtual 95, 3) := by decide +kernel
theorem dX11_round_42 : decode cX11_round 42 = .ok (.aload_n 0, 1) := by decide +kernel
theorem dX11_round_43 : decode cX11_round 43 = .ok (.getfield 49, 3) := by decide +kernel
theorem dX11_round_46 : decode cX11_round 46 = .ok (.aload_n 0, 1) := by decide +kernel
theorem dX11_round_47 : decode cX11_round 47 = .ok (.getfield 19, 3) := by decide +kernel
theorem dX11_round_50 : decode cX11_round 50 = .ok (.invokevirtual 268, 3) := by decide +kernel
theorem dX11_round_53 : decode cX11_round 53 = .ok (.iconst 0, 1) := by decide +kernel
theorem dX11_round_54 : decode cX11_round 54 = .ok (.istore_n 2, 1) := by decide +kernel
theorem dX11_round_55 : decode cX11_round 55 = .ok (.iload_n 2, 1) := by decide +kernel
theorem dX11_round_56 : decode cX11_round 56 = .ok (.aload_n 0, 1) := by decide +kernel
theorem dX11_round_57 : decode cX11_round 57 = .ok (.getfield 19, 3) := by decide +kernel
theorem dX11_round_60 : decode cX11_round 60 = .ok (.getfield 203, 3) := by decide +kernel
theorem dX11_round_63 : decode cX11_round 63 = .ok (.getfield 109, 3) := by decide +kernel
theorem dX11_round_66 : decode cX11_round 66 = .ok (.if_icmp .ge 17, 3) := by decide +kernel
theorem dX11_round_69 : decode cX11_round 69 = .ok (.aload_n 0, 1) := by decide +kernel
theorem dX11_round_70 : decode cX11_round 70 = .ok (.getfield 19, 3) := by decide +kernel
theorem dX11_round_73 : decode cX11_round 73 = .ok (.iload_n 2, 1) := by decide +kernel
theorem dX11_round_74 : decode cX11_round 74 = .ok (.invokevirtual 271, 3) := by decide +kernel
theorem dX11_round_77 : decode cX11_round 77 = .ok (.iinc 2 1, 3) := by decide +kernel
theorem dX11_round_80 : decode cX11_round 80 = .ok (.goto (-25), 3) := by decide +kernel
theorem dX11_round_83 : decode cX11_round 83 = .ok (.aload_n 0, 1) := by decide +kernel
theorem dX11_round_84 : decode cX11_round 84 = .ok (.aload_n 0, 1) := by decide +kernel
theorem dX11_round_85 : decode cX11_round 85 = .ok (.getfield 19, 3) := by decide +kernel
theorem dX11_round_88 : decode cX11_round 88 = .ok (.getfield 274, 3) := by decide +kernel
theorem dX11_round_91 : decode cX11_round 91 = .ok (.getfield 109, 3) := by decide +kernel
theorem dX11_round_94 : decode cX11_round 94 = .ok (.invokevirtual 98, 3) := by decide +kernel
theorem dX11_round_97 : decode cX11_round 97 = .ok (.ireturn, 1) := by decide +kernel
theorem dX11_row_0 : decode cX11_row 0 = .ok (.aload_n 0, 1) := by decide +kernel
theorem dX11_row_1 : decode cX11_row 1 = .ok (.getfield 19, 3) := by decide +kernel
theorem dX11_row_4 : decode cX11_row 4 = .ok (.getfield 144, 3) := by decide +kernel
theorem dX11_row_7 : decode cX11_row 7 = .ok (.iload_n 1, 1) := by decide +kernel
theorem dX11_row_8 : decode cX11_row 8 = .ok (.invokevirtual 126, 3) := by decide +kernel
theorem dX11_row_11 : decode cX11_row 11 = .ok (.ifCond .eq 10, 3) := by decide +kernel
theorem dX11_row_14 : decode cX11_row 14 = .ok (.iload_n 2, 1) := by decide +kernel
theorem dX11_row_15 : decode cX11_row 15 = .ok (.sipush 200, 3) := by decide +kernel
theorem dX11_row_18 : decode cX11_row 18 = .ok (.if_icmp .le 10, 3) := by decide +kernel
theorem dX11_row_21 : decode cX11_row 21 = .ok (.aload_n 0, 1) := by decide +kernel
theorem dX11_row_22 : decode cX11_row 22 = .ok (.bipush (-2), 2) := by decide +kernel
theorem dX11_row_24 : decode cX11_row 24 = .ok (.invokevirtual 88, 3) := by decide +kernel
theorem dX11_row_27 : decode cX11_row 27 = .ok (.ireturn, 1) := by decide +kernel
theorem dX11_row_28 : decode cX11_row 28 = .ok (.iload_n 2, 1) := by decide +kernel
theorem dX11_row_29 : decode cX11_row 29 = .ok (.ifCond .ge 10, 3) := by decide +kernel
theorem dX11_row_32 : decode cX11_row 32 = .ok (.aload_n 0, 1) := by decide +kernel
theorem dX11_row_33 : decode cX11_row 33 = .ok (.bipush (-7), 2) := by decide +kernel
theorem dX11_row_35 : decode cX11_row 35 = .ok (.invokevirtual 88, 3) := by decide +kernel
theorem dX11_row_38 : decode cX11_row 38 = .ok (.ireturn, 1) := by decide +kernel
theorem dX11_row_39 : decode cX11_row 39 = .ok (.aload_n 0, 1) := by decide +kernel
theorem dX11_row_40 : decode cX11_row 40 = .ok (.invokevirtual 95, 3) := by decide +kernel
theorem dX11_row_43 : decode cX11_row 43 = .ok (.aload_n 0, 1) := by decide +kernel
theorem dX11_row_44 : decode cX11_row 44 = .ok (.getfield 19, 3) := by decide +kernel
theorem dX11_row_47 : decode cX11_row 47 = .ok (.iload_n 1, 1) := by decide +kernel
theorem dX11_row_48 : decode cX11_row 48 = .ok (.iload_n 2, 1) := by decide +kernel
theorem dX11_row_49 : decode cX11_row 49 = .ok (.invokevirtual 151, 3) := by decide +kernel
theorem dX11_row_52 : decode cX11_row 52 = .ok (.aload_n 0, 1) := by decide +kernel
theorem dX11_row_53 : decode cX11_row 53 = .ok (.iconst 1, 1) := by decide +kernel
theorem dX11_row_54 : decode cX11_row 54 = .ok (.invokevirtual 98, 3) := by decide +kernel
theorem dX11_row_57 : decode cX11_row 57 = .ok (.ireturn, 1) := by decide +kernel
theorem dX11_salt_0 : decode cX11_salt 0 = .ok (.aload_n 0, 1) := by decide +kernel
theorem dX11_salt_1 : decode cX11_salt 1 = .ok (.getfield 19, 3) := by decide +kernel
theorem dX11_salt_4 : decode cX11_salt 4 = .ok (.getfield 203, 3) := by decide +kernel
theorem dX11_salt_7 : decode cX11_salt 7 = .ok (.iload_n 1, 1) := by decide +kernel
theorem dX11_salt_8 : decode cX11_salt 8 = .ok (.invokevirtual 126, 3) := by decide +kernel
theorem dX11_salt_11 : decode cX11_salt 11 = .ok (.ifCond .eq 17, 3) := by decide +kernel
theorem dX11_salt_14 : decode cX11_salt 14 = .ok (.aload_n 0, 1) := by decide +kernel
theorem dX11_salt_15 : decode cX11_salt 15 = .ok (.getfield 19, 3) := by decide +kernel
theorem dX11_salt_18 : decode cX11_salt 18 = .ok (.getfield 105, 3) := by decide +kernel
theorem dX11_salt_21 : decode cX11_salt 21 = .ok (.iload_n 2, 1) := by decide +kernel
theorem dX11_salt_22 : decode cX11_salt 22 = .ok (.invokevirtual 126, 3) := by decide +kernel
theorem dX11_salt_25 : decode cX11_salt 25 = .ok (.ifCond .ne 10, 3) := by decide +kernel
theorem dX11_salt_28 : decode cX11_salt 28 = .ok (.aload_n 0, 1) := by decide +kernel
theorem dX11_salt_29 : decode cX11_salt 29 = .ok (.bipush (-2), 2) := by decide +kernel
theorem dX11_salt_31 : decode cX11_salt 31 = .ok (.invokevirtual 88, 3) := by decide +kernel
theorem dX11_salt_34 : decode cX11_salt 34 = .ok (.ireturn, 1) := by decide +kernel
theorem dX11_salt_35 : decode cX11_salt 35 = .ok (.aload_n 0, 1) := by decide +kernel
theorem dX11_salt_36 : decode cX11_salt 36 = .ok (.getfield 19, 3) := by decide +kernel
theorem dX11_salt_39 : decode cX11_salt 39 = .ok (.iload_n 1, 1) := by decide +kernel
theorem dX11_salt_40 : decode cX11_salt 40 = .ok (.invokevirtual 225, 3) := by decide +kernel
theorem dX11_salt_43 : decode cX11_salt 43 = .ok (.ifCond .eq 10, 3) := by decide +kernel
theorem dX11_salt_46 : decode cX11_salt 46 = .ok (.aload_n 0, 1) := by decide +kernel
theorem dX11_salt_47 : decode cX11_salt 47 = .ok (.bipush (-4), 2) := by decide +kernel
theorem dX11_salt_49 : decode cX11_salt 49 = .ok (.invokevirtual 88, 3) := by decide +kernel
theorem dX11_salt_52 : decode cX11_salt 52 = .ok (.ireturn, 1) := by decide +kernel
theorem dX11_salt_53 : decode cX11_salt 53 = .ok (.aload_n 0, 1) := by decide +kernel
theorem dX11_salt_54 : decode cX11_salt 54 = .ok (.getfield 55, 3) := by decide +kernel
theorem dX11_salt_57 : decode cX11_salt 57 = .ok (.iload_n 1, 1) := by decide +kernel
theorem dX11_salt_58 : decode cX11_salt 58 = .ok (.aaload, 1) := by decide +kernel
theorem dX11_salt_59 : decode cX11_salt 59 = .ok (.instanceof 240, 3) := by decide +kernel
theorem dX11_salt_62 : decode cX11_salt 62 = .ok (.ifCond .ne 10, 3) := by decide +kernel
theorem dX11_salt_65 : decode cX11_salt 65 = .ok (.aload_n 0, 1) := by decide +kernel
theorem dX11_salt_66 : decode cX11_salt 66 = .ok (.bipush (-6), 2) := by decide +kernel
theorem dX11_salt_68 : decode cX11_salt 68 = .ok (.invokevirtual 88, 3) := by decide +kernel
theorem dX11_salt_71 : decode cX11_salt 71 = .ok (.ireturn, 1) := by decide +kernel
theorem dX11_salt_72 : decode cX11_salt 72 = .ok (.aload_n 0, 1) := by decide +kernel
theorem dX11_salt_73 : decode cX11_salt 73 = .ok (.invokevirtual 95, 3) := by decide +kernel
theorem dX11_salt_76 : decode cX11_salt 76 = .ok (.aload_n 0, 1) := by decide +kernel
theorem dX11_salt_77 : decode cX11_salt 77 = .ok (.getfield 19, 3) := by decide +kernel
theorem dX11_salt_80 : decode cX11_salt 80 = .ok (.iload_n 2, 1) := by decide +kernel
theorem dX11_salt_81 : decode cX11_salt 81 = .ok (.bipush 50, 2) := by decide +kernel
theorem dX11_salt_83 : decode cX11_salt 83 = .ok (.invokevirtual 200, 3) := by decide +kernel
theorem dX11_salt_86 : decode cX11_salt 86 = .ok (.aload_n 0, 1) := by decide +kernel
theorem dX11_salt_87 : decode cX11_salt 87 = .ok (.aload_n 0, 1) := by decide +kernel
theorem dX11_salt_88 : decode cX11_salt 88 = .ok (.getfield 19, 3) := by decide +kernel
theorem dX11_salt_91 : decode cX11_salt 91 = .ok (.getfield 105, 3) := by decide +kernel
theorem dX11_salt_94 : decode cX11_salt 94 = .ok (.iload_n 2, 1) := by decide +kernel
theorem dX11_salt_95 : decode cX11_salt 95 = .ok (.iconst 0, 1) := by decide +kernel
theorem dX11_salt_96 : decode cX11_salt 96 = .ok (.invokevirtual 129, 3) := by decide +kernel
theorem dX11_salt_99 : decode cX11_salt 99 = .ok (.invokevirtual 98, 3) := by decide +kernel
theorem dX11_salt_102 : decode cX11_salt 102 = .ok (.ireturn, 1) := by decide +kernel
theorem dX11_shut_0 : decode cX11_shut 0 = .ok (.aload_n 0, 1) := by decide +kernel
theorem dX11_shut_1 : decode cX11_shut 1 = .ok (.iload_n 1, 1) := by decide +kernel
theorem dX11_shut_2 : decode cX11_shut 2 = .ok (.iconst 4, 1) := by decide +kernel
theorem dX11_shut_3 : decode cX11_shut 3 = .ok (.iload_n 2, 1) := by decide +kernel
theorem dX11_shut_4 : decode cX11_shut 4 = .ok (.ifCond .eq 7, 3) := by decide +kernel
theorem dX11_shut_7 : decode cX11_shut 7 = .ok (.iconst 1, 1) := by decide +kernel
theorem dX11_shut_8 : decode cX11_shut 8 = .ok (.goto 4, 3) := by decide +kernel
theorem dX11_shut_11 : decode cX11_shut 11 = .ok (.iconst 0, 1) := by decide +kernel
theorem dX11_shut_12 : decode cX11_shut 12 = .ok (.invokevirtual 122, 3) := by decide +kernel
theorem dX11_shut_15 : decode cX11_shut 15 = .ok (.ireturn, 1) := by decide +kernel
theorem dX11_sides_0 : decode cX11_sides 0 = .ok (.iload_n 2, 1) := by decide +kernel
theorem dX11_sides_1 : decode cX11_sides 1 = .ok (.ifCond .lt 8, 3) := by decide +kernel
theorem dX11_sides_4 : decode cX11_sides 4 = .ok (.iload_n 2, 1) := by decide +kernel
theorem dX11_sides_5 : decode cX11_sides 5 = .ok (.iconst 2, 1) := by decide +kernel
theorem dX11_sides_6 : decode cX11_sides 6 = .ok (.if_icmp .le 10, 3) := by decide +kernel
theorem dX11_sides_9 : decode cX11_sides 9 = .ok (.aload_n 0, 1) := by decide +kernel
theorem dX11_sides_10 : decode cX11_sides 10 = .ok (.bipush (-2), 2) := by decide +kernel
theorem dX11_sides_12 : decode cX11_sides 12 = .ok (.invokevirtual 88, 3) := by decide +kernel
theorem dX11_sides_15 : decode cX11_sides 15 = .ok (.ireturn, 1) := by decide +kernel
theorem dX11_sides_16 : decode cX11_sides 16 = .ok (.aload_n 0, 1) := by decide +kernel
theorem dX11_sides_17 : decode cX11_sides 17 = .ok (.iload_n 1, 1) := by decide +kernel
theorem dX11_sides_18 : decode cX11_sides 18 = .ok (.iconst 3, 1) := by decide +kernel
theorem dX11_sides_19 : decode cX11_sides 19 = .ok (.iload_n 2, 1) := by decide +kernel
theorem dX11_sides_20 : decode cX11_sides 20 = .ok (.invokevirtual 122, 3) := by decide +kernel
theorem dX11_sides_23 : decode cX11_sides 23 = .ok (.istore_n 3, 1) := by decide +kernel
theorem dX11_sides_24 : decode cX11_sides 24 = .ok (.iload_n 3, 1) := by decide +kernel
theorem dX11_sides_25 : decode cX11_sides 25 = .ok (.ifCond .lt 16, 3) := by decide +kernel
theorem dX11_sides_28 : decode cX11_sides 28 = .ok (.aload_n 0, 1) := by decide +kernel
theorem dX11_sides_29 : decode cX11_sides 29 = .ok (.getfield 19, 3) := by decide +kernel
theorem dX11_sides_32 : decode cX11_sides 32 = .ok (.getfield 105, 3) := by decide +kernel
theorem dX11_sides_35 : decode cX11_sides 35 = .ok (.iload_n 1, 1) := by decide +kernel
theorem dX11_sides_36 : decode cX11_sides 36 = .ok (.iconst 2, 1) := by decide +kernel
theorem dX11_sides_37 : decode cX11_sides 37 = .ok (.iconst 0, 1) := by decide +kernel
theorem dX11_sides_38 : decode cX11_sides 38 = .ok (.invokevirtual 118, 3) := by decide +kernel
theorem dX11_sides_41 : decode cX11_sides 41 = .ok (.iload_n 3, 1) := by decide +kernel
theorem dX11_sides_42 : decode cX11_sides 42 = .ok (.ireturn, 1) := by decide +kernel
theorem dX11_sign_0 : decode cX11_sign 0 = .ok (.iload_n 1, 1) := by decide +kernel
theorem dX11_sign_1 : decode cX11_sign 1 = .ok (.ifCond .lt 20, 3) := by decide +kernel
theorem dX11_sign_4 : decode cX11_sign 4 = .ok (.iload_n 1, 1) := by decide +kernel
theorem dX11_sign_5 : decode cX11_sign 5 = .ok (.aload_n 0, 1) := by decide +kernel
theorem dX11_sign_6 : decode cX11_sign 6 = .ok (.getfield 77, 3) := by decide +kernel
theorem dX11_sign_9 : decode cX11_sign 9 = .ok (.if_icmp .ge 12, 3) := by decide +kernel
theorem dX11_sign_12 : decode cX11_sign 12 = .ok (.aload_n 0, 1) := by decide +kernel
theorem dX11_sign_13 : decode cX11_sign 13 = .ok (.getfield 73, 3) := by decide +kernel
theorem dX11_sign_16 : decode cX11_sign 16 = .ok (.iload_n 1, 1) := by decide +kernel
theorem dX11_sign_17 : decode cX11_sign 17 = .ok (.caload, 1) := by decide +kernel
theorem dX11_sign_18 : decode cX11_sign 18 = .ok (.goto 4, 3) := by decide +kernel
theorem dX11_sign_21 : decode cX11_sign 21 = .ok (.iconst (-1), 1) := by decide +kernel
theorem dX11_sign_22 : decode cX11_sign 22 = .ok (.ireturn, 1) := by decide +kernel
theorem dX11_snow_0 : decode cX11_snow 0 = .ok (.iload_n 1, 1) := by decide +kernel
theorem dX11_snow_1 : decode cX11_snow 1 = .ok (.ifCond .lt 10, 3) := by decide +kernel
theorem dX11_snow_4 : decode cX11_snow 4 = .ok (.iload_n 1, 1) := by decide +kernel
theorem dX11_snow_5 : decode cX11_snow 5 = .ok (.sipush 200, 3) := by decide +kernel
theorem dX11_snow_8 : decode cX11_snow 8 = .ok (.if_icmp .lt 10, 3) := by decide +kernel
theorem dX11_snow_11 : decode cX11_snow 11 = .ok (.aload_n 0, 1) := by decide +kernel
theorem dX11_snow_12 : decode cX11_snow 12 = .ok (.bipush (-2), 2) := by decide +kernel
theorem dX11_snow_14 : decode cX11_snow 14 = .ok (.invokevirtual 88, 3) := by decide +kernel
theorem dX11_snow_17 : decode cX11_snow 17 = .ok (.ireturn, 1) := by decide +kernel
theorem dX11_snow_18 : decode cX11_snow 18 = .ok (.aload_n 0, 1) := by decide +kernel
theorem dX11_snow_19 : decode cX11_snow 19 = .ok (.invokevirtual 95, 3) := by decide +kernel
theorem dX11_snow_22 : decode cX11_snow 22 = .ok (.aload_n 0, 1) := by decide +kernel
theorem dX11_snow_23 : decode cX11_snow 23 = .ok (.iload_n 1, 1) := by decide +kernel
theorem dX11_snow_24 : decode cX11_snow 24 = .ok (.invokevirtual 187, 3) := by decide +kernel
theorem dX11_snow_27 : decode cX11_snow 27 = .ok (.aload_n 0, 1) := by decide +kernel
theorem dX11_snow_28 : decode cX11_snow 28 = .ok (.getfield 31, 3) := by decide +kernel
theorem dX11_snow_31 : decode cX11_snow 31 = .ok (.invokevirtual 191, 3) := by decide +kernel
theorem dX11_snow_34 : decode cX11_snow 34 = .ok (.iconst 0, 1) := by decide +kernel
theorem dX11_snow_35 : decode cX11_snow 35 = .ok (.istore_n 2, 1) := by decide +kernel
theorem dX11_snow_36 : decode cX11_snow 36 = .ok (.iconst 0, 1) := by decide +kernel
theorem dX11_snow_37 : decode cX11_snow 37 = .ok (.istore_n 3, 1) := by decide +kernel
theorem dX11_snow_38 : decode cX11_snow 38 = .ok (.iload_n 3, 1) := by decide +kernel
theorem dX11_snow_39 : decode cX11_snow 39 = .ok (.aload_n 0, 1) := by decide +kernel
theorem dX11_snow_40 : decode cX11_snow 40 = .ok (.getfield 19, 3) := by decide +kernel
theorem dX11_snow_43 : decode cX11_snow 43 = .ok (.getfield 105, 3) := by decide +kernel
theorem dX11_snow_46 : decode cX11_snow 46 = .ok (.getfield 109, 3) := by decide +kernel
theorem dX11_snow_49 : decode cX11_snow 49 = .ok (.if_icmp .ge 20, 3) := by decide +kernel
theorem dX11_snow_52 : decode cX11_snow 52 = .ok (.aload_n 0, 1) := by decide +kernel
theorem dX11_snow_53 : decode cX11_snow 53 = .ok (.iload_n 3, 1) := by decide +kernel
theorem dX11_snow_54 : decode cX11_snow 54 = .ok (.invokevirtual 194, 3) := by decide +kernel
theorem dX11_snow_57 : decode cX11_snow 57 = .ok (.ifCond .eq 6, 3) := by decide +kernel
theorem dX11_snow_60 : decode cX11_snow 60 = .ok (.iinc 2 1, 3) := by decide +kernel
theorem dX11_snow_63 : decode cX11_snow 63 = .ok (.iinc 3 1, 3) := by decide +kernel
theorem dX11_snow_66 : decode cX11_snow 66 = .ok (.goto (-28), 3) := by decide +kernel
theorem dX11_snow_69 : decode cX11_snow 69 = .ok (.aload_n 0, 1) := by decide +kernel
theorem dX11_snow_70 : decode cX11_snow 70 = .ok (.iload_n 2, 1) := by decide +kernel
theorem dX11_snow_71 : decode cX11_snow 71 = .ok (.invokevirtual 98, 3) := by decide +kernel
theorem dX11_snow_74 : decode cX11_snow 74 = .ok (.ireturn, 1) := by decide +kernel
theorem dX11_split_0 : decode cX11_split 0 = .ok (.iconst 0, 1) := by decide +kernel
theorem dX11_split_1 : decode cX11_split 1 = .ok (.istore_n 1, 1) := by decide +kernel
theorem dX11_split_2 : decode cX11_split 2 = .ok (.iconst 0, 1) := by decide +kernel
theorem dX11_split_3 : decode cX11_split 3 = .ok (.istore_n 2, 1) := by decide +kernel
theorem dX11_split_4 : decode cX11_split 4 = .ok (.iload_n 2, 1) := by decide +kernel
theorem dX11_split_5 : decode cX11_split 5 = .ok (.aload_n 0, 1) := by decide +kernel
theorem dX11_split_6 : decode cX11_split 6 = .ok (.getfield 19, 3) := by decide +kernel
theorem dX11_split_9 : decode cX11_split 9 = .ok (.getfield 203, 3) := by decide +kernel
theorem dX11_split_12 : decode cX11_split 12 = .ok (.getfield 109, 3) := by decide +kernel
theorem dX11_split_15 : decode cX11_split 15 = .ok (.if_icmp .ge 27, 3) := by decide +kernel
theorem dX11_split_18 : decode cX11_split 18 = .ok (.aload_n 0, 1) := by decide +kernel
theorem dX11_split_19 : decode cX11_split 19 = .ok (.getfield 19, 3) := by decide +kernel
theorem dX11_split_22 : decode cX11_split 22 = .ok (.iload_n 2, 1) := by decide +kernel
theorem dX11_split_23 : decode cX11_split 23 = .ok (.invokevirtual 225, 3) := by decide +kernel
theorem dX11_split_26 : decode cX11_split 26 = .ok (.ifCond .ne 10, 3) := by decide +kernel
theorem dX11_split_29 : decode cX11_split 29 = .ok (.aload_n 0, 1) := by decide +kernel
theorem dX11_split_30 : decode cX11_split 30 = .ok (.iload_n 2, 1) := by decide +kernel
theorem dX11_split_31 : decode cX11_split 31 = .ok (.iload_n 1, 1) := by decide +kernel
theorem dX11_split_32 : decode cX11_split 32 = .ok (.invokevirtual 283, 3) := by decide +kernel
theorem dX11_split_35 : decode cX11_split 35 = .ok (.istore_n 1, 1) := by decide +kernel
theorem dX11_split_36 : decode cX11_split 36 = .ok (.iinc 2 1, 3) := by decide +kernel
theorem dX11_split_39 : decode cX11_split 39 = .ok (.goto (-35), 3) := by decide +kernel
theorem dX11_split_42 : decode cX11_split 42 = .ok (.iload_n 1, 1) := by decide +kernel
theorem dX11_split_43 : decode cX11_split 43 = .ok (.aload_n 0, 1) := by decide +kernel
theorem dX11_split_44 : decode cX11_split 44 = .ok (.getfield 19, 3) := by decide +kernel
theorem dX11_split_47 : decode cX11_split 47 = .ok (.getfield 274, 3) := by decide +kernel
theorem dX11_split_50 : decode cX11_split 50 = .ok (.getfield 109, 3) := by decide +kernel
theorem dX11_split_53 : decode cX11_split 53 = .ok (.if_icmp .ge 9, 3) := by decide +kernel
theorem dX11_split_56 : decode cX11_split 56 = .ok (.aload_n 0, 1) := by decide +kernel
theorem dX11_split_57 : decode cX11_split 57 = .ok (.iconst 0, 1) := by decide +kernel
theorem dX11_split_58 : decode cX11_split 58 = .ok (.invokevirtual 98, 3) := by decide +kernel
theorem dX11_split_61 : decode cX11_split 61 = .ok (.ireturn, 1) := by decide +kernel
theorem dX11_split_62 : decode cX11_split 62 = .ok (.aload_n 0, 1) := by decide +kernel
theorem dX11_split_63 : decode cX11_split 63 = .ok (.invokevirtual 95, 3) := by decide +kernel
theorem dX11_split_66 : decode cX11_split 66 = .ok (.iconst 0, 1) := by decide +kernel
theorem dX11_split_67 : decode cX11_split 67 = .ok (.istore_n 2, 1) := by decide +kernel
theorem dX11_split_68 : decode cX11_split 68 = .ok (.iload_n 2, 1) := by decide +kernel
theorem dX11_split_69 : decode cX11_split 69 = .ok (.aload_n 0, 1) := by decide +kernel
theorem dX11_split_70 : decode cX11_split 70 = .ok (.getfield 19, 3) := by decide +kernel
theorem dX11_split_73 : decode cX11_split 73 = .ok (.getfield 203, 3) := by decide +kernel
theorem dX11_split_76 : decode cX11_split 76 = .ok (.getfield 109, 3) := by decide +kernel
theorem dX11_split_79 : decode cX11_split 79 = .ok (.if_icmp .ge 89, 3) := by decide +kernel
theorem dX11_split_82 : decode cX11_split 82 = .ok (.aload_n 0, 1) := by decide +kernel
theorem dX11_split_83 : decode cX11_split 83 = .ok (.getfield 19, 3) := by decide +kernel
theorem dX11_split_86 : decode cX11_split 86 = .ok (.iload_n 2, 1) := by decide +kernel
theorem dX11_split_87 : decode cX11_split 87 = .ok (.invokevirtual 225, 3) := by decide +kernel
theorem dX11_split_90 : decode cX11_split 90 = .ok (.ifCond .ne 72, 3) := by decide +kernel
theorem dX11_split_93 : decode cX11_split 93 = .ok (.aload_n 0, 1) := by decide +kernel
theorem dX11_split_94 : decode cX11_split 94 = .ok (.getfield 19, 3) := by decide +kernel
theorem dX11_split_97 : decode cX11_split 97 = .ok (.iload_n 2, 1) := by decide +kernel
theorem dX11_split_98 : decode cX11_split 98 = .ok (.invokevirtual 271, 3) := by decide +kernel
theorem dX11_split_101 : decode cX11_split 101 = .ok (.aload_n 0, 1) := by decide +kernel
theorem dX11_split_102 : decode cX11_split 102 = .ok (.getfield 19, 3) := by decide +kernel
theorem dX11_split_105 : decode cX11_split 105 = .ok (.getfield 203, 3) := by decide +kernel
theorem dX11_split_108 : decode cX11_split 108 = .ok (.iload_n 2, 1) := by decide +kernel
theorem dX11_split_109 : decode cX11_split 109 = .ok (.iconst 0, 1) := by decide +kernel
theorem dX11_split_110 : decode cX11_split 110 = .ok (.aload_n 0, 1) := by decide +kernel
theorem dX11_split_111 : decode cX11_split 111 = .ok (.getfield 63, 3) := by decide +kernel
theorem dX11_split_114 : decode cX11_split 114 = .ok (.iload_n 2, 1) := by decide +kernel
theorem dX11_split_115 : decode cX11_split 115 = .ok (.iaload, 1) := by decide +kernel
theorem dX11_split_116 : decode cX11_split 116 = .ok (.invokevirtual 118, 3) := by decide +kernel
theorem dX11_split_119 : decode cX11_split 119 = .ok (.aload_n 0, 1) := by decide +kernel
theorem dX11_split_120 : decode cX11_split 120 = .ok (.getfield 19, 3) := by decide +kernel
theorem dX11_split_123 : decode cX11_split 123 = .ok (.getfield 203, 3) := by decide +kernel
theorem dX11_split_126 : decode cX11_split 126 = .ok (.iload_n 2, 1) := by decide +kernel
theorem dX11_split_127 : decode cX11_split 127 = .ok (.iconst 1, 1) := by decide +kernel
theorem dX11_split_128 : decode cX11_split 128 = .ok (.aload_n 0, 1) := by decide +kernel
theorem dX11_split_129 : decode cX11_split 129 = .ok (.getfield 67, 3) := by decide +kernel
theorem dX11_split_132 : decode cX11_split 132 = .ok (.iload_n 2, 1) := by decide +kernel
theorem dX11_split_133 : decode cX11_split 133 = .ok (.iaload, 1) := by decide +kernel
theorem dX11_split_134 : decode cX11_split 134 = .ok (.aload_n 0, 1) := by decide +kernel
theorem dX11_split_135 : decode cX11_split 135 = .ok (.getfield 63, 3) := by decide +kernel
theorem dX11_split_138 : decode cX11_split 138 = .ok (.iload_n 2, 1) := by decide +kernel
theorem dX11_split_139 : decode cX11_split 139 = .ok (.iaload, 1) := by decide +kernel
theorem dX11_split_140 : decode cX11_split 140 = .ok (.isub, 1) := by decide +kernel
theorem dX11_split_141 : decode cX11_split 141 = .ok (.invokevirtual 118, 3) := by decide +kernel
theorem dX11_split_144 : decode cX11_split 144 = .ok (.aload_n 0, 1) := by decide +kernel
theorem dX11_split_145 : decode cX11_split 145 = .ok (.getfield 19, 3) := by decide +kernel
theorem dX11_split_148 : decode cX11_split 148 = .ok (.getfield 203, 3) := by decide +kernel
theorem dX11_split_151 : decode cX11_split 151 = .ok (.iload_n 2, 1) := by decide +kernel
theorem dX11_split_152 : decode cX11_split 152 = .ok (.iconst 4, 1) := by decide +kernel
theorem dX11_split_153 : decode cX11_split 153 = .ok (.aload_n 0, 1) := by decide +kernel
theorem dX11_split_154 : decode cX11_split 154 = .ok (.getfield 70, 3) := by decide +kernel
theorem dX11_split_157 : decode cX11_split 157 = .ok (.iload_n 2, 1) := by decide +kernel
theorem dX11_split_158 : decode cX11_split 158 = .ok (.iaload, 1) := by decide +kernel
theorem dX11_split_159 : decode cX11_split 159 = .ok (.invokevirtual 118, 3) := by decide +kernel
theorem dX11_split_162 : decode cX11_split 162 = .ok (.iinc 2 1, 3) := by decide +kernel
theorem dX11_split_165 : decode cX11_split 165 = .ok (.goto (-97), 3) := by decide +kernel
theorem dX11_split_168 : decode cX11_split 168 = .ok (.aload_n 0, 1) := by decide +kernel
theorem dX11_split_169 : decode cX11_split 169 = .ok (.iconst 1, 1) := by decide +kernel
theorem dX11_split_170 : decode cX11_split 170 = .ok (.invokevirtual 98, 3) := by decide +kernel
theorem dX11_split_173 : decode cX11_split 173 = .ok (.ireturn, 1) := by decide +kernel
theorem dX11_status_0 : decode cX11_status 0 = .ok (.aload_n 0, 1) := by decide +kernel
theorem dX11_status_1 : decode cX11_status 1 = .ok (.getfield 10, 3) := by decide +kernel
theorem dX11_status_4 : decode cX11_status 4 = .ok (.getfield 312, 3) := by decide +kernel
theorem dX11_status_7 : decode cX11_status 7 = .ok (.ireturn, 1) := by decide +kernel
theorem dX11_street_0 : decode cX11_street 0 = .ok (.aload_n 0, 1) := by decide +kernel
theorem dX11_street_1 : decode cX11_street 1 = .ok (.getfield 19, 3) := by decide +kernel
theorem dX11_street_4 : decode cX11_street 4 = .ok (.iload_n 1, 1) := by decide +kernel
theorem dX11_street_5 : decode cX11_street 5 = .ok (.invokevirtual 101, 3) := by decide +kernel
theorem dX11_street_8 : decode cX11_street 8 = .ok (.ifCond .eq 31, 3) := by decide +kernel
theorem dX11_street_11 : decode cX11_street 11 = .ok (.aload_n 0, 1) := by decide +kernel
theorem dX11_street_12 : decode cX11_street 12 = .ok (.getfield 19, 3) := by decide +kernel
theorem dX11_street_15 : decode cX11_street 15 = .ok (.iload_n 2, 1) := by decide +kernel
theorem dX11_street_16 : decode cX11_street 16 = .ok (.invokevirtual 101, 3) := by decide +kernel
theorem dX11_street_19 : decode cX11_street 19 = .ok (.ifCond .eq 20, 3) := by decide +kernel
theorem dX11_street_22 : decode cX11_street 22 = .ok (.iload_n 1, 1) := by decide +kernel
theorem dX11_street_23 : decode cX11_street 23 = .ok (.iload_n 2, 1) := by decide +kernel
theorem dX11_street_24 : decode cX11_street 24 = .ok (.if_icmp .eq 15, 3) := by decide +kernel
theorem dX11_street_27 : decode cX11_street 27 = .ok (.iload_n 3, 1) := by decide +kernel
theorem dX11_street_28 : decode cX11_street 28 = .ok (.iconst 1, 1) := by decide +kernel
theorem dX11_street_29 : decode cX11_street 29 = .ok (.if_icmp .lt 10, 3) := by decide +kernel
theorem dX11_street_32 : decode cX11_street 32 = .ok (.iload_n 3, 1) := by decide +kernel
theorem dX11_street_33 : decode cX11_street 33 = .ok (.sipush 10000, 3) := by decide +kernel
theorem dX11_street_36 : decode cX11_street 36 = .ok (.if_icmp .le 10, 3) := by decide +kernel
theorem dX11_street_39 : decode cX11_street 39 = .ok (.aload_n 0, 1) := by decide +kernel
theorem dX11_street_40 : decode cX11_street 40 = .ok (.bipush (-2), 2) := by decide +kernel
theorem dX11_street_42 : decode cX11_street 42 = .ok (.invokevirtual 88, 3) := by decide +kernel
theorem dX11_street_45 : decode cX11_street 45 = .ok (.ireturn, 1) := by decide +kernel
theorem dX11_street_46 : decode cX11_street 46 = .ok (.aload_n 0, 1) := by decide +kernel
theorem dX11_street_47 : decode cX11_street 47 = .ok (.getfield 19, 3) := by decide +kernel
theorem dX11_street_50 : decode cX11_street 50 = .ok (.getfield 105, 3) := by decide +kernel
theorem dX11_street_53 : decode cX11_street 53 = .ok (.getfield 109, 3) := by decide +kernel
theorem dX11_street_56 : decode cX11_street 56 = .ok (.sipush 150, 3) := by decide +kernel
theorem dX11_street_59 : decode cX11_street 59 = .ok (.if_icmp .lt 10, 3) := by decide +kernel
theorem dX11_street_62 : decode cX11_street 62 = .ok (.aload_n 0, 1) := by decide +kernel
theorem dX11_street_63 : decode cX11_street 63 = .ok (.bipush (-3), 2) := by decide +kernel
theorem dX11_street_65 : decode cX11_street 65 = .ok (.invokevirtual 88, 3) := by decide +kernel
theorem dX11_street_68 : decode cX11_street 68 = .ok (.ireturn, 1) := by decide +kernel
theorem dX11_street_69 : decode cX11_street 69 = .ok (.aload_n 0, 1) := by decide +kernel
theorem dX11_street_70 : decode cX11_street 70 = .ok (.invokevirtual 95, 3) := by decide +kernel
theorem dX11_street_73 : decode cX11_street 73 = .ok (.aload_n 0, 1) := by decide +kernel
theorem dX11_street_74 : decode cX11_street 74 = .ok (.getfield 19, 3) := by decide +kernel
theorem dX11_street_77 : decode cX11_street 77 = .ok (.getfield 105, 3) := by decide +kernel
theorem dX11_street_80 : decode cX11_street 80 = .ok (.invokevirtual 114, 3) := by decide +kernel
theorem dX11_street_83 : decode cX11_street 83 = .ok (.istore 5, 2) := by decide +kernel
theorem dX11_street_85 : decode cX11_street 85 = .ok (.aload_n 0, 1) := by decide +kernel
theorem dX11_street_86 : decode cX11_street 86 = .ok (.getfield 19, 3) := by decide +kernel
theorem dX11_street_89 : decode cX11_street 89 = .ok (.getfield 105, 3) := by decide +kernel
theorem dX11_street_92 : decode cX11_street 92 = .ok (.iload 5, 2) := by decide +kernel
theorem dX11_street_94 : decode cX11_street 94 = .ok (.iconst 3, 1) := by decide +kernel
theorem dX11_street_95 : decode cX11_street 95 = .ok (.iconst 1, 1) := by decide +kernel
theorem dX11_street_96 : decode cX11_street 96 = .ok (.invokevirtual 118, 3) := by decide +kernel
theorem dX11_street_99 : decode cX11_street 99 = .ok (.aload_n 0, 1) := by decide +kernel
theorem dX11_street_100 : decode cX11_street 100 = .ok (.getfield 19, 3) := by decide +kernel
theorem dX11_street_103 : decode cX11_street 103 = .ok (.getfield 105, 3) := by decide +kernel
theorem dX11_street_106 : decode cX11_street 106 = .ok (.iload 5, 2) := by decide +kernel
theorem dX11_street_108 : decode cX11_street 108 = .ok (.iconst 5, 1) := by decide +kernel
theorem dX11_street_109 : decode cX11_street 109 = .ok (.iload 4, 2) := by decide +kernel
theorem dX11_street_111 : decode cX11_street 111 = .ok (.ifCond .eq 7, 3) := by decide +kernel
theorem dX11_street_114 : decode cX11_street 114 = .ok (.iconst 1, 1) := by decide +kernel
theorem dX11_street_115 : decode cX11_street 115 = .ok (.goto 4, 3) := by decide +kernel
theorem dX11_street_118 : decode cX11_street 118 = .ok (.iconst 0, 1) := by decide +kernel
theorem dX11_street_119 : decode cX11_street 119 = .ok (.invokevirtual 118, 3) := by decide +kernel
theorem dX11_street_122 : decode cX11_street 122 = .ok (.aload_n 0, 1) := by decide +kernel
theorem dX11_street_123 : decode cX11_street 123 = .ok (.getfield 19, 3) := by decide +kernel
theorem dX11_street_126 : decode cX11_street 126 = .ok (.getfield 105, 3) := by decide +kernel
theorem dX11_street_129 : decode cX11_street 129 = .ok (.iload 5, 2) := by decide +kernel
theorem dX11_street_131 : decode cX11_street 131 = .ok (.bipush 6, 2) := by decide +kernel
theorem dX11_street_133 : decode cX11_street 133 = .ok (.iload_n 3, 1) := by decide +kernel
theorem dX11_street_134 : decode cX11_street 134 = .ok (.invokevirtual 118, 3) := by decide +kernel
theorem dX11_street_137 : decode cX11_street 137 = .ok (.aload_n 0, 1) := by decide +kernel
theorem dX11_street_138 : decode cX11_street 138 = .ok (.getfield 19, 3) := by decide +kernel
theorem dX11_street_141 : decode cX11_street 141 = .ok (.getfield 105, 3) := by decide +kernel
theorem dX11_street_144 : decode cX11_street 144 = .ok (.iload 5, 2) := by decide +kernel
theorem dX11_street_146 : decode cX11_street 146 = .ok (.bipush 7, 2) := by decide +kernel
theorem dX11_street_148 : decode cX11_street 148 = .ok (.iload_n 1, 1) := by decide +kernel
theorem dX11_street_149 : decode cX11_street 149 = .ok (.invokevirtual 118, 3) := by decide +kernel
theorem dX11_street_152 : decode cX11_street 152 = .ok (.aload_n 0, 1) := by decide +kernel
theorem dX11_street_153 : decode cX11_street 153 = .ok (.getfield 19, 3) := by decide +kernel
theorem dX11_street_156 : decode cX11_street 156 = .ok (.getfield 105, 3) := by decide +kernel
theorem dX11_street_159 : decode cX11_street 159 = .ok (.iload 5, 2) := by decide +kernel
theorem dX11_street_161 : decode cX11_street 161 = .ok (.bipush 8, 2) := by decide +kernel
theorem dX11_street_163 : decode cX11_street 163 = .ok (.iload_n 2, 1) := by decide +kernel
theorem dX11_street_164 : decode cX11_street 164 = .ok (.invokevirtual 118, 3) := by decide +kernel
theorem dX11_street_167 : decode cX11_street 167 = .ok (.aload_n 0, 1) := by decide +kernel
theorem dX11_street_168 : decode cX11_street 168 = .ok (.iload 5, 2) := by decide +kernel
theorem dX11_street_170 : decode cX11_street 170 = .ok (.invokevirtual 98, 3) := by decide +kernel
theorem dX11_street_173 : decode cX11_street 173 = .ok (.ireturn, 1) := by decide +kernel
theorem dX11_takeDrives_0 : decode cX11_takeDrives 0 = .ok (.iconst 0, 1) := by decide +kernel
theorem dX11_takeDrives_1 : decode cX11_takeDrives 1 = .ok (.istore_n 3, 1) := by decide +kernel
theorem dX11_takeDrives_2 : decode cX11_takeDrives 2 = .ok (.iload_n 2, 1) := by decide +kernel
theorem dX11_takeDrives_3 : decode cX11_takeDrives 3 = .ok (.istore 4, 2) := by decide +kernel
theorem dX11_takeDrives_5 : decode cX11_takeDrives 5 = .ok (.iconst 1, 1) := by decide +kernel
theorem dX11_takeDrives_6 : decode cX11_takeDrives 6 = .ok (.istore 5, 2) := by decide +kernel
theorem dX11_takeDrives_8 : decode cX11_takeDrives 8 = .ok (.iload 4, 2) := by decide +kernel
theorem dX11_takeDrives_10 : decode cX11_takeDrives 10 = .ok (.aload_n 0, 1) := by decide +kernel
theorem dX11_takeDrives_11 : decode cX11_takeDrives 11 = .ok (.getfield 19, 3) := by decide +kernel
theorem dX11_takeDrives_14 : decode cX11_takeDrives 14 = .ok (.getfield 274, 3) := by decide +kernel
theorem dX11_takeDrives_17 : decode cX11_takeDrives 17 = .ok (.getfield 109, 3) := by decide +kernel
theorem dX11_takeDrives_20 : decode cX11_takeDrives 20 = .ok (.if_icmp .ge 152, 3) := by decide +kernel
theorem dX11_takeDrives_23 : decode cX11_takeDrives 23 = .ok (.iload 5, 2) := by decide +kernel
theorem dX11_takeDrives_25 : decode cX11_takeDrives 25 = .ok (.ifCond .eq 147, 3) := by decide +kernel
theorem dX11_takeDrives_28 : decode cX11_takeDrives 28 = .ok (.aload_n 0, 1) := by decide +kernel
theorem dX11_takeDrives_29 : decode cX11_takeDrives 29 = .ok (.getfield 19, 3) := by decide +kernel
theorem dX11_takeDrives_32 : decode cX11_takeDrives 32 = .ok (.getfield 274, 3) := by decide +kernel
theorem dX11_takeDrives_35 : decode cX11_takeDrives 35 = .ok (.iload 4, 2) := by decide +kernel
theorem dX11_takeDrives_37 : decode cX11_takeDrives 37 = .ok (.iconst 0, 1) := by decide +kernel
theorem dX11_takeDrives_38 : decode cX11_takeDrives 38 = .ok (.invokevirtual 129, 3) := by decide +kernel
theorem dX11_takeDrives_41 : decode cX11_takeDrives 41 = .ok (.istore 6, 2) := by decide +kernel
theorem dX11_takeDrives_43 : decode cX11_takeDrives 43 = .ok (.aload_n 0, 1) := by decide +kernel
theorem dX11_takeDrives_44 : decode cX11_takeDrives 44 = .ok (.getfield 19, 3) := by decide +kernel
theorem dX11_takeDrives_47 : decode cX11_takeDrives 47 = .ok (.getfield 274, 3) := by decide +kernel
theorem dX11_takeDrives_50 : decode cX11_takeDrives 50 = .ok (.iload 4, 2) := by decide +kernel
theorem dX11_takeDrives_52 : decode cX11_takeDrives 52 = .ok (.iconst 3, 1) := by decide +kernel
theorem dX11_takeDrives_53 : decode cX11_takeDrives 53 = .ok (.invokevirtual 129, 3) := by decide +kernel
theorem dX11_takeDrives_56 : decode cX11_takeDrives 56 = .ok (.iconst 1, 1) := by decide +kernel
theorem dX11_takeDrives_57 : decode cX11_takeDrives 57 = .ok (.if_icmp .ne 28, 3) := by decide +kernel
theorem dX11_takeDrives_60 : decode cX11_takeDrives 60 = .ok (.aload_n 0, 1) := by decide +kernel
theorem dX11_takeDrives_61 : decode cX11_takeDrives 61 = .ok (.getfield 55, 3) := by decide +kernel
theorem dX11_takeDrives_64 : decode cX11_takeDrives 64 = .ok (.iload_n 1, 1) := by decide +kernel
theorem dX11_takeDrives_65 : decode cX11_takeDrives 65 = .ok (.aaload, 1) := by decide +kernel
theorem dX11_takeDrives_66 : decode cX11_takeDrives 66 = .ok (.aload_n 0, 1) := by decide +kernel
theorem dX11_takeDrives_67 : decode cX11_takeDrives 67 = .ok (.getfield 19, 3) := by decide +kernel
theorem dX11_takeDrives_70 : decode cX11_takeDrives 70 = .ok (.getfield 105, 3) := by decide +kernel
theorem dX11_takeDrives_73 : decode cX11_takeDrives 73 = .ok (.iload 6, 2) := by decide +kernel
theorem dX11_takeDrives_75 : decode cX11_takeDrives 75 = .ok (.iconst 0, 1) := by decide +kernel
theorem dX11_takeDrives_76 : decode cX11_takeDrives 76 = .ok (.invokevirtual 129, 3) := by decide +kernel
theorem dX11_takeDrives_79 : decode cX11_takeDrives 79 = .ok (.invokevirtual 237, 3) := by decide +kernel
theorem dX11_takeDrives_82 : decode cX11_takeDrives 82 = .ok (.goto 4, 3) := by decide +kernel
theorem dX11_takeDrives_85 : decode cX11_takeDrives 85 = .ok (.iconst 1, 1) := by decide +kernel
theorem dX11_takeDrives_86 : decode cX11_takeDrives 86 = .ok (.istore 7, 2) := by decide +kernel
theorem dX11_takeDrives_88 : decode cX11_takeDrives 88 = .ok (.iload 7, 2) := by decide +kernel
theorem dX11_takeDrives_90 : decode cX11_takeDrives 90 = .ok (.ifCond .ne 7, 3) := by decide +kernel
theorem dX11_takeDrives_93 : decode cX11_takeDrives 93 = .ok (.iconst 0, 1) := by decide +kernel
theorem dX11_takeDrives_94 : decode cX11_takeDrives 94 = .ok (.goto 29, 3) := by decide +kernel
theorem dX11_takeDrives_97 : decode cX11_takeDrives 97 = .ok (.iload 7, 2) := by decide +kernel
theorem dX11_takeDrives_99 : decode cX11_takeDrives 99 = .ok (.aload_n 0, 1) := by decide +kernel
theorem dX11_takeDrives_100 : decode cX11_takeDrives 100 = .ok (.getfield 55, 3) := by decide +kernel
theorem dX11_takeDrives_103 : decode cX11_takeDrives 103 = .ok (.iload_n 1, 1) := by decide +kernel
theorem dX11_takeDrives_104 : decode cX11_takeDrives 104 = .ok (.aaload, 1) := by decide +kernel
theorem dX11_takeDrives_105 : decode cX11_takeDrives 105 = .ok (.aload_n 0, 1) := by decide +kernel
theorem dX11_takeDrives_106 : decode cX11_takeDrives 106 = .ok (.getfield 19, 3) := by decide +kernel
theorem dX11_takeDrives_109 : decode cX11_takeDrives 109 = .ok (.getfield 105, 3) := by decide +kernel
theorem dX11_takeDrives_112 : decode cX11_takeDrives 112 = .ok (.iload 6, 2) := by decide +kernel
theorem dX11_takeDrives_114 : decode cX11_takeDrives 114 = .ok (.bipush 6, 2) := by decide +kernel
theorem dX11_takeDrives_116 : decode cX11_takeDrives 116 = .ok (.invokevirtual 129, 3) := by decide +kernel
theorem dX11_takeDrives_119 : decode cX11_takeDrives 119 = .ok (.invokevirtual 234, 3) := by decide +kernel
theorem dX11_takeDrives_122 : decode cX11_takeDrives 122 = .ok (.imul, 1) := by decide +kernel
theorem dX11_takeDrives_123 : decode cX11_takeDrives 123 = .ok (.istore 8, 2) := by decide +kernel
theorem dX11_takeDrives_125 : decode cX11_takeDrives 125 = .ok (.iload 7, 2) := by decide +kernel
theorem dX11_takeDrives_127 : decode cX11_takeDrives 127 = .ok (.ifCond .eq 26, 3) := by decide +kernel
theorem dX11_takeDrives_130 : decode cX11_takeDrives 130 = .ok (.iload_n 3, 1) := by decide +kernel
theorem dX11_takeDrives_131 : decode cX11_takeDrives 131 = .ok (.iload 8, 2) := by decide +kernel
theorem dX11_takeDrives_133 : decode cX11_takeDrives 133 = .ok (.iadd, 1) := by decide +kernel
theorem dX11_takeDrives_134 : decode cX11_takeDrives 134 = .ok (.aload_n 0, 1) := by decide +kernel
theorem dX11_takeDrives_135 : decode cX11_takeDrives 135 = .ok (.getfield 19, 3) := by decide +kernel
theorem dX11_takeDrives_138 : decode cX11_takeDrives 138 = .ok (.getfield 203, 3) := by decide +kernel
theorem dX11_takeDrives_141 : decode cX11_takeDrives 141 = .ok (.iload_n 1, 1) := by decide +kernel
theorem dX11_takeDrives_142 : decode cX11_takeDrives 142 = .ok (.iconst 5, 1) := by decide +kernel
theorem dX11_takeDrives_143 : decode cX11_takeDrives 143 = .ok (.invokevirtual 129, 3) := by decide +kernel
theorem dX11_takeDrives_146 : decode cX11_takeDrives 146 = .ok (.if_icmp .gt 7, 3) := by decide +kernel
theorem dX11_takeDrives_149 : decode cX11_takeDrives 149 = .ok (.iconst 1, 1) := by decide +kernel
theorem dX11_takeDrives_150 : decode cX11_takeDrives 150 = .ok (.goto 4, 3) := by decide +kernel
theorem dX11_takeDrives_153 : decode cX11_takeDrives 153 = .ok (.iconst 0, 1) := by decide +kernel
theorem dX11_takeDrives_154 : decode cX11_takeDrives 154 = .ok (.istore 5, 2) := by decide +kernel
theorem dX11_takeDrives_156 : decode cX11_takeDrives 156 = .ok (.iload 5, 2) := by decide +kernel
theorem dX11_takeDrives_158 : decode cX11_takeDrives 158 = .ok (.ifCond .eq 11, 3) := by decide +kernel
theorem dX11_takeDrives_161 : decode cX11_takeDrives 161 = .ok (.iload_n 3, 1) := by decide +kernel
theorem dX11_takeDrives_162 : decode cX11_takeDrives 162 = .ok (.iload 8, 2) := by decide +kernel
theorem dX11_takeDrives_164 : decode cX11_takeDrives 164 = .ok (.iadd, 1) := by decide +kernel
theorem dX11_takeDrives_165 : decode cX11_takeDrives 165 = .ok (.istore_n 3, 1) := by decide +kernel
theorem dX11_takeDrives_166 : decode cX11_takeDrives 166 = .ok (.iinc 4 1, 3) := by decide +kernel
theorem dX11_takeDrives_169 : decode cX11_takeDrives 169 = .ok (.goto (-161), 3) := by decide +kernel
theorem dX11_takeDrives_172 : decode cX11_takeDrives 172 = .ok (.aload_n 0, 1) := by decide +kernel
theorem dX11_takeDrives_173 : decode cX11_takeDrives 173 = .ok (.getfield 63, 3) := by decide +kernel
theorem dX11_takeDrives_176 : decode cX11_takeDrives 176 = .ok (.iload_n 1, 1) := by decide +kernel
theorem dX11_takeDrives_177 : decode cX11_takeDrives 177 = .ok (.iload_n 2, 1) := by decide +kernel
theorem dX11_takeDrives_178 : decode cX11_takeDrives 178 = .ok (.iastore, 1) := by decide +kernel
theorem dX11_takeDrives_179 : decode cX11_takeDrives 179 = .ok (.aload_n 0, 1) := by decide +kernel
theorem dX11_takeDrives_180 : decode cX11_takeDrives 180 = .ok (.getfield 67, 3) := by decide +kernel
theorem dX11_takeDrives_183 : decode cX11_takeDrives 183 = .ok (.iload_n 1, 1) := by decide +kernel
theorem dX11_takeDrives_184 : decode cX11_takeDrives 184 = .ok (.iload 4, 2) := by decide +kernel
theorem dX11_takeDrives_186 : decode cX11_takeDrives 186 = .ok (.iastore, 1) := by decide +kernel
theorem dX11_takeDrives_187 : decode cX11_takeDrives 187 = .ok (.aload_n 0, 1) := by decide +kernel
theorem dX11_takeDrives_188 : decode cX11_takeDrives 188 = .ok (.getfield 70, 3) := by decide +kernel
theorem dX11_takeDrives_191 : decode cX11_takeDrives 191 = .ok (.iload_n 1, 1) := by decide +kernel
theorem dX11_takeDrives_192 : decode cX11_takeDrives 192 = .ok (.iload_n 3, 1) := by decide +kernel
theorem dX11_takeDrives_193 : decode cX11_takeDrives 193 = .ok (.iastore, 1) := by decide +kernel
theorem dX11_takeDrives_194 : decode cX11_takeDrives 194 = .ok (.iload 4, 2) := by decide +kernel
theorem dX11_takeDrives_196 : decode cX11_takeDrives 196 = .ok (.ireturn, 1) := by decide +kernel
theorem dX11_text_0 : decode cX11_text 0 = .ok (.aload_n 0, 1) := by decide +kernel
theorem dX11_text_1 : decode cX11_text 1 = .ok (.iconst 0, 1) := by decide +kernel
theorem dX11_text_2 : decode cX11_text 2 = .ok (.putfield 77, 3) := by decide +kernel
theorem dX11_text_5 : decode cX11_text 5 = .ok (.iconst 1, 1) := by decide +kernel
theorem dX11_text_6 : decode cX11_text 6 = .ok (.istore_n 1, 1) := by decide +kernel
theorem dX11_text_7 : decode cX11_text 7 = .ok (.iconst 0, 1) := by decide +kernel
theorem dX11_text_8 : decode cX11_text 8 = .ok (.istore_n 2, 1) := by decide +kernel
theorem dX11_text_9 : decode cX11_text 9 = .ok (.iload_n 2, 1) := by decide +kernel
theorem dX11_text_10 : decode cX11_text 10 = .ok (.aload_n 0, 1) := by decide +kernel
theorem dX11_text_11 : decode cX11_text 11 = .ok (.getfield 19, 3) := by decide +kernel
theorem dX11_text_14 : decode cX11_text 14 = .ok (.getfield 274, 3) := by decide +kernel
theorem dX11_text_17 : decode cX11_text 17 = .ok (.getfield 109, 3) := by decide +kernel
theorem dX11_text_20 : decode cX11_text 20 = .ok (.if_icmp .ge 19, 3) := by decide +kernel
theorem dX11_text_23 : decode cX11_text 23 = .ok (.iload_n 1, 1) := by decide +kernel
theorem dX11_text_24 : decode cX11_text 24 = .ok (.ifCond .eq 15, 3) := by decide +kernel
theorem dX11_text_27 : decode cX11_text 27 = .ok (.aload_n 0, 1) := by decide +kernel
theorem dX11_text_28 : decode cX11_text 28 = .ok (.iload_n 2, 1) := by decide +kernel
theorem dX11_text_29 : decode cX11_text 29 = .ok (.invokevirtual 298, 3) := by decide +kernel
theorem dX11_text_32 : decode cX11_text 32 = .ok (.istore_n 1, 1) := by decide +kernel
theorem dX11_text_33 : decode cX11_text 33 = .ok (.iinc 2 1, 3) := by decide +kernel
theorem dX11_text_36 : decode cX11_text 36 = .ok (.goto (-27), 3) := by decide +kernel
theorem dX11_text_39 : decode cX11_text 39 = .ok (.aload_n 0, 1) := by decide +kernel
theorem dX11_text_40 : decode cX11_text 40 = .ok (.aload_n 0, 1) := by decide +kernel
theorem dX11_text_41 : decode cX11_text 41 = .ok (.getfield 77, 3) := by decide +kernel
theorem dX11_text_44 : decode cX11_text 44 = .ok (.invokevirtual 98, 3) := by decide +kernel
theorem dX11_text_47 : decode cX11_text 47 = .ok (.ireturn, 1) := by decide +kernel
theorem dX11_told_0 : decode cX11_told 0 = .ok (.aload_n 0, 1) := by decide +kernel
theorem dX11_told_1 : decode cX11_told 1 = .ok (.getfield 19, 3) := by decide +kernel
theorem dX11_told_4 : decode cX11_told 4 = .ok (.getfield 105, 3) := by decide +kernel
theorem dX11_told_7 : decode cX11_told 7 = .ok (.iload_n 1, 1) := by decide +kernel
theorem dX11_told_8 : decode cX11_told 8 = .ok (.invokevirtual 126, 3) := by decide +kernel
theorem dX11_told_11 : decode cX11_told 11 = .ok (.ifCond .eq 13, 3) := by decide +kernel
theorem dX11_told_14 : decode cX11_told 14 = .ok (.iload_n 2, 1) := by decide +kernel
theorem dX11_told_15 : decode cX11_told 15 = .ok (.ifCond .lt 9, 3) := by decide +kernel
theorem dX11_told_18 : decode cX11_told 18 = .ok (.iload_n 2, 1) := by decide +kernel
theorem dX11_told_19 : decode cX11_told 19 = .ok (.bipush 9, 2) := by decide +kernel
theorem dX11_told_21 : decode cX11_told 21 = .ok (.if_icmp .lt 10, 3) := by decide +kernel
theorem dX11_told_24 : decode cX11_told 24 = .ok (.aload_n 0, 1) := by decide +kernel
theorem dX11_told_25 : decode cX11_told 25 = .ok (.bipush (-2), 2) := by decide +kernel
theorem dX11_told_27 : decode cX11_told 27 = .ok (.invokevirtual 88, 3) := by decide +kernel
theorem dX11_told_30 : decode cX11_told 30 = .ok (.ireturn, 1) := by decide +kernel
theorem dX11_told_31 : decode cX11_told 31 = .ok (.aload_n 0, 1) := by decide +kernel
theorem dX11_told_32 : decode cX11_told 32 = .ok (.aload_n 0, 1) := by decide +kernel
theorem dX11_told_33 : decode cX11_told 33 = .ok (.getfield 19, 3) := by decide +kernel
theorem dX11_told_36 : decode cX11_told 36 = .ok (.getfield 105, 3) := by decide +kernel
theorem dX11_told_39 : decode cX11_told 39 = .ok (.iload_n 1, 1) := by decide +kernel
theorem dX11_told_40 : decode cX11_told 40 = .ok (.iload_n 2, 1) := by decide +kernel
theorem dX11_told_41 : decode cX11_told 41 = .ok (.invokevirtual 129, 3) := by decide +kernel
theorem dX11_told_44 : decode cX11_told 44 = .ok (.invokevirtual 98, 3) := by decide +kernel
theorem dX11_told_47 : decode cX11_told 47 = .ok (.ireturn, 1) := by decide +kernel
theorem dX11_trace_0 : decode cX11_trace 0 = .ok (.aload_n 0, 1) := by decide +kernel
theorem dX11_trace_1 : decode cX11_trace 1 = .ok (.getfield 10, 3) := by decide +kernel
theorem dX11_trace_4 : decode cX11_trace 4 = .ok (.getfield 315, 3) := by decide +kernel
theorem dX11_trace_7 : decode cX11_trace 7 = .ok (.ireturn, 1) := by decide +kernel
theorem dX11_undo_0 : decode cX11_undo 0 = .ok (.aload_n 0, 1) := by decide +kernel
theorem dX11_undo_1 : decode cX11_undo 1 = .ok (.getfield 81, 3) := by decide +kernel
theorem dX11_undo_4 : decode cX11_undo 4 = .ok (.ifCond .ne 9, 3) := by decide +kernel
theorem dX11_undo_7 : decode cX11_undo 7 = .ok (.aload_n 0, 1) := by decide +kernel
theorem dX11_undo_8 : decode cX11_undo 8 = .ok (.iconst 0, 1) := by decide +kernel
theorem dX11_undo_9 : decode cX11_undo 9 = .ok (.invokevirtual 98, 3) := by decide +kernel
theorem dX11_undo_12 : decode cX11_undo 12 = .ok (.ireturn, 1) := by decide +kernel
theorem dX11_undo_13 : decode cX11_undo 13 = .ok (.aload_n 0, 1) := by decide +kernel
theorem dX11_undo_14 : decode cX11_undo 14 = .ok (.iconst 0, 1) := by decide +kernel
theorem dX11_undo_15 : decode cX11_undo 15 = .ok (.putfield 81, 3) := by decide +kernel
theorem dX11_undo_18 : decode cX11_undo 18 = .ok (.aload_n 0, 1) := by decide +kernel
theorem dX11_undo_19 : decode cX11_undo 19 = .ok (.getfield 19, 3) := by decide +kernel
theorem dX11_undo_22 : decode cX11_undo 22 = .ok (.aload_n 0, 1) := by decide +kernel
theorem dX11_undo_23 : decode cX11_undo 23 = .ok (.getfield 23, 3) := by decide +kernel
theorem dX11_undo_26 : decode cX11_undo 26 = .ok (.invokevirtual 304, 3) := by decide +kernel
theorem dX11_undo_29 : decode cX11_undo 29 = .ok (.aload_n 0, 1) := by decide +kernel
theorem dX11_undo_30 : decode cX11_undo 30 = .ok (.invokevirtual 306, 3) := by decide +kernel
theorem dX11_undo_33 : decode cX11_undo 33 = .ok (.aload_n 0, 1) := by decide +kernel
theorem dX11_undo_34 : decode cX11_undo 34 = .ok (.iconst 1, 1) := by decide +kernel
theorem dX11_undo_35 : decode cX11_undo 35 = .ok (.invokevirtual 98, 3) := by decide +kernel
theorem dX11_undo_38 : decode cX11_undo 38 = .ok (.ireturn, 1) := by decide +kernel
theorem dX11_way_0 : decode cX11_way 0 = .ok (.aload_n 0, 1) := by decide +kernel
theorem dX11_way_1 : decode cX11_way 1 = .ok (.getfield 19, 3) := by decide +kernel
theorem dX11_way_4 : decode cX11_way 4 = .ok (.iload_n 1, 1) := by decide +kernel
theorem dX11_way_5 : decode cX11_way 5 = .ok (.invokevirtual 101, 3) := by decide +kernel
theorem dX11_way_8 : decode cX11_way 8 = .ok (.ifCond .eq 14, 3) := by decide +kernel
theorem dX11_way_11 : decode cX11_way 11 = .ok (.aload_n 0, 1) := by decide +kernel
theorem dX11_way_12 : decode cX11_way 12 = .ok (.getfield 19, 3) := by decide +kernel
theorem dX11_way_15 : decode cX11_way 15 = .ok (.iload_n 2, 1) := by decide +kernel
theorem dX11_way_16 : decode cX11_way 16 = .ok (.invokevirtual 101, 3) := by decide +kernel
theorem dX11_way_19 : decode cX11_way 19 = .ok (.ifCond .ne 10, 3) := by decide +kernel
theorem dX11_way_22 : decode cX11_way 22 = .ok (.aload_n 0, 1) := by decide +kernel
theorem dX11_way_23 : decode cX11_way 23 = .ok (.bipush (-2), 2) := by decide +kernel
theorem dX11_way_25 : decode cX11_way 25 = .ok (.invokevirtual 88, 3) := by decide +kernel
theorem dX11_way_28 : decode cX11_way 28 = .ok (.ireturn, 1) := by decide +kernel
theorem dX11_way_29 : decode cX11_way 29 = .ok (.aload_n 0, 1) := by decide +kernel
theorem dX11_way_30 : decode cX11_way 30 = .ok (.getfield 31, 3) := by decide +kernel
theorem dX11_way_33 : decode cX11_way 33 = .ok (.lconst 1, 1) := by decide +kernel
theorem dX11_way_34 : decode cX11_way 34 = .ok (.iload_n 2, 1) := by decide +kernel
theorem dX11_way_35 : decode cX11_way 35 = .ok (.lshl, 1) := by decide +kernel
theorem dX11_way_36 : decode cX11_way 36 = .ok (.invokevirtual 133, 3) := by decide +kernel
theorem dX11_way_39 : decode cX11_way 39 = .ok (.aload_n 0, 1) := by decide +kernel
theorem dX11_way_40 : decode cX11_way 40 = .ok (.getfield 31, 3) := by decide +kernel
theorem dX11_way_43 : decode cX11_way 43 = .ok (.iload_n 1, 1) := by decide +kernel
theorem dX11_way_44 : decode cX11_way 44 = .ok (.iload_n 2, 1) := by decide +kernel
theorem dX11_way_45 : decode cX11_way 45 = .ok (.invokevirtual 137, 3) := by decide +kernel
theorem dX11_way_48 : decode cX11_way 48 = .ok (.istore_n 3, 1) := by decide +kernel
theorem dX11_way_49 : decode cX11_way 49 = .ok (.iload_n 3, 1) := by decide +kernel
theorem dX11_way_50 : decode cX11_way 50 = .ok (.ldc 140, 2) := by decide +kernel
theorem dX11_way_52 : decode cX11_way 52 = .ok (.if_icmp .lt 12, 3) := by decide +kernel
theorem dX11_way_55 : decode cX11_way 55 = .ok (.aload_n 0, 1) := by decide +kernel
theorem dX11_way_56 : decode cX11_way 56 = .ok (.bipush (-8), 2) := by decide +kernel
theorem dX11_way_58 : decode cX11_way 58 = .ok (.invokevirtual 88, 3) := by decide +kernel
theorem dX11_way_61 : decode cX11_way 61 = .ok (.goto 8, 3) := by decide +kernel
theorem dX11_way_64 : decode cX11_way 64 = .ok (.aload_n 0, 1) := by decide +kernel
theorem dX11_way_65 : decode cX11_way 65 = .ok (.iload_n 3, 1) := by decide +kernel
theorem dX11_way_66 : decode cX11_way 66 = .ok (.invokevirtual 98, 3) := by decide +kernel
theorem dX11_way_69 : decode cX11_way 69 = .ok (.ireturn, 1) := by decide +kernel
theorem dX11_wayAt_0 : decode cX11_wayAt 0 = .ok (.aload_n 0, 1) := by decide +kernel
theorem dX11_wayAt_1 : decode cX11_wayAt 1 = .ok (.getfield 19, 3) := by decide +kernel
theorem dX11_wayAt_4 : decode cX11_wayAt 4 = .ok (.iload_n 1, 1) := by decide +kernel
theorem dX11_wayAt_5 : decode cX11_wayAt 5 = .ok (.invokevirtual 101, 3) := by decide +kernel
theorem dX11_wayAt_8 : decode cX11_wayAt 8 = .ok (.ifCond .eq 14, 3) := by decide +kernel
theorem dX11_wayAt_11 : decode cX11_wayAt 11 = .ok (.aload_n 0, 1) := by decide +kernel
theorem dX11_wayAt_12 : decode cX11_wayAt 12 = .ok (.getfield 19, 3) := by decide +kernel
theorem dX11_wayAt_15 : decode cX11_wayAt 15 = .ok (.iload_n 2, 1) := by decide +kernel
theorem dX11_wayAt_16 : decode cX11_wayAt 16 = .ok (.invokevirtual 101, 3) := by decide +kernel
theorem dX11_wayAt_19 : decode cX11_wayAt 19 = .ok (.ifCond .ne 10, 3) := by decide +kernel
theorem dX11_wayAt_22 : decode cX11_wayAt 22 = .ok (.aload_n 0, 1) := by decide +kernel
theorem dX11_wayAt_23 : decode cX11_wayAt 23 = .ok (.bipush (-2), 2) := by decide +kernel
theorem dX11_wayAt_25 : decode cX11_wayAt 25 = .ok (.invokevirtual 88, 3) := by decide +kernel
theorem dX11_wayAt_28 : decode cX11_wayAt 28 = .ok (.ireturn, 1) := by decide +kernel
theorem dX11_wayAt_29 : decode cX11_wayAt 29 = .ok (.aload_n 0, 1) := by decide +kernel
theorem dX11_wayAt_30 : decode cX11_wayAt 30 = .ok (.getfield 31, 3) := by decide +kernel
theorem dX11_wayAt_33 : decode cX11_wayAt 33 = .ok (.lconst 1, 1) := by decide +kernel
theorem dX11_wayAt_34 : decode cX11_wayAt 34 = .ok (.iload_n 2, 1) := by decide +kernel
theorem dX11_wayAt_35 : decode cX11_wayAt 35 = .ok (.lshl, 1) := by decide +kernel
theorem dX11_wayAt_36 : decode cX11_wayAt 36 = .ok (.invokevirtual 133, 3) := by decide +kernel
theorem dX11_wayAt_39 : decode cX11_wayAt 39 = .ok (.aload_n 0, 1) := by decide +kernel
theorem dX11_wayAt_40 : decode cX11_wayAt 40 = .ok (.getfield 31, 3) := by decide +kernel
theorem dX11_wayAt_43 : decode cX11_wayAt 43 = .ok (.iload_n 1, 1) := by decide +kernel
theorem dX11_wayAt_44 : decode cX11_wayAt 44 = .ok (.iload_n 2, 1) := by decide +kernel
theorem dX11_wayAt_45 : decode cX11_wayAt 45 = .ok (.invokevirtual 137, 3) := by decide +kernel
theorem dX11_wayAt_48 : decode cX11_wayAt 48 = .ok (.ldc 140, 2) := by decide +kernel
theorem dX11_wayAt_50 : decode cX11_wayAt 50 = .ok (.if_icmp .lt 10, 3) := by decide +kernel
theorem dX11_wayAt_53 : decode cX11_wayAt 53 = .ok (.aload_n 0, 1) := by decide +kernel
theorem dX11_wayAt_54 : decode cX11_wayAt 54 = .ok (.bipush (-8), 2) := by decide +kernel
theorem dX11_wayAt_56 : decode cX11_wayAt 56 = .ok (.invokevirtual 88, 3) := by decide +kernel
theorem dX11_wayAt_59 : decode cX11_wayAt 59 = .ok (.ireturn, 1) := by decide +kernel
theorem dX11_wayAt_60 : decode cX11_wayAt 60 = .ok (.aload_n 0, 1) := by decide +kernel
theorem dX11_wayAt_61 : decode cX11_wayAt 61 = .ok (.aload_n 0, 1) := by decide +kernel
theorem dX11_wayAt_62 : decode cX11_wayAt 62 = .ok (.getfield 31, 3) := by decide +kernel
theorem dX11_wayAt_65 : decode cX11_wayAt 65 = .ok (.iload_n 1, 1) := by decide +kernel
theorem dX11_wayAt_66 : decode cX11_wayAt 66 = .ok (.iload_n 2, 1) := by decide +kernel
theorem dX11_wayAt_67 : decode cX11_wayAt 67 = .ok (.iload_n 3, 1) := by decide +kernel
theorem dX11_wayAt_68 : decode cX11_wayAt 68 = .ok (.invokevirtual 141, 3) := by decide +kernel
theorem dX11_wayAt_71 : decode cX11_wayAt 71 = .ok (.invokevirtual 98, 3) := by decide +kernel
theorem dX11_wayAt_74 : decode cX11_wayAt 74 = .ok (.ireturn, 1) := by decide +kernel
theorem dX11_wholeIn_0 : decode cX11_wholeIn 0 = .ok (.iload_n 0, 1) := by decide +kernel
theorem dX11_wholeIn_1 : decode cX11_wholeIn 1 = .ok (.i2f, 1) := by decide +kernel
theorem dX11_wholeIn_2 : decode cX11_wholeIn 2 = .ok (.f2l, 1) := by decide +kernel
theorem dX11_wholeIn_3 : decode cX11_wholeIn 3 = .ok (.lstore_n 2, 1) := by decide +kernel
theorem dX11_wholeIn_4 : decode cX11_wholeIn 4 = .ok (.iload_n 1, 1) := by decide +kernel
theorem dX11_wholeIn_5 : decode cX11_wholeIn 5 = .ok (.i2f, 1) := by decide +kernel
theorem dX11_wholeIn_6 : decode cX11_wholeIn 6 = .ok (.f2l, 1) := by decide +kernel
theorem dX11_wholeIn_7 : decode cX11_wholeIn 7 = .ok (.lstore 4, 2) := by decide +kernel
theorem dX11_wholeIn_9 : decode cX11_wholeIn 9 = .ok (.lload 4, 2) := by decide +kernel
theorem dX11_wholeIn_11 : decode cX11_wholeIn 11 = .ok (.lconst 1, 1) := by decide +kernel
theorem dX11_wholeIn_12 : decode cX11_wholeIn 12 = .ok (.lcmp, 1) := by decide +kernel
theorem dX11_wholeIn_13 : decode cX11_wholeIn 13 = .ok (.ifCond .ge 5, 3) := by decide +kernel
theorem dX11_wholeIn_16 : decode cX11_wholeIn 16 = .ok (.iconst 0, 1) := by decide +kernel
theorem dX11_wholeIn_17 : decode cX11_wholeIn 17 = .ok (.ireturn, 1) := by decide +kernel
theorem dX11_wholeIn_18 : decode cX11_wholeIn 18 = .ok (.lload_n 2, 1) := by decide +kernel
theorem dX11_wholeIn_19 : decode cX11_wholeIn 19 = .ok (.lload 4, 2) := by decide +kernel
theorem dX11_wholeIn_21 : decode cX11_wholeIn 21 = .ok (.lrem, 1) := by decide +kernel
theorem dX11_wholeIn_22 : decode cX11_wholeIn 22 = .ok (.l2f, 1) := by decide +kernel
theorem dX11_wholeIn_23 : decode cX11_wholeIn 23 = .ok (.ldc_w 354, 3) := by decide +kernel
theorem dX11_wholeIn_26 : decode cX11_wholeIn 26 = .ok (.fdiv, 1) := by decide +kernel
theorem dX11_wholeIn_27 : decode cX11_wholeIn 27 = .ok (.fstore 6, 2) := by decide +kernel
theorem dX11_wholeIn_29 : decode cX11_wholeIn 29 = .ok (.iload_n 0, 1) := by decide +kernel
theorem dX11_wholeIn_30 : decode cX11_wholeIn 30 = .ok (.i2f, 1) := by decide +kernel
theorem dX11_wholeIn_31 : decode cX11_wholeIn 31 = .ok (.ldc_w 354, 3) := by decide +kernel
theorem dX11_wholeIn_34 : decode cX11_wholeIn 34 = .ok (.fdiv, 1) := by decide +kernel
theorem dX11_wholeIn_35 : decode cX11_wholeIn 35 = .ok (.fstore 7, 2) := by decide +kernel
theorem dX11_wholeIn_37 : decode cX11_wholeIn 37 = .ok (.iload_n 1, 1) := by decide +kernel
theorem dX11_wholeIn_38 : decode cX11_wholeIn 38 = .ok (.i2f, 1) := by decide +kernel
theorem dX11_wholeIn_39 : decode cX11_wholeIn 39 = .ok (.ldc_w 354, 3) := by decide +kernel
theorem dX11_wholeIn_42 : decode cX11_wholeIn 42 = .ok (.fdiv, 1) := by decide +kernel
theorem dX11_wholeIn_43 : decode cX11_wholeIn 43 = .ok (.fstore 8, 2) := by decide +kernel
theorem dX11_wholeIn_45 : decode cX11_wholeIn 45 = .ok (.ldc_w 343, 3) := by decide +kernel
theorem dX11_wholeIn_48 : decode cX11_wholeIn 48 = .ok (.fload 7, 2) := by decide +kernel
theorem dX11_wholeIn_50 : decode cX11_wholeIn 50 = .ok (.fload 6, 2) := by decide +kernel
theorem dX11_wholeIn_52 : decode cX11_wholeIn 52 = .ok (.fsub, 1) := by decide +kernel
theorem dX11_wholeIn_53 : decode cX11_wholeIn 53 = .ok (.fload 8, 2) := by decide +kernel
theorem dX11_wholeIn_55 : decode cX11_wholeIn 55 = .ok (.fdiv, 1) := by decide +kernel
theorem dX11_wholeIn_56 : decode cX11_wholeIn 56 = .ok (.f2i, 1) := by decide +kernel
theorem dX11_wholeIn_57 : decode cX11_wholeIn 57 = .ok (.invokestatic 345, 3) := by decide +kernel
theorem dX11_wholeIn_60 : decode cX11_wholeIn 60 = .ok (.ireturn, 1) := by decide +kernel
theorem dX11_whyUnpaired_0 : decode cX11_whyUnpaired 0 = .ok (.aload_n 0, 1) := by decide +kernel
theorem dX11_whyUnpaired_1 : decode cX11_whyUnpaired 1 = .ok (.getfield 19, 3) := by decide +kernel
theorem dX11_whyUnpaired_4 : decode cX11_whyUnpaired 4 = .ok (.iload_n 1, 1) := by decide +kernel
theorem dX11_whyUnpaired_5 : decode cX11_whyUnpaired 5 = .ok (.invokevirtual 225, 3) := by decide +kernel
theorem dX11_whyUnpaired_8 : decode cX11_whyUnpaired 8 = .ok (.ifCond .eq 6, 3) := by decide +kernel
theorem dX11_whyUnpaired_11 : decode cX11_whyUnpaired 11 = .ok (.bipush (-4), 2) := by decide +kernel
theorem dX11_whyUnpaired_13 : decode cX11_whyUnpaired 13 = .ok (.ireturn, 1) := by decide +kernel
theorem dX11_whyUnpaired_14 : decode cX11_whyUnpaired 14 = .ok (.aload_n 0, 1) := by decide +kernel
theorem dX11_whyUnpaired_15 : decode cX11_whyUnpaired 15 = .ok (.getfield 55, 3) := by decide +kernel
theorem dX11_whyUnpaired_18 : decode cX11_whyUnpaired 18 = .ok (.iload_n 1, 1) := by decide +kernel
theorem dX11_whyUnpaired_19 : decode cX11_whyUnpaired 19 = .ok (.aaload, 1) := by decide +kernel
theorem dX11_whyUnpaired_20 : decode cX11_whyUnpaired 20 = .ok (.instanceof 220, 3) := by decide +kernel
theorem dX11_whyUnpaired_23 : decode cX11_whyUnpaired 23 = .ok (.ifCond .eq 8, 3) := by decide +kernel
theorem dX11_whyUnpaired_26 : decode cX11_whyUnpaired 26 = .ok (.bipush (-6), 2) := by decide +kernel
theorem dX11_whyUnpaired_28 : decode cX11_whyUnpaired 28 = .ok (.goto 4, 3) := by decide +kernel
theorem dX11_whyUnpaired_31 : decode cX11_whyUnpaired 31 = .ok (.iconst 0, 1) := by decide +kernel
theorem dX11_whyUnpaired_32 : decode cX11_whyUnpaired 32 = .ok (.ireturn, 1) := by decide +kernel
theorem dX11_write_0 : decode cX11_write 0 = .ok (.aload_n 0, 1) := by decide +kernel
theorem dX11_write_1 : decode cX11_write 1 = .ok (.getfield 19, 3) := by decide +kernel
theorem dX11_write_4 : decode cX11_write 4 = .ok (.getfield 274, 3) := by decide +kernel
theorem dX11_write_7 : decode cX11_write 7 = .ok (.iload_n 1, 1) := by decide +kernel
theorem dX11_write_8 : decode cX11_write 8 = .ok (.iconst 0, 1) := by decide +kernel
theorem dX11_write_9 : decode cX11_write 9 = .ok (.invokevirtual 129, 3) := by decide +kernel
theorem dX11_write_12 : decode cX11_write 12 = .ok (.istore_n 2, 1) := by decide +kernel
theorem dX11_write_13 : decode cX11_write 13 = .ok (.aload_n 0, 1) := by decide +kernel
theorem dX11_write_14 : decode cX11_write 14 = .ok (.getfield 19, 3) := by decide +kernel
theorem dX11_write_17 : decode cX11_write 17 = .ok (.iload_n 1, 1) := by decide +kernel
theorem dX11_write_18 : decode cX11_write 18 = .ok (.invokevirtual 374, 3) := by decide +kernel
theorem dX11_write_21 : decode cX11_write 21 = .ok (.istore_n 3, 1) := by decide +kernel
theorem dX11_write_22 : decode cX11_write 22 = .ok (.iload_n 2, 1) := by decide +kernel
theorem dX11_write_23 : decode cX11_write 23 = .ok (.bipush 10, 2) := by decide +kernel
theorem dX11_write_25 : decode cX11_write 25 = .ok (.if_icmp .ge 7, 3) := by decide +kernel
theorem dX11_write_28 : decode cX11_write 28 = .ok (.iconst 1, 1) := by decide +kernel
theorem dX11_write_29 : decode cX11_write 29 = .ok (.goto 14, 3) := by decide +kernel
theorem dX11_write_32 : decode cX11_write 32 = .ok (.iload_n 2, 1) := by decide +kernel
theorem dX11_write_33 : decode cX11_write 33 = .ok (.bipush 100, 2) := by decide +kernel
theorem dX11_write_35 : decode cX11_write 35 = .ok (.if_icmp .ge 7, 3) := by decide +kernel
theorem dX11_write_38 : decode cX11_write 38 = .ok (.iconst 2, 1) := by decide +kernel
theorem dX11_write_39 : decode cX11_write 39 = .ok (.goto 4, 3) := by decide +kernel
theorem dX11_write_42 : decode cX11_write 42 = .ok (.iconst 3, 1) := by decide +kernel
theorem dX11_write_43 : decode cX11_write 43 = .ok (.istore 4, 2) := by decide +kernel
theorem dX11_write_45 : decode cX11_write 45 = .ok (.aload_n 0, 1) := by decide +kernel
theorem dX11_write_46 : decode cX11_write 46 = .ok (.getfield 77, 3) := by decide +kernel
theorem dX11_write_49 : decode cX11_write 49 = .ok (.iconst 1, 1) := by decide +kernel
theorem dX11_write_50 : decode cX11_write 50 = .ok (.iadd, 1) := by decide +kernel
theorem dX11_write_51 : decode cX11_write 51 = .ok (.iload 4, 2) := by decide +kernel
theorem dX11_write_53 : decode cX11_write 53 = .ok (.iadd, 1) := by decide +kernel
theorem dX11_write_54 : decode cX11_write 54 = .ok (.iload_n 3, 1) := by decide +kernel
theorem dX11_write_55 : decode cX11_write 55 = .ok (.iconst (-1), 1) := by decide +kernel
theorem dX11_write_56 : decode cX11_write 56 = .ok (.if_icmp .ne 7, 3) := by decide +kernel
theorem dX11_write_59 : decode cX11_write 59 = .ok (.iconst 0, 1) := by decide +kernel
theorem dX11_write_60 : decode cX11_write 60 = .ok (.goto 4, 3) := by decide +kernel
theorem dX11_write_63 : decode cX11_write 63 = .ok (.iconst 1, 1) := by decide +kernel
theorem dX11_write_64 : decode cX11_write 64 = .ok (.iadd, 1) := by decide +kernel
theorem dX11_write_65 : decode cX11_write 65 = .ok (.sipush 8000, 3) := by decide +kernel
theorem dX11_write_68 : decode cX11_write 68 = .ok (.if_icmp .le 5, 3) := by decide +kernel
theorem dX11_write_71 : decode cX11_write 71 = .ok (.iconst 0, 1) := by decide +kernel
theorem dX11_write_72 : decode cX11_write 72 = .ok (.ireturn, 1) := by decide +kernel
theorem dX11_write_73 : decode cX11_write 73 = .ok (.aload_n 0, 1) := by decide +kernel
theorem dX11_write_74 : decode cX11_write 74 = .ok (.aload_n 0, 1) := by decide +kernel
theorem dX11_write_75 : decode cX11_write 75 = .ok (.getfield 19, 3) := by decide +kernel
theorem dX11_write_78 : decode cX11_write 78 = .ok (.getfield 274, 3) := by decide +kernel
theorem dX11_write_81 : decode cX11_write 81 = .ok (.iload_n 1, 1) := by decide +kernel
theorem dX11_write_82 : decode cX11_write 82 = .ok (.iconst 3, 1) := by decide +kernel
theorem dX11_write_83 : decode cX11_write 83 = .ok (.invokevirtual 129, 3) := by decide +kernel
theorem dX11_write_86 : decode cX11_write 86 = .ok (.iconst 1, 1) := by decide +kernel
theorem dX11_write_87 : decode cX11_write 87 = .ok (.if_icmp .ne 8, 3) := by decide +kernel
theorem dX11_write_90 : decode cX11_write 90 = .ok (.bipush 43, 2) := by decide +kernel
theorem dX11_write_92 : decode cX11_write 92 = .ok (.goto 5, 3) := by decide +kernel
theorem dX11_write_95 : decode cX11_write 95 = .ok (.bipush 45, 2) := by decide +kernel
theorem dX11_write_97 : decode cX11_write 97 = .ok (.invokevirtual 377, 3) := by decide +kernel
theorem dX11_write_100 : decode cX11_write 100 = .ok (.iload 4, 2) := by decide +kernel
theorem dX11_write_102 : decode cX11_write 102 = .ok (.iconst 2, 1) := by decide +kernel
theorem dX11_write_103 : decode cX11_write 103 = .ok (.if_icmp .le 15, 3) := by decide +kernel
theorem dX11_write_106 : decode cX11_write 106 = .ok (.aload_n 0, 1) := by decide +kernel
theorem dX11_write_107 : decode cX11_write 107 = .ok (.bipush 48, 2) := by decide +kernel
theorem dX11_write_109 : decode cX11_write 109 = .ok (.iload_n 2, 1) := by decide +kernel
theorem dX11_write_110 : decode cX11_write 110 = .ok (.bipush 100, 2) := by decide +kernel
theorem dX11_write_112 : decode cX11_write 112 = .ok (.idiv, 1) := by decide +kernel
theorem dX11_write_113 : decode cX11_write 113 = .ok (.iadd, 1) := by decide +kernel
theorem dX11_write_114 : decode cX11_write 114 = .ok (.i2c, 1) := by decide +kernel
theorem dX11_write_115 : decode cX11_write 115 = .ok (.invokevirtual 377, 3) := by decide +kernel
theorem dX11_write_118 : decode cX11_write 118 = .ok (.iload 4, 2) := by decide +kernel
theorem dX11_write_120 : decode cX11_write 120 = .ok (.iconst 1, 1) := by decide +kernel
theorem dX11_write_121 : decode cX11_write 121 = .ok (.if_icmp .le 18, 3) := by decide +kernel
theorem dX11_write_124 : decode cX11_write 124 = .ok (.aload_n 0, 1) := by decide +kernel
theorem dX11_write_125 : decode cX11_write 125 = .ok (.bipush 48, 2) := by decide +kernel
theorem dX11_write_127 : decode cX11_write 127 = .ok (.iload_n 2, 1) := by decide +kernel
theorem dX11_write_128 : decode cX11_write 128 = .ok (.bipush 10, 2) := by decide +kernel
theorem dX11_write_130 : decode cX11_write 130 = .ok (.idiv, 1) := by decide +kernel
theorem dX11_write_131 : decode cX11_write 131 = .ok (.bipush 10, 2) := by decide +kernel
theorem dX11_write_133 : decode cX11_write 133 = .ok (.irem, 1) := by decide +kernel
theorem dX11_write_134 : decode cX11_write 134 = .ok (.iadd, 1) := by decide +kernel
theorem dX11_write_135 : decode cX11_write 135 = .ok (.i2c, 1) := by decide +kernel
theorem dX11_write_136 : decode cX11_write 136 = .ok (.invokevirtual 377, 3) := by decide +kernel
theorem dX11_write_139 : decode cX11_write 139 = .ok (.aload_n 0, 1) := by decide +kernel
theorem dX11_write_140 : decode cX11_write 140 = .ok (.bipush 48, 2) := by decide +kernel
theorem dX11_write_142 : decode cX11_write 142 = .ok (.iload_n 2, 1) := by decide +kernel
theorem dX11_write_143 : decode cX11_write 143 = .ok (.bipush 10, 2) := by decide +kernel
theorem dX11_write_145 : decode cX11_write 145 = .ok (.irem, 1) := by decide +kernel
theorem dX11_write_146 : decode cX11_write 146 = .ok (.iadd, 1) := by decide +kernel
theorem dX11_write_147 : decode cX11_write 147 = .ok (.i2c, 1) := by decide +kernel
theorem dX11_write_148 : decode cX11_write 148 = .ok (.invokevirtual 377, 3) := by decide +kernel
theorem dX11_write_151 : decode cX11_write 151 = .ok (.iload_n 3, 1) := by decide +kernel
theorem dX11_write_152 : decode cX11_write 152 = .ok (.iconst (-1), 1) := by decide +kernel
theorem dX11_write_153 : decode cX11_write 153 = .ok (.if_icmp .eq 12, 3) := by decide +kernel
theorem dX11_write_156 : decode cX11_write 156 = .ok (.aload_n 0, 1) := by decide +kernel
theorem dX11_write_157 : decode cX11_write 157 = .ok (.bipush 65, 2) := by decide +kernel
theorem dX11_write_159 : decode cX11_write 159 = .ok (.iload_n 3, 1) := by decide +kernel
theorem dX11_write_160 : decode cX11_write 160 = .ok (.iadd, 1) := by decide +kernel
theorem dX11_write_161 : decode cX11_write 161 = .ok (.i2c, 1) := by decide +kernel
theorem dX11_write_162 : decode cX11_write 162 = .ok (.invokevirtual 377, 3) := by decide +kernel
theorem dX11_write_165 : decode cX11_write 165 = .ok (.iconst 1, 1) := by decide +kernel
theorem dX11_write_166 : decode cX11_write 166 = .ok (.ireturn, 1) := by decide +kernel
theorem dX12_adds_0 : decode cX12_adds 0 = .ok (.iload_n 1, 1) := by decide +kernel
theorem dX12_adds_1 : decode cX12_adds 1 = .ok (.istore 4, 2) := by decide +kernel
theorem dX12_adds_3 : decode cX12_adds 3 = .ok (.iload 4, 2) := by decide +kernel
theorem dX12_adds_5 : decode cX12_adds 5 = .ok (.iload_n 2, 1) := by decide +kernel
theorem dX12_adds_6 : decode cX12_adds 6 = .ok (.if_icmp .eq 36, 3) := by decide +kernel
theorem dX12_adds_9 : decode cX12_adds 9 = .ok (.aload_n 0, 1) := by decide +kernel
theorem dX12_adds_10 : decode cX12_adds 10 = .ok (.iload 4, 2) := by decide +kernel
theorem dX12_adds_12 : decode cX12_adds 12 = .ok (.iload_n 2, 1) := by decide +kernel
theorem dX12_adds_13 : decode cX12_adds 13 = .ok (.invokevirtual 137, 3) := by decide +kernel
theorem dX12_adds_16 : decode cX12_adds 16 = .ok (.istore 5, 2) := by decide +kernel
theorem dX12_adds_18 : decode cX12_adds 18 = .ok (.aload_n 0, 1) := by decide +kernel
theorem dX12_adds_19 : decode cX12_adds 19 = .ok (.getfield 37, 3) := by decide +kernel
theorem dX12_adds_22 : decode cX12_adds 22 = .ok (.iload 5, 2) := by decide +kernel
theorem dX12_adds_24 : decode cX12_adds 24 = .ok (.dup2, 1) := by decide +kernel
theorem dX12_adds_25 : decode cX12_adds 25 = .ok (.iaload, 1) := by decide +kernel
theorem dX12_adds_26 : decode cX12_adds 26 = .ok (.iload_n 3, 1) := by decide +kernel
theorem dX12_adds_27 : decode cX12_adds 27 = .ok (.iadd, 1) := by decide +kernel
theorem dX12_adds_28 : decode cX12_adds 28 = .ok (.iastore, 1) := by decide +kernel
theorem dX12_adds_29 : decode cX12_adds 29 = .ok (.aload_n 0, 1) := by decide +kernel
theorem dX12_adds_30 : decode cX12_adds 30 = .ok (.iload 5, 2) := by decide +kernel
theorem dX12_adds_32 : decode cX12_adds 32 = .ok (.iload 4, 2) := by decide +kernel
theorem dX12_adds_34 : decode cX12_adds 34 = .ok (.invokevirtual 130, 3) := by decide +kernel
theorem dX12_adds_37 : decode cX12_adds 37 = .ok (.istore 4, 2) := by decide +kernel
theorem dX12_adds_39 : decode cX12_adds 39 = .ok (.goto (-36), 3) := by decide +kernel
theorem dX12_adds_42 : decode cX12_adds 42 = .ok (.return_, 1) := by decide +kernel
theorem dX12_against_0 : decode cX12_against 0 = .ok (.aload_n 0, 1) := by decide +kernel
theorem dX12_against_1 : decode cX12_against 1 = .ok (.getfield 7, 3) := by decide +kernel
theorem dX12_against_4 : decode cX12_against 4 = .ok (.aload_n 0, 1) := by decide +kernel
theorem dX12_against_5 : decode cX12_against 5 = .ok (.iload_n 1, 1) := by decide +kernel
theorem dX12_against_6 : decode cX12_against 6 = .ok (.invokevirtual 140, 3) := by decide +kernel
theorem dX12_against_9 : decode cX12_against 9 = .ok (.iconst 2, 1) := by decide +kernel
theorem dX12_against_10 : decode cX12_against 10 = .ok (.iadd, 1) := by decide +kernel
theorem dX12_against_11 : decode cX12_against 11 = .ok (.iaload, 1) := by decide +kernel
theorem dX12_against_12 : decode cX12_against 12 = .ok (.istore 6, 2) := by decide +kernel
theorem dX12_against_14 : decode cX12_against 14 = .ok (.aload_n 0, 1) := by decide +kernel
theorem dX12_against_15 : decode cX12_against 15 = .ok (.getfield 7, 3) := by decide +kernel
theorem dX12_against_18 : decode cX12_against 18 = .ok (.aload_n 0, 1) := by decide +kernel
theorem dX12_against_19 : decode cX12_against 19 = .ok (.iload_n 3, 1) := by decide +kernel
theorem dX12_against_20 : decode cX12_against 20 = .ok (.invokevirtual 140, 3) := by decide +kernel
theorem dX12_against_23 : decode cX12_against 23 = .ok (.iconst 2, 1) := by decide +kernel
theorem dX12_against_24 : decode cX12_against 24 = .ok (.iadd, 1) := by decide +kernel
theorem dX12_against_25 : decode cX12_against 25 = .ok (.iaload, 1) := by decide +kernel
theorem dX12_against_26 : decode cX12_against 26 = .ok (.istore 7, 2) := by decide +kernel
theorem dX12_against_28 : decode cX12_against 28 = .ok (.iload 6, 2) := by decide +kernel
theorem dX12_against_30 : decode cX12_against 30 = .ok (.ifCond .lt 8, 3) := by decide +kernel
theorem dX12_against_33 : decode cX12_against 33 = .ok (.iload 7, 2) := by decide +kernel
theorem dX12_against_35 : decode cX12_against 35 = .ok (.ifCond .ge 6, 3) := by decide +kernel
theorem dX12_against_38 : decode cX12_against 38 = .ok (.bipush (-4), 2) := by decide +kernel
theorem dX12_against_40 : decode cX12_against 40 = .ok (.ireturn, 1) := by decide +kernel
theorem dX12_against_41 : decode cX12_against 41 = .ok (.iload_n 2, 1) := by decide +kernel
theorem dX12_against_42 : decode cX12_against 42 = .ok (.ifCond .lt 40, 3) := by decide +kernel
theorem dX12_against_45 : decode cX12_against 45 = .ok (.iload 4, 2) := by decide +kernel
theorem dX12_against_47 : decode cX12_against 47 = .ok (.ifCond .lt 35, 3) := by decide +kernel
theorem dX12_against_50 : decode cX12_against 50 = .ok (.iload 5, 2) := by decide +kernel
theorem dX12_against_52 : decode cX12_against 52 = .ok (.ifCond .lt 30, 3) := by decide +kernel
theorem dX12_against_55 : decode cX12_against 55 = .ok (.iload_n 2, 1) := by decide +kernel
theorem dX12_against_56 : decode cX12_against 56 = .ok (.i2l, 1) := by decide +kernel
theorem dX12_against_57 : decode cX12_against 57 = .ok (.iload 5, 2) := by decide +kernel
theorem dX12_against_59 : decode cX12_against 59 = .ok (.i2l, 1) := by decide +kernel
theorem dX12_against_60 : decode cX12_against 60 = .ok (.ladd, 1) := by decide +kernel
theorem dX12_against_61 : decode cX12_against 61 = .ok (.iload 6, 2) := by decide +kernel
theorem dX12_against_63 : decode cX12_against 63 = .ok (.i2l, 1) := by decide +kernel
theorem dX12_against_64 : decode cX12_against 64 = .ok (.lcmp, 1) := by decide +kernel
theorem dX12_against_65 : decode cX12_against 65 = .ok (.ifCond .gt 17, 3) := by decide +kernel
theorem dX12_against_68 : decode cX12_against 68 = .ok (.iload 4, 2) := by decide +kernel
theorem dX12_against_70 : decode cX12_against 70 = .ok (.i2l, 1) := by decide +kernel
theorem dX12_against_71 : decode cX12_against 71 = .ok (.iload 5, 2) := by decide +kernel
theorem dX12_against_73 : decode cX12_against 73 = .ok (.i2l, 1) := by decide +kernel
theorem dX12_against_74 : decode cX12_against 74 = .ok (.ladd, 1) := by decide +kernel
theorem dX12_against_75 : decode cX12_against 75 = .ok (.iload 7, 2) := by decide +kernel
theorem dX12_against_77 : decode cX12_against 77 = .ok (.i2l, 1) := by decide +kernel
theorem dX12_against_78 : decode cX12_against 78 = .ok (.lcmp, 1) := by decide +kernel
theorem dX12_against_79 : decode cX12_against 79 = .ok (.ifCond .le 8, 3) := by decide +kernel
theorem dX12_against_82 : decode cX12_against 82 = .ok (.bipush (-5), 2) := by decide +kernel
theorem dX12_against_84 : decode cX12_against 84 = .ok (.goto 4, 3) := by decide +kernel
theorem dX12_against_87 : decode cX12_against 87 = .ok (.iconst 0, 1) := by decide +kernel
theorem dX12_against_88 : decode cX12_against 88 = .ok (.ireturn, 1) := by decide +kernel
theorem dX12_asks_0 : decode cX12_asks 0 = .ok (.aload_n 0, 1) := by decide +kernel
theorem dX12_asks_1 : decode cX12_asks 1 = .ok (.iload_n 1, 1) := by decide +kernel
theorem dX12_asks_2 : decode cX12_asks 2 = .ok (.invokevirtual 197, 3) := by decide +kernel
theorem dX12_asks_5 : decode cX12_asks 5 = .ok (.ifCond .eq 20, 3) := by decide +kernel
theorem dX12_asks_8 : decode cX12_asks 8 = .ok (.aload_n 0, 1) := by decide +kernel
theorem dX12_asks_9 : decode cX12_asks 9 = .ok (.iload_n 2, 1) := by decide +kernel
theorem dX12_asks_10 : decode cX12_asks 10 = .ok (.invokevirtual 112, 3) := by decide +kernel
theorem dX12_asks_13 : decode cX12_asks 13 = .ok (.ifCond .eq 12, 3) := by decide +kernel
theorem dX12_asks_16 : decode cX12_asks 16 = .ok (.iload_n 3, 1) := by decide +kernel
theorem dX12_asks_17 : decode cX12_asks 17 = .ok (.iconst 0, 1) := by decide +kernel
theorem dX12_asks_18 : decode cX12_asks 18 = .ok (.iconst 3, 1) := by decide +kernel
theorem dX12_asks_19 : decode cX12_asks 19 = .ok (.invokestatic 88, 3) := by decide +kernel
theorem dX12_asks_22 : decode cX12_asks 22 = .ok (.ifCond .ne 10, 3) := by decide +kernel
theorem dX12_asks_25 : decode cX12_asks 25 = .ok (.aload_n 0, 1) := by decide +kernel
theorem dX12_asks_26 : decode cX12_asks 26 = .ok (.bipush (-2), 2) := by decide +kernel
theorem dX12_asks_28 : decode cX12_asks 28 = .ok (.invokevirtual 92, 3) := by decide +kernel
theorem dX12_asks_31 : decode cX12_asks 31 = .ok (.ireturn, 1) := by decide +kernel
theorem dX12_asks_32 : decode cX12_asks 32 = .ok (.aload_n 0, 1) := by decide +kernel
theorem dX12_asks_33 : decode cX12_asks 33 = .ok (.getfield 7, 3) := by decide +kernel
theorem dX12_asks_36 : decode cX12_asks 36 = .ok (.aload_n 0, 1) := by decide +kernel
theorem dX12_asks_37 : decode cX12_asks 37 = .ok (.iload_n 1, 1) := by decide +kernel
theorem dX12_asks_38 : decode cX12_asks 38 = .ok (.invokevirtual 188, 3) := by decide +kernel
theorem dX12_asks_41 : decode cX12_asks 41 = .ok (.iconst 2, 1) := by decide +kernel
theorem dX12_asks_42 : decode cX12_asks 42 = .ok (.iadd, 1) := by decide +kernel
theorem dX12_asks_43 : decode cX12_asks 43 = .ok (.iaload, 1) := by decide +kernel
theorem dX12_asks_44 : decode cX12_asks 44 = .ok (.iconst 1, 1) := by decide +kernel
theorem dX12_asks_45 : decode cX12_asks 45 = .ok (.if_icmp .ne 10, 3) := by decide +kernel
theorem dX12_asks_48 : decode cX12_asks 48 = .ok (.aload_n 0, 1) := by decide +kernel
theorem dX12_asks_49 : decode cX12_asks 49 = .ok (.bipush (-4), 2) := by decide +kernel
theorem dX12_asks_51 : decode cX12_asks 51 = .ok (.invokevirtual 92, 3) := by decide +kernel
theorem dX12_asks_54 : decode cX12_asks 54 = .ok (.ireturn, 1) := by decide +kernel
theorem dX12_asks_55 : decode cX12_asks 55 = .ok (.iload_n 3, 1) := by decide +kernel
theorem dX12_asks_56 : decode cX12_asks 56 = .ok (.tableswitch 71 0 2 #[28, 38, 48], 28) := by decide +kernel
theorem dX12_asks_84 : decode cX12_asks 84 = .ok (.aload_n 0, 1) := by decide +kernel
theorem dX12_asks_85 : decode cX12_asks 85 = .ok (.aload_n 0, 1) := by decide +kernel
theorem dX12_asks_86 : decode cX12_asks 86 = .ok (.iload_n 1, 1) := by decide +kernel
theorem dX12_asks_87 : decode cX12_asks 87 = .ok (.invokevirtual 230, 3) := by decide +kernel
theorem dX12_asks_90 : decode cX12_asks 90 = .ok (.invokevirtual 102, 3) := by decide +kernel
theorem dX12_asks_93 : decode cX12_asks 93 = .ok (.ireturn, 1) := by decide +kernel
theorem dX12_asks_94 : decode cX12_asks 94 = .ok (.aload_n 0, 1) := by decide +kernel
theorem dX12_asks_95 : decode cX12_asks 95 = .ok (.aload_n 0, 1) := by decide +kernel
theorem dX12_asks_96 : decode cX12_asks 96 = .ok (.iload_n 1, 1) := by decide +kernel
theorem dX12_asks_97 : decode cX12_asks 97 = .ok (.invokevirtual 227, 3) := by decide +kernel
theorem dX12_asks_100 : decode cX12_asks 100 = .ok (.invokevirtual 102, 3) := by decide +kernel
theorem dX12_asks_103 : decode cX12_asks 103 = .ok (.ireturn, 1) := by decide +kernel
theorem dX12_asks_104 : decode cX12_asks 104 = .ok (.aload_n 0, 1) := by decide +kernel
theorem dX12_asks_105 : decode cX12_asks 105 = .ok (.aload_n 0, 1) := by decide +kernel
theorem dX12_asks_106 : decode cX12_asks 106 = .ok (.iload_n 1, 1) := by decide +kernel
theorem dX12_asks_107 : decode cX12_asks 107 = .ok (.aload_n 0, 1) := by decide +kernel
theorem dX12_asks_108 : decode cX12_asks 108 = .ok (.getfield 7, 3) := by decide +kernel
theorem dX12_asks_111 : decode cX12_asks 111 = .ok (.aload_n 0, 1) := by decide +kernel
theorem dX12_asks_112 : decode cX12_asks 112 = .ok (.iload_n 2, 1) := by decide +kernel
theorem dX12_asks_113 : decode cX12_asks 113 = .ok (.invokevirtual 109, 3) := by decide +kernel
theorem dX12_asks_116 : decode cX12_asks 116 = .ok (.bipush 6, 2) := by decide +kernel
theorem dX12_asks_118 : decode cX12_asks 118 = .ok (.iadd, 1) := by decide +kernel
theorem dX12_asks_119 : decode cX12_asks 119 = .ok (.iaload, 1) := by decide +kernel
theorem dX12_asks_120 : decode cX12_asks 120 = .ok (.invokevirtual 233, 3) := by decide +kernel
theorem dX12_asks_123 : decode cX12_asks 123 = .ok (.invokevirtual 102, 3) := by decide +kernel
theorem dX12_asks_126 : decode cX12_asks 126 = .ok (.ireturn, 1) := by decide +kernel
theorem dX12_asks_127 : decode cX12_asks 127 = .ok (.aload_n 0, 1) := by decide +kernel
theorem dX12_asks_128 : decode cX12_asks 128 = .ok (.iload_n 1, 1) := by decide +kernel
theorem dX12_asks_129 : decode cX12_asks 129 = .ok (.aload_n 0, 1) := by decide +kernel
theorem dX12_asks_130 : decode cX12_asks 130 = .ok (.getfield 7, 3) := by decide +kernel
theorem dX12_asks_133 : decode cX12_asks 133 = .ok (.aload_n 0, 1) := by decide +kernel
theorem dX12_asks_134 : decode cX12_asks 134 = .ok (.iload_n 2, 1) := by decide +kernel
theorem dX12_asks_135 : decode cX12_asks 135 = .ok (.invokevirtual 109, 3) := by decide +kernel
theorem dX12_asks_138 : decode cX12_asks 138 = .ok (.iconst 0, 1) := by decide +kernel
theorem dX12_asks_139 : decode cX12_asks 139 = .ok (.iadd, 1) := by decide +kernel
theorem dX12_asks_140 : decode cX12_asks 140 = .ok (.iaload, 1) := by decide +kernel
theorem dX12_asks_141 : decode cX12_asks 141 = .ok (.invokevirtual 236, 3) := by decide +kernel
theorem dX12_asks_144 : decode cX12_asks 144 = .ok (.istore 4, 2) := by decide +kernel
theorem dX12_asks_146 : decode cX12_asks 146 = .ok (.iload 4, 2) := by decide +kernel
theorem dX12_asks_148 : decode cX12_asks 148 = .ok (.ifCond .ne 12, 3) := by decide +kernel
theorem dX12_asks_151 : decode cX12_asks 151 = .ok (.aload_n 0, 1) := by decide +kernel
theorem dX12_asks_152 : decode cX12_asks 152 = .ok (.bipush (-9), 2) := by decide +kernel
theorem dX12_asks_154 : decode cX12_asks 154 = .ok (.invokevirtual 92, 3) := by decide +kernel
theorem dX12_asks_157 : decode cX12_asks 157 = .ok (.goto 9, 3) := by decide +kernel
theorem dX12_asks_160 : decode cX12_asks 160 = .ok (.aload_n 0, 1) := by decide +kernel
theorem dX12_asks_161 : decode cX12_asks 161 = .ok (.iload 4, 2) := by decide +kernel
theorem dX12_asks_163 : decode cX12_asks 163 = .ok (.invokevirtual 102, 3) := by decide +kernel
theorem dX12_asks_166 : decode cX12_asks 166 = .ok (.ireturn, 1) := by decide +kernel
theorem dX12_at_0 : decode cX12_at 0 = .ok (.iload_n 2, 1) := by decide +kernel
theorem dX12_at_1 : decode cX12_at 1 = .ok (.iconst 0, 1) := by decide +kernel
theorem dX12_at_2 : decode cX12_at 2 = .ok (.iconst 3, 1) := by decide +kernel
theorem dX12_at_3 : decode cX12_at 3 = .ok (.invokestatic 88, 3) := by decide +kernel
theorem dX12_at_6 : decode cX12_at 6 = .ok (.ifCond .ne 10, 3) := by decide +kernel
theorem dX12_at_9 : decode cX12_at 9 = .ok (.aload_n 0, 1) := by decide +kernel
theorem dX12_at_10 : decode cX12_at 10 = .ok (.bipush (-2), 2) := by decide +kernel
theorem dX12_at_12 : decode cX12_at 12 = .ok (.invokevirtual 92, 3) := by decide +kernel
theorem dX12_at_15 : decode cX12_at 15 = .ok (.ireturn, 1) := by decide +kernel
theorem dX12_at_16 : decode cX12_at 16 = .ok (.aload_n 0, 1) := by decide +kernel
theorem dX12_at_17 : decode cX12_at 17 = .ok (.iload_n 1, 1) := by decide +kernel
theorem dX12_at_18 : decode cX12_at 18 = .ok (.iconst 0, 1) := by decide +kernel
theorem dX12_at_19 : decode cX12_at 19 = .ok (.aload_n 0, 1) := by decide +kernel
theorem dX12_at_20 : decode cX12_at 20 = .ok (.getfield 7, 3) := by decide +kernel
theorem dX12_at_23 : decode cX12_at 23 = .ok (.iconst 4, 1) := by decide +kernel
theorem dX12_at_24 : decode cX12_at 24 = .ok (.iaload, 1) := by decide +kernel
theorem dX12_at_25 : decode cX12_at 25 = .ok (.iconst 1, 1) := by decide +kernel
theorem dX12_at_26 : decode cX12_at 26 = .ok (.isub, 1) := by decide +kernel
theorem dX12_at_27 : decode cX12_at 27 = .ok (.invokestatic 88, 3) := by decide +kernel
theorem dX12_at_30 : decode cX12_at 30 = .ok (.ifCond .eq 12, 3) := by decide +kernel
theorem dX12_at_33 : decode cX12_at 33 = .ok (.aload_n 0, 1) := by decide +kernel
theorem dX12_at_34 : decode cX12_at 34 = .ok (.iload_n 1, 1) := by decide +kernel
theorem dX12_at_35 : decode cX12_at 35 = .ok (.iload_n 2, 1) := by decide +kernel
theorem dX12_at_36 : decode cX12_at 36 = .ok (.invokevirtual 332, 3) := by decide +kernel
theorem dX12_at_39 : decode cX12_at 39 = .ok (.goto 4, 3) := by decide +kernel
theorem dX12_at_42 : decode cX12_at 42 = .ok (.iconst (-1), 1) := by decide +kernel
theorem dX12_at_43 : decode cX12_at 43 = .ok (.invokevirtual 102, 3) := by decide +kernel
theorem dX12_at_46 : decode cX12_at 46 = .ok (.ireturn, 1) := by decide +kernel
theorem dX12_bars_0 : decode cX12_bars 0 = .ok (.aload_n 0, 1) := by decide +kernel
theorem dX12_bars_1 : decode cX12_bars 1 = .ok (.getfield 7, 3) := by decide +kernel
theorem dX12_bars_4 : decode cX12_bars 4 = .ok (.aload_n 0, 1) := by decide +kernel
theorem dX12_bars_5 : decode cX12_bars 5 = .ok (.iload_n 1, 1) := by decide +kernel
theorem dX12_bars_6 : decode cX12_bars 6 = .ok (.invokevirtual 140, 3) := by decide +kernel
theorem dX12_bars_9 : decode cX12_bars 9 = .ok (.iconst 2, 1) := by decide +kernel
theorem dX12_bars_10 : decode cX12_bars 10 = .ok (.iadd, 1) := by decide +kernel
theorem dX12_bars_11 : decode cX12_bars 11 = .ok (.iaload, 1) := by decide +kernel
theorem dX12_bars_12 : decode cX12_bars 12 = .ok (.istore_n 3, 1) := by decide +kernel
theorem dX12_bars_13 : decode cX12_bars 13 = .ok (.iload_n 3, 1) := by decide +kernel
theorem dX12_bars_14 : decode cX12_bars 14 = .ok (.ifCond .ge 8, 3) := by decide +kernel
theorem dX12_bars_17 : decode cX12_bars 17 = .ok (.bipush (-4), 2) := by decide +kernel
theorem dX12_bars_19 : decode cX12_bars 19 = .ok (.goto 20, 3) := by decide +kernel
theorem dX12_bars_22 : decode cX12_bars 22 = .ok (.iload_n 2, 1) := by decide +kernel
theorem dX12_bars_23 : decode cX12_bars 23 = .ok (.iconst 0, 1) := by decide +kernel
theorem dX12_bars_24 : decode cX12_bars 24 = .ok (.iload_n 3, 1) := by decide +kernel
theorem dX12_bars_25 : decode cX12_bars 25 = .ok (.iconst 1, 1) := by decide +kernel
theorem dX12_bars_26 : decode cX12_bars 26 = .ok (.isub, 1) := by decide +kernel
theorem dX12_bars_27 : decode cX12_bars 27 = .ok (.invokestatic 88, 3) := by decide +kernel
theorem dX12_bars_30 : decode cX12_bars 30 = .ok (.ifCond .eq 7, 3) := by decide +kernel
theorem dX12_bars_33 : decode cX12_bars 33 = .ok (.iconst 0, 1) := by decide +kernel
theorem dX12_bars_34 : decode cX12_bars 34 = .ok (.goto 5, 3) := by decide +kernel
theorem dX12_bars_37 : decode cX12_bars 37 = .ok (.bipush (-5), 2) := by decide +kernel
theorem dX12_bars_39 : decode cX12_bars 39 = .ok (.ireturn, 1) := by decide +kernel
theorem dX12_beginTimes_0 : decode cX12_beginTimes 0 = .ok (.iconst 0, 1) := by decide +kernel
theorem dX12_beginTimes_1 : decode cX12_beginTimes 1 = .ok (.istore_n 1, 1) := by decide +kernel
theorem dX12_beginTimes_2 : decode cX12_beginTimes 2 = .ok (.iload_n 1, 1) := by decide +kernel
theorem dX12_beginTimes_3 : decode cX12_beginTimes 3 = .ok (.aload_n 0, 1) := by decide +kernel
theorem dX12_beginTimes_4 : decode cX12_beginTimes 4 = .ok (.getfield 7, 3) := by decide +kernel
theorem dX12_beginTimes_7 : decode cX12_beginTimes 7 = .ok (.iconst 1, 1) := by decide +kernel
theorem dX12_beginTimes_8 : decode cX12_beginTimes 8 = .ok (.iaload, 1) := by decide +kernel
theorem dX12_beginTimes_9 : decode cX12_beginTimes 9 = .ok (.if_icmp .ge 39, 3) := by decide +kernel
theorem dX12_beginTimes_12 : decode cX12_beginTimes 12 = .ok (.aload_n 0, 1) := by decide +kernel
theorem dX12_beginTimes_13 : decode cX12_beginTimes 13 = .ok (.getfield 37, 3) := by decide +kernel
theorem dX12_beginTimes_16 : decode cX12_beginTimes 16 = .ok (.iload_n 1, 1) := by decide +kernel
theorem dX12_beginTimes_17 : decode cX12_beginTimes 17 = .ok (.aload_n 0, 1) := by decide +kernel
theorem dX12_beginTimes_18 : decode cX12_beginTimes 18 = .ok (.iload_n 1, 1) := by decide +kernel
theorem dX12_beginTimes_19 : decode cX12_beginTimes 19 = .ok (.invokevirtual 239, 3) := by decide +kernel
theorem dX12_beginTimes_22 : decode cX12_beginTimes 22 = .ok (.ifCond .eq 18, 3) := by decide +kernel
theorem dX12_beginTimes_25 : decode cX12_beginTimes 25 = .ok (.aload_n 0, 1) := by decide +kernel
theorem dX12_beginTimes_26 : decode cX12_beginTimes 26 = .ok (.getfield 7, 3) := by decide +kernel
theorem dX12_beginTimes_29 : decode cX12_beginTimes 29 = .ok (.aload_n 0, 1) := by decide +kernel
theorem dX12_beginTimes_30 : decode cX12_beginTimes 30 = .ok (.iload_n 1, 1) := by decide +kernel
theorem dX12_beginTimes_31 : decode cX12_beginTimes 31 = .ok (.invokevirtual 109, 3) := by decide +kernel
theorem dX12_beginTimes_34 : decode cX12_beginTimes 34 = .ok (.iconst 3, 1) := by decide +kernel
theorem dX12_beginTimes_35 : decode cX12_beginTimes 35 = .ok (.iadd, 1) := by decide +kernel
theorem dX12_beginTimes_36 : decode cX12_beginTimes 36 = .ok (.iaload, 1) := by decide +kernel
theorem dX12_beginTimes_37 : decode cX12_beginTimes 37 = .ok (.goto 4, 3) := by decide +kernel
theorem dX12_beginTimes_40 : decode cX12_beginTimes 40 = .ok (.iconst 0, 1) := by decide +kernel
theorem dX12_beginTimes_41 : decode cX12_beginTimes 41 = .ok (.iastore, 1) := by decide +kernel
theorem dX12_beginTimes_42 : decode cX12_beginTimes 42 = .ok (.iinc 1 1, 3) := by decide +kernel
theorem dX12_beginTimes_45 : decode cX12_beginTimes 45 = .ok (.goto (-43), 3) := by decide +kernel
theorem dX12_beginTimes_48 : decode cX12_beginTimes 48 = .ok (.return_, 1) := by decide +kernel
theorem dX12_between_0 : decode cX12_between 0 = .ok (.aload_n 0, 1) := by decide +kernel
theorem dX12_between_1 : decode cX12_between 1 = .ok (.getfield 23, 3) := by decide +kernel
theorem dX12_between_4 : decode cX12_between 4 = .ok (.bipush 60, 2) := by decide +kernel
theorem dX12_between_6 : decode cX12_between 6 = .ok (.iload_n 1, 1) := by decide +kernel
theorem dX12_between_7 : decode cX12_between 7 = .ok (.iload_n 2, 1) := by decide +kernel
theorem dX12_between_8 : decode cX12_between 8 = .ok (.invokestatic 156, 3) := by decide +kernel
theorem dX12_between_11 : decode cX12_between 11 = .ok (.imul, 1) := by decide +kernel
theorem dX12_between_12 : decode cX12_between 12 = .ok (.iload_n 1, 1) := by decide +kernel
theorem dX12_between_13 : decode cX12_between 13 = .ok (.iadd, 1) := by decide +kernel
theorem dX12_between_14 : decode cX12_between 14 = .ok (.iload_n 2, 1) := by decide +kernel
theorem dX12_between_15 : decode cX12_between 15 = .ok (.iadd, 1) := by decide +kernel
theorem dX12_between_16 : decode cX12_between 16 = .ok (.iload_n 1, 1) := by decide +kernel
theorem dX12_between_17 : decode cX12_between 17 = .ok (.iload_n 2, 1) := by decide +kernel
theorem dX12_between_18 : decode cX12_between 18 = .ok (.invokestatic 156, 3) := by decide +kernel
theorem dX12_between_21 : decode cX12_between 21 = .ok (.isub, 1) := by decide +kernel
theorem dX12_between_22 : decode cX12_between 22 = .ok (.iaload, 1) := by decide +kernel
theorem dX12_between_23 : decode cX12_between 23 = .ok (.ireturn, 1) := by decide +kernel
theorem dX12_brings_0 : decode cX12_brings 0 = .ok (.iconst 0, 1) := by decide +kernel
theorem dX12_brings_1 : decode cX12_brings 1 = .ok (.istore 6, 2) := by decide +kernel
theorem dX12_brings_3 : decode cX12_brings 3 = .ok (.iload 6, 2) := by decide +kernel
theorem dX12_brings_5 : decode cX12_brings 5 = .ok (.iload 5, 2) := by decide +kernel
theorem dX12_brings_7 : decode cX12_brings 7 = .ok (.if_icmp .ge 65, 3) := by decide +kernel
theorem dX12_brings_10 : decode cX12_brings 10 = .ok (.aload_n 0, 1) := by decide +kernel
theorem dX12_brings_11 : decode cX12_brings 11 = .ok (.getfield 26, 3) := by decide +kernel
theorem dX12_brings_14 : decode cX12_brings 14 = .ok (.iload 6, 2) := by decide +kernel
theorem dX12_brings_16 : decode cX12_brings 16 = .ok (.aload_n 0, 1) := by decide +kernel
theorem dX12_brings_17 : decode cX12_brings 17 = .ok (.getfield 7, 3) := by decide +kernel
theorem dX12_brings_20 : decode cX12_brings 20 = .ok (.sipush 1426, 3) := by decide +kernel
theorem dX12_brings_23 : decode cX12_brings 23 = .ok (.sipush 200, 3) := by decide +kernel
theorem dX12_brings_26 : decode cX12_brings 26 = .ok (.iload_n 1, 1) := by decide +kernel
theorem dX12_brings_27 : decode cX12_brings 27 = .ok (.imul, 1) := by decide +kernel
theorem dX12_brings_28 : decode cX12_brings 28 = .ok (.iadd, 1) := by decide +kernel
theorem dX12_brings_29 : decode cX12_brings 29 = .ok (.iload_n 2, 1) := by decide +kernel
theorem dX12_brings_30 : decode cX12_brings 30 = .ok (.iadd, 1) := by decide +kernel
theorem dX12_brings_31 : decode cX12_brings 31 = .ok (.iload 6, 2) := by decide +kernel
theorem dX12_brings_33 : decode cX12_brings 33 = .ok (.iadd, 1) := by decide +kernel
theorem dX12_brings_34 : decode cX12_brings 34 = .ok (.iaload, 1) := by decide +kernel
theorem dX12_brings_35 : decode cX12_brings 35 = .ok (.iastore, 1) := by decide +kernel
theorem dX12_brings_36 : decode cX12_brings 36 = .ok (.aload_n 0, 1) := by decide +kernel
theorem dX12_brings_37 : decode cX12_brings 37 = .ok (.getfield 26, 3) := by decide +kernel
theorem dX12_brings_40 : decode cX12_brings 40 = .ok (.sipush 200, 3) := by decide +kernel
theorem dX12_brings_43 : decode cX12_brings 43 = .ok (.iload 6, 2) := by decide +kernel
theorem dX12_brings_45 : decode cX12_brings 45 = .ok (.iadd, 1) := by decide +kernel
theorem dX12_brings_46 : decode cX12_brings 46 = .ok (.aload_n 0, 1) := by decide +kernel
theorem dX12_brings_47 : decode cX12_brings 47 = .ok (.getfield 7, 3) := by decide +kernel
theorem dX12_brings_50 : decode cX12_brings 50 = .ok (.sipush 5426, 3) := by decide +kernel
theorem dX12_brings_53 : decode cX12_brings 53 = .ok (.sipush 200, 3) := by decide +kernel
theorem dX12_brings_56 : decode cX12_brings 56 = .ok (.iload_n 1, 1) := by decide +kernel
theorem dX12_brings_57 : decode cX12_brings 57 = .ok (.imul, 1) := by decide +kernel
theorem dX12_brings_58 : decode cX12_brings 58 = .ok (.iadd, 1) := by decide +kernel
theorem dX12_brings_59 : decode cX12_brings 59 = .ok (.iload_n 2, 1) := by decide +kernel
theorem dX12_brings_60 : decode cX12_brings 60 = .ok (.iadd, 1) := by decide +kernel
theorem dX12_brings_61 : decode cX12_brings 61 = .ok (.iload 6, 2) := by decide +kernel
theorem dX12_brings_63 : decode cX12_brings 63 = .ok (.iadd, 1) := by decide +kernel
theorem dX12_brings_64 : decode cX12_brings 64 = .ok (.iaload, 1) := by decide +kernel
theorem dX12_brings_65 : decode cX12_brings 65 = .ok (.iastore, 1) := by decide +kernel
theorem dX12_brings_66 : decode cX12_brings 66 = .ok (.iinc 6 1, 3) := by decide +kernel
theorem dX12_brings_69 : decode cX12_brings 69 = .ok (.goto (-66), 3) := by decide +kernel
theorem dX12_brings_72 : decode cX12_brings 72 = .ok (.iconst 0, 1) := by decide +kernel
theorem dX12_brings_73 : decode cX12_brings 73 = .ok (.istore 6, 2) := by decide +kernel
theorem dX12_brings_75 : decode cX12_brings 75 = .ok (.iload 6, 2) := by decide +kernel
theorem dX12_brings_77 : decode cX12_brings 77 = .ok (.iload 5, 2) := by decide +kernel
theorem dX12_brings_79 : decode cX12_brings 79 = .ok (.if_icmp .ge 67, 3) := by decide +kernel
theorem dX12_brings_82 : decode cX12_brings 82 = .ok (.aload_n 0, 1) := by decide +kernel
theorem dX12_brings_83 : decode cX12_brings 83 = .ok (.getfield 7, 3) := by decide +kernel
theorem dX12_brings_86 : decode cX12_brings 86 = .ok (.sipush 1426, 3) := by decide +kernel
theorem dX12_brings_89 : decode cX12_brings 89 = .ok (.sipush 200, 3) := by decide +kernel
theorem dX12_brings_92 : decode cX12_brings 92 = .ok (.iload_n 3, 1) := by decide +kernel
theorem dX12_brings_93 : decode cX12_brings 93 = .ok (.imul, 1) := by decide +kernel
theorem dX12_brings_94 : decode cX12_brings 94 = .ok (.iadd, 1) := by decide +kernel
theorem dX12_brings_95 : decode cX12_brings 95 = .ok (.iload 4, 2) := by decide +kernel
theorem dX12_brings_97 : decode cX12_brings 97 = .ok (.iadd, 1) := by decide +kernel
theorem dX12_brings_98 : decode cX12_brings 98 = .ok (.iload 6, 2) := by decide +kernel
theorem dX12_brings_100 : decode cX12_brings 100 = .ok (.iadd, 1) := by decide +kernel
theorem dX12_brings_101 : decode cX12_brings 101 = .ok (.aload_n 0, 1) := by decide +kernel
theorem dX12_brings_102 : decode cX12_brings 102 = .ok (.getfield 26, 3) := by decide +kernel
theorem dX12_brings_105 : decode cX12_brings 105 = .ok (.iload 6, 2) := by decide +kernel
theorem dX12_brings_107 : decode cX12_brings 107 = .ok (.iaload, 1) := by decide +kernel
theorem dX12_brings_108 : decode cX12_brings 108 = .ok (.iastore, 1) := by decide +kernel
theorem dX12_brings_109 : decode cX12_brings 109 = .ok (.aload_n 0, 1) := by decide +kernel
theorem dX12_brings_110 : decode cX12_brings 110 = .ok (.getfield 7, 3) := by decide +kernel
theorem dX12_brings_113 : decode cX12_brings 113 = .ok (.sipush 5426, 3) := by decide +kernel
theorem dX12_brings_116 : decode cX12_brings 116 = .ok (.sipush 200, 3) := by decide +kernel
theorem dX12_brings_119 : decode cX12_brings 119 = .ok (.iload_n 3, 1) := by decide +kernel
theorem dX12_brings_120 : decode cX12_brings 120 = .ok (.imul, 1) := by decide +kernel
theorem dX12_brings_121 : decode cX12_brings 121 = .ok (.iadd, 1) := by decide +kernel
theorem dX12_brings_122 : decode cX12_brings 122 = .ok (.iload 4, 2) := by decide +kernel
theorem dX12_brings_124 : decode cX12_brings 124 = .ok (.iadd, 1) := by decide +kernel
theorem dX12_brings_125 : decode cX12_brings 125 = .ok (.iload 6, 2) := by decide +kernel
theorem dX12_brings_127 : decode cX12_brings 127 = .ok (.iadd, 1) := by decide +kernel
theorem dX12_brings_128 : decode cX12_brings 128 = .ok (.aload_n 0, 1) := by decide +kernel
theorem dX12_brings_129 : decode cX12_brings 129 = .ok (.getfield 26, 3) := by decide +kernel
theorem dX12_brings_132 : decode cX12_brings 132 = .ok (.sipush 200, 3) := by decide +kernel
theorem dX12_brings_135 : decode cX12_brings 135 = .ok (.iload 6, 2) := by decide +kernel
theorem dX12_brings_137 : decode cX12_brings 137 = .ok (.iadd, 1) := by decide +kernel
theorem dX12_brings_138 : decode cX12_brings 138 = .ok (.iaload, 1) := by decide +kernel
theorem dX12_brings_139 : decode cX12_brings 139 = .ok (.iastore, 1) := by decide +kernel
theorem dX12_brings_140 : decode cX12_brings 140 = .ok (.iinc 6 1, 3) := by decide +kernel
theorem dX12_brings_143 : decode cX12_brings 143 = .ok (.goto (-68), 3) := by decide +kernel
theorem dX12_brings_146 : decode cX12_brings 146 = .ok (.return_, 1) := by decide +kernel
theorem dX12_comes_0 : decode cX12_comes 0 = .ok (.aload_n 0, 1) := by decide +kernel
theorem dX12_comes_1 : decode cX12_comes 1 = .ok (.aload_n 0, 1) := by decide +kernel
theorem dX12_comes_2 : decode cX12_comes 2 = .ok (.getfield 7, 3) := by decide +kernel
theorem dX12_comes_5 : decode cX12_comes 5 = .ok (.iconst 3, 1) := by decide +kernel
theorem dX12_comes_6 : decode cX12_comes 6 = .ok (.iaload, 1) := by decide +kernel
theorem dX12_comes_7 : decode cX12_comes 7 = .ok (.invokevirtual 188, 3) := by decide +kernel
theorem dX12_comes_10 : decode cX12_comes 10 = .ok (.istore 5, 2) := by decide +kernel
theorem dX12_comes_12 : decode cX12_comes 12 = .ok (.iconst 0, 1) := by decide +kernel
theorem dX12_comes_13 : decode cX12_comes 13 = .ok (.istore 6, 2) := by decide +kernel
theorem dX12_comes_15 : decode cX12_comes 15 = .ok (.iload 6, 2) := by decide +kernel
theorem dX12_comes_17 : decode cX12_comes 17 = .ok (.bipush 13, 2) := by decide +kernel
theorem dX12_comes_19 : decode cX12_comes 19 = .ok (.if_icmp .ge 20, 3) := by decide +kernel
theorem dX12_comes_22 : decode cX12_comes 22 = .ok (.aload_n 0, 1) := by decide +kernel
theorem dX12_comes_23 : decode cX12_comes 23 = .ok (.getfield 7, 3) := by decide +kernel
theorem dX12_comes_26 : decode cX12_comes 26 = .ok (.iload 5, 2) := by decide +kernel
theorem dX12_comes_28 : decode cX12_comes 28 = .ok (.iload 6, 2) := by decide +kernel
theorem dX12_comes_30 : decode cX12_comes 30 = .ok (.iadd, 1) := by decide +kernel
theorem dX12_comes_31 : decode cX12_comes 31 = .ok (.iconst 0, 1) := by decide +kernel
theorem dX12_comes_32 : decode cX12_comes 32 = .ok (.iastore, 1) := by decide +kernel
theorem dX12_comes_33 : decode cX12_comes 33 = .ok (.iinc 6 1, 3) := by decide +kernel
theorem dX12_comes_36 : decode cX12_comes 36 = .ok (.goto (-21), 3) := by decide +kernel
theorem dX12_comes_39 : decode cX12_comes 39 = .ok (.aload_n 0, 1) := by decide +kernel
theorem dX12_comes_40 : decode cX12_comes 40 = .ok (.getfield 7, 3) := by decide +kernel
theorem dX12_comes_43 : decode cX12_comes 43 = .ok (.iload 5, 2) := by decide +kernel
theorem dX12_comes_45 : decode cX12_comes 45 = .ok (.iconst 0, 1) := by decide +kernel
theorem dX12_comes_46 : decode cX12_comes 46 = .ok (.iadd, 1) := by decide +kernel
theorem dX12_comes_47 : decode cX12_comes 47 = .ok (.iload_n 1, 1) := by decide +kernel
theorem dX12_comes_48 : decode cX12_comes 48 = .ok (.iastore, 1) := by decide +kernel
theorem dX12_comes_49 : decode cX12_comes 49 = .ok (.aload_n 0, 1) := by decide +kernel
theorem dX12_comes_50 : decode cX12_comes 50 = .ok (.getfield 7, 3) := by decide +kernel
theorem dX12_comes_53 : decode cX12_comes 53 = .ok (.iload 5, 2) := by decide +kernel
theorem dX12_comes_55 : decode cX12_comes 55 = .ok (.iconst 1, 1) := by decide +kernel
theorem dX12_comes_56 : decode cX12_comes 56 = .ok (.iadd, 1) := by decide +kernel
theorem dX12_comes_57 : decode cX12_comes 57 = .ok (.iload_n 2, 1) := by decide +kernel
theorem dX12_comes_58 : decode cX12_comes 58 = .ok (.iastore, 1) := by decide +kernel
theorem dX12_comes_59 : decode cX12_comes 59 = .ok (.aload_n 0, 1) := by decide +kernel
theorem dX12_comes_60 : decode cX12_comes 60 = .ok (.getfield 7, 3) := by decide +kernel
theorem dX12_comes_63 : decode cX12_comes 63 = .ok (.iload 5, 2) := by decide +kernel
theorem dX12_comes_65 : decode cX12_comes 65 = .ok (.iconst 3, 1) := by decide +kernel
theorem dX12_comes_66 : decode cX12_comes 66 = .ok (.iadd, 1) := by decide +kernel
theorem dX12_comes_67 : decode cX12_comes 67 = .ok (.iload_n 3, 1) := by decide +kernel
theorem dX12_comes_68 : decode cX12_comes 68 = .ok (.iastore, 1) := by decide +kernel
theorem dX12_comes_69 : decode cX12_comes 69 = .ok (.aload_n 0, 1) := by decide +kernel
theorem dX12_comes_70 : decode cX12_comes 70 = .ok (.getfield 7, 3) := by decide +kernel
theorem dX12_comes_73 : decode cX12_comes 73 = .ok (.iload 5, 2) := by decide +kernel
theorem dX12_comes_75 : decode cX12_comes 75 = .ok (.iconst 4, 1) := by decide +kernel
theorem dX12_comes_76 : decode cX12_comes 76 = .ok (.iadd, 1) := by decide +kernel
theorem dX12_comes_77 : decode cX12_comes 77 = .ok (.iload 4, 2) := by decide +kernel
theorem dX12_comes_79 : decode cX12_comes 79 = .ok (.iastore, 1) := by decide +kernel
theorem dX12_comes_80 : decode cX12_comes 80 = .ok (.aload_n 0, 1) := by decide +kernel
theorem dX12_comes_81 : decode cX12_comes 81 = .ok (.getfield 7, 3) := by decide +kernel
theorem dX12_comes_84 : decode cX12_comes 84 = .ok (.iconst 3, 1) := by decide +kernel
theorem dX12_comes_85 : decode cX12_comes 85 = .ok (.dup2, 1) := by decide +kernel
theorem dX12_comes_86 : decode cX12_comes 86 = .ok (.iaload, 1) := by decide +kernel
theorem dX12_comes_87 : decode cX12_comes 87 = .ok (.iconst 1, 1) := by decide +kernel
theorem dX12_comes_88 : decode cX12_comes 88 = .ok (.iadd, 1) := by decide +kernel
theorem dX12_comes_89 : decode cX12_comes 89 = .ok (.iastore, 1) := by decide +kernel
theorem dX12_comes_90 : decode cX12_comes 90 = .ok (.aload_n 0, 1) := by decide +kernel
theorem dX12_comes_91 : decode cX12_comes 91 = .ok (.aload_n 0, 1) := by decide +kernel
theorem dX12_comes_92 : decode cX12_comes 92 = .ok (.getfield 7, 3) := by decide +kernel
theorem dX12_comes_95 : decode cX12_comes 95 = .ok (.iconst 3, 1) := by decide +kernel
theorem dX12_comes_96 : decode cX12_comes 96 = .ok (.iaload, 1) := by decide +kernel
theorem dX12_comes_97 : decode cX12_comes 97 = .ok (.iconst 1, 1) := by decide +kernel
theorem dX12_comes_98 : decode cX12_comes 98 = .ok (.isub, 1) := by decide +kernel
theorem dX12_comes_99 : decode cX12_comes 99 = .ok (.invokevirtual 102, 3) := by decide +kernel
theorem dX12_comes_102 : decode cX12_comes 102 = .ok (.ireturn, 1) := by decide +kernel
theorem dX12_copies_0 : decode cX12_copies 0 = .ok (.iconst 0, 1) := by decide +kernel
theorem dX12_copies_1 : decode cX12_copies 1 = .ok (.istore 4, 2) := by decide +kernel
theorem dX12_copies_3 : decode cX12_copies 3 = .ok (.iconst 0, 1) := by decide +kernel
theorem dX12_copies_4 : decode cX12_copies 4 = .ok (.istore 5, 2) := by decide +kernel
theorem dX12_copies_6 : decode cX12_copies 6 = .ok (.iload 4, 2) := by decide +kernel
theorem dX12_copies_8 : decode cX12_copies 8 = .ok (.aload_n 0, 1) := by decide +kernel
theorem dX12_copies_9 : decode cX12_copies 9 = .ok (.getfield 7, 3) := by decide +kernel
theorem dX12_copies_12 : decode cX12_copies 12 = .ok (.iconst 2, 1) := by decide +kernel
theorem dX12_copies_13 : decode cX12_copies 13 = .ok (.iaload, 1) := by decide +kernel
theorem dX12_copies_14 : decode cX12_copies 14 = .ok (.if_icmp .ge 52, 3) := by decide +kernel
theorem dX12_copies_17 : decode cX12_copies 17 = .ok (.iload 5, 2) := by decide +kernel
theorem dX12_copies_19 : decode cX12_copies 19 = .ok (.ifCond .ne 47, 3) := by decide +kernel
theorem dX12_copies_22 : decode cX12_copies 22 = .ok (.aload_n 0, 1) := by decide +kernel
theorem dX12_copies_23 : decode cX12_copies 23 = .ok (.iload 4, 2) := by decide +kernel
theorem dX12_copies_25 : decode cX12_copies 25 = .ok (.iload_n 1, 1) := by decide +kernel
theorem dX12_copies_26 : decode cX12_copies 26 = .ok (.iload 4, 2) := by decide +kernel
theorem dX12_copies_28 : decode cX12_copies 28 = .ok (.iload_n 2, 1) := by decide +kernel
theorem dX12_copies_29 : decode cX12_copies 29 = .ok (.iload_n 3, 1) := by decide +kernel
theorem dX12_copies_30 : decode cX12_copies 30 = .ok (.invokevirtual 170, 3) := by decide +kernel
theorem dX12_copies_33 : decode cX12_copies 33 = .ok (.istore 5, 2) := by decide +kernel
theorem dX12_copies_35 : decode cX12_copies 35 = .ok (.iload 5, 2) := by decide +kernel
theorem dX12_copies_37 : decode cX12_copies 37 = .ok (.ifCond .ne (-31), 3) := by decide +kernel
theorem dX12_copies_40 : decode cX12_copies 40 = .ok (.iload 4, 2) := by decide +kernel
theorem dX12_copies_42 : decode cX12_copies 42 = .ok (.ifCond .ne 7, 3) := by decide +kernel
theorem dX12_copies_45 : decode cX12_copies 45 = .ok (.aload_n 0, 1) := by decide +kernel
theorem dX12_copies_46 : decode cX12_copies 46 = .ok (.invokevirtual 96, 3) := by decide +kernel
theorem dX12_copies_49 : decode cX12_copies 49 = .ok (.aload_n 0, 1) := by decide +kernel
theorem dX12_copies_50 : decode cX12_copies 50 = .ok (.iload 4, 2) := by decide +kernel
theorem dX12_copies_52 : decode cX12_copies 52 = .ok (.iload_n 1, 1) := by decide +kernel
theorem dX12_copies_53 : decode cX12_copies 53 = .ok (.iload 4, 2) := by decide +kernel
theorem dX12_copies_55 : decode cX12_copies 55 = .ok (.iload_n 2, 1) := by decide +kernel
theorem dX12_copies_56 : decode cX12_copies 56 = .ok (.iload_n 3, 1) := by decide +kernel
theorem dX12_copies_57 : decode cX12_copies 57 = .ok (.invokevirtual 174, 3) := by decide +kernel
theorem dX12_copies_60 : decode cX12_copies 60 = .ok (.iinc 4 1, 3) := by decide +kernel
theorem dX12_copies_63 : decode cX12_copies 63 = .ok (.goto (-57), 3) := by decide +kernel
theorem dX12_copies_66 : decode cX12_copies 66 = .ok (.aload_n 0, 1) := by decide +kernel
theorem dX12_copies_67 : decode cX12_copies 67 = .ok (.iload 5, 2) := by decide +kernel
theorem dX12_copies_69 : decode cX12_copies 69 = .ok (.invokevirtual 80, 3) := by decide +kernel
theorem dX12_copies_72 : decode cX12_copies 72 = .ok (.aload_n 0, 1) := by decide +kernel
theorem dX12_copies_73 : decode cX12_copies 73 = .ok (.iload 5, 2) := by decide +kernel
theorem dX12_copies_75 : decode cX12_copies 75 = .ok (.putfield 76, 3) := by decide +kernel
theorem dX12_copies_78 : decode cX12_copies 78 = .ok (.iload 4, 2) := by decide +kernel
theorem dX12_copies_80 : decode cX12_copies 80 = .ok (.ireturn, 1) := by decide +kernel
theorem dX12_copy_0 : decode cX12_copy 0 = .ok (.aload_n 0, 1) := by decide +kernel
theorem dX12_copy_1 : decode cX12_copy 1 = .ok (.iload_n 1, 1) := by decide +kernel
theorem dX12_copy_2 : decode cX12_copy 2 = .ok (.invokevirtual 143, 3) := by decide +kernel
theorem dX12_copy_5 : decode cX12_copy 5 = .ok (.ifCond .eq 38, 3) := by decide +kernel
theorem dX12_copy_8 : decode cX12_copy 8 = .ok (.aload_n 0, 1) := by decide +kernel
theorem dX12_copy_9 : decode cX12_copy 9 = .ok (.iload_n 3, 1) := by decide +kernel
theorem dX12_copy_10 : decode cX12_copy 10 = .ok (.invokevirtual 143, 3) := by decide +kernel
theorem dX12_copy_13 : decode cX12_copy 13 = .ok (.ifCond .eq 30, 3) := by decide +kernel
theorem dX12_copy_16 : decode cX12_copy 16 = .ok (.aload_n 0, 1) := by decide +kernel
theorem dX12_copy_17 : decode cX12_copy 17 = .ok (.getfield 7, 3) := by decide +kernel
theorem dX12_copy_20 : decode cX12_copy 20 = .ok (.aload_n 0, 1) := by decide +kernel
theorem dX12_copy_21 : decode cX12_copy 21 = .ok (.iload_n 1, 1) := by decide +kernel
theorem dX12_copy_22 : decode cX12_copy 22 = .ok (.invokevirtual 140, 3) := by decide +kernel
theorem dX12_copy_25 : decode cX12_copy 25 = .ok (.iconst 1, 1) := by decide +kernel
theorem dX12_copy_26 : decode cX12_copy 26 = .ok (.iadd, 1) := by decide +kernel
theorem dX12_copy_27 : decode cX12_copy 27 = .ok (.iaload, 1) := by decide +kernel
theorem dX12_copy_28 : decode cX12_copy 28 = .ok (.aload_n 0, 1) := by decide +kernel
theorem dX12_copy_29 : decode cX12_copy 29 = .ok (.getfield 7, 3) := by decide +kernel
theorem dX12_copy_32 : decode cX12_copy 32 = .ok (.aload_n 0, 1) := by decide +kernel
theorem dX12_copy_33 : decode cX12_copy 33 = .ok (.iload_n 3, 1) := by decide +kernel
theorem dX12_copy_34 : decode cX12_copy 34 = .ok (.invokevirtual 140, 3) := by decide +kernel
theorem dX12_copy_37 : decode cX12_copy 37 = .ok (.iconst 1, 1) := by decide +kernel
theorem dX12_copy_38 : decode cX12_copy 38 = .ok (.iadd, 1) := by decide +kernel
theorem dX12_copy_39 : decode cX12_copy 39 = .ok (.iaload, 1) := by decide +kernel
theorem dX12_copy_40 : decode cX12_copy 40 = .ok (.if_icmp .eq 10, 3) := by decide +kernel
theorem dX12_copy_43 : decode cX12_copy 43 = .ok (.aload_n 0, 1) := by decide +kernel
theorem dX12_copy_44 : decode cX12_copy 44 = .ok (.bipush (-2), 2) := by decide +kernel
theorem dX12_copy_46 : decode cX12_copy 46 = .ok (.invokevirtual 92, 3) := by decide +kernel
theorem dX12_copy_49 : decode cX12_copy 49 = .ok (.ireturn, 1) := by decide +kernel
theorem dX12_copy_50 : decode cX12_copy 50 = .ok (.aload_n 0, 1) := by decide +kernel
theorem dX12_copy_51 : decode cX12_copy 51 = .ok (.iload_n 1, 1) := by decide +kernel
theorem dX12_copy_52 : decode cX12_copy 52 = .ok (.iload_n 2, 1) := by decide +kernel
theorem dX12_copy_53 : decode cX12_copy 53 = .ok (.iload_n 3, 1) := by decide +kernel
theorem dX12_copy_54 : decode cX12_copy 54 = .ok (.iload 4, 2) := by decide +kernel
theorem dX12_copy_56 : decode cX12_copy 56 = .ok (.iload 5, 2) := by decide +kernel
theorem dX12_copy_58 : decode cX12_copy 58 = .ok (.invokevirtual 170, 3) := by decide +kernel
theorem dX12_copy_61 : decode cX12_copy 61 = .ok (.istore 6, 2) := by decide +kernel
theorem dX12_copy_63 : decode cX12_copy 63 = .ok (.iload 6, 2) := by decide +kernel
theorem dX12_copy_65 : decode cX12_copy 65 = .ok (.ifCond .eq 10, 3) := by decide +kernel
theorem dX12_copy_68 : decode cX12_copy 68 = .ok (.aload_n 0, 1) := by decide +kernel
theorem dX12_copy_69 : decode cX12_copy 69 = .ok (.iload 6, 2) := by decide +kernel
theorem dX12_copy_71 : decode cX12_copy 71 = .ok (.invokevirtual 92, 3) := by decide +kernel
theorem dX12_copy_74 : decode cX12_copy 74 = .ok (.ireturn, 1) := by decide +kernel
theorem dX12_copy_75 : decode cX12_copy 75 = .ok (.aload_n 0, 1) := by decide +kernel
theorem dX12_copy_76 : decode cX12_copy 76 = .ok (.invokevirtual 96, 3) := by decide +kernel
theorem dX12_copy_79 : decode cX12_copy 79 = .ok (.aload_n 0, 1) := by decide +kernel
theorem dX12_copy_80 : decode cX12_copy 80 = .ok (.iload_n 1, 1) := by decide +kernel
theorem dX12_copy_81 : decode cX12_copy 81 = .ok (.iload_n 2, 1) := by decide +kernel
theorem dX12_copy_82 : decode cX12_copy 82 = .ok (.iload_n 3, 1) := by decide +kernel
theorem dX12_copy_83 : decode cX12_copy 83 = .ok (.iload 4, 2) := by decide +kernel
theorem dX12_copy_85 : decode cX12_copy 85 = .ok (.iload 5, 2) := by decide +kernel
theorem dX12_copy_87 : decode cX12_copy 87 = .ok (.invokevirtual 174, 3) := by decide +kernel
theorem dX12_copy_90 : decode cX12_copy 90 = .ok (.aload_n 0, 1) := by decide +kernel
theorem dX12_copy_91 : decode cX12_copy 91 = .ok (.iconst 1, 1) := by decide +kernel
theorem dX12_copy_92 : decode cX12_copy 92 = .ok (.invokevirtual 102, 3) := by decide +kernel
theorem dX12_copy_95 : decode cX12_copy 95 = .ok (.ireturn, 1) := by decide +kernel
theorem dX12_count_0 : decode cX12_count 0 = .ok (.iload_n 1, 1) := by decide +kernel
theorem dX12_count_1 : decode cX12_count 1 = .ok (.iconst 0, 1) := by decide +kernel
theorem dX12_count_2 : decode cX12_count 2 = .ok (.iconst 3, 1) := by decide +kernel
theorem dX12_count_3 : decode cX12_count 3 = .ok (.invokestatic 88, 3) := by decide +kernel
theorem dX12_count_6 : decode cX12_count 6 = .ok (.ifCond .eq 12, 3) := by decide +kernel
theorem dX12_count_9 : decode cX12_count 9 = .ok (.aload_n 0, 1) := by decide +kernel
theorem dX12_count_10 : decode cX12_count 10 = .ok (.getfield 7, 3) := by decide +kernel
theorem dX12_count_13 : decode cX12_count 13 = .ok (.iload_n 1, 1) := by decide +kernel
theorem dX12_count_14 : decode cX12_count 14 = .ok (.iaload, 1) := by decide +kernel
theorem dX12_count_15 : decode cX12_count 15 = .ok (.goto 5, 3) := by decide +kernel
theorem dX12_count_18 : decode cX12_count 18 = .ok (.bipush (-2), 2) := by decide +kernel
theorem dX12_count_20 : decode cX12_count 20 = .ok (.ireturn, 1) := by decide +kernel
theorem dX12_crossings_0 : decode cX12_crossings 0 = .ok (.iload_n 1, 1) := by decide +kernel
theorem dX12_crossings_1 : decode cX12_crossings 1 = .ok (.iconst 1, 1) := by decide +kernel
theorem dX12_crossings_2 : decode cX12_crossings 2 = .ok (.bipush 20, 2) := by decide +kernel
theorem dX12_crossings_4 : decode cX12_crossings 4 = .ok (.invokestatic 88, 3) := by decide +kernel
theorem dX12_crossings_7 : decode cX12_crossings 7 = .ok (.ifCond .ne 10, 3) := by decide +kernel
theorem dX12_crossings_10 : decode cX12_crossings 10 = .ok (.aload_n 0, 1) := by decide +kernel
theorem dX12_crossings_11 : decode cX12_crossings 11 = .ok (.bipush (-2), 2) := by decide +kernel
theorem dX12_crossings_13 : decode cX12_crossings 13 = .ok (.invokevirtual 92, 3) := by decide +kernel
theorem dX12_crossings_16 : decode cX12_crossings 16 = .ok (.ireturn, 1) := by decide +kernel
theorem dX12_crossings_17 : decode cX12_crossings 17 = .ok (.aload_n 0, 1) := by decide +kernel
theorem dX12_crossings_18 : decode cX12_crossings 18 = .ok (.getfield 7, 3) := by decide +kernel
theorem dX12_crossings_21 : decode cX12_crossings 21 = .ok (.iconst 0, 1) := by decide +kernel
theorem dX12_crossings_22 : decode cX12_crossings 22 = .ok (.iaload, 1) := by decide +kernel
theorem dX12_crossings_23 : decode cX12_crossings 23 = .ok (.iload_n 1, 1) := by decide +kernel
theorem dX12_crossings_24 : decode cX12_crossings 24 = .ok (.iadd, 1) := by decide +kernel
theorem dX12_crossings_25 : decode cX12_crossings 25 = .ok (.bipush 60, 2) := by decide +kernel
theorem dX12_crossings_27 : decode cX12_crossings 27 = .ok (.if_icmp .le 10, 3) := by decide +kernel
theorem dX12_crossings_30 : decode cX12_crossings 30 = .ok (.aload_n 0, 1) := by decide +kernel
theorem dX12_crossings_31 : decode cX12_crossings 31 = .ok (.bipush (-3), 2) := by decide +kernel
theorem dX12_crossings_33 : decode cX12_crossings 33 = .ok (.invokevirtual 92, 3) := by decide +kernel
theorem dX12_crossings_36 : decode cX12_crossings 36 = .ok (.ireturn, 1) := by decide +kernel
theorem dX12_crossings_37 : decode cX12_crossings 37 = .ok (.aload_n 0, 1) := by decide +kernel
theorem dX12_crossings_38 : decode cX12_crossings 38 = .ok (.invokevirtual 96, 3) := by decide +kernel
theorem dX12_crossings_41 : decode cX12_crossings 41 = .ok (.aload_n 0, 1) := by decide +kernel
theorem dX12_crossings_42 : decode cX12_crossings 42 = .ok (.iconst 0, 1) := by decide +kernel
theorem dX12_crossings_43 : decode cX12_crossings 43 = .ok (.putfield 99, 3) := by decide +kernel
theorem dX12_crossings_46 : decode cX12_crossings 46 = .ok (.aload_n 0, 1) := by decide +kernel
theorem dX12_crossings_47 : decode cX12_crossings 47 = .ok (.getfield 7, 3) := by decide +kernel
theorem dX12_crossings_50 : decode cX12_crossings 50 = .ok (.iconst 0, 1) := by decide +kernel
theorem dX12_crossings_51 : decode cX12_crossings 51 = .ok (.dup2, 1) := by decide +kernel
theorem dX12_crossings_52 : decode cX12_crossings 52 = .ok (.iaload, 1) := by decide +kernel
theorem dX12_crossings_53 : decode cX12_crossings 53 = .ok (.iload_n 1, 1) := by decide +kernel
theorem dX12_crossings_54 : decode cX12_crossings 54 = .ok (.iadd, 1) := by decide +kernel
theorem dX12_crossings_55 : decode cX12_crossings 55 = .ok (.iastore, 1) := by decide +kernel
theorem dX12_crossings_56 : decode cX12_crossings 56 = .ok (.aload_n 0, 1) := by decide +kernel
theorem dX12_crossings_57 : decode cX12_crossings 57 = .ok (.aload_n 0, 1) := by decide +kernel
theorem dX12_crossings_58 : decode cX12_crossings 58 = .ok (.getfield 7, 3) := by decide +kernel
theorem dX12_crossings_61 : decode cX12_crossings 61 = .ok (.iconst 0, 1) := by decide +kernel
theorem dX12_crossings_62 : decode cX12_crossings 62 = .ok (.iaload, 1) := by decide +kernel
theorem dX12_crossings_63 : decode cX12_crossings 63 = .ok (.invokevirtual 102, 3) := by decide +kernel
theorem dX12_crossings_66 : decode cX12_crossings 66 = .ok (.ireturn, 1) := by decide +kernel
theorem dX12_digest_0 : decode cX12_digest 0 = .ok (.sipush 217, 3) := by decide +kernel
theorem dX12_digest_3 : decode cX12_digest 3 = .ok (.aload_n 0, 1) := by decide +kernel
theorem dX12_digest_4 : decode cX12_digest 4 = .ok (.getfield 7, 3) := by decide +kernel
theorem dX12_digest_7 : decode cX12_digest 7 = .ok (.iconst 0, 1) := by decide +kernel
theorem dX12_digest_8 : decode cX12_digest 8 = .ok (.iaload, 1) := by decide +kernel
theorem dX12_digest_9 : decode cX12_digest 9 = .ok (.iadd, 1) := by decide +kernel
theorem dX12_digest_10 : decode cX12_digest 10 = .ok (.istore_n 1, 1) := by decide +kernel
theorem dX12_digest_11 : decode cX12_digest 11 = .ok (.iconst 0, 1) := by decide +kernel
theorem dX12_digest_12 : decode cX12_digest 12 = .ok (.istore_n 2, 1) := by decide +kernel
theorem dX12_digest_13 : decode cX12_digest 13 = .ok (.iload_n 2, 1) := by decide +kernel
theorem dX12_digest_14 : decode cX12_digest 14 = .ok (.aload_n 0, 1) := by decide +kernel
theorem dX12_digest_15 : decode cX12_digest 15 = .ok (.getfield 7, 3) := by decide +kernel
theorem dX12_digest_18 : decode cX12_digest 18 = .ok (.iconst 1, 1) := by decide +kernel
theorem dX12_digest_19 : decode cX12_digest 19 = .ok (.iaload, 1) := by decide +kernel
theorem dX12_digest_20 : decode cX12_digest 20 = .ok (.if_icmp .ge 41, 3) := by decide +kernel
theorem dX12_digest_23 : decode cX12_digest 23 = .ok (.iconst 0, 1) := by decide +kernel
theorem dX12_digest_24 : decode cX12_digest 24 = .ok (.istore_n 3, 1) := by decide +kernel
theorem dX12_digest_25 : decode cX12_digest 25 = .ok (.iload_n 3, 1) := by decide +kernel
theorem dX12_digest_26 : decode cX12_digest 26 = .ok (.bipush 9, 2) := by decide +kernel
theorem dX12_digest_28 : decode cX12_digest 28 = .ok (.if_icmp .ge 27, 3) := by decide +kernel
theorem dX12_digest_31 : decode cX12_digest 31 = .ok (.bipush 31, 2) := by decide +kernel
theorem dX12_digest_33 : decode cX12_digest 33 = .ok (.iload_n 1, 1) := by decide +kernel
theorem dX12_digest_34 : decode cX12_digest 34 = .ok (.imul, 1) := by decide +kernel
theorem dX12_digest_35 : decode cX12_digest 35 = .ok (.aload_n 0, 1) := by decide +kernel
theorem dX12_digest_36 : decode cX12_digest 36 = .ok (.getfield 7, 3) := by decide +kernel
theorem dX12_digest_39 : decode cX12_digest 39 = .ok (.aload_n 0, 1) := by decide +kernel
theorem dX12_digest_40 : decode cX12_digest 40 = .ok (.iload_n 2, 1) := by decide +kernel
theorem dX12_digest_41 : decode cX12_digest 41 = .ok (.invokevirtual 109, 3) := by decide +kernel
theorem dX12_digest_44 : decode cX12_digest 44 = .ok (.iload_n 3, 1) := by decide +kernel
theorem dX12_digest_45 : decode cX12_digest 45 = .ok (.iadd, 1) := by decide +kernel
theorem dX12_digest_46 : decode cX12_digest 46 = .ok (.iaload, 1) := by decide +kernel
theorem dX12_digest_47 : decode cX12_digest 47 = .ok (.iadd, 1) := by decide +kernel
theorem dX12_digest_48 : decode cX12_digest 48 = .ok (.istore_n 1, 1) := by decide +kernel
theorem dX12_digest_49 : decode cX12_digest 49 = .ok (.iinc 3 1, 3) := by decide +kernel
theorem dX12_digest_52 : decode cX12_digest 52 = .ok (.goto (-27), 3) := by decide +kernel
theorem dX12_digest_55 : decode cX12_digest 55 = .ok (.iinc 2 1, 3) := by decide +kernel
theorem dX12_digest_58 : decode cX12_digest 58 = .ok (.goto (-45), 3) := by decide +kernel
theorem dX12_digest_61 : decode cX12_digest 61 = .ok (.iconst 0, 1) := by decide +kernel
theorem dX12_digest_62 : decode cX12_digest 62 = .ok (.istore_n 2, 1) := by decide +kernel
theorem dX12_digest_63 : decode cX12_digest 63 = .ok (.iload_n 2, 1) := by decide +kernel
theorem dX12_digest_64 : decode cX12_digest 64 = .ok (.aload_n 0, 1) := by decide +kernel
theorem dX12_digest_65 : decode cX12_digest 65 = .ok (.getfield 7, 3) := by decide +kernel
theorem dX12_digest_68 : decode cX12_digest 68 = .ok (.iconst 2, 1) := by decide +kernel
theorem dX12_digest_69 : decode cX12_digest 69 = .ok (.iaload, 1) := by decide +kernel
theorem dX12_digest_70 : decode cX12_digest 70 = .ok (.if_icmp .ge 77, 3) := by decide +kernel
theorem dX12_digest_73 : decode cX12_digest 73 = .ok (.bipush 31, 2) := by decide +kernel
theorem dX12_digest_75 : decode cX12_digest 75 = .ok (.bipush 31, 2) := by decide +kernel
theorem dX12_digest_77 : decode cX12_digest 77 = .ok (.iload_n 1, 1) := by decide +kernel
theorem dX12_digest_78 : decode cX12_digest 78 = .ok (.imul, 1) := by decide +kernel
theorem dX12_digest_79 : decode cX12_digest 79 = .ok (.aload_n 0, 1) := by decide +kernel
theorem dX12_digest_80 : decode cX12_digest 80 = .ok (.getfield 7, 3) := by decide +kernel
theorem dX12_digest_83 : decode cX12_digest 83 = .ok (.aload_n 0, 1) := by decide +kernel
theorem dX12_digest_84 : decode cX12_digest 84 = .ok (.iload_n 2, 1) := by decide +kernel
theorem dX12_digest_85 : decode cX12_digest 85 = .ok (.invokevirtual 140, 3) := by decide +kernel
theorem dX12_digest_88 : decode cX12_digest 88 = .ok (.iaload, 1) := by decide +kernel
theorem dX12_digest_89 : decode cX12_digest 89 = .ok (.iadd, 1) := by decide +kernel
theorem dX12_digest_90 : decode cX12_digest 90 = .ok (.imul, 1) := by decide +kernel
theorem dX12_digest_91 : decode cX12_digest 91 = .ok (.aload_n 0, 1) := by decide +kernel
theorem dX12_digest_92 : decode cX12_digest 92 = .ok (.getfield 7, 3) := by decide +kernel
theorem dX12_digest_95 : decode cX12_digest 95 = .ok (.aload_n 0, 1) := by decide +kernel
theorem dX12_digest_96 : decode cX12_digest 96 = .ok (.iload_n 2, 1) := by decide +kernel
theorem dX12_digest_97 : decode cX12_digest 97 = .ok (.invokevirtual 140, 3) := by decide +kernel
theorem dX12_digest_100 : decode cX12_digest 100 = .ok (.iconst 2, 1) := by decide +kernel
theorem dX12_digest_101 : decode cX12_digest 101 = .ok (.iadd, 1) := by decide +kernel
theorem dX12_digest_102 : decode cX12_digest 102 = .ok (.iaload, 1) := by decide +kernel
theorem dX12_digest_103 : decode cX12_digest 103 = .ok (.iadd, 1) := by decide +kernel
theorem dX12_digest_104 : decode cX12_digest 104 = .ok (.istore_n 1, 1) := by decide +kernel
theorem dX12_digest_105 : decode cX12_digest 105 = .ok (.iconst 0, 1) := by decide +kernel
theorem dX12_digest_106 : decode cX12_digest 106 = .ok (.istore_n 3, 1) := by decide +kernel
theorem dX12_digest_107 : decode cX12_digest 107 = .ok (.iload_n 3, 1) := by decide +kernel
theorem dX12_digest_108 : decode cX12_digest 108 = .ok (.aload_n 0, 1) := by decide +kernel
theorem dX12_digest_109 : decode cX12_digest 109 = .ok (.getfield 7, 3) := by decide +kernel
theorem dX12_digest_112 : decode cX12_digest 112 = .ok (.aload_n 0, 1) := by decide +kernel
theorem dX12_digest_113 : decode cX12_digest 113 = .ok (.iload_n 2, 1) := by decide +kernel
theorem dX12_digest_114 : decode cX12_digest 114 = .ok (.invokevirtual 140, 3) := by decide +kernel
theorem dX12_digest_117 : decode cX12_digest 117 = .ok (.iconst 2, 1) := by decide +kernel
theorem dX12_digest_118 : decode cX12_digest 118 = .ok (.iadd, 1) := by decide +kernel
theorem dX12_digest_119 : decode cX12_digest 119 = .ok (.iaload, 1) := by decide +kernel
theorem dX12_digest_120 : decode cX12_digest 120 = .ok (.if_icmp .ge 21, 3) := by decide +kernel
theorem dX12_digest_123 : decode cX12_digest 123 = .ok (.bipush 31, 2) := by decide +kernel
theorem dX12_digest_125 : decode cX12_digest 125 = .ok (.iload_n 1, 1) := by decide +kernel
theorem dX12_digest_126 : decode cX12_digest 126 = .ok (.imul, 1) := by decide +kernel
theorem dX12_digest_127 : decode cX12_digest 127 = .ok (.aload_n 0, 1) := by decide +kernel
theorem dX12_digest_128 : decode cX12_digest 128 = .ok (.iload_n 2, 1) := by decide +kernel
theorem dX12_digest_129 : decode cX12_digest 129 = .ok (.iload_n 3, 1) := by decide +kernel
theorem dX12_digest_130 : decode cX12_digest 130 = .ok (.invokevirtual 167, 3) := by decide +kernel
theorem dX12_digest_133 : decode cX12_digest 133 = .ok (.iadd, 1) := by decide +kernel
theorem dX12_digest_134 : decode cX12_digest 134 = .ok (.istore_n 1, 1) := by decide +kernel
theorem dX12_digest_135 : decode cX12_digest 135 = .ok (.iinc 3 1, 3) := by decide +kernel
theorem dX12_digest_138 : decode cX12_digest 138 = .ok (.goto (-31), 3) := by decide +kernel
theorem dX12_digest_141 : decode cX12_digest 141 = .ok (.iinc 2 1, 3) := by decide +kernel
theorem dX12_digest_144 : decode cX12_digest 144 = .ok (.goto (-81), 3) := by decide +kernel
theorem dX12_digest_147 : decode cX12_digest 147 = .ok (.iconst 0, 1) := by decide +kernel
theorem dX12_digest_148 : decode cX12_digest 148 = .ok (.istore_n 2, 1) := by decide +kernel
theorem dX12_digest_149 : decode cX12_digest 149 = .ok (.iload_n 2, 1) := by decide +kernel
theorem dX12_digest_150 : decode cX12_digest 150 = .ok (.aload_n 0, 1) := by decide +kernel
theorem dX12_digest_151 : decode cX12_digest 151 = .ok (.getfield 7, 3) := by decide +kernel
theorem dX12_digest_154 : decode cX12_digest 154 = .ok (.iconst 3, 1) := by decide +kernel
theorem dX12_digest_155 : decode cX12_digest 155 = .ok (.iaload, 1) := by decide +kernel
theorem dX12_digest_156 : decode cX12_digest 156 = .ok (.if_icmp .ge 35, 3) := by decide +kernel
theorem dX12_digest_159 : decode cX12_digest 159 = .ok (.iconst 0, 1) := by decide +kernel
theorem dX12_digest_160 : decode cX12_digest 160 = .ok (.istore_n 3, 1) := by decide +kernel
theorem dX12_digest_161 : decode cX12_digest 161 = .ok (.iload_n 3, 1) := by decide +kernel
theorem dX12_digest_162 : decode cX12_digest 162 = .ok (.bipush 9, 2) := by decide +kernel
theorem dX12_digest_164 : decode cX12_digest 164 = .ok (.if_icmp .ge 21, 3) := by decide +kernel
theorem dX12_digest_167 : decode cX12_digest 167 = .ok (.bipush 31, 2) := by decide +kernel
theorem dX12_digest_169 : decode cX12_digest 169 = .ok (.iload_n 1, 1) := by decide +kernel
theorem dX12_digest_170 : decode cX12_digest 170 = .ok (.imul, 1) := by decide +kernel
theorem dX12_digest_171 : decode cX12_digest 171 = .ok (.aload_n 0, 1) := by decide +kernel
theorem dX12_digest_172 : decode cX12_digest 172 = .ok (.iload_n 2, 1) := by decide +kernel
