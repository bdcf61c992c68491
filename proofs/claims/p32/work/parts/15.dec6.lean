theorem dX4_exchange_24 : decode cX4_exchange 24 = .ok (.getfield 37, 3) := by decide +kernel
theorem dX4_exchange_27 : decode cX4_exchange 27 = .ok (.iload_n 2, 1) := by decide +kernel
theorem dX4_exchange_28 : decode cX4_exchange 28 = .ok (.iaload, 1) := by decide +kernel
theorem dX4_exchange_29 : decode cX4_exchange 29 = .ok (.istore 6, 2) := by decide +kernel
theorem dX4_exchange_31 : decode cX4_exchange 31 = .ok (.aload_n 0, 1) := by decide +kernel
theorem dX4_exchange_32 : decode cX4_exchange 32 = .ok (.getfield 50, 3) := by decide +kernel
theorem dX4_exchange_35 : decode cX4_exchange 35 = .ok (.iload_n 3, 1) := by decide +kernel
theorem dX4_exchange_36 : decode cX4_exchange 36 = .ok (.iload 4, 2) := by decide +kernel
theorem dX4_exchange_38 : decode cX4_exchange 38 = .ok (.invokevirtual 78, 3) := by decide +kernel
theorem dX4_exchange_41 : decode cX4_exchange 41 = .ok (.aload_n 0, 1) := by decide +kernel
theorem dX4_exchange_42 : decode cX4_exchange 42 = .ok (.getfield 50, 3) := by decide +kernel
theorem dX4_exchange_45 : decode cX4_exchange 45 = .ok (.iload 5, 2) := by decide +kernel
theorem dX4_exchange_47 : decode cX4_exchange 47 = .ok (.iload 6, 2) := by decide +kernel
theorem dX4_exchange_49 : decode cX4_exchange 49 = .ok (.invokevirtual 78, 3) := by decide +kernel
theorem dX4_exchange_52 : decode cX4_exchange 52 = .ok (.iadd, 1) := by decide +kernel
theorem dX4_exchange_53 : decode cX4_exchange 53 = .ok (.istore 7, 2) := by decide +kernel
theorem dX4_exchange_55 : decode cX4_exchange 55 = .ok (.aload_n 0, 1) := by decide +kernel
theorem dX4_exchange_56 : decode cX4_exchange 56 = .ok (.getfield 50, 3) := by decide +kernel
theorem dX4_exchange_59 : decode cX4_exchange 59 = .ok (.iload_n 3, 1) := by decide +kernel
theorem dX4_exchange_60 : decode cX4_exchange 60 = .ok (.iload 5, 2) := by decide +kernel
theorem dX4_exchange_62 : decode cX4_exchange 62 = .ok (.invokevirtual 78, 3) := by decide +kernel
theorem dX4_exchange_65 : decode cX4_exchange 65 = .ok (.aload_n 0, 1) := by decide +kernel
theorem dX4_exchange_66 : decode cX4_exchange 66 = .ok (.getfield 50, 3) := by decide +kernel
theorem dX4_exchange_69 : decode cX4_exchange 69 = .ok (.iload 4, 2) := by decide +kernel
theorem dX4_exchange_71 : decode cX4_exchange 71 = .ok (.iload 6, 2) := by decide +kernel
theorem dX4_exchange_73 : decode cX4_exchange 73 = .ok (.invokevirtual 78, 3) := by decide +kernel
theorem dX4_exchange_76 : decode cX4_exchange 76 = .ok (.iadd, 1) := by decide +kernel
theorem dX4_exchange_77 : decode cX4_exchange 77 = .ok (.iload 7, 2) := by decide +kernel
theorem dX4_exchange_79 : decode cX4_exchange 79 = .ok (.if_icmp .ge 22, 3) := by decide +kernel
theorem dX4_exchange_82 : decode cX4_exchange 82 = .ok (.aload_n 0, 1) := by decide +kernel
theorem dX4_exchange_83 : decode cX4_exchange 83 = .ok (.iload_n 1, 1) := by decide +kernel
theorem dX4_exchange_84 : decode cX4_exchange 84 = .ok (.iload_n 3, 1) := by decide +kernel
theorem dX4_exchange_85 : decode cX4_exchange 85 = .ok (.iload 5, 2) := by decide +kernel
theorem dX4_exchange_87 : decode cX4_exchange 87 = .ok (.invokevirtual 131, 3) := by decide +kernel
theorem dX4_exchange_90 : decode cX4_exchange 90 = .ok (.aload_n 0, 1) := by decide +kernel
theorem dX4_exchange_91 : decode cX4_exchange 91 = .ok (.iload_n 2, 1) := by decide +kernel
theorem dX4_exchange_92 : decode cX4_exchange 92 = .ok (.iload 4, 2) := by decide +kernel
theorem dX4_exchange_94 : decode cX4_exchange 94 = .ok (.iload 6, 2) := by decide +kernel
theorem dX4_exchange_96 : decode cX4_exchange 96 = .ok (.invokevirtual 131, 3) := by decide +kernel
theorem dX4_exchange_99 : decode cX4_exchange 99 = .ok (.iconst 1, 1) := by decide +kernel
theorem dX4_exchange_100 : decode cX4_exchange 100 = .ok (.ireturn, 1) := by decide +kernel
theorem dX4_exchange_101 : decode cX4_exchange 101 = .ok (.aload_n 0, 1) := by decide +kernel
theorem dX4_exchange_102 : decode cX4_exchange 102 = .ok (.getfield 50, 3) := by decide +kernel
theorem dX4_exchange_105 : decode cX4_exchange 105 = .ok (.iload_n 3, 1) := by decide +kernel
theorem dX4_exchange_106 : decode cX4_exchange 106 = .ok (.iload 6, 2) := by decide +kernel
theorem dX4_exchange_108 : decode cX4_exchange 108 = .ok (.invokevirtual 78, 3) := by decide +kernel
theorem dX4_exchange_111 : decode cX4_exchange 111 = .ok (.aload_n 0, 1) := by decide +kernel
theorem dX4_exchange_112 : decode cX4_exchange 112 = .ok (.getfield 50, 3) := by decide +kernel
theorem dX4_exchange_115 : decode cX4_exchange 115 = .ok (.iload 4, 2) := by decide +kernel
theorem dX4_exchange_117 : decode cX4_exchange 117 = .ok (.iload 5, 2) := by decide +kernel
theorem dX4_exchange_119 : decode cX4_exchange 119 = .ok (.invokevirtual 78, 3) := by decide +kernel
theorem dX4_exchange_122 : decode cX4_exchange 122 = .ok (.iadd, 1) := by decide +kernel
theorem dX4_exchange_123 : decode cX4_exchange 123 = .ok (.iload 7, 2) := by decide +kernel
theorem dX4_exchange_125 : decode cX4_exchange 125 = .ok (.if_icmp .ge 22, 3) := by decide +kernel
theorem dX4_exchange_128 : decode cX4_exchange 128 = .ok (.aload_n 0, 1) := by decide +kernel
theorem dX4_exchange_129 : decode cX4_exchange 129 = .ok (.iload_n 1, 1) := by decide +kernel
theorem dX4_exchange_130 : decode cX4_exchange 130 = .ok (.iload_n 3, 1) := by decide +kernel
theorem dX4_exchange_131 : decode cX4_exchange 131 = .ok (.iload 6, 2) := by decide +kernel
theorem dX4_exchange_133 : decode cX4_exchange 133 = .ok (.invokevirtual 131, 3) := by decide +kernel
theorem dX4_exchange_136 : decode cX4_exchange 136 = .ok (.aload_n 0, 1) := by decide +kernel
theorem dX4_exchange_137 : decode cX4_exchange 137 = .ok (.iload_n 2, 1) := by decide +kernel
theorem dX4_exchange_138 : decode cX4_exchange 138 = .ok (.iload 4, 2) := by decide +kernel
theorem dX4_exchange_140 : decode cX4_exchange 140 = .ok (.iload 5, 2) := by decide +kernel
theorem dX4_exchange_142 : decode cX4_exchange 142 = .ok (.invokevirtual 131, 3) := by decide +kernel
theorem dX4_exchange_145 : decode cX4_exchange 145 = .ok (.iconst 1, 1) := by decide +kernel
theorem dX4_exchange_146 : decode cX4_exchange 146 = .ok (.ireturn, 1) := by decide +kernel
theorem dX4_exchange_147 : decode cX4_exchange 147 = .ok (.iconst 0, 1) := by decide +kernel
theorem dX4_exchange_148 : decode cX4_exchange 148 = .ok (.ireturn, 1) := by decide +kernel
theorem dX4_exchangeAll_0 : decode cX4_exchangeAll 0 = .ok (.aload_n 0, 1) := by decide +kernel
theorem dX4_exchangeAll_1 : decode cX4_exchangeAll 1 = .ok (.getfield 43, 3) := by decide +kernel
theorem dX4_exchangeAll_4 : decode cX4_exchangeAll 4 = .ok (.sipush 1000, 3) := by decide +kernel
theorem dX4_exchangeAll_7 : decode cX4_exchangeAll 7 = .ok (.if_icmp .ge 23, 3) := by decide +kernel
theorem dX4_exchangeAll_10 : decode cX4_exchangeAll 10 = .ok (.aload_n 0, 1) := by decide +kernel
theorem dX4_exchangeAll_11 : decode cX4_exchangeAll 11 = .ok (.invokevirtual 123, 3) := by decide +kernel
theorem dX4_exchangeAll_14 : decode cX4_exchangeAll 14 = .ok (.ifCond .eq 16, 3) := by decide +kernel
theorem dX4_exchangeAll_17 : decode cX4_exchangeAll 17 = .ok (.aload_n 0, 1) := by decide +kernel
theorem dX4_exchangeAll_18 : decode cX4_exchangeAll 18 = .ok (.dup, 1) := by decide +kernel
theorem dX4_exchangeAll_19 : decode cX4_exchangeAll 19 = .ok (.getfield 43, 3) := by decide +kernel
theorem dX4_exchangeAll_22 : decode cX4_exchangeAll 22 = .ok (.iconst 1, 1) := by decide +kernel
theorem dX4_exchangeAll_23 : decode cX4_exchangeAll 23 = .ok (.iadd, 1) := by decide +kernel
theorem dX4_exchangeAll_24 : decode cX4_exchangeAll 24 = .ok (.putfield 43, 3) := by decide +kernel
theorem dX4_exchangeAll_27 : decode cX4_exchangeAll 27 = .ok (.goto (-27), 3) := by decide +kernel
theorem dX4_exchangeAll_30 : decode cX4_exchangeAll 30 = .ok (.return_, 1) := by decide +kernel
theorem dX4_exchangeFirst_0 : decode cX4_exchangeFirst 0 = .ok (.iconst 0, 1) := by decide +kernel
theorem dX4_exchangeFirst_1 : decode cX4_exchangeFirst 1 = .ok (.istore_n 1, 1) := by decide +kernel
theorem dX4_exchangeFirst_2 : decode cX4_exchangeFirst 2 = .ok (.iload_n 1, 1) := by decide +kernel
theorem dX4_exchangeFirst_3 : decode cX4_exchangeFirst 3 = .ok (.aload_n 0, 1) := by decide +kernel
theorem dX4_exchangeFirst_4 : decode cX4_exchangeFirst 4 = .ok (.getfield 40, 3) := by decide +kernel
theorem dX4_exchangeFirst_7 : decode cX4_exchangeFirst 7 = .ok (.if_icmp .ge 38, 3) := by decide +kernel
theorem dX4_exchangeFirst_10 : decode cX4_exchangeFirst 10 = .ok (.iload_n 1, 1) := by decide +kernel
theorem dX4_exchangeFirst_11 : decode cX4_exchangeFirst 11 = .ok (.iconst 1, 1) := by decide +kernel
theorem dX4_exchangeFirst_12 : decode cX4_exchangeFirst 12 = .ok (.iadd, 1) := by decide +kernel
theorem dX4_exchangeFirst_13 : decode cX4_exchangeFirst 13 = .ok (.istore_n 2, 1) := by decide +kernel
theorem dX4_exchangeFirst_14 : decode cX4_exchangeFirst 14 = .ok (.iload_n 2, 1) := by decide +kernel
theorem dX4_exchangeFirst_15 : decode cX4_exchangeFirst 15 = .ok (.aload_n 0, 1) := by decide +kernel
theorem dX4_exchangeFirst_16 : decode cX4_exchangeFirst 16 = .ok (.getfield 40, 3) := by decide +kernel
theorem dX4_exchangeFirst_19 : decode cX4_exchangeFirst 19 = .ok (.if_icmp .ge 20, 3) := by decide +kernel
theorem dX4_exchangeFirst_22 : decode cX4_exchangeFirst 22 = .ok (.aload_n 0, 1) := by decide +kernel
theorem dX4_exchangeFirst_23 : decode cX4_exchangeFirst 23 = .ok (.iload_n 1, 1) := by decide +kernel
theorem dX4_exchangeFirst_24 : decode cX4_exchangeFirst 24 = .ok (.iload_n 2, 1) := by decide +kernel
theorem dX4_exchangeFirst_25 : decode cX4_exchangeFirst 25 = .ok (.invokevirtual 127, 3) := by decide +kernel
theorem dX4_exchangeFirst_28 : decode cX4_exchangeFirst 28 = .ok (.ifCond .eq 5, 3) := by decide +kernel
theorem dX4_exchangeFirst_31 : decode cX4_exchangeFirst 31 = .ok (.iconst 1, 1) := by decide +kernel
theorem dX4_exchangeFirst_32 : decode cX4_exchangeFirst 32 = .ok (.ireturn, 1) := by decide +kernel
theorem dX4_exchangeFirst_33 : decode cX4_exchangeFirst 33 = .ok (.iinc 2 1, 3) := by decide +kernel
theorem dX4_exchangeFirst_36 : decode cX4_exchangeFirst 36 = .ok (.goto (-22), 3) := by decide +kernel
theorem dX4_exchangeFirst_39 : decode cX4_exchangeFirst 39 = .ok (.iinc 1 1, 3) := by decide +kernel
theorem dX4_exchangeFirst_42 : decode cX4_exchangeFirst 42 = .ok (.goto (-40), 3) := by decide +kernel
theorem dX4_exchangeFirst_45 : decode cX4_exchangeFirst 45 = .ok (.iconst 0, 1) := by decide +kernel
theorem dX4_exchangeFirst_46 : decode cX4_exchangeFirst 46 = .ok (.ireturn, 1) := by decide +kernel
theorem dX4_fillTable_0 : decode cX4_fillTable 0 = .ok (.aload_n 0, 1) := by decide +kernel
theorem dX4_fillTable_1 : decode cX4_fillTable 1 = .ok (.getfield 31, 3) := by decide +kernel
theorem dX4_fillTable_4 : decode cX4_fillTable 4 = .ok (.ifCond .ne 12, 3) := by decide +kernel
theorem dX4_fillTable_7 : decode cX4_fillTable 7 = .ok (.aload_n 0, 1) := by decide +kernel
theorem dX4_fillTable_8 : decode cX4_fillTable 8 = .ok (.getfield 15, 3) := by decide +kernel
theorem dX4_fillTable_11 : decode cX4_fillTable 11 = .ok (.bipush 14, 2) := by decide +kernel
theorem dX4_fillTable_13 : decode cX4_fillTable 13 = .ok (.if_icmp .le 4, 3) := by decide +kernel
theorem dX4_fillTable_16 : decode cX4_fillTable 16 = .ok (.return_, 1) := by decide +kernel
theorem dX4_fillTable_17 : decode cX4_fillTable 17 = .ok (.iconst 0, 1) := by decide +kernel
theorem dX4_fillTable_18 : decode cX4_fillTable 18 = .ok (.istore_n 1, 1) := by decide +kernel
theorem dX4_fillTable_19 : decode cX4_fillTable 19 = .ok (.iload_n 1, 1) := by decide +kernel
theorem dX4_fillTable_20 : decode cX4_fillTable 20 = .ok (.aload_n 0, 1) := by decide +kernel
theorem dX4_fillTable_21 : decode cX4_fillTable 21 = .ok (.getfield 15, 3) := by decide +kernel
theorem dX4_fillTable_24 : decode cX4_fillTable 24 = .ok (.if_icmp .ge 54, 3) := by decide +kernel
theorem dX4_fillTable_27 : decode cX4_fillTable 27 = .ok (.iload_n 1, 1) := by decide +kernel
theorem dX4_fillTable_28 : decode cX4_fillTable 28 = .ok (.iconst 1, 1) := by decide +kernel
theorem dX4_fillTable_29 : decode cX4_fillTable 29 = .ok (.iadd, 1) := by decide +kernel
theorem dX4_fillTable_30 : decode cX4_fillTable 30 = .ok (.istore_n 2, 1) := by decide +kernel
theorem dX4_fillTable_31 : decode cX4_fillTable 31 = .ok (.iload_n 2, 1) := by decide +kernel
theorem dX4_fillTable_32 : decode cX4_fillTable 32 = .ok (.aload_n 0, 1) := by decide +kernel
theorem dX4_fillTable_33 : decode cX4_fillTable 33 = .ok (.getfield 15, 3) := by decide +kernel
theorem dX4_fillTable_36 : decode cX4_fillTable 36 = .ok (.if_icmp .ge 36, 3) := by decide +kernel
theorem dX4_fillTable_39 : decode cX4_fillTable 39 = .ok (.aload_n 0, 1) := by decide +kernel
theorem dX4_fillTable_40 : decode cX4_fillTable 40 = .ok (.getfield 25, 3) := by decide +kernel
theorem dX4_fillTable_43 : decode cX4_fillTable 43 = .ok (.iload_n 1, 1) := by decide +kernel
theorem dX4_fillTable_44 : decode cX4_fillTable 44 = .ok (.aaload, 1) := by decide +kernel
theorem dX4_fillTable_45 : decode cX4_fillTable 45 = .ok (.iload_n 2, 1) := by decide +kernel
theorem dX4_fillTable_46 : decode cX4_fillTable 46 = .ok (.aload_n 0, 1) := by decide +kernel
theorem dX4_fillTable_47 : decode cX4_fillTable 47 = .ok (.getfield 50, 3) := by decide +kernel
theorem dX4_fillTable_50 : decode cX4_fillTable 50 = .ok (.aload_n 0, 1) := by decide +kernel
theorem dX4_fillTable_51 : decode cX4_fillTable 51 = .ok (.getfield 9, 3) := by decide +kernel
theorem dX4_fillTable_54 : decode cX4_fillTable 54 = .ok (.iload_n 1, 1) := by decide +kernel
theorem dX4_fillTable_55 : decode cX4_fillTable 55 = .ok (.iaload, 1) := by decide +kernel
theorem dX4_fillTable_56 : decode cX4_fillTable 56 = .ok (.aload_n 0, 1) := by decide +kernel
theorem dX4_fillTable_57 : decode cX4_fillTable 57 = .ok (.getfield 9, 3) := by decide +kernel
theorem dX4_fillTable_60 : decode cX4_fillTable 60 = .ok (.iload_n 2, 1) := by decide +kernel
theorem dX4_fillTable_61 : decode cX4_fillTable 61 = .ok (.iaload, 1) := by decide +kernel
theorem dX4_fillTable_62 : decode cX4_fillTable 62 = .ok (.invokevirtual 78, 3) := by decide +kernel
theorem dX4_fillTable_65 : decode cX4_fillTable 65 = .ok (.iastore, 1) := by decide +kernel
theorem dX4_fillTable_66 : decode cX4_fillTable 66 = .ok (.iinc 2 1, 3) := by decide +kernel
theorem dX4_fillTable_69 : decode cX4_fillTable 69 = .ok (.goto (-38), 3) := by decide +kernel
theorem dX4_fillTable_72 : decode cX4_fillTable 72 = .ok (.iinc 1 1, 3) := by decide +kernel
theorem dX4_fillTable_75 : decode cX4_fillTable 75 = .ok (.goto (-56), 3) := by decide +kernel
theorem dX4_fillTable_78 : decode cX4_fillTable 78 = .ok (.iconst 1, 1) := by decide +kernel
theorem dX4_fillTable_79 : decode cX4_fillTable 79 = .ok (.aload_n 0, 1) := by decide +kernel
theorem dX4_fillTable_80 : decode cX4_fillTable 80 = .ok (.getfield 15, 3) := by decide +kernel
theorem dX4_fillTable_83 : decode cX4_fillTable 83 = .ok (.ishl, 1) := by decide +kernel
theorem dX4_fillTable_84 : decode cX4_fillTable 84 = .ok (.istore_n 1, 1) := by decide +kernel
theorem dX4_fillTable_85 : decode cX4_fillTable 85 = .ok (.iload_n 1, 1) := by decide +kernel
theorem dX4_fillTable_86 : decode cX4_fillTable 86 = .ok (.aload_n 0, 1) := by decide +kernel
theorem dX4_fillTable_87 : decode cX4_fillTable 87 = .ok (.getfield 28, 3) := by decide +kernel
theorem dX4_fillTable_90 : decode cX4_fillTable 90 = .ok (.arraylength, 1) := by decide +kernel
theorem dX4_fillTable_91 : decode cX4_fillTable 91 = .ok (.if_icmp .le 10, 3) := by decide +kernel
theorem dX4_fillTable_94 : decode cX4_fillTable 94 = .ok (.aload_n 0, 1) := by decide +kernel
theorem dX4_fillTable_95 : decode cX4_fillTable 95 = .ok (.iload_n 1, 1) := by decide +kernel
theorem dX4_fillTable_96 : decode cX4_fillTable 96 = .ok (.newarray .int, 2) := by decide +kernel
theorem dX4_fillTable_98 : decode cX4_fillTable 98 = .ok (.putfield 28, 3) := by decide +kernel
theorem dX4_fillTable_101 : decode cX4_fillTable 101 = .ok (.aload_n 0, 1) := by decide +kernel
theorem dX4_fillTable_102 : decode cX4_fillTable 102 = .ok (.getfield 28, 3) := by decide +kernel
theorem dX4_fillTable_105 : decode cX4_fillTable 105 = .ok (.iconst 0, 1) := by decide +kernel
theorem dX4_fillTable_106 : decode cX4_fillTable 106 = .ok (.iconst 0, 1) := by decide +kernel
theorem dX4_fillTable_107 : decode cX4_fillTable 107 = .ok (.iastore, 1) := by decide +kernel
theorem dX4_fillTable_108 : decode cX4_fillTable 108 = .ok (.iconst 1, 1) := by decide +kernel
theorem dX4_fillTable_109 : decode cX4_fillTable 109 = .ok (.istore_n 2, 1) := by decide +kernel
theorem dX4_fillTable_110 : decode cX4_fillTable 110 = .ok (.iload_n 2, 1) := by decide +kernel
theorem dX4_fillTable_111 : decode cX4_fillTable 111 = .ok (.iload_n 1, 1) := by decide +kernel
theorem dX4_fillTable_112 : decode cX4_fillTable 112 = .ok (.if_icmp .ge 34, 3) := by decide +kernel
theorem dX4_fillTable_115 : decode cX4_fillTable 115 = .ok (.aload_n 0, 1) := by decide +kernel
theorem dX4_fillTable_116 : decode cX4_fillTable 116 = .ok (.getfield 28, 3) := by decide +kernel
theorem dX4_fillTable_119 : decode cX4_fillTable 119 = .ok (.iload_n 2, 1) := by decide +kernel
theorem dX4_fillTable_120 : decode cX4_fillTable 120 = .ok (.iload_n 2, 1) := by decide +kernel
theorem dX4_fillTable_121 : decode cX4_fillTable 121 = .ok (.invokestatic 83, 3) := by decide +kernel
theorem dX4_fillTable_124 : decode cX4_fillTable 124 = .ok (.iconst 2, 1) := by decide +kernel
theorem dX4_fillTable_125 : decode cX4_fillTable 125 = .ok (.irem, 1) := by decide +kernel
theorem dX4_fillTable_126 : decode cX4_fillTable 126 = .ok (.ifCond .ne 11, 3) := by decide +kernel
theorem dX4_fillTable_129 : decode cX4_fillTable 129 = .ok (.aload_n 0, 1) := by decide +kernel
theorem dX4_fillTable_130 : decode cX4_fillTable 130 = .ok (.iload_n 2, 1) := by decide +kernel
theorem dX4_fillTable_131 : decode cX4_fillTable 131 = .ok (.invokevirtual 88, 3) := by decide +kernel
theorem dX4_fillTable_134 : decode cX4_fillTable 134 = .ok (.goto 5, 3) := by decide +kernel
theorem dX4_fillTable_137 : decode cX4_fillTable 137 = .ok (.ldc 77, 2) := by decide +kernel
theorem dX4_fillTable_139 : decode cX4_fillTable 139 = .ok (.iastore, 1) := by decide +kernel
theorem dX4_fillTable_140 : decode cX4_fillTable 140 = .ok (.iinc 2 1, 3) := by decide +kernel
theorem dX4_fillTable_143 : decode cX4_fillTable 143 = .ok (.goto (-33), 3) := by decide +kernel
theorem dX4_fillTable_146 : decode cX4_fillTable 146 = .ok (.aload_n 0, 1) := by decide +kernel
theorem dX4_fillTable_147 : decode cX4_fillTable 147 = .ok (.iconst 1, 1) := by decide +kernel
theorem dX4_fillTable_148 : decode cX4_fillTable 148 = .ok (.putfield 31, 3) := by decide +kernel
theorem dX4_fillTable_151 : decode cX4_fillTable 151 = .ok (.return_, 1) := by decide +kernel
theorem dX4_firstPartner_0 : decode cX4_firstPartner 0 = .ok (.iload_n 1, 1) := by decide +kernel
theorem dX4_firstPartner_1 : decode cX4_firstPartner 1 = .ok (.i2l, 1) := by decide +kernel
theorem dX4_firstPartner_2 : decode cX4_firstPartner 2 = .ok (.invokestatic 91, 3) := by decide +kernel
theorem dX4_firstPartner_5 : decode cX4_firstPartner 5 = .ok (.istore_n 2, 1) := by decide +kernel
theorem dX4_firstPartner_6 : decode cX4_firstPartner 6 = .ok (.iload_n 1, 1) := by decide +kernel
theorem dX4_firstPartner_7 : decode cX4_firstPartner 7 = .ok (.iload_n 1, 1) := by decide +kernel
theorem dX4_firstPartner_8 : decode cX4_firstPartner 8 = .ok (.iconst 1, 1) := by decide +kernel
theorem dX4_firstPartner_9 : decode cX4_firstPartner 9 = .ok (.isub, 1) := by decide +kernel
theorem dX4_firstPartner_10 : decode cX4_firstPartner 10 = .ok (.iand, 1) := by decide +kernel
theorem dX4_firstPartner_11 : decode cX4_firstPartner 11 = .ok (.istore_n 3, 1) := by decide +kernel
theorem dX4_firstPartner_12 : decode cX4_firstPartner 12 = .ok (.iload_n 2, 1) := by decide +kernel
theorem dX4_firstPartner_13 : decode cX4_firstPartner 13 = .ok (.iconst 1, 1) := by decide +kernel
theorem dX4_firstPartner_14 : decode cX4_firstPartner 14 = .ok (.iadd, 1) := by decide +kernel
theorem dX4_firstPartner_15 : decode cX4_firstPartner 15 = .ok (.istore 4, 2) := by decide +kernel
theorem dX4_firstPartner_17 : decode cX4_firstPartner 17 = .ok (.iload 4, 2) := by decide +kernel
theorem dX4_firstPartner_19 : decode cX4_firstPartner 19 = .ok (.aload_n 0, 1) := by decide +kernel
theorem dX4_firstPartner_20 : decode cX4_firstPartner 20 = .ok (.getfield 15, 3) := by decide +kernel
theorem dX4_firstPartner_23 : decode cX4_firstPartner 23 = .ok (.if_icmp .ge 52, 3) := by decide +kernel
theorem dX4_firstPartner_26 : decode cX4_firstPartner 26 = .ok (.iload_n 3, 1) := by decide +kernel
theorem dX4_firstPartner_27 : decode cX4_firstPartner 27 = .ok (.iload 4, 2) := by decide +kernel
theorem dX4_firstPartner_29 : decode cX4_firstPartner 29 = .ok (.ishr, 1) := by decide +kernel
theorem dX4_firstPartner_30 : decode cX4_firstPartner 30 = .ok (.iconst 1, 1) := by decide +kernel
theorem dX4_firstPartner_31 : decode cX4_firstPartner 31 = .ok (.iand, 1) := by decide +kernel
theorem dX4_firstPartner_32 : decode cX4_firstPartner 32 = .ok (.iconst 1, 1) := by decide +kernel
theorem dX4_firstPartner_33 : decode cX4_firstPartner 33 = .ok (.if_icmp .ne 36, 3) := by decide +kernel
theorem dX4_firstPartner_36 : decode cX4_firstPartner 36 = .ok (.aload_n 0, 1) := by decide +kernel
theorem dX4_firstPartner_37 : decode cX4_firstPartner 37 = .ok (.getfield 25, 3) := by decide +kernel
theorem dX4_firstPartner_40 : decode cX4_firstPartner 40 = .ok (.iload_n 2, 1) := by decide +kernel
theorem dX4_firstPartner_41 : decode cX4_firstPartner 41 = .ok (.aaload, 1) := by decide +kernel
theorem dX4_firstPartner_42 : decode cX4_firstPartner 42 = .ok (.iload 4, 2) := by decide +kernel
theorem dX4_firstPartner_44 : decode cX4_firstPartner 44 = .ok (.iaload, 1) := by decide +kernel
theorem dX4_firstPartner_45 : decode cX4_firstPartner 45 = .ok (.aload_n 0, 1) := by decide +kernel
theorem dX4_firstPartner_46 : decode cX4_firstPartner 46 = .ok (.getfield 28, 3) := by decide +kernel
theorem dX4_firstPartner_49 : decode cX4_firstPartner 49 = .ok (.iload_n 3, 1) := by decide +kernel
theorem dX4_firstPartner_50 : decode cX4_firstPartner 50 = .ok (.iconst 1, 1) := by decide +kernel
theorem dX4_firstPartner_51 : decode cX4_firstPartner 51 = .ok (.iload 4, 2) := by decide +kernel
theorem dX4_firstPartner_53 : decode cX4_firstPartner 53 = .ok (.ishl, 1) := by decide +kernel
theorem dX4_firstPartner_54 : decode cX4_firstPartner 54 = .ok (.ixor, 1) := by decide +kernel
theorem dX4_firstPartner_55 : decode cX4_firstPartner 55 = .ok (.iaload, 1) := by decide +kernel
theorem dX4_firstPartner_56 : decode cX4_firstPartner 56 = .ok (.iadd, 1) := by decide +kernel
theorem dX4_firstPartner_57 : decode cX4_firstPartner 57 = .ok (.aload_n 0, 1) := by decide +kernel
theorem dX4_firstPartner_58 : decode cX4_firstPartner 58 = .ok (.getfield 28, 3) := by decide +kernel
theorem dX4_firstPartner_61 : decode cX4_firstPartner 61 = .ok (.iload_n 1, 1) := by decide +kernel
theorem dX4_firstPartner_62 : decode cX4_firstPartner 62 = .ok (.iaload, 1) := by decide +kernel
theorem dX4_firstPartner_63 : decode cX4_firstPartner 63 = .ok (.if_icmp .ne 6, 3) := by decide +kernel
theorem dX4_firstPartner_66 : decode cX4_firstPartner 66 = .ok (.iload 4, 2) := by decide +kernel
theorem dX4_firstPartner_68 : decode cX4_firstPartner 68 = .ok (.ireturn, 1) := by decide +kernel
theorem dX4_firstPartner_69 : decode cX4_firstPartner 69 = .ok (.iinc 4 1, 3) := by decide +kernel
theorem dX4_firstPartner_72 : decode cX4_firstPartner 72 = .ok (.goto (-55), 3) := by decide +kernel
theorem dX4_firstPartner_75 : decode cX4_firstPartner 75 = .ok (.iconst (-1), 1) := by decide +kernel
theorem dX4_firstPartner_76 : decode cX4_firstPartner 76 = .ok (.ireturn, 1) := by decide +kernel
theorem dX4_forget_0 : decode cX4_forget 0 = .ok (.aload_n 0, 1) := by decide +kernel
theorem dX4_forget_1 : decode cX4_forget 1 = .ok (.iconst 0, 1) := by decide +kernel
theorem dX4_forget_2 : decode cX4_forget 2 = .ok (.putfield 19, 3) := by decide +kernel
theorem dX4_forget_5 : decode cX4_forget 5 = .ok (.aload_n 0, 1) := by decide +kernel
theorem dX4_forget_6 : decode cX4_forget 6 = .ok (.iconst 0, 1) := by decide +kernel
theorem dX4_forget_7 : decode cX4_forget 7 = .ok (.putfield 31, 3) := by decide +kernel
theorem dX4_forget_10 : decode cX4_forget 10 = .ok (.return_, 1) := by decide +kernel
theorem dX4_init_0 : decode cX4_init 0 = .ok (.aload_n 0, 1) := by decide +kernel
theorem dX4_init_1 : decode cX4_init 1 = .ok (.invokespecial 3, 3) := by decide +kernel
theorem dX4_init_4 : decode cX4_init 4 = .ok (.aload_n 0, 1) := by decide +kernel
theorem dX4_init_5 : decode cX4_init 5 = .ok (.bipush 60, 2) := by decide +kernel
theorem dX4_init_7 : decode cX4_init 7 = .ok (.newarray .int, 2) := by decide +kernel
theorem dX4_init_9 : decode cX4_init 9 = .ok (.putfield 9, 3) := by decide +kernel
theorem dX4_init_12 : decode cX4_init 12 = .ok (.aload_n 0, 1) := by decide +kernel
theorem dX4_init_13 : decode cX4_init 13 = .ok (.iconst 0, 1) := by decide +kernel
theorem dX4_init_14 : decode cX4_init 14 = .ok (.putfield 15, 3) := by decide +kernel
theorem dX4_init_17 : decode cX4_init 17 = .ok (.aload_n 0, 1) := by decide +kernel
theorem dX4_init_18 : decode cX4_init 18 = .ok (.iconst 0, 1) := by decide +kernel
theorem dX4_init_19 : decode cX4_init 19 = .ok (.putfield 19, 3) := by decide +kernel
theorem dX4_init_22 : decode cX4_init 22 = .ok (.aload_n 0, 1) := by decide +kernel
theorem dX4_init_23 : decode cX4_init 23 = .ok (.bipush 14, 2) := by decide +kernel
theorem dX4_init_25 : decode cX4_init 25 = .ok (.bipush 14, 2) := by decide +kernel
theorem dX4_init_27 : decode cX4_init 27 = .ok (.multianewarray 23 2, 4) := by decide +kernel
theorem dX4_init_31 : decode cX4_init 31 = .ok (.putfield 25, 3) := by decide +kernel
theorem dX4_init_34 : decode cX4_init 34 = .ok (.aload_n 0, 1) := by decide +kernel
theorem dX4_init_35 : decode cX4_init 35 = .ok (.iconst 1, 1) := by decide +kernel
theorem dX4_init_36 : decode cX4_init 36 = .ok (.newarray .int, 2) := by decide +kernel
theorem dX4_init_38 : decode cX4_init 38 = .ok (.putfield 28, 3) := by decide +kernel
theorem dX4_init_41 : decode cX4_init 41 = .ok (.aload_n 0, 1) := by decide +kernel
theorem dX4_init_42 : decode cX4_init 42 = .ok (.iconst 0, 1) := by decide +kernel
theorem dX4_init_43 : decode cX4_init 43 = .ok (.putfield 31, 3) := by decide +kernel
theorem dX4_init_46 : decode cX4_init 46 = .ok (.aload_n 0, 1) := by decide +kernel
theorem dX4_init_47 : decode cX4_init 47 = .ok (.bipush 30, 2) := by decide +kernel
theorem dX4_init_49 : decode cX4_init 49 = .ok (.newarray .int, 2) := by decide +kernel
theorem dX4_init_51 : decode cX4_init 51 = .ok (.putfield 34, 3) := by decide +kernel
theorem dX4_init_54 : decode cX4_init 54 = .ok (.aload_n 0, 1) := by decide +kernel
theorem dX4_init_55 : decode cX4_init 55 = .ok (.bipush 30, 2) := by decide +kernel
theorem dX4_init_57 : decode cX4_init 57 = .ok (.newarray .int, 2) := by decide +kernel
theorem dX4_init_59 : decode cX4_init 59 = .ok (.putfield 37, 3) := by decide +kernel
theorem dX4_init_62 : decode cX4_init 62 = .ok (.aload_n 0, 1) := by decide +kernel
theorem dX4_init_63 : decode cX4_init 63 = .ok (.iconst 0, 1) := by decide +kernel
theorem dX4_init_64 : decode cX4_init 64 = .ok (.putfield 40, 3) := by decide +kernel
theorem dX4_init_67 : decode cX4_init 67 = .ok (.aload_n 0, 1) := by decide +kernel
theorem dX4_init_68 : decode cX4_init 68 = .ok (.iconst 0, 1) := by decide +kernel
theorem dX4_init_69 : decode cX4_init 69 = .ok (.putfield 43, 3) := by decide +kernel
theorem dX4_init_72 : decode cX4_init 72 = .ok (.aload_n 0, 1) := by decide +kernel
theorem dX4_init_73 : decode cX4_init 73 = .ok (.aload_n 1, 1) := by decide +kernel
theorem dX4_init_74 : decode cX4_init 74 = .ok (.putfield 46, 3) := by decide +kernel
theorem dX4_init_77 : decode cX4_init 77 = .ok (.aload_n 0, 1) := by decide +kernel
theorem dX4_init_78 : decode cX4_init 78 = .ok (.aload_n 2, 1) := by decide +kernel
theorem dX4_init_79 : decode cX4_init 79 = .ok (.putfield 50, 3) := by decide +kernel
theorem dX4_init_82 : decode cX4_init 82 = .ok (.return_, 1) := by decide +kernel
theorem dX4_leastByPartner_0 : decode cX4_leastByPartner 0 = .ok (.iload_n 1, 1) := by decide +kernel
theorem dX4_leastByPartner_1 : decode cX4_leastByPartner 1 = .ok (.i2l, 1) := by decide +kernel
theorem dX4_leastByPartner_2 : decode cX4_leastByPartner 2 = .ok (.invokestatic 91, 3) := by decide +kernel
theorem dX4_leastByPartner_5 : decode cX4_leastByPartner 5 = .ok (.istore_n 2, 1) := by decide +kernel
theorem dX4_leastByPartner_6 : decode cX4_leastByPartner 6 = .ok (.iload_n 1, 1) := by decide +kernel
theorem dX4_leastByPartner_7 : decode cX4_leastByPartner 7 = .ok (.iload_n 1, 1) := by decide +kernel
theorem dX4_leastByPartner_8 : decode cX4_leastByPartner 8 = .ok (.iconst 1, 1) := by decide +kernel
theorem dX4_leastByPartner_9 : decode cX4_leastByPartner 9 = .ok (.isub, 1) := by decide +kernel
theorem dX4_leastByPartner_10 : decode cX4_leastByPartner 10 = .ok (.iand, 1) := by decide +kernel
theorem dX4_leastByPartner_11 : decode cX4_leastByPartner 11 = .ok (.istore_n 3, 1) := by decide +kernel
theorem dX4_leastByPartner_12 : decode cX4_leastByPartner 12 = .ok (.ldc 77, 2) := by decide +kernel
theorem dX4_leastByPartner_14 : decode cX4_leastByPartner 14 = .ok (.istore 4, 2) := by decide +kernel
theorem dX4_leastByPartner_16 : decode cX4_leastByPartner 16 = .ok (.iload_n 2, 1) := by decide +kernel
theorem dX4_leastByPartner_17 : decode cX4_leastByPartner 17 = .ok (.iconst 1, 1) := by decide +kernel
theorem dX4_leastByPartner_18 : decode cX4_leastByPartner 18 = .ok (.iadd, 1) := by decide +kernel
theorem dX4_leastByPartner_19 : decode cX4_leastByPartner 19 = .ok (.istore 5, 2) := by decide +kernel
theorem dX4_leastByPartner_21 : decode cX4_leastByPartner 21 = .ok (.iload 5, 2) := by decide +kernel
theorem dX4_leastByPartner_23 : decode cX4_leastByPartner 23 = .ok (.aload_n 0, 1) := by decide +kernel
theorem dX4_leastByPartner_24 : decode cX4_leastByPartner 24 = .ok (.getfield 15, 3) := by decide +kernel
theorem dX4_leastByPartner_27 : decode cX4_leastByPartner 27 = .ok (.if_icmp .ge 47, 3) := by decide +kernel
theorem dX4_leastByPartner_30 : decode cX4_leastByPartner 30 = .ok (.iload_n 3, 1) := by decide +kernel
theorem dX4_leastByPartner_31 : decode cX4_leastByPartner 31 = .ok (.iload 5, 2) := by decide +kernel
theorem dX4_leastByPartner_33 : decode cX4_leastByPartner 33 = .ok (.ishr, 1) := by decide +kernel
theorem dX4_leastByPartner_34 : decode cX4_leastByPartner 34 = .ok (.iconst 1, 1) := by decide +kernel
theorem dX4_leastByPartner_35 : decode cX4_leastByPartner 35 = .ok (.iand, 1) := by decide +kernel
theorem dX4_leastByPartner_36 : decode cX4_leastByPartner 36 = .ok (.iconst 1, 1) := by decide +kernel
theorem dX4_leastByPartner_37 : decode cX4_leastByPartner 37 = .ok (.if_icmp .ne 31, 3) := by decide +kernel
theorem dX4_leastByPartner_40 : decode cX4_leastByPartner 40 = .ok (.iload 4, 2) := by decide +kernel
theorem dX4_leastByPartner_42 : decode cX4_leastByPartner 42 = .ok (.aload_n 0, 1) := by decide +kernel
theorem dX4_leastByPartner_43 : decode cX4_leastByPartner 43 = .ok (.getfield 25, 3) := by decide +kernel
theorem dX4_leastByPartner_46 : decode cX4_leastByPartner 46 = .ok (.iload_n 2, 1) := by decide +kernel
theorem dX4_leastByPartner_47 : decode cX4_leastByPartner 47 = .ok (.aaload, 1) := by decide +kernel
theorem dX4_leastByPartner_48 : decode cX4_leastByPartner 48 = .ok (.iload 5, 2) := by decide +kernel
theorem dX4_leastByPartner_50 : decode cX4_leastByPartner 50 = .ok (.iaload, 1) := by decide +kernel
theorem dX4_leastByPartner_51 : decode cX4_leastByPartner 51 = .ok (.aload_n 0, 1) := by decide +kernel
theorem dX4_leastByPartner_52 : decode cX4_leastByPartner 52 = .ok (.getfield 28, 3) := by decide +kernel
theorem dX4_leastByPartner_55 : decode cX4_leastByPartner 55 = .ok (.iload_n 3, 1) := by decide +kernel
theorem dX4_leastByPartner_56 : decode cX4_leastByPartner 56 = .ok (.iconst 1, 1) := by decide +kernel
theorem dX4_leastByPartner_57 : decode cX4_leastByPartner 57 = .ok (.iload 5, 2) := by decide +kernel
theorem dX4_leastByPartner_59 : decode cX4_leastByPartner 59 = .ok (.ishl, 1) := by decide +kernel
theorem dX4_leastByPartner_60 : decode cX4_leastByPartner 60 = .ok (.ixor, 1) := by decide +kernel
theorem dX4_leastByPartner_61 : decode cX4_leastByPartner 61 = .ok (.iaload, 1) := by decide +kernel
theorem dX4_leastByPartner_62 : decode cX4_leastByPartner 62 = .ok (.iadd, 1) := by decide +kernel
theorem dX4_leastByPartner_63 : decode cX4_leastByPartner 63 = .ok (.invokestatic 95, 3) := by decide +kernel
theorem dX4_leastByPartner_66 : decode cX4_leastByPartner 66 = .ok (.istore 4, 2) := by decide +kernel
theorem dX4_leastByPartner_68 : decode cX4_leastByPartner 68 = .ok (.iinc 5 1, 3) := by decide +kernel
theorem dX4_leastByPartner_71 : decode cX4_leastByPartner 71 = .ok (.goto (-50), 3) := by decide +kernel
theorem dX4_leastByPartner_74 : decode cX4_leastByPartner 74 = .ok (.iload 4, 2) := by decide +kernel
theorem dX4_leastByPartner_76 : decode cX4_leastByPartner 76 = .ok (.ireturn, 1) := by decide +kernel
theorem dX4_leastOf_0 : decode cX4_leastOf 0 = .ok (.iload_n 1, 1) := by decide +kernel
theorem dX4_leastOf_1 : decode cX4_leastOf 1 = .ok (.ifCond .lt 21, 3) := by decide +kernel
theorem dX4_leastOf_4 : decode cX4_leastOf 4 = .ok (.iload_n 1, 1) := by decide +kernel
theorem dX4_leastOf_5 : decode cX4_leastOf 5 = .ok (.aload_n 0, 1) := by decide +kernel
theorem dX4_leastOf_6 : decode cX4_leastOf 6 = .ok (.getfield 28, 3) := by decide +kernel
theorem dX4_leastOf_9 : decode cX4_leastOf 9 = .ok (.arraylength, 1) := by decide +kernel
theorem dX4_leastOf_10 : decode cX4_leastOf 10 = .ok (.if_icmp .ge 12, 3) := by decide +kernel
theorem dX4_leastOf_13 : decode cX4_leastOf 13 = .ok (.aload_n 0, 1) := by decide +kernel
theorem dX4_leastOf_14 : decode cX4_leastOf 14 = .ok (.getfield 28, 3) := by decide +kernel
theorem dX4_leastOf_17 : decode cX4_leastOf 17 = .ok (.iload_n 1, 1) := by decide +kernel
theorem dX4_leastOf_18 : decode cX4_leastOf 18 = .ok (.iaload, 1) := by decide +kernel
theorem dX4_leastOf_19 : decode cX4_leastOf 19 = .ok (.goto 5, 3) := by decide +kernel
theorem dX4_leastOf_22 : decode cX4_leastOf 22 = .ok (.ldc 77, 2) := by decide +kernel
theorem dX4_leastOf_24 : decode cX4_leastOf 24 = .ok (.ireturn, 1) := by decide +kernel
theorem dX4_list_0 : decode cX4_list 0 = .ok (.aload_n 0, 1) := by decide +kernel
theorem dX4_list_1 : decode cX4_list 1 = .ok (.getfield 19, 3) := by decide +kernel
theorem dX4_list_4 : decode cX4_list 4 = .ok (.ifCond .eq 8, 3) := by decide +kernel
theorem dX4_list_7 : decode cX4_list 7 = .ok (.aload_n 0, 1) := by decide +kernel
theorem dX4_list_8 : decode cX4_list 8 = .ok (.getfield 15, 3) := by decide +kernel
theorem dX4_list_11 : decode cX4_list 11 = .ok (.ireturn, 1) := by decide +kernel
theorem dX4_list_12 : decode cX4_list 12 = .ok (.aload_n 0, 1) := by decide +kernel
theorem dX4_list_13 : decode cX4_list 13 = .ok (.invokevirtual 54, 3) := by decide +kernel
theorem dX4_list_16 : decode cX4_list 16 = .ok (.lstore_n 1, 1) := by decide +kernel
theorem dX4_list_17 : decode cX4_list 17 = .ok (.aload_n 0, 1) := by decide +kernel
theorem dX4_list_18 : decode cX4_list 18 = .ok (.iconst 0, 1) := by decide +kernel
theorem dX4_list_19 : decode cX4_list 19 = .ok (.putfield 15, 3) := by decide +kernel
theorem dX4_list_22 : decode cX4_list 22 = .ok (.iconst 0, 1) := by decide +kernel
theorem dX4_list_23 : decode cX4_list 23 = .ok (.istore_n 3, 1) := by decide +kernel
theorem dX4_list_24 : decode cX4_list 24 = .ok (.iload_n 3, 1) := by decide +kernel
theorem dX4_list_25 : decode cX4_list 25 = .ok (.bipush 60, 2) := by decide +kernel
theorem dX4_list_27 : decode cX4_list 27 = .ok (.if_icmp .ge 39, 3) := by decide +kernel
theorem dX4_list_30 : decode cX4_list 30 = .ok (.lload_n 1, 1) := by decide +kernel
theorem dX4_list_31 : decode cX4_list 31 = .ok (.iload_n 3, 1) := by decide +kernel
theorem dX4_list_32 : decode cX4_list 32 = .ok (.lshr, 1) := by decide +kernel
theorem dX4_list_33 : decode cX4_list 33 = .ok (.lconst 1, 1) := by decide +kernel
theorem dX4_list_34 : decode cX4_list 34 = .ok (.land, 1) := by decide +kernel
theorem dX4_list_35 : decode cX4_list 35 = .ok (.lconst 1, 1) := by decide +kernel
theorem dX4_list_36 : decode cX4_list 36 = .ok (.lcmp, 1) := by decide +kernel
theorem dX4_list_37 : decode cX4_list 37 = .ok (.ifCond .ne 23, 3) := by decide +kernel
theorem dX4_list_40 : decode cX4_list 40 = .ok (.aload_n 0, 1) := by decide +kernel
theorem dX4_list_41 : decode cX4_list 41 = .ok (.getfield 9, 3) := by decide +kernel
theorem dX4_list_44 : decode cX4_list 44 = .ok (.aload_n 0, 1) := by decide +kernel
theorem dX4_list_45 : decode cX4_list 45 = .ok (.getfield 15, 3) := by decide +kernel
theorem dX4_list_48 : decode cX4_list 48 = .ok (.iload_n 3, 1) := by decide +kernel
theorem dX4_list_49 : decode cX4_list 49 = .ok (.iastore, 1) := by decide +kernel
theorem dX4_list_50 : decode cX4_list 50 = .ok (.aload_n 0, 1) := by decide +kernel
theorem dX4_list_51 : decode cX4_list 51 = .ok (.dup, 1) := by decide +kernel
theorem dX4_list_52 : decode cX4_list 52 = .ok (.getfield 15, 3) := by decide +kernel
theorem dX4_list_55 : decode cX4_list 55 = .ok (.iconst 1, 1) := by decide +kernel
theorem dX4_list_56 : decode cX4_list 56 = .ok (.iadd, 1) := by decide +kernel
theorem dX4_list_57 : decode cX4_list 57 = .ok (.putfield 15, 3) := by decide +kernel
theorem dX4_list_60 : decode cX4_list 60 = .ok (.iinc 3 1, 3) := by decide +kernel
theorem dX4_list_63 : decode cX4_list 63 = .ok (.goto (-39), 3) := by decide +kernel
theorem dX4_list_66 : decode cX4_list 66 = .ok (.aload_n 0, 1) := by decide +kernel
theorem dX4_list_67 : decode cX4_list 67 = .ok (.iconst 1, 1) := by decide +kernel
theorem dX4_list_68 : decode cX4_list 68 = .ok (.putfield 19, 3) := by decide +kernel
theorem dX4_list_71 : decode cX4_list 71 = .ok (.aload_n 0, 1) := by decide +kernel
theorem dX4_list_72 : decode cX4_list 72 = .ok (.getfield 15, 3) := by decide +kernel
theorem dX4_list_75 : decode cX4_list 75 = .ok (.ireturn, 1) := by decide +kernel
theorem dX4_oddAt_0 : decode cX4_oddAt 0 = .ok (.iload_n 1, 1) := by decide +kernel
theorem dX4_oddAt_1 : decode cX4_oddAt 1 = .ok (.ifCond .lt 20, 3) := by decide +kernel
theorem dX4_oddAt_4 : decode cX4_oddAt 4 = .ok (.iload_n 1, 1) := by decide +kernel
theorem dX4_oddAt_5 : decode cX4_oddAt 5 = .ok (.aload_n 0, 1) := by decide +kernel
theorem dX4_oddAt_6 : decode cX4_oddAt 6 = .ok (.getfield 15, 3) := by decide +kernel
theorem dX4_oddAt_9 : decode cX4_oddAt 9 = .ok (.if_icmp .ge 12, 3) := by decide +kernel
theorem dX4_oddAt_12 : decode cX4_oddAt 12 = .ok (.aload_n 0, 1) := by decide +kernel
theorem dX4_oddAt_13 : decode cX4_oddAt 13 = .ok (.getfield 9, 3) := by decide +kernel
theorem dX4_oddAt_16 : decode cX4_oddAt 16 = .ok (.iload_n 1, 1) := by decide +kernel
theorem dX4_oddAt_17 : decode cX4_oddAt 17 = .ok (.iaload, 1) := by decide +kernel
theorem dX4_oddAt_18 : decode cX4_oddAt 18 = .ok (.goto 4, 3) := by decide +kernel
theorem dX4_oddAt_21 : decode cX4_oddAt 21 = .ok (.iconst (-1), 1) := by decide +kernel
theorem dX4_oddAt_22 : decode cX4_oddAt 22 = .ok (.ireturn, 1) := by decide +kernel
theorem dX4_oddBits_0 : decode cX4_oddBits 0 = .ok (.lconst 0, 1) := by decide +kernel
theorem dX4_oddBits_1 : decode cX4_oddBits 1 = .ok (.lstore_n 1, 1) := by decide +kernel
theorem dX4_oddBits_2 : decode cX4_oddBits 2 = .ok (.iconst 0, 1) := by decide +kernel
theorem dX4_oddBits_3 : decode cX4_oddBits 3 = .ok (.istore_n 3, 1) := by decide +kernel
theorem dX4_oddBits_4 : decode cX4_oddBits 4 = .ok (.iload_n 3, 1) := by decide +kernel
theorem dX4_oddBits_5 : decode cX4_oddBits 5 = .ok (.aload_n 0, 1) := by decide +kernel
theorem dX4_oddBits_6 : decode cX4_oddBits 6 = .ok (.getfield 46, 3) := by decide +kernel
theorem dX4_oddBits_9 : decode cX4_oddBits 9 = .ok (.getfield 58, 3) := by decide +kernel
theorem dX4_oddBits_12 : decode cX4_oddBits 12 = .ok (.getfield 64, 3) := by decide +kernel
theorem dX4_oddBits_15 : decode cX4_oddBits 15 = .ok (.if_icmp .ge 57, 3) := by decide +kernel
theorem dX4_oddBits_18 : decode cX4_oddBits 18 = .ok (.aload_n 0, 1) := by decide +kernel
theorem dX4_oddBits_19 : decode cX4_oddBits 19 = .ok (.getfield 46, 3) := by decide +kernel
theorem dX4_oddBits_22 : decode cX4_oddBits 22 = .ok (.iload_n 3, 1) := by decide +kernel
theorem dX4_oddBits_23 : decode cX4_oddBits 23 = .ok (.invokevirtual 69, 3) := by decide +kernel
theorem dX4_oddBits_26 : decode cX4_oddBits 26 = .ok (.iconst 1, 1) := by decide +kernel
theorem dX4_oddBits_27 : decode cX4_oddBits 27 = .ok (.if_icmp .ne 39, 3) := by decide +kernel
theorem dX4_oddBits_30 : decode cX4_oddBits 30 = .ok (.lload_n 1, 1) := by decide +kernel
theorem dX4_oddBits_31 : decode cX4_oddBits 31 = .ok (.lconst 1, 1) := by decide +kernel
theorem dX4_oddBits_32 : decode cX4_oddBits 32 = .ok (.aload_n 0, 1) := by decide +kernel
theorem dX4_oddBits_33 : decode cX4_oddBits 33 = .ok (.getfield 46, 3) := by decide +kernel
theorem dX4_oddBits_36 : decode cX4_oddBits 36 = .ok (.getfield 58, 3) := by decide +kernel
theorem dX4_oddBits_39 : decode cX4_oddBits 39 = .ok (.iload_n 3, 1) := by decide +kernel
theorem dX4_oddBits_40 : decode cX4_oddBits 40 = .ok (.bipush 7, 2) := by decide +kernel
theorem dX4_oddBits_42 : decode cX4_oddBits 42 = .ok (.invokevirtual 73, 3) := by decide +kernel
theorem dX4_oddBits_45 : decode cX4_oddBits 45 = .ok (.lshl, 1) := by decide +kernel
theorem dX4_oddBits_46 : decode cX4_oddBits 46 = .ok (.lxor, 1) := by decide +kernel
theorem dX4_oddBits_47 : decode cX4_oddBits 47 = .ok (.lstore_n 1, 1) := by decide +kernel
theorem dX4_oddBits_48 : decode cX4_oddBits 48 = .ok (.lload_n 1, 1) := by decide +kernel
theorem dX4_oddBits_49 : decode cX4_oddBits 49 = .ok (.lconst 1, 1) := by decide +kernel
theorem dX4_oddBits_50 : decode cX4_oddBits 50 = .ok (.aload_n 0, 1) := by decide +kernel
theorem dX4_oddBits_51 : decode cX4_oddBits 51 = .ok (.getfield 46, 3) := by decide +kernel
theorem dX4_oddBits_54 : decode cX4_oddBits 54 = .ok (.getfield 58, 3) := by decide +kernel
theorem dX4_oddBits_57 : decode cX4_oddBits 57 = .ok (.iload_n 3, 1) := by decide +kernel
theorem dX4_oddBits_58 : decode cX4_oddBits 58 = .ok (.bipush 8, 2) := by decide +kernel
theorem dX4_oddBits_60 : decode cX4_oddBits 60 = .ok (.invokevirtual 73, 3) := by decide +kernel
theorem dX4_oddBits_63 : decode cX4_oddBits 63 = .ok (.lshl, 1) := by decide +kernel
theorem dX4_oddBits_64 : decode cX4_oddBits 64 = .ok (.lxor, 1) := by decide +kernel
theorem dX4_oddBits_65 : decode cX4_oddBits 65 = .ok (.lstore_n 1, 1) := by decide +kernel
theorem dX4_oddBits_66 : decode cX4_oddBits 66 = .ok (.iinc 3 1, 3) := by decide +kernel
theorem dX4_oddBits_69 : decode cX4_oddBits 69 = .ok (.goto (-65), 3) := by decide +kernel
theorem dX4_oddBits_72 : decode cX4_oddBits 72 = .ok (.lload_n 1, 1) := by decide +kernel
theorem dX4_oddBits_73 : decode cX4_oddBits 73 = .ok (.lreturn, 1) := by decide +kernel
theorem dX4_pairExactly_0 : decode cX4_pairExactly 0 = .ok (.iconst 1, 1) := by decide +kernel
theorem dX4_pairExactly_1 : decode cX4_pairExactly 1 = .ok (.aload_n 0, 1) := by decide +kernel
theorem dX4_pairExactly_2 : decode cX4_pairExactly 2 = .ok (.getfield 15, 3) := by decide +kernel
theorem dX4_pairExactly_5 : decode cX4_pairExactly 5 = .ok (.ishl, 1) := by decide +kernel
theorem dX4_pairExactly_6 : decode cX4_pairExactly 6 = .ok (.iconst 1, 1) := by decide +kernel
theorem dX4_pairExactly_7 : decode cX4_pairExactly 7 = .ok (.isub, 1) := by decide +kernel
theorem dX4_pairExactly_8 : decode cX4_pairExactly 8 = .ok (.istore_n 1, 1) := by decide +kernel
theorem dX4_pairExactly_9 : decode cX4_pairExactly 9 = .ok (.iconst 0, 1) := by decide +kernel
theorem dX4_pairExactly_10 : decode cX4_pairExactly 10 = .ok (.istore_n 2, 1) := by decide +kernel
theorem dX4_pairExactly_11 : decode cX4_pairExactly 11 = .ok (.iload_n 2, 1) := by decide +kernel
theorem dX4_pairExactly_12 : decode cX4_pairExactly 12 = .ok (.bipush 14, 2) := by decide +kernel
theorem dX4_pairExactly_14 : decode cX4_pairExactly 14 = .ok (.if_icmp .ge 55, 3) := by decide +kernel
theorem dX4_pairExactly_17 : decode cX4_pairExactly 17 = .ok (.iload_n 1, 1) := by decide +kernel
theorem dX4_pairExactly_18 : decode cX4_pairExactly 18 = .ok (.ifCond .eq 51, 3) := by decide +kernel
theorem dX4_pairExactly_21 : decode cX4_pairExactly 21 = .ok (.aload_n 0, 1) := by decide +kernel
theorem dX4_pairExactly_22 : decode cX4_pairExactly 22 = .ok (.iload_n 1, 1) := by decide +kernel
theorem dX4_pairExactly_23 : decode cX4_pairExactly 23 = .ok (.invokevirtual 116, 3) := by decide +kernel
theorem dX4_pairExactly_26 : decode cX4_pairExactly 26 = .ok (.istore_n 3, 1) := by decide +kernel
theorem dX4_pairExactly_27 : decode cX4_pairExactly 27 = .ok (.iload_n 3, 1) := by decide +kernel
theorem dX4_pairExactly_28 : decode cX4_pairExactly 28 = .ok (.iconst (-1), 1) := by decide +kernel
theorem dX4_pairExactly_29 : decode cX4_pairExactly 29 = .ok (.if_icmp .ne 4, 3) := by decide +kernel
theorem dX4_pairExactly_32 : decode cX4_pairExactly 32 = .ok (.return_, 1) := by decide +kernel
theorem dX4_pairExactly_33 : decode cX4_pairExactly 33 = .ok (.aload_n 0, 1) := by decide +kernel
theorem dX4_pairExactly_34 : decode cX4_pairExactly 34 = .ok (.aload_n 0, 1) := by decide +kernel
theorem dX4_pairExactly_35 : decode cX4_pairExactly 35 = .ok (.getfield 9, 3) := by decide +kernel
theorem dX4_pairExactly_38 : decode cX4_pairExactly 38 = .ok (.iload_n 1, 1) := by decide +kernel
theorem dX4_pairExactly_39 : decode cX4_pairExactly 39 = .ok (.i2l, 1) := by decide +kernel
theorem dX4_pairExactly_40 : decode cX4_pairExactly 40 = .ok (.invokestatic 91, 3) := by decide +kernel
theorem dX4_pairExactly_43 : decode cX4_pairExactly 43 = .ok (.iaload, 1) := by decide +kernel
theorem dX4_pairExactly_44 : decode cX4_pairExactly 44 = .ok (.aload_n 0, 1) := by decide +kernel
theorem dX4_pairExactly_45 : decode cX4_pairExactly 45 = .ok (.getfield 9, 3) := by decide +kernel
theorem dX4_pairExactly_48 : decode cX4_pairExactly 48 = .ok (.iload_n 3, 1) := by decide +kernel
theorem dX4_pairExactly_49 : decode cX4_pairExactly 49 = .ok (.iaload, 1) := by decide +kernel
theorem dX4_pairExactly_50 : decode cX4_pairExactly 50 = .ok (.invokevirtual 119, 3) := by decide +kernel
theorem dX4_pairExactly_53 : decode cX4_pairExactly 53 = .ok (.iload_n 1, 1) := by decide +kernel
theorem dX4_pairExactly_54 : decode cX4_pairExactly 54 = .ok (.iload_n 1, 1) := by decide +kernel
theorem dX4_pairExactly_55 : decode cX4_pairExactly 55 = .ok (.iconst 1, 1) := by decide +kernel
theorem dX4_pairExactly_56 : decode cX4_pairExactly 56 = .ok (.isub, 1) := by decide +kernel
theorem dX4_pairExactly_57 : decode cX4_pairExactly 57 = .ok (.iand, 1) := by decide +kernel
theorem dX4_pairExactly_58 : decode cX4_pairExactly 58 = .ok (.iconst 1, 1) := by decide +kernel
theorem dX4_pairExactly_59 : decode cX4_pairExactly 59 = .ok (.iload_n 3, 1) := by decide +kernel
theorem dX4_pairExactly_60 : decode cX4_pairExactly 60 = .ok (.ishl, 1) := by decide +kernel
theorem dX4_pairExactly_61 : decode cX4_pairExactly 61 = .ok (.ixor, 1) := by decide +kernel
theorem dX4_pairExactly_62 : decode cX4_pairExactly 62 = .ok (.istore_n 1, 1) := by decide +kernel
theorem dX4_pairExactly_63 : decode cX4_pairExactly 63 = .ok (.iinc 2 1, 3) := by decide +kernel
theorem dX4_pairExactly_66 : decode cX4_pairExactly 66 = .ok (.goto (-55), 3) := by decide +kernel
theorem dX4_pairExactly_69 : decode cX4_pairExactly 69 = .ok (.return_, 1) := by decide +kernel
theorem dX4_pairInOrder_0 : decode cX4_pairInOrder 0 = .ok (.iconst 0, 1) := by decide +kernel
theorem dX4_pairInOrder_1 : decode cX4_pairInOrder 1 = .ok (.istore_n 1, 1) := by decide +kernel
theorem dX4_pairInOrder_2 : decode cX4_pairInOrder 2 = .ok (.iload_n 1, 1) := by decide +kernel
theorem dX4_pairInOrder_3 : decode cX4_pairInOrder 3 = .ok (.iconst 1, 1) := by decide +kernel
theorem dX4_pairInOrder_4 : decode cX4_pairInOrder 4 = .ok (.iadd, 1) := by decide +kernel
theorem dX4_pairInOrder_5 : decode cX4_pairInOrder 5 = .ok (.aload_n 0, 1) := by decide +kernel
theorem dX4_pairInOrder_6 : decode cX4_pairInOrder 6 = .ok (.getfield 15, 3) := by decide +kernel
theorem dX4_pairInOrder_9 : decode cX4_pairInOrder 9 = .ok (.if_icmp .ge 27, 3) := by decide +kernel
theorem dX4_pairInOrder_12 : decode cX4_pairInOrder 12 = .ok (.aload_n 0, 1) := by decide +kernel
theorem dX4_pairInOrder_13 : decode cX4_pairInOrder 13 = .ok (.aload_n 0, 1) := by decide +kernel
theorem dX4_pairInOrder_14 : decode cX4_pairInOrder 14 = .ok (.getfield 9, 3) := by decide +kernel
theorem dX4_pairInOrder_17 : decode cX4_pairInOrder 17 = .ok (.iload_n 1, 1) := by decide +kernel
theorem dX4_pairInOrder_18 : decode cX4_pairInOrder 18 = .ok (.iaload, 1) := by decide +kernel
theorem dX4_pairInOrder_19 : decode cX4_pairInOrder 19 = .ok (.aload_n 0, 1) := by decide +kernel
theorem dX4_pairInOrder_20 : decode cX4_pairInOrder 20 = .ok (.getfield 9, 3) := by decide +kernel
theorem dX4_pairInOrder_23 : decode cX4_pairInOrder 23 = .ok (.iload_n 1, 1) := by decide +kernel
theorem dX4_pairInOrder_24 : decode cX4_pairInOrder 24 = .ok (.iconst 1, 1) := by decide +kernel
theorem dX4_pairInOrder_25 : decode cX4_pairInOrder 25 = .ok (.iadd, 1) := by decide +kernel
theorem dX4_pairInOrder_26 : decode cX4_pairInOrder 26 = .ok (.iaload, 1) := by decide +kernel
theorem dX4_pairInOrder_27 : decode cX4_pairInOrder 27 = .ok (.invokevirtual 119, 3) := by decide +kernel
theorem dX4_pairInOrder_30 : decode cX4_pairInOrder 30 = .ok (.iinc 1 2, 3) := by decide +kernel
theorem dX4_pairInOrder_33 : decode cX4_pairInOrder 33 = .ok (.goto (-31), 3) := by decide +kernel
theorem dX4_pairInOrder_36 : decode cX4_pairInOrder 36 = .ok (.return_, 1) := by decide +kernel
theorem dX4_pairUp_0 : decode cX4_pairUp 0 = .ok (.aload_n 0, 1) := by decide +kernel
theorem dX4_pairUp_1 : decode cX4_pairUp 1 = .ok (.invokevirtual 100, 3) := by decide +kernel
theorem dX4_pairUp_4 : decode cX4_pairUp 4 = .ok (.pop, 1) := by decide +kernel
theorem dX4_pairUp_5 : decode cX4_pairUp 5 = .ok (.aload_n 0, 1) := by decide +kernel
theorem dX4_pairUp_6 : decode cX4_pairUp 6 = .ok (.iconst 0, 1) := by decide +kernel
theorem dX4_pairUp_7 : decode cX4_pairUp 7 = .ok (.putfield 40, 3) := by decide +kernel
theorem dX4_pairUp_10 : decode cX4_pairUp 10 = .ok (.aload_n 0, 1) := by decide +kernel
theorem dX4_pairUp_11 : decode cX4_pairUp 11 = .ok (.iconst 0, 1) := by decide +kernel
theorem dX4_pairUp_12 : decode cX4_pairUp 12 = .ok (.putfield 43, 3) := by decide +kernel
theorem dX4_pairUp_15 : decode cX4_pairUp 15 = .ok (.aload_n 0, 1) := by decide +kernel
theorem dX4_pairUp_16 : decode cX4_pairUp 16 = .ok (.getfield 15, 3) := by decide +kernel
theorem dX4_pairUp_19 : decode cX4_pairUp 19 = .ok (.bipush 14, 2) := by decide +kernel
theorem dX4_pairUp_21 : decode cX4_pairUp 21 = .ok (.if_icmp .gt 14, 3) := by decide +kernel
theorem dX4_pairUp_24 : decode cX4_pairUp 24 = .ok (.aload_n 0, 1) := by decide +kernel
theorem dX4_pairUp_25 : decode cX4_pairUp 25 = .ok (.invokevirtual 104, 3) := by decide +kernel
theorem dX4_pairUp_28 : decode cX4_pairUp 28 = .ok (.aload_n 0, 1) := by decide +kernel
theorem dX4_pairUp_29 : decode cX4_pairUp 29 = .ok (.invokevirtual 107, 3) := by decide +kernel
theorem dX4_pairUp_32 : decode cX4_pairUp 32 = .ok (.goto 11, 3) := by decide +kernel
theorem dX4_pairUp_35 : decode cX4_pairUp 35 = .ok (.aload_n 0, 1) := by decide +kernel
theorem dX4_pairUp_36 : decode cX4_pairUp 36 = .ok (.invokevirtual 110, 3) := by decide +kernel
theorem dX4_pairUp_39 : decode cX4_pairUp 39 = .ok (.aload_n 0, 1) := by decide +kernel
theorem dX4_pairUp_40 : decode cX4_pairUp 40 = .ok (.invokevirtual 113, 3) := by decide +kernel
theorem dX4_pairUp_43 : decode cX4_pairUp 43 = .ok (.return_, 1) := by decide +kernel
theorem dX4_stand_0 : decode cX4_stand 0 = .ok (.aload_n 0, 1) := by decide +kernel
theorem dX4_stand_1 : decode cX4_stand 1 = .ok (.getfield 34, 3) := by decide +kernel
theorem dX4_stand_4 : decode cX4_stand 4 = .ok (.iload_n 1, 1) := by decide +kernel
theorem dX4_stand_5 : decode cX4_stand 5 = .ok (.iload_n 2, 1) := by decide +kernel
theorem dX4_stand_6 : decode cX4_stand 6 = .ok (.iload_n 3, 1) := by decide +kernel
theorem dX4_stand_7 : decode cX4_stand 7 = .ok (.invokestatic 95, 3) := by decide +kernel
theorem dX4_stand_10 : decode cX4_stand 10 = .ok (.iastore, 1) := by decide +kernel
theorem dX4_stand_11 : decode cX4_stand 11 = .ok (.aload_n 0, 1) := by decide +kernel
theorem dX4_stand_12 : decode cX4_stand 12 = .ok (.getfield 37, 3) := by decide +kernel
theorem dX4_stand_15 : decode cX4_stand 15 = .ok (.iload_n 1, 1) := by decide +kernel
theorem dX4_stand_16 : decode cX4_stand 16 = .ok (.iload_n 2, 1) := by decide +kernel
theorem dX4_stand_17 : decode cX4_stand 17 = .ok (.iload_n 3, 1) := by decide +kernel
theorem dX4_stand_18 : decode cX4_stand 18 = .ok (.invokestatic 135, 3) := by decide +kernel
theorem dX4_stand_21 : decode cX4_stand 21 = .ok (.iastore, 1) := by decide +kernel
theorem dX4_stand_22 : decode cX4_stand 22 = .ok (.return_, 1) := by decide +kernel
theorem dX5_addDrive_0 : decode cX5_addDrive 0 = .ok (.aload_n 0, 1) := by decide +kernel
theorem dX5_addDrive_1 : decode cX5_addDrive 1 = .ok (.getfield 14, 3) := by decide +kernel
theorem dX5_addDrive_4 : decode cX5_addDrive 4 = .ok (.getfield 62, 3) := by decide +kernel
theorem dX5_addDrive_7 : decode cX5_addDrive 7 = .ok (.sipush 2000, 3) := by decide +kernel
theorem dX5_addDrive_10 : decode cX5_addDrive 10 = .ok (.if_icmp .lt 6, 3) := by decide +kernel
theorem dX5_addDrive_13 : decode cX5_addDrive 13 = .ok (.bipush (-3), 2) := by decide +kernel
theorem dX5_addDrive_15 : decode cX5_addDrive 15 = .ok (.ireturn, 1) := by decide +kernel
theorem dX5_addDrive_16 : decode cX5_addDrive 16 = .ok (.aload_n 0, 1) := by decide +kernel
theorem dX5_addDrive_17 : decode cX5_addDrive 17 = .ok (.getfield 27, 3) := by decide +kernel
theorem dX5_addDrive_20 : decode cX5_addDrive 20 = .ok (.iload_n 1, 1) := by decide +kernel
theorem dX5_addDrive_21 : decode cX5_addDrive 21 = .ok (.iaload, 1) := by decide +kernel
theorem dX5_addDrive_22 : decode cX5_addDrive 22 = .ok (.aload_n 0, 1) := by decide +kernel
theorem dX5_addDrive_23 : decode cX5_addDrive 23 = .ok (.getfield 47, 3) := by decide +kernel
theorem dX5_addDrive_26 : decode cX5_addDrive 26 = .ok (.if_icmp .ne 12, 3) := by decide +kernel
theorem dX5_addDrive_29 : decode cX5_addDrive 29 = .ok (.aload_n 0, 1) := by decide +kernel
theorem dX5_addDrive_30 : decode cX5_addDrive 30 = .ok (.getfield 30, 3) := by decide +kernel
theorem dX5_addDrive_33 : decode cX5_addDrive 33 = .ok (.iload_n 1, 1) := by decide +kernel
theorem dX5_addDrive_34 : decode cX5_addDrive 34 = .ok (.iaload, 1) := by decide +kernel
theorem dX5_addDrive_35 : decode cX5_addDrive 35 = .ok (.goto 9, 3) := by decide +kernel
theorem dX5_addDrive_38 : decode cX5_addDrive 38 = .ok (.aload_n 0, 1) := by decide +kernel
theorem dX5_addDrive_39 : decode cX5_addDrive 39 = .ok (.getfield 27, 3) := by decide +kernel
theorem dX5_addDrive_42 : decode cX5_addDrive 42 = .ok (.iload_n 1, 1) := by decide +kernel
theorem dX5_addDrive_43 : decode cX5_addDrive 43 = .ok (.iaload, 1) := by decide +kernel
theorem dX5_addDrive_44 : decode cX5_addDrive 44 = .ok (.istore_n 3, 1) := by decide +kernel
theorem dX5_addDrive_45 : decode cX5_addDrive 45 = .ok (.aload_n 0, 1) := by decide +kernel
theorem dX5_addDrive_46 : decode cX5_addDrive 46 = .ok (.getfield 14, 3) := by decide +kernel
theorem dX5_addDrive_49 : decode cX5_addDrive 49 = .ok (.invokevirtual 101, 3) := by decide +kernel
theorem dX5_addDrive_52 : decode cX5_addDrive 52 = .ok (.istore 4, 2) := by decide +kernel
theorem dX5_addDrive_54 : decode cX5_addDrive 54 = .ok (.aload_n 0, 1) := by decide +kernel
theorem dX5_addDrive_55 : decode cX5_addDrive 55 = .ok (.getfield 14, 3) := by decide +kernel
theorem dX5_addDrive_58 : decode cX5_addDrive 58 = .ok (.iload 4, 2) := by decide +kernel
theorem dX5_addDrive_60 : decode cX5_addDrive 60 = .ok (.iconst 0, 1) := by decide +kernel
theorem dX5_addDrive_61 : decode cX5_addDrive 61 = .ok (.iload_n 1, 1) := by decide +kernel
theorem dX5_addDrive_62 : decode cX5_addDrive 62 = .ok (.invokevirtual 105, 3) := by decide +kernel
theorem dX5_addDrive_65 : decode cX5_addDrive 65 = .ok (.aload_n 0, 1) := by decide +kernel
theorem dX5_addDrive_66 : decode cX5_addDrive 66 = .ok (.getfield 14, 3) := by decide +kernel
theorem dX5_addDrive_69 : decode cX5_addDrive 69 = .ok (.iload 4, 2) := by decide +kernel
theorem dX5_addDrive_71 : decode cX5_addDrive 71 = .ok (.iconst 1, 1) := by decide +kernel
theorem dX5_addDrive_72 : decode cX5_addDrive 72 = .ok (.aload_n 0, 1) := by decide +kernel
theorem dX5_addDrive_73 : decode cX5_addDrive 73 = .ok (.getfield 47, 3) := by decide +kernel
theorem dX5_addDrive_76 : decode cX5_addDrive 76 = .ok (.invokevirtual 105, 3) := by decide +kernel
theorem dX5_addDrive_79 : decode cX5_addDrive 79 = .ok (.aload_n 0, 1) := by decide +kernel
theorem dX5_addDrive_80 : decode cX5_addDrive 80 = .ok (.getfield 14, 3) := by decide +kernel
theorem dX5_addDrive_83 : decode cX5_addDrive 83 = .ok (.iload 4, 2) := by decide +kernel
theorem dX5_addDrive_85 : decode cX5_addDrive 85 = .ok (.iconst 2, 1) := by decide +kernel
theorem dX5_addDrive_86 : decode cX5_addDrive 86 = .ok (.iload_n 3, 1) := by decide +kernel
theorem dX5_addDrive_87 : decode cX5_addDrive 87 = .ok (.invokevirtual 105, 3) := by decide +kernel
theorem dX5_addDrive_90 : decode cX5_addDrive 90 = .ok (.aload_n 0, 1) := by decide +kernel
theorem dX5_addDrive_91 : decode cX5_addDrive 91 = .ok (.getfield 14, 3) := by decide +kernel
theorem dX5_addDrive_94 : decode cX5_addDrive 94 = .ok (.iload 4, 2) := by decide +kernel
theorem dX5_addDrive_96 : decode cX5_addDrive 96 = .ok (.iconst 3, 1) := by decide +kernel
theorem dX5_addDrive_97 : decode cX5_addDrive 97 = .ok (.iload_n 2, 1) := by decide +kernel
theorem dX5_addDrive_98 : decode cX5_addDrive 98 = .ok (.ifCond .eq 7, 3) := by decide +kernel
theorem dX5_addDrive_101 : decode cX5_addDrive 101 = .ok (.iconst 1, 1) := by decide +kernel
theorem dX5_addDrive_102 : decode cX5_addDrive 102 = .ok (.goto 4, 3) := by decide +kernel
theorem dX5_addDrive_105 : decode cX5_addDrive 105 = .ok (.iconst 0, 1) := by decide +kernel
theorem dX5_addDrive_106 : decode cX5_addDrive 106 = .ok (.invokevirtual 105, 3) := by decide +kernel
theorem dX5_addDrive_109 : decode cX5_addDrive 109 = .ok (.aload_n 0, 1) := by decide +kernel
theorem dX5_addDrive_110 : decode cX5_addDrive 110 = .ok (.getfield 20, 3) := by decide +kernel
theorem dX5_addDrive_113 : decode cX5_addDrive 113 = .ok (.iconst 1, 1) := by decide +kernel
theorem dX5_addDrive_114 : decode cX5_addDrive 114 = .ok (.dup2, 1) := by decide +kernel
theorem dX5_addDrive_115 : decode cX5_addDrive 115 = .ok (.iaload, 1) := by decide +kernel
theorem dX5_addDrive_116 : decode cX5_addDrive 116 = .ok (.aload_n 0, 1) := by decide +kernel
theorem dX5_addDrive_117 : decode cX5_addDrive 117 = .ok (.getfield 50, 3) := by decide +kernel
theorem dX5_addDrive_120 : decode cX5_addDrive 120 = .ok (.getfield 86, 3) := by decide +kernel
theorem dX5_addDrive_123 : decode cX5_addDrive 123 = .ok (.iload_n 1, 1) := by decide +kernel
theorem dX5_addDrive_124 : decode cX5_addDrive 124 = .ok (.bipush 6, 2) := by decide +kernel
theorem dX5_addDrive_126 : decode cX5_addDrive 126 = .ok (.invokevirtual 94, 3) := by decide +kernel
theorem dX5_addDrive_129 : decode cX5_addDrive 129 = .ok (.iadd, 1) := by decide +kernel
theorem dX5_addDrive_130 : decode cX5_addDrive 130 = .ok (.iastore, 1) := by decide +kernel
theorem dX5_addDrive_131 : decode cX5_addDrive 131 = .ok (.iload_n 2, 1) := by decide +kernel
theorem dX5_addDrive_132 : decode cX5_addDrive 132 = .ok (.ifCond .eq 23, 3) := by decide +kernel
theorem dX5_addDrive_135 : decode cX5_addDrive 135 = .ok (.aload_n 0, 1) := by decide +kernel
theorem dX5_addDrive_136 : decode cX5_addDrive 136 = .ok (.getfield 20, 3) := by decide +kernel
theorem dX5_addDrive_139 : decode cX5_addDrive 139 = .ok (.iconst 2, 1) := by decide +kernel
theorem dX5_addDrive_140 : decode cX5_addDrive 140 = .ok (.dup2, 1) := by decide +kernel
theorem dX5_addDrive_141 : decode cX5_addDrive 141 = .ok (.iaload, 1) := by decide +kernel
theorem dX5_addDrive_142 : decode cX5_addDrive 142 = .ok (.iconst 1, 1) := by decide +kernel
theorem dX5_addDrive_143 : decode cX5_addDrive 143 = .ok (.iadd, 1) := by decide +kernel
theorem dX5_addDrive_144 : decode cX5_addDrive 144 = .ok (.iastore, 1) := by decide +kernel
theorem dX5_addDrive_145 : decode cX5_addDrive 145 = .ok (.aload_n 0, 1) := by decide +kernel
theorem dX5_addDrive_146 : decode cX5_addDrive 146 = .ok (.getfield 40, 3) := by decide +kernel
theorem dX5_addDrive_149 : decode cX5_addDrive 149 = .ok (.iload_n 1, 1) := by decide +kernel
theorem dX5_addDrive_150 : decode cX5_addDrive 150 = .ok (.dup2, 1) := by decide +kernel
theorem dX5_addDrive_151 : decode cX5_addDrive 151 = .ok (.iaload, 1) := by decide +kernel
theorem dX5_addDrive_152 : decode cX5_addDrive 152 = .ok (.iconst 1, 1) := by decide +kernel
theorem dX5_addDrive_153 : decode cX5_addDrive 153 = .ok (.isub, 1) := by decide +kernel
theorem dX5_addDrive_154 : decode cX5_addDrive 154 = .ok (.iastore, 1) := by decide +kernel
theorem dX5_addDrive_155 : decode cX5_addDrive 155 = .ok (.aload_n 0, 1) := by decide +kernel
theorem dX5_addDrive_156 : decode cX5_addDrive 156 = .ok (.iload_n 3, 1) := by decide +kernel
theorem dX5_addDrive_157 : decode cX5_addDrive 157 = .ok (.putfield 47, 3) := by decide +kernel
theorem dX5_addDrive_160 : decode cX5_addDrive 160 = .ok (.iconst 0, 1) := by decide +kernel
theorem dX5_addDrive_161 : decode cX5_addDrive 161 = .ok (.ireturn, 1) := by decide +kernel
theorem dX5_addPairs_0 : decode cX5_addPairs 0 = .ok (.aload_n 0, 1) := by decide +kernel
theorem dX5_addPairs_1 : decode cX5_addPairs 1 = .ok (.getfield 20, 3) := by decide +kernel
theorem dX5_addPairs_4 : decode cX5_addPairs 4 = .ok (.iconst 5, 1) := by decide +kernel
theorem dX5_addPairs_5 : decode cX5_addPairs 5 = .ok (.aload_n 0, 1) := by decide +kernel
theorem dX5_addPairs_6 : decode cX5_addPairs 6 = .ok (.getfield 58, 3) := by decide +kernel
theorem dX5_addPairs_9 : decode cX5_addPairs 9 = .ok (.getfield 165, 3) := by decide +kernel
theorem dX5_addPairs_12 : decode cX5_addPairs 12 = .ok (.iastore, 1) := by decide +kernel
theorem dX5_addPairs_13 : decode cX5_addPairs 13 = .ok (.aload_n 0, 1) := by decide +kernel
theorem dX5_addPairs_14 : decode cX5_addPairs 14 = .ok (.getfield 20, 3) := by decide +kernel
theorem dX5_addPairs_17 : decode cX5_addPairs 17 = .ok (.iconst 4, 1) := by decide +kernel
theorem dX5_addPairs_18 : decode cX5_addPairs 18 = .ok (.aload_n 0, 1) := by decide +kernel
theorem dX5_addPairs_19 : decode cX5_addPairs 19 = .ok (.getfield 58, 3) := by decide +kernel
theorem dX5_addPairs_22 : decode cX5_addPairs 22 = .ok (.getfield 168, 3) := by decide +kernel
theorem dX5_addPairs_25 : decode cX5_addPairs 25 = .ok (.iastore, 1) := by decide +kernel
theorem dX5_addPairs_26 : decode cX5_addPairs 26 = .ok (.iconst 0, 1) := by decide +kernel
theorem dX5_addPairs_27 : decode cX5_addPairs 27 = .ok (.istore_n 1, 1) := by decide +kernel
theorem dX5_addPairs_28 : decode cX5_addPairs 28 = .ok (.iload_n 1, 1) := by decide +kernel
theorem dX5_addPairs_29 : decode cX5_addPairs 29 = .ok (.aload_n 0, 1) := by decide +kernel
theorem dX5_addPairs_30 : decode cX5_addPairs 30 = .ok (.getfield 58, 3) := by decide +kernel
theorem dX5_addPairs_33 : decode cX5_addPairs 33 = .ok (.getfield 165, 3) := by decide +kernel
theorem dX5_addPairs_36 : decode cX5_addPairs 36 = .ok (.if_icmp .ge 50, 3) := by decide +kernel
theorem dX5_addPairs_39 : decode cX5_addPairs 39 = .ok (.aload_n 0, 1) := by decide +kernel
theorem dX5_addPairs_40 : decode cX5_addPairs 40 = .ok (.getfield 58, 3) := by decide +kernel
theorem dX5_addPairs_43 : decode cX5_addPairs 43 = .ok (.getfield 171, 3) := by decide +kernel
theorem dX5_addPairs_46 : decode cX5_addPairs 46 = .ok (.iload_n 1, 1) := by decide +kernel
theorem dX5_addPairs_47 : decode cX5_addPairs 47 = .ok (.iaload, 1) := by decide +kernel
theorem dX5_addPairs_48 : decode cX5_addPairs 48 = .ok (.istore_n 2, 1) := by decide +kernel
theorem dX5_addPairs_49 : decode cX5_addPairs 49 = .ok (.aload_n 0, 1) := by decide +kernel
theorem dX5_addPairs_50 : decode cX5_addPairs 50 = .ok (.getfield 58, 3) := by decide +kernel
theorem dX5_addPairs_53 : decode cX5_addPairs 53 = .ok (.getfield 174, 3) := by decide +kernel
theorem dX5_addPairs_56 : decode cX5_addPairs 56 = .ok (.iload_n 1, 1) := by decide +kernel
theorem dX5_addPairs_57 : decode cX5_addPairs 57 = .ok (.iaload, 1) := by decide +kernel
theorem dX5_addPairs_58 : decode cX5_addPairs 58 = .ok (.istore_n 3, 1) := by decide +kernel
theorem dX5_addPairs_59 : decode cX5_addPairs 59 = .ok (.aload_n 0, 1) := by decide +kernel
theorem dX5_addPairs_60 : decode cX5_addPairs 60 = .ok (.getfield 24, 3) := by decide +kernel
theorem dX5_addPairs_63 : decode cX5_addPairs 63 = .ok (.iload_n 2, 1) := by decide +kernel
theorem dX5_addPairs_64 : decode cX5_addPairs 64 = .ok (.iload_n 3, 1) := by decide +kernel
theorem dX5_addPairs_65 : decode cX5_addPairs 65 = .ok (.iastore, 1) := by decide +kernel
theorem dX5_addPairs_66 : decode cX5_addPairs 66 = .ok (.aload_n 0, 1) := by decide +kernel
theorem dX5_addPairs_67 : decode cX5_addPairs 67 = .ok (.getfield 24, 3) := by decide +kernel
theorem dX5_addPairs_70 : decode cX5_addPairs 70 = .ok (.iload_n 3, 1) := by decide +kernel
theorem dX5_addPairs_71 : decode cX5_addPairs 71 = .ok (.iload_n 2, 1) := by decide +kernel
theorem dX5_addPairs_72 : decode cX5_addPairs 72 = .ok (.iastore, 1) := by decide +kernel
theorem dX5_addPairs_73 : decode cX5_addPairs 73 = .ok (.aload_n 0, 1) := by decide +kernel
theorem dX5_addPairs_74 : decode cX5_addPairs 74 = .ok (.iload_n 2, 1) := by decide +kernel
theorem dX5_addPairs_75 : decode cX5_addPairs 75 = .ok (.iload_n 3, 1) := by decide +kernel
theorem dX5_addPairs_76 : decode cX5_addPairs 76 = .ok (.iconst 1, 1) := by decide +kernel
theorem dX5_addPairs_77 : decode cX5_addPairs 77 = .ok (.invokevirtual 162, 3) := by decide +kernel
theorem dX5_addPairs_80 : decode cX5_addPairs 80 = .ok (.iinc 1 1, 3) := by decide +kernel
theorem dX5_addPairs_83 : decode cX5_addPairs 83 = .ok (.goto (-55), 3) := by decide +kernel
theorem dX5_addPairs_86 : decode cX5_addPairs 86 = .ok (.return_, 1) := by decide +kernel
theorem dX5_addWay_0 : decode cX5_addWay 0 = .ok (.iload_n 1, 1) := by decide +kernel
theorem dX5_addWay_1 : decode cX5_addWay 1 = .ok (.istore 4, 2) := by decide +kernel
theorem dX5_addWay_3 : decode cX5_addWay 3 = .ok (.aload_n 0, 1) := by decide +kernel
theorem dX5_addWay_4 : decode cX5_addWay 4 = .ok (.getfield 54, 3) := by decide +kernel
theorem dX5_addWay_7 : decode cX5_addWay 7 = .ok (.iload 4, 2) := by decide +kernel
theorem dX5_addWay_9 : decode cX5_addWay 9 = .ok (.iload_n 2, 1) := by decide +kernel
theorem dX5_addWay_10 : decode cX5_addWay 10 = .ok (.invokevirtual 177, 3) := by decide +kernel
theorem dX5_addWay_13 : decode cX5_addWay 13 = .ok (.istore 5, 2) := by decide +kernel
theorem dX5_addWay_15 : decode cX5_addWay 15 = .ok (.iconst 0, 1) := by decide +kernel
theorem dX5_addWay_16 : decode cX5_addWay 16 = .ok (.istore 6, 2) := by decide +kernel
theorem dX5_addWay_18 : decode cX5_addWay 18 = .ok (.iload 6, 2) := by decide +kernel
theorem dX5_addWay_20 : decode cX5_addWay 20 = .ok (.bipush 60, 2) := by decide +kernel
theorem dX5_addWay_22 : decode cX5_addWay 22 = .ok (.if_icmp .ge 51, 3) := by decide +kernel
theorem dX5_addWay_25 : decode cX5_addWay 25 = .ok (.iload 5, 2) := by decide +kernel
theorem dX5_addWay_27 : decode cX5_addWay 27 = .ok (.iconst (-1), 1) := by decide +kernel
theorem dX5_addWay_28 : decode cX5_addWay 28 = .ok (.if_icmp .eq 45, 3) := by decide +kernel
theorem dX5_addWay_31 : decode cX5_addWay 31 = .ok (.aload_n 0, 1) := by decide +kernel
theorem dX5_addWay_32 : decode cX5_addWay 32 = .ok (.getfield 37, 3) := by decide +kernel
theorem dX5_addWay_35 : decode cX5_addWay 35 = .ok (.iload 5, 2) := by decide +kernel
theorem dX5_addWay_37 : decode cX5_addWay 37 = .ok (.dup2, 1) := by decide +kernel
theorem dX5_addWay_38 : decode cX5_addWay 38 = .ok (.iaload, 1) := by decide +kernel
theorem dX5_addWay_39 : decode cX5_addWay 39 = .ok (.iload_n 3, 1) := by decide +kernel
theorem dX5_addWay_40 : decode cX5_addWay 40 = .ok (.iadd, 1) := by decide +kernel
theorem dX5_addWay_41 : decode cX5_addWay 41 = .ok (.iastore, 1) := by decide +kernel
theorem dX5_addWay_42 : decode cX5_addWay 42 = .ok (.aload_n 0, 1) := by decide +kernel
theorem dX5_addWay_43 : decode cX5_addWay 43 = .ok (.getfield 50, 3) := by decide +kernel
theorem dX5_addWay_46 : decode cX5_addWay 46 = .ok (.iload 5, 2) := by decide +kernel
theorem dX5_addWay_48 : decode cX5_addWay 48 = .ok (.iload 4, 2) := by decide +kernel
theorem dX5_addWay_50 : decode cX5_addWay 50 = .ok (.invokevirtual 180, 3) := by decide +kernel
theorem dX5_addWay_53 : decode cX5_addWay 53 = .ok (.istore 4, 2) := by decide +kernel
theorem dX5_addWay_55 : decode cX5_addWay 55 = .ok (.aload_n 0, 1) := by decide +kernel
theorem dX5_addWay_56 : decode cX5_addWay 56 = .ok (.getfield 54, 3) := by decide +kernel
theorem dX5_addWay_59 : decode cX5_addWay 59 = .ok (.iload 4, 2) := by decide +kernel
theorem dX5_addWay_61 : decode cX5_addWay 61 = .ok (.iload_n 2, 1) := by decide +kernel
theorem dX5_addWay_62 : decode cX5_addWay 62 = .ok (.invokevirtual 177, 3) := by decide +kernel
theorem dX5_addWay_65 : decode cX5_addWay 65 = .ok (.istore 5, 2) := by decide +kernel
theorem dX5_addWay_67 : decode cX5_addWay 67 = .ok (.iinc 6 1, 3) := by decide +kernel
theorem dX5_addWay_70 : decode cX5_addWay 70 = .ok (.goto (-52), 3) := by decide +kernel
theorem dX5_addWay_73 : decode cX5_addWay 73 = .ok (.return_, 1) := by decide +kernel
theorem dX5_begin_0 : decode cX5_begin 0 = .ok (.aload_n 0, 1) := by decide +kernel
theorem dX5_begin_1 : decode cX5_begin 1 = .ok (.getfield 14, 3) := by decide +kernel
theorem dX5_begin_4 : decode cX5_begin 4 = .ok (.iconst 0, 1) := by decide +kernel
theorem dX5_begin_5 : decode cX5_begin 5 = .ok (.putfield 62, 3) := by decide +kernel
theorem dX5_begin_8 : decode cX5_begin 8 = .ok (.aload_n 0, 1) := by decide +kernel
theorem dX5_begin_9 : decode cX5_begin 9 = .ok (.iconst 0, 1) := by decide +kernel
theorem dX5_begin_10 : decode cX5_begin 10 = .ok (.putfield 47, 3) := by decide +kernel
theorem dX5_begin_13 : decode cX5_begin 13 = .ok (.aload_n 0, 1) := by decide +kernel
theorem dX5_begin_14 : decode cX5_begin 14 = .ok (.getfield 20, 3) := by decide +kernel
theorem dX5_begin_17 : decode cX5_begin 17 = .ok (.iconst 0, 1) := by decide +kernel
theorem dX5_begin_18 : decode cX5_begin 18 = .ok (.invokestatic 80, 3) := by decide +kernel
theorem dX5_begin_21 : decode cX5_begin 21 = .ok (.aload_n 0, 1) := by decide +kernel
theorem dX5_begin_22 : decode cX5_begin 22 = .ok (.getfield 20, 3) := by decide +kernel
theorem dX5_begin_25 : decode cX5_begin 25 = .ok (.bipush 6, 2) := by decide +kernel
theorem dX5_begin_27 : decode cX5_begin 27 = .ok (.iload_n 1, 1) := by decide +kernel
theorem dX5_begin_28 : decode cX5_begin 28 = .ok (.iastore, 1) := by decide +kernel
theorem dX5_begin_29 : decode cX5_begin 29 = .ok (.aload_n 0, 1) := by decide +kernel
theorem dX5_begin_30 : decode cX5_begin 30 = .ok (.getfield 24, 3) := by decide +kernel
theorem dX5_begin_33 : decode cX5_begin 33 = .ok (.iconst (-1), 1) := by decide +kernel
theorem dX5_begin_34 : decode cX5_begin 34 = .ok (.invokestatic 80, 3) := by decide +kernel
theorem dX5_begin_37 : decode cX5_begin 37 = .ok (.aload_n 0, 1) := by decide +kernel
theorem dX5_begin_38 : decode cX5_begin 38 = .ok (.aload_n 0, 1) := by decide +kernel
theorem dX5_begin_39 : decode cX5_begin 39 = .ok (.getfield 50, 3) := by decide +kernel
theorem dX5_begin_42 : decode cX5_begin 42 = .ok (.getfield 86, 3) := by decide +kernel
theorem dX5_begin_45 : decode cX5_begin 45 = .ok (.getfield 62, 3) := by decide +kernel
theorem dX5_begin_48 : decode cX5_begin 48 = .ok (.sipush 150, 3) := by decide +kernel
theorem dX5_begin_51 : decode cX5_begin 51 = .ok (.invokestatic 88, 3) := by decide +kernel
theorem dX5_begin_54 : decode cX5_begin 54 = .ok (.putfield 33, 3) := by decide +kernel
theorem dX5_begin_57 : decode cX5_begin 57 = .ok (.iconst 0, 1) := by decide +kernel
theorem dX5_begin_58 : decode cX5_begin 58 = .ok (.istore_n 2, 1) := by decide +kernel
theorem dX5_begin_59 : decode cX5_begin 59 = .ok (.iload_n 2, 1) := by decide +kernel
theorem dX5_begin_60 : decode cX5_begin 60 = .ok (.aload_n 0, 1) := by decide +kernel
theorem dX5_begin_61 : decode cX5_begin 61 = .ok (.getfield 33, 3) := by decide +kernel
theorem dX5_begin_64 : decode cX5_begin 64 = .ok (.if_icmp .ge 73, 3) := by decide +kernel
theorem dX5_begin_67 : decode cX5_begin 67 = .ok (.aload_n 0, 1) := by decide +kernel
theorem dX5_begin_68 : decode cX5_begin 68 = .ok (.getfield 27, 3) := by decide +kernel
theorem dX5_begin_71 : decode cX5_begin 71 = .ok (.iload_n 2, 1) := by decide +kernel
theorem dX5_begin_72 : decode cX5_begin 72 = .ok (.aload_n 0, 1) := by decide +kernel
theorem dX5_begin_73 : decode cX5_begin 73 = .ok (.getfield 50, 3) := by decide +kernel
theorem dX5_begin_76 : decode cX5_begin 76 = .ok (.getfield 86, 3) := by decide +kernel
theorem dX5_begin_79 : decode cX5_begin 79 = .ok (.iload_n 2, 1) := by decide +kernel
theorem dX5_begin_80 : decode cX5_begin 80 = .ok (.bipush 7, 2) := by decide +kernel
theorem dX5_begin_82 : decode cX5_begin 82 = .ok (.invokevirtual 94, 3) := by decide +kernel
theorem dX5_begin_85 : decode cX5_begin 85 = .ok (.iastore, 1) := by decide +kernel
theorem dX5_begin_86 : decode cX5_begin 86 = .ok (.aload_n 0, 1) := by decide +kernel
theorem dX5_begin_87 : decode cX5_begin 87 = .ok (.getfield 30, 3) := by decide +kernel
theorem dX5_begin_90 : decode cX5_begin 90 = .ok (.iload_n 2, 1) := by decide +kernel
theorem dX5_begin_91 : decode cX5_begin 91 = .ok (.aload_n 0, 1) := by decide +kernel
theorem dX5_begin_92 : decode cX5_begin 92 = .ok (.getfield 50, 3) := by decide +kernel
theorem dX5_begin_95 : decode cX5_begin 95 = .ok (.getfield 86, 3) := by decide +kernel
theorem dX5_begin_98 : decode cX5_begin 98 = .ok (.iload_n 2, 1) := by decide +kernel
theorem dX5_begin_99 : decode cX5_begin 99 = .ok (.bipush 8, 2) := by decide +kernel
theorem dX5_begin_101 : decode cX5_begin 101 = .ok (.invokevirtual 94, 3) := by decide +kernel
theorem dX5_begin_104 : decode cX5_begin 104 = .ok (.iastore, 1) := by decide +kernel
theorem dX5_begin_105 : decode cX5_begin 105 = .ok (.aload_n 0, 1) := by decide +kernel
theorem dX5_begin_106 : decode cX5_begin 106 = .ok (.getfield 40, 3) := by decide +kernel
theorem dX5_begin_109 : decode cX5_begin 109 = .ok (.iload_n 2, 1) := by decide +kernel
theorem dX5_begin_110 : decode cX5_begin 110 = .ok (.aload_n 0, 1) := by decide +kernel
theorem dX5_begin_111 : decode cX5_begin 111 = .ok (.getfield 50, 3) := by decide +kernel
theorem dX5_begin_114 : decode cX5_begin 114 = .ok (.iload_n 2, 1) := by decide +kernel
theorem dX5_begin_115 : decode cX5_begin 115 = .ok (.invokevirtual 97, 3) := by decide +kernel
theorem dX5_begin_118 : decode cX5_begin 118 = .ok (.iastore, 1) := by decide +kernel
theorem dX5_begin_119 : decode cX5_begin 119 = .ok (.aload_n 0, 1) := by decide +kernel
theorem dX5_begin_120 : decode cX5_begin 120 = .ok (.getfield 37, 3) := by decide +kernel
theorem dX5_begin_123 : decode cX5_begin 123 = .ok (.iload_n 2, 1) := by decide +kernel
theorem dX5_begin_124 : decode cX5_begin 124 = .ok (.aload_n 0, 1) := by decide +kernel
theorem dX5_begin_125 : decode cX5_begin 125 = .ok (.getfield 40, 3) := by decide +kernel
theorem dX5_begin_128 : decode cX5_begin 128 = .ok (.iload_n 2, 1) := by decide +kernel
theorem dX5_begin_129 : decode cX5_begin 129 = .ok (.iaload, 1) := by decide +kernel
theorem dX5_begin_130 : decode cX5_begin 130 = .ok (.iastore, 1) := by decide +kernel
theorem dX5_begin_131 : decode cX5_begin 131 = .ok (.iinc 2 1, 3) := by decide +kernel
theorem dX5_begin_134 : decode cX5_begin 134 = .ok (.goto (-75), 3) := by decide +kernel
theorem dX5_begin_137 : decode cX5_begin 137 = .ok (.return_, 1) := by decide +kernel
theorem dX5_driveAll_0 : decode cX5_driveAll 0 = .ok (.iconst 0, 1) := by decide +kernel
theorem dX5_driveAll_1 : decode cX5_driveAll 1 = .ok (.istore_n 2, 1) := by decide +kernel
theorem dX5_driveAll_2 : decode cX5_driveAll 2 = .ok (.iload_n 2, 1) := by decide +kernel
theorem dX5_driveAll_3 : decode cX5_driveAll 3 = .ok (.iload_n 1, 1) := by decide +kernel
theorem dX5_driveAll_4 : decode cX5_driveAll 4 = .ok (.if_icmp .ge 40, 3) := by decide +kernel
theorem dX5_driveAll_7 : decode cX5_driveAll 7 = .ok (.aload_n 0, 1) := by decide +kernel
theorem dX5_driveAll_8 : decode cX5_driveAll 8 = .ok (.invokevirtual 183, 3) := by decide +kernel
theorem dX5_driveAll_11 : decode cX5_driveAll 11 = .ok (.istore_n 3, 1) := by decide +kernel
theorem dX5_driveAll_12 : decode cX5_driveAll 12 = .ok (.iload_n 3, 1) := by decide +kernel
theorem dX5_driveAll_13 : decode cX5_driveAll 13 = .ok (.iconst (-1), 1) := by decide +kernel
theorem dX5_driveAll_14 : decode cX5_driveAll 14 = .ok (.if_icmp .ne 4, 3) := by decide +kernel
theorem dX5_driveAll_17 : decode cX5_driveAll 17 = .ok (.return_, 1) := by decide +kernel
theorem dX5_driveAll_18 : decode cX5_driveAll 18 = .ok (.aload_n 0, 1) := by decide +kernel
theorem dX5_driveAll_19 : decode cX5_driveAll 19 = .ok (.iload_n 3, 1) := by decide +kernel
theorem dX5_driveAll_20 : decode cX5_driveAll 20 = .ok (.aload_n 0, 1) := by decide +kernel
theorem dX5_driveAll_21 : decode cX5_driveAll 21 = .ok (.getfield 40, 3) := by decide +kernel
theorem dX5_driveAll_24 : decode cX5_driveAll 24 = .ok (.iload_n 3, 1) := by decide +kernel
theorem dX5_driveAll_25 : decode cX5_driveAll 25 = .ok (.iaload, 1) := by decide +kernel
theorem dX5_driveAll_26 : decode cX5_driveAll 26 = .ok (.ifCond .le 7, 3) := by decide +kernel
theorem dX5_driveAll_29 : decode cX5_driveAll 29 = .ok (.iconst 1, 1) := by decide +kernel
theorem dX5_driveAll_30 : decode cX5_driveAll 30 = .ok (.goto 4, 3) := by decide +kernel
theorem dX5_driveAll_33 : decode cX5_driveAll 33 = .ok (.iconst 0, 1) := by decide +kernel
theorem dX5_driveAll_34 : decode cX5_driveAll 34 = .ok (.invokevirtual 186, 3) := by decide +kernel
theorem dX5_driveAll_37 : decode cX5_driveAll 37 = .ok (.pop, 1) := by decide +kernel
theorem dX5_driveAll_38 : decode cX5_driveAll 38 = .ok (.iinc 2 1, 3) := by decide +kernel
theorem dX5_driveAll_41 : decode cX5_driveAll 41 = .ok (.goto (-39), 3) := by decide +kernel
theorem dX5_driveAll_44 : decode cX5_driveAll 44 = .ok (.return_, 1) := by decide +kernel
theorem dX5_driveTo_0 : decode cX5_driveTo 0 = .ok (.aload_n 0, 1) := by decide +kernel
theorem dX5_driveTo_1 : decode cX5_driveTo 1 = .ok (.getfield 54, 3) := by decide +kernel
theorem dX5_driveTo_4 : decode cX5_driveTo 4 = .ok (.aload_n 0, 1) := by decide +kernel
theorem dX5_driveTo_5 : decode cX5_driveTo 5 = .ok (.getfield 47, 3) := by decide +kernel
theorem dX5_driveTo_8 : decode cX5_driveTo 8 = .ok (.iload_n 1, 1) := by decide +kernel
theorem dX5_driveTo_9 : decode cX5_driveTo 9 = .ok (.invokevirtual 159, 3) := by decide +kernel
theorem dX5_driveTo_12 : decode cX5_driveTo 12 = .ok (.ldc 158, 2) := by decide +kernel
theorem dX5_driveTo_14 : decode cX5_driveTo 14 = .ok (.if_icmp .lt 6, 3) := by decide +kernel
theorem dX5_driveTo_17 : decode cX5_driveTo 17 = .ok (.bipush (-8), 2) := by decide +kernel
theorem dX5_driveTo_19 : decode cX5_driveTo 19 = .ok (.ireturn, 1) := by decide +kernel
theorem dX5_driveTo_20 : decode cX5_driveTo 20 = .ok (.iconst 0, 1) := by decide +kernel
theorem dX5_driveTo_21 : decode cX5_driveTo 21 = .ok (.istore_n 2, 1) := by decide +kernel
theorem dX5_driveTo_22 : decode cX5_driveTo 22 = .ok (.iconst 0, 1) := by decide +kernel
theorem dX5_driveTo_23 : decode cX5_driveTo 23 = .ok (.istore_n 3, 1) := by decide +kernel
theorem dX5_driveTo_24 : decode cX5_driveTo 24 = .ok (.iload_n 3, 1) := by decide +kernel
theorem dX5_driveTo_25 : decode cX5_driveTo 25 = .ok (.bipush 60, 2) := by decide +kernel
theorem dX5_driveTo_27 : decode cX5_driveTo 27 = .ok (.if_icmp .ge 54, 3) := by decide +kernel
theorem dX5_driveTo_30 : decode cX5_driveTo 30 = .ok (.aload_n 0, 1) := by decide +kernel
theorem dX5_driveTo_31 : decode cX5_driveTo 31 = .ok (.getfield 47, 3) := by decide +kernel
theorem dX5_driveTo_34 : decode cX5_driveTo 34 = .ok (.iload_n 1, 1) := by decide +kernel
theorem dX5_driveTo_35 : decode cX5_driveTo 35 = .ok (.if_icmp .eq 46, 3) := by decide +kernel
theorem dX5_driveTo_38 : decode cX5_driveTo 38 = .ok (.iload_n 2, 1) := by decide +kernel
theorem dX5_driveTo_39 : decode cX5_driveTo 39 = .ok (.ifCond .ne 42, 3) := by decide +kernel
theorem dX5_driveTo_42 : decode cX5_driveTo 42 = .ok (.aload_n 0, 1) := by decide +kernel
theorem dX5_driveTo_43 : decode cX5_driveTo 43 = .ok (.getfield 54, 3) := by decide +kernel
theorem dX5_driveTo_46 : decode cX5_driveTo 46 = .ok (.aload_n 0, 1) := by decide +kernel
theorem dX5_driveTo_47 : decode cX5_driveTo 47 = .ok (.getfield 47, 3) := by decide +kernel
theorem dX5_driveTo_50 : decode cX5_driveTo 50 = .ok (.iload_n 1, 1) := by decide +kernel
theorem dX5_driveTo_51 : decode cX5_driveTo 51 = .ok (.invokevirtual 177, 3) := by decide +kernel
theorem dX5_driveTo_54 : decode cX5_driveTo 54 = .ok (.istore 4, 2) := by decide +kernel
theorem dX5_driveTo_56 : decode cX5_driveTo 56 = .ok (.iload 4, 2) := by decide +kernel
theorem dX5_driveTo_58 : decode cX5_driveTo 58 = .ok (.iconst (-1), 1) := by decide +kernel
theorem dX5_driveTo_59 : decode cX5_driveTo 59 = .ok (.if_icmp .ne 8, 3) := by decide +kernel
theorem dX5_driveTo_62 : decode cX5_driveTo 62 = .ok (.bipush (-8), 2) := by decide +kernel
theorem dX5_driveTo_64 : decode cX5_driveTo 64 = .ok (.goto 10, 3) := by decide +kernel
theorem dX5_driveTo_67 : decode cX5_driveTo 67 = .ok (.aload_n 0, 1) := by decide +kernel
theorem dX5_driveTo_68 : decode cX5_driveTo 68 = .ok (.iload 4, 2) := by decide +kernel
theorem dX5_driveTo_70 : decode cX5_driveTo 70 = .ok (.iconst 0, 1) := by decide +kernel
theorem dX5_driveTo_71 : decode cX5_driveTo 71 = .ok (.invokevirtual 186, 3) := by decide +kernel
theorem dX5_driveTo_74 : decode cX5_driveTo 74 = .ok (.istore_n 2, 1) := by decide +kernel
theorem dX5_driveTo_75 : decode cX5_driveTo 75 = .ok (.iinc 3 1, 3) := by decide +kernel
theorem dX5_driveTo_78 : decode cX5_driveTo 78 = .ok (.goto (-54), 3) := by decide +kernel
theorem dX5_driveTo_81 : decode cX5_driveTo 81 = .ok (.iload_n 2, 1) := by decide +kernel
theorem dX5_driveTo_82 : decode cX5_driveTo 82 = .ok (.ireturn, 1) := by decide +kernel
theorem dX5_handTo_0 : decode cX5_handTo 0 = .ok (.aload_n 0, 1) := by decide +kernel
theorem dX5_handTo_1 : decode cX5_handTo 1 = .ok (.getfield 20, 3) := by decide +kernel
theorem dX5_handTo_4 : decode cX5_handTo 4 = .ok (.iconst 0, 1) := by decide +kernel
theorem dX5_handTo_5 : decode cX5_handTo 5 = .ok (.aload_n 0, 1) := by decide +kernel
theorem dX5_handTo_6 : decode cX5_handTo 6 = .ok (.getfield 14, 3) := by decide +kernel
theorem dX5_handTo_9 : decode cX5_handTo 9 = .ok (.getfield 62, 3) := by decide +kernel
theorem dX5_handTo_12 : decode cX5_handTo 12 = .ok (.iastore, 1) := by decide +kernel
theorem dX5_handTo_13 : decode cX5_handTo 13 = .ok (.aload_n 1, 1) := by decide +kernel
theorem dX5_handTo_14 : decode cX5_handTo 14 = .ok (.getfield 65, 3) := by decide +kernel
theorem dX5_handTo_17 : decode cX5_handTo 17 = .ok (.aload_n 0, 1) := by decide +kernel
theorem dX5_handTo_18 : decode cX5_handTo 18 = .ok (.getfield 14, 3) := by decide +kernel
theorem dX5_handTo_21 : decode cX5_handTo 21 = .ok (.invokevirtual 68, 3) := by decide +kernel
theorem dX5_handTo_24 : decode cX5_handTo 24 = .ok (.aload_n 0, 1) := by decide +kernel
theorem dX5_handTo_25 : decode cX5_handTo 25 = .ok (.getfield 20, 3) := by decide +kernel
theorem dX5_handTo_28 : decode cX5_handTo 28 = .ok (.iconst 0, 1) := by decide +kernel
theorem dX5_handTo_29 : decode cX5_handTo 29 = .ok (.aload_n 1, 1) := by decide +kernel
theorem dX5_handTo_30 : decode cX5_handTo 30 = .ok (.getfield 72, 3) := by decide +kernel
theorem dX5_handTo_33 : decode cX5_handTo 33 = .ok (.iconst 0, 1) := by decide +kernel
theorem dX5_handTo_34 : decode cX5_handTo 34 = .ok (.bipush 7, 2) := by decide +kernel
theorem dX5_handTo_36 : decode cX5_handTo 36 = .ok (.invokestatic 73, 3) := by decide +kernel
theorem dX5_handTo_39 : decode cX5_handTo 39 = .ok (.aload_n 0, 1) := by decide +kernel
theorem dX5_handTo_40 : decode cX5_handTo 40 = .ok (.getfield 24, 3) := by decide +kernel
theorem dX5_handTo_43 : decode cX5_handTo 43 = .ok (.iconst 0, 1) := by decide +kernel
theorem dX5_handTo_44 : decode cX5_handTo 44 = .ok (.aload_n 1, 1) := by decide +kernel
theorem dX5_handTo_45 : decode cX5_handTo 45 = .ok (.getfield 79, 3) := by decide +kernel
theorem dX5_handTo_48 : decode cX5_handTo 48 = .ok (.iconst 0, 1) := by decide +kernel
theorem dX5_handTo_49 : decode cX5_handTo 49 = .ok (.bipush 60, 2) := by decide +kernel
theorem dX5_handTo_51 : decode cX5_handTo 51 = .ok (.invokestatic 73, 3) := by decide +kernel
theorem dX5_handTo_54 : decode cX5_handTo 54 = .ok (.return_, 1) := by decide +kernel
theorem dX5_init_0 : decode cX5_init 0 = .ok (.aload_n 0, 1) := by decide +kernel
theorem dX5_init_1 : decode cX5_init 1 = .ok (.invokespecial 3, 3) := by decide +kernel
theorem dX5_init_4 : decode cX5_init 4 = .ok (.aload_n 0, 1) := by decide +kernel
theorem dX5_init_5 : decode cX5_init 5 = .ok (.new 9, 3) := by decide +kernel
theorem dX5_init_8 : decode cX5_init 8 = .ok (.dup, 1) := by decide +kernel
theorem dX5_init_9 : decode cX5_init 9 = .ok (.iconst 4, 1) := by decide +kernel
theorem dX5_init_10 : decode cX5_init 10 = .ok (.bipush 16, 2) := by decide +kernel
theorem dX5_init_12 : decode cX5_init 12 = .ok (.invokespecial 11, 3) := by decide +kernel
theorem dX5_init_15 : decode cX5_init 15 = .ok (.putfield 14, 3) := by decide +kernel
theorem dX5_init_18 : decode cX5_init 18 = .ok (.aload_n 0, 1) := by decide +kernel
theorem dX5_init_19 : decode cX5_init 19 = .ok (.bipush 7, 2) := by decide +kernel
theorem dX5_init_21 : decode cX5_init 21 = .ok (.newarray .int, 2) := by decide +kernel
theorem dX5_init_23 : decode cX5_init 23 = .ok (.putfield 20, 3) := by decide +kernel
theorem dX5_init_26 : decode cX5_init 26 = .ok (.aload_n 0, 1) := by decide +kernel
theorem dX5_init_27 : decode cX5_init 27 = .ok (.bipush 60, 2) := by decide +kernel
theorem dX5_init_29 : decode cX5_init 29 = .ok (.newarray .int, 2) := by decide +kernel
theorem dX5_init_31 : decode cX5_init 31 = .ok (.putfield 24, 3) := by decide +kernel
theorem dX5_init_34 : decode cX5_init 34 = .ok (.aload_n 0, 1) := by decide +kernel
theorem dX5_init_35 : decode cX5_init 35 = .ok (.sipush 150, 3) := by decide +kernel
theorem dX5_init_38 : decode cX5_init 38 = .ok (.newarray .int, 2) := by decide +kernel
theorem dX5_init_40 : decode cX5_init 40 = .ok (.putfield 27, 3) := by decide +kernel
theorem dX5_init_43 : decode cX5_init 43 = .ok (.aload_n 0, 1) := by decide +kernel
theorem dX5_init_44 : decode cX5_init 44 = .ok (.sipush 150, 3) := by decide +kernel
theorem dX5_init_47 : decode cX5_init 47 = .ok (.newarray .int, 2) := by decide +kernel
theorem dX5_init_49 : decode cX5_init 49 = .ok (.putfield 30, 3) := by decide +kernel
theorem dX5_init_52 : decode cX5_init 52 = .ok (.aload_n 0, 1) := by decide +kernel
theorem dX5_init_53 : decode cX5_init 53 = .ok (.iconst 0, 1) := by decide +kernel
theorem dX5_init_54 : decode cX5_init 54 = .ok (.putfield 33, 3) := by decide +kernel
theorem dX5_init_57 : decode cX5_init 57 = .ok (.aload_n 0, 1) := by decide +kernel
theorem dX5_init_58 : decode cX5_init 58 = .ok (.sipush 150, 3) := by decide +kernel
theorem dX5_init_61 : decode cX5_init 61 = .ok (.newarray .int, 2) := by decide +kernel
theorem dX5_init_63 : decode cX5_init 63 = .ok (.putfield 37, 3) := by decide +kernel
theorem dX5_init_66 : decode cX5_init 66 = .ok (.aload_n 0, 1) := by decide +kernel
theorem dX5_init_67 : decode cX5_init 67 = .ok (.sipush 150, 3) := by decide +kernel
theorem dX5_init_70 : decode cX5_init 70 = .ok (.newarray .int, 2) := by decide +kernel
theorem dX5_init_72 : decode cX5_init 72 = .ok (.putfield 40, 3) := by decide +kernel
theorem dX5_init_75 : decode cX5_init 75 = .ok (.aload_n 0, 1) := by decide +kernel
theorem dX5_init_76 : decode cX5_init 76 = .ok (.bipush 60, 2) := by decide +kernel
theorem dX5_init_78 : decode cX5_init 78 = .ok (.newarray .long, 2) := by decide +kernel
theorem dX5_init_80 : decode cX5_init 80 = .ok (.putfield 43, 3) := by decide +kernel
theorem dX5_init_83 : decode cX5_init 83 = .ok (.aload_n 0, 1) := by decide +kernel
theorem dX5_init_84 : decode cX5_init 84 = .ok (.iconst 0, 1) := by decide +kernel
theorem dX5_init_85 : decode cX5_init 85 = .ok (.putfield 47, 3) := by decide +kernel
theorem dX5_init_88 : decode cX5_init 88 = .ok (.aload_n 0, 1) := by decide +kernel
theorem dX5_init_89 : decode cX5_init 89 = .ok (.aload_n 1, 1) := by decide +kernel
theorem dX5_init_90 : decode cX5_init 90 = .ok (.putfield 50, 3) := by decide +kernel
theorem dX5_init_93 : decode cX5_init 93 = .ok (.aload_n 0, 1) := by decide +kernel
theorem dX5_init_94 : decode cX5_init 94 = .ok (.aload_n 2, 1) := by decide +kernel
theorem dX5_init_95 : decode cX5_init 95 = .ok (.putfield 54, 3) := by decide +kernel
theorem dX5_init_98 : decode cX5_init 98 = .ok (.aload_n 0, 1) := by decide +kernel
theorem dX5_init_99 : decode cX5_init 99 = .ok (.aload_n 3, 1) := by decide +kernel
theorem dX5_init_100 : decode cX5_init 100 = .ok (.putfield 58, 3) := by decide +kernel
theorem dX5_init_103 : decode cX5_init 103 = .ok (.return_, 1) := by decide +kernel
theorem dX5_join_0 : decode cX5_join 0 = .ok (.iconst (-1), 1) := by decide +kernel
theorem dX5_join_1 : decode cX5_join 1 = .ok (.istore 5, 2) := by decide +kernel
theorem dX5_join_3 : decode cX5_join 3 = .ok (.iconst (-1), 1) := by decide +kernel
theorem dX5_join_4 : decode cX5_join 4 = .ok (.istore 6, 2) := by decide +kernel
theorem dX5_join_6 : decode cX5_join 6 = .ok (.ldc 158, 2) := by decide +kernel
theorem dX5_join_8 : decode cX5_join 8 = .ok (.istore 7, 2) := by decide +kernel
theorem dX5_join_10 : decode cX5_join 10 = .ok (.iconst 0, 1) := by decide +kernel
theorem dX5_join_11 : decode cX5_join 11 = .ok (.istore 8, 2) := by decide +kernel
theorem dX5_join_13 : decode cX5_join 13 = .ok (.iload 8, 2) := by decide +kernel
theorem dX5_join_15 : decode cX5_join 15 = .ok (.bipush 60, 2) := by decide +kernel
theorem dX5_join_17 : decode cX5_join 17 = .ok (.if_icmp .ge 84, 3) := by decide +kernel
theorem dX5_join_20 : decode cX5_join 20 = .ok (.iconst 0, 1) := by decide +kernel
theorem dX5_join_21 : decode cX5_join 21 = .ok (.istore 9, 2) := by decide +kernel
theorem dX5_join_23 : decode cX5_join 23 = .ok (.iload 9, 2) := by decide +kernel
theorem dX5_join_25 : decode cX5_join 25 = .ok (.bipush 60, 2) := by decide +kernel
theorem dX5_join_27 : decode cX5_join 27 = .ok (.if_icmp .ge 68, 3) := by decide +kernel
theorem dX5_join_30 : decode cX5_join 30 = .ok (.lload_n 1, 1) := by decide +kernel
theorem dX5_join_31 : decode cX5_join 31 = .ok (.iload 8, 2) := by decide +kernel
theorem dX5_join_33 : decode cX5_join 33 = .ok (.lshr, 1) := by decide +kernel
theorem dX5_join_34 : decode cX5_join 34 = .ok (.lconst 1, 1) := by decide +kernel
theorem dX5_join_35 : decode cX5_join 35 = .ok (.land, 1) := by decide +kernel
theorem dX5_join_36 : decode cX5_join 36 = .ok (.lconst 1, 1) := by decide +kernel
theorem dX5_join_37 : decode cX5_join 37 = .ok (.lcmp, 1) := by decide +kernel
theorem dX5_join_38 : decode cX5_join 38 = .ok (.ifCond .ne 57, 3) := by decide +kernel
theorem dX5_join_41 : decode cX5_join 41 = .ok (.lload_n 3, 1) := by decide +kernel
theorem dX5_join_42 : decode cX5_join 42 = .ok (.iload 9, 2) := by decide +kernel
theorem dX5_join_44 : decode cX5_join 44 = .ok (.lshr, 1) := by decide +kernel
theorem dX5_join_45 : decode cX5_join 45 = .ok (.lconst 1, 1) := by decide +kernel
theorem dX5_join_46 : decode cX5_join 46 = .ok (.land, 1) := by decide +kernel
theorem dX5_join_47 : decode cX5_join 47 = .ok (.lconst 1, 1) := by decide +kernel
theorem dX5_join_48 : decode cX5_join 48 = .ok (.lcmp, 1) := by decide +kernel
theorem dX5_join_49 : decode cX5_join 49 = .ok (.ifCond .ne 40, 3) := by decide +kernel
theorem dX5_join_52 : decode cX5_join 52 = .ok (.aload_n 0, 1) := by decide +kernel
theorem dX5_join_53 : decode cX5_join 53 = .ok (.getfield 54, 3) := by decide +kernel
theorem dX5_join_56 : decode cX5_join 56 = .ok (.iload 8, 2) := by decide +kernel
theorem dX5_join_58 : decode cX5_join 58 = .ok (.iload 9, 2) := by decide +kernel
theorem dX5_join_60 : decode cX5_join 60 = .ok (.invokevirtual 159, 3) := by decide +kernel
theorem dX5_join_63 : decode cX5_join 63 = .ok (.iload 7, 2) := by decide +kernel
theorem dX5_join_65 : decode cX5_join 65 = .ok (.if_icmp .ge 24, 3) := by decide +kernel
theorem dX5_join_68 : decode cX5_join 68 = .ok (.iload 8, 2) := by decide +kernel
theorem dX5_join_70 : decode cX5_join 70 = .ok (.istore 5, 2) := by decide +kernel
theorem dX5_join_72 : decode cX5_join 72 = .ok (.iload 9, 2) := by decide +kernel
theorem dX5_join_74 : decode cX5_join 74 = .ok (.istore 6, 2) := by decide +kernel
theorem dX5_join_76 : decode cX5_join 76 = .ok (.aload_n 0, 1) := by decide +kernel
theorem dX5_join_77 : decode cX5_join 77 = .ok (.getfield 54, 3) := by decide +kernel
theorem dX5_join_80 : decode cX5_join 80 = .ok (.iload 8, 2) := by decide +kernel
theorem dX5_join_82 : decode cX5_join 82 = .ok (.iload 9, 2) := by decide +kernel
theorem dX5_join_84 : decode cX5_join 84 = .ok (.invokevirtual 159, 3) := by decide +kernel
theorem dX5_join_87 : decode cX5_join 87 = .ok (.istore 7, 2) := by decide +kernel
theorem dX5_join_89 : decode cX5_join 89 = .ok (.iinc 9 1, 3) := by decide +kernel
theorem dX5_join_92 : decode cX5_join 92 = .ok (.goto (-69), 3) := by decide +kernel
theorem dX5_join_95 : decode cX5_join 95 = .ok (.iinc 8 1, 3) := by decide +kernel
theorem dX5_join_98 : decode cX5_join 98 = .ok (.goto (-85), 3) := by decide +kernel
theorem dX5_join_101 : decode cX5_join 101 = .ok (.iload 7, 2) := by decide +kernel
theorem dX5_join_103 : decode cX5_join 103 = .ok (.ldc 158, 2) := by decide +kernel
theorem dX5_join_105 : decode cX5_join 105 = .ok (.if_icmp .lt 5, 3) := by decide +kernel
theorem dX5_join_108 : decode cX5_join 108 = .ok (.iconst 0, 1) := by decide +kernel
theorem dX5_join_109 : decode cX5_join 109 = .ok (.ireturn, 1) := by decide +kernel
theorem dX5_join_110 : decode cX5_join 110 = .ok (.aload_n 0, 1) := by decide +kernel
theorem dX5_join_111 : decode cX5_join 111 = .ok (.iload 5, 2) := by decide +kernel
theorem dX5_join_113 : decode cX5_join 113 = .ok (.iload 6, 2) := by decide +kernel
theorem dX5_join_115 : decode cX5_join 115 = .ok (.iconst 2, 1) := by decide +kernel
theorem dX5_join_116 : decode cX5_join 116 = .ok (.invokevirtual 162, 3) := by decide +kernel
theorem dX5_join_119 : decode cX5_join 119 = .ok (.iconst 1, 1) := by decide +kernel
theorem dX5_join_120 : decode cX5_join 120 = .ok (.ireturn, 1) := by decide +kernel
theorem dX5_joinAll_0 : decode cX5_joinAll 0 = .ok (.iconst 0, 1) := by decide +kernel
theorem dX5_joinAll_1 : decode cX5_joinAll 1 = .ok (.istore_n 1, 1) := by decide +kernel
theorem dX5_joinAll_2 : decode cX5_joinAll 2 = .ok (.iload_n 1, 1) := by decide +kernel
theorem dX5_joinAll_3 : decode cX5_joinAll 3 = .ok (.bipush 60, 2) := by decide +kernel
theorem dX5_joinAll_5 : decode cX5_joinAll 5 = .ok (.if_icmp .ge 65, 3) := by decide +kernel
theorem dX5_joinAll_8 : decode cX5_joinAll 8 = .ok (.aload_n 0, 1) := by decide +kernel
theorem dX5_joinAll_9 : decode cX5_joinAll 9 = .ok (.invokevirtual 113, 3) := by decide +kernel
theorem dX5_joinAll_12 : decode cX5_joinAll 12 = .ok (.lstore_n 2, 1) := by decide +kernel
theorem dX5_joinAll_13 : decode cX5_joinAll 13 = .ok (.aload_n 0, 1) := by decide +kernel
theorem dX5_joinAll_14 : decode cX5_joinAll 14 = .ok (.iconst 0, 1) := by decide +kernel
theorem dX5_joinAll_15 : decode cX5_joinAll 15 = .ok (.invokevirtual 117, 3) := by decide +kernel
theorem dX5_joinAll_18 : decode cX5_joinAll 18 = .ok (.lstore 4, 2) := by decide +kernel
theorem dX5_joinAll_20 : decode cX5_joinAll 20 = .ok (.lload_n 2, 1) := by decide +kernel
theorem dX5_joinAll_21 : decode cX5_joinAll 21 = .ok (.lload 4, 2) := by decide +kernel
theorem dX5_joinAll_23 : decode cX5_joinAll 23 = .ok (.ldc2_w 121, 3) := by decide +kernel
theorem dX5_joinAll_26 : decode cX5_joinAll 26 = .ok (.lxor, 1) := by decide +kernel
theorem dX5_joinAll_27 : decode cX5_joinAll 27 = .ok (.land, 1) := by decide +kernel
theorem dX5_joinAll_28 : decode cX5_joinAll 28 = .ok (.lconst 0, 1) := by decide +kernel
theorem dX5_joinAll_29 : decode cX5_joinAll 29 = .ok (.lcmp, 1) := by decide +kernel
theorem dX5_joinAll_30 : decode cX5_joinAll 30 = .ok (.ifCond .ne 5, 3) := by decide +kernel
theorem dX5_joinAll_33 : decode cX5_joinAll 33 = .ok (.iconst 1, 1) := by decide +kernel
theorem dX5_joinAll_34 : decode cX5_joinAll 34 = .ok (.ireturn, 1) := by decide +kernel
theorem dX5_joinAll_35 : decode cX5_joinAll 35 = .ok (.aload_n 0, 1) := by decide +kernel
theorem dX5_joinAll_36 : decode cX5_joinAll 36 = .ok (.lload 4, 2) := by decide +kernel
theorem dX5_joinAll_38 : decode cX5_joinAll 38 = .ok (.lload_n 2, 1) := by decide +kernel
theorem dX5_joinAll_39 : decode cX5_joinAll 39 = .ok (.lload 4, 2) := by decide +kernel
theorem dX5_joinAll_41 : decode cX5_joinAll 41 = .ok (.ldc2_w 121, 3) := by decide +kernel
theorem dX5_joinAll_44 : decode cX5_joinAll 44 = .ok (.lxor, 1) := by decide +kernel
theorem dX5_joinAll_45 : decode cX5_joinAll 45 = .ok (.land, 1) := by decide +kernel
theorem dX5_joinAll_46 : decode cX5_joinAll 46 = .ok (.invokevirtual 154, 3) := by decide +kernel
theorem dX5_joinAll_49 : decode cX5_joinAll 49 = .ok (.ifCond .ne 5, 3) := by decide +kernel
theorem dX5_joinAll_52 : decode cX5_joinAll 52 = .ok (.iconst 0, 1) := by decide +kernel
theorem dX5_joinAll_53 : decode cX5_joinAll 53 = .ok (.ireturn, 1) := by decide +kernel
theorem dX5_joinAll_54 : decode cX5_joinAll 54 = .ok (.aload_n 0, 1) := by decide +kernel
theorem dX5_joinAll_55 : decode cX5_joinAll 55 = .ok (.getfield 20, 3) := by decide +kernel
theorem dX5_joinAll_58 : decode cX5_joinAll 58 = .ok (.iconst 3, 1) := by decide +kernel
theorem dX5_joinAll_59 : decode cX5_joinAll 59 = .ok (.dup2, 1) := by decide +kernel
theorem dX5_joinAll_60 : decode cX5_joinAll 60 = .ok (.iaload, 1) := by decide +kernel
theorem dX5_joinAll_61 : decode cX5_joinAll 61 = .ok (.iconst 1, 1) := by decide +kernel
theorem dX5_joinAll_62 : decode cX5_joinAll 62 = .ok (.iadd, 1) := by decide +kernel
theorem dX5_joinAll_63 : decode cX5_joinAll 63 = .ok (.iastore, 1) := by decide +kernel
theorem dX5_joinAll_64 : decode cX5_joinAll 64 = .ok (.iinc 1 1, 3) := by decide +kernel
theorem dX5_joinAll_67 : decode cX5_joinAll 67 = .ok (.goto (-65), 3) := by decide +kernel
theorem dX5_joinAll_70 : decode cX5_joinAll 70 = .ok (.iconst 0, 1) := by decide +kernel
theorem dX5_joinAll_71 : decode cX5_joinAll 71 = .ok (.ireturn, 1) := by decide +kernel
theorem dX5_leave_0 : decode cX5_leave 0 = .ok (.iconst 0, 1) := by decide +kernel
theorem dX5_leave_1 : decode cX5_leave 1 = .ok (.istore_n 1, 1) := by decide +kernel
theorem dX5_leave_2 : decode cX5_leave 2 = .ok (.iload_n 1, 1) := by decide +kernel
theorem dX5_leave_3 : decode cX5_leave 3 = .ok (.aload_n 0, 1) := by decide +kernel
theorem dX5_leave_4 : decode cX5_leave 4 = .ok (.getfield 33, 3) := by decide +kernel
theorem dX5_leave_7 : decode cX5_leave 7 = .ok (.if_icmp .ge 114, 3) := by decide +kernel
theorem dX5_leave_10 : decode cX5_leave 10 = .ok (.aload_n 0, 1) := by decide +kernel
theorem dX5_leave_11 : decode cX5_leave 11 = .ok (.getfield 37, 3) := by decide +kernel
theorem dX5_leave_14 : decode cX5_leave 14 = .ok (.iload_n 1, 1) := by decide +kernel
theorem dX5_leave_15 : decode cX5_leave 15 = .ok (.iaload, 1) := by decide +kernel
theorem dX5_leave_16 : decode cX5_leave 16 = .ok (.ifCond .le 99, 3) := by decide +kernel
theorem dX5_leave_19 : decode cX5_leave 19 = .ok (.aload_n 0, 1) := by decide +kernel
theorem dX5_leave_20 : decode cX5_leave 20 = .ok (.getfield 27, 3) := by decide +kernel
theorem dX5_leave_23 : decode cX5_leave 23 = .ok (.iload_n 1, 1) := by decide +kernel
theorem dX5_leave_24 : decode cX5_leave 24 = .ok (.iaload, 1) := by decide +kernel
theorem dX5_leave_25 : decode cX5_leave 25 = .ok (.aload_n 0, 1) := by decide +kernel
theorem dX5_leave_26 : decode cX5_leave 26 = .ok (.getfield 47, 3) := by decide +kernel
theorem dX5_leave_29 : decode cX5_leave 29 = .ok (.if_icmp .eq 16, 3) := by decide +kernel
theorem dX5_leave_32 : decode cX5_leave 32 = .ok (.aload_n 0, 1) := by decide +kernel
theorem dX5_leave_33 : decode cX5_leave 33 = .ok (.getfield 30, 3) := by decide +kernel
theorem dX5_leave_36 : decode cX5_leave 36 = .ok (.iload_n 1, 1) := by decide +kernel
theorem dX5_leave_37 : decode cX5_leave 37 = .ok (.iaload, 1) := by decide +kernel
theorem dX5_leave_38 : decode cX5_leave 38 = .ok (.aload_n 0, 1) := by decide +kernel
theorem dX5_leave_39 : decode cX5_leave 39 = .ok (.getfield 47, 3) := by decide +kernel
theorem dX5_leave_42 : decode cX5_leave 42 = .ok (.if_icmp .ne 73, 3) := by decide +kernel
theorem dX5_leave_45 : decode cX5_leave 45 = .ok (.aload_n 0, 1) := by decide +kernel
theorem dX5_leave_46 : decode cX5_leave 46 = .ok (.getfield 37, 3) := by decide +kernel
theorem dX5_leave_49 : decode cX5_leave 49 = .ok (.iload_n 1, 1) := by decide +kernel
theorem dX5_leave_50 : decode cX5_leave 50 = .ok (.dup2, 1) := by decide +kernel
theorem dX5_leave_51 : decode cX5_leave 51 = .ok (.iaload, 1) := by decide +kernel
theorem dX5_leave_52 : decode cX5_leave 52 = .ok (.iconst 1, 1) := by decide +kernel
theorem dX5_leave_53 : decode cX5_leave 53 = .ok (.isub, 1) := by decide +kernel
theorem dX5_leave_54 : decode cX5_leave 54 = .ok (.iastore, 1) := by decide +kernel
theorem dX5_leave_55 : decode cX5_leave 55 = .ok (.aload_n 0, 1) := by decide +kernel
theorem dX5_leave_56 : decode cX5_leave 56 = .ok (.invokevirtual 113, 3) := by decide +kernel
theorem dX5_leave_59 : decode cX5_leave 59 = .ok (.lstore_n 2, 1) := by decide +kernel
theorem dX5_leave_60 : decode cX5_leave 60 = .ok (.lload_n 2, 1) := by decide +kernel
theorem dX5_leave_61 : decode cX5_leave 61 = .ok (.aload_n 0, 1) := by decide +kernel
theorem dX5_leave_62 : decode cX5_leave 62 = .ok (.aload_n 0, 1) := by decide +kernel
theorem dX5_leave_63 : decode cX5_leave 63 = .ok (.getfield 27, 3) := by decide +kernel
theorem dX5_leave_66 : decode cX5_leave 66 = .ok (.iload_n 1, 1) := by decide +kernel
theorem dX5_leave_67 : decode cX5_leave 67 = .ok (.iaload, 1) := by decide +kernel
theorem dX5_leave_68 : decode cX5_leave 68 = .ok (.aload_n 0, 1) := by decide +kernel
theorem dX5_leave_69 : decode cX5_leave 69 = .ok (.getfield 47, 3) := by decide +kernel
theorem dX5_leave_72 : decode cX5_leave 72 = .ok (.if_icmp .ne 12, 3) := by decide +kernel
theorem dX5_leave_75 : decode cX5_leave 75 = .ok (.aload_n 0, 1) := by decide +kernel
theorem dX5_leave_76 : decode cX5_leave 76 = .ok (.getfield 30, 3) := by decide +kernel
theorem dX5_leave_79 : decode cX5_leave 79 = .ok (.iload_n 1, 1) := by decide +kernel
theorem dX5_leave_80 : decode cX5_leave 80 = .ok (.iaload, 1) := by decide +kernel
theorem dX5_leave_81 : decode cX5_leave 81 = .ok (.goto 9, 3) := by decide +kernel
theorem dX5_leave_84 : decode cX5_leave 84 = .ok (.aload_n 0, 1) := by decide +kernel
theorem dX5_leave_85 : decode cX5_leave 85 = .ok (.getfield 27, 3) := by decide +kernel
theorem dX5_leave_88 : decode cX5_leave 88 = .ok (.iload_n 1, 1) := by decide +kernel
theorem dX5_leave_89 : decode cX5_leave 89 = .ok (.iaload, 1) := by decide +kernel
theorem dX5_leave_90 : decode cX5_leave 90 = .ok (.invokevirtual 117, 3) := by decide +kernel
theorem dX5_leave_93 : decode cX5_leave 93 = .ok (.ldc2_w 121, 3) := by decide +kernel
theorem dX5_leave_96 : decode cX5_leave 96 = .ok (.lxor, 1) := by decide +kernel
theorem dX5_leave_97 : decode cX5_leave 97 = .ok (.land, 1) := by decide +kernel
theorem dX5_leave_98 : decode cX5_leave 98 = .ok (.lconst 0, 1) := by decide +kernel
theorem dX5_leave_99 : decode cX5_leave 99 = .ok (.lcmp, 1) := by decide +kernel
theorem dX5_leave_100 : decode cX5_leave 100 = .ok (.ifCond .ne 5, 3) := by decide +kernel
theorem dX5_leave_103 : decode cX5_leave 103 = .ok (.iload_n 1, 1) := by decide +kernel
theorem dX5_leave_104 : decode cX5_leave 104 = .ok (.ireturn, 1) := by decide +kernel
theorem dX5_leave_105 : decode cX5_leave 105 = .ok (.aload_n 0, 1) := by decide +kernel
theorem dX5_leave_106 : decode cX5_leave 106 = .ok (.getfield 37, 3) := by decide +kernel
theorem dX5_leave_109 : decode cX5_leave 109 = .ok (.iload_n 1, 1) := by decide +kernel
theorem dX5_leave_110 : decode cX5_leave 110 = .ok (.dup2, 1) := by decide +kernel
theorem dX5_leave_111 : decode cX5_leave 111 = .ok (.iaload, 1) := by decide +kernel
theorem dX5_leave_112 : decode cX5_leave 112 = .ok (.iconst 1, 1) := by decide +kernel
theorem dX5_leave_113 : decode cX5_leave 113 = .ok (.iadd, 1) := by decide +kernel
theorem dX5_leave_114 : decode cX5_leave 114 = .ok (.iastore, 1) := by decide +kernel
theorem dX5_leave_115 : decode cX5_leave 115 = .ok (.iinc 1 1, 3) := by decide +kernel
theorem dX5_leave_118 : decode cX5_leave 118 = .ok (.goto (-116), 3) := by decide +kernel
theorem dX5_leave_121 : decode cX5_leave 121 = .ok (.iconst (-1), 1) := by decide +kernel
theorem dX5_leave_122 : decode cX5_leave 122 = .ok (.ireturn, 1) := by decide +kernel
theorem dX5_lookAtLeft_0 : decode cX5_lookAtLeft 0 = .ok (.lconst 0, 1) := by decide +kernel
theorem dX5_lookAtLeft_1 : decode cX5_lookAtLeft 1 = .ok (.lstore_n 1, 1) := by decide +kernel
theorem dX5_lookAtLeft_2 : decode cX5_lookAtLeft 2 = .ok (.aload_n 0, 1) := by decide +kernel
theorem dX5_lookAtLeft_3 : decode cX5_lookAtLeft 3 = .ok (.getfield 43, 3) := by decide +kernel
theorem dX5_lookAtLeft_6 : decode cX5_lookAtLeft 6 = .ok (.lconst 0, 1) := by decide +kernel
theorem dX5_lookAtLeft_7 : decode cX5_lookAtLeft 7 = .ok (.invokestatic 147, 3) := by decide +kernel
theorem dX5_lookAtLeft_10 : decode cX5_lookAtLeft 10 = .ok (.iconst 0, 1) := by decide +kernel
theorem dX5_lookAtLeft_11 : decode cX5_lookAtLeft 11 = .ok (.istore_n 3, 1) := by decide +kernel
theorem dX5_lookAtLeft_12 : decode cX5_lookAtLeft 12 = .ok (.iload_n 3, 1) := by decide +kernel
theorem dX5_lookAtLeft_13 : decode cX5_lookAtLeft 13 = .ok (.aload_n 0, 1) := by decide +kernel
theorem dX5_lookAtLeft_14 : decode cX5_lookAtLeft 14 = .ok (.getfield 33, 3) := by decide +kernel
theorem dX5_lookAtLeft_17 : decode cX5_lookAtLeft 17 = .ok (.if_icmp .ge 74, 3) := by decide +kernel
theorem dX5_lookAtLeft_20 : decode cX5_lookAtLeft 20 = .ok (.aload_n 0, 1) := by decide +kernel
theorem dX5_lookAtLeft_21 : decode cX5_lookAtLeft 21 = .ok (.getfield 37, 3) := by decide +kernel
theorem dX5_lookAtLeft_24 : decode cX5_lookAtLeft 24 = .ok (.iload_n 3, 1) := by decide +kernel
theorem dX5_lookAtLeft_25 : decode cX5_lookAtLeft 25 = .ok (.iaload, 1) := by decide +kernel
theorem dX5_lookAtLeft_26 : decode cX5_lookAtLeft 26 = .ok (.ifCond .le 59, 3) := by decide +kernel
theorem dX5_lookAtLeft_29 : decode cX5_lookAtLeft 29 = .ok (.aload_n 0, 1) := by decide +kernel
theorem dX5_lookAtLeft_30 : decode cX5_lookAtLeft 30 = .ok (.getfield 27, 3) := by decide +kernel
theorem dX5_lookAtLeft_33 : decode cX5_lookAtLeft 33 = .ok (.iload_n 3, 1) := by decide +kernel
theorem dX5_lookAtLeft_34 : decode cX5_lookAtLeft 34 = .ok (.iaload, 1) := by decide +kernel
theorem dX5_lookAtLeft_35 : decode cX5_lookAtLeft 35 = .ok (.istore 4, 2) := by decide +kernel
theorem dX5_lookAtLeft_37 : decode cX5_lookAtLeft 37 = .ok (.aload_n 0, 1) := by decide +kernel
theorem dX5_lookAtLeft_38 : decode cX5_lookAtLeft 38 = .ok (.getfield 30, 3) := by decide +kernel
theorem dX5_lookAtLeft_41 : decode cX5_lookAtLeft 41 = .ok (.iload_n 3, 1) := by decide +kernel
theorem dX5_lookAtLeft_42 : decode cX5_lookAtLeft 42 = .ok (.iaload, 1) := by decide +kernel
theorem dX5_lookAtLeft_43 : decode cX5_lookAtLeft 43 = .ok (.istore 5, 2) := by decide +kernel
theorem dX5_lookAtLeft_45 : decode cX5_lookAtLeft 45 = .ok (.aload_n 0, 1) := by decide +kernel
theorem dX5_lookAtLeft_46 : decode cX5_lookAtLeft 46 = .ok (.getfield 43, 3) := by decide +kernel
theorem dX5_lookAtLeft_49 : decode cX5_lookAtLeft 49 = .ok (.iload 4, 2) := by decide +kernel
theorem dX5_lookAtLeft_51 : decode cX5_lookAtLeft 51 = .ok (.dup2, 1) := by decide +kernel
theorem dX5_lookAtLeft_52 : decode cX5_lookAtLeft 52 = .ok (.laload, 1) := by decide +kernel
theorem dX5_lookAtLeft_53 : decode cX5_lookAtLeft 53 = .ok (.lconst 1, 1) := by decide +kernel
theorem dX5_lookAtLeft_54 : decode cX5_lookAtLeft 54 = .ok (.iload 5, 2) := by decide +kernel
theorem dX5_lookAtLeft_56 : decode cX5_lookAtLeft 56 = .ok (.lshl, 1) := by decide +kernel
theorem dX5_lookAtLeft_57 : decode cX5_lookAtLeft 57 = .ok (.lor, 1) := by decide +kernel
theorem dX5_lookAtLeft_58 : decode cX5_lookAtLeft 58 = .ok (.lastore, 1) := by decide +kernel
theorem dX5_lookAtLeft_59 : decode cX5_lookAtLeft 59 = .ok (.aload_n 0, 1) := by decide +kernel
theorem dX5_lookAtLeft_60 : decode cX5_lookAtLeft 60 = .ok (.getfield 43, 3) := by decide +kernel
theorem dX5_lookAtLeft_63 : decode cX5_lookAtLeft 63 = .ok (.iload 5, 2) := by decide +kernel
theorem dX5_lookAtLeft_65 : decode cX5_lookAtLeft 65 = .ok (.dup2, 1) := by decide +kernel
theorem dX5_lookAtLeft_66 : decode cX5_lookAtLeft 66 = .ok (.laload, 1) := by decide +kernel
theorem dX5_lookAtLeft_67 : decode cX5_lookAtLeft 67 = .ok (.lconst 1, 1) := by decide +kernel
theorem dX5_lookAtLeft_68 : decode cX5_lookAtLeft 68 = .ok (.iload 4, 2) := by decide +kernel
theorem dX5_lookAtLeft_70 : decode cX5_lookAtLeft 70 = .ok (.lshl, 1) := by decide +kernel
theorem dX5_lookAtLeft_71 : decode cX5_lookAtLeft 71 = .ok (.lor, 1) := by decide +kernel
theorem dX5_lookAtLeft_72 : decode cX5_lookAtLeft 72 = .ok (.lastore, 1) := by decide +kernel
theorem dX5_lookAtLeft_73 : decode cX5_lookAtLeft 73 = .ok (.lload_n 1, 1) := by decide +kernel
theorem dX5_lookAtLeft_74 : decode cX5_lookAtLeft 74 = .ok (.lconst 1, 1) := by decide +kernel
theorem dX5_lookAtLeft_75 : decode cX5_lookAtLeft 75 = .ok (.iload 4, 2) := by decide +kernel
theorem dX5_lookAtLeft_77 : decode cX5_lookAtLeft 77 = .ok (.lshl, 1) := by decide +kernel
theorem dX5_lookAtLeft_78 : decode cX5_lookAtLeft 78 = .ok (.lconst 1, 1) := by decide +kernel
theorem dX5_lookAtLeft_79 : decode cX5_lookAtLeft 79 = .ok (.iload 5, 2) := by decide +kernel
theorem dX5_lookAtLeft_81 : decode cX5_lookAtLeft 81 = .ok (.lshl, 1) := by decide +kernel
theorem dX5_lookAtLeft_82 : decode cX5_lookAtLeft 82 = .ok (.lor, 1) := by decide +kernel
theorem dX5_lookAtLeft_83 : decode cX5_lookAtLeft 83 = .ok (.lor, 1) := by decide +kernel
theorem dX5_lookAtLeft_84 : decode cX5_lookAtLeft 84 = .ok (.lstore_n 1, 1) := by decide +kernel
theorem dX5_lookAtLeft_85 : decode cX5_lookAtLeft 85 = .ok (.iinc 3 1, 3) := by decide +kernel
theorem dX5_lookAtLeft_88 : decode cX5_lookAtLeft 88 = .ok (.goto (-76), 3) := by decide +kernel
theorem dX5_lookAtLeft_91 : decode cX5_lookAtLeft 91 = .ok (.lload_n 1, 1) := by decide +kernel
theorem dX5_lookAtLeft_92 : decode cX5_lookAtLeft 92 = .ok (.lreturn, 1) := by decide +kernel
theorem dX5_nearestStart_0 : decode cX5_nearestStart 0 = .ok (.iconst (-1), 1) := by decide +kernel
theorem dX5_nearestStart_1 : decode cX5_nearestStart 1 = .ok (.istore_n 1, 1) := by decide +kernel
theorem dX5_nearestStart_2 : decode cX5_nearestStart 2 = .ok (.ldc 158, 2) := by decide +kernel
theorem dX5_nearestStart_4 : decode cX5_nearestStart 4 = .ok (.istore_n 2, 1) := by decide +kernel
theorem dX5_nearestStart_5 : decode cX5_nearestStart 5 = .ok (.iconst 0, 1) := by decide +kernel
theorem dX5_nearestStart_6 : decode cX5_nearestStart 6 = .ok (.istore_n 3, 1) := by decide +kernel
theorem dX5_nearestStart_7 : decode cX5_nearestStart 7 = .ok (.iload_n 3, 1) := by decide +kernel
theorem dX5_nearestStart_8 : decode cX5_nearestStart 8 = .ok (.aload_n 0, 1) := by decide +kernel
theorem dX5_nearestStart_9 : decode cX5_nearestStart 9 = .ok (.getfield 33, 3) := by decide +kernel
theorem dX5_nearestStart_12 : decode cX5_nearestStart 12 = .ok (.if_icmp .ge 142, 3) := by decide +kernel
theorem dX5_nearestStart_15 : decode cX5_nearestStart 15 = .ok (.aload_n 0, 1) := by decide +kernel
theorem dX5_nearestStart_16 : decode cX5_nearestStart 16 = .ok (.getfield 40, 3) := by decide +kernel
theorem dX5_nearestStart_19 : decode cX5_nearestStart 19 = .ok (.iload_n 3, 1) := by decide +kernel
theorem dX5_nearestStart_20 : decode cX5_nearestStart 20 = .ok (.iaload, 1) := by decide +kernel
theorem dX5_nearestStart_21 : decode cX5_nearestStart 21 = .ok (.ifCond .le 46, 3) := by decide +kernel
theorem dX5_nearestStart_24 : decode cX5_nearestStart 24 = .ok (.aload_n 0, 1) := by decide +kernel
theorem dX5_nearestStart_25 : decode cX5_nearestStart 25 = .ok (.getfield 54, 3) := by decide +kernel
theorem dX5_nearestStart_28 : decode cX5_nearestStart 28 = .ok (.aload_n 0, 1) := by decide +kernel
theorem dX5_nearestStart_29 : decode cX5_nearestStart 29 = .ok (.getfield 47, 3) := by decide +kernel
theorem dX5_nearestStart_32 : decode cX5_nearestStart 32 = .ok (.aload_n 0, 1) := by decide +kernel
theorem dX5_nearestStart_33 : decode cX5_nearestStart 33 = .ok (.getfield 27, 3) := by decide +kernel
theorem dX5_nearestStart_36 : decode cX5_nearestStart 36 = .ok (.iload_n 3, 1) := by decide +kernel
theorem dX5_nearestStart_37 : decode cX5_nearestStart 37 = .ok (.iaload, 1) := by decide +kernel
theorem dX5_nearestStart_38 : decode cX5_nearestStart 38 = .ok (.invokevirtual 159, 3) := by decide +kernel
theorem dX5_nearestStart_41 : decode cX5_nearestStart 41 = .ok (.iload_n 2, 1) := by decide +kernel
theorem dX5_nearestStart_42 : decode cX5_nearestStart 42 = .ok (.if_icmp .ge 25, 3) := by decide +kernel
theorem dX5_nearestStart_45 : decode cX5_nearestStart 45 = .ok (.iconst 2, 1) := by decide +kernel
theorem dX5_nearestStart_46 : decode cX5_nearestStart 46 = .ok (.iload_n 3, 1) := by decide +kernel
theorem dX5_nearestStart_47 : decode cX5_nearestStart 47 = .ok (.imul, 1) := by decide +kernel
theorem dX5_nearestStart_48 : decode cX5_nearestStart 48 = .ok (.istore_n 1, 1) := by decide +kernel
theorem dX5_nearestStart_49 : decode cX5_nearestStart 49 = .ok (.aload_n 0, 1) := by decide +kernel
theorem dX5_nearestStart_50 : decode cX5_nearestStart 50 = .ok (.getfield 54, 3) := by decide +kernel
theorem dX5_nearestStart_53 : decode cX5_nearestStart 53 = .ok (.aload_n 0, 1) := by decide +kernel
theorem dX5_nearestStart_54 : decode cX5_nearestStart 54 = .ok (.getfield 47, 3) := by decide +kernel
theorem dX5_nearestStart_57 : decode cX5_nearestStart 57 = .ok (.aload_n 0, 1) := by decide +kernel
theorem dX5_nearestStart_58 : decode cX5_nearestStart 58 = .ok (.getfield 27, 3) := by decide +kernel
theorem dX5_nearestStart_61 : decode cX5_nearestStart 61 = .ok (.iload_n 3, 1) := by decide +kernel
theorem dX5_nearestStart_62 : decode cX5_nearestStart 62 = .ok (.iaload, 1) := by decide +kernel
theorem dX5_nearestStart_63 : decode cX5_nearestStart 63 = .ok (.invokevirtual 159, 3) := by decide +kernel
theorem dX5_nearestStart_66 : decode cX5_nearestStart 66 = .ok (.istore_n 2, 1) := by decide +kernel
theorem dX5_nearestStart_67 : decode cX5_nearestStart 67 = .ok (.aload_n 0, 1) := by decide +kernel
theorem dX5_nearestStart_68 : decode cX5_nearestStart 68 = .ok (.getfield 50, 3) := by decide +kernel
theorem dX5_nearestStart_71 : decode cX5_nearestStart 71 = .ok (.getfield 86, 3) := by decide +kernel
theorem dX5_nearestStart_74 : decode cX5_nearestStart 74 = .ok (.iload_n 3, 1) := by decide +kernel
theorem dX5_nearestStart_75 : decode cX5_nearestStart 75 = .ok (.iconst 5, 1) := by decide +kernel
theorem dX5_nearestStart_76 : decode cX5_nearestStart 76 = .ok (.invokevirtual 94, 3) := by decide +kernel
theorem dX5_nearestStart_79 : decode cX5_nearestStart 79 = .ok (.ifCond .ne 7, 3) := by decide +kernel
theorem dX5_nearestStart_82 : decode cX5_nearestStart 82 = .ok (.iconst 1, 1) := by decide +kernel
theorem dX5_nearestStart_83 : decode cX5_nearestStart 83 = .ok (.goto 4, 3) := by decide +kernel
theorem dX5_nearestStart_86 : decode cX5_nearestStart 86 = .ok (.iconst 0, 1) := by decide +kernel
theorem dX5_nearestStart_87 : decode cX5_nearestStart 87 = .ok (.istore 4, 2) := by decide +kernel
theorem dX5_nearestStart_89 : decode cX5_nearestStart 89 = .ok (.aload_n 0, 1) := by decide +kernel
theorem dX5_nearestStart_90 : decode cX5_nearestStart 90 = .ok (.getfield 40, 3) := by decide +kernel
theorem dX5_nearestStart_93 : decode cX5_nearestStart 93 = .ok (.iload_n 3, 1) := by decide +kernel
theorem dX5_nearestStart_94 : decode cX5_nearestStart 94 = .ok (.iaload, 1) := by decide +kernel
theorem dX5_nearestStart_95 : decode cX5_nearestStart 95 = .ok (.ifCond .le 53, 3) := by decide +kernel
theorem dX5_nearestStart_98 : decode cX5_nearestStart 98 = .ok (.iload 4, 2) := by decide +kernel
theorem dX5_nearestStart_100 : decode cX5_nearestStart 100 = .ok (.ifCond .eq 48, 3) := by decide +kernel
theorem dX5_nearestStart_103 : decode cX5_nearestStart 103 = .ok (.aload_n 0, 1) := by decide +kernel
theorem dX5_nearestStart_104 : decode cX5_nearestStart 104 = .ok (.getfield 54, 3) := by decide +kernel
theorem dX5_nearestStart_107 : decode cX5_nearestStart 107 = .ok (.aload_n 0, 1) := by decide +kernel
theorem dX5_nearestStart_108 : decode cX5_nearestStart 108 = .ok (.getfield 47, 3) := by decide +kernel
theorem dX5_nearestStart_111 : decode cX5_nearestStart 111 = .ok (.aload_n 0, 1) := by decide +kernel
theorem dX5_nearestStart_112 : decode cX5_nearestStart 112 = .ok (.getfield 30, 3) := by decide +kernel
theorem dX5_nearestStart_115 : decode cX5_nearestStart 115 = .ok (.iload_n 3, 1) := by decide +kernel
theorem dX5_nearestStart_116 : decode cX5_nearestStart 116 = .ok (.iaload, 1) := by decide +kernel
theorem dX5_nearestStart_117 : decode cX5_nearestStart 117 = .ok (.invokevirtual 159, 3) := by decide +kernel
theorem dX5_nearestStart_120 : decode cX5_nearestStart 120 = .ok (.iload_n 2, 1) := by decide +kernel
theorem dX5_nearestStart_121 : decode cX5_nearestStart 121 = .ok (.if_icmp .ge 27, 3) := by decide +kernel
theorem dX5_nearestStart_124 : decode cX5_nearestStart 124 = .ok (.iconst 2, 1) := by decide +kernel
theorem dX5_nearestStart_125 : decode cX5_nearestStart 125 = .ok (.iload_n 3, 1) := by decide +kernel
theorem dX5_nearestStart_126 : decode cX5_nearestStart 126 = .ok (.imul, 1) := by decide +kernel
theorem dX5_nearestStart_127 : decode cX5_nearestStart 127 = .ok (.iconst 1, 1) := by decide +kernel
theorem dX5_nearestStart_128 : decode cX5_nearestStart 128 = .ok (.iadd, 1) := by decide +kernel
theorem dX5_nearestStart_129 : decode cX5_nearestStart 129 = .ok (.istore_n 1, 1) := by decide +kernel
theorem dX5_nearestStart_130 : decode cX5_nearestStart 130 = .ok (.aload_n 0, 1) := by decide +kernel
theorem dX5_nearestStart_131 : decode cX5_nearestStart 131 = .ok (.getfield 54, 3) := by decide +kernel
theorem dX5_nearestStart_134 : decode cX5_nearestStart 134 = .ok (.aload_n 0, 1) := by decide +kernel
theorem dX5_nearestStart_135 : decode cX5_nearestStart 135 = .ok (.getfield 47, 3) := by decide +kernel
theorem dX5_nearestStart_138 : decode cX5_nearestStart 138 = .ok (.aload_n 0, 1) := by decide +kernel
theorem dX5_nearestStart_139 : decode cX5_nearestStart 139 = .ok (.getfield 30, 3) := by decide +kernel
theorem dX5_nearestStart_142 : decode cX5_nearestStart 142 = .ok (.iload_n 3, 1) := by decide +kernel
theorem dX5_nearestStart_143 : decode cX5_nearestStart 143 = .ok (.iaload, 1) := by decide +kernel
theorem dX5_nearestStart_144 : decode cX5_nearestStart 144 = .ok (.invokevirtual 159, 3) := by decide +kernel
theorem dX5_nearestStart_147 : decode cX5_nearestStart 147 = .ok (.istore_n 2, 1) := by decide +kernel
theorem dX5_nearestStart_148 : decode cX5_nearestStart 148 = .ok (.iinc 3 1, 3) := by decide +kernel
theorem dX5_nearestStart_151 : decode cX5_nearestStart 151 = .ok (.goto (-144), 3) := by decide +kernel
theorem dX5_nearestStart_154 : decode cX5_nearestStart 154 = .ok (.iload_n 1, 1) := by decide +kernel
theorem dX5_nearestStart_155 : decode cX5_nearestStart 155 = .ok (.ireturn, 1) := by decide +kernel
theorem dX5_planBothWays_0 : decode cX5_planBothWays 0 = .ok (.aload_n 0, 1) := by decide +kernel
theorem dX5_planBothWays_1 : decode cX5_planBothWays 1 = .ok (.iconst 1, 1) := by decide +kernel
theorem dX5_planBothWays_2 : decode cX5_planBothWays 2 = .ok (.invokevirtual 109, 3) := by decide +kernel
theorem dX5_planBothWays_5 : decode cX5_planBothWays 5 = .ok (.aload_n 0, 1) := by decide +kernel
theorem dX5_planBothWays_6 : decode cX5_planBothWays 6 = .ok (.invokevirtual 113, 3) := by decide +kernel
theorem dX5_planBothWays_9 : decode cX5_planBothWays 9 = .ok (.lstore_n 1, 1) := by decide +kernel
theorem dX5_planBothWays_10 : decode cX5_planBothWays 10 = .ok (.aload_n 0, 1) := by decide +kernel
theorem dX5_planBothWays_11 : decode cX5_planBothWays 11 = .ok (.getfield 54, 3) := by decide +kernel
theorem dX5_planBothWays_14 : decode cX5_planBothWays 14 = .ok (.lload_n 1, 1) := by decide +kernel
theorem dX5_planBothWays_15 : decode cX5_planBothWays 15 = .ok (.aload_n 0, 1) := by decide +kernel
theorem dX5_planBothWays_16 : decode cX5_planBothWays 16 = .ok (.iconst 0, 1) := by decide +kernel
theorem dX5_planBothWays_17 : decode cX5_planBothWays 17 = .ok (.invokevirtual 117, 3) := by decide +kernel
theorem dX5_planBothWays_20 : decode cX5_planBothWays 20 = .ok (.ldc2_w 121, 3) := by decide +kernel
theorem dX5_planBothWays_23 : decode cX5_planBothWays 23 = .ok (.lxor, 1) := by decide +kernel
theorem dX5_planBothWays_24 : decode cX5_planBothWays 24 = .ok (.land, 1) := by decide +kernel
theorem dX5_planBothWays_25 : decode cX5_planBothWays 25 = .ok (.aload_n 0, 1) := by decide +kernel
theorem dX5_planBothWays_26 : decode cX5_planBothWays 26 = .ok (.getfield 58, 3) := by decide +kernel
theorem dX5_planBothWays_29 : decode cX5_planBothWays 29 = .ok (.invokevirtual 123, 3) := by decide +kernel
theorem dX5_planBothWays_32 : decode cX5_planBothWays 32 = .ok (.lor, 1) := by decide +kernel
theorem dX5_planBothWays_33 : decode cX5_planBothWays 33 = .ok (.invokevirtual 128, 3) := by decide +kernel
theorem dX5_planBothWays_36 : decode cX5_planBothWays 36 = .ok (.aload_n 0, 1) := by decide +kernel
theorem dX5_planBothWays_37 : decode cX5_planBothWays 37 = .ok (.invokevirtual 134, 3) := by decide +kernel
theorem dX5_planBothWays_40 : decode cX5_planBothWays 40 = .ok (.ifCond .ne 6, 3) := by decide +kernel
theorem dX5_planBothWays_43 : decode cX5_planBothWays 43 = .ok (.bipush (-8), 2) := by decide +kernel
theorem dX5_planBothWays_45 : decode cX5_planBothWays 45 = .ok (.ireturn, 1) := by decide +kernel
theorem dX5_planBothWays_46 : decode cX5_planBothWays 46 = .ok (.aload_n 0, 1) := by decide +kernel
theorem dX5_planBothWays_47 : decode cX5_planBothWays 47 = .ok (.getfield 58, 3) := by decide +kernel
theorem dX5_planBothWays_50 : decode cX5_planBothWays 50 = .ok (.invokevirtual 138, 3) := by decide +kernel
theorem dX5_planBothWays_53 : decode cX5_planBothWays 53 = .ok (.aload_n 0, 1) := by decide +kernel
theorem dX5_planBothWays_54 : decode cX5_planBothWays 54 = .ok (.invokevirtual 141, 3) := by decide +kernel
theorem dX5_planBothWays_57 : decode cX5_planBothWays 57 = .ok (.iconst 0, 1) := by decide +kernel
theorem dX5_planBothWays_58 : decode cX5_planBothWays 58 = .ok (.istore_n 3, 1) := by decide +kernel
theorem dX5_planBothWays_59 : decode cX5_planBothWays 59 = .ok (.iconst 0, 1) := by decide +kernel
theorem dX5_planBothWays_60 : decode cX5_planBothWays 60 = .ok (.istore 4, 2) := by decide +kernel
theorem dX5_planBothWays_62 : decode cX5_planBothWays 62 = .ok (.iload 4, 2) := by decide +kernel
theorem dX5_planBothWays_64 : decode cX5_planBothWays 64 = .ok (.aload_n 0, 1) := by decide +kernel
theorem dX5_planBothWays_65 : decode cX5_planBothWays 65 = .ok (.getfield 33, 3) := by decide +kernel
theorem dX5_planBothWays_68 : decode cX5_planBothWays 68 = .ok (.if_icmp .ge 19, 3) := by decide +kernel
theorem dX5_planBothWays_71 : decode cX5_planBothWays 71 = .ok (.iload_n 3, 1) := by decide +kernel
theorem dX5_planBothWays_72 : decode cX5_planBothWays 72 = .ok (.aload_n 0, 1) := by decide +kernel
theorem dX5_planBothWays_73 : decode cX5_planBothWays 73 = .ok (.getfield 37, 3) := by decide +kernel
theorem dX5_planBothWays_76 : decode cX5_planBothWays 76 = .ok (.iload 4, 2) := by decide +kernel
theorem dX5_planBothWays_78 : decode cX5_planBothWays 78 = .ok (.iaload, 1) := by decide +kernel
theorem dX5_planBothWays_79 : decode cX5_planBothWays 79 = .ok (.iadd, 1) := by decide +kernel
theorem dX5_planBothWays_80 : decode cX5_planBothWays 80 = .ok (.istore_n 3, 1) := by decide +kernel
theorem dX5_planBothWays_81 : decode cX5_planBothWays 81 = .ok (.iinc 4 1, 3) := by decide +kernel
theorem dX5_planBothWays_84 : decode cX5_planBothWays 84 = .ok (.goto (-22), 3) := by decide +kernel
theorem dX5_planBothWays_87 : decode cX5_planBothWays 87 = .ok (.iload_n 3, 1) := by decide +kernel
theorem dX5_planBothWays_88 : decode cX5_planBothWays 88 = .ok (.sipush 2000, 3) := by decide +kernel
theorem dX5_planBothWays_91 : decode cX5_planBothWays 91 = .ok (.if_icmp .le 6, 3) := by decide +kernel
theorem dX5_planBothWays_94 : decode cX5_planBothWays 94 = .ok (.bipush (-3), 2) := by decide +kernel
theorem dX5_planBothWays_96 : decode cX5_planBothWays 96 = .ok (.ireturn, 1) := by decide +kernel
theorem dX5_planBothWays_97 : decode cX5_planBothWays 97 = .ok (.aload_n 0, 1) := by decide +kernel
theorem dX5_planBothWays_98 : decode cX5_planBothWays 98 = .ok (.iload_n 3, 1) := by decide +kernel
theorem dX5_planBothWays_99 : decode cX5_planBothWays 99 = .ok (.invokevirtual 144, 3) := by decide +kernel
theorem dX5_planBothWays_102 : decode cX5_planBothWays 102 = .ok (.iconst 0, 1) := by decide +kernel
theorem dX5_planBothWays_103 : decode cX5_planBothWays 103 = .ok (.ireturn, 1) := by decide +kernel
theorem dX5_planOneWays_0 : decode cX5_planOneWays 0 = .ok (.aload_n 0, 1) := by decide +kernel
theorem dX5_planOneWays_1 : decode cX5_planOneWays 1 = .ok (.iconst 2, 1) := by decide +kernel
theorem dX5_planOneWays_2 : decode cX5_planOneWays 2 = .ok (.invokevirtual 109, 3) := by decide +kernel
theorem dX5_planOneWays_5 : decode cX5_planOneWays 5 = .ok (.aload_n 0, 1) := by decide +kernel
theorem dX5_planOneWays_6 : decode cX5_planOneWays 6 = .ok (.getfield 54, 3) := by decide +kernel
theorem dX5_planOneWays_9 : decode cX5_planOneWays 9 = .ok (.aload_n 0, 1) := by decide +kernel
theorem dX5_planOneWays_10 : decode cX5_planOneWays 10 = .ok (.invokevirtual 113, 3) := by decide +kernel
theorem dX5_planOneWays_13 : decode cX5_planOneWays 13 = .ok (.lconst 1, 1) := by decide +kernel
theorem dX5_planOneWays_14 : decode cX5_planOneWays 14 = .ok (.lor, 1) := by decide +kernel
theorem dX5_planOneWays_15 : decode cX5_planOneWays 15 = .ok (.invokevirtual 128, 3) := by decide +kernel
theorem dX5_planOneWays_18 : decode cX5_planOneWays 18 = .ok (.iconst 0, 1) := by decide +kernel
theorem dX5_planOneWays_19 : decode cX5_planOneWays 19 = .ok (.istore_n 1, 1) := by decide +kernel
theorem dX5_planOneWays_20 : decode cX5_planOneWays 20 = .ok (.iconst 0, 1) := by decide +kernel
theorem dX5_planOneWays_21 : decode cX5_planOneWays 21 = .ok (.istore_n 2, 1) := by decide +kernel
theorem dX5_planOneWays_22 : decode cX5_planOneWays 22 = .ok (.iload_n 2, 1) := by decide +kernel
theorem dX5_planOneWays_23 : decode cX5_planOneWays 23 = .ok (.aload_n 0, 1) := by decide +kernel
theorem dX5_planOneWays_24 : decode cX5_planOneWays 24 = .ok (.getfield 33, 3) := by decide +kernel
theorem dX5_planOneWays_27 : decode cX5_planOneWays 27 = .ok (.if_icmp .ge 18, 3) := by decide +kernel
theorem dX5_planOneWays_30 : decode cX5_planOneWays 30 = .ok (.iload_n 1, 1) := by decide +kernel
theorem dX5_planOneWays_31 : decode cX5_planOneWays 31 = .ok (.aload_n 0, 1) := by decide +kernel
theorem dX5_planOneWays_32 : decode cX5_planOneWays 32 = .ok (.getfield 40, 3) := by decide +kernel
theorem dX5_planOneWays_35 : decode cX5_planOneWays 35 = .ok (.iload_n 2, 1) := by decide +kernel
theorem dX5_planOneWays_36 : decode cX5_planOneWays 36 = .ok (.iaload, 1) := by decide +kernel
theorem dX5_planOneWays_37 : decode cX5_planOneWays 37 = .ok (.iadd, 1) := by decide +kernel
theorem dX5_planOneWays_38 : decode cX5_planOneWays 38 = .ok (.istore_n 1, 1) := by decide +kernel
theorem dX5_planOneWays_39 : decode cX5_planOneWays 39 = .ok (.iinc 2 1, 3) := by decide +kernel
theorem dX5_planOneWays_42 : decode cX5_planOneWays 42 = .ok (.goto (-20), 3) := by decide +kernel
theorem dX5_planOneWays_45 : decode cX5_planOneWays 45 = .ok (.iconst 0, 1) := by decide +kernel
theorem dX5_planOneWays_46 : decode cX5_planOneWays 46 = .ok (.istore_n 2, 1) := by decide +kernel
theorem dX5_planOneWays_47 : decode cX5_planOneWays 47 = .ok (.iconst 0, 1) := by decide +kernel
theorem dX5_planOneWays_48 : decode cX5_planOneWays 48 = .ok (.istore_n 3, 1) := by decide +kernel
theorem dX5_planOneWays_49 : decode cX5_planOneWays 49 = .ok (.iload_n 3, 1) := by decide +kernel
theorem dX5_planOneWays_50 : decode cX5_planOneWays 50 = .ok (.iload_n 1, 1) := by decide +kernel
theorem dX5_planOneWays_51 : decode cX5_planOneWays 51 = .ok (.if_icmp .ge 75, 3) := by decide +kernel
theorem dX5_planOneWays_54 : decode cX5_planOneWays 54 = .ok (.iload_n 2, 1) := by decide +kernel
theorem dX5_planOneWays_55 : decode cX5_planOneWays 55 = .ok (.ifCond .ne 71, 3) := by decide +kernel
theorem dX5_planOneWays_58 : decode cX5_planOneWays 58 = .ok (.aload_n 0, 1) := by decide +kernel
theorem dX5_planOneWays_59 : decode cX5_planOneWays 59 = .ok (.invokevirtual 190, 3) := by decide +kernel
theorem dX5_planOneWays_62 : decode cX5_planOneWays 62 = .ok (.istore 4, 2) := by decide +kernel
theorem dX5_planOneWays_64 : decode cX5_planOneWays 64 = .ok (.iload 4, 2) := by decide +kernel
theorem dX5_planOneWays_66 : decode cX5_planOneWays 66 = .ok (.iconst (-1), 1) := by decide +kernel
theorem dX5_planOneWays_67 : decode cX5_planOneWays 67 = .ok (.if_icmp .ne 6, 3) := by decide +kernel
theorem dX5_planOneWays_70 : decode cX5_planOneWays 70 = .ok (.bipush (-8), 2) := by decide +kernel
theorem dX5_planOneWays_72 : decode cX5_planOneWays 72 = .ok (.ireturn, 1) := by decide +kernel
theorem dX5_planOneWays_73 : decode cX5_planOneWays 73 = .ok (.iload 4, 2) := by decide +kernel
theorem dX5_planOneWays_75 : decode cX5_planOneWays 75 = .ok (.iconst 2, 1) := by decide +kernel
theorem dX5_planOneWays_76 : decode cX5_planOneWays 76 = .ok (.idiv, 1) := by decide +kernel
theorem dX5_planOneWays_77 : decode cX5_planOneWays 77 = .ok (.istore 5, 2) := by decide +kernel
theorem dX5_planOneWays_79 : decode cX5_planOneWays 79 = .ok (.aload_n 0, 1) := by decide +kernel
theorem dX5_planOneWays_80 : decode cX5_planOneWays 80 = .ok (.iload 4, 2) := by decide +kernel
theorem dX5_planOneWays_82 : decode cX5_planOneWays 82 = .ok (.iconst 2, 1) := by decide +kernel
theorem dX5_planOneWays_83 : decode cX5_planOneWays 83 = .ok (.irem, 1) := by decide +kernel
theorem dX5_planOneWays_84 : decode cX5_planOneWays 84 = .ok (.ifCond .ne 13, 3) := by decide +kernel
theorem dX5_planOneWays_87 : decode cX5_planOneWays 87 = .ok (.aload_n 0, 1) := by decide +kernel
theorem dX5_planOneWays_88 : decode cX5_planOneWays 88 = .ok (.getfield 27, 3) := by decide +kernel
theorem dX5_planOneWays_91 : decode cX5_planOneWays 91 = .ok (.iload 5, 2) := by decide +kernel
theorem dX5_planOneWays_93 : decode cX5_planOneWays 93 = .ok (.iaload, 1) := by decide +kernel
theorem dX5_planOneWays_94 : decode cX5_planOneWays 94 = .ok (.goto 10, 3) := by decide +kernel
theorem dX5_planOneWays_97 : decode cX5_planOneWays 97 = .ok (.aload_n 0, 1) := by decide +kernel
theorem dX5_planOneWays_98 : decode cX5_planOneWays 98 = .ok (.getfield 30, 3) := by decide +kernel
theorem dX5_planOneWays_101 : decode cX5_planOneWays 101 = .ok (.iload 5, 2) := by decide +kernel
theorem dX5_planOneWays_103 : decode cX5_planOneWays 103 = .ok (.iaload, 1) := by decide +kernel
theorem dX5_planOneWays_104 : decode cX5_planOneWays 104 = .ok (.invokevirtual 193, 3) := by decide +kernel
theorem dX5_planOneWays_107 : decode cX5_planOneWays 107 = .ok (.istore_n 2, 1) := by decide +kernel
theorem dX5_planOneWays_108 : decode cX5_planOneWays 108 = .ok (.iload_n 2, 1) := by decide +kernel
theorem dX5_planOneWays_109 : decode cX5_planOneWays 109 = .ok (.ifCond .ne 11, 3) := by decide +kernel
theorem dX5_planOneWays_112 : decode cX5_planOneWays 112 = .ok (.aload_n 0, 1) := by decide +kernel
theorem dX5_planOneWays_113 : decode cX5_planOneWays 113 = .ok (.iload 5, 2) := by decide +kernel
theorem dX5_planOneWays_115 : decode cX5_planOneWays 115 = .ok (.iconst 1, 1) := by decide +kernel
theorem dX5_planOneWays_116 : decode cX5_planOneWays 116 = .ok (.invokevirtual 186, 3) := by decide +kernel
theorem dX5_planOneWays_119 : decode cX5_planOneWays 119 = .ok (.istore_n 2, 1) := by decide +kernel
theorem dX5_planOneWays_120 : decode cX5_planOneWays 120 = .ok (.iinc 3 1, 3) := by decide +kernel
theorem dX5_planOneWays_123 : decode cX5_planOneWays 123 = .ok (.goto (-74), 3) := by decide +kernel
theorem dX5_planOneWays_126 : decode cX5_planOneWays 126 = .ok (.iload_n 2, 1) := by decide +kernel
theorem dX5_planOneWays_127 : decode cX5_planOneWays 127 = .ok (.ifCond .eq 7, 3) := by decide +kernel
theorem dX5_planOneWays_130 : decode cX5_planOneWays 130 = .ok (.iload_n 2, 1) := by decide +kernel
theorem dX5_planOneWays_131 : decode cX5_planOneWays 131 = .ok (.goto 8, 3) := by decide +kernel
theorem dX5_planOneWays_134 : decode cX5_planOneWays 134 = .ok (.aload_n 0, 1) := by decide +kernel
theorem dX5_planOneWays_135 : decode cX5_planOneWays 135 = .ok (.iconst 0, 1) := by decide +kernel
theorem dX5_planOneWays_136 : decode cX5_planOneWays 136 = .ok (.invokevirtual 193, 3) := by decide +kernel
theorem dX5_planOneWays_139 : decode cX5_planOneWays 139 = .ok (.ireturn, 1) := by decide +kernel
theorem dX5_reachedFrom_0 : decode cX5_reachedFrom 0 = .ok (.lconst 1, 1) := by decide +kernel
theorem dX5_reachedFrom_1 : decode cX5_reachedFrom 1 = .ok (.iload_n 1, 1) := by decide +kernel
theorem dX5_reachedFrom_2 : decode cX5_reachedFrom 2 = .ok (.lshl, 1) := by decide +kernel
theorem dX5_reachedFrom_3 : decode cX5_reachedFrom 3 = .ok (.lstore_n 2, 1) := by decide +kernel
theorem dX5_reachedFrom_4 : decode cX5_reachedFrom 4 = .ok (.lload_n 2, 1) := by decide +kernel
theorem dX5_reachedFrom_5 : decode cX5_reachedFrom 5 = .ok (.lstore 4, 2) := by decide +kernel
theorem dX5_reachedFrom_7 : decode cX5_reachedFrom 7 = .ok (.iconst 0, 1) := by decide +kernel
theorem dX5_reachedFrom_8 : decode cX5_reachedFrom 8 = .ok (.istore 6, 2) := by decide +kernel
theorem dX5_reachedFrom_10 : decode cX5_reachedFrom 10 = .ok (.iload 6, 2) := by decide +kernel
theorem dX5_reachedFrom_12 : decode cX5_reachedFrom 12 = .ok (.bipush 60, 2) := by decide +kernel
theorem dX5_reachedFrom_14 : decode cX5_reachedFrom 14 = .ok (.if_icmp .ge 60, 3) := by decide +kernel
theorem dX5_reachedFrom_17 : decode cX5_reachedFrom 17 = .ok (.lload 4, 2) := by decide +kernel
theorem dX5_reachedFrom_19 : decode cX5_reachedFrom 19 = .ok (.lconst 0, 1) := by decide +kernel
theorem dX5_reachedFrom_20 : decode cX5_reachedFrom 20 = .ok (.lcmp, 1) := by decide +kernel
theorem dX5_reachedFrom_21 : decode cX5_reachedFrom 21 = .ok (.ifCond .eq 53, 3) := by decide +kernel
theorem dX5_reachedFrom_24 : decode cX5_reachedFrom 24 = .ok (.lload 4, 2) := by decide +kernel
theorem dX5_reachedFrom_26 : decode cX5_reachedFrom 26 = .ok (.invokestatic 150, 3) := by decide +kernel
theorem dX5_reachedFrom_29 : decode cX5_reachedFrom 29 = .ok (.istore 7, 2) := by decide +kernel
theorem dX5_reachedFrom_31 : decode cX5_reachedFrom 31 = .ok (.lload 4, 2) := by decide +kernel
theorem dX5_reachedFrom_33 : decode cX5_reachedFrom 33 = .ok (.lload 4, 2) := by decide +kernel
theorem dX5_reachedFrom_35 : decode cX5_reachedFrom 35 = .ok (.lconst 1, 1) := by decide +kernel
theorem dX5_reachedFrom_36 : decode cX5_reachedFrom 36 = .ok (.lsub, 1) := by decide +kernel
theorem dX5_reachedFrom_37 : decode cX5_reachedFrom 37 = .ok (.land, 1) := by decide +kernel
theorem dX5_reachedFrom_38 : decode cX5_reachedFrom 38 = .ok (.lstore 4, 2) := by decide +kernel
theorem dX5_reachedFrom_40 : decode cX5_reachedFrom 40 = .ok (.lload 4, 2) := by decide +kernel
theorem dX5_reachedFrom_42 : decode cX5_reachedFrom 42 = .ok (.aload_n 0, 1) := by decide +kernel
theorem dX5_reachedFrom_43 : decode cX5_reachedFrom 43 = .ok (.getfield 43, 3) := by decide +kernel
theorem dX5_reachedFrom_46 : decode cX5_reachedFrom 46 = .ok (.iload 7, 2) := by decide +kernel
theorem dX5_reachedFrom_48 : decode cX5_reachedFrom 48 = .ok (.laload, 1) := by decide +kernel
theorem dX5_reachedFrom_49 : decode cX5_reachedFrom 49 = .ok (.lload_n 2, 1) := by decide +kernel
theorem dX5_reachedFrom_50 : decode cX5_reachedFrom 50 = .ok (.ldc2_w 121, 3) := by decide +kernel
theorem dX5_reachedFrom_53 : decode cX5_reachedFrom 53 = .ok (.lxor, 1) := by decide +kernel
theorem dX5_reachedFrom_54 : decode cX5_reachedFrom 54 = .ok (.land, 1) := by decide +kernel
theorem dX5_reachedFrom_55 : decode cX5_reachedFrom 55 = .ok (.lor, 1) := by decide +kernel
theorem dX5_reachedFrom_56 : decode cX5_reachedFrom 56 = .ok (.lstore 4, 2) := by decide +kernel
theorem dX5_reachedFrom_58 : decode cX5_reachedFrom 58 = .ok (.lload_n 2, 1) := by decide +kernel
theorem dX5_reachedFrom_59 : decode cX5_reachedFrom 59 = .ok (.aload_n 0, 1) := by decide +kernel
theorem dX5_reachedFrom_60 : decode cX5_reachedFrom 60 = .ok (.getfield 43, 3) := by decide +kernel
theorem dX5_reachedFrom_63 : decode cX5_reachedFrom 63 = .ok (.iload 7, 2) := by decide +kernel
theorem dX5_reachedFrom_65 : decode cX5_reachedFrom 65 = .ok (.laload, 1) := by decide +kernel
theorem dX5_reachedFrom_66 : decode cX5_reachedFrom 66 = .ok (.lor, 1) := by decide +kernel
theorem dX5_reachedFrom_67 : decode cX5_reachedFrom 67 = .ok (.lstore_n 2, 1) := by decide +kernel
theorem dX5_reachedFrom_68 : decode cX5_reachedFrom 68 = .ok (.iinc 6 1, 3) := by decide +kernel
theorem dX5_reachedFrom_71 : decode cX5_reachedFrom 71 = .ok (.goto (-61), 3) := by decide +kernel
theorem dX5_reachedFrom_74 : decode cX5_reachedFrom 74 = .ok (.lload_n 2, 1) := by decide +kernel
theorem dX5_reachedFrom_75 : decode cX5_reachedFrom 75 = .ok (.lreturn, 1) := by decide +kernel
theorem dX6_init_0 : decode cX6_init 0 = .ok (.aload_n 0, 1) := by decide +kernel
theorem dX6_init_1 : decode cX6_init 1 = .ok (.invokespecial 3, 3) := by decide +kernel
theorem dX6_init_4 : decode cX6_init 4 = .ok (.aload_n 0, 1) := by decide +kernel
theorem dX6_init_5 : decode cX6_init 5 = .ok (.aload_n 1, 1) := by decide +kernel
theorem dX6_init_6 : decode cX6_init 6 = .ok (.putfield 9, 3) := by decide +kernel
theorem dX6_init_9 : decode cX6_init 9 = .ok (.aload_n 0, 1) := by decide +kernel
theorem dX6_init_10 : decode cX6_init 10 = .ok (.iload_n 2, 1) := by decide +kernel
theorem dX6_init_11 : decode cX6_init 11 = .ok (.putfield 15, 3) := by decide +kernel
theorem dX6_init_14 : decode cX6_init 14 = .ok (.aload_n 0, 1) := by decide +kernel
theorem dX6_init_15 : decode cX6_init 15 = .ok (.iload_n 3, 1) := by decide +kernel
theorem dX6_init_16 : decode cX6_init 16 = .ok (.putfield 19, 3) := by decide +kernel
theorem dX6_init_19 : decode cX6_init 19 = .ok (.return_, 1) := by decide +kernel
theorem dX6_passes_0 : decode cX6_passes 0 = .ok (.aload_n 0, 1) := by decide +kernel
theorem dX6_passes_1 : decode cX6_passes 1 = .ok (.getfield 9, 3) := by decide +kernel
theorem dX6_passes_4 : decode cX6_passes 4 = .ok (.dup, 1) := by decide +kernel
theorem dX6_passes_5 : decode cX6_passes 5 = .ok (.getfield 22, 3) := by decide +kernel
theorem dX6_passes_8 : decode cX6_passes 8 = .ok (.bipush 100, 2) := by decide +kernel
theorem dX6_passes_10 : decode cX6_passes 10 = .ok (.iadd, 1) := by decide +kernel
theorem dX6_passes_11 : decode cX6_passes 11 = .ok (.putfield 22, 3) := by decide +kernel
theorem dX6_passes_14 : decode cX6_passes 14 = .ok (.aload_n 0, 1) := by decide +kernel
theorem dX6_passes_15 : decode cX6_passes 15 = .ok (.iload_n 1, 1) := by decide +kernel
theorem dX6_passes_16 : decode cX6_passes 16 = .ok (.iconst 2, 1) := by decide +kernel
theorem dX6_passes_17 : decode cX6_passes 17 = .ok (.invokevirtual 27, 3) := by decide +kernel
theorem dX6_passes_20 : decode cX6_passes 20 = .ok (.ireturn, 1) := by decide +kernel
theorem dX6_passesUpTo_0 : decode cX6_passesUpTo 0 = .ok (.iload_n 1, 1) := by decide +kernel
theorem dX6_passesUpTo_1 : decode cX6_passesUpTo 1 = .ok (.aload_n 0, 1) := by decide +kernel
theorem dX6_passesUpTo_2 : decode cX6_passesUpTo 2 = .ok (.getfield 19, 3) := by decide +kernel
theorem dX6_passesUpTo_5 : decode cX6_passesUpTo 5 = .ok (.if_icmp .gt 5, 3) := by decide +kernel
theorem dX6_passesUpTo_8 : decode cX6_passesUpTo 8 = .ok (.iconst 1, 1) := by decide +kernel
theorem dX6_passesUpTo_9 : decode cX6_passesUpTo 9 = .ok (.ireturn, 1) := by decide +kernel
theorem dX6_passesUpTo_10 : decode cX6_passesUpTo 10 = .ok (.iload_n 1, 1) := by decide +kernel
theorem dX6_passesUpTo_11 : decode cX6_passesUpTo 11 = .ok (.iload_n 2, 1) := by decide +kernel
theorem dX6_passesUpTo_12 : decode cX6_passesUpTo 12 = .ok (.aload_n 0, 1) := by decide +kernel
theorem dX6_passesUpTo_13 : decode cX6_passesUpTo 13 = .ok (.getfield 19, 3) := by decide +kernel
theorem dX6_passesUpTo_16 : decode cX6_passesUpTo 16 = .ok (.imul, 1) := by decide +kernel
theorem dX6_passesUpTo_17 : decode cX6_passesUpTo 17 = .ok (.if_icmp .gt 7, 3) := by decide +kernel
theorem dX6_passesUpTo_20 : decode cX6_passesUpTo 20 = .ok (.iload_n 2, 1) := by decide +kernel
theorem dX6_passesUpTo_21 : decode cX6_passesUpTo 21 = .ok (.goto 4, 3) := by decide +kernel
theorem dX6_passesUpTo_24 : decode cX6_passesUpTo 24 = .ok (.iconst 0, 1) := by decide +kernel
theorem dX6_passesUpTo_25 : decode cX6_passesUpTo 25 = .ok (.ireturn, 1) := by decide +kernel
theorem dX6_takes_0 : decode cX6_takes 0 = .ok (.aload_n 0, 1) := by decide +kernel
theorem dX6_takes_1 : decode cX6_takes 1 = .ok (.getfield 9, 3) := by decide +kernel
theorem dX6_takes_4 : decode cX6_takes 4 = .ok (.dup, 1) := by decide +kernel
theorem dX6_takes_5 : decode cX6_takes 5 = .ok (.getfield 22, 3) := by decide +kernel
theorem dX6_takes_8 : decode cX6_takes 8 = .ok (.iconst 1, 1) := by decide +kernel
theorem dX6_takes_9 : decode cX6_takes 9 = .ok (.iadd, 1) := by decide +kernel
theorem dX6_takes_10 : decode cX6_takes 10 = .ok (.putfield 22, 3) := by decide +kernel
theorem dX6_takes_13 : decode cX6_takes 13 = .ok (.aload_n 0, 1) := by decide +kernel
theorem dX6_takes_14 : decode cX6_takes 14 = .ok (.getfield 15, 3) := by decide +kernel
theorem dX6_takes_17 : decode cX6_takes 17 = .ok (.ifCond .le 19, 3) := by decide +kernel
theorem dX6_takes_20 : decode cX6_takes 20 = .ok (.iload_n 1, 1) := by decide +kernel
theorem dX6_takes_21 : decode cX6_takes 21 = .ok (.aload_n 0, 1) := by decide +kernel
theorem dX6_takes_22 : decode cX6_takes 22 = .ok (.getfield 15, 3) := by decide +kernel
theorem dX6_takes_25 : decode cX6_takes 25 = .ok (.iadd, 1) := by decide +kernel
theorem dX6_takes_26 : decode cX6_takes 26 = .ok (.iconst 1, 1) := by decide +kernel
theorem dX6_takes_27 : decode cX6_takes 27 = .ok (.isub, 1) := by decide +kernel
theorem dX6_takes_28 : decode cX6_takes 28 = .ok (.aload_n 0, 1) := by decide +kernel
theorem dX6_takes_29 : decode cX6_takes 29 = .ok (.getfield 15, 3) := by decide +kernel
theorem dX6_takes_32 : decode cX6_takes 32 = .ok (.idiv, 1) := by decide +kernel
theorem dX6_takes_33 : decode cX6_takes 33 = .ok (.goto 4, 3) := by decide +kernel
theorem dX6_takes_36 : decode cX6_takes 36 = .ok (.iconst 0, 1) := by decide +kernel
theorem dX6_takes_37 : decode cX6_takes 37 = .ok (.ireturn, 1) := by decide +kernel
theorem dX7_init_0 : decode cX7_init 0 = .ok (.aload_n 0, 1) := by decide +kernel
theorem dX7_init_1 : decode cX7_init 1 = .ok (.aload_n 1, 1) := by decide +kernel
theorem dX7_init_2 : decode cX7_init 2 = .ok (.iload_n 2, 1) := by decide +kernel
theorem dX7_init_3 : decode cX7_init 3 = .ok (.iload_n 3, 1) := by decide +kernel
theorem dX7_init_4 : decode cX7_init 4 = .ok (.invokespecial 1, 3) := by decide +kernel
theorem dX7_init_7 : decode cX7_init 7 = .ok (.return_, 1) := by decide +kernel
theorem dX7_takes_0 : decode cX7_takes 0 = .ok (.aload_n 0, 1) := by decide +kernel
theorem dX7_takes_1 : decode cX7_takes 1 = .ok (.getfield 7, 3) := by decide +kernel
theorem dX7_takes_4 : decode cX7_takes 4 = .ok (.dup, 1) := by decide +kernel
theorem dX7_takes_5 : decode cX7_takes 5 = .ok (.getfield 13, 3) := by decide +kernel
theorem dX7_takes_8 : decode cX7_takes 8 = .ok (.bipush 20, 2) := by decide +kernel
theorem dX7_takes_10 : decode cX7_takes 10 = .ok (.iadd, 1) := by decide +kernel
theorem dX7_takes_11 : decode cX7_takes 11 = .ok (.putfield 13, 3) := by decide +kernel
theorem dX7_takes_14 : decode cX7_takes 14 = .ok (.aload_n 0, 1) := by decide +kernel
theorem dX7_takes_15 : decode cX7_takes 15 = .ok (.iload_n 1, 1) := by decide +kernel
theorem dX7_takes_16 : decode cX7_takes 16 = .ok (.invokespecial 19, 3) := by decide +kernel
theorem dX7_takes_19 : decode cX7_takes 19 = .ok (.iconst 2, 1) := by decide +kernel
theorem dX7_takes_20 : decode cX7_takes 20 = .ok (.iadd, 1) := by decide +kernel
theorem dX7_takes_21 : decode cX7_takes 21 = .ok (.ireturn, 1) := by decide +kernel
theorem dX8_add_0 : decode cX8_add 0 = .ok (.aload_n 0, 1) := by decide +kernel
theorem dX8_add_1 : decode cX8_add 1 = .ok (.aload_n 0, 1) := by decide +kernel
theorem dX8_add_2 : decode cX8_add 2 = .ok (.getfield 9, 3) := by decide +kernel
theorem dX8_add_5 : decode cX8_add 5 = .ok (.iconst 1, 1) := by decide +kernel
theorem dX8_add_6 : decode cX8_add 6 = .ok (.iadd, 1) := by decide +kernel
theorem dX8_add_7 : decode cX8_add 7 = .ok (.invokevirtual 28, 3) := by decide +kernel
theorem dX8_add_10 : decode cX8_add 10 = .ok (.iconst 0, 1) := by decide +kernel
theorem dX8_add_11 : decode cX8_add 11 = .ok (.istore_n 1, 1) := by decide +kernel
theorem dX8_add_12 : decode cX8_add 12 = .ok (.iload_n 1, 1) := by decide +kernel
theorem dX8_add_13 : decode cX8_add 13 = .ok (.aload_n 0, 1) := by decide +kernel
theorem dX8_add_14 : decode cX8_add 14 = .ok (.getfield 17, 3) := by decide +kernel
theorem dX8_add_17 : decode cX8_add 17 = .ok (.arraylength, 1) := by decide +kernel
theorem dX8_add_18 : decode cX8_add 18 = .ok (.if_icmp .ge 21, 3) := by decide +kernel
theorem dX8_add_21 : decode cX8_add 21 = .ok (.aload_n 0, 1) := by decide +kernel
theorem dX8_add_22 : decode cX8_add 22 = .ok (.getfield 17, 3) := by decide +kernel
theorem dX8_add_25 : decode cX8_add 25 = .ok (.iload_n 1, 1) := by decide +kernel
theorem dX8_add_26 : decode cX8_add 26 = .ok (.aaload, 1) := by decide +kernel
theorem dX8_add_27 : decode cX8_add 27 = .ok (.aload_n 0, 1) := by decide +kernel
theorem dX8_add_28 : decode cX8_add 28 = .ok (.getfield 9, 3) := by decide +kernel
theorem dX8_add_31 : decode cX8_add 31 = .ok (.iconst 0, 1) := by decide +kernel
theorem dX8_add_32 : decode cX8_add 32 = .ok (.iastore, 1) := by decide +kernel
theorem dX8_add_33 : decode cX8_add 33 = .ok (.iinc 1 1, 3) := by decide +kernel
theorem dX8_add_36 : decode cX8_add 36 = .ok (.goto (-24), 3) := by decide +kernel
theorem dX8_add_39 : decode cX8_add 39 = .ok (.aload_n 0, 1) := by decide +kernel
theorem dX8_add_40 : decode cX8_add 40 = .ok (.dup, 1) := by decide +kernel
theorem dX8_add_41 : decode cX8_add 41 = .ok (.getfield 9, 3) := by decide +kernel
theorem dX8_add_44 : decode cX8_add 44 = .ok (.iconst 1, 1) := by decide +kernel
theorem dX8_add_45 : decode cX8_add 45 = .ok (.iadd, 1) := by decide +kernel
theorem dX8_add_46 : decode cX8_add 46 = .ok (.putfield 9, 3) := by decide +kernel
theorem dX8_add_49 : decode cX8_add 49 = .ok (.aload_n 0, 1) := by decide +kernel
theorem dX8_add_50 : decode cX8_add 50 = .ok (.getfield 9, 3) := by decide +kernel
theorem dX8_add_53 : decode cX8_add 53 = .ok (.iconst 1, 1) := by decide +kernel
theorem dX8_add_54 : decode cX8_add 54 = .ok (.isub, 1) := by decide +kernel
theorem dX8_add_55 : decode cX8_add 55 = .ok (.ireturn, 1) := by decide +kernel
theorem dX8_become_0 : decode cX8_become 0 = .ok (.aload_n 0, 1) := by decide +kernel
theorem dX8_become_1 : decode cX8_become 1 = .ok (.aload_n 1, 1) := by decide +kernel
theorem dX8_become_2 : decode cX8_become 2 = .ok (.getfield 9, 3) := by decide +kernel
theorem dX8_become_5 : decode cX8_become 5 = .ok (.invokevirtual 28, 3) := by decide +kernel
theorem dX8_become_8 : decode cX8_become 8 = .ok (.iconst 0, 1) := by decide +kernel
theorem dX8_become_9 : decode cX8_become 9 = .ok (.istore_n 2, 1) := by decide +kernel
theorem dX8_become_10 : decode cX8_become 10 = .ok (.iload_n 2, 1) := by decide +kernel
theorem dX8_become_11 : decode cX8_become 11 = .ok (.aload_n 0, 1) := by decide +kernel
theorem dX8_become_12 : decode cX8_become 12 = .ok (.getfield 17, 3) := by decide +kernel
theorem dX8_become_15 : decode cX8_become 15 = .ok (.arraylength, 1) := by decide +kernel
theorem dX8_become_16 : decode cX8_become 16 = .ok (.if_icmp .ge 39, 3) := by decide +kernel
theorem dX8_become_19 : decode cX8_become 19 = .ok (.iload_n 2, 1) := by decide +kernel
theorem dX8_become_20 : decode cX8_become 20 = .ok (.aload_n 1, 1) := by decide +kernel
theorem dX8_become_21 : decode cX8_become 21 = .ok (.getfield 17, 3) := by decide +kernel
theorem dX8_become_24 : decode cX8_become 24 = .ok (.arraylength, 1) := by decide +kernel
theorem dX8_become_25 : decode cX8_become 25 = .ok (.if_icmp .ge 30, 3) := by decide +kernel
theorem dX8_become_28 : decode cX8_become 28 = .ok (.aload_n 1, 1) := by decide +kernel
theorem dX8_become_29 : decode cX8_become 29 = .ok (.getfield 17, 3) := by decide +kernel
theorem dX8_become_32 : decode cX8_become 32 = .ok (.iload_n 2, 1) := by decide +kernel
theorem dX8_become_33 : decode cX8_become 33 = .ok (.aaload, 1) := by decide +kernel
theorem dX8_become_34 : decode cX8_become 34 = .ok (.iconst 0, 1) := by decide +kernel
theorem dX8_become_35 : decode cX8_become 35 = .ok (.aload_n 0, 1) := by decide +kernel
theorem dX8_become_36 : decode cX8_become 36 = .ok (.getfield 17, 3) := by decide +kernel
theorem dX8_become_39 : decode cX8_become 39 = .ok (.iload_n 2, 1) := by decide +kernel
theorem dX8_become_40 : decode cX8_become 40 = .ok (.aaload, 1) := by decide +kernel
theorem dX8_become_41 : decode cX8_become 41 = .ok (.iconst 0, 1) := by decide +kernel
theorem dX8_become_42 : decode cX8_become 42 = .ok (.aload_n 1, 1) := by decide +kernel
theorem dX8_become_43 : decode cX8_become 43 = .ok (.getfield 9, 3) := by decide +kernel
theorem dX8_become_46 : decode cX8_become 46 = .ok (.invokestatic 32, 3) := by decide +kernel
theorem dX8_become_49 : decode cX8_become 49 = .ok (.iinc 2 1, 3) := by decide +kernel
theorem dX8_become_52 : decode cX8_become 52 = .ok (.goto (-42), 3) := by decide +kernel
theorem dX8_become_55 : decode cX8_become 55 = .ok (.aload_n 0, 1) := by decide +kernel
theorem dX8_become_56 : decode cX8_become 56 = .ok (.aload_n 1, 1) := by decide +kernel
theorem dX8_become_57 : decode cX8_become 57 = .ok (.getfield 9, 3) := by decide +kernel
theorem dX8_become_60 : decode cX8_become 60 = .ok (.putfield 9, 3) := by decide +kernel
theorem dX8_become_63 : decode cX8_become 63 = .ok (.return_, 1) := by decide +kernel
theorem dX8_digestOf_0 : decode cX8_digestOf 0 = .ok (.iload_n 1, 1) := by decide +kernel
theorem dX8_digestOf_1 : decode cX8_digestOf 1 = .ok (.istore_n 2, 1) := by decide +kernel
theorem dX8_digestOf_2 : decode cX8_digestOf 2 = .ok (.iconst 0, 1) := by decide +kernel
theorem dX8_digestOf_3 : decode cX8_digestOf 3 = .ok (.istore_n 3, 1) := by decide +kernel
theorem dX8_digestOf_4 : decode cX8_digestOf 4 = .ok (.iload_n 3, 1) := by decide +kernel
theorem dX8_digestOf_5 : decode cX8_digestOf 5 = .ok (.aload_n 0, 1) := by decide +kernel
theorem dX8_digestOf_6 : decode cX8_digestOf 6 = .ok (.getfield 9, 3) := by decide +kernel
theorem dX8_digestOf_9 : decode cX8_digestOf 9 = .ok (.if_icmp .ge 43, 3) := by decide +kernel
theorem dX8_digestOf_12 : decode cX8_digestOf 12 = .ok (.iconst 0, 1) := by decide +kernel
theorem dX8_digestOf_13 : decode cX8_digestOf 13 = .ok (.istore 4, 2) := by decide +kernel
theorem dX8_digestOf_15 : decode cX8_digestOf 15 = .ok (.iload 4, 2) := by decide +kernel
theorem dX8_digestOf_17 : decode cX8_digestOf 17 = .ok (.aload_n 0, 1) := by decide +kernel
theorem dX8_digestOf_18 : decode cX8_digestOf 18 = .ok (.getfield 17, 3) := by decide +kernel
theorem dX8_digestOf_21 : decode cX8_digestOf 21 = .ok (.arraylength, 1) := by decide +kernel
theorem dX8_digestOf_22 : decode cX8_digestOf 22 = .ok (.if_icmp .ge 24, 3) := by decide +kernel
theorem dX8_digestOf_25 : decode cX8_digestOf 25 = .ok (.bipush 31, 2) := by decide +kernel
theorem dX8_digestOf_27 : decode cX8_digestOf 27 = .ok (.iload_n 2, 1) := by decide +kernel
theorem dX8_digestOf_28 : decode cX8_digestOf 28 = .ok (.imul, 1) := by decide +kernel
theorem dX8_digestOf_29 : decode cX8_digestOf 29 = .ok (.aload_n 0, 1) := by decide +kernel
theorem dX8_digestOf_30 : decode cX8_digestOf 30 = .ok (.getfield 17, 3) := by decide +kernel
theorem dX8_digestOf_33 : decode cX8_digestOf 33 = .ok (.iload 4, 2) := by decide +kernel
theorem dX8_digestOf_35 : decode cX8_digestOf 35 = .ok (.aaload, 1) := by decide +kernel
theorem dX8_digestOf_36 : decode cX8_digestOf 36 = .ok (.iload_n 3, 1) := by decide +kernel
theorem dX8_digestOf_37 : decode cX8_digestOf 37 = .ok (.iaload, 1) := by decide +kernel
theorem dX8_digestOf_38 : decode cX8_digestOf 38 = .ok (.iadd, 1) := by decide +kernel
theorem dX8_digestOf_39 : decode cX8_digestOf 39 = .ok (.istore_n 2, 1) := by decide +kernel
theorem dX8_digestOf_40 : decode cX8_digestOf 40 = .ok (.iinc 4 1, 3) := by decide +kernel
theorem dX8_digestOf_43 : decode cX8_digestOf 43 = .ok (.goto (-28), 3) := by decide +kernel
theorem dX8_digestOf_46 : decode cX8_digestOf 46 = .ok (.iinc 3 1, 3) := by decide +kernel
theorem dX8_digestOf_49 : decode cX8_digestOf 49 = .ok (.goto (-45), 3) := by decide +kernel
theorem dX8_digestOf_52 : decode cX8_digestOf 52 = .ok (.iload_n 2, 1) := by decide +kernel
theorem dX8_digestOf_53 : decode cX8_digestOf 53 = .ok (.ireturn, 1) := by decide +kernel
theorem dX8_get_0 : decode cX8_get 0 = .ok (.iload_n 1, 1) := by decide +kernel
theorem dX8_get_1 : decode cX8_get 1 = .ok (.ifCond .lt 35, 3) := by decide +kernel
theorem dX8_get_4 : decode cX8_get 4 = .ok (.iload_n 1, 1) := by decide +kernel
theorem dX8_get_5 : decode cX8_get 5 = .ok (.aload_n 0, 1) := by decide +kernel
theorem dX8_get_6 : decode cX8_get 6 = .ok (.getfield 9, 3) := by decide +kernel
theorem dX8_get_9 : decode cX8_get 9 = .ok (.if_icmp .ge 27, 3) := by decide +kernel
theorem dX8_get_12 : decode cX8_get 12 = .ok (.iload_n 2, 1) := by decide +kernel
theorem dX8_get_13 : decode cX8_get 13 = .ok (.ifCond .lt 23, 3) := by decide +kernel
theorem dX8_get_16 : decode cX8_get 16 = .ok (.iload_n 2, 1) := by decide +kernel
theorem dX8_get_17 : decode cX8_get 17 = .ok (.aload_n 0, 1) := by decide +kernel
theorem dX8_get_18 : decode cX8_get 18 = .ok (.getfield 17, 3) := by decide +kernel
theorem dX8_get_21 : decode cX8_get 21 = .ok (.arraylength, 1) := by decide +kernel
theorem dX8_get_22 : decode cX8_get 22 = .ok (.if_icmp .ge 14, 3) := by decide +kernel
theorem dX8_get_25 : decode cX8_get 25 = .ok (.aload_n 0, 1) := by decide +kernel
theorem dX8_get_26 : decode cX8_get 26 = .ok (.getfield 17, 3) := by decide +kernel
theorem dX8_get_29 : decode cX8_get 29 = .ok (.iload_n 2, 1) := by decide +kernel
theorem dX8_get_30 : decode cX8_get 30 = .ok (.aaload, 1) := by decide +kernel
theorem dX8_get_31 : decode cX8_get 31 = .ok (.iload_n 1, 1) := by decide +kernel
theorem dX8_get_32 : decode cX8_get 32 = .ok (.iaload, 1) := by decide +kernel
theorem dX8_get_33 : decode cX8_get 33 = .ok (.goto 4, 3) := by decide +kernel
theorem dX8_get_36 : decode cX8_get 36 = .ok (.iconst (-1), 1) := by decide +kernel
theorem dX8_get_37 : decode cX8_get 37 = .ok (.ireturn, 1) := by decide +kernel
theorem dX8_has_0 : decode cX8_has 0 = .ok (.iload_n 1, 1) := by decide +kernel
theorem dX8_has_1 : decode cX8_has 1 = .ok (.ifCond .lt 15, 3) := by decide +kernel
theorem dX8_has_4 : decode cX8_has 4 = .ok (.iload_n 1, 1) := by decide +kernel
theorem dX8_has_5 : decode cX8_has 5 = .ok (.aload_n 0, 1) := by decide +kernel
theorem dX8_has_6 : decode cX8_has 6 = .ok (.getfield 9, 3) := by decide +kernel
theorem dX8_has_9 : decode cX8_has 9 = .ok (.if_icmp .ge 7, 3) := by decide +kernel
theorem dX8_has_12 : decode cX8_has 12 = .ok (.iconst 1, 1) := by decide +kernel
theorem dX8_has_13 : decode cX8_has 13 = .ok (.goto 4, 3) := by decide +kernel
theorem dX8_has_16 : decode cX8_has 16 = .ok (.iconst 0, 1) := by decide +kernel
theorem dX8_has_17 : decode cX8_has 17 = .ok (.ireturn, 1) := by decide +kernel
theorem dX8_init_0 : decode cX8_init 0 = .ok (.aload_n 0, 1) := by decide +kernel
theorem dX8_init_1 : decode cX8_init 1 = .ok (.invokespecial 3, 3) := by decide +kernel
theorem dX8_init_4 : decode cX8_init 4 = .ok (.aload_n 0, 1) := by decide +kernel
theorem dX8_init_5 : decode cX8_init 5 = .ok (.iconst 0, 1) := by decide +kernel
theorem dX8_init_6 : decode cX8_init 6 = .ok (.putfield 9, 3) := by decide +kernel
theorem dX8_init_9 : decode cX8_init 9 = .ok (.aload_n 0, 1) := by decide +kernel
theorem dX8_init_10 : decode cX8_init 10 = .ok (.iload_n 1, 1) := by decide +kernel
theorem dX8_init_11 : decode cX8_init 11 = .ok (.iload_n 2, 1) := by decide +kernel
theorem dX8_init_12 : decode cX8_init 12 = .ok (.multianewarray 15 2, 4) := by decide +kernel
theorem dX8_init_16 : decode cX8_init 16 = .ok (.putfield 17, 3) := by decide +kernel
theorem dX8_init_19 : decode cX8_init 19 = .ok (.return_, 1) := by decide +kernel
theorem dX8_put_0 : decode cX8_put 0 = .ok (.iload_n 1, 1) := by decide +kernel
theorem dX8_put_1 : decode cX8_put 1 = .ok (.ifCond .lt 33, 3) := by decide +kernel
theorem dX8_put_4 : decode cX8_put 4 = .ok (.iload_n 1, 1) := by decide +kernel
theorem dX8_put_5 : decode cX8_put 5 = .ok (.aload_n 0, 1) := by decide +kernel
theorem dX8_put_6 : decode cX8_put 6 = .ok (.getfield 9, 3) := by decide +kernel
theorem dX8_put_9 : decode cX8_put 9 = .ok (.if_icmp .ge 25, 3) := by decide +kernel
theorem dX8_put_12 : decode cX8_put 12 = .ok (.iload_n 2, 1) := by decide +kernel
theorem dX8_put_13 : decode cX8_put 13 = .ok (.ifCond .lt 21, 3) := by decide +kernel
theorem dX8_put_16 : decode cX8_put 16 = .ok (.iload_n 2, 1) := by decide +kernel
theorem dX8_put_17 : decode cX8_put 17 = .ok (.aload_n 0, 1) := by decide +kernel
theorem dX8_put_18 : decode cX8_put 18 = .ok (.getfield 17, 3) := by decide +kernel
theorem dX8_put_21 : decode cX8_put 21 = .ok (.arraylength, 1) := by decide +kernel
theorem dX8_put_22 : decode cX8_put 22 = .ok (.if_icmp .ge 12, 3) := by decide +kernel
theorem dX8_put_25 : decode cX8_put 25 = .ok (.aload_n 0, 1) := by decide +kernel
theorem dX8_put_26 : decode cX8_put 26 = .ok (.getfield 17, 3) := by decide +kernel
theorem dX8_put_29 : decode cX8_put 29 = .ok (.iload_n 2, 1) := by decide +kernel
theorem dX8_put_30 : decode cX8_put 30 = .ok (.aaload, 1) := by decide +kernel
theorem dX8_put_31 : decode cX8_put 31 = .ok (.iload_n 1, 1) := by decide +kernel
theorem dX8_put_32 : decode cX8_put 32 = .ok (.iload_n 3, 1) := by decide +kernel
theorem dX8_put_33 : decode cX8_put 33 = .ok (.iastore, 1) := by decide +kernel
theorem dX8_put_34 : decode cX8_put 34 = .ok (.return_, 1) := by decide +kernel
theorem dX8_raise_0 : decode cX8_raise 0 = .ok (.aload_n 0, 1) := by decide +kernel
theorem dX8_raise_1 : decode cX8_raise 1 = .ok (.iload_n 1, 1) := by decide +kernel
theorem dX8_raise_2 : decode cX8_raise 2 = .ok (.iload_n 2, 1) := by decide +kernel
theorem dX8_raise_3 : decode cX8_raise 3 = .ok (.aload_n 0, 1) := by decide +kernel
theorem dX8_raise_4 : decode cX8_raise 4 = .ok (.iload_n 1, 1) := by decide +kernel
theorem dX8_raise_5 : decode cX8_raise 5 = .ok (.iload_n 2, 1) := by decide +kernel
theorem dX8_raise_6 : decode cX8_raise 6 = .ok (.invokevirtual 20, 3) := by decide +kernel
theorem dX8_raise_9 : decode cX8_raise 9 = .ok (.iload_n 3, 1) := by decide +kernel
theorem dX8_raise_10 : decode cX8_raise 10 = .ok (.iadd, 1) := by decide +kernel
theorem dX8_raise_11 : decode cX8_raise 11 = .ok (.invokevirtual 24, 3) := by decide +kernel
theorem dX8_raise_14 : decode cX8_raise 14 = .ok (.return_, 1) := by decide +kernel
theorem dX8_widen_0 : decode cX8_widen 0 = .ok (.iconst 0, 1) := by decide +kernel
theorem dX8_widen_1 : decode cX8_widen 1 = .ok (.istore_n 2, 1) := by decide +kernel
theorem dX8_widen_2 : decode cX8_widen 2 = .ok (.iload_n 2, 1) := by decide +kernel
theorem dX8_widen_3 : decode cX8_widen 3 = .ok (.aload_n 0, 1) := by decide +kernel
theorem dX8_widen_4 : decode cX8_widen 4 = .ok (.getfield 17, 3) := by decide +kernel
theorem dX8_widen_7 : decode cX8_widen 7 = .ok (.arraylength, 1) := by decide +kernel
theorem dX8_widen_8 : decode cX8_widen 8 = .ok (.if_icmp .ge 48, 3) := by decide +kernel
theorem dX8_widen_11 : decode cX8_widen 11 = .ok (.iload_n 1, 1) := by decide +kernel
theorem dX8_widen_12 : decode cX8_widen 12 = .ok (.aload_n 0, 1) := by decide +kernel
theorem dX8_widen_13 : decode cX8_widen 13 = .ok (.getfield 17, 3) := by decide +kernel
theorem dX8_widen_16 : decode cX8_widen 16 = .ok (.iload_n 2, 1) := by decide +kernel
theorem dX8_widen_17 : decode cX8_widen 17 = .ok (.aaload, 1) := by decide +kernel
theorem dX8_widen_18 : decode cX8_widen 18 = .ok (.arraylength, 1) := by decide +kernel
theorem dX8_widen_19 : decode cX8_widen 19 = .ok (.if_icmp .le 31, 3) := by decide +kernel
theorem dX8_widen_22 : decode cX8_widen 22 = .ok (.aload_n 0, 1) := by decide +kernel
theorem dX8_widen_23 : decode cX8_widen 23 = .ok (.getfield 17, 3) := by decide +kernel
theorem dX8_widen_26 : decode cX8_widen 26 = .ok (.iload_n 2, 1) := by decide +kernel
theorem dX8_widen_27 : decode cX8_widen 27 = .ok (.aload_n 0, 1) := by decide +kernel
theorem dX8_widen_28 : decode cX8_widen 28 = .ok (.getfield 17, 3) := by decide +kernel
theorem dX8_widen_31 : decode cX8_widen 31 = .ok (.iload_n 2, 1) := by decide +kernel
theorem dX8_widen_32 : decode cX8_widen 32 = .ok (.aaload, 1) := by decide +kernel
theorem dX8_widen_33 : decode cX8_widen 33 = .ok (.iload_n 1, 1) := by decide +kernel
theorem dX8_widen_34 : decode cX8_widen 34 = .ok (.iconst 2, 1) := by decide +kernel
theorem dX8_widen_35 : decode cX8_widen 35 = .ok (.aload_n 0, 1) := by decide +kernel
theorem dX8_widen_36 : decode cX8_widen 36 = .ok (.getfield 17, 3) := by decide +kernel
theorem dX8_widen_39 : decode cX8_widen 39 = .ok (.iload_n 2, 1) := by decide +kernel
theorem dX8_widen_40 : decode cX8_widen 40 = .ok (.aaload, 1) := by decide +kernel
theorem dX8_widen_41 : decode cX8_widen 41 = .ok (.arraylength, 1) := by decide +kernel
theorem dX8_widen_42 : decode cX8_widen 42 = .ok (.imul, 1) := by decide +kernel
theorem dX8_widen_43 : decode cX8_widen 43 = .ok (.invokestatic 38, 3) := by decide +kernel
theorem dX8_widen_46 : decode cX8_widen 46 = .ok (.invokestatic 43, 3) := by decide +kernel
theorem dX8_widen_49 : decode cX8_widen 49 = .ok (.aastore, 1) := by decide +kernel
theorem dX8_widen_50 : decode cX8_widen 50 = .ok (.iinc 2 1, 3) := by decide +kernel
theorem dX8_widen_53 : decode cX8_widen 53 = .ok (.goto (-51), 3) := by decide +kernel
theorem dX8_widen_56 : decode cX8_widen 56 = .ok (.return_, 1) := by decide +kernel
theorem dX9_init_0 : decode cX9_init 0 = .ok (.aload_n 0, 1) := by decide +kernel
theorem dX9_init_1 : decode cX9_init 1 = .ok (.aload_n 1, 1) := by decide +kernel
theorem dX9_init_2 : decode cX9_init 2 = .ok (.iload_n 2, 1) := by decide +kernel
theorem dX9_init_3 : decode cX9_init 3 = .ok (.iload_n 3, 1) := by decide +kernel
theorem dX9_init_4 : decode cX9_init 4 = .ok (.invokespecial 1, 3) := by decide +kernel
theorem dX9_init_7 : decode cX9_init 7 = .ok (.return_, 1) := by decide +kernel
theorem dX9_takes_0 : decode cX9_takes 0 = .ok (.aload_n 0, 1) := by decide +kernel
theorem dX9_takes_1 : decode cX9_takes 1 = .ok (.getfield 7, 3) := by decide +kernel
theorem dX9_takes_4 : decode cX9_takes 4 = .ok (.dup, 1) := by decide +kernel
theorem dX9_takes_5 : decode cX9_takes 5 = .ok (.getfield 13, 3) := by decide +kernel
theorem dX9_takes_8 : decode cX9_takes 8 = .ok (.bipush 10, 2) := by decide +kernel
theorem dX9_takes_10 : decode cX9_takes 10 = .ok (.iadd, 1) := by decide +kernel
theorem dX9_takes_11 : decode cX9_takes 11 = .ok (.putfield 13, 3) := by decide +kernel
theorem dX9_takes_14 : decode cX9_takes 14 = .ok (.aload_n 0, 1) := by decide +kernel
theorem dX9_takes_15 : decode cX9_takes 15 = .ok (.iload_n 1, 1) := by decide +kernel
theorem dX9_takes_16 : decode cX9_takes 16 = .ok (.invokespecial 19, 3) := by decide +kernel
theorem dX9_takes_19 : decode cX9_takes 19 = .ok (.iconst 1, 1) := by decide +kernel
theorem dX9_takes_20 : decode cX9_takes 20 = .ok (.iadd, 1) := by decide +kernel
theorem dX9_takes_21 : decode cX9_takes 21 = .ok (.ireturn, 1) := by decide +kernel
