theorem dX12_digest_173 : decode cX12_digest 173 = .ok (.iload_n 3, 1) := by decide +kernel
theorem dX12_digest_174 : decode cX12_digest 174 = .ok (.invokevirtual 338, 3) := by decide +kernel
theorem dX12_digest_177 : decode cX12_digest 177 = .ok (.iadd, 1) := by decide +kernel
theorem dX12_digest_178 : decode cX12_digest 178 = .ok (.istore_n 1, 1) := by decide +kernel
theorem dX12_digest_179 : decode cX12_digest 179 = .ok (.iinc 3 1, 3) := by decide +kernel
theorem dX12_digest_182 : decode cX12_digest 182 = .ok (.goto (-21), 3) := by decide +kernel
theorem dX12_digest_185 : decode cX12_digest 185 = .ok (.iinc 2 1, 3) := by decide +kernel
theorem dX12_digest_188 : decode cX12_digest 188 = .ok (.goto (-39), 3) := by decide +kernel
theorem dX12_digest_191 : decode cX12_digest 191 = .ok (.iconst 0, 1) := by decide +kernel
theorem dX12_digest_192 : decode cX12_digest 192 = .ok (.istore_n 2, 1) := by decide +kernel
theorem dX12_digest_193 : decode cX12_digest 193 = .ok (.iload_n 2, 1) := by decide +kernel
theorem dX12_digest_194 : decode cX12_digest 194 = .ok (.aload_n 0, 1) := by decide +kernel
theorem dX12_digest_195 : decode cX12_digest 195 = .ok (.getfield 7, 3) := by decide +kernel
theorem dX12_digest_198 : decode cX12_digest 198 = .ok (.iconst 4, 1) := by decide +kernel
theorem dX12_digest_199 : decode cX12_digest 199 = .ok (.iaload, 1) := by decide +kernel
theorem dX12_digest_200 : decode cX12_digest 200 = .ok (.if_icmp .ge 34, 3) := by decide +kernel
theorem dX12_digest_203 : decode cX12_digest 203 = .ok (.iconst 0, 1) := by decide +kernel
theorem dX12_digest_204 : decode cX12_digest 204 = .ok (.istore_n 3, 1) := by decide +kernel
theorem dX12_digest_205 : decode cX12_digest 205 = .ok (.iload_n 3, 1) := by decide +kernel
theorem dX12_digest_206 : decode cX12_digest 206 = .ok (.iconst 4, 1) := by decide +kernel
theorem dX12_digest_207 : decode cX12_digest 207 = .ok (.if_icmp .ge 21, 3) := by decide +kernel
theorem dX12_digest_210 : decode cX12_digest 210 = .ok (.bipush 31, 2) := by decide +kernel
theorem dX12_digest_212 : decode cX12_digest 212 = .ok (.iload_n 1, 1) := by decide +kernel
theorem dX12_digest_213 : decode cX12_digest 213 = .ok (.imul, 1) := by decide +kernel
theorem dX12_digest_214 : decode cX12_digest 214 = .ok (.aload_n 0, 1) := by decide +kernel
theorem dX12_digest_215 : decode cX12_digest 215 = .ok (.iload_n 2, 1) := by decide +kernel
theorem dX12_digest_216 : decode cX12_digest 216 = .ok (.iload_n 3, 1) := by decide +kernel
theorem dX12_digest_217 : decode cX12_digest 217 = .ok (.invokevirtual 332, 3) := by decide +kernel
theorem dX12_digest_220 : decode cX12_digest 220 = .ok (.iadd, 1) := by decide +kernel
theorem dX12_digest_221 : decode cX12_digest 221 = .ok (.istore_n 1, 1) := by decide +kernel
theorem dX12_digest_222 : decode cX12_digest 222 = .ok (.iinc 3 1, 3) := by decide +kernel
theorem dX12_digest_225 : decode cX12_digest 225 = .ok (.goto (-20), 3) := by decide +kernel
theorem dX12_digest_228 : decode cX12_digest 228 = .ok (.iinc 2 1, 3) := by decide +kernel
theorem dX12_digest_231 : decode cX12_digest 231 = .ok (.goto (-38), 3) := by decide +kernel
theorem dX12_digest_234 : decode cX12_digest 234 = .ok (.aload_n 0, 1) := by decide +kernel
theorem dX12_digest_235 : decode cX12_digest 235 = .ok (.iload_n 1, 1) := by decide +kernel
theorem dX12_digest_236 : decode cX12_digest 236 = .ok (.invokevirtual 102, 3) := by decide +kernel
theorem dX12_digest_239 : decode cX12_digest 239 = .ok (.ireturn, 1) := by decide +kernel
theorem dX12_drive_0 : decode cX12_drive 0 = .ok (.aload_n 0, 1) := by decide +kernel
theorem dX12_drive_1 : decode cX12_drive 1 = .ok (.getfield 297, 3) := by decide +kernel
theorem dX12_drive_4 : decode cX12_drive 4 = .ok (.sipush 2000, 3) := by decide +kernel
theorem dX12_drive_7 : decode cX12_drive 7 = .ok (.if_icmp .ge 41, 3) := by decide +kernel
theorem dX12_drive_10 : decode cX12_drive 10 = .ok (.aload_n 0, 1) := by decide +kernel
theorem dX12_drive_11 : decode cX12_drive 11 = .ok (.getfield 55, 3) := by decide +kernel
theorem dX12_drive_14 : decode cX12_drive 14 = .ok (.aload_n 0, 1) := by decide +kernel
theorem dX12_drive_15 : decode cX12_drive 15 = .ok (.getfield 297, 3) := by decide +kernel
theorem dX12_drive_18 : decode cX12_drive 18 = .ok (.iload_n 1, 1) := by decide +kernel
theorem dX12_drive_19 : decode cX12_drive 19 = .ok (.iastore, 1) := by decide +kernel
theorem dX12_drive_20 : decode cX12_drive 20 = .ok (.aload_n 0, 1) := by decide +kernel
theorem dX12_drive_21 : decode cX12_drive 21 = .ok (.getfield 58, 3) := by decide +kernel
theorem dX12_drive_24 : decode cX12_drive 24 = .ok (.aload_n 0, 1) := by decide +kernel
theorem dX12_drive_25 : decode cX12_drive 25 = .ok (.getfield 297, 3) := by decide +kernel
theorem dX12_drive_28 : decode cX12_drive 28 = .ok (.iload_n 2, 1) := by decide +kernel
theorem dX12_drive_29 : decode cX12_drive 29 = .ok (.iastore, 1) := by decide +kernel
theorem dX12_drive_30 : decode cX12_drive 30 = .ok (.aload_n 0, 1) := by decide +kernel
theorem dX12_drive_31 : decode cX12_drive 31 = .ok (.getfield 61, 3) := by decide +kernel
theorem dX12_drive_34 : decode cX12_drive 34 = .ok (.aload_n 0, 1) := by decide +kernel
theorem dX12_drive_35 : decode cX12_drive 35 = .ok (.getfield 297, 3) := by decide +kernel
theorem dX12_drive_38 : decode cX12_drive 38 = .ok (.iload_n 3, 1) := by decide +kernel
theorem dX12_drive_39 : decode cX12_drive 39 = .ok (.ifCond .eq 7, 3) := by decide +kernel
theorem dX12_drive_42 : decode cX12_drive 42 = .ok (.iconst 1, 1) := by decide +kernel
theorem dX12_drive_43 : decode cX12_drive 43 = .ok (.goto 4, 3) := by decide +kernel
theorem dX12_drive_46 : decode cX12_drive 46 = .ok (.iconst 0, 1) := by decide +kernel
theorem dX12_drive_47 : decode cX12_drive 47 = .ok (.iastore, 1) := by decide +kernel
theorem dX12_drive_48 : decode cX12_drive 48 = .ok (.aload_n 0, 1) := by decide +kernel
theorem dX12_drive_49 : decode cX12_drive 49 = .ok (.dup, 1) := by decide +kernel
theorem dX12_drive_50 : decode cX12_drive 50 = .ok (.getfield 297, 3) := by decide +kernel
theorem dX12_drive_53 : decode cX12_drive 53 = .ok (.iconst 1, 1) := by decide +kernel
theorem dX12_drive_54 : decode cX12_drive 54 = .ok (.iadd, 1) := by decide +kernel
theorem dX12_drive_55 : decode cX12_drive 55 = .ok (.putfield 297, 3) := by decide +kernel
theorem dX12_drive_58 : decode cX12_drive 58 = .ok (.return_, 1) := by decide +kernel
theorem dX12_driveAt_0 : decode cX12_driveAt 0 = .ok (.iload_n 2, 1) := by decide +kernel
theorem dX12_driveAt_1 : decode cX12_driveAt 1 = .ok (.ifCond .ne 18, 3) := by decide +kernel
theorem dX12_driveAt_4 : decode cX12_driveAt 4 = .ok (.aload_n 0, 1) := by decide +kernel
theorem dX12_driveAt_5 : decode cX12_driveAt 5 = .ok (.getfield 7, 3) := by decide +kernel
theorem dX12_driveAt_8 : decode cX12_driveAt 8 = .ok (.sipush 9642, 3) := by decide +kernel
theorem dX12_driveAt_11 : decode cX12_driveAt 11 = .ok (.iconst 3, 1) := by decide +kernel
theorem dX12_driveAt_12 : decode cX12_driveAt 12 = .ok (.iload_n 1, 1) := by decide +kernel
theorem dX12_driveAt_13 : decode cX12_driveAt 13 = .ok (.imul, 1) := by decide +kernel
theorem dX12_driveAt_14 : decode cX12_driveAt 14 = .ok (.iadd, 1) := by decide +kernel
theorem dX12_driveAt_15 : decode cX12_driveAt 15 = .ok (.iaload, 1) := by decide +kernel
theorem dX12_driveAt_16 : decode cX12_driveAt 16 = .ok (.goto 52, 3) := by decide +kernel
theorem dX12_driveAt_19 : decode cX12_driveAt 19 = .ok (.iload_n 2, 1) := by decide +kernel
theorem dX12_driveAt_20 : decode cX12_driveAt 20 = .ok (.iconst 1, 1) := by decide +kernel
theorem dX12_driveAt_21 : decode cX12_driveAt 21 = .ok (.if_icmp .ne 20, 3) := by decide +kernel
theorem dX12_driveAt_24 : decode cX12_driveAt 24 = .ok (.aload_n 0, 1) := by decide +kernel
theorem dX12_driveAt_25 : decode cX12_driveAt 25 = .ok (.getfield 7, 3) := by decide +kernel
theorem dX12_driveAt_28 : decode cX12_driveAt 28 = .ok (.sipush 9642, 3) := by decide +kernel
theorem dX12_driveAt_31 : decode cX12_driveAt 31 = .ok (.iconst 3, 1) := by decide +kernel
theorem dX12_driveAt_32 : decode cX12_driveAt 32 = .ok (.iload_n 1, 1) := by decide +kernel
theorem dX12_driveAt_33 : decode cX12_driveAt 33 = .ok (.imul, 1) := by decide +kernel
theorem dX12_driveAt_34 : decode cX12_driveAt 34 = .ok (.iadd, 1) := by decide +kernel
theorem dX12_driveAt_35 : decode cX12_driveAt 35 = .ok (.iconst 1, 1) := by decide +kernel
theorem dX12_driveAt_36 : decode cX12_driveAt 36 = .ok (.iadd, 1) := by decide +kernel
theorem dX12_driveAt_37 : decode cX12_driveAt 37 = .ok (.iaload, 1) := by decide +kernel
theorem dX12_driveAt_38 : decode cX12_driveAt 38 = .ok (.goto 30, 3) := by decide +kernel
theorem dX12_driveAt_41 : decode cX12_driveAt 41 = .ok (.iload_n 2, 1) := by decide +kernel
theorem dX12_driveAt_42 : decode cX12_driveAt 42 = .ok (.iconst 2, 1) := by decide +kernel
theorem dX12_driveAt_43 : decode cX12_driveAt 43 = .ok (.if_icmp .ne 11, 3) := by decide +kernel
theorem dX12_driveAt_46 : decode cX12_driveAt 46 = .ok (.aload_n 0, 1) := by decide +kernel
theorem dX12_driveAt_47 : decode cX12_driveAt 47 = .ok (.iload_n 1, 1) := by decide +kernel
theorem dX12_driveAt_48 : decode cX12_driveAt 48 = .ok (.invokevirtual 329, 3) := by decide +kernel
theorem dX12_driveAt_51 : decode cX12_driveAt 51 = .ok (.goto 17, 3) := by decide +kernel
theorem dX12_driveAt_54 : decode cX12_driveAt 54 = .ok (.aload_n 0, 1) := by decide +kernel
theorem dX12_driveAt_55 : decode cX12_driveAt 55 = .ok (.getfield 7, 3) := by decide +kernel
theorem dX12_driveAt_58 : decode cX12_driveAt 58 = .ok (.sipush 9642, 3) := by decide +kernel
theorem dX12_driveAt_61 : decode cX12_driveAt 61 = .ok (.iconst 3, 1) := by decide +kernel
theorem dX12_driveAt_62 : decode cX12_driveAt 62 = .ok (.iload_n 1, 1) := by decide +kernel
theorem dX12_driveAt_63 : decode cX12_driveAt 63 = .ok (.imul, 1) := by decide +kernel
theorem dX12_driveAt_64 : decode cX12_driveAt 64 = .ok (.iadd, 1) := by decide +kernel
theorem dX12_driveAt_65 : decode cX12_driveAt 65 = .ok (.iconst 2, 1) := by decide +kernel
theorem dX12_driveAt_66 : decode cX12_driveAt 66 = .ok (.iadd, 1) := by decide +kernel
theorem dX12_driveAt_67 : decode cX12_driveAt 67 = .ok (.iaload, 1) := by decide +kernel
theorem dX12_driveAt_68 : decode cX12_driveAt 68 = .ok (.ireturn, 1) := by decide +kernel
theorem dX12_drivesAll_0 : decode cX12_drivesAll 0 = .ok (.iconst 0, 1) := by decide +kernel
theorem dX12_drivesAll_1 : decode cX12_drivesAll 1 = .ok (.istore_n 1, 1) := by decide +kernel
theorem dX12_drivesAll_2 : decode cX12_drivesAll 2 = .ok (.aload_n 0, 1) := by decide +kernel
theorem dX12_drivesAll_3 : decode cX12_drivesAll 3 = .ok (.iload_n 1, 1) := by decide +kernel
theorem dX12_drivesAll_4 : decode cX12_drivesAll 4 = .ok (.invokevirtual 300, 3) := by decide +kernel
theorem dX12_drivesAll_7 : decode cX12_drivesAll 7 = .ok (.istore_n 2, 1) := by decide +kernel
theorem dX12_drivesAll_8 : decode cX12_drivesAll 8 = .ok (.iload_n 2, 1) := by decide +kernel
theorem dX12_drivesAll_9 : decode cX12_drivesAll 9 = .ok (.iconst (-1), 1) := by decide +kernel
theorem dX12_drivesAll_10 : decode cX12_drivesAll 10 = .ok (.if_icmp .eq 71, 3) := by decide +kernel
theorem dX12_drivesAll_13 : decode cX12_drivesAll 13 = .ok (.aload_n 0, 1) := by decide +kernel
theorem dX12_drivesAll_14 : decode cX12_drivesAll 14 = .ok (.iload_n 2, 1) := by decide +kernel
theorem dX12_drivesAll_15 : decode cX12_drivesAll 15 = .ok (.iload_n 1, 1) := by decide +kernel
theorem dX12_drivesAll_16 : decode cX12_drivesAll 16 = .ok (.aload_n 0, 1) := by decide +kernel
theorem dX12_drivesAll_17 : decode cX12_drivesAll 17 = .ok (.getfield 64, 3) := by decide +kernel
theorem dX12_drivesAll_20 : decode cX12_drivesAll 20 = .ok (.iload_n 2, 1) := by decide +kernel
theorem dX12_drivesAll_21 : decode cX12_drivesAll 21 = .ok (.iaload, 1) := by decide +kernel
theorem dX12_drivesAll_22 : decode cX12_drivesAll 22 = .ok (.aload_n 0, 1) := by decide +kernel
theorem dX12_drivesAll_23 : decode cX12_drivesAll 23 = .ok (.getfield 7, 3) := by decide +kernel
theorem dX12_drivesAll_26 : decode cX12_drivesAll 26 = .ok (.aload_n 0, 1) := by decide +kernel
theorem dX12_drivesAll_27 : decode cX12_drivesAll 27 = .ok (.iload_n 2, 1) := by decide +kernel
theorem dX12_drivesAll_28 : decode cX12_drivesAll 28 = .ok (.invokevirtual 109, 3) := by decide +kernel
theorem dX12_drivesAll_31 : decode cX12_drivesAll 31 = .ok (.iconst 3, 1) := by decide +kernel
theorem dX12_drivesAll_32 : decode cX12_drivesAll 32 = .ok (.iadd, 1) := by decide +kernel
theorem dX12_drivesAll_33 : decode cX12_drivesAll 33 = .ok (.iaload, 1) := by decide +kernel
theorem dX12_drivesAll_34 : decode cX12_drivesAll 34 = .ok (.if_icmp .ge 7, 3) := by decide +kernel
theorem dX12_drivesAll_37 : decode cX12_drivesAll 37 = .ok (.iconst 1, 1) := by decide +kernel
theorem dX12_drivesAll_38 : decode cX12_drivesAll 38 = .ok (.goto 4, 3) := by decide +kernel
theorem dX12_drivesAll_41 : decode cX12_drivesAll 41 = .ok (.iconst 0, 1) := by decide +kernel
theorem dX12_drivesAll_42 : decode cX12_drivesAll 42 = .ok (.invokevirtual 303, 3) := by decide +kernel
theorem dX12_drivesAll_45 : decode cX12_drivesAll 45 = .ok (.aload_n 0, 1) := by decide +kernel
theorem dX12_drivesAll_46 : decode cX12_drivesAll 46 = .ok (.getfield 64, 3) := by decide +kernel
theorem dX12_drivesAll_49 : decode cX12_drivesAll 49 = .ok (.iload_n 2, 1) := by decide +kernel
theorem dX12_drivesAll_50 : decode cX12_drivesAll 50 = .ok (.dup2, 1) := by decide +kernel
theorem dX12_drivesAll_51 : decode cX12_drivesAll 51 = .ok (.iaload, 1) := by decide +kernel
theorem dX12_drivesAll_52 : decode cX12_drivesAll 52 = .ok (.iconst 1, 1) := by decide +kernel
theorem dX12_drivesAll_53 : decode cX12_drivesAll 53 = .ok (.iadd, 1) := by decide +kernel
theorem dX12_drivesAll_54 : decode cX12_drivesAll 54 = .ok (.iastore, 1) := by decide +kernel
theorem dX12_drivesAll_55 : decode cX12_drivesAll 55 = .ok (.aload_n 0, 1) := by decide +kernel
theorem dX12_drivesAll_56 : decode cX12_drivesAll 56 = .ok (.getfield 37, 3) := by decide +kernel
theorem dX12_drivesAll_59 : decode cX12_drivesAll 59 = .ok (.iload_n 2, 1) := by decide +kernel
theorem dX12_drivesAll_60 : decode cX12_drivesAll 60 = .ok (.dup2, 1) := by decide +kernel
theorem dX12_drivesAll_61 : decode cX12_drivesAll 61 = .ok (.iaload, 1) := by decide +kernel
theorem dX12_drivesAll_62 : decode cX12_drivesAll 62 = .ok (.iconst 1, 1) := by decide +kernel
theorem dX12_drivesAll_63 : decode cX12_drivesAll 63 = .ok (.isub, 1) := by decide +kernel
theorem dX12_drivesAll_64 : decode cX12_drivesAll 64 = .ok (.iastore, 1) := by decide +kernel
theorem dX12_drivesAll_65 : decode cX12_drivesAll 65 = .ok (.aload_n 0, 1) := by decide +kernel
theorem dX12_drivesAll_66 : decode cX12_drivesAll 66 = .ok (.iload_n 2, 1) := by decide +kernel
theorem dX12_drivesAll_67 : decode cX12_drivesAll 67 = .ok (.iload_n 1, 1) := by decide +kernel
theorem dX12_drivesAll_68 : decode cX12_drivesAll 68 = .ok (.invokevirtual 130, 3) := by decide +kernel
theorem dX12_drivesAll_71 : decode cX12_drivesAll 71 = .ok (.istore_n 1, 1) := by decide +kernel
theorem dX12_drivesAll_72 : decode cX12_drivesAll 72 = .ok (.aload_n 0, 1) := by decide +kernel
theorem dX12_drivesAll_73 : decode cX12_drivesAll 73 = .ok (.iload_n 1, 1) := by decide +kernel
theorem dX12_drivesAll_74 : decode cX12_drivesAll 74 = .ok (.invokevirtual 300, 3) := by decide +kernel
theorem dX12_drivesAll_77 : decode cX12_drivesAll 77 = .ok (.istore_n 2, 1) := by decide +kernel
theorem dX12_drivesAll_78 : decode cX12_drivesAll 78 = .ok (.goto (-70), 3) := by decide +kernel
theorem dX12_drivesAll_81 : decode cX12_drivesAll 81 = .ok (.return_, 1) := by decide +kernel
theorem dX12_drivesEmpty_0 : decode cX12_drivesEmpty 0 = .ok (.iload_n 1, 1) := by decide +kernel
theorem dX12_drivesEmpty_1 : decode cX12_drivesEmpty 1 = .ok (.istore_n 3, 1) := by decide +kernel
theorem dX12_drivesEmpty_2 : decode cX12_drivesEmpty 2 = .ok (.iload_n 3, 1) := by decide +kernel
theorem dX12_drivesEmpty_3 : decode cX12_drivesEmpty 3 = .ok (.iload_n 2, 1) := by decide +kernel
theorem dX12_drivesEmpty_4 : decode cX12_drivesEmpty 4 = .ok (.if_icmp .eq 30, 3) := by decide +kernel
theorem dX12_drivesEmpty_7 : decode cX12_drivesEmpty 7 = .ok (.aload_n 0, 1) := by decide +kernel
theorem dX12_drivesEmpty_8 : decode cX12_drivesEmpty 8 = .ok (.iload_n 3, 1) := by decide +kernel
theorem dX12_drivesEmpty_9 : decode cX12_drivesEmpty 9 = .ok (.iload_n 2, 1) := by decide +kernel
theorem dX12_drivesEmpty_10 : decode cX12_drivesEmpty 10 = .ok (.invokevirtual 137, 3) := by decide +kernel
theorem dX12_drivesEmpty_13 : decode cX12_drivesEmpty 13 = .ok (.istore 4, 2) := by decide +kernel
theorem dX12_drivesEmpty_15 : decode cX12_drivesEmpty 15 = .ok (.aload_n 0, 1) := by decide +kernel
theorem dX12_drivesEmpty_16 : decode cX12_drivesEmpty 16 = .ok (.iload 4, 2) := by decide +kernel
theorem dX12_drivesEmpty_18 : decode cX12_drivesEmpty 18 = .ok (.iload_n 3, 1) := by decide +kernel
theorem dX12_drivesEmpty_19 : decode cX12_drivesEmpty 19 = .ok (.iconst 0, 1) := by decide +kernel
theorem dX12_drivesEmpty_20 : decode cX12_drivesEmpty 20 = .ok (.invokevirtual 303, 3) := by decide +kernel
theorem dX12_drivesEmpty_23 : decode cX12_drivesEmpty 23 = .ok (.aload_n 0, 1) := by decide +kernel
theorem dX12_drivesEmpty_24 : decode cX12_drivesEmpty 24 = .ok (.iload 4, 2) := by decide +kernel
theorem dX12_drivesEmpty_26 : decode cX12_drivesEmpty 26 = .ok (.iload_n 3, 1) := by decide +kernel
theorem dX12_drivesEmpty_27 : decode cX12_drivesEmpty 27 = .ok (.invokevirtual 130, 3) := by decide +kernel
theorem dX12_drivesEmpty_30 : decode cX12_drivesEmpty 30 = .ok (.istore_n 3, 1) := by decide +kernel
theorem dX12_drivesEmpty_31 : decode cX12_drivesEmpty 31 = .ok (.goto (-29), 3) := by decide +kernel
theorem dX12_drivesEmpty_34 : decode cX12_drivesEmpty 34 = .ok (.iload_n 3, 1) := by decide +kernel
theorem dX12_drivesEmpty_35 : decode cX12_drivesEmpty 35 = .ok (.ireturn, 1) := by decide +kernel
theorem dX12_endOf_0 : decode cX12_endOf 0 = .ok (.iconst (-1), 1) := by decide +kernel
theorem dX12_endOf_1 : decode cX12_endOf 1 = .ok (.istore_n 2, 1) := by decide +kernel
theorem dX12_endOf_2 : decode cX12_endOf 2 = .ok (.iconst 0, 1) := by decide +kernel
theorem dX12_endOf_3 : decode cX12_endOf 3 = .ok (.istore_n 3, 1) := by decide +kernel
theorem dX12_endOf_4 : decode cX12_endOf 4 = .ok (.iload_n 3, 1) := by decide +kernel
theorem dX12_endOf_5 : decode cX12_endOf 5 = .ok (.aload_n 0, 1) := by decide +kernel
theorem dX12_endOf_6 : decode cX12_endOf 6 = .ok (.getfield 7, 3) := by decide +kernel
theorem dX12_endOf_9 : decode cX12_endOf 9 = .ok (.iconst 3, 1) := by decide +kernel
theorem dX12_endOf_10 : decode cX12_endOf 10 = .ok (.iaload, 1) := by decide +kernel
theorem dX12_endOf_11 : decode cX12_endOf 11 = .ok (.if_icmp .ge 75, 3) := by decide +kernel
theorem dX12_endOf_14 : decode cX12_endOf 14 = .ok (.aload_n 0, 1) := by decide +kernel
theorem dX12_endOf_15 : decode cX12_endOf 15 = .ok (.iload_n 3, 1) := by decide +kernel
theorem dX12_endOf_16 : decode cX12_endOf 16 = .ok (.invokevirtual 188, 3) := by decide +kernel
theorem dX12_endOf_19 : decode cX12_endOf 19 = .ok (.istore 4, 2) := by decide +kernel
theorem dX12_endOf_21 : decode cX12_endOf 21 = .ok (.aload_n 0, 1) := by decide +kernel
theorem dX12_endOf_22 : decode cX12_endOf 22 = .ok (.getfield 7, 3) := by decide +kernel
theorem dX12_endOf_25 : decode cX12_endOf 25 = .ok (.iload 4, 2) := by decide +kernel
theorem dX12_endOf_27 : decode cX12_endOf 27 = .ok (.iconst 5, 1) := by decide +kernel
theorem dX12_endOf_28 : decode cX12_endOf 28 = .ok (.iadd, 1) := by decide +kernel
theorem dX12_endOf_29 : decode cX12_endOf 29 = .ok (.iaload, 1) := by decide +kernel
theorem dX12_endOf_30 : decode cX12_endOf 30 = .ok (.iconst 1, 1) := by decide +kernel
theorem dX12_endOf_31 : decode cX12_endOf 31 = .ok (.if_icmp .ne 47, 3) := by decide +kernel
theorem dX12_endOf_34 : decode cX12_endOf 34 = .ok (.aload_n 0, 1) := by decide +kernel
theorem dX12_endOf_35 : decode cX12_endOf 35 = .ok (.getfield 7, 3) := by decide +kernel
theorem dX12_endOf_38 : decode cX12_endOf 38 = .ok (.iload 4, 2) := by decide +kernel
theorem dX12_endOf_40 : decode cX12_endOf 40 = .ok (.bipush 7, 2) := by decide +kernel
theorem dX12_endOf_42 : decode cX12_endOf 42 = .ok (.iadd, 1) := by decide +kernel
theorem dX12_endOf_43 : decode cX12_endOf 43 = .ok (.iaload, 1) := by decide +kernel
theorem dX12_endOf_44 : decode cX12_endOf 44 = .ok (.ifCond .le 34, 3) := by decide +kernel
theorem dX12_endOf_47 : decode cX12_endOf 47 = .ok (.aload_n 0, 1) := by decide +kernel
theorem dX12_endOf_48 : decode cX12_endOf 48 = .ok (.getfield 7, 3) := by decide +kernel
theorem dX12_endOf_51 : decode cX12_endOf 51 = .ok (.iload 4, 2) := by decide +kernel
theorem dX12_endOf_53 : decode cX12_endOf 53 = .ok (.bipush 6, 2) := by decide +kernel
theorem dX12_endOf_55 : decode cX12_endOf 55 = .ok (.iadd, 1) := by decide +kernel
theorem dX12_endOf_56 : decode cX12_endOf 56 = .ok (.iaload, 1) := by decide +kernel
theorem dX12_endOf_57 : decode cX12_endOf 57 = .ok (.aload_n 0, 1) := by decide +kernel
theorem dX12_endOf_58 : decode cX12_endOf 58 = .ok (.getfield 7, 3) := by decide +kernel
theorem dX12_endOf_61 : decode cX12_endOf 61 = .ok (.iload 4, 2) := by decide +kernel
theorem dX12_endOf_63 : decode cX12_endOf 63 = .ok (.bipush 7, 2) := by decide +kernel
theorem dX12_endOf_65 : decode cX12_endOf 65 = .ok (.iadd, 1) := by decide +kernel
theorem dX12_endOf_66 : decode cX12_endOf 66 = .ok (.iaload, 1) := by decide +kernel
theorem dX12_endOf_67 : decode cX12_endOf 67 = .ok (.iadd, 1) := by decide +kernel
theorem dX12_endOf_68 : decode cX12_endOf 68 = .ok (.iconst 1, 1) := by decide +kernel
theorem dX12_endOf_69 : decode cX12_endOf 69 = .ok (.isub, 1) := by decide +kernel
theorem dX12_endOf_70 : decode cX12_endOf 70 = .ok (.iload_n 1, 1) := by decide +kernel
theorem dX12_endOf_71 : decode cX12_endOf 71 = .ok (.if_icmp .ne 7, 3) := by decide +kernel
theorem dX12_endOf_74 : decode cX12_endOf 74 = .ok (.iload_n 3, 1) := by decide +kernel
theorem dX12_endOf_75 : decode cX12_endOf 75 = .ok (.goto 4, 3) := by decide +kernel
theorem dX12_endOf_78 : decode cX12_endOf 78 = .ok (.iload_n 2, 1) := by decide +kernel
theorem dX12_endOf_79 : decode cX12_endOf 79 = .ok (.istore_n 2, 1) := by decide +kernel
theorem dX12_endOf_80 : decode cX12_endOf 80 = .ok (.iinc 3 1, 3) := by decide +kernel
theorem dX12_endOf_83 : decode cX12_endOf 83 = .ok (.goto (-79), 3) := by decide +kernel
theorem dX12_endOf_86 : decode cX12_endOf 86 = .ok (.iload_n 2, 1) := by decide +kernel
theorem dX12_endOf_87 : decode cX12_endOf 87 = .ok (.ireturn, 1) := by decide +kernel
theorem dX12_findLeast_0 : decode cX12_findLeast 0 = .ok (.aload_n 0, 1) := by decide +kernel
theorem dX12_findLeast_1 : decode cX12_findLeast 1 = .ok (.getfield 46, 3) := by decide +kernel
theorem dX12_findLeast_4 : decode cX12_findLeast 4 = .ok (.iconst 0, 1) := by decide +kernel
theorem dX12_findLeast_5 : decode cX12_findLeast 5 = .ok (.iconst 0, 1) := by decide +kernel
theorem dX12_findLeast_6 : decode cX12_findLeast 6 = .ok (.iastore, 1) := by decide +kernel
theorem dX12_findLeast_7 : decode cX12_findLeast 7 = .ok (.iconst 1, 1) := by decide +kernel
theorem dX12_findLeast_8 : decode cX12_findLeast 8 = .ok (.istore_n 2, 1) := by decide +kernel
theorem dX12_findLeast_9 : decode cX12_findLeast 9 = .ok (.iload_n 2, 1) := by decide +kernel
theorem dX12_findLeast_10 : decode cX12_findLeast 10 = .ok (.iload_n 1, 1) := by decide +kernel
theorem dX12_findLeast_11 : decode cX12_findLeast 11 = .ok (.if_icmp .gt 21, 3) := by decide +kernel
theorem dX12_findLeast_14 : decode cX12_findLeast 14 = .ok (.iload_n 2, 1) := by decide +kernel
theorem dX12_findLeast_15 : decode cX12_findLeast 15 = .ok (.iload_n 1, 1) := by decide +kernel
theorem dX12_findLeast_16 : decode cX12_findLeast 16 = .ok (.iand, 1) := by decide +kernel
theorem dX12_findLeast_17 : decode cX12_findLeast 17 = .ok (.iload_n 2, 1) := by decide +kernel
theorem dX12_findLeast_18 : decode cX12_findLeast 18 = .ok (.if_icmp .ne 8, 3) := by decide +kernel
theorem dX12_findLeast_21 : decode cX12_findLeast 21 = .ok (.aload_n 0, 1) := by decide +kernel
theorem dX12_findLeast_22 : decode cX12_findLeast 22 = .ok (.iload_n 2, 1) := by decide +kernel
theorem dX12_findLeast_23 : decode cX12_findLeast 23 = .ok (.invokevirtual 251, 3) := by decide +kernel
theorem dX12_findLeast_26 : decode cX12_findLeast 26 = .ok (.iinc 2 1, 3) := by decide +kernel
theorem dX12_findLeast_29 : decode cX12_findLeast 29 = .ok (.goto (-20), 3) := by decide +kernel
theorem dX12_findLeast_32 : decode cX12_findLeast 32 = .ok (.return_, 1) := by decide +kernel
theorem dX12_findLeastOf_0 : decode cX12_findLeastOf 0 = .ok (.iload_n 1, 1) := by decide +kernel
theorem dX12_findLeastOf_1 : decode cX12_findLeastOf 1 = .ok (.invokestatic 254, 3) := by decide +kernel
theorem dX12_findLeastOf_4 : decode cX12_findLeastOf 4 = .ok (.istore_n 2, 1) := by decide +kernel
theorem dX12_findLeastOf_5 : decode cX12_findLeastOf 5 = .ok (.aload_n 0, 1) := by decide +kernel
theorem dX12_findLeastOf_6 : decode cX12_findLeastOf 6 = .ok (.getfield 46, 3) := by decide +kernel
theorem dX12_findLeastOf_9 : decode cX12_findLeastOf 9 = .ok (.iload_n 1, 1) := by decide +kernel
theorem dX12_findLeastOf_10 : decode cX12_findLeastOf 10 = .ok (.ldc 125, 2) := by decide +kernel
theorem dX12_findLeastOf_12 : decode cX12_findLeastOf 12 = .ok (.iastore, 1) := by decide +kernel
theorem dX12_findLeastOf_13 : decode cX12_findLeastOf 13 = .ok (.iload_n 2, 1) := by decide +kernel
theorem dX12_findLeastOf_14 : decode cX12_findLeastOf 14 = .ok (.iconst 1, 1) := by decide +kernel
theorem dX12_findLeastOf_15 : decode cX12_findLeastOf 15 = .ok (.iadd, 1) := by decide +kernel
theorem dX12_findLeastOf_16 : decode cX12_findLeastOf 16 = .ok (.istore_n 3, 1) := by decide +kernel
theorem dX12_findLeastOf_17 : decode cX12_findLeastOf 17 = .ok (.iload_n 3, 1) := by decide +kernel
theorem dX12_findLeastOf_18 : decode cX12_findLeastOf 18 = .ok (.aload_n 0, 1) := by decide +kernel
theorem dX12_findLeastOf_19 : decode cX12_findLeastOf 19 = .ok (.getfield 242, 3) := by decide +kernel
theorem dX12_findLeastOf_22 : decode cX12_findLeastOf 22 = .ok (.if_icmp .ge 68, 3) := by decide +kernel
theorem dX12_findLeastOf_25 : decode cX12_findLeastOf 25 = .ok (.iload_n 1, 1) := by decide +kernel
theorem dX12_findLeastOf_26 : decode cX12_findLeastOf 26 = .ok (.iload_n 3, 1) := by decide +kernel
theorem dX12_findLeastOf_27 : decode cX12_findLeastOf 27 = .ok (.ishr, 1) := by decide +kernel
theorem dX12_findLeastOf_28 : decode cX12_findLeastOf 28 = .ok (.iconst 1, 1) := by decide +kernel
theorem dX12_findLeastOf_29 : decode cX12_findLeastOf 29 = .ok (.iand, 1) := by decide +kernel
theorem dX12_findLeastOf_30 : decode cX12_findLeastOf 30 = .ok (.iconst 1, 1) := by decide +kernel
theorem dX12_findLeastOf_31 : decode cX12_findLeastOf 31 = .ok (.if_icmp .ne 53, 3) := by decide +kernel
theorem dX12_findLeastOf_34 : decode cX12_findLeastOf 34 = .ok (.aload_n 0, 1) := by decide +kernel
theorem dX12_findLeastOf_35 : decode cX12_findLeastOf 35 = .ok (.aload_n 0, 1) := by decide +kernel
theorem dX12_findLeastOf_36 : decode cX12_findLeastOf 36 = .ok (.getfield 40, 3) := by decide +kernel
theorem dX12_findLeastOf_39 : decode cX12_findLeastOf 39 = .ok (.iload_n 2, 1) := by decide +kernel
theorem dX12_findLeastOf_40 : decode cX12_findLeastOf 40 = .ok (.iaload, 1) := by decide +kernel
theorem dX12_findLeastOf_41 : decode cX12_findLeastOf 41 = .ok (.aload_n 0, 1) := by decide +kernel
theorem dX12_findLeastOf_42 : decode cX12_findLeastOf 42 = .ok (.getfield 40, 3) := by decide +kernel
theorem dX12_findLeastOf_45 : decode cX12_findLeastOf 45 = .ok (.iload_n 3, 1) := by decide +kernel
theorem dX12_findLeastOf_46 : decode cX12_findLeastOf 46 = .ok (.iaload, 1) := by decide +kernel
theorem dX12_findLeastOf_47 : decode cX12_findLeastOf 47 = .ok (.invokevirtual 257, 3) := by decide +kernel
theorem dX12_findLeastOf_50 : decode cX12_findLeastOf 50 = .ok (.aload_n 0, 1) := by decide +kernel
theorem dX12_findLeastOf_51 : decode cX12_findLeastOf 51 = .ok (.getfield 46, 3) := by decide +kernel
theorem dX12_findLeastOf_54 : decode cX12_findLeastOf 54 = .ok (.iload_n 1, 1) := by decide +kernel
theorem dX12_findLeastOf_55 : decode cX12_findLeastOf 55 = .ok (.iconst 1, 1) := by decide +kernel
theorem dX12_findLeastOf_56 : decode cX12_findLeastOf 56 = .ok (.iload_n 2, 1) := by decide +kernel
theorem dX12_findLeastOf_57 : decode cX12_findLeastOf 57 = .ok (.ishl, 1) := by decide +kernel
theorem dX12_findLeastOf_58 : decode cX12_findLeastOf 58 = .ok (.ixor, 1) := by decide +kernel
theorem dX12_findLeastOf_59 : decode cX12_findLeastOf 59 = .ok (.iconst 1, 1) := by decide +kernel
theorem dX12_findLeastOf_60 : decode cX12_findLeastOf 60 = .ok (.iload_n 3, 1) := by decide +kernel
theorem dX12_findLeastOf_61 : decode cX12_findLeastOf 61 = .ok (.ishl, 1) := by decide +kernel
theorem dX12_findLeastOf_62 : decode cX12_findLeastOf 62 = .ok (.ixor, 1) := by decide +kernel
theorem dX12_findLeastOf_63 : decode cX12_findLeastOf 63 = .ok (.iaload, 1) := by decide +kernel
theorem dX12_findLeastOf_64 : decode cX12_findLeastOf 64 = .ok (.iadd, 1) := by decide +kernel
theorem dX12_findLeastOf_65 : decode cX12_findLeastOf 65 = .ok (.istore 4, 2) := by decide +kernel
theorem dX12_findLeastOf_67 : decode cX12_findLeastOf 67 = .ok (.aload_n 0, 1) := by decide +kernel
theorem dX12_findLeastOf_68 : decode cX12_findLeastOf 68 = .ok (.getfield 46, 3) := by decide +kernel
theorem dX12_findLeastOf_71 : decode cX12_findLeastOf 71 = .ok (.iload_n 1, 1) := by decide +kernel
theorem dX12_findLeastOf_72 : decode cX12_findLeastOf 72 = .ok (.aload_n 0, 1) := by decide +kernel
theorem dX12_findLeastOf_73 : decode cX12_findLeastOf 73 = .ok (.getfield 46, 3) := by decide +kernel
theorem dX12_findLeastOf_76 : decode cX12_findLeastOf 76 = .ok (.iload_n 1, 1) := by decide +kernel
theorem dX12_findLeastOf_77 : decode cX12_findLeastOf 77 = .ok (.iaload, 1) := by decide +kernel
theorem dX12_findLeastOf_78 : decode cX12_findLeastOf 78 = .ok (.iload 4, 2) := by decide +kernel
theorem dX12_findLeastOf_80 : decode cX12_findLeastOf 80 = .ok (.invokestatic 156, 3) := by decide +kernel
theorem dX12_findLeastOf_83 : decode cX12_findLeastOf 83 = .ok (.iastore, 1) := by decide +kernel
theorem dX12_findLeastOf_84 : decode cX12_findLeastOf 84 = .ok (.iinc 3 1, 3) := by decide +kernel
theorem dX12_findLeastOf_87 : decode cX12_findLeastOf 87 = .ok (.goto (-70), 3) := by decide +kernel
theorem dX12_findLeastOf_90 : decode cX12_findLeastOf 90 = .ok (.return_, 1) := by decide +kernel
theorem dX12_findOdd_0 : decode cX12_findOdd 0 = .ok (.aload_n 0, 1) := by decide +kernel
theorem dX12_findOdd_1 : decode cX12_findOdd 1 = .ok (.iconst 0, 1) := by decide +kernel
theorem dX12_findOdd_2 : decode cX12_findOdd 2 = .ok (.putfield 242, 3) := by decide +kernel
theorem dX12_findOdd_5 : decode cX12_findOdd 5 = .ok (.iconst 0, 1) := by decide +kernel
theorem dX12_findOdd_6 : decode cX12_findOdd 6 = .ok (.istore_n 1, 1) := by decide +kernel
theorem dX12_findOdd_7 : decode cX12_findOdd 7 = .ok (.iload_n 1, 1) := by decide +kernel
theorem dX12_findOdd_8 : decode cX12_findOdd 8 = .ok (.aload_n 0, 1) := by decide +kernel
theorem dX12_findOdd_9 : decode cX12_findOdd 9 = .ok (.getfield 7, 3) := by decide +kernel
theorem dX12_findOdd_12 : decode cX12_findOdd 12 = .ok (.iconst 0, 1) := by decide +kernel
theorem dX12_findOdd_13 : decode cX12_findOdd 13 = .ok (.iaload, 1) := by decide +kernel
theorem dX12_findOdd_14 : decode cX12_findOdd 14 = .ok (.if_icmp .ge 104, 3) := by decide +kernel
theorem dX12_findOdd_17 : decode cX12_findOdd 17 = .ok (.iconst 0, 1) := by decide +kernel
theorem dX12_findOdd_18 : decode cX12_findOdd 18 = .ok (.istore_n 2, 1) := by decide +kernel
theorem dX12_findOdd_19 : decode cX12_findOdd 19 = .ok (.iconst 0, 1) := by decide +kernel
theorem dX12_findOdd_20 : decode cX12_findOdd 20 = .ok (.istore_n 3, 1) := by decide +kernel
theorem dX12_findOdd_21 : decode cX12_findOdd 21 = .ok (.iload_n 3, 1) := by decide +kernel
theorem dX12_findOdd_22 : decode cX12_findOdd 22 = .ok (.aload_n 0, 1) := by decide +kernel
theorem dX12_findOdd_23 : decode cX12_findOdd 23 = .ok (.getfield 7, 3) := by decide +kernel
theorem dX12_findOdd_26 : decode cX12_findOdd 26 = .ok (.iconst 1, 1) := by decide +kernel
theorem dX12_findOdd_27 : decode cX12_findOdd 27 = .ok (.iaload, 1) := by decide +kernel
theorem dX12_findOdd_28 : decode cX12_findOdd 28 = .ok (.if_icmp .ge 57, 3) := by decide +kernel
theorem dX12_findOdd_31 : decode cX12_findOdd 31 = .ok (.aload_n 0, 1) := by decide +kernel
theorem dX12_findOdd_32 : decode cX12_findOdd 32 = .ok (.iload_n 3, 1) := by decide +kernel
theorem dX12_findOdd_33 : decode cX12_findOdd 33 = .ok (.invokevirtual 109, 3) := by decide +kernel
theorem dX12_findOdd_36 : decode cX12_findOdd 36 = .ok (.istore 4, 2) := by decide +kernel
theorem dX12_findOdd_38 : decode cX12_findOdd 38 = .ok (.iload_n 2, 1) := by decide +kernel
theorem dX12_findOdd_39 : decode cX12_findOdd 39 = .ok (.aload_n 0, 1) := by decide +kernel
theorem dX12_findOdd_40 : decode cX12_findOdd 40 = .ok (.getfield 7, 3) := by decide +kernel
theorem dX12_findOdd_43 : decode cX12_findOdd 43 = .ok (.iload 4, 2) := by decide +kernel
theorem dX12_findOdd_45 : decode cX12_findOdd 45 = .ok (.bipush 7, 2) := by decide +kernel
theorem dX12_findOdd_47 : decode cX12_findOdd 47 = .ok (.iadd, 1) := by decide +kernel
theorem dX12_findOdd_48 : decode cX12_findOdd 48 = .ok (.iaload, 1) := by decide +kernel
theorem dX12_findOdd_49 : decode cX12_findOdd 49 = .ok (.iload_n 1, 1) := by decide +kernel
theorem dX12_findOdd_50 : decode cX12_findOdd 50 = .ok (.if_icmp .eq 17, 3) := by decide +kernel
theorem dX12_findOdd_53 : decode cX12_findOdd 53 = .ok (.aload_n 0, 1) := by decide +kernel
theorem dX12_findOdd_54 : decode cX12_findOdd 54 = .ok (.getfield 7, 3) := by decide +kernel
theorem dX12_findOdd_57 : decode cX12_findOdd 57 = .ok (.iload 4, 2) := by decide +kernel
theorem dX12_findOdd_59 : decode cX12_findOdd 59 = .ok (.bipush 8, 2) := by decide +kernel
theorem dX12_findOdd_61 : decode cX12_findOdd 61 = .ok (.iadd, 1) := by decide +kernel
theorem dX12_findOdd_62 : decode cX12_findOdd 62 = .ok (.iaload, 1) := by decide +kernel
theorem dX12_findOdd_63 : decode cX12_findOdd 63 = .ok (.iload_n 1, 1) := by decide +kernel
theorem dX12_findOdd_64 : decode cX12_findOdd 64 = .ok (.if_icmp .ne 12, 3) := by decide +kernel
theorem dX12_findOdd_67 : decode cX12_findOdd 67 = .ok (.aload_n 0, 1) := by decide +kernel
theorem dX12_findOdd_68 : decode cX12_findOdd 68 = .ok (.getfield 37, 3) := by decide +kernel
theorem dX12_findOdd_71 : decode cX12_findOdd 71 = .ok (.iload_n 3, 1) := by decide +kernel
theorem dX12_findOdd_72 : decode cX12_findOdd 72 = .ok (.iaload, 1) := by decide +kernel
theorem dX12_findOdd_73 : decode cX12_findOdd 73 = .ok (.goto 4, 3) := by decide +kernel
theorem dX12_findOdd_76 : decode cX12_findOdd 76 = .ok (.iconst 0, 1) := by decide +kernel
theorem dX12_findOdd_77 : decode cX12_findOdd 77 = .ok (.iadd, 1) := by decide +kernel
theorem dX12_findOdd_78 : decode cX12_findOdd 78 = .ok (.istore_n 2, 1) := by decide +kernel
theorem dX12_findOdd_79 : decode cX12_findOdd 79 = .ok (.iinc 3 1, 3) := by decide +kernel
theorem dX12_findOdd_82 : decode cX12_findOdd 82 = .ok (.goto (-61), 3) := by decide +kernel
theorem dX12_findOdd_85 : decode cX12_findOdd 85 = .ok (.iload_n 2, 1) := by decide +kernel
theorem dX12_findOdd_86 : decode cX12_findOdd 86 = .ok (.iconst 2, 1) := by decide +kernel
theorem dX12_findOdd_87 : decode cX12_findOdd 87 = .ok (.irem, 1) := by decide +kernel
theorem dX12_findOdd_88 : decode cX12_findOdd 88 = .ok (.iconst 1, 1) := by decide +kernel
theorem dX12_findOdd_89 : decode cX12_findOdd 89 = .ok (.if_icmp .ne 23, 3) := by decide +kernel
theorem dX12_findOdd_92 : decode cX12_findOdd 92 = .ok (.aload_n 0, 1) := by decide +kernel
theorem dX12_findOdd_93 : decode cX12_findOdd 93 = .ok (.getfield 40, 3) := by decide +kernel
theorem dX12_findOdd_96 : decode cX12_findOdd 96 = .ok (.aload_n 0, 1) := by decide +kernel
theorem dX12_findOdd_97 : decode cX12_findOdd 97 = .ok (.getfield 242, 3) := by decide +kernel
theorem dX12_findOdd_100 : decode cX12_findOdd 100 = .ok (.iload_n 1, 1) := by decide +kernel
theorem dX12_findOdd_101 : decode cX12_findOdd 101 = .ok (.iastore, 1) := by decide +kernel
theorem dX12_findOdd_102 : decode cX12_findOdd 102 = .ok (.aload_n 0, 1) := by decide +kernel
theorem dX12_findOdd_103 : decode cX12_findOdd 103 = .ok (.dup, 1) := by decide +kernel
theorem dX12_findOdd_104 : decode cX12_findOdd 104 = .ok (.getfield 242, 3) := by decide +kernel
theorem dX12_findOdd_107 : decode cX12_findOdd 107 = .ok (.iconst 1, 1) := by decide +kernel
theorem dX12_findOdd_108 : decode cX12_findOdd 108 = .ok (.iadd, 1) := by decide +kernel
theorem dX12_findOdd_109 : decode cX12_findOdd 109 = .ok (.putfield 242, 3) := by decide +kernel
theorem dX12_findOdd_112 : decode cX12_findOdd 112 = .ok (.iinc 1 1, 3) := by decide +kernel
theorem dX12_findOdd_115 : decode cX12_findOdd 115 = .ok (.goto (-108), 3) := by decide +kernel
theorem dX12_findOdd_118 : decode cX12_findOdd 118 = .ok (.return_, 1) := by decide +kernel
theorem dX12_findings_0 : decode cX12_findings 0 = .ok (.iload_n 1, 1) := by decide +kernel
theorem dX12_findings_1 : decode cX12_findings 1 = .ok (.iconst 0, 1) := by decide +kernel
theorem dX12_findings_2 : decode cX12_findings 2 = .ok (.iconst 4, 1) := by decide +kernel
theorem dX12_findings_3 : decode cX12_findings 3 = .ok (.invokestatic 88, 3) := by decide +kernel
theorem dX12_findings_6 : decode cX12_findings 6 = .ok (.ifCond .eq 12, 3) := by decide +kernel
theorem dX12_findings_9 : decode cX12_findings 9 = .ok (.aload_n 0, 1) := by decide +kernel
theorem dX12_findings_10 : decode cX12_findings 10 = .ok (.getfield 16, 3) := by decide +kernel
theorem dX12_findings_13 : decode cX12_findings 13 = .ok (.iload_n 1, 1) := by decide +kernel
theorem dX12_findings_14 : decode cX12_findings 14 = .ok (.iaload, 1) := by decide +kernel
theorem dX12_findings_15 : decode cX12_findings 15 = .ok (.goto 5, 3) := by decide +kernel
theorem dX12_findings_18 : decode cX12_findings 18 = .ok (.bipush (-2), 2) := by decide +kernel
theorem dX12_findings_20 : decode cX12_findings 20 = .ok (.ireturn, 1) := by decide +kernel
theorem dX12_finds_0 : decode cX12_finds 0 = .ok (.iload_n 1, 1) := by decide +kernel
theorem dX12_finds_1 : decode cX12_finds 1 = .ok (.bipush (-4), 2) := by decide +kernel
theorem dX12_finds_3 : decode cX12_finds 3 = .ok (.if_icmp .gt 25, 3) := by decide +kernel
theorem dX12_finds_6 : decode cX12_finds 6 = .ok (.iload_n 1, 1) := by decide +kernel
theorem dX12_finds_7 : decode cX12_finds 7 = .ok (.bipush (-7), 2) := by decide +kernel
theorem dX12_finds_9 : decode cX12_finds 9 = .ok (.if_icmp .lt 19, 3) := by decide +kernel
theorem dX12_finds_12 : decode cX12_finds 12 = .ok (.aload_n 0, 1) := by decide +kernel
theorem dX12_finds_13 : decode cX12_finds 13 = .ok (.getfield 16, 3) := by decide +kernel
theorem dX12_finds_16 : decode cX12_finds 16 = .ok (.bipush (-4), 2) := by decide +kernel
theorem dX12_finds_18 : decode cX12_finds 18 = .ok (.iload_n 1, 1) := by decide +kernel
theorem dX12_finds_19 : decode cX12_finds 19 = .ok (.isub, 1) := by decide +kernel
theorem dX12_finds_20 : decode cX12_finds 20 = .ok (.dup2, 1) := by decide +kernel
theorem dX12_finds_21 : decode cX12_finds 21 = .ok (.iaload, 1) := by decide +kernel
theorem dX12_finds_22 : decode cX12_finds 22 = .ok (.iconst 1, 1) := by decide +kernel
theorem dX12_finds_23 : decode cX12_finds 23 = .ok (.iadd, 1) := by decide +kernel
theorem dX12_finds_24 : decode cX12_finds 24 = .ok (.iastore, 1) := by decide +kernel
theorem dX12_finds_25 : decode cX12_finds 25 = .ok (.goto 19, 3) := by decide +kernel
theorem dX12_finds_28 : decode cX12_finds 28 = .ok (.iload_n 1, 1) := by decide +kernel
theorem dX12_finds_29 : decode cX12_finds 29 = .ok (.bipush (-9), 2) := by decide +kernel
theorem dX12_finds_31 : decode cX12_finds 31 = .ok (.if_icmp .ne 13, 3) := by decide +kernel
theorem dX12_finds_34 : decode cX12_finds 34 = .ok (.aload_n 0, 1) := by decide +kernel
theorem dX12_finds_35 : decode cX12_finds 35 = .ok (.getfield 16, 3) := by decide +kernel
theorem dX12_finds_38 : decode cX12_finds 38 = .ok (.iconst 4, 1) := by decide +kernel
theorem dX12_finds_39 : decode cX12_finds 39 = .ok (.dup2, 1) := by decide +kernel
theorem dX12_finds_40 : decode cX12_finds 40 = .ok (.iaload, 1) := by decide +kernel
theorem dX12_finds_41 : decode cX12_finds 41 = .ok (.iconst 1, 1) := by decide +kernel
theorem dX12_finds_42 : decode cX12_finds 42 = .ok (.iadd, 1) := by decide +kernel
theorem dX12_finds_43 : decode cX12_finds 43 = .ok (.iastore, 1) := by decide +kernel
theorem dX12_finds_44 : decode cX12_finds 44 = .ok (.return_, 1) := by decide +kernel
theorem dX12_first_0 : decode cX12_first 0 = .ok (.aload_n 0, 1) := by decide +kernel
theorem dX12_first_1 : decode cX12_first 1 = .ok (.aload_n 0, 1) := by decide +kernel
theorem dX12_first_2 : decode cX12_first 2 = .ok (.getfield 7, 3) := by decide +kernel
theorem dX12_first_5 : decode cX12_first 5 = .ok (.aload_n 0, 1) := by decide +kernel
theorem dX12_first_6 : decode cX12_first 6 = .ok (.iload_n 1, 1) := by decide +kernel
theorem dX12_first_7 : decode cX12_first 7 = .ok (.invokevirtual 188, 3) := by decide +kernel
theorem dX12_first_10 : decode cX12_first 10 = .ok (.iconst 3, 1) := by decide +kernel
theorem dX12_first_11 : decode cX12_first 11 = .ok (.iadd, 1) := by decide +kernel
theorem dX12_first_12 : decode cX12_first 12 = .ok (.iaload, 1) := by decide +kernel
theorem dX12_first_13 : decode cX12_first 13 = .ok (.invokevirtual 206, 3) := by decide +kernel
theorem dX12_first_16 : decode cX12_first 16 = .ok (.ireturn, 1) := by decide +kernel
theorem dX12_follows_0 : decode cX12_follows 0 = .ok (.iconst 0, 1) := by decide +kernel
theorem dX12_follows_1 : decode cX12_follows 1 = .ok (.istore_n 3, 1) := by decide +kernel
theorem dX12_follows_2 : decode cX12_follows 2 = .ok (.iload_n 3, 1) := by decide +kernel
theorem dX12_follows_3 : decode cX12_follows 3 = .ok (.bipush 60, 2) := by decide +kernel
theorem dX12_follows_5 : decode cX12_follows 5 = .ok (.if_icmp .ge 25, 3) := by decide +kernel
theorem dX12_follows_8 : decode cX12_follows 8 = .ok (.aload_n 0, 1) := by decide +kernel
theorem dX12_follows_9 : decode cX12_follows 9 = .ok (.getfield 43, 3) := by decide +kernel
theorem dX12_follows_12 : decode cX12_follows 12 = .ok (.iload_n 3, 1) := by decide +kernel
theorem dX12_follows_13 : decode cX12_follows 13 = .ok (.iload_n 3, 1) := by decide +kernel
theorem dX12_follows_14 : decode cX12_follows 14 = .ok (.iload_n 1, 1) := by decide +kernel
theorem dX12_follows_15 : decode cX12_follows 15 = .ok (.if_icmp .ne 7, 3) := by decide +kernel
theorem dX12_follows_18 : decode cX12_follows 18 = .ok (.iconst 1, 1) := by decide +kernel
theorem dX12_follows_19 : decode cX12_follows 19 = .ok (.goto 4, 3) := by decide +kernel
theorem dX12_follows_22 : decode cX12_follows 22 = .ok (.iconst 0, 1) := by decide +kernel
theorem dX12_follows_23 : decode cX12_follows 23 = .ok (.bastore, 1) := by decide +kernel
theorem dX12_follows_24 : decode cX12_follows 24 = .ok (.iinc 3 1, 3) := by decide +kernel
theorem dX12_follows_27 : decode cX12_follows 27 = .ok (.goto (-25), 3) := by decide +kernel
theorem dX12_follows_30 : decode cX12_follows 30 = .ok (.iconst 1, 1) := by decide +kernel
theorem dX12_follows_31 : decode cX12_follows 31 = .ok (.istore_n 3, 1) := by decide +kernel
theorem dX12_follows_32 : decode cX12_follows 32 = .ok (.iload_n 3, 1) := by decide +kernel
theorem dX12_follows_33 : decode cX12_follows 33 = .ok (.ifCond .eq 102, 3) := by decide +kernel
theorem dX12_follows_36 : decode cX12_follows 36 = .ok (.iconst 0, 1) := by decide +kernel
theorem dX12_follows_37 : decode cX12_follows 37 = .ok (.istore_n 3, 1) := by decide +kernel
theorem dX12_follows_38 : decode cX12_follows 38 = .ok (.iconst 0, 1) := by decide +kernel
theorem dX12_follows_39 : decode cX12_follows 39 = .ok (.istore 4, 2) := by decide +kernel
theorem dX12_follows_41 : decode cX12_follows 41 = .ok (.iload 4, 2) := by decide +kernel
theorem dX12_follows_43 : decode cX12_follows 43 = .ok (.aload_n 0, 1) := by decide +kernel
theorem dX12_follows_44 : decode cX12_follows 44 = .ok (.getfield 7, 3) := by decide +kernel
theorem dX12_follows_47 : decode cX12_follows 47 = .ok (.iconst 1, 1) := by decide +kernel
theorem dX12_follows_48 : decode cX12_follows 48 = .ok (.iaload, 1) := by decide +kernel
theorem dX12_follows_49 : decode cX12_follows 49 = .ok (.if_icmp .ge 83, 3) := by decide +kernel
theorem dX12_follows_52 : decode cX12_follows 52 = .ok (.aload_n 0, 1) := by decide +kernel
theorem dX12_follows_53 : decode cX12_follows 53 = .ok (.getfield 7, 3) := by decide +kernel
theorem dX12_follows_56 : decode cX12_follows 56 = .ok (.aload_n 0, 1) := by decide +kernel
theorem dX12_follows_57 : decode cX12_follows 57 = .ok (.iload 4, 2) := by decide +kernel
theorem dX12_follows_59 : decode cX12_follows 59 = .ok (.invokevirtual 109, 3) := by decide +kernel
theorem dX12_follows_62 : decode cX12_follows 62 = .ok (.bipush 7, 2) := by decide +kernel
theorem dX12_follows_64 : decode cX12_follows 64 = .ok (.iadd, 1) := by decide +kernel
theorem dX12_follows_65 : decode cX12_follows 65 = .ok (.iaload, 1) := by decide +kernel
theorem dX12_follows_66 : decode cX12_follows 66 = .ok (.istore 5, 2) := by decide +kernel
theorem dX12_follows_68 : decode cX12_follows 68 = .ok (.aload_n 0, 1) := by decide +kernel
theorem dX12_follows_69 : decode cX12_follows 69 = .ok (.getfield 7, 3) := by decide +kernel
theorem dX12_follows_72 : decode cX12_follows 72 = .ok (.aload_n 0, 1) := by decide +kernel
theorem dX12_follows_73 : decode cX12_follows 73 = .ok (.iload 4, 2) := by decide +kernel
theorem dX12_follows_75 : decode cX12_follows 75 = .ok (.invokevirtual 109, 3) := by decide +kernel
theorem dX12_follows_78 : decode cX12_follows 78 = .ok (.bipush 8, 2) := by decide +kernel
theorem dX12_follows_80 : decode cX12_follows 80 = .ok (.iadd, 1) := by decide +kernel
theorem dX12_follows_81 : decode cX12_follows 81 = .ok (.iaload, 1) := by decide +kernel
theorem dX12_follows_82 : decode cX12_follows 82 = .ok (.istore 6, 2) := by decide +kernel
theorem dX12_follows_84 : decode cX12_follows 84 = .ok (.aload_n 2, 1) := by decide +kernel
theorem dX12_follows_85 : decode cX12_follows 85 = .ok (.iload 4, 2) := by decide +kernel
theorem dX12_follows_87 : decode cX12_follows 87 = .ok (.iaload, 1) := by decide +kernel
theorem dX12_follows_88 : decode cX12_follows 88 = .ok (.ifCond .le 38, 3) := by decide +kernel
theorem dX12_follows_91 : decode cX12_follows 91 = .ok (.aload_n 0, 1) := by decide +kernel
theorem dX12_follows_92 : decode cX12_follows 92 = .ok (.getfield 43, 3) := by decide +kernel
theorem dX12_follows_95 : decode cX12_follows 95 = .ok (.iload 5, 2) := by decide +kernel
theorem dX12_follows_97 : decode cX12_follows 97 = .ok (.baload, 1) := by decide +kernel
theorem dX12_follows_98 : decode cX12_follows 98 = .ok (.aload_n 0, 1) := by decide +kernel
theorem dX12_follows_99 : decode cX12_follows 99 = .ok (.getfield 43, 3) := by decide +kernel
theorem dX12_follows_102 : decode cX12_follows 102 = .ok (.iload 6, 2) := by decide +kernel
theorem dX12_follows_104 : decode cX12_follows 104 = .ok (.baload, 1) := by decide +kernel
theorem dX12_follows_105 : decode cX12_follows 105 = .ok (.if_icmp .eq 21, 3) := by decide +kernel
theorem dX12_follows_108 : decode cX12_follows 108 = .ok (.aload_n 0, 1) := by decide +kernel
theorem dX12_follows_109 : decode cX12_follows 109 = .ok (.getfield 43, 3) := by decide +kernel
theorem dX12_follows_112 : decode cX12_follows 112 = .ok (.iload 5, 2) := by decide +kernel
theorem dX12_follows_114 : decode cX12_follows 114 = .ok (.iconst 1, 1) := by decide +kernel
theorem dX12_follows_115 : decode cX12_follows 115 = .ok (.bastore, 1) := by decide +kernel
theorem dX12_follows_116 : decode cX12_follows 116 = .ok (.aload_n 0, 1) := by decide +kernel
theorem dX12_follows_117 : decode cX12_follows 117 = .ok (.getfield 43, 3) := by decide +kernel
theorem dX12_follows_120 : decode cX12_follows 120 = .ok (.iload 6, 2) := by decide +kernel
theorem dX12_follows_122 : decode cX12_follows 122 = .ok (.iconst 1, 1) := by decide +kernel
theorem dX12_follows_123 : decode cX12_follows 123 = .ok (.bastore, 1) := by decide +kernel
theorem dX12_follows_124 : decode cX12_follows 124 = .ok (.iconst 1, 1) := by decide +kernel
theorem dX12_follows_125 : decode cX12_follows 125 = .ok (.istore_n 3, 1) := by decide +kernel
theorem dX12_follows_126 : decode cX12_follows 126 = .ok (.iinc 4 1, 3) := by decide +kernel
theorem dX12_follows_129 : decode cX12_follows 129 = .ok (.goto (-88), 3) := by decide +kernel
theorem dX12_follows_132 : decode cX12_follows 132 = .ok (.goto (-100), 3) := by decide +kernel
theorem dX12_follows_135 : decode cX12_follows 135 = .ok (.return_, 1) := by decide +kernel
theorem dX12_ga_0 : decode cX12_ga 0 = .ok (.sipush 1366, 3) := by decide +kernel
theorem dX12_ga_3 : decode cX12_ga 3 = .ok (.iconst 3, 1) := by decide +kernel
theorem dX12_ga_4 : decode cX12_ga 4 = .ok (.iload_n 1, 1) := by decide +kernel
theorem dX12_ga_5 : decode cX12_ga 5 = .ok (.imul, 1) := by decide +kernel
theorem dX12_ga_6 : decode cX12_ga 6 = .ok (.iadd, 1) := by decide +kernel
theorem dX12_ga_7 : decode cX12_ga 7 = .ok (.ireturn, 1) := by decide +kernel
theorem dX12_gauge_0 : decode cX12_gauge 0 = .ok (.aload_n 0, 1) := by decide +kernel
theorem dX12_gauge_1 : decode cX12_gauge 1 = .ok (.iload_n 1, 1) := by decide +kernel
theorem dX12_gauge_2 : decode cX12_gauge 2 = .ok (.invokevirtual 105, 3) := by decide +kernel
theorem dX12_gauge_5 : decode cX12_gauge 5 = .ok (.ifCond .ne 10, 3) := by decide +kernel
theorem dX12_gauge_8 : decode cX12_gauge 8 = .ok (.aload_n 0, 1) := by decide +kernel
theorem dX12_gauge_9 : decode cX12_gauge 9 = .ok (.bipush (-2), 2) := by decide +kernel
theorem dX12_gauge_11 : decode cX12_gauge 11 = .ok (.invokevirtual 92, 3) := by decide +kernel
theorem dX12_gauge_14 : decode cX12_gauge 14 = .ok (.ireturn, 1) := by decide +kernel
theorem dX12_gauge_15 : decode cX12_gauge 15 = .ok (.aload_n 0, 1) := by decide +kernel
theorem dX12_gauge_16 : decode cX12_gauge 16 = .ok (.getfield 7, 3) := by decide +kernel
theorem dX12_gauge_19 : decode cX12_gauge 19 = .ok (.iconst 2, 1) := by decide +kernel
theorem dX12_gauge_20 : decode cX12_gauge 20 = .ok (.iaload, 1) := by decide +kernel
theorem dX12_gauge_21 : decode cX12_gauge 21 = .ok (.bipush 20, 2) := by decide +kernel
theorem dX12_gauge_23 : decode cX12_gauge 23 = .ok (.if_icmp .ne 10, 3) := by decide +kernel
theorem dX12_gauge_26 : decode cX12_gauge 26 = .ok (.aload_n 0, 1) := by decide +kernel
theorem dX12_gauge_27 : decode cX12_gauge 27 = .ok (.bipush (-3), 2) := by decide +kernel
theorem dX12_gauge_29 : decode cX12_gauge 29 = .ok (.invokevirtual 92, 3) := by decide +kernel
theorem dX12_gauge_32 : decode cX12_gauge 32 = .ok (.ireturn, 1) := by decide +kernel
theorem dX12_gauge_33 : decode cX12_gauge 33 = .ok (.aload_n 0, 1) := by decide +kernel
theorem dX12_gauge_34 : decode cX12_gauge 34 = .ok (.invokevirtual 96, 3) := by decide +kernel
theorem dX12_gauge_37 : decode cX12_gauge 37 = .ok (.aload_n 0, 1) := by decide +kernel
theorem dX12_gauge_38 : decode cX12_gauge 38 = .ok (.aload_n 0, 1) := by decide +kernel
theorem dX12_gauge_39 : decode cX12_gauge 39 = .ok (.getfield 7, 3) := by decide +kernel
theorem dX12_gauge_42 : decode cX12_gauge 42 = .ok (.iconst 2, 1) := by decide +kernel
theorem dX12_gauge_43 : decode cX12_gauge 43 = .ok (.iaload, 1) := by decide +kernel
theorem dX12_gauge_44 : decode cX12_gauge 44 = .ok (.invokevirtual 140, 3) := by decide +kernel
theorem dX12_gauge_47 : decode cX12_gauge 47 = .ok (.istore_n 3, 1) := by decide +kernel
theorem dX12_gauge_48 : decode cX12_gauge 48 = .ok (.aload_n 0, 1) := by decide +kernel
theorem dX12_gauge_49 : decode cX12_gauge 49 = .ok (.getfield 7, 3) := by decide +kernel
theorem dX12_gauge_52 : decode cX12_gauge 52 = .ok (.iload_n 3, 1) := by decide +kernel
theorem dX12_gauge_53 : decode cX12_gauge 53 = .ok (.iload_n 1, 1) := by decide +kernel
theorem dX12_gauge_54 : decode cX12_gauge 54 = .ok (.iastore, 1) := by decide +kernel
theorem dX12_gauge_55 : decode cX12_gauge 55 = .ok (.aload_n 0, 1) := by decide +kernel
theorem dX12_gauge_56 : decode cX12_gauge 56 = .ok (.getfield 7, 3) := by decide +kernel
theorem dX12_gauge_59 : decode cX12_gauge 59 = .ok (.iload_n 3, 1) := by decide +kernel
theorem dX12_gauge_60 : decode cX12_gauge 60 = .ok (.iconst 1, 1) := by decide +kernel
theorem dX12_gauge_61 : decode cX12_gauge 61 = .ok (.iadd, 1) := by decide +kernel
theorem dX12_gauge_62 : decode cX12_gauge 62 = .ok (.iload_n 2, 1) := by decide +kernel
theorem dX12_gauge_63 : decode cX12_gauge 63 = .ok (.ifCond .eq 7, 3) := by decide +kernel
theorem dX12_gauge_66 : decode cX12_gauge 66 = .ok (.iconst 1, 1) := by decide +kernel
theorem dX12_gauge_67 : decode cX12_gauge 67 = .ok (.goto 4, 3) := by decide +kernel
theorem dX12_gauge_70 : decode cX12_gauge 70 = .ok (.iconst 0, 1) := by decide +kernel
theorem dX12_gauge_71 : decode cX12_gauge 71 = .ok (.iastore, 1) := by decide +kernel
theorem dX12_gauge_72 : decode cX12_gauge 72 = .ok (.aload_n 0, 1) := by decide +kernel
theorem dX12_gauge_73 : decode cX12_gauge 73 = .ok (.getfield 7, 3) := by decide +kernel
theorem dX12_gauge_76 : decode cX12_gauge 76 = .ok (.iload_n 3, 1) := by decide +kernel
theorem dX12_gauge_77 : decode cX12_gauge 77 = .ok (.iconst 2, 1) := by decide +kernel
theorem dX12_gauge_78 : decode cX12_gauge 78 = .ok (.iadd, 1) := by decide +kernel
theorem dX12_gauge_79 : decode cX12_gauge 79 = .ok (.iconst (-1), 1) := by decide +kernel
theorem dX12_gauge_80 : decode cX12_gauge 80 = .ok (.iastore, 1) := by decide +kernel
theorem dX12_gauge_81 : decode cX12_gauge 81 = .ok (.aload_n 0, 1) := by decide +kernel
theorem dX12_gauge_82 : decode cX12_gauge 82 = .ok (.getfield 7, 3) := by decide +kernel
theorem dX12_gauge_85 : decode cX12_gauge 85 = .ok (.iconst 2, 1) := by decide +kernel
theorem dX12_gauge_86 : decode cX12_gauge 86 = .ok (.dup2, 1) := by decide +kernel
theorem dX12_gauge_87 : decode cX12_gauge 87 = .ok (.iaload, 1) := by decide +kernel
theorem dX12_gauge_88 : decode cX12_gauge 88 = .ok (.iconst 1, 1) := by decide +kernel
theorem dX12_gauge_89 : decode cX12_gauge 89 = .ok (.iadd, 1) := by decide +kernel
theorem dX12_gauge_90 : decode cX12_gauge 90 = .ok (.iastore, 1) := by decide +kernel
theorem dX12_gauge_91 : decode cX12_gauge 91 = .ok (.aload_n 0, 1) := by decide +kernel
theorem dX12_gauge_92 : decode cX12_gauge 92 = .ok (.aload_n 0, 1) := by decide +kernel
theorem dX12_gauge_93 : decode cX12_gauge 93 = .ok (.getfield 7, 3) := by decide +kernel
theorem dX12_gauge_96 : decode cX12_gauge 96 = .ok (.iconst 2, 1) := by decide +kernel
theorem dX12_gauge_97 : decode cX12_gauge 97 = .ok (.iaload, 1) := by decide +kernel
theorem dX12_gauge_98 : decode cX12_gauge 98 = .ok (.iconst 1, 1) := by decide +kernel
theorem dX12_gauge_99 : decode cX12_gauge 99 = .ok (.isub, 1) := by decide +kernel
theorem dX12_gauge_100 : decode cX12_gauge 100 = .ok (.invokevirtual 102, 3) := by decide +kernel
theorem dX12_gauge_103 : decode cX12_gauge 103 = .ok (.ireturn, 1) := by decide +kernel
theorem dX12_go_0 : decode cX12_go 0 = .ok (.aload_n 0, 1) := by decide +kernel
theorem dX12_go_1 : decode cX12_go 1 = .ok (.iload_n 1, 1) := by decide +kernel
theorem dX12_go_2 : decode cX12_go 2 = .ok (.invokevirtual 197, 3) := by decide +kernel
theorem dX12_go_5 : decode cX12_go 5 = .ok (.ifCond .eq 13, 3) := by decide +kernel
theorem dX12_go_8 : decode cX12_go 8 = .ok (.iload_n 2, 1) := by decide +kernel
theorem dX12_go_9 : decode cX12_go 9 = .ok (.iconst 1, 1) := by decide +kernel
theorem dX12_go_10 : decode cX12_go 10 = .ok (.bipush 50, 2) := by decide +kernel
theorem dX12_go_12 : decode cX12_go 12 = .ok (.invokestatic 88, 3) := by decide +kernel
theorem dX12_go_15 : decode cX12_go 15 = .ok (.ifCond .ne 10, 3) := by decide +kernel
theorem dX12_go_18 : decode cX12_go 18 = .ok (.aload_n 0, 1) := by decide +kernel
theorem dX12_go_19 : decode cX12_go 19 = .ok (.bipush (-2), 2) := by decide +kernel
theorem dX12_go_21 : decode cX12_go 21 = .ok (.invokevirtual 92, 3) := by decide +kernel
theorem dX12_go_24 : decode cX12_go 24 = .ok (.ireturn, 1) := by decide +kernel
theorem dX12_go_25 : decode cX12_go 25 = .ok (.aload_n 0, 1) := by decide +kernel
theorem dX12_go_26 : decode cX12_go 26 = .ok (.iload_n 1, 1) := by decide +kernel
theorem dX12_go_27 : decode cX12_go 27 = .ok (.invokevirtual 188, 3) := by decide +kernel
theorem dX12_go_30 : decode cX12_go 30 = .ok (.istore_n 3, 1) := by decide +kernel
theorem dX12_go_31 : decode cX12_go 31 = .ok (.aload_n 0, 1) := by decide +kernel
theorem dX12_go_32 : decode cX12_go 32 = .ok (.getfield 7, 3) := by decide +kernel
theorem dX12_go_35 : decode cX12_go 35 = .ok (.iload_n 3, 1) := by decide +kernel
theorem dX12_go_36 : decode cX12_go 36 = .ok (.iconst 2, 1) := by decide +kernel
theorem dX12_go_37 : decode cX12_go 37 = .ok (.iadd, 1) := by decide +kernel
theorem dX12_go_38 : decode cX12_go 38 = .ok (.iaload, 1) := by decide +kernel
theorem dX12_go_39 : decode cX12_go 39 = .ok (.iconst 1, 1) := by decide +kernel
theorem dX12_go_40 : decode cX12_go 40 = .ok (.if_icmp .ne 10, 3) := by decide +kernel
theorem dX12_go_43 : decode cX12_go 43 = .ok (.aload_n 0, 1) := by decide +kernel
theorem dX12_go_44 : decode cX12_go 44 = .ok (.bipush (-4), 2) := by decide +kernel
theorem dX12_go_46 : decode cX12_go 46 = .ok (.invokevirtual 92, 3) := by decide +kernel
theorem dX12_go_49 : decode cX12_go 49 = .ok (.ireturn, 1) := by decide +kernel
theorem dX12_go_50 : decode cX12_go 50 = .ok (.aload_n 0, 1) := by decide +kernel
theorem dX12_go_51 : decode cX12_go 51 = .ok (.getfield 7, 3) := by decide +kernel
theorem dX12_go_54 : decode cX12_go 54 = .ok (.iload_n 3, 1) := by decide +kernel
theorem dX12_go_55 : decode cX12_go 55 = .ok (.bipush 8, 2) := by decide +kernel
theorem dX12_go_57 : decode cX12_go 57 = .ok (.iadd, 1) := by decide +kernel
theorem dX12_go_58 : decode cX12_go 58 = .ok (.iaload, 1) := by decide +kernel
theorem dX12_go_59 : decode cX12_go 59 = .ok (.aload_n 0, 1) := by decide +kernel
theorem dX12_go_60 : decode cX12_go 60 = .ok (.getfield 7, 3) := by decide +kernel
theorem dX12_go_63 : decode cX12_go 63 = .ok (.iload_n 3, 1) := by decide +kernel
theorem dX12_go_64 : decode cX12_go 64 = .ok (.bipush 7, 2) := by decide +kernel
theorem dX12_go_66 : decode cX12_go 66 = .ok (.iadd, 1) := by decide +kernel
theorem dX12_go_67 : decode cX12_go 67 = .ok (.iaload, 1) := by decide +kernel
theorem dX12_go_68 : decode cX12_go 68 = .ok (.if_icmp .lt 10, 3) := by decide +kernel
theorem dX12_go_71 : decode cX12_go 71 = .ok (.aload_n 0, 1) := by decide +kernel
theorem dX12_go_72 : decode cX12_go 72 = .ok (.bipush (-8), 2) := by decide +kernel
theorem dX12_go_74 : decode cX12_go 74 = .ok (.invokevirtual 92, 3) := by decide +kernel
theorem dX12_go_77 : decode cX12_go 77 = .ok (.ireturn, 1) := by decide +kernel
theorem dX12_go_78 : decode cX12_go 78 = .ok (.iconst 0, 1) := by decide +kernel
theorem dX12_go_79 : decode cX12_go 79 = .ok (.istore 4, 2) := by decide +kernel
theorem dX12_go_81 : decode cX12_go 81 = .ok (.iconst 1, 1) := by decide +kernel
theorem dX12_go_82 : decode cX12_go 82 = .ok (.istore 5, 2) := by decide +kernel
theorem dX12_go_84 : decode cX12_go 84 = .ok (.iload 5, 2) := by decide +kernel
theorem dX12_go_86 : decode cX12_go 86 = .ok (.ifCond .eq 80, 3) := by decide +kernel
theorem dX12_go_89 : decode cX12_go 89 = .ok (.iload 4, 2) := by decide +kernel
theorem dX12_go_91 : decode cX12_go 91 = .ok (.iload_n 2, 1) := by decide +kernel
theorem dX12_go_92 : decode cX12_go 92 = .ok (.if_icmp .ge 74, 3) := by decide +kernel
theorem dX12_go_95 : decode cX12_go 95 = .ok (.aload_n 0, 1) := by decide +kernel
theorem dX12_go_96 : decode cX12_go 96 = .ok (.getfield 7, 3) := by decide +kernel
theorem dX12_go_99 : decode cX12_go 99 = .ok (.iload_n 3, 1) := by decide +kernel
theorem dX12_go_100 : decode cX12_go 100 = .ok (.bipush 8, 2) := by decide +kernel
theorem dX12_go_102 : decode cX12_go 102 = .ok (.iadd, 1) := by decide +kernel
theorem dX12_go_103 : decode cX12_go 103 = .ok (.iaload, 1) := by decide +kernel
theorem dX12_go_104 : decode cX12_go 104 = .ok (.aload_n 0, 1) := by decide +kernel
theorem dX12_go_105 : decode cX12_go 105 = .ok (.getfield 7, 3) := by decide +kernel
theorem dX12_go_108 : decode cX12_go 108 = .ok (.iload_n 3, 1) := by decide +kernel
theorem dX12_go_109 : decode cX12_go 109 = .ok (.bipush 7, 2) := by decide +kernel
theorem dX12_go_111 : decode cX12_go 111 = .ok (.iadd, 1) := by decide +kernel
theorem dX12_go_112 : decode cX12_go 112 = .ok (.iaload, 1) := by decide +kernel
theorem dX12_go_113 : decode cX12_go 113 = .ok (.if_icmp .ge 53, 3) := by decide +kernel
theorem dX12_go_116 : decode cX12_go 116 = .ok (.aload_n 0, 1) := by decide +kernel
theorem dX12_go_117 : decode cX12_go 117 = .ok (.dup, 1) := by decide +kernel
theorem dX12_go_118 : decode cX12_go 118 = .ok (.getfield 341, 3) := by decide +kernel
theorem dX12_go_121 : decode cX12_go 121 = .ok (.iconst 1, 1) := by decide +kernel
theorem dX12_go_122 : decode cX12_go 122 = .ok (.iadd, 1) := by decide +kernel
theorem dX12_go_123 : decode cX12_go 123 = .ok (.putfield 341, 3) := by decide +kernel
theorem dX12_go_126 : decode cX12_go 126 = .ok (.aload_n 0, 1) := by decide +kernel
theorem dX12_go_127 : decode cX12_go 127 = .ok (.iload_n 1, 1) := by decide +kernel
theorem dX12_go_128 : decode cX12_go 128 = .ok (.invokevirtual 344, 3) := by decide +kernel
theorem dX12_go_131 : decode cX12_go 131 = .ok (.ifCond .ne 7, 3) := by decide +kernel
theorem dX12_go_134 : decode cX12_go 134 = .ok (.iconst 1, 1) := by decide +kernel
theorem dX12_go_135 : decode cX12_go 135 = .ok (.goto 4, 3) := by decide +kernel
theorem dX12_go_138 : decode cX12_go 138 = .ok (.iconst 0, 1) := by decide +kernel
theorem dX12_go_139 : decode cX12_go 139 = .ok (.istore 5, 2) := by decide +kernel
theorem dX12_go_141 : decode cX12_go 141 = .ok (.iload 5, 2) := by decide +kernel
theorem dX12_go_143 : decode cX12_go 143 = .ok (.ifCond .eq (-59), 3) := by decide +kernel
theorem dX12_go_146 : decode cX12_go 146 = .ok (.iload 4, 2) := by decide +kernel
theorem dX12_go_148 : decode cX12_go 148 = .ok (.ifCond .ne 7, 3) := by decide +kernel
theorem dX12_go_151 : decode cX12_go 151 = .ok (.aload_n 0, 1) := by decide +kernel
theorem dX12_go_152 : decode cX12_go 152 = .ok (.invokevirtual 96, 3) := by decide +kernel
theorem dX12_go_155 : decode cX12_go 155 = .ok (.aload_n 0, 1) := by decide +kernel
theorem dX12_go_156 : decode cX12_go 156 = .ok (.iload_n 1, 1) := by decide +kernel
theorem dX12_go_157 : decode cX12_go 157 = .ok (.invokevirtual 347, 3) := by decide +kernel
theorem dX12_go_160 : decode cX12_go 160 = .ok (.iinc 4 1, 3) := by decide +kernel
theorem dX12_go_163 : decode cX12_go 163 = .ok (.goto (-79), 3) := by decide +kernel
theorem dX12_go_166 : decode cX12_go 166 = .ok (.aload_n 0, 1) := by decide +kernel
theorem dX12_go_167 : decode cX12_go 167 = .ok (.iload 4, 2) := by decide +kernel
theorem dX12_go_169 : decode cX12_go 169 = .ok (.invokevirtual 102, 3) := by decide +kernel
theorem dX12_go_172 : decode cX12_go 172 = .ok (.ireturn, 1) := by decide +kernel
theorem dX12_goesOn_0 : decode cX12_goesOn 0 = .ok (.aload_n 0, 1) := by decide +kernel
theorem dX12_goesOn_1 : decode cX12_goesOn 1 = .ok (.iload_n 1, 1) := by decide +kernel
theorem dX12_goesOn_2 : decode cX12_goesOn 2 = .ok (.invokevirtual 188, 3) := by decide +kernel
theorem dX12_goesOn_5 : decode cX12_goesOn 5 = .ok (.istore_n 2, 1) := by decide +kernel
theorem dX12_goesOn_6 : decode cX12_goesOn 6 = .ok (.aload_n 0, 1) := by decide +kernel
theorem dX12_goesOn_7 : decode cX12_goesOn 7 = .ok (.getfield 7, 3) := by decide +kernel
theorem dX12_goesOn_10 : decode cX12_goesOn 10 = .ok (.iload_n 2, 1) := by decide +kernel
theorem dX12_goesOn_11 : decode cX12_goesOn 11 = .ok (.bipush 6, 2) := by decide +kernel
theorem dX12_goesOn_13 : decode cX12_goesOn 13 = .ok (.iadd, 1) := by decide +kernel
theorem dX12_goesOn_14 : decode cX12_goesOn 14 = .ok (.iaload, 1) := by decide +kernel
theorem dX12_goesOn_15 : decode cX12_goesOn 15 = .ok (.aload_n 0, 1) := by decide +kernel
theorem dX12_goesOn_16 : decode cX12_goesOn 16 = .ok (.getfield 7, 3) := by decide +kernel
theorem dX12_goesOn_19 : decode cX12_goesOn 19 = .ok (.iload_n 2, 1) := by decide +kernel
theorem dX12_goesOn_20 : decode cX12_goesOn 20 = .ok (.bipush 8, 2) := by decide +kernel
theorem dX12_goesOn_22 : decode cX12_goesOn 22 = .ok (.iadd, 1) := by decide +kernel
theorem dX12_goesOn_23 : decode cX12_goesOn 23 = .ok (.iaload, 1) := by decide +kernel
theorem dX12_goesOn_24 : decode cX12_goesOn 24 = .ok (.iadd, 1) := by decide +kernel
theorem dX12_goesOn_25 : decode cX12_goesOn 25 = .ok (.istore_n 3, 1) := by decide +kernel
theorem dX12_goesOn_26 : decode cX12_goesOn 26 = .ok (.aload_n 0, 1) := by decide +kernel
theorem dX12_goesOn_27 : decode cX12_goesOn 27 = .ok (.aload_n 0, 1) := by decide +kernel
theorem dX12_goesOn_28 : decode cX12_goesOn 28 = .ok (.getfield 7, 3) := by decide +kernel
theorem dX12_goesOn_31 : decode cX12_goesOn 31 = .ok (.sipush 9642, 3) := by decide +kernel
theorem dX12_goesOn_34 : decode cX12_goesOn 34 = .ok (.iconst 3, 1) := by decide +kernel
theorem dX12_goesOn_35 : decode cX12_goesOn 35 = .ok (.iload_n 3, 1) := by decide +kernel
theorem dX12_goesOn_36 : decode cX12_goesOn 36 = .ok (.imul, 1) := by decide +kernel
theorem dX12_goesOn_37 : decode cX12_goesOn 37 = .ok (.iadd, 1) := by decide +kernel
theorem dX12_goesOn_38 : decode cX12_goesOn 38 = .ok (.iaload, 1) := by decide +kernel
theorem dX12_goesOn_39 : decode cX12_goesOn 39 = .ok (.invokevirtual 109, 3) := by decide +kernel
theorem dX12_goesOn_42 : decode cX12_goesOn 42 = .ok (.istore 4, 2) := by decide +kernel
theorem dX12_goesOn_44 : decode cX12_goesOn 44 = .ok (.aload_n 0, 1) := by decide +kernel
theorem dX12_goesOn_45 : decode cX12_goesOn 45 = .ok (.getfield 7, 3) := by decide +kernel
theorem dX12_goesOn_48 : decode cX12_goesOn 48 = .ok (.sipush 9642, 3) := by decide +kernel
theorem dX12_goesOn_51 : decode cX12_goesOn 51 = .ok (.iconst 3, 1) := by decide +kernel
theorem dX12_goesOn_52 : decode cX12_goesOn 52 = .ok (.iload_n 3, 1) := by decide +kernel
theorem dX12_goesOn_53 : decode cX12_goesOn 53 = .ok (.imul, 1) := by decide +kernel
theorem dX12_goesOn_54 : decode cX12_goesOn 54 = .ok (.iadd, 1) := by decide +kernel
theorem dX12_goesOn_55 : decode cX12_goesOn 55 = .ok (.iconst 2, 1) := by decide +kernel
theorem dX12_goesOn_56 : decode cX12_goesOn 56 = .ok (.iadd, 1) := by decide +kernel
theorem dX12_goesOn_57 : decode cX12_goesOn 57 = .ok (.iaload, 1) := by decide +kernel
theorem dX12_goesOn_58 : decode cX12_goesOn 58 = .ok (.ifCond .ne 7, 3) := by decide +kernel
theorem dX12_goesOn_61 : decode cX12_goesOn 61 = .ok (.iconst (-1), 1) := by decide +kernel
theorem dX12_goesOn_62 : decode cX12_goesOn 62 = .ok (.goto 17, 3) := by decide +kernel
theorem dX12_goesOn_65 : decode cX12_goesOn 65 = .ok (.aload_n 0, 1) := by decide +kernel
theorem dX12_goesOn_66 : decode cX12_goesOn 66 = .ok (.iload_n 1, 1) := by decide +kernel
theorem dX12_goesOn_67 : decode cX12_goesOn 67 = .ok (.aload_n 0, 1) := by decide +kernel
theorem dX12_goesOn_68 : decode cX12_goesOn 68 = .ok (.getfield 7, 3) := by decide +kernel
theorem dX12_goesOn_71 : decode cX12_goesOn 71 = .ok (.iload 4, 2) := by decide +kernel
theorem dX12_goesOn_73 : decode cX12_goesOn 73 = .ok (.iconst 0, 1) := by decide +kernel
theorem dX12_goesOn_74 : decode cX12_goesOn 74 = .ok (.iadd, 1) := by decide +kernel
theorem dX12_goesOn_75 : decode cX12_goesOn 75 = .ok (.iaload, 1) := by decide +kernel
theorem dX12_goesOn_76 : decode cX12_goesOn 76 = .ok (.invokevirtual 236, 3) := by decide +kernel
theorem dX12_goesOn_79 : decode cX12_goesOn 79 = .ok (.istore 5, 2) := by decide +kernel
theorem dX12_goesOn_81 : decode cX12_goesOn 81 = .ok (.aload_n 0, 1) := by decide +kernel
theorem dX12_goesOn_82 : decode cX12_goesOn 82 = .ok (.iload_n 1, 1) := by decide +kernel
theorem dX12_goesOn_83 : decode cX12_goesOn 83 = .ok (.aload_n 0, 1) := by decide +kernel
theorem dX12_goesOn_84 : decode cX12_goesOn 84 = .ok (.getfield 7, 3) := by decide +kernel
theorem dX12_goesOn_87 : decode cX12_goesOn 87 = .ok (.iload 4, 2) := by decide +kernel
theorem dX12_goesOn_89 : decode cX12_goesOn 89 = .ok (.bipush 6, 2) := by decide +kernel
theorem dX12_goesOn_91 : decode cX12_goesOn 91 = .ok (.iadd, 1) := by decide +kernel
theorem dX12_goesOn_92 : decode cX12_goesOn 92 = .ok (.iaload, 1) := by decide +kernel
theorem dX12_goesOn_93 : decode cX12_goesOn 93 = .ok (.invokevirtual 233, 3) := by decide +kernel
theorem dX12_goesOn_96 : decode cX12_goesOn 96 = .ok (.istore 6, 2) := by decide +kernel
theorem dX12_goesOn_98 : decode cX12_goesOn 98 = .ok (.iload 5, 2) := by decide +kernel
theorem dX12_goesOn_100 : decode cX12_goesOn 100 = .ok (.ifCond .ne 9, 3) := by decide +kernel
theorem dX12_goesOn_103 : decode cX12_goesOn 103 = .ok (.aload_n 0, 1) := by decide +kernel
theorem dX12_goesOn_104 : decode cX12_goesOn 104 = .ok (.bipush (-9), 2) := by decide +kernel
theorem dX12_goesOn_106 : decode cX12_goesOn 106 = .ok (.invokevirtual 80, 3) := by decide +kernel
theorem dX12_goesOn_109 : decode cX12_goesOn 109 = .ok (.iload 5, 2) := by decide +kernel
theorem dX12_goesOn_111 : decode cX12_goesOn 111 = .ok (.ifCond .le 107, 3) := by decide +kernel
theorem dX12_goesOn_114 : decode cX12_goesOn 114 = .ok (.aload_n 0, 1) := by decide +kernel
theorem dX12_goesOn_115 : decode cX12_goesOn 115 = .ok (.getfield 7, 3) := by decide +kernel
theorem dX12_goesOn_118 : decode cX12_goesOn 118 = .ok (.iload 4, 2) := by decide +kernel
theorem dX12_goesOn_120 : decode cX12_goesOn 120 = .ok (.iconst 2, 1) := by decide +kernel
theorem dX12_goesOn_121 : decode cX12_goesOn 121 = .ok (.iadd, 1) := by decide +kernel
theorem dX12_goesOn_122 : decode cX12_goesOn 122 = .ok (.dup2, 1) := by decide +kernel
theorem dX12_goesOn_123 : decode cX12_goesOn 123 = .ok (.iaload, 1) := by decide +kernel
theorem dX12_goesOn_124 : decode cX12_goesOn 124 = .ok (.aload_n 0, 1) := by decide +kernel
theorem dX12_goesOn_125 : decode cX12_goesOn 125 = .ok (.getfield 7, 3) := by decide +kernel
theorem dX12_goesOn_128 : decode cX12_goesOn 128 = .ok (.iload 4, 2) := by decide +kernel
theorem dX12_goesOn_130 : decode cX12_goesOn 130 = .ok (.iconst 2, 1) := by decide +kernel
theorem dX12_goesOn_131 : decode cX12_goesOn 131 = .ok (.iadd, 1) := by decide +kernel
theorem dX12_goesOn_132 : decode cX12_goesOn 132 = .ok (.iaload, 1) := by decide +kernel
theorem dX12_goesOn_133 : decode cX12_goesOn 133 = .ok (.aload_n 0, 1) := by decide +kernel
theorem dX12_goesOn_134 : decode cX12_goesOn 134 = .ok (.getfield 7, 3) := by decide +kernel
theorem dX12_goesOn_137 : decode cX12_goesOn 137 = .ok (.iload 4, 2) := by decide +kernel
theorem dX12_goesOn_139 : decode cX12_goesOn 139 = .ok (.iconst 3, 1) := by decide +kernel
theorem dX12_goesOn_140 : decode cX12_goesOn 140 = .ok (.iadd, 1) := by decide +kernel
theorem dX12_goesOn_141 : decode cX12_goesOn 141 = .ok (.iaload, 1) := by decide +kernel
theorem dX12_goesOn_142 : decode cX12_goesOn 142 = .ok (.if_icmp .ge 7, 3) := by decide +kernel
theorem dX12_goesOn_145 : decode cX12_goesOn 145 = .ok (.iconst 1, 1) := by decide +kernel
theorem dX12_goesOn_146 : decode cX12_goesOn 146 = .ok (.goto 4, 3) := by decide +kernel
theorem dX12_goesOn_149 : decode cX12_goesOn 149 = .ok (.iconst 0, 1) := by decide +kernel
theorem dX12_goesOn_150 : decode cX12_goesOn 150 = .ok (.iadd, 1) := by decide +kernel
theorem dX12_goesOn_151 : decode cX12_goesOn 151 = .ok (.iastore, 1) := by decide +kernel
theorem dX12_goesOn_152 : decode cX12_goesOn 152 = .ok (.aload_n 0, 1) := by decide +kernel
theorem dX12_goesOn_153 : decode cX12_goesOn 153 = .ok (.getfield 7, 3) := by decide +kernel
theorem dX12_goesOn_156 : decode cX12_goesOn 156 = .ok (.iload 4, 2) := by decide +kernel
theorem dX12_goesOn_158 : decode cX12_goesOn 158 = .ok (.iconst 0, 1) := by decide +kernel
theorem dX12_goesOn_159 : decode cX12_goesOn 159 = .ok (.iadd, 1) := by decide +kernel
theorem dX12_goesOn_160 : decode cX12_goesOn 160 = .ok (.aload_n 0, 1) := by decide +kernel
theorem dX12_goesOn_161 : decode cX12_goesOn 161 = .ok (.getfield 7, 3) := by decide +kernel
theorem dX12_goesOn_164 : decode cX12_goesOn 164 = .ok (.iload 4, 2) := by decide +kernel
theorem dX12_goesOn_166 : decode cX12_goesOn 166 = .ok (.iconst 2, 1) := by decide +kernel
theorem dX12_goesOn_167 : decode cX12_goesOn 167 = .ok (.iadd, 1) := by decide +kernel
theorem dX12_goesOn_168 : decode cX12_goesOn 168 = .ok (.iaload, 1) := by decide +kernel
theorem dX12_goesOn_169 : decode cX12_goesOn 169 = .ok (.aload_n 0, 1) := by decide +kernel
theorem dX12_goesOn_170 : decode cX12_goesOn 170 = .ok (.getfield 7, 3) := by decide +kernel
theorem dX12_goesOn_173 : decode cX12_goesOn 173 = .ok (.iload 4, 2) := by decide +kernel
theorem dX12_goesOn_175 : decode cX12_goesOn 175 = .ok (.iconst 3, 1) := by decide +kernel
theorem dX12_goesOn_176 : decode cX12_goesOn 176 = .ok (.iadd, 1) := by decide +kernel
theorem dX12_goesOn_177 : decode cX12_goesOn 177 = .ok (.iaload, 1) := by decide +kernel
theorem dX12_goesOn_178 : decode cX12_goesOn 178 = .ok (.if_icmp .lt 7, 3) := by decide +kernel
theorem dX12_goesOn_181 : decode cX12_goesOn 181 = .ok (.iconst 0, 1) := by decide +kernel
theorem dX12_goesOn_182 : decode cX12_goesOn 182 = .ok (.goto 12, 3) := by decide +kernel
theorem dX12_goesOn_185 : decode cX12_goesOn 185 = .ok (.aload_n 0, 1) := by decide +kernel
theorem dX12_goesOn_186 : decode cX12_goesOn 186 = .ok (.getfield 7, 3) := by decide +kernel
theorem dX12_goesOn_189 : decode cX12_goesOn 189 = .ok (.iload 4, 2) := by decide +kernel
theorem dX12_goesOn_191 : decode cX12_goesOn 191 = .ok (.iconst 0, 1) := by decide +kernel
theorem dX12_goesOn_192 : decode cX12_goesOn 192 = .ok (.iadd, 1) := by decide +kernel
theorem dX12_goesOn_193 : decode cX12_goesOn 193 = .ok (.iaload, 1) := by decide +kernel
theorem dX12_goesOn_194 : decode cX12_goesOn 194 = .ok (.iastore, 1) := by decide +kernel
theorem dX12_goesOn_195 : decode cX12_goesOn 195 = .ok (.aload_n 0, 1) := by decide +kernel
theorem dX12_goesOn_196 : decode cX12_goesOn 196 = .ok (.getfield 7, 3) := by decide +kernel
theorem dX12_goesOn_199 : decode cX12_goesOn 199 = .ok (.iload_n 2, 1) := by decide +kernel
theorem dX12_goesOn_200 : decode cX12_goesOn 200 = .ok (.bipush 11, 2) := by decide +kernel
theorem dX12_goesOn_202 : decode cX12_goesOn 202 = .ok (.iadd, 1) := by decide +kernel
theorem dX12_goesOn_203 : decode cX12_goesOn 203 = .ok (.dup2, 1) := by decide +kernel
theorem dX12_goesOn_204 : decode cX12_goesOn 204 = .ok (.iaload, 1) := by decide +kernel
theorem dX12_goesOn_205 : decode cX12_goesOn 205 = .ok (.iload 5, 2) := by decide +kernel
theorem dX12_goesOn_207 : decode cX12_goesOn 207 = .ok (.iconst 1, 1) := by decide +kernel
theorem dX12_goesOn_208 : decode cX12_goesOn 208 = .ok (.if_icmp .le 7, 3) := by decide +kernel
theorem dX12_goesOn_211 : decode cX12_goesOn 211 = .ok (.iconst 1, 1) := by decide +kernel
theorem dX12_goesOn_212 : decode cX12_goesOn 212 = .ok (.goto 4, 3) := by decide +kernel
theorem dX12_goesOn_215 : decode cX12_goesOn 215 = .ok (.iconst 0, 1) := by decide +kernel
theorem dX12_goesOn_216 : decode cX12_goesOn 216 = .ok (.iadd, 1) := by decide +kernel
theorem dX12_goesOn_217 : decode cX12_goesOn 217 = .ok (.iastore, 1) := by decide +kernel
theorem dX12_goesOn_218 : decode cX12_goesOn 218 = .ok (.aload_n 0, 1) := by decide +kernel
theorem dX12_goesOn_219 : decode cX12_goesOn 219 = .ok (.getfield 7, 3) := by decide +kernel
theorem dX12_goesOn_222 : decode cX12_goesOn 222 = .ok (.iload_n 2, 1) := by decide +kernel
theorem dX12_goesOn_223 : decode cX12_goesOn 223 = .ok (.bipush 9, 2) := by decide +kernel
theorem dX12_goesOn_225 : decode cX12_goesOn 225 = .ok (.iadd, 1) := by decide +kernel
theorem dX12_goesOn_226 : decode cX12_goesOn 226 = .ok (.dup2, 1) := by decide +kernel
theorem dX12_goesOn_227 : decode cX12_goesOn 227 = .ok (.iaload, 1) := by decide +kernel
theorem dX12_goesOn_228 : decode cX12_goesOn 228 = .ok (.iload 5, 2) := by decide +kernel
theorem dX12_goesOn_230 : decode cX12_goesOn 230 = .ok (.ifCond .le 11, 3) := by decide +kernel
theorem dX12_goesOn_233 : decode cX12_goesOn 233 = .ok (.iload 5, 2) := by decide +kernel
theorem dX12_goesOn_235 : decode cX12_goesOn 235 = .ok (.iload 6, 2) := by decide +kernel
theorem dX12_goesOn_237 : decode cX12_goesOn 237 = .ok (.imul, 1) := by decide +kernel
theorem dX12_goesOn_238 : decode cX12_goesOn 238 = .ok (.goto 5, 3) := by decide +kernel
theorem dX12_goesOn_241 : decode cX12_goesOn 241 = .ok (.iload 6, 2) := by decide +kernel
theorem dX12_goesOn_243 : decode cX12_goesOn 243 = .ok (.iadd, 1) := by decide +kernel
theorem dX12_goesOn_244 : decode cX12_goesOn 244 = .ok (.iastore, 1) := by decide +kernel
theorem dX12_goesOn_245 : decode cX12_goesOn 245 = .ok (.aload_n 0, 1) := by decide +kernel
theorem dX12_goesOn_246 : decode cX12_goesOn 246 = .ok (.getfield 7, 3) := by decide +kernel
theorem dX12_goesOn_249 : decode cX12_goesOn 249 = .ok (.iload_n 2, 1) := by decide +kernel
theorem dX12_goesOn_250 : decode cX12_goesOn 250 = .ok (.bipush 12, 2) := by decide +kernel
theorem dX12_goesOn_252 : decode cX12_goesOn 252 = .ok (.iadd, 1) := by decide +kernel
theorem dX12_goesOn_253 : decode cX12_goesOn 253 = .ok (.dup2, 1) := by decide +kernel
theorem dX12_goesOn_254 : decode cX12_goesOn 254 = .ok (.iaload, 1) := by decide +kernel
theorem dX12_goesOn_255 : decode cX12_goesOn 255 = .ok (.aload_n 0, 1) := by decide +kernel
theorem dX12_goesOn_256 : decode cX12_goesOn 256 = .ok (.getfield 7, 3) := by decide +kernel
theorem dX12_goesOn_259 : decode cX12_goesOn 259 = .ok (.iload_n 2, 1) := by decide +kernel
theorem dX12_goesOn_260 : decode cX12_goesOn 260 = .ok (.bipush 9, 2) := by decide +kernel
theorem dX12_goesOn_262 : decode cX12_goesOn 262 = .ok (.iadd, 1) := by decide +kernel
theorem dX12_goesOn_263 : decode cX12_goesOn 263 = .ok (.iaload, 1) := by decide +kernel
theorem dX12_goesOn_264 : decode cX12_goesOn 264 = .ok (.aload_n 0, 1) := by decide +kernel
theorem dX12_goesOn_265 : decode cX12_goesOn 265 = .ok (.getfield 7, 3) := by decide +kernel
theorem dX12_goesOn_268 : decode cX12_goesOn 268 = .ok (.iload_n 2, 1) := by decide +kernel
theorem dX12_goesOn_269 : decode cX12_goesOn 269 = .ok (.iconst 1, 1) := by decide +kernel
theorem dX12_goesOn_270 : decode cX12_goesOn 270 = .ok (.iadd, 1) := by decide +kernel
theorem dX12_goesOn_271 : decode cX12_goesOn 271 = .ok (.iaload, 1) := by decide +kernel
theorem dX12_goesOn_272 : decode cX12_goesOn 272 = .ok (.if_icmp .le 7, 3) := by decide +kernel
theorem dX12_goesOn_275 : decode cX12_goesOn 275 = .ok (.iconst 1, 1) := by decide +kernel
theorem dX12_goesOn_276 : decode cX12_goesOn 276 = .ok (.goto 4, 3) := by decide +kernel
theorem dX12_goesOn_279 : decode cX12_goesOn 279 = .ok (.iconst 0, 1) := by decide +kernel
theorem dX12_goesOn_280 : decode cX12_goesOn 280 = .ok (.iadd, 1) := by decide +kernel
theorem dX12_goesOn_281 : decode cX12_goesOn 281 = .ok (.iastore, 1) := by decide +kernel
theorem dX12_goesOn_282 : decode cX12_goesOn 282 = .ok (.aload_n 0, 1) := by decide +kernel
theorem dX12_goesOn_283 : decode cX12_goesOn 283 = .ok (.getfield 7, 3) := by decide +kernel
theorem dX12_goesOn_286 : decode cX12_goesOn 286 = .ok (.iload_n 2, 1) := by decide +kernel
theorem dX12_goesOn_287 : decode cX12_goesOn 287 = .ok (.bipush 8, 2) := by decide +kernel
theorem dX12_goesOn_289 : decode cX12_goesOn 289 = .ok (.iadd, 1) := by decide +kernel
theorem dX12_goesOn_290 : decode cX12_goesOn 290 = .ok (.dup2, 1) := by decide +kernel
theorem dX12_goesOn_291 : decode cX12_goesOn 291 = .ok (.iaload, 1) := by decide +kernel
theorem dX12_goesOn_292 : decode cX12_goesOn 292 = .ok (.iconst 1, 1) := by decide +kernel
theorem dX12_goesOn_293 : decode cX12_goesOn 293 = .ok (.iadd, 1) := by decide +kernel
theorem dX12_goesOn_294 : decode cX12_goesOn 294 = .ok (.iastore, 1) := by decide +kernel
theorem dX12_goesOn_295 : decode cX12_goesOn 295 = .ok (.return_, 1) := by decide +kernel
theorem dX12_hasMore_0 : decode cX12_hasMore 0 = .ok (.iconst 0, 1) := by decide +kernel
theorem dX12_hasMore_1 : decode cX12_hasMore 1 = .ok (.istore_n 2, 1) := by decide +kernel
theorem dX12_hasMore_2 : decode cX12_hasMore 2 = .ok (.iconst 0, 1) := by decide +kernel
theorem dX12_hasMore_3 : decode cX12_hasMore 3 = .ok (.istore_n 3, 1) := by decide +kernel
theorem dX12_hasMore_4 : decode cX12_hasMore 4 = .ok (.iload_n 3, 1) := by decide +kernel
theorem dX12_hasMore_5 : decode cX12_hasMore 5 = .ok (.aload_n 0, 1) := by decide +kernel
theorem dX12_hasMore_6 : decode cX12_hasMore 6 = .ok (.getfield 7, 3) := by decide +kernel
theorem dX12_hasMore_9 : decode cX12_hasMore 9 = .ok (.iconst 1, 1) := by decide +kernel
theorem dX12_hasMore_10 : decode cX12_hasMore 10 = .ok (.iaload, 1) := by decide +kernel
theorem dX12_hasMore_11 : decode cX12_hasMore 11 = .ok (.if_icmp .ge 46, 3) := by decide +kernel
theorem dX12_hasMore_14 : decode cX12_hasMore 14 = .ok (.iload_n 2, 1) := by decide +kernel
theorem dX12_hasMore_15 : decode cX12_hasMore 15 = .ok (.ifCond .ne 30, 3) := by decide +kernel
theorem dX12_hasMore_18 : decode cX12_hasMore 18 = .ok (.aload_n 1, 1) := by decide +kernel
theorem dX12_hasMore_19 : decode cX12_hasMore 19 = .ok (.iload_n 3, 1) := by decide +kernel
theorem dX12_hasMore_20 : decode cX12_hasMore 20 = .ok (.iaload, 1) := by decide +kernel
theorem dX12_hasMore_21 : decode cX12_hasMore 21 = .ok (.ifCond .le 28, 3) := by decide +kernel
theorem dX12_hasMore_24 : decode cX12_hasMore 24 = .ok (.aload_n 0, 1) := by decide +kernel
theorem dX12_hasMore_25 : decode cX12_hasMore 25 = .ok (.getfield 43, 3) := by decide +kernel
theorem dX12_hasMore_28 : decode cX12_hasMore 28 = .ok (.aload_n 0, 1) := by decide +kernel
theorem dX12_hasMore_29 : decode cX12_hasMore 29 = .ok (.getfield 7, 3) := by decide +kernel
theorem dX12_hasMore_32 : decode cX12_hasMore 32 = .ok (.aload_n 0, 1) := by decide +kernel
theorem dX12_hasMore_33 : decode cX12_hasMore 33 = .ok (.iload_n 3, 1) := by decide +kernel
theorem dX12_hasMore_34 : decode cX12_hasMore 34 = .ok (.invokevirtual 109, 3) := by decide +kernel
theorem dX12_hasMore_37 : decode cX12_hasMore 37 = .ok (.bipush 7, 2) := by decide +kernel
theorem dX12_hasMore_39 : decode cX12_hasMore 39 = .ok (.iadd, 1) := by decide +kernel
theorem dX12_hasMore_40 : decode cX12_hasMore 40 = .ok (.iaload, 1) := by decide +kernel
theorem dX12_hasMore_41 : decode cX12_hasMore 41 = .ok (.baload, 1) := by decide +kernel
theorem dX12_hasMore_42 : decode cX12_hasMore 42 = .ok (.ifCond .ne 7, 3) := by decide +kernel
theorem dX12_hasMore_45 : decode cX12_hasMore 45 = .ok (.iconst 1, 1) := by decide +kernel
theorem dX12_hasMore_46 : decode cX12_hasMore 46 = .ok (.goto 4, 3) := by decide +kernel
theorem dX12_hasMore_49 : decode cX12_hasMore 49 = .ok (.iconst 0, 1) := by decide +kernel
theorem dX12_hasMore_50 : decode cX12_hasMore 50 = .ok (.istore_n 2, 1) := by decide +kernel
theorem dX12_hasMore_51 : decode cX12_hasMore 51 = .ok (.iinc 3 1, 3) := by decide +kernel
theorem dX12_hasMore_54 : decode cX12_hasMore 54 = .ok (.goto (-50), 3) := by decide +kernel
theorem dX12_hasMore_57 : decode cX12_hasMore 57 = .ok (.iload_n 2, 1) := by decide +kernel
theorem dX12_hasMore_58 : decode cX12_hasMore 58 = .ok (.ireturn, 1) := by decide +kernel
theorem dX12_in_0 : decode cX12_in 0 = .ok (.iload_n 0, 1) := by decide +kernel
theorem dX12_in_1 : decode cX12_in 1 = .ok (.iload_n 1, 1) := by decide +kernel
theorem dX12_in_2 : decode cX12_in 2 = .ok (.if_icmp .lt 12, 3) := by decide +kernel
theorem dX12_in_5 : decode cX12_in 5 = .ok (.iload_n 0, 1) := by decide +kernel
theorem dX12_in_6 : decode cX12_in 6 = .ok (.iload_n 2, 1) := by decide +kernel
theorem dX12_in_7 : decode cX12_in 7 = .ok (.if_icmp .gt 7, 3) := by decide +kernel
theorem dX12_in_10 : decode cX12_in 10 = .ok (.iconst 1, 1) := by decide +kernel
theorem dX12_in_11 : decode cX12_in 11 = .ok (.goto 4, 3) := by decide +kernel
theorem dX12_in_14 : decode cX12_in 14 = .ok (.iconst 0, 1) := by decide +kernel
theorem dX12_in_15 : decode cX12_in 15 = .ok (.ireturn, 1) := by decide +kernel
theorem dX12_init_0 : decode cX12_init 0 = .ok (.aload_n 0, 1) := by decide +kernel
theorem dX12_init_1 : decode cX12_init 1 = .ok (.invokespecial 1, 3) := by decide +kernel
theorem dX12_init_4 : decode cX12_init 4 = .ok (.aload_n 0, 1) := by decide +kernel
theorem dX12_init_5 : decode cX12_init 5 = .ok (.sipush 15642, 3) := by decide +kernel
theorem dX12_init_8 : decode cX12_init 8 = .ok (.newarray .int, 2) := by decide +kernel
theorem dX12_init_10 : decode cX12_init 10 = .ok (.putfield 7, 3) := by decide +kernel
theorem dX12_init_13 : decode cX12_init 13 = .ok (.aload_n 0, 1) := by decide +kernel
theorem dX12_init_14 : decode cX12_init 14 = .ok (.sipush 15642, 3) := by decide +kernel
theorem dX12_init_17 : decode cX12_init 17 = .ok (.newarray .int, 2) := by decide +kernel
theorem dX12_init_19 : decode cX12_init 19 = .ok (.putfield 13, 3) := by decide +kernel
theorem dX12_init_22 : decode cX12_init 22 = .ok (.aload_n 0, 1) := by decide +kernel
theorem dX12_init_23 : decode cX12_init 23 = .ok (.iconst 5, 1) := by decide +kernel
theorem dX12_init_24 : decode cX12_init 24 = .ok (.newarray .int, 2) := by decide +kernel
theorem dX12_init_26 : decode cX12_init 26 = .ok (.putfield 16, 3) := by decide +kernel
theorem dX12_init_29 : decode cX12_init 29 = .ok (.aload_n 0, 1) := by decide +kernel
theorem dX12_init_30 : decode cX12_init 30 = .ok (.sipush 8000, 3) := by decide +kernel
theorem dX12_init_33 : decode cX12_init 33 = .ok (.newarray .char, 2) := by decide +kernel
theorem dX12_init_35 : decode cX12_init 35 = .ok (.putfield 19, 3) := by decide +kernel
theorem dX12_init_38 : decode cX12_init 38 = .ok (.aload_n 0, 1) := by decide +kernel
theorem dX12_init_39 : decode cX12_init 39 = .ok (.sipush 3600, 3) := by decide +kernel
theorem dX12_init_42 : decode cX12_init 42 = .ok (.newarray .int, 2) := by decide +kernel
theorem dX12_init_44 : decode cX12_init 44 = .ok (.putfield 23, 3) := by decide +kernel
theorem dX12_init_47 : decode cX12_init 47 = .ok (.aload_n 0, 1) := by decide +kernel
theorem dX12_init_48 : decode cX12_init 48 = .ok (.sipush 400, 3) := by decide +kernel
theorem dX12_init_51 : decode cX12_init 51 = .ok (.newarray .int, 2) := by decide +kernel
theorem dX12_init_53 : decode cX12_init 53 = .ok (.putfield 26, 3) := by decide +kernel
theorem dX12_init_56 : decode cX12_init 56 = .ok (.aload_n 0, 1) := by decide +kernel
theorem dX12_init_57 : decode cX12_init 57 = .ok (.bipush 20, 2) := by decide +kernel
theorem dX12_init_59 : decode cX12_init 59 = .ok (.newarray .boolean, 2) := by decide +kernel
theorem dX12_init_61 : decode cX12_init 61 = .ok (.putfield 29, 3) := by decide +kernel
theorem dX12_init_64 : decode cX12_init 64 = .ok (.aload_n 0, 1) := by decide +kernel
theorem dX12_init_65 : decode cX12_init 65 = .ok (.bipush 20, 2) := by decide +kernel
theorem dX12_init_67 : decode cX12_init 67 = .ok (.newarray .float, 2) := by decide +kernel
theorem dX12_init_69 : decode cX12_init 69 = .ok (.putfield 33, 3) := by decide +kernel
theorem dX12_init_72 : decode cX12_init 72 = .ok (.aload_n 0, 1) := by decide +kernel
theorem dX12_init_73 : decode cX12_init 73 = .ok (.sipush 150, 3) := by decide +kernel
theorem dX12_init_76 : decode cX12_init 76 = .ok (.newarray .int, 2) := by decide +kernel
theorem dX12_init_78 : decode cX12_init 78 = .ok (.putfield 37, 3) := by decide +kernel
theorem dX12_init_81 : decode cX12_init 81 = .ok (.aload_n 0, 1) := by decide +kernel
theorem dX12_init_82 : decode cX12_init 82 = .ok (.bipush 60, 2) := by decide +kernel
theorem dX12_init_84 : decode cX12_init 84 = .ok (.newarray .int, 2) := by decide +kernel
theorem dX12_init_86 : decode cX12_init 86 = .ok (.putfield 40, 3) := by decide +kernel
theorem dX12_init_89 : decode cX12_init 89 = .ok (.aload_n 0, 1) := by decide +kernel
theorem dX12_init_90 : decode cX12_init 90 = .ok (.bipush 60, 2) := by decide +kernel
theorem dX12_init_92 : decode cX12_init 92 = .ok (.newarray .boolean, 2) := by decide +kernel
theorem dX12_init_94 : decode cX12_init 94 = .ok (.putfield 43, 3) := by decide +kernel
theorem dX12_init_97 : decode cX12_init 97 = .ok (.aload_n 0, 1) := by decide +kernel
theorem dX12_init_98 : decode cX12_init 98 = .ok (.sipush 16384, 3) := by decide +kernel
theorem dX12_init_101 : decode cX12_init 101 = .ok (.newarray .int, 2) := by decide +kernel
theorem dX12_init_103 : decode cX12_init 103 = .ok (.putfield 46, 3) := by decide +kernel
theorem dX12_init_106 : decode cX12_init 106 = .ok (.aload_n 0, 1) := by decide +kernel
theorem dX12_init_107 : decode cX12_init 107 = .ok (.bipush 30, 2) := by decide +kernel
theorem dX12_init_109 : decode cX12_init 109 = .ok (.newarray .int, 2) := by decide +kernel
theorem dX12_init_111 : decode cX12_init 111 = .ok (.putfield 49, 3) := by decide +kernel
theorem dX12_init_114 : decode cX12_init 114 = .ok (.aload_n 0, 1) := by decide +kernel
theorem dX12_init_115 : decode cX12_init 115 = .ok (.bipush 30, 2) := by decide +kernel
theorem dX12_init_117 : decode cX12_init 117 = .ok (.newarray .int, 2) := by decide +kernel
theorem dX12_init_119 : decode cX12_init 119 = .ok (.putfield 52, 3) := by decide +kernel
theorem dX12_init_122 : decode cX12_init 122 = .ok (.aload_n 0, 1) := by decide +kernel
theorem dX12_init_123 : decode cX12_init 123 = .ok (.sipush 2000, 3) := by decide +kernel
theorem dX12_init_126 : decode cX12_init 126 = .ok (.newarray .int, 2) := by decide +kernel
theorem dX12_init_128 : decode cX12_init 128 = .ok (.putfield 55, 3) := by decide +kernel
theorem dX12_init_131 : decode cX12_init 131 = .ok (.aload_n 0, 1) := by decide +kernel
theorem dX12_init_132 : decode cX12_init 132 = .ok (.sipush 2000, 3) := by decide +kernel
theorem dX12_init_135 : decode cX12_init 135 = .ok (.newarray .int, 2) := by decide +kernel
theorem dX12_init_137 : decode cX12_init 137 = .ok (.putfield 58, 3) := by decide +kernel
theorem dX12_init_140 : decode cX12_init 140 = .ok (.aload_n 0, 1) := by decide +kernel
theorem dX12_init_141 : decode cX12_init 141 = .ok (.sipush 2000, 3) := by decide +kernel
theorem dX12_init_144 : decode cX12_init 144 = .ok (.newarray .int, 2) := by decide +kernel
theorem dX12_init_146 : decode cX12_init 146 = .ok (.putfield 61, 3) := by decide +kernel
theorem dX12_init_149 : decode cX12_init 149 = .ok (.aload_n 0, 1) := by decide +kernel
theorem dX12_init_150 : decode cX12_init 150 = .ok (.sipush 150, 3) := by decide +kernel
theorem dX12_init_153 : decode cX12_init 153 = .ok (.newarray .int, 2) := by decide +kernel
theorem dX12_init_155 : decode cX12_init 155 = .ok (.putfield 64, 3) := by decide +kernel
theorem dX12_init_158 : decode cX12_init 158 = .ok (.aload_n 0, 1) := by decide +kernel
theorem dX12_init_159 : decode cX12_init 159 = .ok (.bipush 12, 2) := by decide +kernel
theorem dX12_init_161 : decode cX12_init 161 = .ok (.newarray .int, 2) := by decide +kernel
theorem dX12_init_163 : decode cX12_init 163 = .ok (.putfield 67, 3) := by decide +kernel
theorem dX12_init_166 : decode cX12_init 166 = .ok (.aload_n 0, 1) := by decide +kernel
theorem dX12_init_167 : decode cX12_init 167 = .ok (.bipush 12, 2) := by decide +kernel
theorem dX12_init_169 : decode cX12_init 169 = .ok (.newarray .int, 2) := by decide +kernel
theorem dX12_init_171 : decode cX12_init 171 = .ok (.putfield 70, 3) := by decide +kernel
theorem dX12_init_174 : decode cX12_init 174 = .ok (.aload_n 0, 1) := by decide +kernel
theorem dX12_init_175 : decode cX12_init 175 = .ok (.bipush 12, 2) := by decide +kernel
theorem dX12_init_177 : decode cX12_init 177 = .ok (.newarray .int, 2) := by decide +kernel
theorem dX12_init_179 : decode cX12_init 179 = .ok (.putfield 73, 3) := by decide +kernel
theorem dX12_init_182 : decode cX12_init 182 = .ok (.iconst 0, 1) := by decide +kernel
theorem dX12_init_183 : decode cX12_init 183 = .ok (.istore_n 1, 1) := by decide +kernel
theorem dX12_init_184 : decode cX12_init 184 = .ok (.iload_n 1, 1) := by decide +kernel
theorem dX12_init_185 : decode cX12_init 185 = .ok (.bipush 60, 2) := by decide +kernel
theorem dX12_init_187 : decode cX12_init 187 = .ok (.if_icmp .ge 20, 3) := by decide +kernel
theorem dX12_init_190 : decode cX12_init 190 = .ok (.aload_n 0, 1) := by decide +kernel
theorem dX12_init_191 : decode cX12_init 191 = .ok (.getfield 7, 3) := by decide +kernel
theorem dX12_init_194 : decode cX12_init 194 = .ok (.sipush 9582, 3) := by decide +kernel
theorem dX12_init_197 : decode cX12_init 197 = .ok (.iload_n 1, 1) := by decide +kernel
theorem dX12_init_198 : decode cX12_init 198 = .ok (.iadd, 1) := by decide +kernel
theorem dX12_init_199 : decode cX12_init 199 = .ok (.iconst (-1), 1) := by decide +kernel
theorem dX12_init_200 : decode cX12_init 200 = .ok (.iastore, 1) := by decide +kernel
theorem dX12_init_201 : decode cX12_init 201 = .ok (.iinc 1 1, 3) := by decide +kernel
theorem dX12_init_204 : decode cX12_init 204 = .ok (.goto (-20), 3) := by decide +kernel
theorem dX12_init_207 : decode cX12_init 207 = .ok (.return_, 1) := by decide +kernel
theorem dX12_isApart_0 : decode cX12_isApart 0 = .ok (.iconst 0, 1) := by decide +kernel
theorem dX12_isApart_1 : decode cX12_isApart 1 = .ok (.istore_n 2, 1) := by decide +kernel
theorem dX12_isApart_2 : decode cX12_isApart 2 = .ok (.iconst 0, 1) := by decide +kernel
theorem dX12_isApart_3 : decode cX12_isApart 3 = .ok (.istore_n 3, 1) := by decide +kernel
theorem dX12_isApart_4 : decode cX12_isApart 4 = .ok (.iload_n 3, 1) := by decide +kernel
theorem dX12_isApart_5 : decode cX12_isApart 5 = .ok (.aload_n 0, 1) := by decide +kernel
theorem dX12_isApart_6 : decode cX12_isApart 6 = .ok (.getfield 7, 3) := by decide +kernel
theorem dX12_isApart_9 : decode cX12_isApart 9 = .ok (.iconst 1, 1) := by decide +kernel
theorem dX12_isApart_10 : decode cX12_isApart 10 = .ok (.iaload, 1) := by decide +kernel
theorem dX12_isApart_11 : decode cX12_isApart 11 = .ok (.if_icmp .ge 71, 3) := by decide +kernel
theorem dX12_isApart_14 : decode cX12_isApart 14 = .ok (.iload_n 2, 1) := by decide +kernel
theorem dX12_isApart_15 : decode cX12_isApart 15 = .ok (.ifCond .ne 55, 3) := by decide +kernel
theorem dX12_isApart_18 : decode cX12_isApart 18 = .ok (.aload_n 0, 1) := by decide +kernel
theorem dX12_isApart_19 : decode cX12_isApart 19 = .ok (.getfield 37, 3) := by decide +kernel
theorem dX12_isApart_22 : decode cX12_isApart 22 = .ok (.iload_n 3, 1) := by decide +kernel
theorem dX12_isApart_23 : decode cX12_isApart 23 = .ok (.iaload, 1) := by decide +kernel
theorem dX12_isApart_24 : decode cX12_isApart 24 = .ok (.ifCond .le 50, 3) := by decide +kernel
theorem dX12_isApart_27 : decode cX12_isApart 27 = .ok (.aload_n 0, 1) := by decide +kernel
theorem dX12_isApart_28 : decode cX12_isApart 28 = .ok (.getfield 43, 3) := by decide +kernel
theorem dX12_isApart_31 : decode cX12_isApart 31 = .ok (.iload_n 1, 1) := by decide +kernel
theorem dX12_isApart_32 : decode cX12_isApart 32 = .ok (.baload, 1) := by decide +kernel
theorem dX12_isApart_33 : decode cX12_isApart 33 = .ok (.ifCond .ne 41, 3) := by decide +kernel
theorem dX12_isApart_36 : decode cX12_isApart 36 = .ok (.aload_n 0, 1) := by decide +kernel
theorem dX12_isApart_37 : decode cX12_isApart 37 = .ok (.getfield 7, 3) := by decide +kernel
theorem dX12_isApart_40 : decode cX12_isApart 40 = .ok (.aload_n 0, 1) := by decide +kernel
theorem dX12_isApart_41 : decode cX12_isApart 41 = .ok (.iload_n 3, 1) := by decide +kernel
theorem dX12_isApart_42 : decode cX12_isApart 42 = .ok (.invokevirtual 109, 3) := by decide +kernel
theorem dX12_isApart_45 : decode cX12_isApart 45 = .ok (.bipush 7, 2) := by decide +kernel
theorem dX12_isApart_47 : decode cX12_isApart 47 = .ok (.iadd, 1) := by decide +kernel
theorem dX12_isApart_48 : decode cX12_isApart 48 = .ok (.iaload, 1) := by decide +kernel
theorem dX12_isApart_49 : decode cX12_isApart 49 = .ok (.iload_n 1, 1) := by decide +kernel
theorem dX12_isApart_50 : decode cX12_isApart 50 = .ok (.if_icmp .eq 20, 3) := by decide +kernel
theorem dX12_isApart_53 : decode cX12_isApart 53 = .ok (.aload_n 0, 1) := by decide +kernel
theorem dX12_isApart_54 : decode cX12_isApart 54 = .ok (.getfield 7, 3) := by decide +kernel
theorem dX12_isApart_57 : decode cX12_isApart 57 = .ok (.aload_n 0, 1) := by decide +kernel
theorem dX12_isApart_58 : decode cX12_isApart 58 = .ok (.iload_n 3, 1) := by decide +kernel
theorem dX12_isApart_59 : decode cX12_isApart 59 = .ok (.invokevirtual 109, 3) := by decide +kernel
theorem dX12_isApart_62 : decode cX12_isApart 62 = .ok (.bipush 8, 2) := by decide +kernel
theorem dX12_isApart_64 : decode cX12_isApart 64 = .ok (.iadd, 1) := by decide +kernel
theorem dX12_isApart_65 : decode cX12_isApart 65 = .ok (.iaload, 1) := by decide +kernel
theorem dX12_isApart_66 : decode cX12_isApart 66 = .ok (.iload_n 1, 1) := by decide +kernel
theorem dX12_isApart_67 : decode cX12_isApart 67 = .ok (.if_icmp .ne 7, 3) := by decide +kernel
theorem dX12_isApart_70 : decode cX12_isApart 70 = .ok (.iconst 1, 1) := by decide +kernel
theorem dX12_isApart_71 : decode cX12_isApart 71 = .ok (.goto 4, 3) := by decide +kernel
theorem dX12_isApart_74 : decode cX12_isApart 74 = .ok (.iconst 0, 1) := by decide +kernel
theorem dX12_isApart_75 : decode cX12_isApart 75 = .ok (.istore_n 2, 1) := by decide +kernel
theorem dX12_isApart_76 : decode cX12_isApart 76 = .ok (.iinc 3 1, 3) := by decide +kernel
theorem dX12_isApart_79 : decode cX12_isApart 79 = .ok (.goto (-75), 3) := by decide +kernel
theorem dX12_isApart_82 : decode cX12_isApart 82 = .ok (.iload_n 2, 1) := by decide +kernel
theorem dX12_isApart_83 : decode cX12_isApart 83 = .ok (.ireturn, 1) := by decide +kernel
theorem dX12_isCrossing_0 : decode cX12_isCrossing 0 = .ok (.iload_n 1, 1) := by decide +kernel
theorem dX12_isCrossing_1 : decode cX12_isCrossing 1 = .ok (.iconst 0, 1) := by decide +kernel
theorem dX12_isCrossing_2 : decode cX12_isCrossing 2 = .ok (.aload_n 0, 1) := by decide +kernel
theorem dX12_isCrossing_3 : decode cX12_isCrossing 3 = .ok (.getfield 7, 3) := by decide +kernel
theorem dX12_isCrossing_6 : decode cX12_isCrossing 6 = .ok (.iconst 0, 1) := by decide +kernel
theorem dX12_isCrossing_7 : decode cX12_isCrossing 7 = .ok (.iaload, 1) := by decide +kernel
theorem dX12_isCrossing_8 : decode cX12_isCrossing 8 = .ok (.iconst 1, 1) := by decide +kernel
theorem dX12_isCrossing_9 : decode cX12_isCrossing 9 = .ok (.isub, 1) := by decide +kernel
theorem dX12_isCrossing_10 : decode cX12_isCrossing 10 = .ok (.invokestatic 88, 3) := by decide +kernel
theorem dX12_isCrossing_13 : decode cX12_isCrossing 13 = .ok (.ireturn, 1) := by decide +kernel
theorem dX12_isExchanged_0 : decode cX12_isExchanged 0 = .ok (.iconst 0, 1) := by decide +kernel
theorem dX12_isExchanged_1 : decode cX12_isExchanged 1 = .ok (.istore_n 1, 1) := by decide +kernel
theorem dX12_isExchanged_2 : decode cX12_isExchanged 2 = .ok (.iload_n 1, 1) := by decide +kernel
theorem dX12_isExchanged_3 : decode cX12_isExchanged 3 = .ok (.aload_n 0, 1) := by decide +kernel
theorem dX12_isExchanged_4 : decode cX12_isExchanged 4 = .ok (.getfield 285, 3) := by decide +kernel
theorem dX12_isExchanged_7 : decode cX12_isExchanged 7 = .ok (.if_icmp .ge 156, 3) := by decide +kernel
theorem dX12_isExchanged_10 : decode cX12_isExchanged 10 = .ok (.iload_n 1, 1) := by decide +kernel
theorem dX12_isExchanged_11 : decode cX12_isExchanged 11 = .ok (.iconst 1, 1) := by decide +kernel
theorem dX12_isExchanged_12 : decode cX12_isExchanged 12 = .ok (.iadd, 1) := by decide +kernel
theorem dX12_isExchanged_13 : decode cX12_isExchanged 13 = .ok (.istore_n 2, 1) := by decide +kernel
theorem dX12_isExchanged_14 : decode cX12_isExchanged 14 = .ok (.iload_n 2, 1) := by decide +kernel
theorem dX12_isExchanged_15 : decode cX12_isExchanged 15 = .ok (.aload_n 0, 1) := by decide +kernel
theorem dX12_isExchanged_16 : decode cX12_isExchanged 16 = .ok (.getfield 285, 3) := by decide +kernel
theorem dX12_isExchanged_19 : decode cX12_isExchanged 19 = .ok (.if_icmp .ge 138, 3) := by decide +kernel
theorem dX12_isExchanged_22 : decode cX12_isExchanged 22 = .ok (.aload_n 0, 1) := by decide +kernel
theorem dX12_isExchanged_23 : decode cX12_isExchanged 23 = .ok (.getfield 49, 3) := by decide +kernel
theorem dX12_isExchanged_26 : decode cX12_isExchanged 26 = .ok (.iload_n 1, 1) := by decide +kernel
theorem dX12_isExchanged_27 : decode cX12_isExchanged 27 = .ok (.iaload, 1) := by decide +kernel
theorem dX12_isExchanged_28 : decode cX12_isExchanged 28 = .ok (.istore_n 3, 1) := by decide +kernel
theorem dX12_isExchanged_29 : decode cX12_isExchanged 29 = .ok (.aload_n 0, 1) := by decide +kernel
theorem dX12_isExchanged_30 : decode cX12_isExchanged 30 = .ok (.getfield 52, 3) := by decide +kernel
theorem dX12_isExchanged_33 : decode cX12_isExchanged 33 = .ok (.iload_n 1, 1) := by decide +kernel
theorem dX12_isExchanged_34 : decode cX12_isExchanged 34 = .ok (.iaload, 1) := by decide +kernel
theorem dX12_isExchanged_35 : decode cX12_isExchanged 35 = .ok (.istore 4, 2) := by decide +kernel
theorem dX12_isExchanged_37 : decode cX12_isExchanged 37 = .ok (.aload_n 0, 1) := by decide +kernel
theorem dX12_isExchanged_38 : decode cX12_isExchanged 38 = .ok (.getfield 49, 3) := by decide +kernel
theorem dX12_isExchanged_41 : decode cX12_isExchanged 41 = .ok (.iload_n 2, 1) := by decide +kernel
theorem dX12_isExchanged_42 : decode cX12_isExchanged 42 = .ok (.iaload, 1) := by decide +kernel
theorem dX12_isExchanged_43 : decode cX12_isExchanged 43 = .ok (.istore 5, 2) := by decide +kernel
theorem dX12_isExchanged_45 : decode cX12_isExchanged 45 = .ok (.aload_n 0, 1) := by decide +kernel
theorem dX12_isExchanged_46 : decode cX12_isExchanged 46 = .ok (.getfield 52, 3) := by decide +kernel
theorem dX12_isExchanged_49 : decode cX12_isExchanged 49 = .ok (.iload_n 2, 1) := by decide +kernel
theorem dX12_isExchanged_50 : decode cX12_isExchanged 50 = .ok (.iaload, 1) := by decide +kernel
theorem dX12_isExchanged_51 : decode cX12_isExchanged 51 = .ok (.istore 6, 2) := by decide +kernel
theorem dX12_isExchanged_53 : decode cX12_isExchanged 53 = .ok (.aload_n 0, 1) := by decide +kernel
theorem dX12_isExchanged_54 : decode cX12_isExchanged 54 = .ok (.iload_n 3, 1) := by decide +kernel
theorem dX12_isExchanged_55 : decode cX12_isExchanged 55 = .ok (.iload 4, 2) := by decide +kernel
theorem dX12_isExchanged_57 : decode cX12_isExchanged 57 = .ok (.invokevirtual 257, 3) := by decide +kernel
theorem dX12_isExchanged_60 : decode cX12_isExchanged 60 = .ok (.aload_n 0, 1) := by decide +kernel
theorem dX12_isExchanged_61 : decode cX12_isExchanged 61 = .ok (.iload 5, 2) := by decide +kernel
theorem dX12_isExchanged_63 : decode cX12_isExchanged 63 = .ok (.iload 6, 2) := by decide +kernel
theorem dX12_isExchanged_65 : decode cX12_isExchanged 65 = .ok (.invokevirtual 257, 3) := by decide +kernel
theorem dX12_isExchanged_68 : decode cX12_isExchanged 68 = .ok (.iadd, 1) := by decide +kernel
theorem dX12_isExchanged_69 : decode cX12_isExchanged 69 = .ok (.istore 7, 2) := by decide +kernel
theorem dX12_isExchanged_71 : decode cX12_isExchanged 71 = .ok (.aload_n 0, 1) := by decide +kernel
theorem dX12_isExchanged_72 : decode cX12_isExchanged 72 = .ok (.iload_n 3, 1) := by decide +kernel
theorem dX12_isExchanged_73 : decode cX12_isExchanged 73 = .ok (.iload 5, 2) := by decide +kernel
theorem dX12_isExchanged_75 : decode cX12_isExchanged 75 = .ok (.invokevirtual 257, 3) := by decide +kernel
theorem dX12_isExchanged_78 : decode cX12_isExchanged 78 = .ok (.aload_n 0, 1) := by decide +kernel
theorem dX12_isExchanged_79 : decode cX12_isExchanged 79 = .ok (.iload 4, 2) := by decide +kernel
theorem dX12_isExchanged_81 : decode cX12_isExchanged 81 = .ok (.iload 6, 2) := by decide +kernel
theorem dX12_isExchanged_83 : decode cX12_isExchanged 83 = .ok (.invokevirtual 257, 3) := by decide +kernel
theorem dX12_isExchanged_86 : decode cX12_isExchanged 86 = .ok (.iadd, 1) := by decide +kernel
theorem dX12_isExchanged_87 : decode cX12_isExchanged 87 = .ok (.iload 7, 2) := by decide +kernel
theorem dX12_isExchanged_89 : decode cX12_isExchanged 89 = .ok (.if_icmp .ge 22, 3) := by decide +kernel
theorem dX12_isExchanged_92 : decode cX12_isExchanged 92 = .ok (.aload_n 0, 1) := by decide +kernel
theorem dX12_isExchanged_93 : decode cX12_isExchanged 93 = .ok (.iload_n 1, 1) := by decide +kernel
theorem dX12_isExchanged_94 : decode cX12_isExchanged 94 = .ok (.iload_n 3, 1) := by decide +kernel
theorem dX12_isExchanged_95 : decode cX12_isExchanged 95 = .ok (.iload 5, 2) := by decide +kernel
theorem dX12_isExchanged_97 : decode cX12_isExchanged 97 = .ok (.invokevirtual 288, 3) := by decide +kernel
theorem dX12_isExchanged_100 : decode cX12_isExchanged 100 = .ok (.aload_n 0, 1) := by decide +kernel
theorem dX12_isExchanged_101 : decode cX12_isExchanged 101 = .ok (.iload_n 2, 1) := by decide +kernel
theorem dX12_isExchanged_102 : decode cX12_isExchanged 102 = .ok (.iload 4, 2) := by decide +kernel
theorem dX12_isExchanged_104 : decode cX12_isExchanged 104 = .ok (.iload 6, 2) := by decide +kernel
theorem dX12_isExchanged_106 : decode cX12_isExchanged 106 = .ok (.invokevirtual 288, 3) := by decide +kernel
theorem dX12_isExchanged_109 : decode cX12_isExchanged 109 = .ok (.iconst 1, 1) := by decide +kernel
theorem dX12_isExchanged_110 : decode cX12_isExchanged 110 = .ok (.ireturn, 1) := by decide +kernel
theorem dX12_isExchanged_111 : decode cX12_isExchanged 111 = .ok (.aload_n 0, 1) := by decide +kernel
theorem dX12_isExchanged_112 : decode cX12_isExchanged 112 = .ok (.iload_n 3, 1) := by decide +kernel
theorem dX12_isExchanged_113 : decode cX12_isExchanged 113 = .ok (.iload 6, 2) := by decide +kernel
theorem dX12_isExchanged_115 : decode cX12_isExchanged 115 = .ok (.invokevirtual 257, 3) := by decide +kernel
theorem dX12_isExchanged_118 : decode cX12_isExchanged 118 = .ok (.aload_n 0, 1) := by decide +kernel
theorem dX12_isExchanged_119 : decode cX12_isExchanged 119 = .ok (.iload 4, 2) := by decide +kernel
theorem dX12_isExchanged_121 : decode cX12_isExchanged 121 = .ok (.iload 5, 2) := by decide +kernel
theorem dX12_isExchanged_123 : decode cX12_isExchanged 123 = .ok (.invokevirtual 257, 3) := by decide +kernel
theorem dX12_isExchanged_126 : decode cX12_isExchanged 126 = .ok (.iadd, 1) := by decide +kernel
theorem dX12_isExchanged_127 : decode cX12_isExchanged 127 = .ok (.iload 7, 2) := by decide +kernel
theorem dX12_isExchanged_129 : decode cX12_isExchanged 129 = .ok (.if_icmp .ge 22, 3) := by decide +kernel
theorem dX12_isExchanged_132 : decode cX12_isExchanged 132 = .ok (.aload_n 0, 1) := by decide +kernel
theorem dX12_isExchanged_133 : decode cX12_isExchanged 133 = .ok (.iload_n 1, 1) := by decide +kernel
theorem dX12_isExchanged_134 : decode cX12_isExchanged 134 = .ok (.iload_n 3, 1) := by decide +kernel
theorem dX12_isExchanged_135 : decode cX12_isExchanged 135 = .ok (.iload 6, 2) := by decide +kernel
theorem dX12_isExchanged_137 : decode cX12_isExchanged 137 = .ok (.invokevirtual 288, 3) := by decide +kernel
theorem dX12_isExchanged_140 : decode cX12_isExchanged 140 = .ok (.aload_n 0, 1) := by decide +kernel
theorem dX12_isExchanged_141 : decode cX12_isExchanged 141 = .ok (.iload_n 2, 1) := by decide +kernel
theorem dX12_isExchanged_142 : decode cX12_isExchanged 142 = .ok (.iload 4, 2) := by decide +kernel
theorem dX12_isExchanged_144 : decode cX12_isExchanged 144 = .ok (.iload 5, 2) := by decide +kernel
theorem dX12_isExchanged_146 : decode cX12_isExchanged 146 = .ok (.invokevirtual 288, 3) := by decide +kernel
theorem dX12_isExchanged_149 : decode cX12_isExchanged 149 = .ok (.iconst 1, 1) := by decide +kernel
theorem dX12_isExchanged_150 : decode cX12_isExchanged 150 = .ok (.ireturn, 1) := by decide +kernel
theorem dX12_isExchanged_151 : decode cX12_isExchanged 151 = .ok (.iinc 2 1, 3) := by decide +kernel
theorem dX12_isExchanged_154 : decode cX12_isExchanged 154 = .ok (.goto (-140), 3) := by decide +kernel
theorem dX12_isExchanged_157 : decode cX12_isExchanged 157 = .ok (.iinc 1 1, 3) := by decide +kernel
theorem dX12_isExchanged_160 : decode cX12_isExchanged 160 = .ok (.goto (-158), 3) := by decide +kernel
theorem dX12_isExchanged_163 : decode cX12_isExchanged 163 = .ok (.iconst 0, 1) := by decide +kernel
theorem dX12_isExchanged_164 : decode cX12_isExchanged 164 = .ok (.ireturn, 1) := by decide +kernel
theorem dX12_isGauge_0 : decode cX12_isGauge 0 = .ok (.iload_n 1, 1) := by decide +kernel
theorem dX12_isGauge_1 : decode cX12_isGauge 1 = .ok (.iconst 0, 1) := by decide +kernel
theorem dX12_isGauge_2 : decode cX12_isGauge 2 = .ok (.aload_n 0, 1) := by decide +kernel
theorem dX12_isGauge_3 : decode cX12_isGauge 3 = .ok (.getfield 7, 3) := by decide +kernel
theorem dX12_isGauge_6 : decode cX12_isGauge 6 = .ok (.iconst 2, 1) := by decide +kernel
theorem dX12_isGauge_7 : decode cX12_isGauge 7 = .ok (.iaload, 1) := by decide +kernel
theorem dX12_isGauge_8 : decode cX12_isGauge 8 = .ok (.iconst 1, 1) := by decide +kernel
theorem dX12_isGauge_9 : decode cX12_isGauge 9 = .ok (.isub, 1) := by decide +kernel
theorem dX12_isGauge_10 : decode cX12_isGauge 10 = .ok (.invokestatic 88, 3) := by decide +kernel
theorem dX12_isGauge_13 : decode cX12_isGauge 13 = .ok (.ireturn, 1) := by decide +kernel
theorem dX12_isOneWay_0 : decode cX12_isOneWay 0 = .ok (.iconst 0, 1) := by decide +kernel
theorem dX12_isOneWay_1 : decode cX12_isOneWay 1 = .ok (.istore_n 1, 1) := by decide +kernel
theorem dX12_isOneWay_2 : decode cX12_isOneWay 2 = .ok (.iconst 0, 1) := by decide +kernel
theorem dX12_isOneWay_3 : decode cX12_isOneWay 3 = .ok (.istore_n 2, 1) := by decide +kernel
theorem dX12_isOneWay_4 : decode cX12_isOneWay 4 = .ok (.iload_n 2, 1) := by decide +kernel
theorem dX12_isOneWay_5 : decode cX12_isOneWay 5 = .ok (.aload_n 0, 1) := by decide +kernel
theorem dX12_isOneWay_6 : decode cX12_isOneWay 6 = .ok (.getfield 7, 3) := by decide +kernel
theorem dX12_isOneWay_9 : decode cX12_isOneWay 9 = .ok (.iconst 1, 1) := by decide +kernel
theorem dX12_isOneWay_10 : decode cX12_isOneWay 10 = .ok (.iaload, 1) := by decide +kernel
theorem dX12_isOneWay_11 : decode cX12_isOneWay 11 = .ok (.if_icmp .ge 43, 3) := by decide +kernel
theorem dX12_isOneWay_14 : decode cX12_isOneWay 14 = .ok (.iload_n 1, 1) := by decide +kernel
theorem dX12_isOneWay_15 : decode cX12_isOneWay 15 = .ok (.ifCond .ne 27, 3) := by decide +kernel
theorem dX12_isOneWay_18 : decode cX12_isOneWay 18 = .ok (.aload_n 0, 1) := by decide +kernel
theorem dX12_isOneWay_19 : decode cX12_isOneWay 19 = .ok (.iload_n 2, 1) := by decide +kernel
theorem dX12_isOneWay_20 : decode cX12_isOneWay 20 = .ok (.invokevirtual 119, 3) := by decide +kernel
theorem dX12_isOneWay_23 : decode cX12_isOneWay 23 = .ok (.ifCond .eq 23, 3) := by decide +kernel
theorem dX12_isOneWay_26 : decode cX12_isOneWay 26 = .ok (.aload_n 0, 1) := by decide +kernel
theorem dX12_isOneWay_27 : decode cX12_isOneWay 27 = .ok (.getfield 7, 3) := by decide +kernel
theorem dX12_isOneWay_30 : decode cX12_isOneWay 30 = .ok (.aload_n 0, 1) := by decide +kernel
theorem dX12_isOneWay_31 : decode cX12_isOneWay 31 = .ok (.iload_n 2, 1) := by decide +kernel
theorem dX12_isOneWay_32 : decode cX12_isOneWay 32 = .ok (.invokevirtual 109, 3) := by decide +kernel
theorem dX12_isOneWay_35 : decode cX12_isOneWay 35 = .ok (.iconst 5, 1) := by decide +kernel
theorem dX12_isOneWay_36 : decode cX12_isOneWay 36 = .ok (.iadd, 1) := by decide +kernel
theorem dX12_isOneWay_37 : decode cX12_isOneWay 37 = .ok (.iaload, 1) := by decide +kernel
theorem dX12_isOneWay_38 : decode cX12_isOneWay 38 = .ok (.iconst 1, 1) := by decide +kernel
theorem dX12_isOneWay_39 : decode cX12_isOneWay 39 = .ok (.if_icmp .ne 7, 3) := by decide +kernel
theorem dX12_isOneWay_42 : decode cX12_isOneWay 42 = .ok (.iconst 1, 1) := by decide +kernel
theorem dX12_isOneWay_43 : decode cX12_isOneWay 43 = .ok (.goto 4, 3) := by decide +kernel
theorem dX12_isOneWay_46 : decode cX12_isOneWay 46 = .ok (.iconst 0, 1) := by decide +kernel
theorem dX12_isOneWay_47 : decode cX12_isOneWay 47 = .ok (.istore_n 1, 1) := by decide +kernel
theorem dX12_isOneWay_48 : decode cX12_isOneWay 48 = .ok (.iinc 2 1, 3) := by decide +kernel
theorem dX12_isOneWay_51 : decode cX12_isOneWay 51 = .ok (.goto (-47), 3) := by decide +kernel
theorem dX12_isOneWay_54 : decode cX12_isOneWay 54 = .ok (.iload_n 1, 1) := by decide +kernel
theorem dX12_isOneWay_55 : decode cX12_isOneWay 55 = .ok (.ireturn, 1) := by decide +kernel
theorem dX12_isOpen_0 : decode cX12_isOpen 0 = .ok (.aload_n 0, 1) := by decide +kernel
theorem dX12_isOpen_1 : decode cX12_isOpen 1 = .ok (.getfield 7, 3) := by decide +kernel
theorem dX12_isOpen_4 : decode cX12_isOpen 4 = .ok (.aload_n 0, 1) := by decide +kernel
theorem dX12_isOpen_5 : decode cX12_isOpen 5 = .ok (.iload_n 1, 1) := by decide +kernel
theorem dX12_isOpen_6 : decode cX12_isOpen 6 = .ok (.invokevirtual 109, 3) := by decide +kernel
theorem dX12_isOpen_9 : decode cX12_isOpen 9 = .ok (.iconst 4, 1) := by decide +kernel
theorem dX12_isOpen_10 : decode cX12_isOpen 10 = .ok (.iadd, 1) := by decide +kernel
theorem dX12_isOpen_11 : decode cX12_isOpen 11 = .ok (.iaload, 1) := by decide +kernel
theorem dX12_isOpen_12 : decode cX12_isOpen 12 = .ok (.ifCond .ne 7, 3) := by decide +kernel
theorem dX12_isOpen_15 : decode cX12_isOpen 15 = .ok (.iconst 1, 1) := by decide +kernel
theorem dX12_isOpen_16 : decode cX12_isOpen 16 = .ok (.goto 4, 3) := by decide +kernel
theorem dX12_isOpen_19 : decode cX12_isOpen 19 = .ok (.iconst 0, 1) := by decide +kernel
theorem dX12_isOpen_20 : decode cX12_isOpen 20 = .ok (.ireturn, 1) := by decide +kernel
theorem dX12_isPlough_0 : decode cX12_isPlough 0 = .ok (.iload_n 1, 1) := by decide +kernel
theorem dX12_isPlough_1 : decode cX12_isPlough 1 = .ok (.iconst 0, 1) := by decide +kernel
theorem dX12_isPlough_2 : decode cX12_isPlough 2 = .ok (.aload_n 0, 1) := by decide +kernel
theorem dX12_isPlough_3 : decode cX12_isPlough 3 = .ok (.getfield 7, 3) := by decide +kernel
theorem dX12_isPlough_6 : decode cX12_isPlough 6 = .ok (.iconst 3, 1) := by decide +kernel
theorem dX12_isPlough_7 : decode cX12_isPlough 7 = .ok (.iaload, 1) := by decide +kernel
theorem dX12_isPlough_8 : decode cX12_isPlough 8 = .ok (.iconst 1, 1) := by decide +kernel
theorem dX12_isPlough_9 : decode cX12_isPlough 9 = .ok (.isub, 1) := by decide +kernel
theorem dX12_isPlough_10 : decode cX12_isPlough 10 = .ok (.invokestatic 88, 3) := by decide +kernel
theorem dX12_isPlough_13 : decode cX12_isPlough 13 = .ok (.ireturn, 1) := by decide +kernel
theorem dX12_isShutAhead_0 : decode cX12_isShutAhead 0 = .ok (.aload_n 0, 1) := by decide +kernel
theorem dX12_isShutAhead_1 : decode cX12_isShutAhead 1 = .ok (.getfield 7, 3) := by decide +kernel
theorem dX12_isShutAhead_4 : decode cX12_isShutAhead 4 = .ok (.aload_n 0, 1) := by decide +kernel
theorem dX12_isShutAhead_5 : decode cX12_isShutAhead 5 = .ok (.iload_n 1, 1) := by decide +kernel
theorem dX12_isShutAhead_6 : decode cX12_isShutAhead 6 = .ok (.invokevirtual 188, 3) := by decide +kernel
theorem dX12_isShutAhead_9 : decode cX12_isShutAhead 9 = .ok (.bipush 6, 2) := by decide +kernel
theorem dX12_isShutAhead_11 : decode cX12_isShutAhead 11 = .ok (.iadd, 1) := by decide +kernel
theorem dX12_isShutAhead_12 : decode cX12_isShutAhead 12 = .ok (.iaload, 1) := by decide +kernel
theorem dX12_isShutAhead_13 : decode cX12_isShutAhead 13 = .ok (.aload_n 0, 1) := by decide +kernel
theorem dX12_isShutAhead_14 : decode cX12_isShutAhead 14 = .ok (.getfield 7, 3) := by decide +kernel
theorem dX12_isShutAhead_17 : decode cX12_isShutAhead 17 = .ok (.aload_n 0, 1) := by decide +kernel
theorem dX12_isShutAhead_18 : decode cX12_isShutAhead 18 = .ok (.iload_n 1, 1) := by decide +kernel
theorem dX12_isShutAhead_19 : decode cX12_isShutAhead 19 = .ok (.invokevirtual 188, 3) := by decide +kernel
theorem dX12_isShutAhead_22 : decode cX12_isShutAhead 22 = .ok (.bipush 8, 2) := by decide +kernel
theorem dX12_isShutAhead_24 : decode cX12_isShutAhead 24 = .ok (.iadd, 1) := by decide +kernel
theorem dX12_isShutAhead_25 : decode cX12_isShutAhead 25 = .ok (.iaload, 1) := by decide +kernel
theorem dX12_isShutAhead_26 : decode cX12_isShutAhead 26 = .ok (.iadd, 1) := by decide +kernel
theorem dX12_isShutAhead_27 : decode cX12_isShutAhead 27 = .ok (.istore_n 2, 1) := by decide +kernel
theorem dX12_isShutAhead_28 : decode cX12_isShutAhead 28 = .ok (.aload_n 0, 1) := by decide +kernel
theorem dX12_isShutAhead_29 : decode cX12_isShutAhead 29 = .ok (.aload_n 0, 1) := by decide +kernel
theorem dX12_isShutAhead_30 : decode cX12_isShutAhead 30 = .ok (.getfield 7, 3) := by decide +kernel
theorem dX12_isShutAhead_33 : decode cX12_isShutAhead 33 = .ok (.sipush 9642, 3) := by decide +kernel
theorem dX12_isShutAhead_36 : decode cX12_isShutAhead 36 = .ok (.iconst 3, 1) := by decide +kernel
theorem dX12_isShutAhead_37 : decode cX12_isShutAhead 37 = .ok (.iload_n 2, 1) := by decide +kernel
theorem dX12_isShutAhead_38 : decode cX12_isShutAhead 38 = .ok (.imul, 1) := by decide +kernel
theorem dX12_isShutAhead_39 : decode cX12_isShutAhead 39 = .ok (.iadd, 1) := by decide +kernel
theorem dX12_isShutAhead_40 : decode cX12_isShutAhead 40 = .ok (.iaload, 1) := by decide +kernel
theorem dX12_isShutAhead_41 : decode cX12_isShutAhead 41 = .ok (.invokevirtual 119, 3) := by decide +kernel
theorem dX12_isShutAhead_44 : decode cX12_isShutAhead 44 = .ok (.ifCond .ne 7, 3) := by decide +kernel
theorem dX12_isShutAhead_47 : decode cX12_isShutAhead 47 = .ok (.iconst 1, 1) := by decide +kernel
theorem dX12_isShutAhead_48 : decode cX12_isShutAhead 48 = .ok (.goto 4, 3) := by decide +kernel
theorem dX12_isShutAhead_51 : decode cX12_isShutAhead 51 = .ok (.iconst 0, 1) := by decide +kernel
theorem dX12_isShutAhead_52 : decode cX12_isShutAhead 52 = .ok (.ireturn, 1) := by decide +kernel
theorem dX12_isStreet_0 : decode cX12_isStreet 0 = .ok (.iload_n 1, 1) := by decide +kernel
theorem dX12_isStreet_1 : decode cX12_isStreet 1 = .ok (.iconst 0, 1) := by decide +kernel
theorem dX12_isStreet_2 : decode cX12_isStreet 2 = .ok (.aload_n 0, 1) := by decide +kernel
theorem dX12_isStreet_3 : decode cX12_isStreet 3 = .ok (.getfield 7, 3) := by decide +kernel
theorem dX12_isStreet_6 : decode cX12_isStreet 6 = .ok (.iconst 1, 1) := by decide +kernel
theorem dX12_isStreet_7 : decode cX12_isStreet 7 = .ok (.iaload, 1) := by decide +kernel
theorem dX12_isStreet_8 : decode cX12_isStreet 8 = .ok (.iconst 1, 1) := by decide +kernel
theorem dX12_isStreet_9 : decode cX12_isStreet 9 = .ok (.isub, 1) := by decide +kernel
theorem dX12_isStreet_10 : decode cX12_isStreet 10 = .ok (.invokestatic 88, 3) := by decide +kernel
theorem dX12_isStreet_13 : decode cX12_isStreet 13 = .ok (.ireturn, 1) := by decide +kernel
theorem dX12_joinsAll_0 : decode cX12_joinsAll 0 = .ok (.aload_n 0, 1) := by decide +kernel
theorem dX12_joinsAll_1 : decode cX12_joinsAll 1 = .ok (.iconst 0, 1) := by decide +kernel
theorem dX12_joinsAll_2 : decode cX12_joinsAll 2 = .ok (.putfield 267, 3) := by decide +kernel
theorem dX12_joinsAll_5 : decode cX12_joinsAll 5 = .ok (.aload_n 0, 1) := by decide +kernel
theorem dX12_joinsAll_6 : decode cX12_joinsAll 6 = .ok (.iconst 0, 1) := by decide +kernel
theorem dX12_joinsAll_7 : decode cX12_joinsAll 7 = .ok (.aload_n 0, 1) := by decide +kernel
theorem dX12_joinsAll_8 : decode cX12_joinsAll 8 = .ok (.getfield 37, 3) := by decide +kernel
theorem dX12_joinsAll_11 : decode cX12_joinsAll 11 = .ok (.invokevirtual 270, 3) := by decide +kernel
theorem dX12_joinsAll_14 : decode cX12_joinsAll 14 = .ok (.aload_n 0, 1) := by decide +kernel
theorem dX12_joinsAll_15 : decode cX12_joinsAll 15 = .ok (.aload_n 0, 1) := by decide +kernel
theorem dX12_joinsAll_16 : decode cX12_joinsAll 16 = .ok (.getfield 37, 3) := by decide +kernel
theorem dX12_joinsAll_19 : decode cX12_joinsAll 19 = .ok (.invokevirtual 274, 3) := by decide +kernel
theorem dX12_joinsAll_22 : decode cX12_joinsAll 22 = .ok (.ifCond .eq 164, 3) := by decide +kernel
theorem dX12_joinsAll_25 : decode cX12_joinsAll 25 = .ok (.iconst (-1), 1) := by decide +kernel
theorem dX12_joinsAll_26 : decode cX12_joinsAll 26 = .ok (.istore_n 1, 1) := by decide +kernel
theorem dX12_joinsAll_27 : decode cX12_joinsAll 27 = .ok (.iconst (-1), 1) := by decide +kernel
theorem dX12_joinsAll_28 : decode cX12_joinsAll 28 = .ok (.istore_n 2, 1) := by decide +kernel
theorem dX12_joinsAll_29 : decode cX12_joinsAll 29 = .ok (.ldc 125, 2) := by decide +kernel
theorem dX12_joinsAll_31 : decode cX12_joinsAll 31 = .ok (.istore_n 3, 1) := by decide +kernel
theorem dX12_joinsAll_32 : decode cX12_joinsAll 32 = .ok (.iconst 0, 1) := by decide +kernel
theorem dX12_joinsAll_33 : decode cX12_joinsAll 33 = .ok (.istore 4, 2) := by decide +kernel
theorem dX12_joinsAll_35 : decode cX12_joinsAll 35 = .ok (.iload 4, 2) := by decide +kernel
theorem dX12_joinsAll_37 : decode cX12_joinsAll 37 = .ok (.aload_n 0, 1) := by decide +kernel
theorem dX12_joinsAll_38 : decode cX12_joinsAll 38 = .ok (.getfield 7, 3) := by decide +kernel
theorem dX12_joinsAll_41 : decode cX12_joinsAll 41 = .ok (.iconst 0, 1) := by decide +kernel
theorem dX12_joinsAll_42 : decode cX12_joinsAll 42 = .ok (.iaload, 1) := by decide +kernel
theorem dX12_joinsAll_43 : decode cX12_joinsAll 43 = .ok (.if_icmp .ge 106, 3) := by decide +kernel
theorem dX12_joinsAll_46 : decode cX12_joinsAll 46 = .ok (.aload_n 0, 1) := by decide +kernel
theorem dX12_joinsAll_47 : decode cX12_joinsAll 47 = .ok (.iload 4, 2) := by decide +kernel
theorem dX12_joinsAll_49 : decode cX12_joinsAll 49 = .ok (.invokevirtual 278, 3) := by decide +kernel
theorem dX12_joinsAll_52 : decode cX12_joinsAll 52 = .ok (.istore 5, 2) := by decide +kernel
theorem dX12_joinsAll_54 : decode cX12_joinsAll 54 = .ok (.iconst 0, 1) := by decide +kernel
theorem dX12_joinsAll_55 : decode cX12_joinsAll 55 = .ok (.istore 6, 2) := by decide +kernel
theorem dX12_joinsAll_57 : decode cX12_joinsAll 57 = .ok (.iload 6, 2) := by decide +kernel
theorem dX12_joinsAll_59 : decode cX12_joinsAll 59 = .ok (.aload_n 0, 1) := by decide +kernel
theorem dX12_joinsAll_60 : decode cX12_joinsAll 60 = .ok (.getfield 7, 3) := by decide +kernel
theorem dX12_joinsAll_63 : decode cX12_joinsAll 63 = .ok (.iconst 0, 1) := by decide +kernel
theorem dX12_joinsAll_64 : decode cX12_joinsAll 64 = .ok (.iaload, 1) := by decide +kernel
theorem dX12_joinsAll_65 : decode cX12_joinsAll 65 = .ok (.if_icmp .ge 78, 3) := by decide +kernel
theorem dX12_joinsAll_68 : decode cX12_joinsAll 68 = .ok (.iload 5, 2) := by decide +kernel
theorem dX12_joinsAll_70 : decode cX12_joinsAll 70 = .ok (.ifCond .eq 73, 3) := by decide +kernel
theorem dX12_joinsAll_73 : decode cX12_joinsAll 73 = .ok (.aload_n 0, 1) := by decide +kernel
theorem dX12_joinsAll_74 : decode cX12_joinsAll 74 = .ok (.getfield 43, 3) := by decide +kernel
theorem dX12_joinsAll_77 : decode cX12_joinsAll 77 = .ok (.iload 6, 2) := by decide +kernel
theorem dX12_joinsAll_79 : decode cX12_joinsAll 79 = .ok (.baload, 1) := by decide +kernel
theorem dX12_joinsAll_80 : decode cX12_joinsAll 80 = .ok (.ifCond .eq 19, 3) := by decide +kernel
theorem dX12_joinsAll_83 : decode cX12_joinsAll 83 = .ok (.aload_n 0, 1) := by decide +kernel
theorem dX12_joinsAll_84 : decode cX12_joinsAll 84 = .ok (.getfield 23, 3) := by decide +kernel
theorem dX12_joinsAll_87 : decode cX12_joinsAll 87 = .ok (.bipush 60, 2) := by decide +kernel
theorem dX12_joinsAll_89 : decode cX12_joinsAll 89 = .ok (.iload 6, 2) := by decide +kernel
theorem dX12_joinsAll_91 : decode cX12_joinsAll 91 = .ok (.imul, 1) := by decide +kernel
theorem dX12_joinsAll_92 : decode cX12_joinsAll 92 = .ok (.iload 4, 2) := by decide +kernel
theorem dX12_joinsAll_94 : decode cX12_joinsAll 94 = .ok (.iadd, 1) := by decide +kernel
theorem dX12_joinsAll_95 : decode cX12_joinsAll 95 = .ok (.iaload, 1) := by decide +kernel
theorem dX12_joinsAll_96 : decode cX12_joinsAll 96 = .ok (.goto 5, 3) := by decide +kernel
theorem dX12_joinsAll_99 : decode cX12_joinsAll 99 = .ok (.ldc 125, 2) := by decide +kernel
theorem dX12_joinsAll_101 : decode cX12_joinsAll 101 = .ok (.istore 7, 2) := by decide +kernel
theorem dX12_joinsAll_103 : decode cX12_joinsAll 103 = .ok (.iload 7, 2) := by decide +kernel
theorem dX12_joinsAll_105 : decode cX12_joinsAll 105 = .ok (.iload_n 3, 1) := by decide +kernel
theorem dX12_joinsAll_106 : decode cX12_joinsAll 106 = .ok (.if_icmp .lt 22, 3) := by decide +kernel
theorem dX12_joinsAll_109 : decode cX12_joinsAll 109 = .ok (.iload 7, 2) := by decide +kernel
theorem dX12_joinsAll_111 : decode cX12_joinsAll 111 = .ok (.iload_n 3, 1) := by decide +kernel
theorem dX12_joinsAll_112 : decode cX12_joinsAll 112 = .ok (.if_icmp .ne 25, 3) := by decide +kernel
theorem dX12_joinsAll_115 : decode cX12_joinsAll 115 = .ok (.iload 7, 2) := by decide +kernel
theorem dX12_joinsAll_117 : decode cX12_joinsAll 117 = .ok (.ldc 125, 2) := by decide +kernel
theorem dX12_joinsAll_119 : decode cX12_joinsAll 119 = .ok (.if_icmp .ge 18, 3) := by decide +kernel
theorem dX12_joinsAll_122 : decode cX12_joinsAll 122 = .ok (.iload 6, 2) := by decide +kernel
theorem dX12_joinsAll_124 : decode cX12_joinsAll 124 = .ok (.iload_n 1, 1) := by decide +kernel
theorem dX12_joinsAll_125 : decode cX12_joinsAll 125 = .ok (.if_icmp .ge 12, 3) := by decide +kernel
theorem dX12_joinsAll_128 : decode cX12_joinsAll 128 = .ok (.iload 7, 2) := by decide +kernel
theorem dX12_joinsAll_130 : decode cX12_joinsAll 130 = .ok (.istore_n 3, 1) := by decide +kernel
theorem dX12_joinsAll_131 : decode cX12_joinsAll 131 = .ok (.iload 6, 2) := by decide +kernel
theorem dX12_joinsAll_133 : decode cX12_joinsAll 133 = .ok (.istore_n 1, 1) := by decide +kernel
theorem dX12_joinsAll_134 : decode cX12_joinsAll 134 = .ok (.iload 4, 2) := by decide +kernel
theorem dX12_joinsAll_136 : decode cX12_joinsAll 136 = .ok (.istore_n 2, 1) := by decide +kernel
theorem dX12_joinsAll_137 : decode cX12_joinsAll 137 = .ok (.iinc 6 1, 3) := by decide +kernel
theorem dX12_joinsAll_140 : decode cX12_joinsAll 140 = .ok (.goto (-83), 3) := by decide +kernel
theorem dX12_joinsAll_143 : decode cX12_joinsAll 143 = .ok (.iinc 4 1, 3) := by decide +kernel
theorem dX12_joinsAll_146 : decode cX12_joinsAll 146 = .ok (.goto (-111), 3) := by decide +kernel
theorem dX12_joinsAll_149 : decode cX12_joinsAll 149 = .ok (.iload_n 3, 1) := by decide +kernel
theorem dX12_joinsAll_150 : decode cX12_joinsAll 150 = .ok (.ldc 125, 2) := by decide +kernel
theorem dX12_joinsAll_152 : decode cX12_joinsAll 152 = .ok (.if_icmp .lt 5, 3) := by decide +kernel
theorem dX12_joinsAll_155 : decode cX12_joinsAll 155 = .ok (.iconst 0, 1) := by decide +kernel
theorem dX12_joinsAll_156 : decode cX12_joinsAll 156 = .ok (.ireturn, 1) := by decide +kernel
theorem dX12_joinsAll_157 : decode cX12_joinsAll 157 = .ok (.aload_n 0, 1) := by decide +kernel
theorem dX12_joinsAll_158 : decode cX12_joinsAll 158 = .ok (.iload_n 1, 1) := by decide +kernel
theorem dX12_joinsAll_159 : decode cX12_joinsAll 159 = .ok (.iload_n 2, 1) := by decide +kernel
theorem dX12_joinsAll_160 : decode cX12_joinsAll 160 = .ok (.iconst 2, 1) := by decide +kernel
theorem dX12_joinsAll_161 : decode cX12_joinsAll 161 = .ok (.invokevirtual 281, 3) := by decide +kernel
theorem dX12_joinsAll_164 : decode cX12_joinsAll 164 = .ok (.aload_n 0, 1) := by decide +kernel
theorem dX12_joinsAll_165 : decode cX12_joinsAll 165 = .ok (.dup, 1) := by decide +kernel
theorem dX12_joinsAll_166 : decode cX12_joinsAll 166 = .ok (.getfield 267, 3) := by decide +kernel
theorem dX12_joinsAll_169 : decode cX12_joinsAll 169 = .ok (.iconst 1, 1) := by decide +kernel
theorem dX12_joinsAll_170 : decode cX12_joinsAll 170 = .ok (.iadd, 1) := by decide +kernel
theorem dX12_joinsAll_171 : decode cX12_joinsAll 171 = .ok (.putfield 267, 3) := by decide +kernel
theorem dX12_joinsAll_174 : decode cX12_joinsAll 174 = .ok (.aload_n 0, 1) := by decide +kernel
theorem dX12_joinsAll_175 : decode cX12_joinsAll 175 = .ok (.iconst 0, 1) := by decide +kernel
theorem dX12_joinsAll_176 : decode cX12_joinsAll 176 = .ok (.aload_n 0, 1) := by decide +kernel
theorem dX12_joinsAll_177 : decode cX12_joinsAll 177 = .ok (.getfield 37, 3) := by decide +kernel
theorem dX12_joinsAll_180 : decode cX12_joinsAll 180 = .ok (.invokevirtual 270, 3) := by decide +kernel
theorem dX12_joinsAll_183 : decode cX12_joinsAll 183 = .ok (.goto (-169), 3) := by decide +kernel
theorem dX12_joinsAll_186 : decode cX12_joinsAll 186 = .ok (.iconst 1, 1) := by decide +kernel
theorem dX12_joinsAll_187 : decode cX12_joinsAll 187 = .ok (.ireturn, 1) := by decide +kernel
theorem dX12_keeps_0 : decode cX12_keeps 0 = .ok (.iconst 0, 1) := by decide +kernel
theorem dX12_keeps_1 : decode cX12_keeps 1 = .ok (.istore_n 1, 1) := by decide +kernel
theorem dX12_keeps_2 : decode cX12_keeps 2 = .ok (.iload_n 1, 1) := by decide +kernel
theorem dX12_keeps_3 : decode cX12_keeps 3 = .ok (.sipush 15642, 3) := by decide +kernel
theorem dX12_keeps_6 : decode cX12_keeps 6 = .ok (.if_icmp .ge 21, 3) := by decide +kernel
theorem dX12_keeps_9 : decode cX12_keeps 9 = .ok (.aload_n 0, 1) := by decide +kernel
theorem dX12_keeps_10 : decode cX12_keeps 10 = .ok (.getfield 13, 3) := by decide +kernel
theorem dX12_keeps_13 : decode cX12_keeps 13 = .ok (.iload_n 1, 1) := by decide +kernel
theorem dX12_keeps_14 : decode cX12_keeps 14 = .ok (.aload_n 0, 1) := by decide +kernel
theorem dX12_keeps_15 : decode cX12_keeps 15 = .ok (.getfield 7, 3) := by decide +kernel
theorem dX12_keeps_18 : decode cX12_keeps 18 = .ok (.iload_n 1, 1) := by decide +kernel
theorem dX12_keeps_19 : decode cX12_keeps 19 = .ok (.iaload, 1) := by decide +kernel
theorem dX12_keeps_20 : decode cX12_keeps 20 = .ok (.iastore, 1) := by decide +kernel
theorem dX12_keeps_21 : decode cX12_keeps 21 = .ok (.iinc 1 1, 3) := by decide +kernel
theorem dX12_keeps_24 : decode cX12_keeps 24 = .ok (.goto (-22), 3) := by decide +kernel
theorem dX12_keeps_27 : decode cX12_keeps 27 = .ok (.aload_n 0, 1) := by decide +kernel
theorem dX12_keeps_28 : decode cX12_keeps 28 = .ok (.iconst 1, 1) := by decide +kernel
theorem dX12_keeps_29 : decode cX12_keeps 29 = .ok (.putfield 84, 3) := by decide +kernel
theorem dX12_keeps_32 : decode cX12_keeps 32 = .ok (.return_, 1) := by decide +kernel
theorem dX12_kindOf_0 : decode cX12_kindOf 0 = .ok (.aload_n 0, 1) := by decide +kernel
theorem dX12_kindOf_1 : decode cX12_kindOf 1 = .ok (.getfield 7, 3) := by decide +kernel
theorem dX12_kindOf_4 : decode cX12_kindOf 4 = .ok (.aload_n 0, 1) := by decide +kernel
theorem dX12_kindOf_5 : decode cX12_kindOf 5 = .ok (.iload_n 1, 1) := by decide +kernel
theorem dX12_kindOf_6 : decode cX12_kindOf 6 = .ok (.invokevirtual 188, 3) := by decide +kernel
theorem dX12_kindOf_9 : decode cX12_kindOf 9 = .ok (.iconst 0, 1) := by decide +kernel
theorem dX12_kindOf_10 : decode cX12_kindOf 10 = .ok (.iadd, 1) := by decide +kernel
theorem dX12_kindOf_11 : decode cX12_kindOf 11 = .ok (.iaload, 1) := by decide +kernel
theorem dX12_kindOf_12 : decode cX12_kindOf 12 = .ok (.ireturn, 1) := by decide +kernel
theorem dX12_leads_0 : decode cX12_leads 0 = .ok (.aload_n 0, 1) := by decide +kernel
theorem dX12_leads_1 : decode cX12_leads 1 = .ok (.iload_n 1, 1) := by decide +kernel
theorem dX12_leads_2 : decode cX12_leads 2 = .ok (.invokevirtual 109, 3) := by decide +kernel
theorem dX12_leads_5 : decode cX12_leads 5 = .ok (.istore_n 3, 1) := by decide +kernel
theorem dX12_leads_6 : decode cX12_leads 6 = .ok (.aload_n 0, 1) := by decide +kernel
theorem dX12_leads_7 : decode cX12_leads 7 = .ok (.getfield 7, 3) := by decide +kernel
theorem dX12_leads_10 : decode cX12_leads 10 = .ok (.iload_n 3, 1) := by decide +kernel
theorem dX12_leads_11 : decode cX12_leads 11 = .ok (.bipush 7, 2) := by decide +kernel
theorem dX12_leads_13 : decode cX12_leads 13 = .ok (.iadd, 1) := by decide +kernel
theorem dX12_leads_14 : decode cX12_leads 14 = .ok (.iaload, 1) := by decide +kernel
theorem dX12_leads_15 : decode cX12_leads 15 = .ok (.iload_n 2, 1) := by decide +kernel
theorem dX12_leads_16 : decode cX12_leads 16 = .ok (.if_icmp .ne 15, 3) := by decide +kernel
theorem dX12_leads_19 : decode cX12_leads 19 = .ok (.aload_n 0, 1) := by decide +kernel
theorem dX12_leads_20 : decode cX12_leads 20 = .ok (.getfield 7, 3) := by decide +kernel
theorem dX12_leads_23 : decode cX12_leads 23 = .ok (.iload_n 3, 1) := by decide +kernel
theorem dX12_leads_24 : decode cX12_leads 24 = .ok (.bipush 8, 2) := by decide +kernel
theorem dX12_leads_26 : decode cX12_leads 26 = .ok (.iadd, 1) := by decide +kernel
theorem dX12_leads_27 : decode cX12_leads 27 = .ok (.iaload, 1) := by decide +kernel
theorem dX12_leads_28 : decode cX12_leads 28 = .ok (.goto 40, 3) := by decide +kernel
theorem dX12_leads_31 : decode cX12_leads 31 = .ok (.aload_n 0, 1) := by decide +kernel
theorem dX12_leads_32 : decode cX12_leads 32 = .ok (.getfield 7, 3) := by decide +kernel
theorem dX12_leads_35 : decode cX12_leads 35 = .ok (.iload_n 3, 1) := by decide +kernel
theorem dX12_leads_36 : decode cX12_leads 36 = .ok (.bipush 8, 2) := by decide +kernel
theorem dX12_leads_38 : decode cX12_leads 38 = .ok (.iadd, 1) := by decide +kernel
theorem dX12_leads_39 : decode cX12_leads 39 = .ok (.iaload, 1) := by decide +kernel
theorem dX12_leads_40 : decode cX12_leads 40 = .ok (.iload_n 2, 1) := by decide +kernel
theorem dX12_leads_41 : decode cX12_leads 41 = .ok (.if_icmp .ne 26, 3) := by decide +kernel
theorem dX12_leads_44 : decode cX12_leads 44 = .ok (.aload_n 0, 1) := by decide +kernel
theorem dX12_leads_45 : decode cX12_leads 45 = .ok (.getfield 7, 3) := by decide +kernel
theorem dX12_leads_48 : decode cX12_leads 48 = .ok (.iload_n 3, 1) := by decide +kernel
theorem dX12_leads_49 : decode cX12_leads 49 = .ok (.iconst 5, 1) := by decide +kernel
theorem dX12_leads_50 : decode cX12_leads 50 = .ok (.iadd, 1) := by decide +kernel
theorem dX12_leads_51 : decode cX12_leads 51 = .ok (.iaload, 1) := by decide +kernel
theorem dX12_leads_52 : decode cX12_leads 52 = .ok (.ifCond .ne 15, 3) := by decide +kernel
theorem dX12_leads_55 : decode cX12_leads 55 = .ok (.aload_n 0, 1) := by decide +kernel
theorem dX12_leads_56 : decode cX12_leads 56 = .ok (.getfield 7, 3) := by decide +kernel
theorem dX12_leads_59 : decode cX12_leads 59 = .ok (.iload_n 3, 1) := by decide +kernel
theorem dX12_leads_60 : decode cX12_leads 60 = .ok (.bipush 7, 2) := by decide +kernel
theorem dX12_leads_62 : decode cX12_leads 62 = .ok (.iadd, 1) := by decide +kernel
theorem dX12_leads_63 : decode cX12_leads 63 = .ok (.iaload, 1) := by decide +kernel
theorem dX12_leads_64 : decode cX12_leads 64 = .ok (.goto 4, 3) := by decide +kernel
theorem dX12_leads_67 : decode cX12_leads 67 = .ok (.iconst (-1), 1) := by decide +kernel
theorem dX12_leads_68 : decode cX12_leads 68 = .ok (.ireturn, 1) := by decide +kernel
theorem dX12_least_0 : decode cX12_least 0 = .ok (.aload_n 0, 1) := by decide +kernel
theorem dX12_least_1 : decode cX12_least 1 = .ok (.invokevirtual 245, 3) := by decide +kernel
theorem dX12_least_4 : decode cX12_least 4 = .ok (.aload_n 0, 1) := by decide +kernel
theorem dX12_least_5 : decode cX12_least 5 = .ok (.invokevirtual 248, 3) := by decide +kernel
theorem dX12_least_8 : decode cX12_least 8 = .ok (.aload_n 0, 1) := by decide +kernel
theorem dX12_least_9 : decode cX12_least 9 = .ok (.getfield 242, 3) := by decide +kernel
theorem dX12_least_12 : decode cX12_least 12 = .ok (.bipush 14, 2) := by decide +kernel
theorem dX12_least_14 : decode cX12_least 14 = .ok (.if_icmp .gt 26, 3) := by decide +kernel
theorem dX12_least_17 : decode cX12_least 17 = .ok (.iload_n 1, 1) := by decide +kernel
theorem dX12_least_18 : decode cX12_least 18 = .ok (.iconst 0, 1) := by decide +kernel
theorem dX12_least_19 : decode cX12_least 19 = .ok (.iconst 1, 1) := by decide +kernel
theorem dX12_least_20 : decode cX12_least 20 = .ok (.aload_n 0, 1) := by decide +kernel
theorem dX12_least_21 : decode cX12_least 21 = .ok (.getfield 242, 3) := by decide +kernel
theorem dX12_least_24 : decode cX12_least 24 = .ok (.ishl, 1) := by decide +kernel
theorem dX12_least_25 : decode cX12_least 25 = .ok (.iconst 1, 1) := by decide +kernel
theorem dX12_least_26 : decode cX12_least 26 = .ok (.isub, 1) := by decide +kernel
theorem dX12_least_27 : decode cX12_least 27 = .ok (.invokestatic 88, 3) := by decide +kernel
theorem dX12_least_30 : decode cX12_least 30 = .ok (.ifCond .eq 10, 3) := by decide +kernel
theorem dX12_least_33 : decode cX12_least 33 = .ok (.aload_n 0, 1) := by decide +kernel
theorem dX12_least_34 : decode cX12_least 34 = .ok (.invokevirtual 260, 3) := by decide +kernel
theorem dX12_least_37 : decode cX12_least 37 = .ok (.ifCond .eq 10, 3) := by decide +kernel
theorem dX12_least_40 : decode cX12_least 40 = .ok (.aload_n 0, 1) := by decide +kernel
theorem dX12_least_41 : decode cX12_least 41 = .ok (.bipush (-2), 2) := by decide +kernel
theorem dX12_least_43 : decode cX12_least 43 = .ok (.invokevirtual 92, 3) := by decide +kernel
theorem dX12_least_46 : decode cX12_least 46 = .ok (.ireturn, 1) := by decide +kernel
theorem dX12_least_47 : decode cX12_least 47 = .ok (.aload_n 0, 1) := by decide +kernel
theorem dX12_least_48 : decode cX12_least 48 = .ok (.invokevirtual 134, 3) := by decide +kernel
theorem dX12_least_51 : decode cX12_least 51 = .ok (.aload_n 0, 1) := by decide +kernel
theorem dX12_least_52 : decode cX12_least 52 = .ok (.iload_n 1, 1) := by decide +kernel
theorem dX12_least_53 : decode cX12_least 53 = .ok (.invokevirtual 264, 3) := by decide +kernel
theorem dX12_least_56 : decode cX12_least 56 = .ok (.aload_n 0, 1) := by decide +kernel
theorem dX12_least_57 : decode cX12_least 57 = .ok (.getfield 46, 3) := by decide +kernel
theorem dX12_least_60 : decode cX12_least 60 = .ok (.iload_n 1, 1) := by decide +kernel
theorem dX12_least_61 : decode cX12_least 61 = .ok (.iaload, 1) := by decide +kernel
theorem dX12_least_62 : decode cX12_least 62 = .ok (.ldc 125, 2) := by decide +kernel
theorem dX12_least_64 : decode cX12_least 64 = .ok (.if_icmp .lt 12, 3) := by decide +kernel
theorem dX12_least_67 : decode cX12_least 67 = .ok (.aload_n 0, 1) := by decide +kernel
theorem dX12_least_68 : decode cX12_least 68 = .ok (.bipush (-8), 2) := by decide +kernel
theorem dX12_least_70 : decode cX12_least 70 = .ok (.invokevirtual 92, 3) := by decide +kernel
theorem dX12_least_73 : decode cX12_least 73 = .ok (.goto 13, 3) := by decide +kernel
theorem dX12_least_76 : decode cX12_least 76 = .ok (.aload_n 0, 1) := by decide +kernel
theorem dX12_least_77 : decode cX12_least 77 = .ok (.aload_n 0, 1) := by decide +kernel
theorem dX12_least_78 : decode cX12_least 78 = .ok (.getfield 46, 3) := by decide +kernel
theorem dX12_least_81 : decode cX12_least 81 = .ok (.iload_n 1, 1) := by decide +kernel
theorem dX12_least_82 : decode cX12_least 82 = .ok (.iaload, 1) := by decide +kernel
theorem dX12_least_83 : decode cX12_least 83 = .ok (.invokevirtual 102, 3) := by decide +kernel
theorem dX12_least_86 : decode cX12_least 86 = .ok (.ireturn, 1) := by decide +kernel
theorem dX12_leaves_0 : decode cX12_leaves 0 = .ok (.aload_n 0, 1) := by decide +kernel
theorem dX12_leaves_1 : decode cX12_leaves 1 = .ok (.getfield 7, 3) := by decide +kernel
theorem dX12_leaves_4 : decode cX12_leaves 4 = .ok (.aload_n 0, 1) := by decide +kernel
theorem dX12_leaves_5 : decode cX12_leaves 5 = .ok (.iload_n 1, 1) := by decide +kernel
theorem dX12_leaves_6 : decode cX12_leaves 6 = .ok (.invokevirtual 188, 3) := by decide +kernel
theorem dX12_leaves_9 : decode cX12_leaves 9 = .ok (.iconst 2, 1) := by decide +kernel
theorem dX12_leaves_10 : decode cX12_leaves 10 = .ok (.iadd, 1) := by decide +kernel
theorem dX12_leaves_11 : decode cX12_leaves 11 = .ok (.iconst 1, 1) := by decide +kernel
theorem dX12_leaves_12 : decode cX12_leaves 12 = .ok (.iastore, 1) := by decide +kernel
theorem dX12_leaves_13 : decode cX12_leaves 13 = .ok (.aload_n 0, 1) := by decide +kernel
theorem dX12_leaves_14 : decode cX12_leaves 14 = .ok (.iload_n 1, 1) := by decide +kernel
theorem dX12_leaves_15 : decode cX12_leaves 15 = .ok (.invokevirtual 194, 3) := by decide +kernel
theorem dX12_leaves_18 : decode cX12_leaves 18 = .ok (.return_, 1) := by decide +kernel
theorem dX12_length_0 : decode cX12_length 0 = .ok (.iconst 0, 1) := by decide +kernel
theorem dX12_length_1 : decode cX12_length 1 = .ok (.istore_n 2, 1) := by decide +kernel
theorem dX12_length_2 : decode cX12_length 2 = .ok (.iconst 0, 1) := by decide +kernel
theorem dX12_length_3 : decode cX12_length 3 = .ok (.istore_n 3, 1) := by decide +kernel
theorem dX12_length_4 : decode cX12_length 4 = .ok (.iconst 0, 1) := by decide +kernel
theorem dX12_length_5 : decode cX12_length 5 = .ok (.istore 4, 2) := by decide +kernel
theorem dX12_length_7 : decode cX12_length 7 = .ok (.iload 4, 2) := by decide +kernel
theorem dX12_length_9 : decode cX12_length 9 = .ok (.aload_n 0, 1) := by decide +kernel
theorem dX12_length_10 : decode cX12_length 10 = .ok (.getfield 7, 3) := by decide +kernel
theorem dX12_length_13 : decode cX12_length 13 = .ok (.iconst 4, 1) := by decide +kernel
theorem dX12_length_14 : decode cX12_length 14 = .ok (.iaload, 1) := by decide +kernel
theorem dX12_length_15 : decode cX12_length 15 = .ok (.if_icmp .ge 55, 3) := by decide +kernel
theorem dX12_length_18 : decode cX12_length 18 = .ok (.iload_n 2, 1) := by decide +kernel
theorem dX12_length_19 : decode cX12_length 19 = .ok (.aload_n 0, 1) := by decide +kernel
theorem dX12_length_20 : decode cX12_length 20 = .ok (.getfield 7, 3) := by decide +kernel
theorem dX12_length_23 : decode cX12_length 23 = .ok (.aload_n 0, 1) := by decide +kernel
theorem dX12_length_24 : decode cX12_length 24 = .ok (.aload_n 0, 1) := by decide +kernel
theorem dX12_length_25 : decode cX12_length 25 = .ok (.getfield 7, 3) := by decide +kernel
theorem dX12_length_28 : decode cX12_length 28 = .ok (.sipush 9642, 3) := by decide +kernel
theorem dX12_length_31 : decode cX12_length 31 = .ok (.iconst 3, 1) := by decide +kernel
theorem dX12_length_32 : decode cX12_length 32 = .ok (.iload 4, 2) := by decide +kernel
theorem dX12_length_34 : decode cX12_length 34 = .ok (.imul, 1) := by decide +kernel
theorem dX12_length_35 : decode cX12_length 35 = .ok (.iadd, 1) := by decide +kernel
theorem dX12_length_36 : decode cX12_length 36 = .ok (.iaload, 1) := by decide +kernel
theorem dX12_length_37 : decode cX12_length 37 = .ok (.invokevirtual 109, 3) := by decide +kernel
theorem dX12_length_40 : decode cX12_length 40 = .ok (.bipush 6, 2) := by decide +kernel
theorem dX12_length_42 : decode cX12_length 42 = .ok (.iadd, 1) := by decide +kernel
theorem dX12_length_43 : decode cX12_length 43 = .ok (.iaload, 1) := by decide +kernel
theorem dX12_length_44 : decode cX12_length 44 = .ok (.iadd, 1) := by decide +kernel
theorem dX12_length_45 : decode cX12_length 45 = .ok (.istore_n 2, 1) := by decide +kernel
theorem dX12_length_46 : decode cX12_length 46 = .ok (.iload_n 3, 1) := by decide +kernel
theorem dX12_length_47 : decode cX12_length 47 = .ok (.aload_n 0, 1) := by decide +kernel
theorem dX12_length_48 : decode cX12_length 48 = .ok (.getfield 7, 3) := by decide +kernel
theorem dX12_length_51 : decode cX12_length 51 = .ok (.sipush 9642, 3) := by decide +kernel
theorem dX12_length_54 : decode cX12_length 54 = .ok (.iconst 3, 1) := by decide +kernel
theorem dX12_length_55 : decode cX12_length 55 = .ok (.iload 4, 2) := by decide +kernel
theorem dX12_length_57 : decode cX12_length 57 = .ok (.imul, 1) := by decide +kernel
theorem dX12_length_58 : decode cX12_length 58 = .ok (.iadd, 1) := by decide +kernel
theorem dX12_length_59 : decode cX12_length 59 = .ok (.iconst 2, 1) := by decide +kernel
theorem dX12_length_60 : decode cX12_length 60 = .ok (.iadd, 1) := by decide +kernel
theorem dX12_length_61 : decode cX12_length 61 = .ok (.iaload, 1) := by decide +kernel
theorem dX12_length_62 : decode cX12_length 62 = .ok (.iadd, 1) := by decide +kernel
theorem dX12_length_63 : decode cX12_length 63 = .ok (.istore_n 3, 1) := by decide +kernel
theorem dX12_length_64 : decode cX12_length 64 = .ok (.iinc 4 1, 3) := by decide +kernel
theorem dX12_length_67 : decode cX12_length 67 = .ok (.goto (-60), 3) := by decide +kernel
theorem dX12_length_70 : decode cX12_length 70 = .ok (.iload_n 1, 1) := by decide +kernel
theorem dX12_length_71 : decode cX12_length 71 = .ok (.tableswitch 111 0 6 #[41, 52, 58, 64, 76, 88, 100], 41) := by decide +kernel
theorem dX12_length_112 : decode cX12_length 112 = .ok (.aload_n 0, 1) := by decide +kernel
theorem dX12_length_113 : decode cX12_length 113 = .ok (.aload_n 0, 1) := by decide +kernel
theorem dX12_length_114 : decode cX12_length 114 = .ok (.getfield 7, 3) := by decide +kernel
theorem dX12_length_117 : decode cX12_length 117 = .ok (.iconst 4, 1) := by decide +kernel
theorem dX12_length_118 : decode cX12_length 118 = .ok (.iaload, 1) := by decide +kernel
theorem dX12_length_119 : decode cX12_length 119 = .ok (.invokevirtual 102, 3) := by decide +kernel
theorem dX12_length_122 : decode cX12_length 122 = .ok (.ireturn, 1) := by decide +kernel
theorem dX12_length_123 : decode cX12_length 123 = .ok (.aload_n 0, 1) := by decide +kernel
theorem dX12_length_124 : decode cX12_length 124 = .ok (.iload_n 2, 1) := by decide +kernel
theorem dX12_length_125 : decode cX12_length 125 = .ok (.invokevirtual 102, 3) := by decide +kernel
theorem dX12_length_128 : decode cX12_length 128 = .ok (.ireturn, 1) := by decide +kernel
theorem dX12_length_129 : decode cX12_length 129 = .ok (.aload_n 0, 1) := by decide +kernel
theorem dX12_length_130 : decode cX12_length 130 = .ok (.iload_n 3, 1) := by decide +kernel
theorem dX12_length_131 : decode cX12_length 131 = .ok (.invokevirtual 102, 3) := by decide +kernel
theorem dX12_length_134 : decode cX12_length 134 = .ok (.ireturn, 1) := by decide +kernel
theorem dX12_length_135 : decode cX12_length 135 = .ok (.aload_n 0, 1) := by decide +kernel
theorem dX12_length_136 : decode cX12_length 136 = .ok (.aload_n 0, 1) := by decide +kernel
theorem dX12_length_137 : decode cX12_length 137 = .ok (.getfield 7, 3) := by decide +kernel
theorem dX12_length_140 : decode cX12_length 140 = .ok (.bipush 6, 2) := by decide +kernel
theorem dX12_length_142 : decode cX12_length 142 = .ok (.iaload, 1) := by decide +kernel
theorem dX12_length_143 : decode cX12_length 143 = .ok (.invokevirtual 102, 3) := by decide +kernel
theorem dX12_length_146 : decode cX12_length 146 = .ok (.ireturn, 1) := by decide +kernel
theorem dX12_length_147 : decode cX12_length 147 = .ok (.aload_n 0, 1) := by decide +kernel
theorem dX12_length_148 : decode cX12_length 148 = .ok (.aload_n 0, 1) := by decide +kernel
theorem dX12_length_149 : decode cX12_length 149 = .ok (.getfield 7, 3) := by decide +kernel
theorem dX12_length_152 : decode cX12_length 152 = .ok (.bipush 7, 2) := by decide +kernel
theorem dX12_length_154 : decode cX12_length 154 = .ok (.iaload, 1) := by decide +kernel
theorem dX12_length_155 : decode cX12_length 155 = .ok (.invokevirtual 102, 3) := by decide +kernel
theorem dX12_length_158 : decode cX12_length 158 = .ok (.ireturn, 1) := by decide +kernel
theorem dX12_length_159 : decode cX12_length 159 = .ok (.aload_n 0, 1) := by decide +kernel
theorem dX12_length_160 : decode cX12_length 160 = .ok (.aload_n 0, 1) := by decide +kernel
theorem dX12_length_161 : decode cX12_length 161 = .ok (.getfield 7, 3) := by decide +kernel
theorem dX12_length_164 : decode cX12_length 164 = .ok (.bipush 8, 2) := by decide +kernel
theorem dX12_length_166 : decode cX12_length 166 = .ok (.iaload, 1) := by decide +kernel
theorem dX12_length_167 : decode cX12_length 167 = .ok (.invokevirtual 102, 3) := by decide +kernel
theorem dX12_length_170 : decode cX12_length 170 = .ok (.ireturn, 1) := by decide +kernel
theorem dX12_length_171 : decode cX12_length 171 = .ok (.aload_n 0, 1) := by decide +kernel
theorem dX12_length_172 : decode cX12_length 172 = .ok (.aload_n 0, 1) := by decide +kernel
theorem dX12_length_173 : decode cX12_length 173 = .ok (.getfield 7, 3) := by decide +kernel
theorem dX12_length_176 : decode cX12_length 176 = .ok (.iconst 5, 1) := by decide +kernel
theorem dX12_length_177 : decode cX12_length 177 = .ok (.iaload, 1) := by decide +kernel
theorem dX12_length_178 : decode cX12_length 178 = .ok (.invokevirtual 102, 3) := by decide +kernel
theorem dX12_length_181 : decode cX12_length 181 = .ok (.ireturn, 1) := by decide +kernel
theorem dX12_length_182 : decode cX12_length 182 = .ok (.aload_n 0, 1) := by decide +kernel
theorem dX12_length_183 : decode cX12_length 183 = .ok (.bipush (-2), 2) := by decide +kernel
theorem dX12_length_185 : decode cX12_length 185 = .ok (.invokevirtual 92, 3) := by decide +kernel
theorem dX12_length_188 : decode cX12_length 188 = .ok (.ireturn, 1) := by decide +kernel
theorem dX12_lessens_0 : decode cX12_lessens 0 = .ok (.aload_n 0, 1) := by decide +kernel
theorem dX12_lessens_1 : decode cX12_lessens 1 = .ok (.getfield 23, 3) := by decide +kernel
theorem dX12_lessens_4 : decode cX12_lessens 4 = .ok (.bipush 60, 2) := by decide +kernel
theorem dX12_lessens_6 : decode cX12_lessens 6 = .ok (.iload_n 2, 1) := by decide +kernel
theorem dX12_lessens_7 : decode cX12_lessens 7 = .ok (.imul, 1) := by decide +kernel
theorem dX12_lessens_8 : decode cX12_lessens 8 = .ok (.iload 4, 2) := by decide +kernel
theorem dX12_lessens_10 : decode cX12_lessens 10 = .ok (.iadd, 1) := by decide +kernel
theorem dX12_lessens_11 : decode cX12_lessens 11 = .ok (.iaload, 1) := by decide +kernel
theorem dX12_lessens_12 : decode cX12_lessens 12 = .ok (.iload_n 3, 1) := by decide +kernel
theorem dX12_lessens_13 : decode cX12_lessens 13 = .ok (.iadd, 1) := by decide +kernel
theorem dX12_lessens_14 : decode cX12_lessens 14 = .ok (.aload_n 0, 1) := by decide +kernel
theorem dX12_lessens_15 : decode cX12_lessens 15 = .ok (.getfield 23, 3) := by decide +kernel
theorem dX12_lessens_18 : decode cX12_lessens 18 = .ok (.bipush 60, 2) := by decide +kernel
theorem dX12_lessens_20 : decode cX12_lessens 20 = .ok (.iload_n 1, 1) := by decide +kernel
theorem dX12_lessens_21 : decode cX12_lessens 21 = .ok (.imul, 1) := by decide +kernel
theorem dX12_lessens_22 : decode cX12_lessens 22 = .ok (.iload 4, 2) := by decide +kernel
theorem dX12_lessens_24 : decode cX12_lessens 24 = .ok (.iadd, 1) := by decide +kernel
theorem dX12_lessens_25 : decode cX12_lessens 25 = .ok (.iaload, 1) := by decide +kernel
theorem dX12_lessens_26 : decode cX12_lessens 26 = .ok (.if_icmp .ge 31, 3) := by decide +kernel
theorem dX12_lessens_29 : decode cX12_lessens 29 = .ok (.aload_n 0, 1) := by decide +kernel
theorem dX12_lessens_30 : decode cX12_lessens 30 = .ok (.getfield 23, 3) := by decide +kernel
theorem dX12_lessens_33 : decode cX12_lessens 33 = .ok (.bipush 60, 2) := by decide +kernel
theorem dX12_lessens_35 : decode cX12_lessens 35 = .ok (.iload_n 1, 1) := by decide +kernel
theorem dX12_lessens_36 : decode cX12_lessens 36 = .ok (.imul, 1) := by decide +kernel
theorem dX12_lessens_37 : decode cX12_lessens 37 = .ok (.iload 4, 2) := by decide +kernel
theorem dX12_lessens_39 : decode cX12_lessens 39 = .ok (.iadd, 1) := by decide +kernel
theorem dX12_lessens_40 : decode cX12_lessens 40 = .ok (.aload_n 0, 1) := by decide +kernel
theorem dX12_lessens_41 : decode cX12_lessens 41 = .ok (.getfield 23, 3) := by decide +kernel
theorem dX12_lessens_44 : decode cX12_lessens 44 = .ok (.bipush 60, 2) := by decide +kernel
theorem dX12_lessens_46 : decode cX12_lessens 46 = .ok (.iload_n 2, 1) := by decide +kernel
theorem dX12_lessens_47 : decode cX12_lessens 47 = .ok (.imul, 1) := by decide +kernel
theorem dX12_lessens_48 : decode cX12_lessens 48 = .ok (.iload 4, 2) := by decide +kernel
theorem dX12_lessens_50 : decode cX12_lessens 50 = .ok (.iadd, 1) := by decide +kernel
theorem dX12_lessens_51 : decode cX12_lessens 51 = .ok (.iaload, 1) := by decide +kernel
theorem dX12_lessens_52 : decode cX12_lessens 52 = .ok (.iload_n 3, 1) := by decide +kernel
theorem dX12_lessens_53 : decode cX12_lessens 53 = .ok (.iadd, 1) := by decide +kernel
theorem dX12_lessens_54 : decode cX12_lessens 54 = .ok (.iastore, 1) := by decide +kernel
theorem dX12_lessens_55 : decode cX12_lessens 55 = .ok (.iconst 1, 1) := by decide +kernel
theorem dX12_lessens_56 : decode cX12_lessens 56 = .ok (.ireturn, 1) := by decide +kernel
theorem dX12_lessens_57 : decode cX12_lessens 57 = .ok (.iconst 0, 1) := by decide +kernel
theorem dX12_lessens_58 : decode cX12_lessens 58 = .ok (.ireturn, 1) := by decide +kernel
theorem dX12_lesser_0 : decode cX12_lesser 0 = .ok (.iload_n 0, 1) := by decide +kernel
theorem dX12_lesser_1 : decode cX12_lesser 1 = .ok (.iload_n 1, 1) := by decide +kernel
theorem dX12_lesser_2 : decode cX12_lesser 2 = .ok (.if_icmp .ge 7, 3) := by decide +kernel
theorem dX12_lesser_5 : decode cX12_lesser 5 = .ok (.iload_n 0, 1) := by decide +kernel
theorem dX12_lesser_6 : decode cX12_lesser 6 = .ok (.goto 4, 3) := by decide +kernel
theorem dX12_lesser_9 : decode cX12_lesser 9 = .ok (.iload_n 1, 1) := by decide +kernel
theorem dX12_lesser_10 : decode cX12_lesser 10 = .ok (.ireturn, 1) := by decide +kernel
theorem dX12_looks_0 : decode cX12_looks 0 = .ok (.aload_n 0, 1) := by decide +kernel
theorem dX12_looks_1 : decode cX12_looks 1 = .ok (.getfield 341, 3) := by decide +kernel
theorem dX12_looks_4 : decode cX12_looks 4 = .ok (.ireturn, 1) := by decide +kernel
theorem dX12_lose_0 : decode cX12_lose 0 = .ok (.aload_n 0, 1) := by decide +kernel
theorem dX12_lose_1 : decode cX12_lose 1 = .ok (.iload_n 1, 1) := by decide +kernel
theorem dX12_lose_2 : decode cX12_lose 2 = .ok (.invokevirtual 143, 3) := by decide +kernel
theorem dX12_lose_5 : decode cX12_lose 5 = .ok (.ifCond .ne 10, 3) := by decide +kernel
theorem dX12_lose_8 : decode cX12_lose 8 = .ok (.aload_n 0, 1) := by decide +kernel
theorem dX12_lose_9 : decode cX12_lose 9 = .ok (.bipush (-2), 2) := by decide +kernel
theorem dX12_lose_11 : decode cX12_lose 11 = .ok (.invokevirtual 92, 3) := by decide +kernel
theorem dX12_lose_14 : decode cX12_lose 14 = .ok (.ireturn, 1) := by decide +kernel
theorem dX12_lose_15 : decode cX12_lose 15 = .ok (.aload_n 0, 1) := by decide +kernel
theorem dX12_lose_16 : decode cX12_lose 16 = .ok (.invokevirtual 96, 3) := by decide +kernel
theorem dX12_lose_19 : decode cX12_lose 19 = .ok (.aload_n 0, 1) := by decide +kernel
theorem dX12_lose_20 : decode cX12_lose 20 = .ok (.getfield 7, 3) := by decide +kernel
theorem dX12_lose_23 : decode cX12_lose 23 = .ok (.aload_n 0, 1) := by decide +kernel
theorem dX12_lose_24 : decode cX12_lose 24 = .ok (.iload_n 1, 1) := by decide +kernel
theorem dX12_lose_25 : decode cX12_lose 25 = .ok (.invokevirtual 140, 3) := by decide +kernel
theorem dX12_lose_28 : decode cX12_lose 28 = .ok (.iconst 2, 1) := by decide +kernel
theorem dX12_lose_29 : decode cX12_lose 29 = .ok (.iadd, 1) := by decide +kernel
theorem dX12_lose_30 : decode cX12_lose 30 = .ok (.iaload, 1) := by decide +kernel
theorem dX12_lose_31 : decode cX12_lose 31 = .ok (.istore_n 2, 1) := by decide +kernel
theorem dX12_lose_32 : decode cX12_lose 32 = .ok (.aload_n 0, 1) := by decide +kernel
theorem dX12_lose_33 : decode cX12_lose 33 = .ok (.getfield 7, 3) := by decide +kernel
theorem dX12_lose_36 : decode cX12_lose 36 = .ok (.aload_n 0, 1) := by decide +kernel
theorem dX12_lose_37 : decode cX12_lose 37 = .ok (.iload_n 1, 1) := by decide +kernel
theorem dX12_lose_38 : decode cX12_lose 38 = .ok (.invokevirtual 140, 3) := by decide +kernel
theorem dX12_lose_41 : decode cX12_lose 41 = .ok (.iconst 2, 1) := by decide +kernel
theorem dX12_lose_42 : decode cX12_lose 42 = .ok (.iadd, 1) := by decide +kernel
theorem dX12_lose_43 : decode cX12_lose 43 = .ok (.iconst (-1), 1) := by decide +kernel
theorem dX12_lose_44 : decode cX12_lose 44 = .ok (.iastore, 1) := by decide +kernel
theorem dX12_lose_45 : decode cX12_lose 45 = .ok (.aload_n 0, 1) := by decide +kernel
theorem dX12_lose_46 : decode cX12_lose 46 = .ok (.iload_n 2, 1) := by decide +kernel
theorem dX12_lose_47 : decode cX12_lose 47 = .ok (.ifCond .ge 7, 3) := by decide +kernel
theorem dX12_lose_50 : decode cX12_lose 50 = .ok (.iconst 0, 1) := by decide +kernel
theorem dX12_lose_51 : decode cX12_lose 51 = .ok (.goto 4, 3) := by decide +kernel
theorem dX12_lose_54 : decode cX12_lose 54 = .ok (.iconst 1, 1) := by decide +kernel
theorem dX12_lose_55 : decode cX12_lose 55 = .ok (.invokevirtual 102, 3) := by decide +kernel
theorem dX12_lose_58 : decode cX12_lose 58 = .ok (.ireturn, 1) := by decide +kernel
theorem dX12_losesPart_0 : decode cX12_losesPart 0 = .ok (.iconst 5, 1) := by decide +kernel
theorem dX12_losesPart_1 : decode cX12_losesPart 1 = .ok (.istore_n 2, 1) := by decide +kernel
theorem dX12_losesPart_2 : decode cX12_losesPart 2 = .ok (.iload_n 2, 1) := by decide +kernel
theorem dX12_losesPart_3 : decode cX12_losesPart 3 = .ok (.bipush 13, 2) := by decide +kernel
theorem dX12_losesPart_5 : decode cX12_losesPart 5 = .ok (.if_icmp .ge 22, 3) := by decide +kernel
theorem dX12_losesPart_8 : decode cX12_losesPart 8 = .ok (.aload_n 0, 1) := by decide +kernel
theorem dX12_losesPart_9 : decode cX12_losesPart 9 = .ok (.getfield 7, 3) := by decide +kernel
theorem dX12_losesPart_12 : decode cX12_losesPart 12 = .ok (.aload_n 0, 1) := by decide +kernel
theorem dX12_losesPart_13 : decode cX12_losesPart 13 = .ok (.iload_n 1, 1) := by decide +kernel
theorem dX12_losesPart_14 : decode cX12_losesPart 14 = .ok (.invokevirtual 188, 3) := by decide +kernel
theorem dX12_losesPart_17 : decode cX12_losesPart 17 = .ok (.iload_n 2, 1) := by decide +kernel
theorem dX12_losesPart_18 : decode cX12_losesPart 18 = .ok (.iadd, 1) := by decide +kernel
theorem dX12_losesPart_19 : decode cX12_losesPart 19 = .ok (.iconst 0, 1) := by decide +kernel
theorem dX12_losesPart_20 : decode cX12_losesPart 20 = .ok (.iastore, 1) := by decide +kernel
theorem dX12_losesPart_21 : decode cX12_losesPart 21 = .ok (.iinc 2 1, 3) := by decide +kernel
theorem dX12_losesPart_24 : decode cX12_losesPart 24 = .ok (.goto (-22), 3) := by decide +kernel
theorem dX12_losesPart_27 : decode cX12_losesPart 27 = .ok (.return_, 1) := by decide +kernel
theorem dX12_lowest_0 : decode cX12_lowest 0 = .ok (.iconst 0, 1) := by decide +kernel
theorem dX12_lowest_1 : decode cX12_lowest 1 = .ok (.istore_n 1, 1) := by decide +kernel
theorem dX12_lowest_2 : decode cX12_lowest 2 = .ok (.iload_n 0, 1) := by decide +kernel
theorem dX12_lowest_3 : decode cX12_lowest 3 = .ok (.iload_n 1, 1) := by decide +kernel
theorem dX12_lowest_4 : decode cX12_lowest 4 = .ok (.ishr, 1) := by decide +kernel
theorem dX12_lowest_5 : decode cX12_lowest 5 = .ok (.iconst 1, 1) := by decide +kernel
theorem dX12_lowest_6 : decode cX12_lowest 6 = .ok (.iand, 1) := by decide +kernel
theorem dX12_lowest_7 : decode cX12_lowest 7 = .ok (.ifCond .ne 9, 3) := by decide +kernel
theorem dX12_lowest_10 : decode cX12_lowest 10 = .ok (.iinc 1 1, 3) := by decide +kernel
theorem dX12_lowest_13 : decode cX12_lowest 13 = .ok (.goto (-11), 3) := by decide +kernel
theorem dX12_lowest_16 : decode cX12_lowest 16 = .ok (.iload_n 1, 1) := by decide +kernel
theorem dX12_lowest_17 : decode cX12_lowest 17 = .ok (.ireturn, 1) := by decide +kernel
theorem dX12_melt_0 : decode cX12_melt 0 = .ok (.iload_n 1, 1) := by decide +kernel
theorem dX12_melt_1 : decode cX12_melt 1 = .ok (.ifCond .lt 7, 3) := by decide +kernel
theorem dX12_melt_4 : decode cX12_melt 4 = .ok (.iload_n 2, 1) := by decide +kernel
theorem dX12_melt_5 : decode cX12_melt 5 = .ok (.ifCond .ge 10, 3) := by decide +kernel
theorem dX12_melt_8 : decode cX12_melt 8 = .ok (.aload_n 0, 1) := by decide +kernel
theorem dX12_melt_9 : decode cX12_melt 9 = .ok (.bipush (-2), 2) := by decide +kernel
theorem dX12_melt_11 : decode cX12_melt 11 = .ok (.invokevirtual 92, 3) := by decide +kernel
theorem dX12_melt_14 : decode cX12_melt 14 = .ok (.ireturn, 1) := by decide +kernel
theorem dX12_melt_15 : decode cX12_melt 15 = .ok (.iload_n 2, 1) := by decide +kernel
theorem dX12_melt_16 : decode cX12_melt 16 = .ok (.ifCond .ne 10, 3) := by decide +kernel
theorem dX12_melt_19 : decode cX12_melt 19 = .ok (.aload_n 0, 1) := by decide +kernel
theorem dX12_melt_20 : decode cX12_melt 20 = .ok (.bipush (-8), 2) := by decide +kernel
theorem dX12_melt_22 : decode cX12_melt 22 = .ok (.invokevirtual 92, 3) := by decide +kernel
theorem dX12_melt_25 : decode cX12_melt 25 = .ok (.ireturn, 1) := by decide +kernel
theorem dX12_melt_26 : decode cX12_melt 26 = .ok (.aload_n 0, 1) := by decide +kernel
theorem dX12_melt_27 : decode cX12_melt 27 = .ok (.invokevirtual 96, 3) := by decide +kernel
theorem dX12_melt_30 : decode cX12_melt 30 = .ok (.iload_n 1, 1) := by decide +kernel
theorem dX12_melt_31 : decode cX12_melt 31 = .ok (.i2f, 1) := by decide +kernel
theorem dX12_melt_32 : decode cX12_melt 32 = .ok (.ldc 153, 2) := by decide +kernel
theorem dX12_melt_34 : decode cX12_melt 34 = .ok (.fdiv, 1) := by decide +kernel
theorem dX12_melt_35 : decode cX12_melt 35 = .ok (.fstore_n 3, 1) := by decide +kernel
theorem dX12_melt_36 : decode cX12_melt 36 = .ok (.iload_n 2, 1) := by decide +kernel
theorem dX12_melt_37 : decode cX12_melt 37 = .ok (.i2f, 1) := by decide +kernel
theorem dX12_melt_38 : decode cX12_melt 38 = .ok (.ldc 153, 2) := by decide +kernel
theorem dX12_melt_40 : decode cX12_melt 40 = .ok (.fdiv, 1) := by decide +kernel
theorem dX12_melt_41 : decode cX12_melt 41 = .ok (.fstore 4, 2) := by decide +kernel
theorem dX12_melt_43 : decode cX12_melt 43 = .ok (.aload_n 0, 1) := by decide +kernel
theorem dX12_melt_44 : decode cX12_melt 44 = .ok (.fload_n 3, 1) := by decide +kernel
theorem dX12_melt_45 : decode cX12_melt 45 = .ok (.fload_n 3, 1) := by decide +kernel
theorem dX12_melt_46 : decode cX12_melt 46 = .ok (.fload 4, 2) := by decide +kernel
theorem dX12_melt_48 : decode cX12_melt 48 = .ok (.frem, 1) := by decide +kernel
theorem dX12_melt_49 : decode cX12_melt 49 = .ok (.fsub, 1) := by decide +kernel
theorem dX12_melt_50 : decode cX12_melt 50 = .ok (.fload 4, 2) := by decide +kernel
theorem dX12_melt_52 : decode cX12_melt 52 = .ok (.fdiv, 1) := by decide +kernel
theorem dX12_melt_53 : decode cX12_melt 53 = .ok (.invokevirtual 163, 3) := by decide +kernel
theorem dX12_melt_56 : decode cX12_melt 56 = .ok (.istore 5, 2) := by decide +kernel
theorem dX12_melt_58 : decode cX12_melt 58 = .ok (.iconst 0, 1) := by decide +kernel
theorem dX12_melt_59 : decode cX12_melt 59 = .ok (.istore 6, 2) := by decide +kernel
theorem dX12_melt_61 : decode cX12_melt 61 = .ok (.iload 6, 2) := by decide +kernel
theorem dX12_melt_63 : decode cX12_melt 63 = .ok (.aload_n 0, 1) := by decide +kernel
theorem dX12_melt_64 : decode cX12_melt 64 = .ok (.getfield 7, 3) := by decide +kernel
theorem dX12_melt_67 : decode cX12_melt 67 = .ok (.iconst 1, 1) := by decide +kernel
theorem dX12_melt_68 : decode cX12_melt 68 = .ok (.iaload, 1) := by decide +kernel
theorem dX12_melt_69 : decode cX12_melt 69 = .ok (.if_icmp .ge 19, 3) := by decide +kernel
theorem dX12_melt_72 : decode cX12_melt 72 = .ok (.aload_n 0, 1) := by decide +kernel
theorem dX12_melt_73 : decode cX12_melt 73 = .ok (.iload 6, 2) := by decide +kernel
theorem dX12_melt_75 : decode cX12_melt 75 = .ok (.iconst 3, 1) := by decide +kernel
theorem dX12_melt_76 : decode cX12_melt 76 = .ok (.iload 5, 2) := by decide +kernel
theorem dX12_melt_78 : decode cX12_melt 78 = .ok (.imul, 1) := by decide +kernel
theorem dX12_melt_79 : decode cX12_melt 79 = .ok (.invokevirtual 184, 3) := by decide +kernel
theorem dX12_melt_82 : decode cX12_melt 82 = .ok (.iinc 6 1, 3) := by decide +kernel
theorem dX12_melt_85 : decode cX12_melt 85 = .ok (.goto (-24), 3) := by decide +kernel
theorem dX12_melt_88 : decode cX12_melt 88 = .ok (.aload_n 0, 1) := by decide +kernel
theorem dX12_melt_89 : decode cX12_melt 89 = .ok (.iload 5, 2) := by decide +kernel
theorem dX12_melt_91 : decode cX12_melt 91 = .ok (.invokevirtual 102, 3) := by decide +kernel
theorem dX12_melt_94 : decode cX12_melt 94 = .ok (.ireturn, 1) := by decide +kernel
theorem dX12_minutes_0 : decode cX12_minutes 0 = .ok (.aload_n 0, 1) := by decide +kernel
theorem dX12_minutes_1 : decode cX12_minutes 1 = .ok (.aload_n 0, 1) := by decide +kernel
theorem dX12_minutes_2 : decode cX12_minutes 2 = .ok (.getfield 7, 3) := by decide +kernel
theorem dX12_minutes_5 : decode cX12_minutes 5 = .ok (.sipush 9642, 3) := by decide +kernel
theorem dX12_minutes_8 : decode cX12_minutes 8 = .ok (.iconst 3, 1) := by decide +kernel
theorem dX12_minutes_9 : decode cX12_minutes 9 = .ok (.iload_n 2, 1) := by decide +kernel
theorem dX12_minutes_10 : decode cX12_minutes 10 = .ok (.imul, 1) := by decide +kernel
theorem dX12_minutes_11 : decode cX12_minutes 11 = .ok (.iadd, 1) := by decide +kernel
theorem dX12_minutes_12 : decode cX12_minutes 12 = .ok (.iaload, 1) := by decide +kernel
theorem dX12_minutes_13 : decode cX12_minutes 13 = .ok (.invokevirtual 109, 3) := by decide +kernel
theorem dX12_minutes_16 : decode cX12_minutes 16 = .ok (.istore_n 3, 1) := by decide +kernel
theorem dX12_minutes_17 : decode cX12_minutes 17 = .ok (.aload_n 0, 1) := by decide +kernel
