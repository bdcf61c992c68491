theorem dX2_init_0 : decode cX2_init 0 = .ok (.aload_n 0, 1) := by decide +kernel
theorem dX2_init_1 : decode cX2_init 1 = .ok (.invokespecial 3, 3) := by decide +kernel
theorem dX2_init_4 : decode cX2_init 4 = .ok (.aload_n 0, 1) := by decide +kernel
theorem dX2_init_5 : decode cX2_init 5 = .ok (.iconst 5, 1) := by decide +kernel
theorem dX2_init_6 : decode cX2_init 6 = .ok (.newarray .int, 2) := by decide +kernel
theorem dX2_init_8 : decode cX2_init 8 = .ok (.putfield 9, 3) := by decide +kernel
theorem dX2_init_11 : decode cX2_init 11 = .ok (.aload_n 0, 1) := by decide +kernel
theorem dX2_init_12 : decode cX2_init 12 = .ok (.iconst 0, 1) := by decide +kernel
theorem dX2_init_13 : decode cX2_init 13 = .ok (.putfield 15, 3) := by decide +kernel
theorem dX2_init_16 : decode cX2_init 16 = .ok (.aload_n 0, 1) := by decide +kernel
theorem dX2_init_17 : decode cX2_init 17 = .ok (.iconst 0, 1) := by decide +kernel
theorem dX2_init_18 : decode cX2_init 18 = .ok (.putfield 19, 3) := by decide +kernel
theorem dX2_init_21 : decode cX2_init 21 = .ok (.aload_n 0, 1) := by decide +kernel
theorem dX2_init_22 : decode cX2_init 22 = .ok (.iconst 0, 1) := by decide +kernel
theorem dX2_init_23 : decode cX2_init 23 = .ok (.putfield 22, 3) := by decide +kernel
theorem dX2_init_26 : decode cX2_init 26 = .ok (.return_, 1) := by decide +kernel
theorem dX2_find_0 : decode cX2_find 0 = .ok (.iload_n 1, 1) := by decide +kernel
theorem dX2_find_1 : decode cX2_find 1 = .ok (.bipush (-9), 2) := by decide +kernel
theorem dX2_find_3 : decode cX2_find 3 = .ok (.if_icmp .ne 16, 3) := by decide +kernel
theorem dX2_find_6 : decode cX2_find 6 = .ok (.aload_n 0, 1) := by decide +kernel
theorem dX2_find_7 : decode cX2_find 7 = .ok (.getfield 9, 3) := by decide +kernel
theorem dX2_find_10 : decode cX2_find 10 = .ok (.iconst 4, 1) := by decide +kernel
theorem dX2_find_11 : decode cX2_find 11 = .ok (.dup2, 1) := by decide +kernel
theorem dX2_find_12 : decode cX2_find 12 = .ok (.iaload, 1) := by decide +kernel
theorem dX2_find_13 : decode cX2_find 13 = .ok (.iconst 1, 1) := by decide +kernel
theorem dX2_find_14 : decode cX2_find 14 = .ok (.iadd, 1) := by decide +kernel
theorem dX2_find_15 : decode cX2_find 15 = .ok (.iastore, 1) := by decide +kernel
theorem dX2_find_16 : decode cX2_find 16 = .ok (.goto 28, 3) := by decide +kernel
theorem dX2_find_19 : decode cX2_find 19 = .ok (.iload_n 1, 1) := by decide +kernel
theorem dX2_find_20 : decode cX2_find 20 = .ok (.bipush (-4), 2) := by decide +kernel
theorem dX2_find_22 : decode cX2_find 22 = .ok (.if_icmp .gt 22, 3) := by decide +kernel
theorem dX2_find_25 : decode cX2_find 25 = .ok (.iload_n 1, 1) := by decide +kernel
theorem dX2_find_26 : decode cX2_find 26 = .ok (.bipush (-7), 2) := by decide +kernel
theorem dX2_find_28 : decode cX2_find 28 = .ok (.if_icmp .lt 16, 3) := by decide +kernel
theorem dX2_find_31 : decode cX2_find 31 = .ok (.aload_n 0, 1) := by decide +kernel
theorem dX2_find_32 : decode cX2_find 32 = .ok (.getfield 9, 3) := by decide +kernel
theorem dX2_find_35 : decode cX2_find 35 = .ok (.bipush (-4), 2) := by decide +kernel
theorem dX2_find_37 : decode cX2_find 37 = .ok (.iload_n 1, 1) := by decide +kernel
theorem dX2_find_38 : decode cX2_find 38 = .ok (.isub, 1) := by decide +kernel
theorem dX2_find_39 : decode cX2_find 39 = .ok (.dup2, 1) := by decide +kernel
theorem dX2_find_40 : decode cX2_find 40 = .ok (.iaload, 1) := by decide +kernel
theorem dX2_find_41 : decode cX2_find 41 = .ok (.iconst 1, 1) := by decide +kernel
theorem dX2_find_42 : decode cX2_find 42 = .ok (.iadd, 1) := by decide +kernel
theorem dX2_find_43 : decode cX2_find 43 = .ok (.iastore, 1) := by decide +kernel
theorem dX2_find_44 : decode cX2_find 44 = .ok (.return_, 1) := by decide +kernel
theorem dX6_init_0 : decode cX6_init 0 = .ok (.aload_n 0, 1) := by decide +kernel
theorem dX6_init_1 : decode cX6_init 1 = .ok (.invokespecial 3, 3) := by decide +kernel
theorem dX6_init_4 : decode cX6_init 4 = .ok (.aload_n 0, 1) := by decide +kernel
theorem dX6_init_5 : decode cX6_init 5 = .ok (.aload_n 1, 1) := by decide +kernel
theorem dX6_init_6 : decode cX6_init 6 = .ok (.putfield 9, 3) := by decide +kernel
theorem dX6_init_9 : decode cX6_init 9 = .ok (.aload_n 0, 1) := by decide +kernel
theorem dX6_init_10 : decode cX6_init 10 = .ok (.iload_n 2, 1) := by decide +kernel
theorem dX6_init_11 : decode cX6_init 11 = .ok (.putfield 15, 3) := by decide +kernel
theorem dX6_init_14 : decode cX6_init 14 = .ok (.aload_n 0, 1) := by decide +kernel
theorem dX6_init_15 : decode cX6_init 15 = .ok (.iload_n 3, 1) := by decide +kernel
theorem dX6_init_16 : decode cX6_init 16 = .ok (.putfield 19, 3) := by decide +kernel
theorem dX6_init_19 : decode cX6_init 19 = .ok (.return_, 1) := by decide +kernel
theorem dX0_init_0 : decode cX0_init 0 = .ok (.aload_n 0, 1) := by decide +kernel
theorem dX0_init_1 : decode cX0_init 1 = .ok (.aload_n 1, 1) := by decide +kernel
theorem dX0_init_2 : decode cX0_init 2 = .ok (.iload_n 2, 1) := by decide +kernel
theorem dX0_init_3 : decode cX0_init 3 = .ok (.iload_n 3, 1) := by decide +kernel
theorem dX0_init_4 : decode cX0_init 4 = .ok (.invokespecial 1, 3) := by decide +kernel
theorem dX0_init_7 : decode cX0_init 7 = .ok (.return_, 1) := by decide +kernel
theorem dX7_init_0 : decode cX7_init 0 = .ok (.aload_n 0, 1) := by decide +kernel
theorem dX7_init_1 : decode cX7_init 1 = .ok (.aload_n 1, 1) := by decide +kernel
theorem dX7_init_2 : decode cX7_init 2 = .ok (.iload_n 2, 1) := by decide +kernel
theorem dX7_init_3 : decode cX7_init 3 = .ok (.iload_n 3, 1) := by decide +kernel
theorem dX7_init_4 : decode cX7_init 4 = .ok (.invokespecial 1, 3) := by decide +kernel
theorem dX7_init_7 : decode cX7_init 7 = .ok (.return_, 1) := by decide +kernel
theorem dX9_init_0 : decode cX9_init 0 = .ok (.aload_n 0, 1) := by decide +kernel
theorem dX9_init_1 : decode cX9_init 1 = .ok (.aload_n 1, 1) := by decide +kernel
theorem dX9_init_2 : decode cX9_init 2 = .ok (.iload_n 2, 1) := by decide +kernel
theorem dX9_init_3 : decode cX9_init 3 = .ok (.iload_n 3, 1) := by decide +kernel
theorem dX9_init_4 : decode cX9_init 4 = .ok (.invokespecial 1, 3) := by decide +kernel
theorem dX9_init_7 : decode cX9_init 7 = .ok (.return_, 1) := by decide +kernel
theorem dX8_init_0 : decode cX8_init 0 = .ok (.aload_n 0, 1) := by decide +kernel
theorem dX8_init_1 : decode cX8_init 1 = .ok (.invokespecial 3, 3) := by decide +kernel
theorem dX8_init_4 : decode cX8_init 4 = .ok (.aload_n 0, 1) := by decide +kernel
theorem dX8_init_5 : decode cX8_init 5 = .ok (.iconst 0, 1) := by decide +kernel
theorem dX8_init_6 : decode cX8_init 6 = .ok (.putfield 9, 3) := by decide +kernel
theorem dX8_init_9 : decode cX8_init 9 = .ok (.aload_n 0, 1) := by decide +kernel
theorem dX8_init_10 : decode cX8_init 10 = .ok (.iload_n 1, 1) := by decide +kernel
theorem dX8_init_11 : decode cX8_init 11 = .ok (.iload_n 2, 1) := by decide +kernel
theorem dX8_init_12 : decode cX8_init 12 = .ok (.multianewarray 15 2, 4) := by decide +kernel
theorem dX8_init_16 : decode cX8_init 16 = .ok (.putfield 17, 3) := by decide +kernel
theorem dX8_init_19 : decode cX8_init 19 = .ok (.return_, 1) := by decide +kernel
theorem dX8_has_0 : decode cX8_has 0 = .ok (.iload_n 1, 1) := by decide +kernel
theorem dX8_has_1 : decode cX8_has 1 = .ok (.ifCond .lt 15, 3) := by decide +kernel
theorem dX8_has_4 : decode cX8_has 4 = .ok (.iload_n 1, 1) := by decide +kernel
theorem dX8_has_5 : decode cX8_has 5 = .ok (.aload_n 0, 1) := by decide +kernel
theorem dX8_has_6 : decode cX8_has 6 = .ok (.getfield 9, 3) := by decide +kernel
theorem dX8_has_9 : decode cX8_has 9 = .ok (.if_icmp .ge 7, 3) := by decide +kernel
theorem dX8_has_12 : decode cX8_has 12 = .ok (.iconst 1, 1) := by decide +kernel
theorem dX8_has_13 : decode cX8_has 13 = .ok (.goto 4, 3) := by decide +kernel
theorem dX8_has_16 : decode cX8_has 16 = .ok (.iconst 0, 1) := by decide +kernel
theorem dX8_has_17 : decode cX8_has 17 = .ok (.ireturn, 1) := by decide +kernel
theorem dX8_get_0 : decode cX8_get 0 = .ok (.iload_n 1, 1) := by decide +kernel
theorem dX8_get_1 : decode cX8_get 1 = .ok (.ifCond .lt 35, 3) := by decide +kernel
theorem dX8_get_4 : decode cX8_get 4 = .ok (.iload_n 1, 1) := by decide +kernel
theorem dX8_get_5 : decode cX8_get 5 = .ok (.aload_n 0, 1) := by decide +kernel
theorem dX8_get_6 : decode cX8_get 6 = .ok (.getfield 9, 3) := by decide +kernel
theorem dX8_get_9 : decode cX8_get 9 = .ok (.if_icmp .ge 27, 3) := by decide +kernel
theorem dX8_get_12 : decode cX8_get 12 = .ok (.iload_n 2, 1) := by decide +kernel
theorem dX8_get_13 : decode cX8_get 13 = .ok (.ifCond .lt 23, 3) := by decide +kernel
theorem dX8_get_16 : decode cX8_get 16 = .ok (.iload_n 2, 1) := by decide +kernel
theorem dX8_get_17 : decode cX8_get 17 = .ok (.aload_n 0, 1) := by decide +kernel
theorem dX8_get_18 : decode cX8_get 18 = .ok (.getfield 17, 3) := by decide +kernel
theorem dX8_get_21 : decode cX8_get 21 = .ok (.arraylength, 1) := by decide +kernel
theorem dX8_get_22 : decode cX8_get 22 = .ok (.if_icmp .ge 14, 3) := by decide +kernel
theorem dX8_get_25 : decode cX8_get 25 = .ok (.aload_n 0, 1) := by decide +kernel
theorem dX8_get_26 : decode cX8_get 26 = .ok (.getfield 17, 3) := by decide +kernel
theorem dX8_get_29 : decode cX8_get 29 = .ok (.iload_n 2, 1) := by decide +kernel
theorem dX8_get_30 : decode cX8_get 30 = .ok (.aaload, 1) := by decide +kernel
theorem dX8_get_31 : decode cX8_get 31 = .ok (.iload_n 1, 1) := by decide +kernel
theorem dX8_get_32 : decode cX8_get 32 = .ok (.iaload, 1) := by decide +kernel
theorem dX8_get_33 : decode cX8_get 33 = .ok (.goto 4, 3) := by decide +kernel
theorem dX8_get_36 : decode cX8_get 36 = .ok (.iconst (-1), 1) := by decide +kernel
theorem dX8_get_37 : decode cX8_get 37 = .ok (.ireturn, 1) := by decide +kernel
theorem dX8_put_0 : decode cX8_put 0 = .ok (.iload_n 1, 1) := by decide +kernel
theorem dX8_put_1 : decode cX8_put 1 = .ok (.ifCond .lt 33, 3) := by decide +kernel
theorem dX8_put_4 : decode cX8_put 4 = .ok (.iload_n 1, 1) := by decide +kernel
theorem dX8_put_5 : decode cX8_put 5 = .ok (.aload_n 0, 1) := by decide +kernel
theorem dX8_put_6 : decode cX8_put 6 = .ok (.getfield 9, 3) := by decide +kernel
theorem dX8_put_9 : decode cX8_put 9 = .ok (.if_icmp .ge 25, 3) := by decide +kernel
theorem dX8_put_12 : decode cX8_put 12 = .ok (.iload_n 2, 1) := by decide +kernel
theorem dX8_put_13 : decode cX8_put 13 = .ok (.ifCond .lt 21, 3) := by decide +kernel
theorem dX8_put_16 : decode cX8_put 16 = .ok (.iload_n 2, 1) := by decide +kernel
theorem dX8_put_17 : decode cX8_put 17 = .ok (.aload_n 0, 1) := by decide +kernel
theorem dX8_put_18 : decode cX8_put 18 = .ok (.getfield 17, 3) := by decide +kernel
theorem dX8_put_21 : decode cX8_put 21 = .ok (.arraylength, 1) := by decide +kernel
theorem dX8_put_22 : decode cX8_put 22 = .ok (.if_icmp .ge 12, 3) := by decide +kernel
theorem dX8_put_25 : decode cX8_put 25 = .ok (.aload_n 0, 1) := by decide +kernel
theorem dX8_put_26 : decode cX8_put 26 = .ok (.getfield 17, 3) := by decide +kernel
theorem dX8_put_29 : decode cX8_put 29 = .ok (.iload_n 2, 1) := by decide +kernel
theorem dX8_put_30 : decode cX8_put 30 = .ok (.aaload, 1) := by decide +kernel
theorem dX8_put_31 : decode cX8_put 31 = .ok (.iload_n 1, 1) := by decide +kernel
theorem dX8_put_32 : decode cX8_put 32 = .ok (.iload_n 3, 1) := by decide +kernel
theorem dX8_put_33 : decode cX8_put 33 = .ok (.iastore, 1) := by decide +kernel
theorem dX8_put_34 : decode cX8_put 34 = .ok (.return_, 1) := by decide +kernel
theorem dX8_add_0 : decode cX8_add 0 = .ok (.aload_n 0, 1) := by decide +kernel
theorem dX8_add_1 : decode cX8_add 1 = .ok (.aload_n 0, 1) := by decide +kernel
theorem dX8_add_2 : decode cX8_add 2 = .ok (.getfield 9, 3) := by decide +kernel
theorem dX8_add_5 : decode cX8_add 5 = .ok (.iconst 1, 1) := by decide +kernel
theorem dX8_add_6 : decode cX8_add 6 = .ok (.iadd, 1) := by decide +kernel
theorem dX8_add_7 : decode cX8_add 7 = .ok (.invokevirtual 28, 3) := by decide +kernel
theorem dX8_add_10 : decode cX8_add 10 = .ok (.iconst 0, 1) := by decide +kernel
theorem dX8_add_11 : decode cX8_add 11 = .ok (.istore_n 1, 1) := by decide +kernel
theorem dX8_add_12 : decode cX8_add 12 = .ok (.iload_n 1, 1) := by decide +kernel
theorem dX8_add_13 : decode cX8_add 13 = .ok (.aload_n 0, 1) := by decide +kernel
theorem dX8_add_14 : decode cX8_add 14 = .ok (.getfield 17, 3) := by decide +kernel
theorem dX8_add_17 : decode cX8_add 17 = .ok (.arraylength, 1) := by decide +kernel
theorem dX8_add_18 : decode cX8_add 18 = .ok (.if_icmp .ge 21, 3) := by decide +kernel
theorem dX8_add_21 : decode cX8_add 21 = .ok (.aload_n 0, 1) := by decide +kernel
theorem dX8_add_22 : decode cX8_add 22 = .ok (.getfield 17, 3) := by decide +kernel
theorem dX8_add_25 : decode cX8_add 25 = .ok (.iload_n 1, 1) := by decide +kernel
theorem dX8_add_26 : decode cX8_add 26 = .ok (.aaload, 1) := by decide +kernel
theorem dX8_add_27 : decode cX8_add 27 = .ok (.aload_n 0, 1) := by decide +kernel
theorem dX8_add_28 : decode cX8_add 28 = .ok (.getfield 9, 3) := by decide +kernel
theorem dX8_add_31 : decode cX8_add 31 = .ok (.iconst 0, 1) := by decide +kernel
theorem dX8_add_32 : decode cX8_add 32 = .ok (.iastore, 1) := by decide +kernel
theorem dX8_add_33 : decode cX8_add 33 = .ok (.iinc 1 1, 3) := by decide +kernel
theorem dX8_add_36 : decode cX8_add 36 = .ok (.goto (-24), 3) := by decide +kernel
theorem dX8_add_39 : decode cX8_add 39 = .ok (.aload_n 0, 1) := by decide +kernel
theorem dX8_add_40 : decode cX8_add 40 = .ok (.dup, 1) := by decide +kernel
theorem dX8_add_41 : decode cX8_add 41 = .ok (.getfield 9, 3) := by decide +kernel
theorem dX8_add_44 : decode cX8_add 44 = .ok (.iconst 1, 1) := by decide +kernel
theorem dX8_add_45 : decode cX8_add 45 = .ok (.iadd, 1) := by decide +kernel
theorem dX8_add_46 : decode cX8_add 46 = .ok (.putfield 9, 3) := by decide +kernel
theorem dX8_add_49 : decode cX8_add 49 = .ok (.aload_n 0, 1) := by decide +kernel
theorem dX8_add_50 : decode cX8_add 50 = .ok (.getfield 9, 3) := by decide +kernel
theorem dX8_add_53 : decode cX8_add 53 = .ok (.iconst 1, 1) := by decide +kernel
theorem dX8_add_54 : decode cX8_add 54 = .ok (.isub, 1) := by decide +kernel
theorem dX8_add_55 : decode cX8_add 55 = .ok (.ireturn, 1) := by decide +kernel
theorem dX8_become_0 : decode cX8_become 0 = .ok (.aload_n 0, 1) := by decide +kernel
theorem dX8_become_1 : decode cX8_become 1 = .ok (.aload_n 1, 1) := by decide +kernel
theorem dX8_become_2 : decode cX8_become 2 = .ok (.getfield 9, 3) := by decide +kernel
theorem dX8_become_5 : decode cX8_become 5 = .ok (.invokevirtual 28, 3) := by decide +kernel
theorem dX8_become_8 : decode cX8_become 8 = .ok (.iconst 0, 1) := by decide +kernel
theorem dX8_become_9 : decode cX8_become 9 = .ok (.istore_n 2, 1) := by decide +kernel
theorem dX8_become_10 : decode cX8_become 10 = .ok (.iload_n 2, 1) := by decide +kernel
theorem dX8_become_11 : decode cX8_become 11 = .ok (.aload_n 0, 1) := by decide +kernel
theorem dX8_become_12 : decode cX8_become 12 = .ok (.getfield 17, 3) := by decide +kernel
theorem dX8_become_15 : decode cX8_become 15 = .ok (.arraylength, 1) := by decide +kernel
theorem dX8_become_16 : decode cX8_become 16 = .ok (.if_icmp .ge 39, 3) := by decide +kernel
theorem dX8_become_19 : decode cX8_become 19 = .ok (.iload_n 2, 1) := by decide +kernel
theorem dX8_become_20 : decode cX8_become 20 = .ok (.aload_n 1, 1) := by decide +kernel
theorem dX8_become_21 : decode cX8_become 21 = .ok (.getfield 17, 3) := by decide +kernel
theorem dX8_become_24 : decode cX8_become 24 = .ok (.arraylength, 1) := by decide +kernel
theorem dX8_become_25 : decode cX8_become 25 = .ok (.if_icmp .ge 30, 3) := by decide +kernel
theorem dX8_become_28 : decode cX8_become 28 = .ok (.aload_n 1, 1) := by decide +kernel
theorem dX8_become_29 : decode cX8_become 29 = .ok (.getfield 17, 3) := by decide +kernel
theorem dX8_become_32 : decode cX8_become 32 = .ok (.iload_n 2, 1) := by decide +kernel
theorem dX8_become_33 : decode cX8_become 33 = .ok (.aaload, 1) := by decide +kernel
theorem dX8_become_34 : decode cX8_become 34 = .ok (.iconst 0, 1) := by decide +kernel
theorem dX8_become_35 : decode cX8_become 35 = .ok (.aload_n 0, 1) := by decide +kernel
theorem dX8_become_36 : decode cX8_become 36 = .ok (.getfield 17, 3) := by decide +kernel
theorem dX8_become_39 : decode cX8_become 39 = .ok (.iload_n 2, 1) := by decide +kernel
theorem dX8_become_40 : decode cX8_become 40 = .ok (.aaload, 1) := by decide +kernel
theorem dX8_become_41 : decode cX8_become 41 = .ok (.iconst 0, 1) := by decide +kernel
theorem dX8_become_42 : decode cX8_become 42 = .ok (.aload_n 1, 1) := by decide +kernel
theorem dX8_become_43 : decode cX8_become 43 = .ok (.getfield 9, 3) := by decide +kernel
theorem dX8_become_46 : decode cX8_become 46 = .ok (.invokestatic 32, 3) := by decide +kernel
theorem dX8_become_49 : decode cX8_become 49 = .ok (.iinc 2 1, 3) := by decide +kernel
theorem dX8_become_52 : decode cX8_become 52 = .ok (.goto (-42), 3) := by decide +kernel
theorem dX8_become_55 : decode cX8_become 55 = .ok (.aload_n 0, 1) := by decide +kernel
theorem dX8_become_56 : decode cX8_become 56 = .ok (.aload_n 1, 1) := by decide +kernel
theorem dX8_become_57 : decode cX8_become 57 = .ok (.getfield 9, 3) := by decide +kernel
theorem dX8_become_60 : decode cX8_become 60 = .ok (.putfield 9, 3) := by decide +kernel
theorem dX8_become_63 : decode cX8_become 63 = .ok (.return_, 1) := by decide +kernel
theorem dX8_digestOf_0 : decode cX8_digestOf 0 = .ok (.iload_n 1, 1) := by decide +kernel
theorem dX8_digestOf_1 : decode cX8_digestOf 1 = .ok (.istore_n 2, 1) := by decide +kernel
theorem dX8_digestOf_2 : decode cX8_digestOf 2 = .ok (.iconst 0, 1) := by decide +kernel
theorem dX8_digestOf_3 : decode cX8_digestOf 3 = .ok (.istore_n 3, 1) := by decide +kernel
theorem dX8_digestOf_4 : decode cX8_digestOf 4 = .ok (.iload_n 3, 1) := by decide +kernel
theorem dX8_digestOf_5 : decode cX8_digestOf 5 = .ok (.aload_n 0, 1) := by decide +kernel
theorem dX8_digestOf_6 : decode cX8_digestOf 6 = .ok (.getfield 9, 3) := by decide +kernel
theorem dX8_digestOf_9 : decode cX8_digestOf 9 = .ok (.if_icmp .ge 43, 3) := by decide +kernel
theorem dX8_digestOf_12 : decode cX8_digestOf 12 = .ok (.iconst 0, 1) := by decide +kernel
theorem dX8_digestOf_13 : decode cX8_digestOf 13 = .ok (.istore 4, 2) := by decide +kernel
theorem dX8_digestOf_15 : decode cX8_digestOf 15 = .ok (.iload 4, 2) := by decide +kernel
theorem dX8_digestOf_17 : decode cX8_digestOf 17 = .ok (.aload_n 0, 1) := by decide +kernel
theorem dX8_digestOf_18 : decode cX8_digestOf 18 = .ok (.getfield 17, 3) := by decide +kernel
theorem dX8_digestOf_21 : decode cX8_digestOf 21 = .ok (.arraylength, 1) := by decide +kernel
theorem dX8_digestOf_22 : decode cX8_digestOf 22 = .ok (.if_icmp .ge 24, 3) := by decide +kernel
theorem dX8_digestOf_25 : decode cX8_digestOf 25 = .ok (.bipush 31, 2) := by decide +kernel
theorem dX8_digestOf_27 : decode cX8_digestOf 27 = .ok (.iload_n 2, 1) := by decide +kernel
theorem dX8_digestOf_28 : decode cX8_digestOf 28 = .ok (.imul, 1) := by decide +kernel
theorem dX8_digestOf_29 : decode cX8_digestOf 29 = .ok (.aload_n 0, 1) := by decide +kernel
theorem dX8_digestOf_30 : decode cX8_digestOf 30 = .ok (.getfield 17, 3) := by decide +kernel
theorem dX8_digestOf_33 : decode cX8_digestOf 33 = .ok (.iload 4, 2) := by decide +kernel
theorem dX8_digestOf_35 : decode cX8_digestOf 35 = .ok (.aaload, 1) := by decide +kernel
theorem dX8_digestOf_36 : decode cX8_digestOf 36 = .ok (.iload_n 3, 1) := by decide +kernel
theorem dX8_digestOf_37 : decode cX8_digestOf 37 = .ok (.iaload, 1) := by decide +kernel
theorem dX8_digestOf_38 : decode cX8_digestOf 38 = .ok (.iadd, 1) := by decide +kernel
theorem dX8_digestOf_39 : decode cX8_digestOf 39 = .ok (.istore_n 2, 1) := by decide +kernel
theorem dX8_digestOf_40 : decode cX8_digestOf 40 = .ok (.iinc 4 1, 3) := by decide +kernel
theorem dX8_digestOf_43 : decode cX8_digestOf 43 = .ok (.goto (-28), 3) := by decide +kernel
theorem dX8_digestOf_46 : decode cX8_digestOf 46 = .ok (.iinc 3 1, 3) := by decide +kernel
theorem dX8_digestOf_49 : decode cX8_digestOf 49 = .ok (.goto (-45), 3) := by decide +kernel
theorem dX8_digestOf_52 : decode cX8_digestOf 52 = .ok (.iload_n 2, 1) := by decide +kernel
theorem dX8_digestOf_53 : decode cX8_digestOf 53 = .ok (.ireturn, 1) := by decide +kernel
theorem dX8_widen_0 : decode cX8_widen 0 = .ok (.iconst 0, 1) := by decide +kernel
theorem dX8_widen_1 : decode cX8_widen 1 = .ok (.istore_n 2, 1) := by decide +kernel
theorem dX8_widen_2 : decode cX8_widen 2 = .ok (.iload_n 2, 1) := by decide +kernel
theorem dX8_widen_3 : decode cX8_widen 3 = .ok (.aload_n 0, 1) := by decide +kernel
theorem dX8_widen_4 : decode cX8_widen 4 = .ok (.getfield 17, 3) := by decide +kernel
theorem dX8_widen_7 : decode cX8_widen 7 = .ok (.arraylength, 1) := by decide +kernel
theorem dX8_widen_8 : decode cX8_widen 8 = .ok (.if_icmp .ge 48, 3) := by decide +kernel
theorem dX8_widen_11 : decode cX8_widen 11 = .ok (.iload_n 1, 1) := by decide +kernel
theorem dX8_widen_12 : decode cX8_widen 12 = .ok (.aload_n 0, 1) := by decide +kernel
theorem dX8_widen_13 : decode cX8_widen 13 = .ok (.getfield 17, 3) := by decide +kernel
theorem dX8_widen_16 : decode cX8_widen 16 = .ok (.iload_n 2, 1) := by decide +kernel
theorem dX8_widen_17 : decode cX8_widen 17 = .ok (.aaload, 1) := by decide +kernel
theorem dX8_widen_18 : decode cX8_widen 18 = .ok (.arraylength, 1) := by decide +kernel
theorem dX8_widen_19 : decode cX8_widen 19 = .ok (.if_icmp .le 31, 3) := by decide +kernel
theorem dX8_widen_22 : decode cX8_widen 22 = .ok (.aload_n 0, 1) := by decide +kernel
theorem dX8_widen_23 : decode cX8_widen 23 = .ok (.getfield 17, 3) := by decide +kernel
theorem dX8_widen_26 : decode cX8_widen 26 = .ok (.iload_n 2, 1) := by decide +kernel
theorem dX8_widen_27 : decode cX8_widen 27 = .ok (.aload_n 0, 1) := by decide +kernel
theorem dX8_widen_28 : decode cX8_widen 28 = .ok (.getfield 17, 3) := by decide +kernel
theorem dX8_widen_31 : decode cX8_widen 31 = .ok (.iload_n 2, 1) := by decide +kernel
theorem dX8_widen_32 : decode cX8_widen 32 = .ok (.aaload, 1) := by decide +kernel
theorem dX8_widen_33 : decode cX8_widen 33 = .ok (.iload_n 1, 1) := by decide +kernel
theorem dX8_widen_34 : decode cX8_widen 34 = .ok (.iconst 2, 1) := by decide +kernel
theorem dX8_widen_35 : decode cX8_widen 35 = .ok (.aload_n 0, 1) := by decide +kernel
theorem dX8_widen_36 : decode cX8_widen 36 = .ok (.getfield 17, 3) := by decide +kernel
theorem dX8_widen_39 : decode cX8_widen 39 = .ok (.iload_n 2, 1) := by decide +kernel
theorem dX8_widen_40 : decode cX8_widen 40 = .ok (.aaload, 1) := by decide +kernel
theorem dX8_widen_41 : decode cX8_widen 41 = .ok (.arraylength, 1) := by decide +kernel
theorem dX8_widen_42 : decode cX8_widen 42 = .ok (.imul, 1) := by decide +kernel
theorem dX8_widen_43 : decode cX8_widen 43 = .ok (.invokestatic 38, 3) := by decide +kernel
theorem dX8_widen_46 : decode cX8_widen 46 = .ok (.invokestatic 43, 3) := by decide +kernel
theorem dX8_widen_49 : decode cX8_widen 49 = .ok (.aastore, 1) := by decide +kernel
theorem dX8_widen_50 : decode cX8_widen 50 = .ok (.iinc 2 1, 3) := by decide +kernel
theorem dX8_widen_53 : decode cX8_widen 53 = .ok (.goto (-51), 3) := by decide +kernel
theorem dX8_widen_56 : decode cX8_widen 56 = .ok (.return_, 1) := by decide +kernel
theorem dX1_init_0 : decode cX1_init 0 = .ok (.aload_n 0, 1) := by decide +kernel
theorem dX1_init_1 : decode cX1_init 1 = .ok (.invokespecial 3, 3) := by decide +kernel
theorem dX1_init_4 : decode cX1_init 4 = .ok (.aload_n 0, 1) := by decide +kernel
theorem dX1_init_5 : decode cX1_init 5 = .ok (.iconst 0, 1) := by decide +kernel
theorem dX1_init_6 : decode cX1_init 6 = .ok (.putfield 9, 3) := by decide +kernel
theorem dX1_init_9 : decode cX1_init 9 = .ok (.aload_n 0, 1) := by decide +kernel
theorem dX1_init_10 : decode cX1_init 10 = .ok (.new 15, 3) := by decide +kernel
theorem dX1_init_13 : decode cX1_init 13 = .ok (.dup, 1) := by decide +kernel
theorem dX1_init_14 : decode cX1_init 14 = .ok (.bipush 9, 2) := by decide +kernel
theorem dX1_init_16 : decode cX1_init 16 = .ok (.bipush 16, 2) := by decide +kernel
theorem dX1_init_18 : decode cX1_init 18 = .ok (.invokespecial 17, 3) := by decide +kernel
theorem dX1_init_21 : decode cX1_init 21 = .ok (.putfield 20, 3) := by decide +kernel
theorem dX1_init_24 : decode cX1_init 24 = .ok (.aload_n 0, 1) := by decide +kernel
theorem dX1_init_25 : decode cX1_init 25 = .ok (.new 15, 3) := by decide +kernel
theorem dX1_init_28 : decode cX1_init 28 = .ok (.dup, 1) := by decide +kernel
theorem dX1_init_29 : decode cX1_init 29 = .ok (.iconst 3, 1) := by decide +kernel
theorem dX1_init_30 : decode cX1_init 30 = .ok (.iconst 4, 1) := by decide +kernel
theorem dX1_init_31 : decode cX1_init 31 = .ok (.invokespecial 17, 3) := by decide +kernel
theorem dX1_init_34 : decode cX1_init 34 = .ok (.putfield 24, 3) := by decide +kernel
theorem dX1_init_37 : decode cX1_init 37 = .ok (.aload_n 0, 1) := by decide +kernel
theorem dX1_init_38 : decode cX1_init 38 = .ok (.new 15, 3) := by decide +kernel
theorem dX1_init_41 : decode cX1_init 41 = .ok (.dup, 1) := by decide +kernel
theorem dX1_init_42 : decode cX1_init 42 = .ok (.bipush 9, 2) := by decide +kernel
theorem dX1_init_44 : decode cX1_init 44 = .ok (.iconst 4, 1) := by decide +kernel
theorem dX1_init_45 : decode cX1_init 45 = .ok (.invokespecial 17, 3) := by decide +kernel
theorem dX1_init_48 : decode cX1_init 48 = .ok (.putfield 27, 3) := by decide +kernel
theorem dX1_init_51 : decode cX1_init 51 = .ok (.aload_n 0, 1) := by decide +kernel
theorem dX1_init_52 : decode cX1_init 52 = .ok (.new 15, 3) := by decide +kernel
theorem dX1_init_55 : decode cX1_init 55 = .ok (.dup, 1) := by decide +kernel
theorem dX1_init_56 : decode cX1_init 56 = .ok (.iconst 4, 1) := by decide +kernel
theorem dX1_init_57 : decode cX1_init 57 = .ok (.bipush 16, 2) := by decide +kernel
theorem dX1_init_59 : decode cX1_init 59 = .ok (.invokespecial 17, 3) := by decide +kernel
theorem dX1_init_62 : decode cX1_init 62 = .ok (.putfield 30, 3) := by decide +kernel
theorem dX1_init_65 : decode cX1_init 65 = .ok (.aload_n 0, 1) := by decide +kernel
theorem dX1_init_66 : decode cX1_init 66 = .ok (.bipush 7, 2) := by decide +kernel
theorem dX1_init_68 : decode cX1_init 68 = .ok (.newarray .int, 2) := by decide +kernel
theorem dX1_init_70 : decode cX1_init 70 = .ok (.putfield 33, 3) := by decide +kernel
theorem dX1_init_73 : decode cX1_init 73 = .ok (.aload_n 0, 1) := by decide +kernel
theorem dX1_init_74 : decode cX1_init 74 = .ok (.bipush 60, 2) := by decide +kernel
theorem dX1_init_76 : decode cX1_init 76 = .ok (.newarray .int, 2) := by decide +kernel
theorem dX1_init_78 : decode cX1_init 78 = .ok (.putfield 37, 3) := by decide +kernel
theorem dX1_init_81 : decode cX1_init 81 = .ok (.aload_n 0, 1) := by decide +kernel
theorem dX1_init_82 : decode cX1_init 82 = .ok (.iconst 0, 1) := by decide +kernel
theorem dX1_init_83 : decode cX1_init 83 = .ok (.newarray .long, 2) := by decide +kernel
theorem dX1_init_85 : decode cX1_init 85 = .ok (.putfield 40, 3) := by decide +kernel
theorem dX1_init_88 : decode cX1_init 88 = .ok (.aload_n 0, 1) := by decide +kernel
theorem dX1_init_89 : decode cX1_init 89 = .ok (.getfield 37, 3) := by decide +kernel
theorem dX1_init_92 : decode cX1_init 92 = .ok (.iconst (-1), 1) := by decide +kernel
theorem dX1_init_93 : decode cX1_init 93 = .ok (.invokestatic 44, 3) := by decide +kernel
theorem dX1_init_96 : decode cX1_init 96 = .ok (.return_, 1) := by decide +kernel
theorem dX1_become_0 : decode cX1_become 0 = .ok (.aload_n 0, 1) := by decide +kernel
theorem dX1_become_1 : decode cX1_become 1 = .ok (.aload_n 1, 1) := by decide +kernel
theorem dX1_become_2 : decode cX1_become 2 = .ok (.getfield 9, 3) := by decide +kernel
theorem dX1_become_5 : decode cX1_become 5 = .ok (.putfield 9, 3) := by decide +kernel
theorem dX1_become_8 : decode cX1_become 8 = .ok (.aload_n 0, 1) := by decide +kernel
theorem dX1_become_9 : decode cX1_become 9 = .ok (.getfield 20, 3) := by decide +kernel
theorem dX1_become_12 : decode cX1_become 12 = .ok (.aload_n 1, 1) := by decide +kernel
theorem dX1_become_13 : decode cX1_become 13 = .ok (.getfield 20, 3) := by decide +kernel
theorem dX1_become_16 : decode cX1_become 16 = .ok (.invokevirtual 50, 3) := by decide +kernel
theorem dX1_become_19 : decode cX1_become 19 = .ok (.aload_n 0, 1) := by decide +kernel
theorem dX1_become_20 : decode cX1_become 20 = .ok (.getfield 24, 3) := by decide +kernel
theorem dX1_become_23 : decode cX1_become 23 = .ok (.aload_n 1, 1) := by decide +kernel
theorem dX1_become_24 : decode cX1_become 24 = .ok (.getfield 24, 3) := by decide +kernel
theorem dX1_become_27 : decode cX1_become 27 = .ok (.invokevirtual 50, 3) := by decide +kernel
theorem dX1_become_30 : decode cX1_become 30 = .ok (.aload_n 0, 1) := by decide +kernel
theorem dX1_become_31 : decode cX1_become 31 = .ok (.getfield 27, 3) := by decide +kernel
theorem dX1_become_34 : decode cX1_become 34 = .ok (.aload_n 1, 1) := by decide +kernel
theorem dX1_become_35 : decode cX1_become 35 = .ok (.getfield 27, 3) := by decide +kernel
theorem dX1_become_38 : decode cX1_become 38 = .ok (.invokevirtual 50, 3) := by decide +kernel
theorem dX1_become_41 : decode cX1_become 41 = .ok (.aload_n 0, 1) := by decide +kernel
theorem dX1_become_42 : decode cX1_become 42 = .ok (.getfield 30, 3) := by decide +kernel
theorem dX1_become_45 : decode cX1_become 45 = .ok (.aload_n 1, 1) := by decide +kernel
theorem dX1_become_46 : decode cX1_become 46 = .ok (.getfield 30, 3) := by decide +kernel
theorem dX1_become_49 : decode cX1_become 49 = .ok (.invokevirtual 50, 3) := by decide +kernel
theorem dX1_become_52 : decode cX1_become 52 = .ok (.aload_n 1, 1) := by decide +kernel
theorem dX1_become_53 : decode cX1_become 53 = .ok (.getfield 33, 3) := by decide +kernel
theorem dX1_become_56 : decode cX1_become 56 = .ok (.iconst 0, 1) := by decide +kernel
theorem dX1_become_57 : decode cX1_become 57 = .ok (.aload_n 0, 1) := by decide +kernel
theorem dX1_become_58 : decode cX1_become 58 = .ok (.getfield 33, 3) := by decide +kernel
theorem dX1_become_61 : decode cX1_become 61 = .ok (.iconst 0, 1) := by decide +kernel
theorem dX1_become_62 : decode cX1_become 62 = .ok (.bipush 7, 2) := by decide +kernel
theorem dX1_become_64 : decode cX1_become 64 = .ok (.invokestatic 54, 3) := by decide +kernel
theorem dX1_become_67 : decode cX1_become 67 = .ok (.aload_n 1, 1) := by decide +kernel
theorem dX1_become_68 : decode cX1_become 68 = .ok (.getfield 37, 3) := by decide +kernel
theorem dX1_become_71 : decode cX1_become 71 = .ok (.iconst 0, 1) := by decide +kernel
theorem dX1_become_72 : decode cX1_become 72 = .ok (.aload_n 0, 1) := by decide +kernel
theorem dX1_become_73 : decode cX1_become 73 = .ok (.getfield 37, 3) := by decide +kernel
theorem dX1_become_76 : decode cX1_become 76 = .ok (.iconst 0, 1) := by decide +kernel
theorem dX1_become_77 : decode cX1_become 77 = .ok (.bipush 60, 2) := by decide +kernel
theorem dX1_become_79 : decode cX1_become 79 = .ok (.invokestatic 54, 3) := by decide +kernel
theorem dX1_become_82 : decode cX1_become 82 = .ok (.aload_n 0, 1) := by decide +kernel
theorem dX1_become_83 : decode cX1_become 83 = .ok (.invokevirtual 60, 3) := by decide +kernel
theorem dX1_become_86 : decode cX1_become 86 = .ok (.iconst 0, 1) := by decide +kernel
theorem dX1_become_87 : decode cX1_become 87 = .ok (.istore_n 2, 1) := by decide +kernel
theorem dX1_become_88 : decode cX1_become 88 = .ok (.iload_n 2, 1) := by decide +kernel
theorem dX1_become_89 : decode cX1_become 89 = .ok (.aload_n 0, 1) := by decide +kernel
theorem dX1_become_90 : decode cX1_become 90 = .ok (.getfield 24, 3) := by decide +kernel
theorem dX1_become_93 : decode cX1_become 93 = .ok (.getfield 63, 3) := by decide +kernel
theorem dX1_become_96 : decode cX1_become 96 = .ok (.if_icmp .ge 45, 3) := by decide +kernel
theorem dX1_become_99 : decode cX1_become 99 = .ok (.iconst 0, 1) := by decide +kernel
theorem dX1_become_100 : decode cX1_become 100 = .ok (.aload_n 0, 1) := by decide +kernel
theorem dX1_become_101 : decode cX1_become 101 = .ok (.getfield 24, 3) := by decide +kernel
theorem dX1_become_104 : decode cX1_become 104 = .ok (.iload_n 2, 1) := by decide +kernel
theorem dX1_become_105 : decode cX1_become 105 = .ok (.iconst 2, 1) := by decide +kernel
theorem dX1_become_106 : decode cX1_become 106 = .ok (.invokevirtual 66, 3) := by decide +kernel
theorem dX1_become_109 : decode cX1_become 109 = .ok (.invokestatic 70, 3) := by decide +kernel
theorem dX1_become_112 : decode cX1_become 112 = .ok (.istore_n 3, 1) := by decide +kernel
theorem dX1_become_113 : decode cX1_become 113 = .ok (.aload_n 1, 1) := by decide +kernel
theorem dX1_become_114 : decode cX1_become 114 = .ok (.getfield 40, 3) := by decide +kernel
theorem dX1_become_117 : decode cX1_become 117 = .ok (.iload_n 2, 1) := by decide +kernel
theorem dX1_become_118 : decode cX1_become 118 = .ok (.sipush 200, 3) := by decide +kernel
theorem dX1_become_121 : decode cX1_become 121 = .ok (.imul, 1) := by decide +kernel
theorem dX1_become_122 : decode cX1_become 122 = .ok (.aload_n 0, 1) := by decide +kernel
theorem dX1_become_123 : decode cX1_become 123 = .ok (.getfield 40, 3) := by decide +kernel
theorem dX1_become_126 : decode cX1_become 126 = .ok (.iload_n 2, 1) := by decide +kernel
theorem dX1_become_127 : decode cX1_become 127 = .ok (.sipush 200, 3) := by decide +kernel
theorem dX1_become_130 : decode cX1_become 130 = .ok (.imul, 1) := by decide +kernel
theorem dX1_become_131 : decode cX1_become 131 = .ok (.iload_n 3, 1) := by decide +kernel
theorem dX1_become_132 : decode cX1_become 132 = .ok (.invokestatic 54, 3) := by decide +kernel
theorem dX1_become_135 : decode cX1_become 135 = .ok (.iinc 2 1, 3) := by decide +kernel
theorem dX1_become_138 : decode cX1_become 138 = .ok (.goto (-50), 3) := by decide +kernel
theorem dX1_become_141 : decode cX1_become 141 = .ok (.return_, 1) := by decide +kernel
theorem dX1_widenCells_0 : decode cX1_widenCells 0 = .ok (.aload_n 0, 1) := by decide +kernel
theorem dX1_widenCells_1 : decode cX1_widenCells 1 = .ok (.getfield 24, 3) := by decide +kernel
theorem dX1_widenCells_4 : decode cX1_widenCells 4 = .ok (.getfield 63, 3) := by decide +kernel
theorem dX1_widenCells_7 : decode cX1_widenCells 7 = .ok (.sipush 200, 3) := by decide +kernel
theorem dX1_widenCells_10 : decode cX1_widenCells 10 = .ok (.imul, 1) := by decide +kernel
theorem dX1_widenCells_11 : decode cX1_widenCells 11 = .ok (.istore_n 1, 1) := by decide +kernel
theorem dX1_widenCells_12 : decode cX1_widenCells 12 = .ok (.iload_n 1, 1) := by decide +kernel
theorem dX1_widenCells_13 : decode cX1_widenCells 13 = .ok (.aload_n 0, 1) := by decide +kernel
theorem dX1_widenCells_14 : decode cX1_widenCells 14 = .ok (.getfield 40, 3) := by decide +kernel
theorem dX1_widenCells_17 : decode cX1_widenCells 17 = .ok (.arraylength, 1) := by decide +kernel
theorem dX1_widenCells_18 : decode cX1_widenCells 18 = .ok (.if_icmp .le 25, 3) := by decide +kernel
theorem dX1_widenCells_21 : decode cX1_widenCells 21 = .ok (.aload_n 0, 1) := by decide +kernel
theorem dX1_widenCells_22 : decode cX1_widenCells 22 = .ok (.aload_n 0, 1) := by decide +kernel
theorem dX1_widenCells_23 : decode cX1_widenCells 23 = .ok (.getfield 40, 3) := by decide +kernel
theorem dX1_widenCells_26 : decode cX1_widenCells 26 = .ok (.iload_n 1, 1) := by decide +kernel
theorem dX1_widenCells_27 : decode cX1_widenCells 27 = .ok (.iconst 2, 1) := by decide +kernel
theorem dX1_widenCells_28 : decode cX1_widenCells 28 = .ok (.aload_n 0, 1) := by decide +kernel
theorem dX1_widenCells_29 : decode cX1_widenCells 29 = .ok (.getfield 40, 3) := by decide +kernel
theorem dX1_widenCells_32 : decode cX1_widenCells 32 = .ok (.arraylength, 1) := by decide +kernel
theorem dX1_widenCells_33 : decode cX1_widenCells 33 = .ok (.imul, 1) := by decide +kernel
theorem dX1_widenCells_34 : decode cX1_widenCells 34 = .ok (.invokestatic 70, 3) := by decide +kernel
theorem dX1_widenCells_37 : decode cX1_widenCells 37 = .ok (.invokestatic 75, 3) := by decide +kernel
theorem dX1_widenCells_40 : decode cX1_widenCells 40 = .ok (.putfield 40, 3) := by decide +kernel
theorem dX1_widenCells_43 : decode cX1_widenCells 43 = .ok (.return_, 1) := by decide +kernel
theorem dX1_hasCrossing_0 : decode cX1_hasCrossing 0 = .ok (.iload_n 1, 1) := by decide +kernel
theorem dX1_hasCrossing_1 : decode cX1_hasCrossing 1 = .ok (.ifCond .lt 15, 3) := by decide +kernel
theorem dX1_hasCrossing_4 : decode cX1_hasCrossing 4 = .ok (.iload_n 1, 1) := by decide +kernel
theorem dX1_hasCrossing_5 : decode cX1_hasCrossing 5 = .ok (.aload_n 0, 1) := by decide +kernel
theorem dX1_hasCrossing_6 : decode cX1_hasCrossing 6 = .ok (.getfield 9, 3) := by decide +kernel
theorem dX1_hasCrossing_9 : decode cX1_hasCrossing 9 = .ok (.if_icmp .ge 7, 3) := by decide +kernel
theorem dX1_hasCrossing_12 : decode cX1_hasCrossing 12 = .ok (.iconst 1, 1) := by decide +kernel
theorem dX1_hasCrossing_13 : decode cX1_hasCrossing 13 = .ok (.goto 4, 3) := by decide +kernel
theorem dX1_hasCrossing_16 : decode cX1_hasCrossing 16 = .ok (.iconst 0, 1) := by decide +kernel
theorem dX1_hasCrossing_17 : decode cX1_hasCrossing 17 = .ok (.ireturn, 1) := by decide +kernel
theorem dX1_hasOneWay_0 : decode cX1_hasOneWay 0 = .ok (.iconst 0, 1) := by decide +kernel
theorem dX1_hasOneWay_1 : decode cX1_hasOneWay 1 = .ok (.istore_n 1, 1) := by decide +kernel
theorem dX1_hasOneWay_2 : decode cX1_hasOneWay 2 = .ok (.iload_n 1, 1) := by decide +kernel
theorem dX1_hasOneWay_3 : decode cX1_hasOneWay 3 = .ok (.aload_n 0, 1) := by decide +kernel
theorem dX1_hasOneWay_4 : decode cX1_hasOneWay 4 = .ok (.getfield 20, 3) := by decide +kernel
theorem dX1_hasOneWay_7 : decode cX1_hasOneWay 7 = .ok (.getfield 63, 3) := by decide +kernel
theorem dX1_hasOneWay_10 : decode cX1_hasOneWay 10 = .ok (.if_icmp .ge 36, 3) := by decide +kernel
theorem dX1_hasOneWay_13 : decode cX1_hasOneWay 13 = .ok (.aload_n 0, 1) := by decide +kernel
theorem dX1_hasOneWay_14 : decode cX1_hasOneWay 14 = .ok (.getfield 20, 3) := by decide +kernel
theorem dX1_hasOneWay_17 : decode cX1_hasOneWay 17 = .ok (.iload_n 1, 1) := by decide +kernel
theorem dX1_hasOneWay_18 : decode cX1_hasOneWay 18 = .ok (.iconst 4, 1) := by decide +kernel
theorem dX1_hasOneWay_19 : decode cX1_hasOneWay 19 = .ok (.invokevirtual 66, 3) := by decide +kernel
theorem dX1_hasOneWay_22 : decode cX1_hasOneWay 22 = .ok (.ifCond .ne 18, 3) := by decide +kernel
theorem dX1_hasOneWay_25 : decode cX1_hasOneWay 25 = .ok (.aload_n 0, 1) := by decide +kernel
theorem dX1_hasOneWay_26 : decode cX1_hasOneWay 26 = .ok (.getfield 20, 3) := by decide +kernel
theorem dX1_hasOneWay_29 : decode cX1_hasOneWay 29 = .ok (.iload_n 1, 1) := by decide +kernel
theorem dX1_hasOneWay_30 : decode cX1_hasOneWay 30 = .ok (.iconst 5, 1) := by decide +kernel
theorem dX1_hasOneWay_31 : decode cX1_hasOneWay 31 = .ok (.invokevirtual 66, 3) := by decide +kernel
theorem dX1_hasOneWay_34 : decode cX1_hasOneWay 34 = .ok (.iconst 1, 1) := by decide +kernel
theorem dX1_hasOneWay_35 : decode cX1_hasOneWay 35 = .ok (.if_icmp .ne 5, 3) := by decide +kernel
theorem dX1_hasOneWay_38 : decode cX1_hasOneWay 38 = .ok (.iconst 1, 1) := by decide +kernel
theorem dX1_hasOneWay_39 : decode cX1_hasOneWay 39 = .ok (.ireturn, 1) := by decide +kernel
theorem dX1_hasOneWay_40 : decode cX1_hasOneWay 40 = .ok (.iinc 1 1, 3) := by decide +kernel
theorem dX1_hasOneWay_43 : decode cX1_hasOneWay 43 = .ok (.goto (-41), 3) := by decide +kernel
theorem dX1_hasOneWay_46 : decode cX1_hasOneWay 46 = .ok (.iconst 0, 1) := by decide +kernel
theorem dX1_hasOneWay_47 : decode cX1_hasOneWay 47 = .ok (.ireturn, 1) := by decide +kernel
theorem dX10_init_0 : decode cX10_init 0 = .ok (.aload_n 0, 1) := by decide +kernel
theorem dX10_init_1 : decode cX10_init 1 = .ok (.invokespecial 3, 3) := by decide +kernel
theorem dX10_init_4 : decode cX10_init 4 = .ok (.aload_n 0, 1) := by decide +kernel
theorem dX10_init_5 : decode cX10_init 5 = .ok (.bipush 60, 2) := by decide +kernel
theorem dX10_init_7 : decode cX10_init 7 = .ok (.bipush 60, 2) := by decide +kernel
theorem dX10_init_9 : decode cX10_init 9 = .ok (.multianewarray 9 2, 4) := by decide +kernel
theorem dX10_init_13 : decode cX10_init 13 = .ok (.putfield 11, 3) := by decide +kernel
theorem dX10_init_16 : decode cX10_init 16 = .ok (.aload_n 0, 1) := by decide +kernel
theorem dX10_init_17 : decode cX10_init 17 = .ok (.bipush 60, 2) := by decide +kernel
theorem dX10_init_19 : decode cX10_init 19 = .ok (.newarray .long, 2) := by decide +kernel
theorem dX10_init_21 : decode cX10_init 21 = .ok (.putfield 16, 3) := by decide +kernel
theorem dX10_init_24 : decode cX10_init 24 = .ok (.aload_n 0, 1) := by decide +kernel
theorem dX10_init_25 : decode cX10_init 25 = .ok (.bipush 60, 2) := by decide +kernel
theorem dX10_init_27 : decode cX10_init 27 = .ok (.bipush 60, 2) := by decide +kernel
theorem dX10_init_29 : decode cX10_init 29 = .ok (.multianewarray 9 2, 4) := by decide +kernel
theorem dX10_init_33 : decode cX10_init 33 = .ok (.putfield 20, 3) := by decide +kernel
theorem dX10_init_36 : decode cX10_init 36 = .ok (.aload_n 0, 1) := by decide +kernel
theorem dX10_init_37 : decode cX10_init 37 = .ok (.lconst 0, 1) := by decide +kernel
theorem dX10_init_38 : decode cX10_init 38 = .ok (.putfield 23, 3) := by decide +kernel
theorem dX10_init_41 : decode cX10_init 41 = .ok (.aload_n 0, 1) := by decide +kernel
theorem dX10_init_42 : decode cX10_init 42 = .ok (.iconst 0, 1) := by decide +kernel
theorem dX10_init_43 : decode cX10_init 43 = .ok (.putfield 27, 3) := by decide +kernel
theorem dX10_init_46 : decode cX10_init 46 = .ok (.aload_n 0, 1) := by decide +kernel
theorem dX10_init_47 : decode cX10_init 47 = .ok (.aload_n 1, 1) := by decide +kernel
theorem dX10_init_48 : decode cX10_init 48 = .ok (.putfield 31, 3) := by decide +kernel
theorem dX10_init_51 : decode cX10_init 51 = .ok (.return_, 1) := by decide +kernel
theorem dX10_forget_0 : decode cX10_forget 0 = .ok (.aload_n 0, 1) := by decide +kernel
theorem dX10_forget_1 : decode cX10_forget 1 = .ok (.iconst 0, 1) := by decide +kernel
theorem dX10_forget_2 : decode cX10_forget 2 = .ok (.putfield 27, 3) := by decide +kernel
theorem dX10_forget_5 : decode cX10_forget 5 = .ok (.return_, 1) := by decide +kernel
theorem dX10_prepare_0 : decode cX10_prepare 0 = .ok (.aload_n 0, 1) := by decide +kernel
theorem dX10_prepare_1 : decode cX10_prepare 1 = .ok (.getfield 27, 3) := by decide +kernel
theorem dX10_prepare_4 : decode cX10_prepare 4 = .ok (.ifCond .eq 4, 3) := by decide +kernel
theorem dX10_prepare_7 : decode cX10_prepare 7 = .ok (.return_, 1) := by decide +kernel
theorem dX10_prepare_8 : decode cX10_prepare 8 = .ok (.iconst 0, 1) := by decide +kernel
theorem dX10_prepare_9 : decode cX10_prepare 9 = .ok (.istore_n 1, 1) := by decide +kernel
theorem dX10_prepare_10 : decode cX10_prepare 10 = .ok (.iload_n 1, 1) := by decide +kernel
theorem dX10_prepare_11 : decode cX10_prepare 11 = .ok (.bipush 60, 2) := by decide +kernel
theorem dX10_prepare_13 : decode cX10_prepare 13 = .ok (.if_icmp .ge 19, 3) := by decide +kernel
theorem dX10_prepare_16 : decode cX10_prepare 16 = .ok (.aload_n 0, 1) := by decide +kernel
theorem dX10_prepare_17 : decode cX10_prepare 17 = .ok (.getfield 11, 3) := by decide +kernel
theorem dX10_prepare_20 : decode cX10_prepare 20 = .ok (.iload_n 1, 1) := by decide +kernel
theorem dX10_prepare_21 : decode cX10_prepare 21 = .ok (.aaload, 1) := by decide +kernel
theorem dX10_prepare_22 : decode cX10_prepare 22 = .ok (.iconst (-1), 1) := by decide +kernel
theorem dX10_prepare_23 : decode cX10_prepare 23 = .ok (.invokestatic 35, 3) := by decide +kernel
theorem dX10_prepare_26 : decode cX10_prepare 26 = .ok (.iinc 1 1, 3) := by decide +kernel
theorem dX10_prepare_29 : decode cX10_prepare 29 = .ok (.goto (-19), 3) := by decide +kernel
theorem dX10_prepare_32 : decode cX10_prepare 32 = .ok (.aload_n 0, 1) := by decide +kernel
theorem dX10_prepare_33 : decode cX10_prepare 33 = .ok (.getfield 16, 3) := by decide +kernel
theorem dX10_prepare_36 : decode cX10_prepare 36 = .ok (.lconst 0, 1) := by decide +kernel
theorem dX10_prepare_37 : decode cX10_prepare 37 = .ok (.invokestatic 41, 3) := by decide +kernel
theorem dX10_prepare_40 : decode cX10_prepare 40 = .ok (.iconst 0, 1) := by decide +kernel
theorem dX10_prepare_41 : decode cX10_prepare 41 = .ok (.istore_n 1, 1) := by decide +kernel
theorem dX10_prepare_42 : decode cX10_prepare 42 = .ok (.iload_n 1, 1) := by decide +kernel
theorem dX10_prepare_43 : decode cX10_prepare 43 = .ok (.aload_n 0, 1) := by decide +kernel
theorem dX10_prepare_44 : decode cX10_prepare 44 = .ok (.getfield 31, 3) := by decide +kernel
theorem dX10_prepare_47 : decode cX10_prepare 47 = .ok (.getfield 44, 3) := by decide +kernel
theorem dX10_prepare_50 : decode cX10_prepare 50 = .ok (.getfield 50, 3) := by decide +kernel
theorem dX10_prepare_53 : decode cX10_prepare 53 = .ok (.if_icmp .ge 81, 3) := by decide +kernel
theorem dX10_prepare_56 : decode cX10_prepare 56 = .ok (.aload_n 0, 1) := by decide +kernel
theorem dX10_prepare_57 : decode cX10_prepare 57 = .ok (.getfield 31, 3) := by decide +kernel
theorem dX10_prepare_60 : decode cX10_prepare 60 = .ok (.getfield 44, 3) := by decide +kernel
theorem dX10_prepare_63 : decode cX10_prepare 63 = .ok (.iload_n 1, 1) := by decide +kernel
theorem dX10_prepare_64 : decode cX10_prepare 64 = .ok (.bipush 7, 2) := by decide +kernel
theorem dX10_prepare_66 : decode cX10_prepare 66 = .ok (.invokevirtual 56, 3) := by decide +kernel
theorem dX10_prepare_69 : decode cX10_prepare 69 = .ok (.istore_n 2, 1) := by decide +kernel
theorem dX10_prepare_70 : decode cX10_prepare 70 = .ok (.aload_n 0, 1) := by decide +kernel
theorem dX10_prepare_71 : decode cX10_prepare 71 = .ok (.getfield 31, 3) := by decide +kernel
theorem dX10_prepare_74 : decode cX10_prepare 74 = .ok (.getfield 44, 3) := by decide +kernel
theorem dX10_prepare_77 : decode cX10_prepare 77 = .ok (.iload_n 1, 1) := by decide +kernel
theorem dX10_prepare_78 : decode cX10_prepare 78 = .ok (.bipush 8, 2) := by decide +kernel
theorem dX10_prepare_80 : decode cX10_prepare 80 = .ok (.invokevirtual 56, 3) := by decide +kernel
theorem dX10_prepare_83 : decode cX10_prepare 83 = .ok (.istore_n 3, 1) := by decide +kernel
theorem dX10_prepare_84 : decode cX10_prepare 84 = .ok (.aload_n 0, 1) := by decide +kernel
theorem dX10_prepare_85 : decode cX10_prepare 85 = .ok (.getfield 31, 3) := by decide +kernel
theorem dX10_prepare_88 : decode cX10_prepare 88 = .ok (.getfield 44, 3) := by decide +kernel
theorem dX10_prepare_91 : decode cX10_prepare 91 = .ok (.iload_n 1, 1) := by decide +kernel
theorem dX10_prepare_92 : decode cX10_prepare 92 = .ok (.iconst 4, 1) := by decide +kernel
theorem dX10_prepare_93 : decode cX10_prepare 93 = .ok (.invokevirtual 56, 3) := by decide +kernel
theorem dX10_prepare_96 : decode cX10_prepare 96 = .ok (.ifCond .ne 32, 3) := by decide +kernel
theorem dX10_prepare_99 : decode cX10_prepare 99 = .ok (.aload_n 0, 1) := by decide +kernel
theorem dX10_prepare_100 : decode cX10_prepare 100 = .ok (.iload_n 2, 1) := by decide +kernel
theorem dX10_prepare_101 : decode cX10_prepare 101 = .ok (.iload_n 3, 1) := by decide +kernel
theorem dX10_prepare_102 : decode cX10_prepare 102 = .ok (.iload_n 1, 1) := by decide +kernel
theorem dX10_prepare_103 : decode cX10_prepare 103 = .ok (.invokevirtual 60, 3) := by decide +kernel
theorem dX10_prepare_106 : decode cX10_prepare 106 = .ok (.aload_n 0, 1) := by decide +kernel
theorem dX10_prepare_107 : decode cX10_prepare 107 = .ok (.getfield 31, 3) := by decide +kernel
theorem dX10_prepare_110 : decode cX10_prepare 110 = .ok (.getfield 44, 3) := by decide +kernel
theorem dX10_prepare_113 : decode cX10_prepare 113 = .ok (.iload_n 1, 1) := by decide +kernel
theorem dX10_prepare_114 : decode cX10_prepare 114 = .ok (.iconst 5, 1) := by decide +kernel
theorem dX10_prepare_115 : decode cX10_prepare 115 = .ok (.invokevirtual 56, 3) := by decide +kernel
theorem dX10_prepare_118 : decode cX10_prepare 118 = .ok (.ifCond .ne 10, 3) := by decide +kernel
theorem dX10_prepare_121 : decode cX10_prepare 121 = .ok (.aload_n 0, 1) := by decide +kernel
theorem dX10_prepare_122 : decode cX10_prepare 122 = .ok (.iload_n 3, 1) := by decide +kernel
theorem dX10_prepare_123 : decode cX10_prepare 123 = .ok (.iload_n 2, 1) := by decide +kernel
theorem dX10_prepare_124 : decode cX10_prepare 124 = .ok (.iload_n 1, 1) := by decide +kernel
theorem dX10_prepare_125 : decode cX10_prepare 125 = .ok (.invokevirtual 60, 3) := by decide +kernel
theorem dX10_prepare_128 : decode cX10_prepare 128 = .ok (.iinc 1 1, 3) := by decide +kernel
theorem dX10_prepare_131 : decode cX10_prepare 131 = .ok (.goto (-89), 3) := by decide +kernel
theorem dX10_prepare_134 : decode cX10_prepare 134 = .ok (.aload_n 0, 1) := by decide +kernel
theorem dX10_prepare_135 : decode cX10_prepare 135 = .ok (.lconst 0, 1) := by decide +kernel
theorem dX10_prepare_136 : decode cX10_prepare 136 = .ok (.putfield 23, 3) := by decide +kernel
theorem dX10_prepare_139 : decode cX10_prepare 139 = .ok (.aload_n 0, 1) := by decide +kernel
theorem dX10_prepare_140 : decode cX10_prepare 140 = .ok (.iconst 1, 1) := by decide +kernel
theorem dX10_prepare_141 : decode cX10_prepare 141 = .ok (.putfield 27, 3) := by decide +kernel
theorem dX10_prepare_144 : decode cX10_prepare 144 = .ok (.return_, 1) := by decide +kernel
theorem dX10_measureEach_0 : decode cX10_measureEach 0 = .ok (.aload_n 0, 1) := by decide +kernel
theorem dX10_measureEach_1 : decode cX10_measureEach 1 = .ok (.invokevirtual 64, 3) := by decide +kernel
theorem dX10_measureEach_4 : decode cX10_measureEach 4 = .ok (.iconst 0, 1) := by decide +kernel
theorem dX10_measureEach_5 : decode cX10_measureEach 5 = .ok (.istore_n 3, 1) := by decide +kernel
theorem dX10_measureEach_6 : decode cX10_measureEach 6 = .ok (.iload_n 3, 1) := by decide +kernel
theorem dX10_measureEach_7 : decode cX10_measureEach 7 = .ok (.aload_n 0, 1) := by decide +kernel
theorem dX10_measureEach_8 : decode cX10_measureEach 8 = .ok (.getfield 31, 3) := by decide +kernel
theorem dX10_measureEach_11 : decode cX10_measureEach 11 = .ok (.getfield 67, 3) := by decide +kernel
theorem dX10_measureEach_14 : decode cX10_measureEach 14 = .ok (.if_icmp .ge 39, 3) := by decide +kernel
theorem dX10_measureEach_17 : decode cX10_measureEach 17 = .ok (.iload_n 3, 1) := by decide +kernel
theorem dX10_measureEach_18 : decode cX10_measureEach 18 = .ok (.bipush 60, 2) := by decide +kernel
theorem dX10_measureEach_20 : decode cX10_measureEach 20 = .ok (.if_icmp .ge 33, 3) := by decide +kernel
theorem dX10_measureEach_23 : decode cX10_measureEach 23 = .ok (.lload_n 1, 1) := by decide +kernel
theorem dX10_measureEach_24 : decode cX10_measureEach 24 = .ok (.aload_n 0, 1) := by decide +kernel
theorem dX10_measureEach_25 : decode cX10_measureEach 25 = .ok (.getfield 23, 3) := by decide +kernel
theorem dX10_measureEach_28 : decode cX10_measureEach 28 = .ok (.ldc2_w 70, 3) := by decide +kernel
theorem dX10_measureEach_31 : decode cX10_measureEach 31 = .ok (.lxor, 1) := by decide +kernel
theorem dX10_measureEach_32 : decode cX10_measureEach 32 = .ok (.land, 1) := by decide +kernel
theorem dX10_measureEach_33 : decode cX10_measureEach 33 = .ok (.iload_n 3, 1) := by decide +kernel
theorem dX10_measureEach_34 : decode cX10_measureEach 34 = .ok (.lshr, 1) := by decide +kernel
theorem dX10_measureEach_35 : decode cX10_measureEach 35 = .ok (.lconst 1, 1) := by decide +kernel
theorem dX10_measureEach_36 : decode cX10_measureEach 36 = .ok (.land, 1) := by decide +kernel
theorem dX10_measureEach_37 : decode cX10_measureEach 37 = .ok (.lconst 1, 1) := by decide +kernel
theorem dX10_measureEach_38 : decode cX10_measureEach 38 = .ok (.lcmp, 1) := by decide +kernel
theorem dX10_measureEach_39 : decode cX10_measureEach 39 = .ok (.ifCond .ne 8, 3) := by decide +kernel
theorem dX10_measureEach_42 : decode cX10_measureEach 42 = .ok (.aload_n 0, 1) := by decide +kernel
theorem dX10_measureEach_43 : decode cX10_measureEach 43 = .ok (.iload_n 3, 1) := by decide +kernel
theorem dX10_measureEach_44 : decode cX10_measureEach 44 = .ok (.invokevirtual 72, 3) := by decide +kernel
theorem dX10_measureEach_47 : decode cX10_measureEach 47 = .ok (.iinc 3 1, 3) := by decide +kernel
theorem dX10_measureEach_50 : decode cX10_measureEach 50 = .ok (.goto (-44), 3) := by decide +kernel
theorem dX10_measureEach_53 : decode cX10_measureEach 53 = .ok (.aload_n 0, 1) := by decide +kernel
theorem dX10_measureEach_54 : decode cX10_measureEach 54 = .ok (.dup, 1) := by decide +kernel
theorem dX10_measureEach_55 : decode cX10_measureEach 55 = .ok (.getfield 23, 3) := by decide +kernel
theorem dX10_measureEach_58 : decode cX10_measureEach 58 = .ok (.lload_n 1, 1) := by decide +kernel
theorem dX10_measureEach_59 : decode cX10_measureEach 59 = .ok (.lor, 1) := by decide +kernel
theorem dX10_measureEach_60 : decode cX10_measureEach 60 = .ok (.putfield 23, 3) := by decide +kernel
theorem dX10_measureEach_63 : decode cX10_measureEach 63 = .ok (.return_, 1) := by decide +kernel
theorem dX4_init_0 : decode cX4_init 0 = .ok (.aload_n 0, 1) := by decide +kernel
theorem dX4_init_1 : decode cX4_init 1 = .ok (.invokespecial 3, 3) := by decide +kernel
theorem dX4_init_4 : decode cX4_init 4 = .ok (.aload_n 0, 1) := by decide +kernel
theorem dX4_init_5 : decode cX4_init 5 = .ok (.bipush 60, 2) := by decide +kernel
theorem dX4_init_7 : decode cX4_init 7 = .ok (.newarray .int, 2) := by decide +kernel
theorem dX4_init_9 : decode cX4_init 9 = .ok (.putfield 9, 3) := by decide +kernel
theorem dX4_init_12 : decode cX4_init 12 = .ok (.aload_n 0, 1) := by decide +kernel
theorem dX4_init_13 : decode cX4_init 13 = .ok (.iconst 0, 1) := by decide +kernel
theorem dX4_init_14 : decode cX4_init 14 = .ok (.putfield 15, 3) := by decide +kernel
theorem dX4_init_17 : decode cX4_init 17 = .ok (.aload_n 0, 1) := by decide +kernel
theorem dX4_init_18 : decode cX4_init 18 = .ok (.iconst 0, 1) := by decide +kernel
theorem dX4_init_19 : decode cX4_init 19 = .ok (.putfield 19, 3) := by decide +kernel
theorem dX4_init_22 : decode cX4_init 22 = .ok (.aload_n 0, 1) := by decide +kernel
theorem dX4_init_23 : decode cX4_init 23 = .ok (.bipush 14, 2) := by decide +kernel
theorem dX4_init_25 : decode cX4_init 25 = .ok (.bipush 14, 2) := by decide +kernel
theorem dX4_init_27 : decode cX4_init 27 = .ok (.multianewarray 23 2, 4) := by decide +kernel
theorem dX4_init_31 : decode cX4_init 31 = .ok (.putfield 25, 3) := by decide +kernel
theorem dX4_init_34 : decode cX4_init 34 = .ok (.aload_n 0, 1) := by decide +kernel
theorem dX4_init_35 : decode cX4_init 35 = .ok (.iconst 1, 1) := by decide +kernel
theorem dX4_init_36 : decode cX4_init 36 = .ok (.newarray .int, 2) := by decide +kernel
theorem dX4_init_38 : decode cX4_init 38 = .ok (.putfield 28, 3) := by decide +kernel
theorem dX4_init_41 : decode cX4_init 41 = .ok (.aload_n 0, 1) := by decide +kernel
theorem dX4_init_42 : decode cX4_init 42 = .ok (.iconst 0, 1) := by decide +kernel
theorem dX4_init_43 : decode cX4_init 43 = .ok (.putfield 31, 3) := by decide +kernel
theorem dX4_init_46 : decode cX4_init 46 = .ok (.aload_n 0, 1) := by decide +kernel
theorem dX4_init_47 : decode cX4_init 47 = .ok (.bipush 30, 2) := by decide +kernel
theorem dX4_init_49 : decode cX4_init 49 = .ok (.newarray .int, 2) := by decide +kernel
theorem dX4_init_51 : decode cX4_init 51 = .ok (.putfield 34, 3) := by decide +kernel
theorem dX4_init_54 : decode cX4_init 54 = .ok (.aload_n 0, 1) := by decide +kernel
theorem dX4_init_55 : decode cX4_init 55 = .ok (.bipush 30, 2) := by decide +kernel
theorem dX4_init_57 : decode cX4_init 57 = .ok (.newarray .int, 2) := by decide +kernel
theorem dX4_init_59 : decode cX4_init 59 = .ok (.putfield 37, 3) := by decide +kernel
theorem dX4_init_62 : decode cX4_init 62 = .ok (.aload_n 0, 1) := by decide +kernel
theorem dX4_init_63 : decode cX4_init 63 = .ok (.iconst 0, 1) := by decide +kernel
theorem dX4_init_64 : decode cX4_init 64 = .ok (.putfield 40, 3) := by decide +kernel
theorem dX4_init_67 : decode cX4_init 67 = .ok (.aload_n 0, 1) := by decide +kernel
theorem dX4_init_68 : decode cX4_init 68 = .ok (.iconst 0, 1) := by decide +kernel
theorem dX4_init_69 : decode cX4_init 69 = .ok (.putfield 43, 3) := by decide +kernel
theorem dX4_init_72 : decode cX4_init 72 = .ok (.aload_n 0, 1) := by decide +kernel
theorem dX4_init_73 : decode cX4_init 73 = .ok (.aload_n 1, 1) := by decide +kernel
theorem dX4_init_74 : decode cX4_init 74 = .ok (.putfield 46, 3) := by decide +kernel
theorem dX4_init_77 : decode cX4_init 77 = .ok (.aload_n 0, 1) := by decide +kernel
theorem dX4_init_78 : decode cX4_init 78 = .ok (.aload_n 2, 1) := by decide +kernel
theorem dX4_init_79 : decode cX4_init 79 = .ok (.putfield 50, 3) := by decide +kernel
theorem dX4_init_82 : decode cX4_init 82 = .ok (.return_, 1) := by decide +kernel
theorem dX4_forget_0 : decode cX4_forget 0 = .ok (.aload_n 0, 1) := by decide +kernel
theorem dX4_forget_1 : decode cX4_forget 1 = .ok (.iconst 0, 1) := by decide +kernel
theorem dX4_forget_2 : decode cX4_forget 2 = .ok (.putfield 19, 3) := by decide +kernel
theorem dX4_forget_5 : decode cX4_forget 5 = .ok (.aload_n 0, 1) := by decide +kernel
theorem dX4_forget_6 : decode cX4_forget 6 = .ok (.iconst 0, 1) := by decide +kernel
theorem dX4_forget_7 : decode cX4_forget 7 = .ok (.putfield 31, 3) := by decide +kernel
theorem dX4_forget_10 : decode cX4_forget 10 = .ok (.return_, 1) := by decide +kernel
theorem dX4_list_0 : decode cX4_list 0 = .ok (.aload_n 0, 1) := by decide +kernel
theorem dX4_list_1 : decode cX4_list 1 = .ok (.getfield 19, 3) := by decide +kernel
theorem dX4_list_4 : decode cX4_list 4 = .ok (.ifCond .eq 8, 3) := by decide +kernel
theorem dX4_list_7 : decode cX4_list 7 = .ok (.aload_n 0, 1) := by decide +kernel
theorem dX4_list_8 : decode cX4_list 8 = .ok (.getfield 15, 3) := by decide +kernel
theorem dX4_list_11 : decode cX4_list 11 = .ok (.ireturn, 1) := by decide +kernel
theorem dX4_list_12 : decode cX4_list 12 = .ok (.aload_n 0, 1) := by decide +kernel
theorem dX4_list_13 : decode cX4_list 13 = .ok (.invokevirtual 54, 3) := by decide +kernel
theorem dX4_list_16 : decode cX4_list 16 = .ok (.lstore_n 1, 1) := by decide +kernel
theorem dX4_list_17 : decode cX4_list 17 = .ok (.aload_n 0, 1) := by decide +kernel
theorem dX4_list_18 : decode cX4_list 18 = .ok (.iconst 0, 1) := by decide +kernel
theorem dX4_list_19 : decode cX4_list 19 = .ok (.putfield 15, 3) := by decide +kernel
theorem dX4_list_22 : decode cX4_list 22 = .ok (.iconst 0, 1) := by decide +kernel
theorem dX4_list_23 : decode cX4_list 23 = .ok (.istore_n 3, 1) := by decide +kernel
theorem dX4_list_24 : decode cX4_list 24 = .ok (.iload_n 3, 1) := by decide +kernel
theorem dX4_list_25 : decode cX4_list 25 = .ok (.bipush 60, 2) := by decide +kernel
theorem dX4_list_27 : decode cX4_list 27 = .ok (.if_icmp .ge 39, 3) := by decide +kernel
theorem dX4_list_30 : decode cX4_list 30 = .ok (.lload_n 1, 1) := by decide +kernel
theorem dX4_list_31 : decode cX4_list 31 = .ok (.iload_n 3, 1) := by decide +kernel
theorem dX4_list_32 : decode cX4_list 32 = .ok (.lshr, 1) := by decide +kernel
theorem dX4_list_33 : decode cX4_list 33 = .ok (.lconst 1, 1) := by decide +kernel
theorem dX4_list_34 : decode cX4_list 34 = .ok (.land, 1) := by decide +kernel
theorem dX4_list_35 : decode cX4_list 35 = .ok (.lconst 1, 1) := by decide +kernel
theorem dX4_list_36 : decode cX4_list 36 = .ok (.lcmp, 1) := by decide +kernel
theorem dX4_list_37 : decode cX4_list 37 = .ok (.ifCond .ne 23, 3) := by decide +kernel
theorem dX4_list_40 : decode cX4_list 40 = .ok (.aload_n 0, 1) := by decide +kernel
theorem dX4_list_41 : decode cX4_list 41 = .ok (.getfield 9, 3) := by decide +kernel
theorem dX4_list_44 : decode cX4_list 44 = .ok (.aload_n 0, 1) := by decide +kernel
theorem dX4_list_45 : decode cX4_list 45 = .ok (.getfield 15, 3) := by decide +kernel
theorem dX4_list_48 : decode cX4_list 48 = .ok (.iload_n 3, 1) := by decide +kernel
theorem dX4_list_49 : decode cX4_list 49 = .ok (.iastore, 1) := by decide +kernel
theorem dX4_list_50 : decode cX4_list 50 = .ok (.aload_n 0, 1) := by decide +kernel
theorem dX4_list_51 : decode cX4_list 51 = .ok (.dup, 1) := by decide +kernel
theorem dX4_list_52 : decode cX4_list 52 = .ok (.getfield 15, 3) := by decide +kernel
theorem dX4_list_55 : decode cX4_list 55 = .ok (.iconst 1, 1) := by decide +kernel
theorem dX4_list_56 : decode cX4_list 56 = .ok (.iadd, 1) := by decide +kernel
theorem dX4_list_57 : decode cX4_list 57 = .ok (.putfield 15, 3) := by decide +kernel
theorem dX4_list_60 : decode cX4_list 60 = .ok (.iinc 3 1, 3) := by decide +kernel
theorem dX4_list_63 : decode cX4_list 63 = .ok (.goto (-39), 3) := by decide +kernel
theorem dX4_list_66 : decode cX4_list 66 = .ok (.aload_n 0, 1) := by decide +kernel
theorem dX4_list_67 : decode cX4_list 67 = .ok (.iconst 1, 1) := by decide +kernel
theorem dX4_list_68 : decode cX4_list 68 = .ok (.putfield 19, 3) := by decide +kernel
theorem dX4_list_71 : decode cX4_list 71 = .ok (.aload_n 0, 1) := by decide +kernel
theorem dX4_list_72 : decode cX4_list 72 = .ok (.getfield 15, 3) := by decide +kernel
theorem dX4_list_75 : decode cX4_list 75 = .ok (.ireturn, 1) := by decide +kernel
theorem dX4_oddBits_0 : decode cX4_oddBits 0 = .ok (.lconst 0, 1) := by decide +kernel
theorem dX4_oddBits_1 : decode cX4_oddBits 1 = .ok (.lstore_n 1, 1) := by decide +kernel
theorem dX4_oddBits_2 : decode cX4_oddBits 2 = .ok (.iconst 0, 1) := by decide +kernel
theorem dX4_oddBits_3 : decode cX4_oddBits 3 = .ok (.istore_n 3, 1) := by decide +kernel
theorem dX4_oddBits_4 : decode cX4_oddBits 4 = .ok (.iload_n 3, 1) := by decide +kernel
theorem dX4_oddBits_5 : decode cX4_oddBits 5 = .ok (.aload_n 0, 1) := by decide +kernel
theorem dX4_oddBits_6 : decode cX4_oddBits 6 = .ok (.getfield 46, 3) := by decide +kernel
theorem dX4_oddBits_9 : decode cX4_oddBits 9 = .ok (.getfield 58, 3) := by decide +kernel
theorem dX4_oddBits_12 : decode cX4_oddBits 12 = .ok (.getfield 64, 3) := by decide +kernel
theorem dX4_oddBits_15 : decode cX4_oddBits 15 = .ok (.if_icmp .ge 57, 3) := by decide +kernel
theorem dX4_oddBits_18 : decode cX4_oddBits 18 = .ok (.aload_n 0, 1) := by decide +kernel
theorem dX4_oddBits_19 : decode cX4_oddBits 19 = .ok (.getfield 46, 3) := by decide +kernel
theorem dX4_oddBits_22 : decode cX4_oddBits 22 = .ok (.iload_n 3, 1) := by decide +kernel
theorem dX4_oddBits_23 : decode cX4_oddBits 23 = .ok (.invokevirtual 69, 3) := by decide +kernel
theorem dX4_oddBits_26 : decode cX4_oddBits 26 = .ok (.iconst 1, 1) := by decide +kernel
theorem dX4_oddBits_27 : decode cX4_oddBits 27 = .ok (.if_icmp .ne 39, 3) := by decide +kernel
theorem dX4_oddBits_30 : decode cX4_oddBits 30 = .ok (.lload_n 1, 1) := by decide +kernel
theorem dX4_oddBits_31 : decode cX4_oddBits 31 = .ok (.lconst 1, 1) := by decide +kernel
theorem dX4_oddBits_32 : decode cX4_oddBits 32 = .ok (.aload_n 0, 1) := by decide +kernel
theorem dX4_oddBits_33 : decode cX4_oddBits 33 = .ok (.getfield 46, 3) := by decide +kernel
theorem dX4_oddBits_36 : decode cX4_oddBits 36 = .ok (.getfield 58, 3) := by decide +kernel
theorem dX4_oddBits_39 : decode cX4_oddBits 39 = .ok (.iload_n 3, 1) := by decide +kernel
theorem dX4_oddBits_40 : decode cX4_oddBits 40 = .ok (.bipush 7, 2) := by decide +kernel
theorem dX4_oddBits_42 : decode cX4_oddBits 42 = .ok (.invokevirtual 73, 3) := by decide +kernel
theorem dX4_oddBits_45 : decode cX4_oddBits 45 = .ok (.lshl, 1) := by decide +kernel
theorem dX4_oddBits_46 : decode cX4_oddBits 46 = .ok (.lxor, 1) := by decide +kernel
theorem dX4_oddBits_47 : decode cX4_oddBits 47 = .ok (.lstore_n 1, 1) := by decide +kernel
theorem dX4_oddBits_48 : decode cX4_oddBits 48 = .ok (.lload_n 1, 1) := by decide +kernel
theorem dX4_oddBits_49 : decode cX4_oddBits 49 = .ok (.lconst 1, 1) := by decide +kernel
theorem dX4_oddBits_50 : decode cX4_oddBits 50 = .ok (.aload_n 0, 1) := by decide +kernel
theorem dX4_oddBits_51 : decode cX4_oddBits 51 = .ok (.getfield 46, 3) := by decide +kernel
theorem dX4_oddBits_54 : decode cX4_oddBits 54 = .ok (.getfield 58, 3) := by decide +kernel
theorem dX4_oddBits_57 : decode cX4_oddBits 57 = .ok (.iload_n 3, 1) := by decide +kernel
theorem dX4_oddBits_58 : decode cX4_oddBits 58 = .ok (.bipush 8, 2) := by decide +kernel
theorem dX4_oddBits_60 : decode cX4_oddBits 60 = .ok (.invokevirtual 73, 3) := by decide +kernel
theorem dX4_oddBits_63 : decode cX4_oddBits 63 = .ok (.lshl, 1) := by decide +kernel
theorem dX4_oddBits_64 : decode cX4_oddBits 64 = .ok (.lxor, 1) := by decide +kernel
theorem dX4_oddBits_65 : decode cX4_oddBits 65 = .ok (.lstore_n 1, 1) := by decide +kernel
theorem dX4_oddBits_66 : decode cX4_oddBits 66 = .ok (.iinc 3 1, 3) := by decide +kernel
theorem dX4_oddBits_69 : decode cX4_oddBits 69 = .ok (.goto (-65), 3) := by decide +kernel
theorem dX4_oddBits_72 : decode cX4_oddBits 72 = .ok (.lload_n 1, 1) := by decide +kernel
theorem dX4_oddBits_73 : decode cX4_oddBits 73 = .ok (.lreturn, 1) := by decide +kernel
theorem dX4_oddAt_0 : decode cX4_oddAt 0 = .ok (.iload_n 1, 1) := by decide +kernel
theorem dX4_oddAt_1 : decode cX4_oddAt 1 = .ok (.ifCond .lt 20, 3) := by decide +kernel
theorem dX4_oddAt_4 : decode cX4_oddAt 4 = .ok (.iload_n 1, 1) := by decide +kernel
theorem dX4_oddAt_5 : decode cX4_oddAt 5 = .ok (.aload_n 0, 1) := by decide +kernel
theorem dX4_oddAt_6 : decode cX4_oddAt 6 = .ok (.getfield 15, 3) := by decide +kernel
theorem dX4_oddAt_9 : decode cX4_oddAt 9 = .ok (.if_icmp .ge 12, 3) := by decide +kernel
theorem dX4_oddAt_12 : decode cX4_oddAt 12 = .ok (.aload_n 0, 1) := by decide +kernel
theorem dX4_oddAt_13 : decode cX4_oddAt 13 = .ok (.getfield 9, 3) := by decide +kernel
theorem dX4_oddAt_16 : decode cX4_oddAt 16 = .ok (.iload_n 1, 1) := by decide +kernel
theorem dX4_oddAt_17 : decode cX4_oddAt 17 = .ok (.iaload, 1) := by decide +kernel
theorem dX4_oddAt_18 : decode cX4_oddAt 18 = .ok (.goto 4, 3) := by decide +kernel
theorem dX4_oddAt_21 : decode cX4_oddAt 21 = .ok (.iconst (-1), 1) := by decide +kernel
theorem dX4_oddAt_22 : decode cX4_oddAt 22 = .ok (.ireturn, 1) := by decide +kernel
theorem dX4_leastOf_0 : decode cX4_leastOf 0 = .ok (.iload_n 1, 1) := by decide +kernel
theorem dX4_leastOf_1 : decode cX4_leastOf 1 = .ok (.ifCond .lt 21, 3) := by decide +kernel
theorem dX4_leastOf_4 : decode cX4_leastOf 4 = .ok (.iload_n 1, 1) := by decide +kernel
theorem dX4_leastOf_5 : decode cX4_leastOf 5 = .ok (.aload_n 0, 1) := by decide +kernel
theorem dX4_leastOf_6 : decode cX4_leastOf 6 = .ok (.getfield 28, 3) := by decide +kernel
theorem dX4_leastOf_9 : decode cX4_leastOf 9 = .ok (.arraylength, 1) := by decide +kernel
theorem dX4_leastOf_10 : decode cX4_leastOf 10 = .ok (.if_icmp .ge 12, 3) := by decide +kernel
theorem dX4_leastOf_13 : decode cX4_leastOf 13 = .ok (.aload_n 0, 1) := by decide +kernel
theorem dX4_leastOf_14 : decode cX4_leastOf 14 = .ok (.getfield 28, 3) := by decide +kernel
theorem dX4_leastOf_17 : decode cX4_leastOf 17 = .ok (.iload_n 1, 1) := by decide +kernel
theorem dX4_leastOf_18 : decode cX4_leastOf 18 = .ok (.iaload, 1) := by decide +kernel
theorem dX4_leastOf_19 : decode cX4_leastOf 19 = .ok (.goto 5, 3) := by decide +kernel
theorem dX4_leastOf_22 : decode cX4_leastOf 22 = .ok (.ldc 77, 2) := by decide +kernel
theorem dX4_leastOf_24 : decode cX4_leastOf 24 = .ok (.ireturn, 1) := by decide +kernel
theorem dX4_fillTable_0 : decode cX4_fillTable 0 = .ok (.aload_n 0, 1) := by decide +kernel
theorem dX4_fillTable_1 : decode cX4_fillTable 1 = .ok (.getfield 31, 3) := by decide +kernel
theorem dX4_fillTable_4 : decode cX4_fillTable 4 = .ok (.ifCond .ne 12, 3) := by decide +kernel
theorem dX4_fillTable_7 : decode cX4_fillTable 7 = .ok (.aload_n 0, 1) := by decide +kernel
theorem dX4_fillTable_8 : decode cX4_fillTable 8 = .ok (.getfield 15, 3) := by decide +kernel
theorem dX4_fillTable_11 : decode cX4_fillTable 11 = .ok (.bipush 14, 2) := by decide +kernel
theorem dX4_fillTable_13 : decode cX4_fillTable 13 = .ok (.if_icmp .le 4, 3) := by decide +kernel
theorem dX4_fillTable_16 : decode cX4_fillTable 16 = .ok (.return_, 1) := by decide +kernel
theorem dX4_fillTable_17 : decode cX4_fillTable 17 = .ok (.iconst 0, 1) := by decide +kernel
theorem dX4_fillTable_18 : decode cX4_fillTable 18 = .ok (.istore_n 1, 1) := by decide +kernel
theorem dX4_fillTable_19 : decode cX4_fillTable 19 = .ok (.iload_n 1, 1) := by decide +kernel
theorem dX4_fillTable_20 : decode cX4_fillTable 20 = .ok (.aload_n 0, 1) := by decide +kernel
theorem dX4_fillTable_21 : decode cX4_fillTable 21 = .ok (.getfield 15, 3) := by decide +kernel
theorem dX4_fillTable_24 : decode cX4_fillTable 24 = .ok (.if_icmp .ge 54, 3) := by decide +kernel
theorem dX4_fillTable_27 : decode cX4_fillTable 27 = .ok (.iload_n 1, 1) := by decide +kernel
theorem dX4_fillTable_28 : decode cX4_fillTable 28 = .ok (.iconst 1, 1) := by decide +kernel
theorem dX4_fillTable_29 : decode cX4_fillTable 29 = .ok (.iadd, 1) := by decide +kernel
theorem dX4_fillTable_30 : decode cX4_fillTable 30 = .ok (.istore_n 2, 1) := by decide +kernel
theorem dX4_fillTable_31 : decode cX4_fillTable 31 = .ok (.iload_n 2, 1) := by decide +kernel
theorem dX4_fillTable_32 : decode cX4_fillTable 32 = .ok (.aload_n 0, 1) := by decide +kernel
theorem dX4_fillTable_33 : decode cX4_fillTable 33 = .ok (.getfield 15, 3) := by decide +kernel
theorem dX4_fillTable_36 : decode cX4_fillTable 36 = .ok (.if_icmp .ge 36, 3) := by decide +kernel
theorem dX4_fillTable_39 : decode cX4_fillTable 39 = .ok (.aload_n 0, 1) := by decide +kernel
theorem dX4_fillTable_40 : decode cX4_fillTable 40 = .ok (.getfield 25, 3) := by decide +kernel
theorem dX4_fillTable_43 : decode cX4_fillTable 43 = .ok (.iload_n 1, 1) := by decide +kernel
theorem dX4_fillTable_44 : decode cX4_fillTable 44 = .ok (.aaload, 1) := by decide +kernel
theorem dX4_fillTable_45 : decode cX4_fillTable 45 = .ok (.iload_n 2, 1) := by decide +kernel
theorem dX4_fillTable_46 : decode cX4_fillTable 46 = .ok (.aload_n 0, 1) := by decide +kernel
theorem dX4_fillTable_47 : decode cX4_fillTable 47 = .ok (.getfield 50, 3) := by decide +kernel
theorem dX4_fillTable_50 : decode cX4_fillTable 50 = .ok (.aload_n 0, 1) := by decide +kernel
theorem dX4_fillTable_51 : decode cX4_fillTable 51 = .ok (.getfield 9, 3) := by decide +kernel
theorem dX4_fillTable_54 : decode cX4_fillTable 54 = .ok (.iload_n 1, 1) := by decide +kernel
theorem dX4_fillTable_55 : decode cX4_fillTable 55 = .ok (.iaload, 1) := by decide +kernel
theorem dX4_fillTable_56 : decode cX4_fillTable 56 = .ok (.aload_n 0, 1) := by decide +kernel
theorem dX4_fillTable_57 : decode cX4_fillTable 57 = .ok (.getfield 9, 3) := by decide +kernel
theorem dX4_fillTable_60 : decode cX4_fillTable 60 = .ok (.iload_n 2, 1) := by decide +kernel
theorem dX4_fillTable_61 : decode cX4_fillTable 61 = .ok (.iaload, 1) := by decide +kernel
theorem dX4_fillTable_62 : decode cX4_fillTable 62 = .ok (.invokevirtual 78, 3) := by decide +kernel
theorem dX4_fillTable_65 : decode cX4_fillTable 65 = .ok (.iastore, 1) := by decide +kernel
theorem dX4_fillTable_66 : decode cX4_fillTable 66 = .ok (.iinc 2 1, 3) := by decide +kernel
theorem dX4_fillTable_69 : decode cX4_fillTable 69 = .ok (.goto (-38), 3) := by decide +kernel
theorem dX4_fillTable_72 : decode cX4_fillTable 72 = .ok (.iinc 1 1, 3) := by decide +kernel
theorem dX4_fillTable_75 : decode cX4_fillTable 75 = .ok (.goto (-56), 3) := by decide +kernel
theorem dX4_fillTable_78 : decode cX4_fillTable 78 = .ok (.iconst 1, 1) := by decide +kernel
theorem dX4_fillTable_79 : decode cX4_fillTable 79 = .ok (.aload_n 0, 1) := by decide +kernel
theorem dX4_fillTable_80 : decode cX4_fillTable 80 = .ok (.getfield 15, 3) := by decide +kernel
theorem dX4_fillTable_83 : decode cX4_fillTable 83 = .ok (.ishl, 1) := by decide +kernel
theorem dX4_fillTable_84 : decode cX4_fillTable 84 = .ok (.istore_n 1, 1) := by decide +kernel
theorem dX4_fillTable_85 : decode cX4_fillTable 85 = .ok (.iload_n 1, 1) := by decide +kernel
theorem dX4_fillTable_86 : decode cX4_fillTable 86 = .ok (.aload_n 0, 1) := by decide +kernel
theorem dX4_fillTable_87 : decode cX4_fillTable 87 = .ok (.getfield 28, 3) := by decide +kernel
theorem dX4_fillTable_90 : decode cX4_fillTable 90 = .ok (.arraylength, 1) := by decide +kernel
theorem dX4_fillTable_91 : decode cX4_fillTable 91 = .ok (.if_icmp .le 10, 3) := by decide +kernel
theorem dX4_fillTable_94 : decode cX4_fillTable 94 = .ok (.aload_n 0, 1) := by decide +kernel
theorem dX4_fillTable_95 : decode cX4_fillTable 95 = .ok (.iload_n 1, 1) := by decide +kernel
theorem dX4_fillTable_96 : decode cX4_fillTable 96 = .ok (.newarray .int, 2) := by decide +kernel
theorem dX4_fillTable_98 : decode cX4_fillTable 98 = .ok (.putfield 28, 3) := by decide +kernel
theorem dX4_fillTable_101 : decode cX4_fillTable 101 = .ok (.aload_n 0, 1) := by decide +kernel
theorem dX4_fillTable_102 : decode cX4_fillTable 102 = .ok (.getfield 28, 3) := by decide +kernel
theorem dX4_fillTable_105 : decode cX4_fillTable 105 = .ok (.iconst 0, 1) := by decide +kernel
theorem dX4_fillTable_106 : decode cX4_fillTable 106 = .ok (.iconst 0, 1) := by decide +kernel
theorem dX4_fillTable_107 : decode cX4_fillTable 107 = .ok (.iastore, 1) := by decide +kernel
theorem dX4_fillTable_108 : decode cX4_fillTable 108 = .ok (.iconst 1, 1) := by decide +kernel
theorem dX4_fillTable_109 : decode cX4_fillTable 109 = .ok (.istore_n 2, 1) := by decide +kernel
theorem dX4_fillTable_110 : decode cX4_fillTable 110 = .ok (.iload_n 2, 1) := by decide +kernel
theorem dX4_fillTable_111 : decode cX4_fillTable 111 = .ok (.iload_n 1, 1) := by decide +kernel
theorem dX4_fillTable_112 : decode cX4_fillTable 112 = .ok (.if_icmp .ge 34, 3) := by decide +kernel
theorem dX4_fillTable_115 : decode cX4_fillTable 115 = .ok (.aload_n 0, 1) := by decide +kernel
theorem dX4_fillTable_116 : decode cX4_fillTable 116 = .ok (.getfield 28, 3) := by decide +kernel
theorem dX4_fillTable_119 : decode cX4_fillTable 119 = .ok (.iload_n 2, 1) := by decide +kernel
theorem dX4_fillTable_120 : decode cX4_fillTable 120 = .ok (.iload_n 2, 1) := by decide +kernel
theorem dX4_fillTable_121 : decode cX4_fillTable 121 = .ok (.invokestatic 83, 3) := by decide +kernel
theorem dX4_fillTable_124 : decode cX4_fillTable 124 = .ok (.iconst 2, 1) := by decide +kernel
theorem dX4_fillTable_125 : decode cX4_fillTable 125 = .ok (.irem, 1) := by decide +kernel
theorem dX4_fillTable_126 : decode cX4_fillTable 126 = .ok (.ifCond .ne 11, 3) := by decide +kernel
theorem dX4_fillTable_129 : decode cX4_fillTable 129 = .ok (.aload_n 0, 1) := by decide +kernel
theorem dX4_fillTable_130 : decode cX4_fillTable 130 = .ok (.iload_n 2, 1) := by decide +kernel
theorem dX4_fillTable_131 : decode cX4_fillTable 131 = .ok (.invokevirtual 88, 3) := by decide +kernel
theorem dX4_fillTable_134 : decode cX4_fillTable 134 = .ok (.goto 5, 3) := by decide +kernel
theorem dX4_fillTable_137 : decode cX4_fillTable 137 = .ok (.ldc 77, 2) := by decide +kernel
theorem dX4_fillTable_139 : decode cX4_fillTable 139 = .ok (.iastore, 1) := by decide +kernel
theorem dX4_fillTable_140 : decode cX4_fillTable 140 = .ok (.iinc 2 1, 3) := by decide +kernel
theorem dX4_fillTable_143 : decode cX4_fillTable 143 = .ok (.goto (-33), 3) := by decide +kernel
theorem dX4_fillTable_146 : decode cX4_fillTable 146 = .ok (.aload_n 0, 1) := by decide +kernel
theorem dX4_fillTable_147 : decode cX4_fillTable 147 = .ok (.iconst 1, 1) := by decide +kernel
theorem dX4_fillTable_148 : decode cX4_fillTable 148 = .ok (.putfield 31, 3) := by decide +kernel
theorem dX4_fillTable_151 : decode cX4_fillTable 151 = .ok (.return_, 1) := by decide +kernel
theorem dX4_pairUp_0 : decode cX4_pairUp 0 = .ok (.aload_n 0, 1) := by decide +kernel
theorem dX4_pairUp_1 : decode cX4_pairUp 1 = .ok (.invokevirtual 100, 3) := by decide +kernel
theorem dX4_pairUp_4 : decode cX4_pairUp 4 = .ok (.pop, 1) := by decide +kernel
theorem dX4_pairUp_5 : decode cX4_pairUp 5 = .ok (.aload_n 0, 1) := by decide +kernel
theorem dX4_pairUp_6 : decode cX4_pairUp 6 = .ok (.iconst 0, 1) := by decide +kernel
theorem dX4_pairUp_7 : decode cX4_pairUp 7 = .ok (.putfield 40, 3) := by decide +kernel
theorem dX4_pairUp_10 : decode cX4_pairUp 10 = .ok (.aload_n 0, 1) := by decide +kernel
theorem dX4_pairUp_11 : decode cX4_pairUp 11 = .ok (.iconst 0, 1) := by decide +kernel
theorem dX4_pairUp_12 : decode cX4_pairUp 12 = .ok (.putfield 43, 3) := by decide +kernel
theorem dX4_pairUp_15 : decode cX4_pairUp 15 = .ok (.aload_n 0, 1) := by decide +kernel
theorem dX4_pairUp_16 : decode cX4_pairUp 16 = .ok (.getfield 15, 3) := by decide +kernel
theorem dX4_pairUp_19 : decode cX4_pairUp 19 = .ok (.bipush 14, 2) := by decide +kernel
theorem dX4_pairUp_21 : decode cX4_pairUp 21 = .ok (.if_icmp .gt 14, 3) := by decide +kernel
theorem dX4_pairUp_24 : decode cX4_pairUp 24 = .ok (.aload_n 0, 1) := by decide +kernel
theorem dX4_pairUp_25 : decode cX4_pairUp 25 = .ok (.invokevirtual 104, 3) := by decide +kernel
theorem dX4_pairUp_28 : decode cX4_pairUp 28 = .ok (.aload_n 0, 1) := by decide +kernel
theorem dX4_pairUp_29 : decode cX4_pairUp 29 = .ok (.invokevirtual 107, 3) := by decide +kernel
theorem dX4_pairUp_32 : decode cX4_pairUp 32 = .ok (.goto 11, 3) := by decide +kernel
theorem dX4_pairUp_35 : decode cX4_pairUp 35 = .ok (.aload_n 0, 1) := by decide +kernel
theorem dX4_pairUp_36 : decode cX4_pairUp 36 = .ok (.invokevirtual 110, 3) := by decide +kernel
theorem dX4_pairUp_39 : decode cX4_pairUp 39 = .ok (.aload_n 0, 1) := by decide +kernel
theorem dX4_pairUp_40 : decode cX4_pairUp 40 = .ok (.invokevirtual 113, 3) := by decide +kernel
theorem dX4_pairUp_43 : decode cX4_pairUp 43 = .ok (.return_, 1) := by decide +kernel
theorem dX4_pairExactly_0 : decode cX4_pairExactly 0 = .ok (.iconst 1, 1) := by decide +kernel
theorem dX4_pairExactly_1 : decode cX4_pairExactly 1 = .ok (.aload_n 0, 1) := by decide +kernel
theorem dX4_pairExactly_2 : decode cX4_pairExactly 2 = .ok (.getfield 15, 3) := by decide +kernel
theorem dX4_pairExactly_5 : decode cX4_pairExactly 5 = .ok (.ishl, 1) := by decide +kernel
theorem dX4_pairExactly_6 : decode cX4_pairExactly 6 = .ok (.iconst 1, 1) := by decide +kernel
theorem dX4_pairExactly_7 : decode cX4_pairExactly 7 = .ok (.isub, 1) := by decide +kernel
theorem dX4_pairExactly_8 : decode cX4_pairExactly 8 = .ok (.istore_n 1, 1) := by decide +kernel
theorem dX4_pairExactly_9 : decode cX4_pairExactly 9 = .ok (.iconst 0, 1) := by decide +kernel
theorem dX4_pairExactly_10 : decode cX4_pairExactly 10 = .ok (.istore_n 2, 1) := by decide +kernel
theorem dX4_pairExactly_11 : decode cX4_pairExactly 11 = .ok (.iload_n 2, 1) := by decide +kernel
theorem dX4_pairExactly_12 : decode cX4_pairExactly 12 = .ok (.bipush 14, 2) := by decide +kernel
theorem dX4_pairExactly_14 : decode cX4_pairExactly 14 = .ok (.if_icmp .ge 55, 3) := by decide +kernel
theorem dX4_pairExactly_17 : decode cX4_pairExactly 17 = .ok (.iload_n 1, 1) := by decide +kernel
theorem dX4_pairExactly_18 : decode cX4_pairExactly 18 = .ok (.ifCond .eq 51, 3) := by decide +kernel
theorem dX4_pairExactly_21 : decode cX4_pairExactly 21 = .ok (.aload_n 0, 1) := by decide +kernel
theorem dX4_pairExactly_22 : decode cX4_pairExactly 22 = .ok (.iload_n 1, 1) := by decide +kernel
theorem dX4_pairExactly_23 : decode cX4_pairExactly 23 = .ok (.invokevirtual 116, 3) := by decide +kernel
theorem dX4_pairExactly_26 : decode cX4_pairExactly 26 = .ok (.istore_n 3, 1) := by decide +kernel
theorem dX4_pairExactly_27 : decode cX4_pairExactly 27 = .ok (.iload_n 3, 1) := by decide +kernel
theorem dX4_pairExactly_28 : decode cX4_pairExactly 28 = .ok (.iconst (-1), 1) := by decide +kernel
theorem dX4_pairExactly_29 : decode cX4_pairExactly 29 = .ok (.if_icmp .ne 4, 3) := by decide +kernel
theorem dX4_pairExactly_32 : decode cX4_pairExactly 32 = .ok (.return_, 1) := by decide +kernel
theorem dX4_pairExactly_33 : decode cX4_pairExactly 33 = .ok (.aload_n 0, 1) := by decide +kernel
theorem dX4_pairExactly_34 : decode cX4_pairExactly 34 = .ok (.aload_n 0, 1) := by decide +kernel
theorem dX4_pairExactly_35 : decode cX4_pairExactly 35 = .ok (.getfield 9, 3) := by decide +kernel
theorem dX4_pairExactly_38 : decode cX4_pairExactly 38 = .ok (.iload_n 1, 1) := by decide +kernel
theorem dX4_pairExactly_39 : decode cX4_pairExactly 39 = .ok (.i2l, 1) := by decide +kernel
theorem dX4_pairExactly_40 : decode cX4_pairExactly 40 = .ok (.invokestatic 91, 3) := by decide +kernel
theorem dX4_pairExactly_43 : decode cX4_pairExactly 43 = .ok (.iaload, 1) := by decide +kernel
theorem dX4_pairExactly_44 : decode cX4_pairExactly 44 = .ok (.aload_n 0, 1) := by decide +kernel
theorem dX4_pairExactly_45 : decode cX4_pairExactly 45 = .ok (.getfield 9, 3) := by decide +kernel
theorem dX4_pairExactly_48 : decode cX4_pairExactly 48 = .ok (.iload_n 3, 1) := by decide +kernel
theorem dX4_pairExactly_49 : decode cX4_pairExactly 49 = .ok (.iaload, 1) := by decide +kernel
theorem dX4_pairExactly_50 : decode cX4_pairExactly 50 = .ok (.invokevirtual 119, 3) := by decide +kernel
theorem dX4_pairExactly_53 : decode cX4_pairExactly 53 = .ok (.iload_n 1, 1) := by decide +kernel
theorem dX4_pairExactly_54 : decode cX4_pairExactly 54 = .ok (.iload_n 1, 1) := by decide +kernel
theorem dX4_pairExactly_55 : decode cX4_pairExactly 55 = .ok (.iconst 1, 1) := by decide +kernel
theorem dX4_pairExactly_56 : decode cX4_pairExactly 56 = .ok (.isub, 1) := by decide +kernel
theorem dX4_pairExactly_57 : decode cX4_pairExactly 57 = .ok (.iand, 1) := by decide +kernel
theorem dX4_pairExactly_58 : decode cX4_pairExactly 58 = .ok (.iconst 1, 1) := by decide +kernel
theorem dX4_pairExactly_59 : decode cX4_pairExactly 59 = .ok (.iload_n 3, 1) := by decide +kernel
theorem dX4_pairExactly_60 : decode cX4_pairExactly 60 = .ok (.ishl, 1) := by decide +kernel
theorem dX4_pairExactly_61 : decode cX4_pairExactly 61 = .ok (.ixor, 1) := by decide +kernel
theorem dX4_pairExactly_62 : decode cX4_pairExactly 62 = .ok (.istore_n 1, 1) := by decide +kernel
theorem dX4_pairExactly_63 : decode cX4_pairExactly 63 = .ok (.iinc 2 1, 3) := by decide +kernel
theorem dX4_pairExactly_66 : decode cX4_pairExactly 66 = .ok (.goto (-55), 3) := by decide +kernel
theorem dX4_pairExactly_69 : decode cX4_pairExactly 69 = .ok (.return_, 1) := by decide +kernel
theorem dX5_init_0 : decode cX5_init 0 = .ok (.aload_n 0, 1) := by decide +kernel
theorem dX5_init_1 : decode cX5_init 1 = .ok (.invokespecial 3, 3) := by decide +kernel
theorem dX5_init_4 : decode cX5_init 4 = .ok (.aload_n 0, 1) := by decide +kernel
theorem dX5_init_5 : decode cX5_init 5 = .ok (.new 9, 3) := by decide +kernel
theorem dX5_init_8 : decode cX5_init 8 = .ok (.dup, 1) := by decide +kernel
theorem dX5_init_9 : decode cX5_init 9 = .ok (.iconst 4, 1) := by decide +kernel
theorem dX5_init_10 : decode cX5_init 10 = .ok (.bipush 16, 2) := by decide +kernel
theorem dX5_init_12 : decode cX5_init 12 = .ok (.invokespecial 11, 3) := by decide +kernel
theorem dX5_init_15 : decode cX5_init 15 = .ok (.putfield 14, 3) := by decide +kernel
theorem dX5_init_18 : decode cX5_init 18 = .ok (.aload_n 0, 1) := by decide +kernel
theorem dX5_init_19 : decode cX5_init 19 = .ok (.bipush 7, 2) := by decide +kernel
theorem dX5_init_21 : decode cX5_init 21 = .ok (.newarray .int, 2) := by decide +kernel
theorem dX5_init_23 : decode cX5_init 23 = .ok (.putfield 20, 3) := by decide +kernel
theorem dX5_init_26 : decode cX5_init 26 = .ok (.aload_n 0, 1) := by decide +kernel
theorem dX5_init_27 : decode cX5_init 27 = .ok (.bipush 60, 2) := by decide +kernel
theorem dX5_init_29 : decode cX5_init 29 = .ok (.newarray .int, 2) := by decide +kernel
theorem dX5_init_31 : decode cX5_init 31 = .ok (.putfield 24, 3) := by decide +kernel
theorem dX5_init_34 : decode cX5_init 34 = .ok (.aload_n 0, 1) := by decide +kernel
theorem dX5_init_35 : decode cX5_init 35 = .ok (.sipush 150, 3) := by decide +kernel
theorem dX5_init_38 : decode cX5_init 38 = .ok (.newarray .int, 2) := by decide +kernel
theorem dX5_init_40 : decode cX5_init 40 = .ok (.putfield 27, 3) := by decide +kernel
theorem dX5_init_43 : decode cX5_init 43 = .ok (.aload_n 0, 1) := by decide +kernel
theorem dX5_init_44 : decode cX5_init 44 = .ok (.sipush 150, 3) := by decide +kernel
theorem dX5_init_47 : decode cX5_init 47 = .ok (.newarray .int, 2) := by decide +kernel
theorem dX5_init_49 : decode cX5_init 49 = .ok (.putfield 30, 3) := by decide +kernel
theorem dX5_init_52 : decode cX5_init 52 = .ok (.aload_n 0, 1) := by decide +kernel
theorem dX5_init_53 : decode cX5_init 53 = .ok (.iconst 0, 1) := by decide +kernel
theorem dX5_init_54 : decode cX5_init 54 = .ok (.putfield 33, 3) := by decide +kernel
theorem dX5_init_57 : decode cX5_init 57 = .ok (.aload_n 0, 1) := by decide +kernel
theorem dX5_init_58 : decode cX5_init 58 = .ok (.sipush 150, 3) := by decide +kernel
theorem dX5_init_61 : decode cX5_init 61 = .ok (.newarray .int, 2) := by decide +kernel
theorem dX5_init_63 : decode cX5_init 63 = .ok (.putfield 37, 3) := by decide +kernel
theorem dX5_init_66 : decode cX5_init 66 = .ok (.aload_n 0, 1) := by decide +kernel
theorem dX5_init_67 : decode cX5_init 67 = .ok (.sipush 150, 3) := by decide +kernel
theorem dX5_init_70 : decode cX5_init 70 = .ok (.newarray .int, 2) := by decide +kernel
theorem dX5_init_72 : decode cX5_init 72 = .ok (.putfield 40, 3) := by decide +kernel
theorem dX5_init_75 : decode cX5_init 75 = .ok (.aload_n 0, 1) := by decide +kernel
theorem dX5_init_76 : decode cX5_init 76 = .ok (.bipush 60, 2) := by decide +kernel
theorem dX5_init_78 : decode cX5_init 78 = .ok (.newarray .long, 2) := by decide +kernel
theorem dX5_init_80 : decode cX5_init 80 = .ok (.putfield 43, 3) := by decide +kernel
theorem dX5_init_83 : decode cX5_init 83 = .ok (.aload_n 0, 1) := by decide +kernel
theorem dX5_init_84 : decode cX5_init 84 = .ok (.iconst 0, 1) := by decide +kernel
theorem dX5_init_85 : decode cX5_init 85 = .ok (.putfield 47, 3) := by decide +kernel
theorem dX5_init_88 : decode cX5_init 88 = .ok (.aload_n 0, 1) := by decide +kernel
theorem dX5_init_89 : decode cX5_init 89 = .ok (.aload_n 1, 1) := by decide +kernel
theorem dX5_init_90 : decode cX5_init 90 = .ok (.putfield 50, 3) := by decide +kernel
theorem dX5_init_93 : decode cX5_init 93 = .ok (.aload_n 0, 1) := by decide +kernel
theorem dX5_init_94 : decode cX5_init 94 = .ok (.aload_n 2, 1) := by decide +kernel
theorem dX5_init_95 : decode cX5_init 95 = .ok (.putfield 54, 3) := by decide +kernel
theorem dX5_init_98 : decode cX5_init 98 = .ok (.aload_n 0, 1) := by decide +kernel
theorem dX5_init_99 : decode cX5_init 99 = .ok (.aload_n 3, 1) := by decide +kernel
theorem dX5_init_100 : decode cX5_init 100 = .ok (.putfield 58, 3) := by decide +kernel
theorem dX5_init_103 : decode cX5_init 103 = .ok (.return_, 1) := by decide +kernel
theorem dX5_handTo_0 : decode cX5_handTo 0 = .ok (.aload_n 0, 1) := by decide +kernel
theorem dX5_handTo_1 : decode cX5_handTo 1 = .ok (.getfield 20, 3) := by decide +kernel
theorem dX5_handTo_4 : decode cX5_handTo 4 = .ok (.iconst 0, 1) := by decide +kernel
theorem dX5_handTo_5 : decode cX5_handTo 5 = .ok (.aload_n 0, 1) := by decide +kernel
theorem dX5_handTo_6 : decode cX5_handTo 6 = .ok (.getfield 14, 3) := by decide +kernel
theorem dX5_handTo_9 : decode cX5_handTo 9 = .ok (.getfield 62, 3) := by decide +kernel
theorem dX5_handTo_12 : decode cX5_handTo 12 = .ok (.iastore, 1) := by decide +kernel
theorem dX5_handTo_13 : decode cX5_handTo 13 = .ok (.aload_n 1, 1) := by decide +kernel
theorem dX5_handTo_14 : decode cX5_handTo 14 = .ok (.getfield 65, 3) := by decide +kernel
theorem dX5_handTo_17 : decode cX5_handTo 17 = .ok (.aload_n 0, 1) := by decide +kernel
theorem dX5_handTo_18 : decode cX5_handTo 18 = .ok (.getfield 14, 3) := by decide +kernel
theorem dX5_handTo_21 : decode cX5_handTo 21 = .ok (.invokevirtual 68, 3) := by decide +kernel
theorem dX5_handTo_24 : decode cX5_handTo 24 = .ok (.aload_n 0, 1) := by decide +kernel
theorem dX5_handTo_25 : decode cX5_handTo 25 = .ok (.getfield 20, 3) := by decide +kernel
theorem dX5_handTo_28 : decode cX5_handTo 28 = .ok (.iconst 0, 1) := by decide +kernel
theorem dX5_handTo_29 : decode cX5_handTo 29 = .ok (.aload_n 1, 1) := by decide +kernel
theorem dX5_handTo_30 : decode cX5_handTo 30 = .ok (.getfield 72, 3) := by decide +kernel
theorem dX5_handTo_33 : decode cX5_handTo 33 = .ok (.iconst 0, 1) := by decide +kernel
theorem dX5_handTo_34 : decode cX5_handTo 34 = .ok (.bipush 7, 2) := by decide +kernel
theorem dX5_handTo_36 : decode cX5_handTo 36 = .ok (.invokestatic 73, 3) := by decide +kernel
theorem dX5_handTo_39 : decode cX5_handTo 39 = .ok (.aload_n 0, 1) := by decide +kernel
theorem dX5_handTo_40 : decode cX5_handTo 40 = .ok (.getfield 24, 3) := by decide +kernel
theorem dX5_handTo_43 : decode cX5_handTo 43 = .ok (.iconst 0, 1) := by decide +kernel
theorem dX5_handTo_44 : decode cX5_handTo 44 = .ok (.aload_n 1, 1) := by decide +kernel
theorem dX5_handTo_45 : decode cX5_handTo 45 = .ok (.getfield 79, 3) := by decide +kernel
theorem dX5_handTo_48 : decode cX5_handTo 48 = .ok (.iconst 0, 1) := by decide +kernel
theorem dX5_handTo_49 : decode cX5_handTo 49 = .ok (.bipush 60, 2) := by decide +kernel
theorem dX5_handTo_51 : decode cX5_handTo 51 = .ok (.invokestatic 73, 3) := by decide +kernel
theorem dX5_handTo_54 : decode cX5_handTo 54 = .ok (.return_, 1) := by decide +kernel
theorem dX5_begin_0 : decode cX5_begin 0 = .ok (.aload_n 0, 1) := by decide +kernel
theorem dX5_begin_1 : decode cX5_begin 1 = .ok (.getfield 14, 3) := by decide +kernel
theorem dX5_begin_4 : decode cX5_begin 4 = .ok (.iconst 0, 1) := by decide +kernel
theorem dX5_begin_5 : decode cX5_begin 5 = .ok (.putfield 62, 3) := by decide +kernel
theorem dX5_begin_8 : decode cX5_begin 8 = .ok (.aload_n 0, 1) := by decide +kernel
theorem dX5_begin_9 : decode cX5_begin 9 = .ok (.iconst 0, 1) := by decide +kernel
theorem dX5_begin_10 : decode cX5_begin 10 = .ok (.putfield 47, 3) := by decide +kernel
theorem dX5_begin_13 : decode cX5_begin 13 = .ok (.aload_n 0, 1) := by decide +kernel
theorem dX5_begin_14 : decode cX5_begin 14 = .ok (.getfield 20, 3) := by decide +kernel
theorem dX5_begin_17 : decode cX5_begin 17 = .ok (.iconst 0, 1) := by decide +kernel
theorem dX5_begin_18 : decode cX5_begin 18 = .ok (.invokestatic 80, 3) := by decide +kernel
theorem dX5_begin_21 : decode cX5_begin 21 = .ok (.aload_n 0, 1) := by decide +kernel
theorem dX5_begin_22 : decode cX5_begin 22 = .ok (.getfield 20, 3) := by decide +kernel
theorem dX5_begin_25 : decode cX5_begin 25 = .ok (.bipush 6, 2) := by decide +kernel
theorem dX5_begin_27 : decode cX5_begin 27 = .ok (.iload_n 1, 1) := by decide +kernel
theorem dX5_begin_28 : decode cX5_begin 28 = .ok (.iastore, 1) := by decide +kernel
theorem dX5_begin_29 : decode cX5_begin 29 = .ok (.aload_n 0, 1) := by decide +kernel
theorem dX5_begin_30 : decode cX5_begin 30 = .ok (.getfield 24, 3) := by decide +kernel
theorem dX5_begin_33 : decode cX5_begin 33 = .ok (.iconst (-1), 1) := by decide +kernel
theorem dX5_begin_34 : decode cX5_begin 34 = .ok (.invokestatic 80, 3) := by decide +kernel
theorem dX5_begin_37 : decode cX5_begin 37 = .ok (.aload_n 0, 1) := by decide +kernel
theorem dX5_begin_38 : decode cX5_begin 38 = .ok (.aload_n 0, 1) := by decide +kernel
theorem dX5_begin_39 : decode cX5_begin 39 = .ok (.getfield 50, 3) := by decide +kernel
theorem dX5_begin_42 : decode cX5_begin 42 = .ok (.getfield 86, 3) := by decide +kernel
theorem dX5_begin_45 : decode cX5_begin 45 = .ok (.getfield 62, 3) := by decide +kernel
theorem dX5_begin_48 : decode cX5_begin 48 = .ok (.sipush 150, 3) := by decide +kernel
theorem dX5_begin_51 : decode cX5_begin 51 = .ok (.invokestatic 88, 3) := by decide +kernel
theorem dX5_begin_54 : decode cX5_begin 54 = .ok (.putfield 33, 3) := by decide +kernel
theorem dX5_begin_57 : decode cX5_begin 57 = .ok (.iconst 0, 1) := by decide +kernel
theorem dX5_begin_58 : decode cX5_begin 58 = .ok (.istore_n 2, 1) := by decide +kernel
theorem dX5_begin_59 : decode cX5_begin 59 = .ok (.iload_n 2, 1) := by decide +kernel
theorem dX5_begin_60 : decode cX5_begin 60 = .ok (.aload_n 0, 1) := by decide +kernel
theorem dX5_begin_61 : decode cX5_begin 61 = .ok (.getfield 33, 3) := by decide +kernel
theorem dX5_begin_64 : decode cX5_begin 64 = .ok (.if_icmp .ge 73, 3) := by decide +kernel
theorem dX5_begin_67 : decode cX5_begin 67 = .ok (.aload_n 0, 1) := by decide +kernel
theorem dX5_begin_68 : decode cX5_begin 68 = .ok (.getfield 27, 3) := by decide +kernel
theorem dX5_begin_71 : decode cX5_begin 71 = .ok (.iload_n 2, 1) := by decide +kernel
theorem dX5_begin_72 : decode cX5_begin 72 = .ok (.aload_n 0, 1) := by decide +kernel
theorem dX5_begin_73 : decode cX5_begin 73 = .ok (.getfield 50, 3) := by decide +kernel
theorem dX5_begin_76 : decode cX5_begin 76 = .ok (.getfield 86, 3) := by decide +kernel
theorem dX5_begin_79 : decode cX5_begin 79 = .ok (.iload_n 2, 1) := by decide +kernel
theorem dX5_begin_80 : decode cX5_begin 80 = .ok (.bipush 7, 2) := by decide +kernel
theorem dX5_begin_82 : decode cX5_begin 82 = .ok (.invokevirtual 94, 3) := by decide +kernel
theorem dX5_begin_85 : decode cX5_begin 85 = .ok (.iastore, 1) := by decide +kernel
theorem dX5_begin_86 : decode cX5_begin 86 = .ok (.aload_n 0, 1) := by decide +kernel
theorem dX5_begin_87 : decode cX5_begin 87 = .ok (.getfield 30, 3) := by decide +kernel
theorem dX5_begin_90 : decode cX5_begin 90 = .ok (.iload_n 2, 1) := by decide +kernel
theorem dX5_begin_91 : decode cX5_begin 91 = .ok (.aload_n 0, 1) := by decide +kernel
theorem dX5_begin_92 : decode cX5_begin 92 = .ok (.getfield 50, 3) := by decide +kernel
theorem dX5_begin_95 : decode cX5_begin 95 = .ok (.getfield 86, 3) := by decide +kernel
theorem dX5_begin_98 : decode cX5_begin 98 = .ok (.iload_n 2, 1) := by decide +kernel
theorem dX5_begin_99 : decode cX5_begin 99 = .ok (.bipush 8, 2) := by decide +kernel
theorem dX5_begin_101 : decode cX5_begin 101 = .ok (.invokevirtual 94, 3) := by decide +kernel
theorem dX5_begin_104 : decode cX5_begin 104 = .ok (.iastore, 1) := by decide +kernel
theorem dX5_begin_105 : decode cX5_begin 105 = .ok (.aload_n 0, 1) := by decide +kernel
theorem dX5_begin_106 : decode cX5_begin 106 = .ok (.getfield 40, 3) := by decide +kernel
theorem dX5_begin_109 : decode cX5_begin 109 = .ok (.iload_n 2, 1) := by decide +kernel
theorem dX5_begin_110 : decode cX5_begin 110 = .ok (.aload_n 0, 1) := by decide +kernel
theorem dX5_begin_111 : decode cX5_begin 111 = .ok (.getfield 50, 3) := by decide +kernel
theorem dX5_begin_114 : decode cX5_begin 114 = .ok (.iload_n 2, 1) := by decide +kernel
theorem dX5_begin_115 : decode cX5_begin 115 = .ok (.invokevirtual 97, 3) := by decide +kernel
theorem dX5_begin_118 : decode cX5_begin 118 = .ok (.iastore, 1) := by decide +kernel
theorem dX5_begin_119 : decode cX5_begin 119 = .ok (.aload_n 0, 1) := by decide +kernel
theorem dX5_begin_120 : decode cX5_begin 120 = .ok (.getfield 37, 3) := by decide +kernel
theorem dX5_begin_123 : decode cX5_begin 123 = .ok (.iload_n 2, 1) := by decide +kernel
theorem dX5_begin_124 : decode cX5_begin 124 = .ok (.aload_n 0, 1) := by decide +kernel
theorem dX5_begin_125 : decode cX5_begin 125 = .ok (.getfield 40, 3) := by decide +kernel
theorem dX5_begin_128 : decode cX5_begin 128 = .ok (.iload_n 2, 1) := by decide +kernel
theorem dX5_begin_129 : decode cX5_begin 129 = .ok (.iaload, 1) := by decide +kernel
theorem dX5_begin_130 : decode cX5_begin 130 = .ok (.iastore, 1) := by decide +kernel
theorem dX5_begin_131 : decode cX5_begin 131 = .ok (.iinc 2 1, 3) := by decide +kernel
theorem dX5_begin_134 : decode cX5_begin 134 = .ok (.goto (-75), 3) := by decide +kernel
theorem dX5_begin_137 : decode cX5_begin 137 = .ok (.return_, 1) := by decide +kernel
theorem dX5_planBothWays_0 : decode cX5_planBothWays 0 = .ok (.aload_n 0, 1) := by decide +kernel
theorem dX5_planBothWays_1 : decode cX5_planBothWays 1 = .ok (.iconst 1, 1) := by decide +kernel
theorem dX5_planBothWays_2 : decode cX5_planBothWays 2 = .ok (.invokevirtual 109, 3) := by decide +kernel
theorem dX5_planBothWays_5 : decode cX5_planBothWays 5 = .ok (.aload_n 0, 1) := by decide +kernel
theorem dX5_planBothWays_6 : decode cX5_planBothWays 6 = .ok (.invokevirtual 113, 3) := by decide +kernel
theorem dX5_planBothWays_9 : decode cX5_planBothWays 9 = .ok (.lstore_n 1, 1) := by decide +kernel
theorem dX5_planBothWays_10 : decode cX5_planBothWays 10 = .ok (.aload_n 0, 1) := by decide +kernel
theorem dX5_planBothWays_11 : decode cX5_planBothWays 11 = .ok (.getfield 54, 3) := by decide +kernel
theorem dX5_planBothWays_14 : decode cX5_planBothWays 14 = .ok (.lload_n 1, 1) := by decide +kernel
theorem dX5_planBothWays_15 : decode cX5_planBothWays 15 = .ok (.aload_n 0, 1) := by decide +kernel
theorem dX5_planBothWays_16 : decode cX5_planBothWays 16 = .ok (.iconst 0, 1) := by decide +kernel
theorem dX5_planBothWays_17 : decode cX5_planBothWays 17 = .ok (.invokevirtual 117, 3) := by decide +kernel
theorem dX5_planBothWays_20 : decode cX5_planBothWays 20 = .ok (.ldc2_w 121, 3) := by decide +kernel
theorem dX5_planBothWays_23 : decode cX5_planBothWays 23 = .ok (.lxor, 1) := by decide +kernel
theorem dX5_planBothWays_24 : decode cX5_planBothWays 24 = .ok (.land, 1) := by decide +kernel
theorem dX5_planBothWays_25 : decode cX5_planBothWays 25 = .ok (.aload_n 0, 1) := by decide +kernel
theorem dX5_planBothWays_26 : decode cX5_planBothWays 26 = .ok (.getfield 58, 3) := by decide +kernel
theorem dX5_planBothWays_29 : decode cX5_planBothWays 29 = .ok (.invokevirtual 123, 3) := by decide +kernel
theorem dX5_planBothWays_32 : decode cX5_planBothWays 32 = .ok (.lor, 1) := by decide +kernel
theorem dX5_planBothWays_33 : decode cX5_planBothWays 33 = .ok (.invokevirtual 128, 3) := by decide +kernel
theorem dX5_planBothWays_36 : decode cX5_planBothWays 36 = .ok (.aload_n 0, 1) := by decide +kernel
theorem dX5_planBothWays_37 : decode cX5_planBothWays 37 = .ok (.invokevirtual 134, 3) := by decide +kernel
theorem dX5_planBothWays_40 : decode cX5_planBothWays 40 = .ok (.ifCond .ne 6, 3) := by decide +kernel
theorem dX5_planBothWays_43 : decode cX5_planBothWays 43 = .ok (.bipush (-8), 2) := by decide +kernel
theorem dX5_planBothWays_45 : decode cX5_planBothWays 45 = .ok (.ireturn, 1) := by decide +kernel
theorem dX5_planBothWays_46 : decode cX5_planBothWays 46 = .ok (.aload_n 0, 1) := by decide +kernel
theorem dX5_planBothWays_47 : decode cX5_planBothWays 47 = .ok (.getfield 58, 3) := by decide +kernel
theorem dX5_planBothWays_50 : decode cX5_planBothWays 50 = .ok (.invokevirtual 138, 3) := by decide +kernel
theorem dX5_planBothWays_53 : decode cX5_planBothWays 53 = .ok (.aload_n 0, 1) := by decide +kernel
theorem dX5_planBothWays_54 : decode cX5_planBothWays 54 = .ok (.invokevirtual 141, 3) := by decide +kernel
theorem dX5_planBothWays_57 : decode cX5_planBothWays 57 = .ok (.iconst 0, 1) := by decide +kernel
theorem dX5_planBothWays_58 : decode cX5_planBothWays 58 = .ok (.istore_n 3, 1) := by decide +kernel
theorem dX5_planBothWays_59 : decode cX5_planBothWays 59 = .ok (.iconst 0, 1) := by decide +kernel
theorem dX5_planBothWays_60 : decode cX5_planBothWays 60 = .ok (.istore 4, 2) := by decide +kernel
theorem dX5_planBothWays_62 : decode cX5_planBothWays 62 = .ok (.iload 4, 2) := by decide +kernel
theorem dX5_planBothWays_64 : decode cX5_planBothWays 64 = .ok (.aload_n 0, 1) := by decide +kernel
theorem dX5_planBothWays_65 : decode cX5_planBothWays 65 = .ok (.getfield 33, 3) := by decide +kernel
theorem dX5_planBothWays_68 : decode cX5_planBothWays 68 = .ok (.if_icmp .ge 19, 3) := by decide +kernel
theorem dX5_planBothWays_71 : decode cX5_planBothWays 71 = .ok (.iload_n 3, 1) := by decide +kernel
theorem dX5_planBothWays_72 : decode cX5_planBothWays 72 = .ok (.aload_n 0, 1) := by decide +kernel
theorem dX5_planBothWays_73 : decode cX5_planBothWays 73 = .ok (.getfield 37, 3) := by decide +kernel
theorem dX5_planBothWays_76 : decode cX5_planBothWays 76 = .ok (.iload 4, 2) := by decide +kernel
theorem dX5_planBothWays_78 : decode cX5_planBothWays 78 = .ok (.iaload, 1) := by decide +kernel
theorem dX5_planBothWays_79 : decode cX5_planBothWays 79 = .ok (.iadd, 1) := by decide +kernel
theorem dX5_planBothWays_80 : decode cX5_planBothWays 80 = .ok (.istore_n 3, 1) := by decide +kernel
theorem dX5_planBothWays_81 : decode cX5_planBothWays 81 = .ok (.iinc 4 1, 3) := by decide +kernel
theorem dX5_planBothWays_84 : decode cX5_planBothWays 84 = .ok (.goto (-22), 3) := by decide +kernel
theorem dX5_planBothWays_87 : decode cX5_planBothWays 87 = .ok (.iload_n 3, 1) := by decide +kernel
theorem dX5_planBothWays_88 : decode cX5_planBothWays 88 = .ok (.sipush 2000, 3) := by decide +kernel
theorem dX5_planBothWays_91 : decode cX5_planBothWays 91 = .ok (.if_icmp .le 6, 3) := by decide +kernel
theorem dX5_planBothWays_94 : decode cX5_planBothWays 94 = .ok (.bipush (-3), 2) := by decide +kernel
theorem dX5_planBothWays_96 : decode cX5_planBothWays 96 = .ok (.ireturn, 1) := by decide +kernel
theorem dX5_planBothWays_97 : decode cX5_planBothWays 97 = .ok (.aload_n 0, 1) := by decide +kernel
theorem dX5_planBothWays_98 : decode cX5_planBothWays 98 = .ok (.iload_n 3, 1) := by decide +kernel
theorem dX5_planBothWays_99 : decode cX5_planBothWays 99 = .ok (.invokevirtual 144, 3) := by decide +kernel
theorem dX5_planBothWays_102 : decode cX5_planBothWays 102 = .ok (.iconst 0, 1) := by decide +kernel
theorem dX5_planBothWays_103 : decode cX5_planBothWays 103 = .ok (.ireturn, 1) := by decide +kernel
theorem dX5_lookAtLeft_0 : decode cX5_lookAtLeft 0 = .ok (.lconst 0, 1) := by decide +kernel
theorem dX5_lookAtLeft_1 : decode cX5_lookAtLeft 1 = .ok (.lstore_n 1, 1) := by decide +kernel
theorem dX5_lookAtLeft_2 : decode cX5_lookAtLeft 2 = .ok (.aload_n 0, 1) := by decide +kernel
theorem dX5_lookAtLeft_3 : decode cX5_lookAtLeft 3 = .ok (.getfield 43, 3) := by decide +kernel
theorem dX5_lookAtLeft_6 : decode cX5_lookAtLeft 6 = .ok (.lconst 0, 1) := by decide +kernel
theorem dX5_lookAtLeft_7 : decode cX5_lookAtLeft 7 = .ok (.invokestatic 147, 3) := by decide +kernel
theorem dX5_lookAtLeft_10 : decode cX5_lookAtLeft 10 = .ok (.iconst 0, 1) := by decide +kernel
theorem dX5_lookAtLeft_11 : decode cX5_lookAtLeft 11 = .ok (.istore_n 3, 1) := by decide +kernel
theorem dX5_lookAtLeft_12 : decode cX5_lookAtLeft 12 = .ok (.iload_n 3, 1) := by decide +kernel
theorem dX5_lookAtLeft_13 : decode cX5_lookAtLeft 13 = .ok (.aload_n 0, 1) := by decide +kernel
theorem dX5_lookAtLeft_14 : decode cX5_lookAtLeft 14 = .ok (.getfield 33, 3) := by decide +kernel
theorem dX5_lookAtLeft_17 : decode cX5_lookAtLeft 17 = .ok (.if_icmp .ge 74, 3) := by decide +kernel
theorem dX5_lookAtLeft_20 : decode cX5_lookAtLeft 20 = .ok (.aload_n 0, 1) := by decide +kernel
theorem dX5_lookAtLeft_21 : decode cX5_lookAtLeft 21 = .ok (.getfield 37, 3) := by decide +kernel
theorem dX5_lookAtLeft_24 : decode cX5_lookAtLeft 24 = .ok (.iload_n 3, 1) := by decide +kernel
theorem dX5_lookAtLeft_25 : decode cX5_lookAtLeft 25 = .ok (.iaload, 1) := by decide +kernel
theorem dX5_lookAtLeft_26 : decode cX5_lookAtLeft 26 = .ok (.ifCond .le 59, 3) := by decide +kernel
theorem dX5_lookAtLeft_29 : decode cX5_lookAtLeft 29 = .ok (.aload_n 0, 1) := by decide +kernel
theorem dX5_lookAtLeft_30 : decode cX5_lookAtLeft 30 = .ok (.getfield 27, 3) := by decide +kernel
theorem dX5_lookAtLeft_33 : decode cX5_lookAtLeft 33 = .ok (.iload_n 3, 1) := by decide +kernel
theorem dX5_lookAtLeft_34 : decode cX5_lookAtLeft 34 = .ok (.iaload, 1) := by decide +kernel
theorem dX5_lookAtLeft_35 : decode cX5_lookAtLeft 35 = .ok (.istore 4, 2) := by decide +kernel
theorem dX5_lookAtLeft_37 : decode cX5_lookAtLeft 37 = .ok (.aload_n 0, 1) := by decide +kernel
theorem dX5_lookAtLeft_38 : decode cX5_lookAtLeft 38 = .ok (.getfield 30, 3) := by decide +kernel
theorem dX5_lookAtLeft_41 : decode cX5_lookAtLeft 41 = .ok (.iload_n 3, 1) := by decide +kernel
theorem dX5_lookAtLeft_42 : decode cX5_lookAtLeft 42 = .ok (.iaload, 1) := by decide +kernel
theorem dX5_lookAtLeft_43 : decode cX5_lookAtLeft 43 = .ok (.istore 5, 2) := by decide +kernel
theorem dX5_lookAtLeft_45 : decode cX5_lookAtLeft 45 = .ok (.aload_n 0, 1) := by decide +kernel
theorem dX5_lookAtLeft_46 : decode cX5_lookAtLeft 46 = .ok (.getfield 43, 3) := by decide +kernel
theorem dX5_lookAtLeft_49 : decode cX5_lookAtLeft 49 = .ok (.iload 4, 2) := by decide +kernel
theorem dX5_lookAtLeft_51 : decode cX5_lookAtLeft 51 = .ok (.dup2, 1) := by decide +kernel
theorem dX5_lookAtLeft_52 : decode cX5_lookAtLeft 52 = .ok (.laload, 1) := by decide +kernel
theorem dX5_lookAtLeft_53 : decode cX5_lookAtLeft 53 = .ok (.lconst 1, 1) := by decide +kernel
theorem dX5_lookAtLeft_54 : decode cX5_lookAtLeft 54 = .ok (.iload 5, 2) := by decide +kernel
theorem dX5_lookAtLeft_56 : decode cX5_lookAtLeft 56 = .ok (.lshl, 1) := by decide +kernel
theorem dX5_lookAtLeft_57 : decode cX5_lookAtLeft 57 = .ok (.lor, 1) := by decide +kernel
theorem dX5_lookAtLeft_58 : decode cX5_lookAtLeft 58 = .ok (.lastore, 1) := by decide +kernel
theorem dX5_lookAtLeft_59 : decode cX5_lookAtLeft 59 = .ok (.aload_n 0, 1) := by decide +kernel
theorem dX5_lookAtLeft_60 : decode cX5_lookAtLeft 60 = .ok (.getfield 43, 3) := by decide +kernel
theorem dX5_lookAtLeft_63 : decode cX5_lookAtLeft 63 = .ok (.iload 5, 2) := by decide +kernel
theorem dX5_lookAtLeft_65 : decode cX5_lookAtLeft 65 = .ok (.dup2, 1) := by decide +kernel
theorem dX5_lookAtLeft_66 : decode cX5_lookAtLeft 66 = .ok (.laload, 1) := by decide +kernel
theorem dX5_lookAtLeft_67 : decode cX5_lookAtLeft 67 = .ok (.lconst 1, 1) := by decide +kernel
theorem dX5_lookAtLeft_68 : decode cX5_lookAtLeft 68 = .ok (.iload 4, 2) := by decide +kernel
theorem dX5_lookAtLeft_70 : decode cX5_lookAtLeft 70 = .ok (.lshl, 1) := by decide +kernel
theorem dX5_lookAtLeft_71 : decode cX5_lookAtLeft 71 = .ok (.lor, 1) := by decide +kernel
theorem dX5_lookAtLeft_72 : decode cX5_lookAtLeft 72 = .ok (.lastore, 1) := by decide +kernel
theorem dX5_lookAtLeft_73 : decode cX5_lookAtLeft 73 = .ok (.lload_n 1, 1) := by decide +kernel
theorem dX5_lookAtLeft_74 : decode cX5_lookAtLeft 74 = .ok (.lconst 1, 1) := by decide +kernel
theorem dX5_lookAtLeft_75 : decode cX5_lookAtLeft 75 = .ok (.iload 4, 2) := by decide +kernel
theorem dX5_lookAtLeft_77 : decode cX5_lookAtLeft 77 = .ok (.lshl, 1) := by decide +kernel
theorem dX5_lookAtLeft_78 : decode cX5_lookAtLeft 78 = .ok (.lconst 1, 1) := by decide +kernel
theorem dX5_lookAtLeft_79 : decode cX5_lookAtLeft 79 = .ok (.iload 5, 2) := by decide +kernel
theorem dX5_lookAtLeft_81 : decode cX5_lookAtLeft 81 = .ok (.lshl, 1) := by decide +kernel
theorem dX5_lookAtLeft_82 : decode cX5_lookAtLeft 82 = .ok (.lor, 1) := by decide +kernel
theorem dX5_lookAtLeft_83 : decode cX5_lookAtLeft 83 = .ok (.lor, 1) := by decide +kernel
theorem dX5_lookAtLeft_84 : decode cX5_lookAtLeft 84 = .ok (.lstore_n 1, 1) := by decide +kernel
theorem dX5_lookAtLeft_85 : decode cX5_lookAtLeft 85 = .ok (.iinc 3 1, 3) := by decide +kernel
theorem dX5_lookAtLeft_88 : decode cX5_lookAtLeft 88 = .ok (.goto (-76), 3) := by decide +kernel
theorem dX5_lookAtLeft_91 : decode cX5_lookAtLeft 91 = .ok (.lload_n 1, 1) := by decide +kernel
theorem dX5_lookAtLeft_92 : decode cX5_lookAtLeft 92 = .ok (.lreturn, 1) := by decide +kernel
theorem dX5_reachedFrom_0 : decode cX5_reachedFrom 0 = .ok (.lconst 1, 1) := by decide +kernel
theorem dX5_reachedFrom_1 : decode cX5_reachedFrom 1 = .ok (.iload_n 1, 1) := by decide +kernel
theorem dX5_reachedFrom_2 : decode cX5_reachedFrom 2 = .ok (.lshl, 1) := by decide +kernel
theorem dX5_reachedFrom_3 : decode cX5_reachedFrom 3 = .ok (.lstore_n 2, 1) := by decide +kernel
theorem dX5_reachedFrom_4 : decode cX5_reachedFrom 4 = .ok (.lload_n 2, 1) := by decide +kernel
theorem dX5_reachedFrom_5 : decode cX5_reachedFrom 5 = .ok (.lstore 4, 2) := by decide +kernel
theorem dX5_reachedFrom_7 : decode cX5_reachedFrom 7 = .ok (.iconst 0, 1) := by decide +kernel
theorem dX5_reachedFrom_8 : decode cX5_reachedFrom 8 = .ok (.istore 6, 2) := by decide +kernel
theorem dX5_reachedFrom_10 : decode cX5_reachedFrom 10 = .ok (.iload 6, 2) := by decide +kernel
theorem dX5_reachedFrom_12 : decode cX5_reachedFrom 12 = .ok (.bipush 60, 2) := by decide +kernel
theorem dX5_reachedFrom_14 : decode cX5_reachedFrom 14 = .ok (.if_icmp .ge 60, 3) := by decide +kernel
theorem dX5_reachedFrom_17 : decode cX5_reachedFrom 17 = .ok (.lload 4, 2) := by decide +kernel
theorem dX5_reachedFrom_19 : decode cX5_reachedFrom 19 = .ok (.lconst 0, 1) := by decide +kernel
theorem dX5_reachedFrom_20 : decode cX5_reachedFrom 20 = .ok (.lcmp, 1) := by decide +kernel
theorem dX5_reachedFrom_21 : decode cX5_reachedFrom 21 = .ok (.ifCond .eq 53, 3) := by decide +kernel
theorem dX5_reachedFrom_24 : decode cX5_reachedFrom 24 = .ok (.lload 4, 2) := by decide +kernel
theorem dX5_reachedFrom_26 : decode cX5_reachedFrom 26 = .ok (.invokestatic 150, 3) := by decide +kernel
theorem dX5_reachedFrom_29 : decode cX5_reachedFrom 29 = .ok (.istore 7, 2) := by decide +kernel
theorem dX5_reachedFrom_31 : decode cX5_reachedFrom 31 = .ok (.lload 4, 2) := by decide +kernel
theorem dX5_reachedFrom_33 : decode cX5_reachedFrom 33 = .ok (.lload 4, 2) := by decide +kernel
theorem dX5_reachedFrom_35 : decode cX5_reachedFrom 35 = .ok (.lconst 1, 1) := by decide +kernel
theorem dX5_reachedFrom_36 : decode cX5_reachedFrom 36 = .ok (.lsub, 1) := by decide +kernel
theorem dX5_reachedFrom_37 : decode cX5_reachedFrom 37 = .ok (.land, 1) := by decide +kernel
theorem dX5_reachedFrom_38 : decode cX5_reachedFrom 38 = .ok (.lstore 4, 2) := by decide +kernel
theorem dX5_reachedFrom_40 : decode cX5_reachedFrom 40 = .ok (.lload 4, 2) := by decide +kernel
theorem dX5_reachedFrom_42 : decode cX5_reachedFrom 42 = .ok (.aload_n 0, 1) := by decide +kernel
theorem dX5_reachedFrom_43 : decode cX5_reachedFrom 43 = .ok (.getfield 43, 3) := by decide +kernel
theorem dX5_reachedFrom_46 : decode cX5_reachedFrom 46 = .ok (.iload 7, 2) := by decide +kernel
theorem dX5_reachedFrom_48 : decode cX5_reachedFrom 48 = .ok (.laload, 1) := by decide +kernel
theorem dX5_reachedFrom_49 : decode cX5_reachedFrom 49 = .ok (.lload_n 2, 1) := by decide +kernel
theorem dX5_reachedFrom_50 : decode cX5_reachedFrom 50 = .ok (.ldc2_w 121, 3) := by decide +kernel
theorem dX5_reachedFrom_53 : decode cX5_reachedFrom 53 = .ok (.lxor, 1) := by decide +kernel
theorem dX5_reachedFrom_54 : decode cX5_reachedFrom 54 = .ok (.land, 1) := by decide +kernel
theorem dX5_reachedFrom_55 : decode cX5_reachedFrom 55 = .ok (.lor, 1) := by decide +kernel
theorem dX5_reachedFrom_56 : decode cX5_reachedFrom 56 = .ok (.lstore 4, 2) := by decide +kernel
theorem dX5_reachedFrom_58 : decode cX5_reachedFrom 58 = .ok (.lload_n 2, 1) := by decide +kernel
theorem dX5_reachedFrom_59 : decode cX5_reachedFrom 59 = .ok (.aload_n 0, 1) := by decide +kernel
theorem dX5_reachedFrom_60 : decode cX5_reachedFrom 60 = .ok (.getfield 43, 3) := by decide +kernel
theorem dX5_reachedFrom_63 : decode cX5_reachedFrom 63 = .ok (.iload 7, 2) := by decide +kernel
theorem dX5_reachedFrom_65 : decode cX5_reachedFrom 65 = .ok (.laload, 1) := by decide +kernel
theorem dX5_reachedFrom_66 : decode cX5_reachedFrom 66 = .ok (.lor, 1) := by decide +kernel
theorem dX5_reachedFrom_67 : decode cX5_reachedFrom 67 = .ok (.lstore_n 2, 1) := by decide +kernel
theorem dX5_reachedFrom_68 : decode cX5_reachedFrom 68 = .ok (.iinc 6 1, 3) := by decide +kernel
theorem dX5_reachedFrom_71 : decode cX5_reachedFrom 71 = .ok (.goto (-61), 3) := by decide +kernel
theorem dX5_reachedFrom_74 : decode cX5_reachedFrom 74 = .ok (.lload_n 2, 1) := by decide +kernel
theorem dX5_reachedFrom_75 : decode cX5_reachedFrom 75 = .ok (.lreturn, 1) := by decide +kernel
theorem dX5_joinAll_0 : decode cX5_joinAll 0 = .ok (.iconst 0, 1) := by decide +kernel
theorem dX5_joinAll_1 : decode cX5_joinAll 1 = .ok (.istore_n 1, 1) := by decide +kernel
theorem dX5_joinAll_2 : decode cX5_joinAll 2 = .ok (.iload_n 1, 1) := by decide +kernel
theorem dX5_joinAll_3 : decode cX5_joinAll 3 = .ok (.bipush 60, 2) := by decide +kernel
theorem dX5_joinAll_5 : decode cX5_joinAll 5 = .ok (.if_icmp .ge 65, 3) := by decide +kernel
theorem dX5_joinAll_8 : decode cX5_joinAll 8 = .ok (.aload_n 0, 1) := by decide +kernel
theorem dX5_joinAll_9 : decode cX5_joinAll 9 = .ok (.invokevirtual 113, 3) := by decide +kernel
theorem dX5_joinAll_12 : decode cX5_joinAll 12 = .ok (.lstore_n 2, 1) := by decide +kernel
theorem dX5_joinAll_13 : decode cX5_joinAll 13 = .ok (.aload_n 0, 1) := by decide +kernel
theorem dX5_joinAll_14 : decode cX5_joinAll 14 = .ok (.iconst 0, 1) := by decide +kernel
theorem dX5_joinAll_15 : decode cX5_joinAll 15 = .ok (.invokevirtual 117, 3) := by decide +kernel
theorem dX5_joinAll_18 : decode cX5_joinAll 18 = .ok (.lstore 4, 2) := by decide +kernel
theorem dX5_joinAll_20 : decode cX5_joinAll 20 = .ok (.lload_n 2, 1) := by decide +kernel
theorem dX5_joinAll_21 : decode cX5_joinAll 21 = .ok (.lload 4, 2) := by decide +kernel
theorem dX5_joinAll_23 : decode cX5_joinAll 23 = .ok (.ldc2_w 121, 3) := by decide +kernel
theorem dX5_joinAll_26 : decode cX5_joinAll 26 = .ok (.lxor, 1) := by decide +kernel
theorem dX5_joinAll_27 : decode cX5_joinAll 27 = .ok (.land, 1) := by decide +kernel
theorem dX5_joinAll_28 : decode cX5_joinAll 28 = .ok (.lconst 0, 1) := by decide +kernel
theorem dX5_joinAll_29 : decode cX5_joinAll 29 = .ok (.lcmp, 1) := by decide +kernel
theorem dX5_joinAll_30 : decode cX5_joinAll 30 = .ok (.ifCond .ne 5, 3) := by decide +kernel
theorem dX5_joinAll_33 : decode cX5_joinAll 33 = .ok (.iconst 1, 1) := by decide +kernel
theorem dX5_joinAll_34 : decode cX5_joinAll 34 = .ok (.ireturn, 1) := by decide +kernel
theorem dX5_joinAll_35 : decode cX5_joinAll 35 = .ok (.aload_n 0, 1) := by decide +kernel
theorem dX5_joinAll_36 : decode cX5_joinAll 36 = .ok (.lload 4, 2) := by decide +kernel
theorem dX5_joinAll_38 : decode cX5_joinAll 38 = .ok (.lload_n 2, 1) := by decide +kernel
theorem dX5_joinAll_39 : decode cX5_joinAll 39 = .ok (.lload 4, 2) := by decide +kernel
theorem dX5_joinAll_41 : decode cX5_joinAll 41 = .ok (.ldc2_w 121, 3) := by decide +kernel
theorem dX5_joinAll_44 : decode cX5_joinAll 44 = .ok (.lxor, 1) := by decide +kernel
theorem dX5_joinAll_45 : decode cX5_joinAll 45 = .ok (.land, 1) := by decide +kernel
theorem dX5_joinAll_46 : decode cX5_joinAll 46 = .ok (.invokevirtual 154, 3) := by decide +kernel
theorem dX5_joinAll_49 : decode cX5_joinAll 49 = .ok (.ifCond .ne 5, 3) := by decide +kernel
theorem dX5_joinAll_52 : decode cX5_joinAll 52 = .ok (.iconst 0, 1) := by decide +kernel
theorem dX5_joinAll_53 : decode cX5_joinAll 53 = .ok (.ireturn, 1) := by decide +kernel
theorem dX5_joinAll_54 : decode cX5_joinAll 54 = .ok (.aload_n 0, 1) := by decide +kernel
theorem dX5_joinAll_55 : decode cX5_joinAll 55 = .ok (.getfield 20, 3) := by decide +kernel
theorem dX5_joinAll_58 : decode cX5_joinAll 58 = .ok (.iconst 3, 1) := by decide +kernel
theorem dX5_joinAll_59 : decode cX5_joinAll 59 = .ok (.dup2, 1) := by decide +kernel
theorem dX5_joinAll_60 : decode cX5_joinAll 60 = .ok (.iaload, 1) := by decide +kernel
theorem dX5_joinAll_61 : decode cX5_joinAll 61 = .ok (.iconst 1, 1) := by decide +kernel
theorem dX5_joinAll_62 : decode cX5_joinAll 62 = .ok (.iadd, 1) := by decide +kernel
theorem dX5_joinAll_63 : decode cX5_joinAll 63 = .ok (.iastore, 1) := by decide +kernel
theorem dX5_joinAll_64 : decode cX5_joinAll 64 = .ok (.iinc 1 1, 3) := by decide +kernel
theorem dX5_joinAll_67 : decode cX5_joinAll 67 = .ok (.goto (-65), 3) := by decide +kernel
theorem dX5_joinAll_70 : decode cX5_joinAll 70 = .ok (.iconst 0, 1) := by decide +kernel
theorem dX5_joinAll_71 : decode cX5_joinAll 71 = .ok (.ireturn, 1) := by decide +kernel
theorem dX5_addPairs_0 : decode cX5_addPairs 0 = .ok (.aload_n 0, 1) := by decide +kernel
theorem dX5_addPairs_1 : decode cX5_addPairs 1 = .ok (.getfield 20, 3) := by decide +kernel
theorem dX5_addPairs_4 : decode cX5_addPairs 4 = .ok (.iconst 5, 1) := by decide +kernel
theorem dX5_addPairs_5 : decode cX5_addPairs 5 = .ok (.aload_n 0, 1) := by decide +kernel
theorem dX5_addPairs_6 : decode cX5_addPairs 6 = .ok (.getfield 58, 3) := by decide +kernel
theorem dX5_addPairs_9 : decode cX5_addPairs 9 = .ok (.getfield 165, 3) := by decide +kernel
theorem dX5_addPairs_12 : decode cX5_addPairs 12 = .ok (.iastore, 1) := by decide +kernel
theorem dX5_addPairs_13 : decode cX5_addPairs 13 = .ok (.aload_n 0, 1) := by decide +kernel
theorem dX5_addPairs_14 : decode cX5_addPairs 14 = .ok (.getfield 20, 3) := by decide +kernel
theorem dX5_addPairs_17 : decode cX5_addPairs 17 = .ok (.iconst 4, 1) := by decide +kernel
theorem dX5_addPairs_18 : decode cX5_addPairs 18 = .ok (.aload_n 0, 1) := by decide +kernel
theorem dX5_addPairs_19 : decode cX5_addPairs 19 = .ok (.getfield 58, 3) := by decide +kernel
theorem dX5_addPairs_22 : decode cX5_addPairs 22 = .ok (.getfield 168, 3) := by decide +kernel
theorem dX5_addPairs_25 : decode cX5_addPairs 25 = .ok (.iastore, 1) := by decide +kernel
theorem dX5_addPairs_26 : decode cX5_addPairs 26 = .ok (.iconst 0, 1) := by decide +kernel
theorem dX5_addPairs_27 : decode cX5_addPairs 27 = .ok (.istore_n 1, 1) := by decide +kernel
theorem dX5_addPairs_28 : decode cX5_addPairs 28 = .ok (.iload_n 1, 1) := by decide +kernel
theorem dX5_addPairs_29 : decode cX5_addPairs 29 = .ok (.aload_n 0, 1) := by decide +kernel
theorem dX5_addPairs_30 : decode cX5_addPairs 30 = .ok (.getfield 58, 3) := by decide +kernel
theorem dX5_addPairs_33 : decode cX5_addPairs 33 = .ok (.getfield 165, 3) := by decide +kernel
theorem dX5_addPairs_36 : decode cX5_addPairs 36 = .ok (.if_icmp .ge 50, 3) := by decide +kernel
theorem dX5_addPairs_39 : decode cX5_addPairs 39 = .ok (.aload_n 0, 1) := by decide +kernel
theorem dX5_addPairs_40 : decode cX5_addPairs 40 = .ok (.getfield 58, 3) := by decide +kernel
theorem dX5_addPairs_43 : decode cX5_addPairs 43 = .ok (.getfield 171, 3) := by decide +kernel
theorem dX5_addPairs_46 : decode cX5_addPairs 46 = .ok (.iload_n 1, 1) := by decide +kernel
theorem dX5_addPairs_47 : decode cX5_addPairs 47 = .ok (.iaload, 1) := by decide +kernel
theorem dX5_addPairs_48 : decode cX5_addPairs 48 = .ok (.istore_n 2, 1) := by decide +kernel
theorem dX5_addPairs_49 : decode cX5_addPairs 49 = .ok (.aload_n 0, 1) := by decide +kernel
theorem dX5_addPairs_50 : decode cX5_addPairs 50 = .ok (.getfield 58, 3) := by decide +kernel
theorem dX5_addPairs_53 : decode cX5_addPairs 53 = .ok (.getfield 174, 3) := by decide +kernel
theorem dX5_addPairs_56 : decode cX5_addPairs 56 = .ok (.iload_n 1, 1) := by decide +kernel
theorem dX5_addPairs_57 : decode cX5_addPairs 57 = .ok (.iaload, 1) := by decide +kernel
theorem dX5_addPairs_58 : decode cX5_addPairs 58 = .ok (.istore_n 3, 1) := by decide +kernel
theorem dX5_addPairs_59 : decode cX5_addPairs 59 = .ok (.aload_n 0, 1) := by decide +kernel
theorem dX5_addPairs_60 : decode cX5_addPairs 60 = .ok (.getfield 24, 3) := by decide +kernel
theorem dX5_addPairs_63 : decode cX5_addPairs 63 = .ok (.iload_n 2, 1) := by decide +kernel
theorem dX5_addPairs_64 : decode cX5_addPairs 64 = .ok (.iload_n 3, 1) := by decide +kernel
theorem dX5_addPairs_65 : decode cX5_addPairs 65 = .ok (.iastore, 1) := by decide +kernel
theorem dX5_addPairs_66 : decode cX5_addPairs 66 = .ok (.aload_n 0, 1) := by decide +kernel
theorem dX5_addPairs_67 : decode cX5_addPairs 67 = .ok (.getfield 24, 3) := by decide +kernel
theorem dX5_addPairs_70 : decode cX5_addPairs 70 = .ok (.iload_n 3, 1) := by decide +kernel
theorem dX5_addPairs_71 : decode cX5_addPairs 71 = .ok (.iload_n 2, 1) := by decide +kernel
theorem dX5_addPairs_72 : decode cX5_addPairs 72 = .ok (.iastore, 1) := by decide +kernel
theorem dX5_addPairs_73 : decode cX5_addPairs 73 = .ok (.aload_n 0, 1) := by decide +kernel
theorem dX5_addPairs_74 : decode cX5_addPairs 74 = .ok (.iload_n 2, 1) := by decide +kernel
theorem dX5_addPairs_75 : decode cX5_addPairs 75 = .ok (.iload_n 3, 1) := by decide +kernel
theorem dX5_addPairs_76 : decode cX5_addPairs 76 = .ok (.iconst 1, 1) := by decide +kernel
theorem dX5_addPairs_77 : decode cX5_addPairs 77 = .ok (.invokevirtual 162, 3) := by decide +kernel
theorem dX5_addPairs_80 : decode cX5_addPairs 80 = .ok (.iinc 1 1, 3) := by decide +kernel
theorem dX5_addPairs_83 : decode cX5_addPairs 83 = .ok (.goto (-55), 3) := by decide +kernel
theorem dX5_addPairs_86 : decode cX5_addPairs 86 = .ok (.return_, 1) := by decide +kernel
theorem dX5_driveAll_0 : decode cX5_driveAll 0 = .ok (.iconst 0, 1) := by decide +kernel
theorem dX5_driveAll_1 : decode cX5_driveAll 1 = .ok (.istore_n 2, 1) := by decide +kernel
theorem dX5_driveAll_2 : decode cX5_driveAll 2 = .ok (.iload_n 2, 1) := by decide +kernel
theorem dX5_driveAll_3 : decode cX5_driveAll 3 = .ok (.iload_n 1, 1) := by decide +kernel
theorem dX5_driveAll_4 : decode cX5_driveAll 4 = .ok (.if_icmp .ge 40, 3) := by decide +kernel
theorem dX5_driveAll_7 : decode cX5_driveAll 7 = .ok (.aload_n 0, 1) := by decide +kernel
theorem dX5_driveAll_8 : decode cX5_driveAll 8 = .ok (.invokevirtual 183, 3) := by decide +kernel
theorem dX5_driveAll_11 : decode cX5_driveAll 11 = .ok (.istore_n 3, 1) := by decide +kernel
theorem dX5_driveAll_12 : decode cX5_driveAll 12 = .ok (.iload_n 3, 1) := by decide +kernel
theorem dX5_driveAll_13 : decode cX5_driveAll 13 = .ok (.iconst (-1), 1) := by decide +kernel
theorem dX5_driveAll_14 : decode cX5_driveAll 14 = .ok (.if_icmp .ne 4, 3) := by decide +kernel
theorem dX5_driveAll_17 : decode cX5_driveAll 17 = .ok (.return_, 1) := by decide +kernel
theorem dX5_driveAll_18 : decode cX5_driveAll 18 = .ok (.aload_n 0, 1) := by decide +kernel
theorem dX5_driveAll_19 : decode cX5_driveAll 19 = .ok (.iload_n 3, 1) := by decide +kernel
theorem dX5_driveAll_20 : decode cX5_driveAll 20 = .ok (.aload_n 0, 1) := by decide +kernel
theorem dX5_driveAll_21 : decode cX5_driveAll 21 = .ok (.getfield 40, 3) := by decide +kernel
theorem dX5_driveAll_24 : decode cX5_driveAll 24 = .ok (.iload_n 3, 1) := by decide +kernel
theorem dX5_driveAll_25 : decode cX5_driveAll 25 = .ok (.iaload, 1) := by decide +kernel
theorem dX5_driveAll_26 : decode cX5_driveAll 26 = .ok (.ifCond .le 7, 3) := by decide +kernel
theorem dX5_driveAll_29 : decode cX5_driveAll 29 = .ok (.iconst 1, 1) := by decide +kernel
theorem dX5_driveAll_30 : decode cX5_driveAll 30 = .ok (.goto 4, 3) := by decide +kernel
theorem dX5_driveAll_33 : decode cX5_driveAll 33 = .ok (.iconst 0, 1) := by decide +kernel
theorem dX5_driveAll_34 : decode cX5_driveAll 34 = .ok (.invokevirtual 186, 3) := by decide +kernel
theorem dX5_driveAll_37 : decode cX5_driveAll 37 = .ok (.pop, 1) := by decide +kernel
theorem dX5_driveAll_38 : decode cX5_driveAll 38 = .ok (.iinc 2 1, 3) := by decide +kernel
theorem dX5_driveAll_41 : decode cX5_driveAll 41 = .ok (.goto (-39), 3) := by decide +kernel
theorem dX5_driveAll_44 : decode cX5_driveAll 44 = .ok (.return_, 1) := by decide +kernel
theorem dX11_init_0 : decode cX11_init 0 = .ok (.aload_n 0, 1) := by decide +kernel
theorem dX11_init_1 : decode cX11_init 1 = .ok (.invokespecial 1, 3) := by decide +kernel
theorem dX11_init_4 : decode cX11_init 4 = .ok (.aload_n 0, 1) := by decide +kernel
theorem dX11_init_5 : decode cX11_init 5 = .ok (.new 7, 3) := by decide +kernel
theorem dX11_init_8 : decode cX11_init 8 = .ok (.dup, 1) := by decide +kernel
theorem dX11_init_9 : decode cX11_init 9 = .ok (.invokespecial 9, 3) := by decide +kernel
theorem dX11_init_12 : decode cX11_init 12 = .ok (.putfield 10, 3) := by decide +kernel
theorem dX11_init_15 : decode cX11_init 15 = .ok (.aload_n 0, 1) := by decide +kernel
theorem dX11_init_16 : decode cX11_init 16 = .ok (.new 16, 3) := by decide +kernel
theorem dX11_init_19 : decode cX11_init 19 = .ok (.dup, 1) := by decide +kernel
theorem dX11_init_20 : decode cX11_init 20 = .ok (.invokespecial 18, 3) := by decide +kernel
theorem dX11_init_23 : decode cX11_init 23 = .ok (.putfield 19, 3) := by decide +kernel
theorem dX11_init_26 : decode cX11_init 26 = .ok (.aload_n 0, 1) := by decide +kernel
theorem dX11_init_27 : decode cX11_init 27 = .ok (.new 16, 3) := by decide +kernel
theorem dX11_init_30 : decode cX11_init 30 = .ok (.dup, 1) := by decide +kernel
theorem dX11_init_31 : decode cX11_init 31 = .ok (.invokespecial 18, 3) := by decide +kernel
theorem dX11_init_34 : decode cX11_init 34 = .ok (.putfield 23, 3) := by decide +kernel
theorem dX11_init_37 : decode cX11_init 37 = .ok (.aload_n 0, 1) := by decide +kernel
theorem dX11_init_38 : decode cX11_init 38 = .ok (.new 26, 3) := by decide +kernel
theorem dX11_init_41 : decode cX11_init 41 = .ok (.dup, 1) := by decide +kernel
theorem dX11_init_42 : decode cX11_init 42 = .ok (.aload_n 0, 1) := by decide +kernel
theorem dX11_init_43 : decode cX11_init 43 = .ok (.getfield 19, 3) := by decide +kernel
theorem dX11_init_46 : decode cX11_init 46 = .ok (.invokespecial 28, 3) := by decide +kernel
theorem dX11_init_49 : decode cX11_init 49 = .ok (.putfield 31, 3) := by decide +kernel
theorem dX11_init_52 : decode cX11_init 52 = .ok (.aload_n 0, 1) := by decide +kernel
theorem dX11_init_53 : decode cX11_init 53 = .ok (.new 35, 3) := by decide +kernel
theorem dX11_init_56 : decode cX11_init 56 = .ok (.dup, 1) := by decide +kernel
theorem dX11_init_57 : decode cX11_init 57 = .ok (.aload_n 0, 1) := by decide +kernel
theorem dX11_init_58 : decode cX11_init 58 = .ok (.getfield 19, 3) := by decide +kernel
theorem dX11_init_61 : decode cX11_init 61 = .ok (.aload_n 0, 1) := by decide +kernel
theorem dX11_init_62 : decode cX11_init 62 = .ok (.getfield 31, 3) := by decide +kernel
theorem dX11_init_65 : decode cX11_init 65 = .ok (.invokespecial 37, 3) := by decide +kernel
theorem dX11_init_68 : decode cX11_init 68 = .ok (.putfield 40, 3) := by decide +kernel
theorem dX11_init_71 : decode cX11_init 71 = .ok (.aload_n 0, 1) := by decide +kernel
theorem dX11_init_72 : decode cX11_init 72 = .ok (.new 44, 3) := by decide +kernel
theorem dX11_init_75 : decode cX11_init 75 = .ok (.dup, 1) := by decide +kernel
theorem dX11_init_76 : decode cX11_init 76 = .ok (.aload_n 0, 1) := by decide +kernel
theorem dX11_init_77 : decode cX11_init 77 = .ok (.getfield 19, 3) := by decide +kernel
theorem dX11_init_80 : decode cX11_init 80 = .ok (.aload_n 0, 1) := by decide +kernel
theorem dX11_init_81 : decode cX11_init 81 = .ok (.getfield 31, 3) := by decide +kernel
theorem dX11_init_84 : decode cX11_init 84 = .ok (.aload_n 0, 1) := by decide +kernel
theorem dX11_init_85 : decode cX11_init 85 = .ok (.getfield 40, 3) := by decide +kernel
theorem dX11_init_88 : decode cX11_init 88 = .ok (.invokespecial 46, 3) := by decide +kernel
theorem dX11_init_91 : decode cX11_init 91 = .ok (.putfield 49, 3) := by decide +kernel
theorem dX11_init_94 : decode cX11_init 94 = .ok (.aload_n 0, 1) := by decide +kernel
theorem dX11_init_95 : decode cX11_init 95 = .ok (.bipush 12, 2) := by decide +kernel
theorem dX11_init_97 : decode cX11_init 97 = .ok (.anewarray 53, 3) := by decide +kernel
theorem dX11_init_100 : decode cX11_init 100 = .ok (.putfield 55, 3) := by decide +kernel
theorem dX11_init_103 : decode cX11_init 103 = .ok (.aload_n 0, 1) := by decide +kernel
theorem dX11_init_104 : decode cX11_init 104 = .ok (.bipush 20, 2) := by decide +kernel
theorem dX11_init_106 : decode cX11_init 106 = .ok (.newarray .float, 2) := by decide +kernel
theorem dX11_init_108 : decode cX11_init 108 = .ok (.putfield 59, 3) := by decide +kernel
theorem dX11_init_111 : decode cX11_init 111 = .ok (.aload_n 0, 1) := by decide +kernel
theorem dX11_init_112 : decode cX11_init 112 = .ok (.bipush 12, 2) := by decide +kernel
theorem dX11_init_114 : decode cX11_init 114 = .ok (.newarray .int, 2) := by decide +kernel
theorem dX11_init_116 : decode cX11_init 116 = .ok (.putfield 63, 3) := by decide +kernel
theorem dX11_init_119 : decode cX11_init 119 = .ok (.aload_n 0, 1) := by decide +kernel
theorem dX11_init_120 : decode cX11_init 120 = .ok (.bipush 12, 2) := by decide +kernel
theorem dX11_init_122 : decode cX11_init 122 = .ok (.newarray .int, 2) := by decide +kernel
theorem dX11_init_124 : decode cX11_init 124 = .ok (.putfield 67, 3) := by decide +kernel
theorem dX11_init_127 : decode cX11_init 127 = .ok (.aload_n 0, 1) := by decide +kernel
theorem dX11_init_128 : decode cX11_init 128 = .ok (.bipush 12, 2) := by decide +kernel
theorem dX11_init_130 : decode cX11_init 130 = .ok (.newarray .int, 2) := by decide +kernel
theorem dX11_init_132 : decode cX11_init 132 = .ok (.putfield 70, 3) := by decide +kernel
theorem dX11_init_135 : decode cX11_init 135 = .ok (.aload_n 0, 1) := by decide +kernel
theorem dX11_init_136 : decode cX11_init 136 = .ok (.bipush 16, 2) := by decide +kernel
theorem dX11_init_138 : decode cX11_init 138 = .ok (.newarray .char, 2) := by decide +kernel
theorem dX11_init_140 : decode cX11_init 140 = .ok (.putfield 73, 3) := by decide +kernel
theorem dX11_init_143 : decode cX11_init 143 = .ok (.aload_n 0, 1) := by decide +kernel
theorem dX11_init_144 : decode cX11_init 144 = .ok (.iconst 0, 1) := by decide +kernel
theorem dX11_init_145 : decode cX11_init 145 = .ok (.putfield 77, 3) := by decide +kernel
theorem dX11_init_148 : decode cX11_init 148 = .ok (.aload_n 0, 1) := by decide +kernel
theorem dX11_init_149 : decode cX11_init 149 = .ok (.iconst 0, 1) := by decide +kernel
theorem dX11_init_150 : decode cX11_init 150 = .ok (.putfield 81, 3) := by decide +kernel
theorem dX11_init_153 : decode cX11_init 153 = .ok (.new 53, 3) := by decide +kernel
theorem dX11_init_156 : decode cX11_init 156 = .ok (.dup, 1) := by decide +kernel
theorem dX11_init_157 : decode cX11_init 157 = .ok (.aload_n 0, 1) := by decide +kernel
theorem dX11_init_158 : decode cX11_init 158 = .ok (.getfield 10, 3) := by decide +kernel
theorem dX11_init_161 : decode cX11_init 161 = .ok (.bipush 50, 2) := by decide +kernel
theorem dX11_init_163 : decode cX11_init 163 = .ok (.sipush 200, 3) := by decide +kernel
theorem dX11_init_166 : decode cX11_init 166 = .ok (.invokespecial 85, 3) := by decide +kernel
theorem dX11_init_169 : decode cX11_init 169 = .ok (.astore_n 1, 1) := by decide +kernel
theorem dX11_init_170 : decode cX11_init 170 = .ok (.iconst 0, 1) := by decide +kernel
theorem dX11_init_171 : decode cX11_init 171 = .ok (.istore_n 2, 1) := by decide +kernel
theorem dX11_init_172 : decode cX11_init 172 = .ok (.iload_n 2, 1) := by decide +kernel
theorem dX11_init_173 : decode cX11_init 173 = .ok (.bipush 12, 2) := by decide +kernel
theorem dX11_init_175 : decode cX11_init 175 = .ok (.if_icmp .ge 16, 3) := by decide +kernel
theorem dX11_init_178 : decode cX11_init 178 = .ok (.aload_n 0, 1) := by decide +kernel
theorem dX11_init_179 : decode cX11_init 179 = .ok (.getfield 55, 3) := by decide +kernel
theorem dX11_init_182 : decode cX11_init 182 = .ok (.iload_n 2, 1) := by decide +kernel
theorem dX11_init_183 : decode cX11_init 183 = .ok (.aload_n 1, 1) := by decide +kernel
theorem dX11_init_184 : decode cX11_init 184 = .ok (.aastore, 1) := by decide +kernel
theorem dX11_init_185 : decode cX11_init 185 = .ok (.iinc 2 1, 3) := by decide +kernel
theorem dX11_init_188 : decode cX11_init 188 = .ok (.goto (-16), 3) := by decide +kernel
theorem dX11_init_191 : decode cX11_init 191 = .ok (.return_, 1) := by decide +kernel
theorem dX11_crossings_0 : decode cX11_crossings 0 = .ok (.iload_n 1, 1) := by decide +kernel
theorem dX11_crossings_1 : decode cX11_crossings 1 = .ok (.iconst 1, 1) := by decide +kernel
theorem dX11_crossings_2 : decode cX11_crossings 2 = .ok (.if_icmp .lt 9, 3) := by decide +kernel
theorem dX11_crossings_5 : decode cX11_crossings 5 = .ok (.iload_n 1, 1) := by decide +kernel
theorem dX11_crossings_6 : decode cX11_crossings 6 = .ok (.bipush 20, 2) := by decide +kernel
theorem dX11_crossings_8 : decode cX11_crossings 8 = .ok (.if_icmp .le 10, 3) := by decide +kernel
theorem dX11_crossings_11 : decode cX11_crossings 11 = .ok (.aload_n 0, 1) := by decide +kernel
theorem dX11_crossings_12 : decode cX11_crossings 12 = .ok (.bipush (-2), 2) := by decide +kernel
theorem dX11_crossings_14 : decode cX11_crossings 14 = .ok (.invokevirtual 88, 3) := by decide +kernel
theorem dX11_crossings_17 : decode cX11_crossings 17 = .ok (.ireturn, 1) := by decide +kernel
theorem dX11_crossings_18 : decode cX11_crossings 18 = .ok (.aload_n 0, 1) := by decide +kernel
theorem dX11_crossings_19 : decode cX11_crossings 19 = .ok (.getfield 19, 3) := by decide +kernel
theorem dX11_crossings_22 : decode cX11_crossings 22 = .ok (.getfield 92, 3) := by decide +kernel
theorem dX11_crossings_25 : decode cX11_crossings 25 = .ok (.iload_n 1, 1) := by decide +kernel
theorem dX11_crossings_26 : decode cX11_crossings 26 = .ok (.iadd, 1) := by decide +kernel
theorem dX11_crossings_27 : decode cX11_crossings 27 = .ok (.bipush 60, 2) := by decide +kernel
theorem dX11_crossings_29 : decode cX11_crossings 29 = .ok (.if_icmp .le 10, 3) := by decide +kernel
theorem dX11_crossings_32 : decode cX11_crossings 32 = .ok (.aload_n 0, 1) := by decide +kernel
theorem dX11_crossings_33 : decode cX11_crossings 33 = .ok (.bipush (-3), 2) := by decide +kernel
theorem dX11_crossings_35 : decode cX11_crossings 35 = .ok (.invokevirtual 88, 3) := by decide +kernel
theorem dX11_crossings_38 : decode cX11_crossings 38 = .ok (.ireturn, 1) := by decide +kernel
theorem dX11_crossings_39 : decode cX11_crossings 39 = .ok (.aload_n 0, 1) := by decide +kernel
theorem dX11_crossings_40 : decode cX11_crossings 40 = .ok (.invokevirtual 95, 3) := by decide +kernel
theorem dX11_crossings_43 : decode cX11_crossings 43 = .ok (.aload_n 0, 1) := by decide +kernel
theorem dX11_crossings_44 : decode cX11_crossings 44 = .ok (.getfield 19, 3) := by decide +kernel
theorem dX11_crossings_47 : decode cX11_crossings 47 = .ok (.dup, 1) := by decide +kernel
theorem dX11_crossings_48 : decode cX11_crossings 48 = .ok (.getfield 92, 3) := by decide +kernel
theorem dX11_crossings_51 : decode cX11_crossings 51 = .ok (.iload_n 1, 1) := by decide +kernel
theorem dX11_crossings_52 : decode cX11_crossings 52 = .ok (.iadd, 1) := by decide +kernel
theorem dX11_crossings_53 : decode cX11_crossings 53 = .ok (.putfield 92, 3) := by decide +kernel
theorem dX11_crossings_56 : decode cX11_crossings 56 = .ok (.aload_n 0, 1) := by decide +kernel
theorem dX11_crossings_57 : decode cX11_crossings 57 = .ok (.aload_n 0, 1) := by decide +kernel
theorem dX11_crossings_58 : decode cX11_crossings 58 = .ok (.getfield 19, 3) := by decide +kernel
theorem dX11_crossings_61 : decode cX11_crossings 61 = .ok (.getfield 92, 3) := by decide +kernel
theorem dX11_crossings_64 : decode cX11_crossings 64 = .ok (.invokevirtual 98, 3) := by decide +kernel
theorem dX11_crossings_67 : decode cX11_crossings 67 = .ok (.ireturn, 1) := by decide +kernel
theorem dX11_street_0 : decode cX11_street 0 = .ok (.aload_n 0, 1) := by decide +kernel
theorem dX11_street_1 : decode cX11_street 1 = .ok (.getfield 19, 3) := by decide +kernel
theorem dX11_street_4 : decode cX11_street 4 = .ok (.iload_n 1, 1) := by decide +kernel
theorem dX11_street_5 : decode cX11_street 5 = .ok (.invokevirtual 101, 3) := by decide +kernel
theorem dX11_street_8 : decode cX11_street 8 = .ok (.ifCond .eq 31, 3) := by decide +kernel
theorem dX11_street_11 : decode cX11_street 11 = .ok (.aload_n 0, 1) := by decide +kernel
theorem dX11_street_12 : decode cX11_street 12 = .ok (.getfield 19, 3) := by decide +kernel
theorem dX11_street_15 : decode cX11_street 15 = .ok (.iload_n 2, 1) := by decide +kernel
theorem dX11_street_16 : decode cX11_street 16 = .ok (.invokevirtual 101, 3) := by decide +kernel
theorem dX11_street_19 : decode cX11_street 19 = .ok (.ifCond .eq 20, 3) := by decide +kernel
theorem dX11_street_22 : decode cX11_street 22 = .ok (.iload_n 1, 1) := by decide +kernel
theorem dX11_street_23 : decode cX11_street 23 = .ok (.iload_n 2, 1) := by decide +kernel
theorem dX11_street_24 : decode cX11_street 24 = .ok (.if_icmp .eq 15, 3) := by decide +kernel
theorem dX11_street_27 : decode cX11_street 27 = .ok (.iload_n 3, 1) := by decide +kernel
theorem dX11_street_28 : decode cX11_street 28 = .ok (.iconst 1, 1) := by decide +kernel
theorem dX11_street_29 : decode cX11_street 29 = .ok (.if_icmp .lt 10, 3) := by decide +kernel
theorem dX11_street_32 : decode cX11_street 32 = .ok (.iload_n 3, 1) := by decide +kernel
theorem dX11_street_33 : decode cX11_street 33 = .ok (.sipush 10000, 3) := by decide +kernel
theorem dX11_street_36 : decode cX11_street 36 = .ok (.if_icmp .le 10, 3) := by decide +kernel
theorem dX11_street_39 : decode cX11_street 39 = .ok (.aload_n 0, 1) := by decide +kernel
theorem dX11_street_40 : decode cX11_street 40 = .ok (.bipush (-2), 2) := by decide +kernel
theorem dX11_street_42 : decode cX11_street 42 = .ok (.invokevirtual 88, 3) := by decide +kernel
theorem dX11_street_45 : decode cX11_street 45 = .ok (.ireturn, 1) := by decide +kernel
theorem dX11_street_46 : decode cX11_street 46 = .ok (.aload_n 0, 1) := by decide +kernel
theorem dX11_street_47 : decode cX11_street 47 = .ok (.getfield 19, 3) := by decide +kernel
theorem dX11_street_50 : decode cX11_street 50 = .ok (.getfield 105, 3) := by decide +kernel
theorem dX11_street_53 : decode cX11_street 53 = .ok (.getfield 109, 3) := by decide +kernel
theorem dX11_street_56 : decode cX11_street 56 = .ok (.sipush 150, 3) := by decide +kernel
theorem dX11_street_59 : decode cX11_street 59 = .ok (.if_icmp .lt 10, 3) := by decide +kernel
theorem dX11_street_62 : decode cX11_street 62 = .ok (.aload_n 0, 1) := by decide +kernel
theorem dX11_street_63 : decode cX11_street 63 = .ok (.bipush (-3), 2) := by decide +kernel
theorem dX11_street_65 : decode cX11_street 65 = .ok (.invokevirtual 88, 3) := by decide +kernel
theorem dX11_street_68 : decode cX11_street 68 = .ok (.ireturn, 1) := by decide +kernel
theorem dX11_street_69 : decode cX11_street 69 = .ok (.aload_n 0, 1) := by decide +kernel
theorem dX11_street_70 : decode cX11_street 70 = .ok (.invokevirtual 95, 3) := by decide +kernel
theorem dX11_street_73 : decode cX11_street 73 = .ok (.aload_n 0, 1) := by decide +kernel
theorem dX11_street_74 : decode cX11_street 74 = .ok (.getfield 19, 3) := by decide +kernel
theorem dX11_street_77 : decode cX11_street 77 = .ok (.getfield 105, 3) := by decide +kernel
theorem dX11_street_80 : decode cX11_street 80 = .ok (.invokevirtual 114, 3) := by decide +kernel
theorem dX11_street_83 : decode cX11_street 83 = .ok (.istore 5, 2) := by decide +kernel
theorem dX11_street_85 : decode cX11_street 85 = .ok (.aload_n 0, 1) := by decide +kernel
theorem dX11_street_86 : decode cX11_street 86 = .ok (.getfield 19, 3) := by decide +kernel
theorem dX11_street_89 : decode cX11_street 89 = .ok (.getfield 105, 3) := by decide +kernel
theorem dX11_street_92 : decode cX11_street 92 = .ok (.iload 5, 2) := by decide +kernel
theorem dX11_street_94 : decode cX11_street 94 = .ok (.iconst 3, 1) := by decide +kernel
theorem dX11_street_95 : decode cX11_street 95 = .ok (.iconst 1, 1) := by decide +kernel
theorem dX11_street_96 : decode cX11_street 96 = .ok (.invokevirtual 118, 3) := by decide +kernel
theorem dX11_street_99 : decode cX11_street 99 = .ok (.aload_n 0, 1) := by decide +kernel
theorem dX11_street_100 : decode cX11_street 100 = .ok (.getfield 19, 3) := by decide +kernel
theorem dX11_street_103 : decode cX11_street 103 = .ok (.getfield 105, 3) := by decide +kernel
theorem dX11_street_106 : decode cX11_street 106 = .ok (.iload 5, 2) := by decide +kernel
theorem dX11_street_108 : decode cX11_street 108 = .ok (.iconst 5, 1) := by decide +kernel
theorem dX11_street_109 : decode cX11_street 109 = .ok (.iload 4, 2) := by decide +kernel
theorem dX11_street_111 : decode cX11_street 111 = .ok (.ifCond .eq 7, 3) := by decide +kernel
theorem dX11_street_114 : decode cX11_street 114 = .ok (.iconst 1, 1) := by decide +kernel
theorem dX11_street_115 : decode cX11_street 115 = .ok (.goto 4, 3) := by decide +kernel
theorem dX11_street_118 : decode cX11_street 118 = .ok (.iconst 0, 1) := by decide +kernel
theorem dX11_street_119 : decode cX11_street 119 = .ok (.invokevirtual 118, 3) := by decide +kernel
theorem dX11_street_122 : decode cX11_street 122 = .ok (.aload_n 0, 1) := by decide +kernel
theorem dX11_street_123 : decode cX11_street 123 = .ok (.getfield 19, 3) := by decide +kernel
theorem dX11_street_126 : decode cX11_street 126 = .ok (.getfield 105, 3) := by decide +kernel
theorem dX11_street_129 : decode cX11_street 129 = .ok (.iload 5, 2) := by decide +kernel
theorem dX11_street_131 : decode cX11_street 131 = .ok (.bipush 6, 2) := by decide +kernel
theorem dX11_street_133 : decode cX11_street 133 = .ok (.iload_n 3, 1) := by decide +kernel
theorem dX11_street_134 : decode cX11_street 134 = .ok (.invokevirtual 118, 3) := by decide +kernel
theorem dX11_street_137 : decode cX11_street 137 = .ok (.aload_n 0, 1) := by decide +kernel
theorem dX11_street_138 : decode cX11_street 138 = .ok (.getfield 19, 3) := by decide +kernel
theorem dX11_street_141 : decode cX11_street 141 = .ok (.getfield 105, 3) := by decide +kernel
theorem dX11_street_144 : decode cX11_street 144 = .ok (.iload 5, 2) := by decide +kernel
theorem dX11_street_146 : decode cX11_street 146 = .ok (.bipush 7, 2) := by decide +kernel
theorem dX11_street_148 : decode cX11_street 148 = .ok (.iload_n 1, 1) := by decide +kernel
theorem dX11_street_149 : decode cX11_street 149 = .ok (.invokevirtual 118, 3) := by decide +kernel
theorem dX11_street_152 : decode cX11_street 152 = .ok (.aload_n 0, 1) := by decide +kernel
theorem dX11_street_153 : decode cX11_street 153 = .ok (.getfield 19, 3) := by decide +kernel
theorem dX11_street_156 : decode cX11_street 156 = .ok (.getfield 105, 3) := by decide +kernel
theorem dX11_street_159 : decode cX11_street 159 = .ok (.iload 5, 2) := by decide +kernel
theorem dX11_street_161 : decode cX11_street 161 = .ok (.bipush 8, 2) := by decide +kernel
theorem dX11_street_163 : decode cX11_street 163 = .ok (.iload_n 2, 1) := by decide +kernel
theorem dX11_street_164 : decode cX11_street 164 = .ok (.invokevirtual 118, 3) := by decide +kernel
theorem dX11_street_167 : decode cX11_street 167 = .ok (.aload_n 0, 1) := by decide +kernel
theorem dX11_street_168 : decode cX11_street 168 = .ok (.iload 5, 2) := by decide +kernel
theorem dX11_street_170 : decode cX11_street 170 = .ok (.invokevirtual 98, 3) := by decide +kernel
theorem dX11_street_173 : decode cX11_street 173 = .ok (.ireturn, 1) := by decide +kernel
theorem dX11_oneWay_0 : decode cX11_oneWay 0 = .ok (.aload_n 0, 1) := by decide +kernel
theorem dX11_oneWay_1 : decode cX11_oneWay 1 = .ok (.iload_n 1, 1) := by decide +kernel
theorem dX11_oneWay_2 : decode cX11_oneWay 2 = .ok (.iconst 5, 1) := by decide +kernel
theorem dX11_oneWay_3 : decode cX11_oneWay 3 = .ok (.iload_n 2, 1) := by decide +kernel
theorem dX11_oneWay_4 : decode cX11_oneWay 4 = .ok (.ifCond .eq 7, 3) := by decide +kernel
theorem dX11_oneWay_7 : decode cX11_oneWay 7 = .ok (.iconst 1, 1) := by decide +kernel
theorem dX11_oneWay_8 : decode cX11_oneWay 8 = .ok (.goto 4, 3) := by decide +kernel
theorem dX11_oneWay_11 : decode cX11_oneWay 11 = .ok (.iconst 0, 1) := by decide +kernel
theorem dX11_oneWay_12 : decode cX11_oneWay 12 = .ok (.invokevirtual 122, 3) := by decide +kernel
theorem dX11_oneWay_15 : decode cX11_oneWay 15 = .ok (.ireturn, 1) := by decide +kernel
theorem dX11_shut_0 : decode cX11_shut 0 = .ok (.aload_n 0, 1) := by decide +kernel
theorem dX11_shut_1 : decode cX11_shut 1 = .ok (.iload_n 1, 1) := by decide +kernel
theorem dX11_shut_2 : decode cX11_shut 2 = .ok (.iconst 4, 1) := by decide +kernel
theorem dX11_shut_3 : decode cX11_shut 3 = .ok (.iload_n 2, 1) := by decide +kernel
theorem dX11_shut_4 : decode cX11_shut 4 = .ok (.ifCond .eq 7, 3) := by decide +kernel
theorem dX11_shut_7 : decode cX11_shut 7 = .ok (.iconst 1, 1) := by decide +kernel
theorem dX11_shut_8 : decode cX11_shut 8 = .ok (.goto 4, 3) := by decide +kernel
theorem dX11_shut_11 : decode cX11_shut 11 = .ok (.iconst 0, 1) := by decide +kernel
theorem dX11_shut_12 : decode cX11_shut 12 = .ok (.invokevirtual 122, 3) := by decide +kernel
theorem dX11_shut_15 : decode cX11_shut 15 = .ok (.ireturn, 1) := by decide +kernel
theorem dX11_sides_0 : decode cX11_sides 0 = .ok (.iload_n 2, 1) := by decide +kernel
theorem dX11_sides_1 : decode cX11_sides 1 = .ok (.ifCond .lt 8, 3) := by decide +kernel
theorem dX11_sides_4 : decode cX11_sides 4 = .ok (.iload_n 2, 1) := by decide +kernel
theorem dX11_sides_5 : decode cX11_sides 5 = .ok (.iconst 2, 1) := by decide +kernel
theorem dX11_sides_6 : decode cX11_sides 6 = .ok (.if_icmp .le 10, 3) := by decide +kernel
theorem dX11_sides_9 : decode cX11_sides 9 = .ok (.aload_n 0, 1) := by decide +kernel
theorem dX11_sides_10 : decode cX11_sides 10 = .ok (.bipush (-2), 2) := by decide +kernel
theorem dX11_sides_12 : decode cX11_sides 12 = .ok (.invokevirtual 88, 3) := by decide +kernel
theorem dX11_sides_15 : decode cX11_sides 15 = .ok (.ireturn, 1) := by decide +kernel
theorem dX11_sides_16 : decode cX11_sides 16 = .ok (.aload_n 0, 1) := by decide +kernel
theorem dX11_sides_17 : decode cX11_sides 17 = .ok (.iload_n 1, 1) := by decide +kernel
theorem dX11_sides_18 : decode cX11_sides 18 = .ok (.iconst 3, 1) := by decide +kernel
theorem dX11_sides_19 : decode cX11_sides 19 = .ok (.iload_n 2, 1) := by decide +kernel
theorem dX11_sides_20 : decode cX11_sides 20 = .ok (.invokevirtual 122, 3) := by decide +kernel
theorem dX11_sides_23 : decode cX11_sides 23 = .ok (.istore_n 3, 1) := by decide +kernel
theorem dX11_sides_24 : decode cX11_sides 24 = .ok (.iload_n 3, 1) := by decide +kernel
theorem dX11_sides_25 : decode cX11_sides 25 = .ok (.ifCond .lt 16, 3) := by decide +kernel
theorem dX11_sides_28 : decode cX11_sides 28 = .ok (.aload_n 0, 1) := by decide +kernel
theorem dX11_sides_29 : decode cX11_sides 29 = .ok (.getfield 19, 3) := by decide +kernel
theorem dX11_sides_32 : decode cX11_sides 32 = .ok (.getfield 105, 3) := by decide +kernel
theorem dX11_sides_35 : decode cX11_sides 35 = .ok (.iload_n 1, 1) := by decide +kernel
theorem dX11_sides_36 : decode cX11_sides 36 = .ok (.iconst 2, 1) := by decide +kernel
theorem dX11_sides_37 : decode cX11_sides 37 = .ok (.iconst 0, 1) := by decide +kernel
theorem dX11_sides_38 : decode cX11_sides 38 = .ok (.invokevirtual 118, 3) := by decide +kernel
theorem dX11_sides_41 : decode cX11_sides 41 = .ok (.iload_n 3, 1) := by decide +kernel
theorem dX11_sides_42 : decode cX11_sides 42 = .ok (.ireturn, 1) := by decide +kernel
theorem dX11_told_0 : decode cX11_told 0 = .ok (.aload_n 0, 1) := by decide +kernel
theorem dX11_told_1 : decode cX11_told 1 = .ok (.getfield 19, 3) := by decide +kernel
theorem dX11_told_4 : decode cX11_told 4 = .ok (.getfield 105, 3) := by decide +kernel
theorem dX11_told_7 : decode cX11_told 7 = .ok (.iload_n 1, 1) := by decide +kernel
theorem dX11_told_8 : decode cX11_told 8 = .ok (.invokevirtual 126, 3) := by decide +kernel
theorem dX11_told_11 : decode cX11_told 11 = .ok (.ifCond .eq 13, 3) := by decide +kernel
theorem dX11_told_14 : decode cX11_told 14 = .ok (.iload_n 2, 1) := by decide +kernel
theorem dX11_told_15 : decode cX11_told 15 = .ok (.ifCond .lt 9, 3) := by decide +kernel
theorem dX11_told_18 : decode cX11_told 18 = .ok (.iload_n 2, 1) := by decide +kernel
theorem dX11_told_19 : decode cX11_told 19 = .ok (.bipush 9, 2) := by decide +kernel
theorem dX11_told_21 : decode cX11_told 21 = .ok (.if_icmp .lt 10, 3) := by decide +kernel
theorem dX11_told_24 : decode cX11_told 24 = .ok (.aload_n 0, 1) := by decide +kernel
theorem dX11_told_25 : decode cX11_told 25 = .ok (.bipush (-2), 2) := by decide +kernel
theorem dX11_told_27 : decode cX11_told 27 = .ok (.invokevirtual 88, 3) := by decide +kernel
theorem dX11_told_30 : decode cX11_told 30 = .ok (.ireturn, 1) := by decide +kernel
theorem dX11_told_31 : decode cX11_told 31 = .ok (.aload_n 0, 1) := by decide +kernel
theorem dX11_told_32 : decode cX11_told 32 = .ok (.aload_n 0, 1) := by decide +kernel
theorem dX11_told_33 : decode cX11_told 33 = .ok (.getfield 19, 3) := by decide +kernel
theorem dX11_told_36 : decode cX11_told 36 = .ok (.getfield 105, 3) := by decide +kernel
theorem dX11_told_39 : decode cX11_told 39 = .ok (.iload_n 1, 1) := by decide +kernel
theorem dX11_told_40 : decode cX11_told 40 = .ok (.iload_n 2, 1) := by decide +kernel
theorem dX11_told_41 : decode cX11_told 41 = .ok (.invokevirtual 129, 3) := by decide +kernel
theorem dX11_told_44 : decode cX11_told 44 = .ok (.invokevirtual 98, 3) := by decide +kernel
theorem dX11_told_47 : decode cX11_told 47 = .ok (.ireturn, 1) := by decide +kernel
theorem dX11_way_0 : decode cX11_way 0 = .ok (.aload_n 0, 1) := by decide +kernel
theorem dX11_way_1 : decode cX11_way 1 = .ok (.getfield 19, 3) := by decide +kernel
theorem dX11_way_4 : decode cX11_way 4 = .ok (.iload_n 1, 1) := by decide +kernel
theorem dX11_way_5 : decode cX11_way 5 = .ok (.invokevirtual 101, 3) := by decide +kernel
theorem dX11_way_8 : decode cX11_way 8 = .ok (.ifCond .eq 14, 3) := by decide +kernel
theorem dX11_way_11 : decode cX11_way 11 = .ok (.aload_n 0, 1) := by decide +kernel
theorem dX11_way_12 : decode cX11_way 12 = .ok (.getfield 19, 3) := by decide +kernel
theorem dX11_way_15 : decode cX11_way 15 = .ok (.iload_n 2, 1) := by decide +kernel
theorem dX11_way_16 : decode cX11_way 16 = .ok (.invokevirtual 101, 3) := by decide +kernel
theorem dX11_way_19 : decode cX11_way 19 = .ok (.ifCond .ne 10, 3) := by decide +kernel
theorem dX11_way_22 : decode cX11_way 22 = .ok (.aload_n 0, 1) := by decide +kernel
theorem dX11_way_23 : decode cX11_way 23 = .ok (.bipush (-2), 2) := by decide +kernel
theorem dX11_way_25 : decode cX11_way 25 = .ok (.invokevirtual 88, 3) := by decide +kernel
theorem dX11_way_28 : decode cX11_way 28 = .ok (.ireturn, 1) := by decide +kernel
theorem dX11_way_29 : decode cX11_way 29 = .ok (.aload_n 0, 1) := by decide +kernel
theorem dX11_way_30 : decode cX11_way 30 = .ok (.getfield 31, 3) := by decide +kernel
theorem dX11_way_33 : decode cX11_way 33 = .ok (.lconst 1, 1) := by decide +kernel
theorem dX11_way_34 : decode cX11_way 34 = .ok (.iload_n 2, 1) := by decide +kernel
theorem dX11_way_35 : decode cX11_way 35 = .ok (.lshl, 1) := by decide +kernel
theorem dX11_way_36 : decode cX11_way 36 = .ok (.invokevirtual 133, 3) := by decide +kernel
theorem dX11_way_39 : decode cX11_way 39 = .ok (.aload_n 0, 1) := by decide +kernel
theorem dX11_way_40 : decode cX11_way 40 = .ok (.getfield 31, 3) := by decide +kernel
theorem dX11_way_43 : decode cX11_way 43 = .ok (.iload_n 1, 1) := by decide +kernel
theorem dX11_way_44 : decode cX11_way 44 = .ok (.iload_n 2, 1) := by decide +kernel
theorem dX11_way_45 : decode cX11_way 45 = .ok (.invokevirtual 137, 3) := by decide +kernel
theorem dX11_way_48 : decode cX11_way 48 = .ok (.istore_n 3, 1) := by decide +kernel
theorem dX11_way_49 : decode cX11_way 49 = .ok (.iload_n 3, 1) := by decide +kernel
theorem dX11_way_50 : decode cX11_way 50 = .ok (.ldc 140, 2) := by decide +kernel
theorem dX11_way_52 : decode cX11_way 52 = .ok (.if_icmp .lt 12, 3) := by decide +kernel
theorem dX11_way_55 : decode cX11_way 55 = .ok (.aload_n 0, 1) := by decide +kernel
theorem dX11_way_56 : decode cX11_way 56 = .ok (.bipush (-8), 2) := by decide +kernel
theorem dX11_way_58 : decode cX11_way 58 = .ok (.invokevirtual 88, 3) := by decide +kernel
theorem dX11_way_61 : decode cX11_way 61 = .ok (.goto 8, 3) := by decide +kernel
theorem dX11_way_64 : decode cX11_way 64 = .ok (.aload_n 0, 1) := by decide +kernel
theorem dX11_way_65 : decode cX11_way 65 = .ok (.iload_n 3, 1) := by decide +kernel
theorem dX11_way_66 : decode cX11_way 66 = .ok (.invokevirtual 98, 3) := by decide +kernel
theorem dX11_way_69 : decode cX11_way 69 = .ok (.ireturn, 1) := by decide +kernel
theorem dX11_wayAt_0 : decode cX11_wayAt 0 = .ok (.aload_n 0, 1) := by decide +kernel
theorem dX11_wayAt_1 : decode cX11_wayAt 1 = .ok (.getfield 19, 3) := by decide +kernel
theorem dX11_wayAt_4 : decode cX11_wayAt 4 = .ok (.iload_n 1, 1) := by decide +kernel
theorem dX11_wayAt_5 : decode cX11_wayAt 5 = .ok (.invokevirtual 101, 3) := by decide +kernel
theorem dX11_wayAt_8 : decode cX11_wayAt 8 = .ok (.ifCond .eq 14, 3) := by decide +kernel
theorem dX11_wayAt_11 : decode cX11_wayAt 11 = .ok (.aload_n 0, 1) := by decide +kernel
theorem dX11_wayAt_12 : decode cX11_wayAt 12 = .ok (.getfield 19, 3) := by decide +kernel
theorem dX11_wayAt_15 : decode cX11_wayAt 15 = .ok (.iload_n 2, 1) := by decide +kernel
theorem dX11_wayAt_16 : decode cX11_wayAt 16 = .ok (.invokevirtual 101, 3) := by decide +kernel
theorem dX11_wayAt_19 : decode cX11_wayAt 19 = .ok (.ifCond .ne 10, 3) := by decide +kernel
theorem dX11_wayAt_22 : decode cX11_wayAt 22 = .ok (.aload_n 0, 1) := by decide +kernel
theorem dX11_wayAt_23 : decode cX11_wayAt 23 = .ok (.bipush (-2), 2) := by decide +kernel
theorem dX11_wayAt_25 : decode cX11_wayAt 25 = .ok (.invokevirtual 88, 3) := by decide +kernel
theorem dX11_wayAt_28 : decode cX11_wayAt 28 = .ok (.ireturn, 1) := by decide +kernel
theorem dX11_wayAt_29 : decode cX11_wayAt 29 = .ok (.aload_n 0, 1) := by decide +kernel
theorem dX11_wayAt_30 : decode cX11_wayAt 30 = .ok (.getfield 31, 3) := by decide +kernel
theorem dX11_wayAt_33 : decode cX11_wayAt 33 = .ok (.lconst 1, 1) := by decide +kernel
theorem dX11_wayAt_34 : decode cX11_wayAt 34 = .ok (.iload_n 2, 1) := by decide +kernel
theorem dX11_wayAt_35 : decode cX11_wayAt 35 = .ok (.lshl, 1) := by decide +kernel
theorem dX11_wayAt_36 : decode cX11_wayAt 36 = .ok (.invokevirtual 133, 3) := by decide +kernel
theorem dX11_wayAt_39 : decode cX11_wayAt 39 = .ok (.aload_n 0, 1) := by decide +kernel
theorem dX11_wayAt_40 : decode cX11_wayAt 40 = .ok (.getfield 31, 3) := by decide +kernel
theorem dX11_wayAt_43 : decode cX11_wayAt 43 = .ok (.iload_n 1, 1) := by decide +kernel
theorem dX11_wayAt_44 : decode cX11_wayAt 44 = .ok (.iload_n 2, 1) := by decide +kernel
theorem dX11_wayAt_45 : decode cX11_wayAt 45 = .ok (.invokevirtual 137, 3) := by decide +kernel
theorem dX11_wayAt_48 : decode cX11_wayAt 48 = .ok (.ldc 140, 2) := by decide +kernel
theorem dX11_wayAt_50 : decode cX11_wayAt 50 = .ok (.if_icmp .lt 10, 3) := by decide +kernel
theorem dX11_wayAt_53 : decode cX11_wayAt 53 = .ok (.aload_n 0, 1) := by decide +kernel
theorem dX11_wayAt_54 : decode cX11_wayAt 54 = .ok (.bipush (-8), 2) := by decide +kernel
theorem dX11_wayAt_56 : decode cX11_wayAt 56 = .ok (.invokevirtual 88, 3) := by decide +kernel
theorem dX11_wayAt_59 : decode cX11_wayAt 59 = .ok (.ireturn, 1) := by decide +kernel
theorem dX11_wayAt_60 : decode cX11_wayAt 60 = .ok (.aload_n 0, 1) := by decide +kernel
theorem dX11_wayAt_61 : decode cX11_wayAt 61 = .ok (.aload_n 0, 1) := by decide +kernel
theorem dX11_wayAt_62 : decode cX11_wayAt 62 = .ok (.getfield 31, 3) := by decide +kernel
theorem dX11_wayAt_65 : decode cX11_wayAt 65 = .ok (.iload_n 1, 1) := by decide +kernel
theorem dX11_wayAt_66 : decode cX11_wayAt 66 = .ok (.iload_n 2, 1) := by decide +kernel
theorem dX11_wayAt_67 : decode cX11_wayAt 67 = .ok (.iload_n 3, 1) := by decide +kernel
theorem dX11_wayAt_68 : decode cX11_wayAt 68 = .ok (.invokevirtual 141, 3) := by decide +kernel
theorem dX11_wayAt_71 : decode cX11_wayAt 71 = .ok (.invokevirtual 98, 3) := by decide +kernel
theorem dX11_wayAt_74 : decode cX11_wayAt 74 = .ok (.ireturn, 1) := by decide +kernel
theorem dX11_gauge_0 : decode cX11_gauge 0 = .ok (.aload_n 0, 1) := by decide +kernel
theorem dX11_gauge_1 : decode cX11_gauge 1 = .ok (.getfield 19, 3) := by decide +kernel
theorem dX11_gauge_4 : decode cX11_gauge 4 = .ok (.iload_n 1, 1) := by decide +kernel
theorem dX11_gauge_5 : decode cX11_gauge 5 = .ok (.invokevirtual 101, 3) := by decide +kernel
theorem dX11_gauge_8 : decode cX11_gauge 8 = .ok (.ifCond .ne 10, 3) := by decide +kernel
theorem dX11_gauge_11 : decode cX11_gauge 11 = .ok (.aload_n 0, 1) := by decide +kernel
theorem dX11_gauge_12 : decode cX11_gauge 12 = .ok (.bipush (-2), 2) := by decide +kernel
theorem dX11_gauge_14 : decode cX11_gauge 14 = .ok (.invokevirtual 88, 3) := by decide +kernel
theorem dX11_gauge_17 : decode cX11_gauge 17 = .ok (.ireturn, 1) := by decide +kernel
theorem dX11_gauge_18 : decode cX11_gauge 18 = .ok (.aload_n 0, 1) := by decide +kernel
theorem dX11_gauge_19 : decode cX11_gauge 19 = .ok (.getfield 19, 3) := by decide +kernel
theorem dX11_gauge_22 : decode cX11_gauge 22 = .ok (.getfield 144, 3) := by decide +kernel
theorem dX11_gauge_25 : decode cX11_gauge 25 = .ok (.getfield 109, 3) := by decide +kernel
theorem dX11_gauge_28 : decode cX11_gauge 28 = .ok (.bipush 20, 2) := by decide +kernel
theorem dX11_gauge_30 : decode cX11_gauge 30 = .ok (.if_icmp .lt 10, 3) := by decide +kernel
theorem dX11_gauge_33 : decode cX11_gauge 33 = .ok (.aload_n 0, 1) := by decide +kernel
theorem dX11_gauge_34 : decode cX11_gauge 34 = .ok (.bipush (-3), 2) := by decide +kernel
theorem dX11_gauge_36 : decode cX11_gauge 36 = .ok (.invokevirtual 88, 3) := by decide +kernel
theorem dX11_gauge_39 : decode cX11_gauge 39 = .ok (.ireturn, 1) := by decide +kernel
theorem dX11_gauge_40 : decode cX11_gauge 40 = .ok (.aload_n 0, 1) := by decide +kernel
theorem dX11_gauge_41 : decode cX11_gauge 41 = .ok (.invokevirtual 95, 3) := by decide +kernel
theorem dX11_gauge_44 : decode cX11_gauge 44 = .ok (.aload_n 0, 1) := by decide +kernel
theorem dX11_gauge_45 : decode cX11_gauge 45 = .ok (.aload_n 0, 1) := by decide +kernel
theorem dX11_gauge_46 : decode cX11_gauge 46 = .ok (.getfield 19, 3) := by decide +kernel
theorem dX11_gauge_49 : decode cX11_gauge 49 = .ok (.iload_n 1, 1) := by decide +kernel
theorem dX11_gauge_50 : decode cX11_gauge 50 = .ok (.iload_n 2, 1) := by decide +kernel
theorem dX11_gauge_51 : decode cX11_gauge 51 = .ok (.invokevirtual 147, 3) := by decide +kernel
theorem dX11_gauge_54 : decode cX11_gauge 54 = .ok (.invokevirtual 98, 3) := by decide +kernel
theorem dX11_gauge_57 : decode cX11_gauge 57 = .ok (.ireturn, 1) := by decide +kernel
theorem dX11_row_0 : decode cX11_row 0 = .ok (.aload_n 0, 1) := by decide +kernel
theorem dX11_row_1 : decode cX11_row 1 = .ok (.getfield 19, 3) := by decide +kernel
theorem dX11_row_4 : decode cX11_row 4 = .ok (.getfield 144, 3) := by decide +kernel
theorem dX11_row_7 : decode cX11_row 7 = .ok (.iload_n 1, 1) := by decide +kernel
theorem dX11_row_8 : decode cX11_row 8 = .ok (.invokevirtual 126, 3) := by decide +kernel
theorem dX11_row_11 : decode cX11_row 11 = .ok (.ifCond .eq 10, 3) := by decide +kernel
theorem dX11_row_14 : decode cX11_row 14 = .ok (.iload_n 2, 1) := by decide +kernel
theorem dX11_row_15 : decode cX11_row 15 = .ok (.sipush 200, 3) := by decide +kernel
theorem dX11_row_18 : decode cX11_row 18 = .ok (.if_icmp .le 10, 3) := by decide +kernel
theorem dX11_row_21 : decode cX11_row 21 = .ok (.aload_n 0, 1) := by decide +kernel
theorem dX11_row_22 : decode cX11_row 22 = .ok (.bipush (-2), 2) := by decide +kernel
theorem dX11_row_24 : decode cX11_row 24 = .ok (.invokevirtual 88, 3) := by decide +kernel
theorem dX11_row_27 : decode cX11_row 27 = .ok (.ireturn, 1) := by decide +kernel
theorem dX11_row_28 : decode cX11_row 28 = .ok (.iload_n 2, 1) := by decide +kernel
theorem dX11_row_29 : decode cX11_row 29 = .ok (.ifCond .ge 10, 3) := by decide +kernel
theorem dX11_row_32 : decode cX11_row 32 = .ok (.aload_n 0, 1) := by decide +kernel
theorem dX11_row_33 : decode cX11_row 33 = .ok (.bipush (-7), 2) := by decide +kernel
theorem dX11_row_35 : decode cX11_row 35 = .ok (.invokevirtual 88, 3) := by decide +kernel
theorem dX11_row_38 : decode cX11_row 38 = .ok (.ireturn, 1) := by decide +kernel
theorem dX11_row_39 : decode cX11_row 39 = .ok (.aload_n 0, 1) := by decide +kernel
theorem dX11_row_40 : decode cX11_row 40 = .ok (.invokevirtual 95, 3) := by decide +kernel
theorem dX11_row_43 : decode cX11_row 43 = .ok (.aload_n 0, 1) := by decide +kernel
theorem dX11_row_44 : decode cX11_row 44 = .ok (.getfield 19, 3) := by decide +kernel
theorem dX11_row_47 : decode cX11_row 47 = .ok (.iload_n 1, 1) := by decide +kernel
theorem dX11_row_48 : decode cX11_row 48 = .ok (.iload_n 2, 1) := by decide +kernel
theorem dX11_row_49 : decode cX11_row 49 = .ok (.invokevirtual 151, 3) := by decide +kernel
theorem dX11_row_52 : decode cX11_row 52 = .ok (.aload_n 0, 1) := by decide +kernel
theorem dX11_row_53 : decode cX11_row 53 = .ok (.iconst 1, 1) := by decide +kernel
theorem dX11_row_54 : decode cX11_row 54 = .ok (.invokevirtual 98, 3) := by decide +kernel
theorem dX11_row_57 : decode cX11_row 57 = .ok (.ireturn, 1) := by decide +kernel
theorem dX11_lose_0 : decode cX11_lose 0 = .ok (.aload_n 0, 1) := by decide +kernel
theorem dX11_lose_1 : decode cX11_lose 1 = .ok (.getfield 19, 3) := by decide +kernel
theorem dX11_lose_4 : decode cX11_lose 4 = .ok (.getfield 144, 3) := by decide +kernel
theorem dX11_lose_7 : decode cX11_lose 7 = .ok (.iload_n 1, 1) := by decide +kernel
theorem dX11_lose_8 : decode cX11_lose 8 = .ok (.invokevirtual 126, 3) := by decide +kernel
theorem dX11_lose_11 : decode cX11_lose 11 = .ok (.ifCond .ne 10, 3) := by decide +kernel
theorem dX11_lose_14 : decode cX11_lose 14 = .ok (.aload_n 0, 1) := by decide +kernel
theorem dX11_lose_15 : decode cX11_lose 15 = .ok (.bipush (-2), 2) := by decide +kernel
theorem dX11_lose_17 : decode cX11_lose 17 = .ok (.invokevirtual 88, 3) := by decide +kernel
theorem dX11_lose_20 : decode cX11_lose 20 = .ok (.ireturn, 1) := by decide +kernel
theorem dX11_lose_21 : decode cX11_lose 21 = .ok (.aload_n 0, 1) := by decide +kernel
theorem dX11_lose_22 : decode cX11_lose 22 = .ok (.getfield 19, 3) := by decide +kernel
theorem dX11_lose_25 : decode cX11_lose 25 = .ok (.iload_n 1, 1) := by decide +kernel
theorem dX11_lose_26 : decode cX11_lose 26 = .ok (.invokevirtual 155, 3) := by decide +kernel
theorem dX11_lose_29 : decode cX11_lose 29 = .ok (.istore_n 2, 1) := by decide +kernel
theorem dX11_lose_30 : decode cX11_lose 30 = .ok (.aload_n 0, 1) := by decide +kernel
theorem dX11_lose_31 : decode cX11_lose 31 = .ok (.invokevirtual 95, 3) := by decide +kernel
theorem dX11_lose_34 : decode cX11_lose 34 = .ok (.aload_n 0, 1) := by decide +kernel
theorem dX11_lose_35 : decode cX11_lose 35 = .ok (.getfield 19, 3) := by decide +kernel
theorem dX11_lose_38 : decode cX11_lose 38 = .ok (.getfield 144, 3) := by decide +kernel
theorem dX11_lose_41 : decode cX11_lose 41 = .ok (.iload_n 1, 1) := by decide +kernel
theorem dX11_lose_42 : decode cX11_lose 42 = .ok (.iconst 2, 1) := by decide +kernel
theorem dX11_lose_43 : decode cX11_lose 43 = .ok (.iconst (-1), 1) := by decide +kernel
theorem dX11_lose_44 : decode cX11_lose 44 = .ok (.invokevirtual 118, 3) := by decide +kernel
theorem dX11_lose_47 : decode cX11_lose 47 = .ok (.aload_n 0, 1) := by decide +kernel
theorem dX11_lose_48 : decode cX11_lose 48 = .ok (.iload_n 2, 1) := by decide +kernel
theorem dX11_lose_49 : decode cX11_lose 49 = .ok (.ifCond .eq 7, 3) := by decide +kernel
theorem dX11_lose_52 : decode cX11_lose 52 = .ok (.iconst 0, 1) := by decide +kernel
theorem dX11_lose_53 : decode cX11_lose 53 = .ok (.goto 4, 3) := by decide +kernel
theorem dX11_lose_56 : decode cX11_lose 56 = .ok (.iconst 1, 1) := by decide +kernel
theorem dX11_lose_57 : decode cX11_lose 57 = .ok (.invokevirtual 98, 3) := by decide +kernel
theorem dX11_lose_60 : decode cX11_lose 60 = .ok (.ireturn, 1) := by decide +kernel
theorem dX11_reading_0 : decode cX11_reading 0 = .ok (.aload_n 0, 1) := by decide +kernel
theorem dX11_reading_1 : decode cX11_reading 1 = .ok (.getfield 19, 3) := by decide +kernel
theorem dX11_reading_4 : decode cX11_reading 4 = .ok (.getfield 144, 3) := by decide +kernel
theorem dX11_reading_7 : decode cX11_reading 7 = .ok (.iload_n 1, 1) := by decide +kernel
theorem dX11_reading_8 : decode cX11_reading 8 = .ok (.invokevirtual 126, 3) := by decide +kernel
theorem dX11_reading_11 : decode cX11_reading 11 = .ok (.ifCond .ne 10, 3) := by decide +kernel
theorem dX11_reading_14 : decode cX11_reading 14 = .ok (.aload_n 0, 1) := by decide +kernel
theorem dX11_reading_15 : decode cX11_reading 15 = .ok (.bipush (-2), 2) := by decide +kernel
theorem dX11_reading_17 : decode cX11_reading 17 = .ok (.invokevirtual 88, 3) := by decide +kernel
theorem dX11_reading_20 : decode cX11_reading 20 = .ok (.ireturn, 1) := by decide +kernel
theorem dX11_reading_21 : decode cX11_reading 21 = .ok (.aload_n 0, 1) := by decide +kernel
theorem dX11_reading_22 : decode cX11_reading 22 = .ok (.iload_n 1, 1) := by decide +kernel
theorem dX11_reading_23 : decode cX11_reading 23 = .ok (.iload_n 2, 1) := by decide +kernel
theorem dX11_reading_24 : decode cX11_reading 24 = .ok (.aload_n 0, 1) := by decide +kernel
theorem dX11_reading_25 : decode cX11_reading 25 = .ok (.getfield 19, 3) := by decide +kernel
theorem dX11_reading_28 : decode cX11_reading 28 = .ok (.iload_n 1, 1) := by decide +kernel
theorem dX11_reading_29 : decode cX11_reading 29 = .ok (.invokevirtual 158, 3) := by decide +kernel
theorem dX11_reading_32 : decode cX11_reading 32 = .ok (.ifCond .eq 11, 3) := by decide +kernel
theorem dX11_reading_35 : decode cX11_reading 35 = .ok (.iload_n 3, 1) := by decide +kernel
theorem dX11_reading_36 : decode cX11_reading 36 = .ok (.i2s, 1) := by decide +kernel
theorem dX11_reading_37 : decode cX11_reading 37 = .ok (.invokestatic 161, 3) := by decide +kernel
theorem dX11_reading_40 : decode cX11_reading 40 = .ok (.goto 5, 3) := by decide +kernel
theorem dX11_reading_43 : decode cX11_reading 43 = .ok (.iload_n 3, 1) := by decide +kernel
theorem dX11_reading_44 : decode cX11_reading 44 = .ok (.i2l, 1) := by decide +kernel
theorem dX11_reading_45 : decode cX11_reading 45 = .ok (.invokevirtual 165, 3) := by decide +kernel
theorem dX11_reading_48 : decode cX11_reading 48 = .ok (.ireturn, 1) := by decide +kernel
theorem dX11_none_0 : decode cX11_none 0 = .ok (.aload_n 0, 1) := by decide +kernel
theorem dX11_none_1 : decode cX11_none 1 = .ok (.getfield 19, 3) := by decide +kernel
theorem dX11_none_4 : decode cX11_none 4 = .ok (.getfield 144, 3) := by decide +kernel
theorem dX11_none_7 : decode cX11_none 7 = .ok (.iload_n 1, 1) := by decide +kernel
theorem dX11_none_8 : decode cX11_none 8 = .ok (.invokevirtual 126, 3) := by decide +kernel
theorem dX11_none_11 : decode cX11_none 11 = .ok (.ifCond .eq 12, 3) := by decide +kernel
theorem dX11_none_14 : decode cX11_none 14 = .ok (.iload_n 3, 1) := by decide +kernel
theorem dX11_none_15 : decode cX11_none 15 = .ok (.ifCond .lt 8, 3) := by decide +kernel
theorem dX11_none_18 : decode cX11_none 18 = .ok (.iload_n 3, 1) := by decide +kernel
theorem dX11_none_19 : decode cX11_none 19 = .ok (.iconst 1, 1) := by decide +kernel
theorem dX11_none_20 : decode cX11_none 20 = .ok (.if_icmp .le 10, 3) := by decide +kernel
theorem dX11_none_23 : decode cX11_none 23 = .ok (.aload_n 0, 1) := by decide +kernel
theorem dX11_none_24 : decode cX11_none 24 = .ok (.bipush (-2), 2) := by decide +kernel
theorem dX11_none_26 : decode cX11_none 26 = .ok (.invokevirtual 88, 3) := by decide +kernel
theorem dX11_none_29 : decode cX11_none 29 = .ok (.ireturn, 1) := by decide +kernel
theorem dX11_none_30 : decode cX11_none 30 = .ok (.aload_n 0, 1) := by decide +kernel
theorem dX11_none_31 : decode cX11_none 31 = .ok (.iload_n 1, 1) := by decide +kernel
theorem dX11_none_32 : decode cX11_none 32 = .ok (.iload_n 2, 1) := by decide +kernel
theorem dX11_none_33 : decode cX11_none 33 = .ok (.iload_n 3, 1) := by decide +kernel
theorem dX11_none_34 : decode cX11_none 34 = .ok (.ifCond .ne 9, 3) := by decide +kernel
theorem dX11_none_37 : decode cX11_none 37 = .ok (.ldc2_w 169, 3) := by decide +kernel
theorem dX11_none_40 : decode cX11_none 40 = .ok (.goto 6, 3) := by decide +kernel
theorem dX11_none_43 : decode cX11_none 43 = .ok (.ldc2_w 171, 3) := by decide +kernel
theorem dX11_none_46 : decode cX11_none 46 = .ok (.invokevirtual 165, 3) := by decide +kernel
theorem dX11_none_49 : decode cX11_none 49 = .ok (.ireturn, 1) := by decide +kernel
theorem dX11_read_0 : decode cX11_read 0 = .ok (.aload_n 0, 1) := by decide +kernel
theorem dX11_read_1 : decode cX11_read 1 = .ok (.getfield 19, 3) := by decide +kernel
theorem dX11_read_4 : decode cX11_read 4 = .ok (.getfield 144, 3) := by decide +kernel
theorem dX11_read_7 : decode cX11_read 7 = .ok (.iload_n 1, 1) := by decide +kernel
theorem dX11_read_8 : decode cX11_read 8 = .ok (.invokevirtual 126, 3) := by decide +kernel
theorem dX11_read_11 : decode cX11_read 11 = .ok (.ifCond .ne 10, 3) := by decide +kernel
theorem dX11_read_14 : decode cX11_read 14 = .ok (.aload_n 0, 1) := by decide +kernel
theorem dX11_read_15 : decode cX11_read 15 = .ok (.bipush (-2), 2) := by decide +kernel
theorem dX11_read_17 : decode cX11_read 17 = .ok (.invokevirtual 88, 3) := by decide +kernel
theorem dX11_read_20 : decode cX11_read 20 = .ok (.ireturn, 1) := by decide +kernel
theorem dX11_read_21 : decode cX11_read 21 = .ok (.aload_n 0, 1) := by decide +kernel
theorem dX11_read_22 : decode cX11_read 22 = .ok (.getfield 19, 3) := by decide +kernel
theorem dX11_read_25 : decode cX11_read 25 = .ok (.iload_n 1, 1) := by decide +kernel
theorem dX11_read_26 : decode cX11_read 26 = .ok (.iload_n 2, 1) := by decide +kernel
theorem dX11_read_27 : decode cX11_read 27 = .ok (.invokevirtual 173, 3) := by decide +kernel
theorem dX11_read_30 : decode cX11_read 30 = .ok (.istore_n 3, 1) := by decide +kernel
theorem dX11_read_31 : decode cX11_read 31 = .ok (.iload_n 3, 1) := by decide +kernel
theorem dX11_read_32 : decode cX11_read 32 = .ok (.ifCond .eq 11, 3) := by decide +kernel
theorem dX11_read_35 : decode cX11_read 35 = .ok (.aload_n 0, 1) := by decide +kernel
theorem dX11_read_36 : decode cX11_read 36 = .ok (.iload_n 3, 1) := by decide +kernel
theorem dX11_read_37 : decode cX11_read 37 = .ok (.invokevirtual 88, 3) := by decide +kernel
theorem dX11_read_40 : decode cX11_read 40 = .ok (.goto 16, 3) := by decide +kernel
theorem dX11_read_43 : decode cX11_read 43 = .ok (.aload_n 0, 1) := by decide +kernel
theorem dX11_read_44 : decode cX11_read 44 = .ok (.aload_n 0, 1) := by decide +kernel
theorem dX11_read_45 : decode cX11_read 45 = .ok (.getfield 19, 3) := by decide +kernel
theorem dX11_read_48 : decode cX11_read 48 = .ok (.iload_n 1, 1) := by decide +kernel
theorem dX11_read_49 : decode cX11_read 49 = .ok (.iload_n 2, 1) := by decide +kernel
theorem dX11_read_50 : decode cX11_read 50 = .ok (.invokevirtual 176, 3) := by decide +kernel
theorem dX11_read_53 : decode cX11_read 53 = .ok (.invokevirtual 98, 3) := by decide +kernel
theorem dX11_read_56 : decode cX11_read 56 = .ok (.ireturn, 1) := by decide +kernel
theorem dX11_copy_0 : decode cX11_copy 0 = .ok (.aload_n 0, 1) := by decide +kernel
theorem dX11_copy_1 : decode cX11_copy 1 = .ok (.getfield 19, 3) := by decide +kernel
theorem dX11_copy_4 : decode cX11_copy 4 = .ok (.getfield 144, 3) := by decide +kernel
theorem dX11_copy_7 : decode cX11_copy 7 = .ok (.iload_n 1, 1) := by decide +kernel
theorem dX11_copy_8 : decode cX11_copy 8 = .ok (.invokevirtual 126, 3) := by decide +kernel
theorem dX11_copy_11 : decode cX11_copy 11 = .ok (.ifCond .eq 36, 3) := by decide +kernel
theorem dX11_copy_14 : decode cX11_copy 14 = .ok (.aload_n 0, 1) := by decide +kernel
theorem dX11_copy_15 : decode cX11_copy 15 = .ok (.getfield 19, 3) := by decide +kernel
theorem dX11_copy_18 : decode cX11_copy 18 = .ok (.getfield 144, 3) := by decide +kernel
theorem dX11_copy_21 : decode cX11_copy 21 = .ok (.iload_n 3, 1) := by decide +kernel
theorem dX11_copy_22 : decode cX11_copy 22 = .ok (.invokevirtual 126, 3) := by decide +kernel
theorem dX11_copy_25 : decode cX11_copy 25 = .ok (.ifCond .eq 22, 3) := by decide +kernel
theorem dX11_copy_28 : decode cX11_copy 28 = .ok (.aload_n 0, 1) := by decide +kernel
theorem dX11_copy_29 : decode cX11_copy 29 = .ok (.getfield 19, 3) := by decide +kernel
theorem dX11_copy_32 : decode cX11_copy 32 = .ok (.iload_n 1, 1) := by decide +kernel
theorem dX11_copy_33 : decode cX11_copy 33 = .ok (.invokevirtual 158, 3) := by decide +kernel
theorem dX11_copy_36 : decode cX11_copy 36 = .ok (.aload_n 0, 1) := by decide +kernel
theorem dX11_copy_37 : decode cX11_copy 37 = .ok (.getfield 19, 3) := by decide +kernel
theorem dX11_copy_40 : decode cX11_copy 40 = .ok (.iload_n 3, 1) := by decide +kernel
theorem dX11_copy_41 : decode cX11_copy 41 = .ok (.invokevirtual 158, 3) := by decide +kernel
theorem dX11_copy_44 : decode cX11_copy 44 = .ok (.if_icmp .eq 10, 3) := by decide +kernel
theorem dX11_copy_47 : decode cX11_copy 47 = .ok (.aload_n 0, 1) := by decide +kernel
theorem dX11_copy_48 : decode cX11_copy 48 = .ok (.bipush (-2), 2) := by decide +kernel
theorem dX11_copy_50 : decode cX11_copy 50 = .ok (.invokevirtual 88, 3) := by decide +kernel
theorem dX11_copy_53 : decode cX11_copy 53 = .ok (.ireturn, 1) := by decide +kernel
theorem dX11_copy_54 : decode cX11_copy 54 = .ok (.aload_n 0, 1) := by decide +kernel
theorem dX11_copy_55 : decode cX11_copy 55 = .ok (.getfield 19, 3) := by decide +kernel
theorem dX11_copy_58 : decode cX11_copy 58 = .ok (.iload_n 1, 1) := by decide +kernel
theorem dX11_copy_59 : decode cX11_copy 59 = .ok (.iload_n 2, 1) := by decide +kernel
theorem dX11_copy_60 : decode cX11_copy 60 = .ok (.iload_n 3, 1) := by decide +kernel
theorem dX11_copy_61 : decode cX11_copy 61 = .ok (.iload 4, 2) := by decide +kernel
theorem dX11_copy_63 : decode cX11_copy 63 = .ok (.iload 5, 2) := by decide +kernel
theorem dX11_copy_65 : decode cX11_copy 65 = .ok (.invokevirtual 179, 3) := by decide +kernel
theorem dX11_copy_68 : decode cX11_copy 68 = .ok (.istore 6, 2) := by decide +kernel
theorem dX11_copy_70 : decode cX11_copy 70 = .ok (.iload 6, 2) := by decide +kernel
theorem dX11_copy_72 : decode cX11_copy 72 = .ok (.ifCond .eq 10, 3) := by decide +kernel
theorem dX11_copy_75 : decode cX11_copy 75 = .ok (.aload_n 0, 1) := by decide +kernel
theorem dX11_copy_76 : decode cX11_copy 76 = .ok (.iload 6, 2) := by decide +kernel
theorem dX11_copy_78 : decode cX11_copy 78 = .ok (.invokevirtual 88, 3) := by decide +kernel
theorem dX11_copy_81 : decode cX11_copy 81 = .ok (.ireturn, 1) := by decide +kernel
theorem dX11_copy_82 : decode cX11_copy 82 = .ok (.aload_n 0, 1) := by decide +kernel
theorem dX11_copy_83 : decode cX11_copy 83 = .ok (.invokevirtual 95, 3) := by decide +kernel
theorem dX11_copy_86 : decode cX11_copy 86 = .ok (.aload_n 0, 1) := by decide +kernel
theorem dX11_copy_87 : decode cX11_copy 87 = .ok (.getfield 19, 3) := by decide +kernel
theorem dX11_copy_90 : decode cX11_copy 90 = .ok (.iload_n 1, 1) := by decide +kernel
theorem dX11_copy_91 : decode cX11_copy 91 = .ok (.iload_n 2, 1) := by decide +kernel
theorem dX11_copy_92 : decode cX11_copy 92 = .ok (.iload_n 3, 1) := by decide +kernel
theorem dX11_copy_93 : decode cX11_copy 93 = .ok (.iload 4, 2) := by decide +kernel
theorem dX11_copy_95 : decode cX11_copy 95 = .ok (.iload 5, 2) := by decide +kernel
theorem dX11_copy_97 : decode cX11_copy 97 = .ok (.invokevirtual 183, 3) := by decide +kernel
theorem dX11_copy_100 : decode cX11_copy 100 = .ok (.aload_n 0, 1) := by decide +kernel
theorem dX11_copy_101 : decode cX11_copy 101 = .ok (.iconst 1, 1) := by decide +kernel
theorem dX11_copy_102 : decode cX11_copy 102 = .ok (.invokevirtual 98, 3) := by decide +kernel
theorem dX11_copy_105 : decode cX11_copy 105 = .ok (.ireturn, 1) := by decide +kernel
theorem dX11_copies_0 : decode cX11_copies 0 = .ok (.iconst 0, 1) := by decide +kernel
theorem dX11_copies_1 : decode cX11_copies 1 = .ok (.istore 4, 2) := by decide +kernel
theorem dX11_copies_3 : decode cX11_copies 3 = .ok (.iconst 0, 1) := by decide +kernel
theorem dX11_copies_4 : decode cX11_copies 4 = .ok (.istore 5, 2) := by decide +kernel
theorem dX11_copies_6 : decode cX11_copies 6 = .ok (.iload 5, 2) := by decide +kernel
theorem dX11_copies_8 : decode cX11_copies 8 = .ok (.aload_n 0, 1) := by decide +kernel
theorem dX11_copies_9 : decode cX11_copies 9 = .ok (.getfield 19, 3) := by decide +kernel
theorem dX11_copies_12 : decode cX11_copies 12 = .ok (.getfield 144, 3) := by decide +kernel
theorem dX11_copies_15 : decode cX11_copies 15 = .ok (.getfield 109, 3) := by decide +kernel
theorem dX11_copies_18 : decode cX11_copies 18 = .ok (.if_icmp .ge 66, 3) := by decide +kernel
theorem dX11_copies_21 : decode cX11_copies 21 = .ok (.aload_n 0, 1) := by decide +kernel
theorem dX11_copies_22 : decode cX11_copies 22 = .ok (.getfield 19, 3) := by decide +kernel
theorem dX11_copies_25 : decode cX11_copies 25 = .ok (.iload 5, 2) := by decide +kernel
theorem dX11_copies_27 : decode cX11_copies 27 = .ok (.iload_n 1, 1) := by decide +kernel
theorem dX11_copies_28 : decode cX11_copies 28 = .ok (.iload 5, 2) := by decide +kernel
theorem dX11_copies_30 : decode cX11_copies 30 = .ok (.iload_n 2, 1) := by decide +kernel
theorem dX11_copies_31 : decode cX11_copies 31 = .ok (.iload_n 3, 1) := by decide +kernel
theorem dX11_copies_32 : decode cX11_copies 32 = .ok (.invokevirtual 179, 3) := by decide +kernel
theorem dX11_copies_35 : decode cX11_copies 35 = .ok (.istore 6, 2) := by decide +kernel
theorem dX11_copies_37 : decode cX11_copies 37 = .ok (.iload 6, 2) := by decide +kernel
theorem dX11_copies_39 : decode cX11_copies 39 = .ok (.ifCond .eq 13, 3) := by decide +kernel
theorem dX11_copies_42 : decode cX11_copies 42 = .ok (.aload_n 0, 1) := by decide +kernel
theorem dX11_copies_43 : decode cX11_copies 43 = .ok (.iload 6, 2) := by decide +kernel
theorem dX11_copies_45 : decode cX11_copies 45 = .ok (.invokevirtual 88, 3) := by decide +kernel
theorem dX11_copies_48 : decode cX11_copies 48 = .ok (.pop, 1) := by decide +kernel
theorem dX11_copies_49 : decode cX11_copies 49 = .ok (.iload 4, 2) := by decide +kernel
theorem dX11_copies_51 : decode cX11_copies 51 = .ok (.ireturn, 1) := by decide +kernel
theorem dX11_copies_52 : decode cX11_copies 52 = .ok (.iload 4, 2) := by decide +kernel
theorem dX11_copies_54 : decode cX11_copies 54 = .ok (.ifCond .ne 7, 3) := by decide +kernel
theorem dX11_copies_57 : decode cX11_copies 57 = .ok (.aload_n 0, 1) := by decide +kernel
theorem dX11_copies_58 : decode cX11_copies 58 = .ok (.invokevirtual 95, 3) := by decide +kernel
theorem dX11_copies_61 : decode cX11_copies 61 = .ok (.aload_n 0, 1) := by decide +kernel
theorem dX11_copies_62 : decode cX11_copies 62 = .ok (.getfield 19, 3) := by decide +kernel
theorem dX11_copies_65 : decode cX11_copies 65 = .ok (.iload 5, 2) := by decide +kernel
theorem dX11_copies_67 : decode cX11_copies 67 = .ok (.iload_n 1, 1) := by decide +kernel
theorem dX11_copies_68 : decode cX11_copies 68 = .ok (.iload 5, 2) := by decide +kernel
theorem dX11_copies_70 : decode cX11_copies 70 = .ok (.iload_n 2, 1) := by decide +kernel
theorem dX11_copies_71 : decode cX11_copies 71 = .ok (.iload_n 3, 1) := by decide +kernel
theorem dX11_copies_72 : decode cX11_copies 72 = .ok (.invokevirtual 183, 3) := by decide +kernel
theorem dX11_copies_75 : decode cX11_copies 75 = .ok (.iinc 4 1, 3) := by decide +kernel
theorem dX11_copies_78 : decode cX11_copies 78 = .ok (.iinc 5 1, 3) := by decide +kernel
theorem dX11_copies_81 : decode cX11_copies 81 = .ok (.goto (-75), 3) := by decide +kernel
theorem dX11_copies_84 : decode cX11_copies 84 = .ok (.aload_n 0, 1) := by decide +kernel
theorem dX11_copies_85 : decode cX11_copies 85 = .ok (.iload 4, 2) := by decide +kernel
theorem dX11_copies_87 : decode cX11_copies 87 = .ok (.invokevirtual 98, 3) := by decide +kernel
theorem dX11_copies_90 : decode cX11_copies 90 = .ok (.ireturn, 1) := by decide +kernel
theorem dX11_snow_0 : decode cX11_snow 0 = .ok (.iload_n 1, 1) := by decide +kernel
theorem dX11_snow_1 : decode cX11_snow 1 = .ok (.ifCond .lt 10, 3) := by decide +kernel
theorem dX11_snow_4 : decode cX11_snow 4 = .ok (.iload_n 1, 1) := by decide +kernel
theorem dX11_snow_5 : decode cX11_snow 5 = .ok (.sipush 200, 3) := by decide +kernel
theorem dX11_snow_8 : decode cX11_snow 8 = .ok (.if_icmp .lt 10, 3) := by decide +kernel
theorem dX11_snow_11 : decode cX11_snow 11 = .ok (.aload_n 0, 1) := by decide +kernel
theorem dX11_snow_12 : decode cX11_snow 12 = .ok (.bipush (-2), 2) := by decide +kernel
theorem dX11_snow_14 : decode cX11_snow 14 = .ok (.invokevirtual 88, 3) := by decide +kernel
theorem dX11_snow_17 : decode cX11_snow 17 = .ok (.ireturn, 1) := by decide +kernel
theorem dX11_snow_18 : decode cX11_snow 18 = .ok (.aload_n 0, 1) := by decide +kernel
theorem dX11_snow_19 : decode cX11_snow 19 = .ok (.invokevirtual 95, 3) := by decide +kernel
theorem dX11_snow_22 : decode cX11_snow 22 = .ok (.aload_n 0, 1) := by decide +kernel
theorem dX11_snow_23 : decode cX11_snow 23 = .ok (.iload_n 1, 1) := by decide +kernel
theorem dX11_snow_24 : decode cX11_snow 24 = .ok (.invokevirtual 187, 3) := by decide +kernel
theorem dX11_snow_27 : decode cX11_snow 27 = .ok (.aload_n 0, 1) := by decide +kernel
theorem dX11_snow_28 : decode cX11_snow 28 = .ok (.getfield 31, 3) := by decide +kernel
theorem dX11_snow_31 : decode cX11_snow 31 = .ok (.invokevirtual 191, 3) := by decide +kernel
theorem dX11_snow_34 : decode cX11_snow 34 = .ok (.iconst 0, 1) := by decide +kernel
theorem dX11_snow_35 : decode cX11_snow 35 = .ok (.istore_n 2, 1) := by decide +kernel
theorem dX11_snow_36 : decode cX11_snow 36 = .ok (.iconst 0, 1) := by decide +kernel
theorem dX11_snow_37 : decode cX11_snow 37 = .ok (.istore_n 3, 1) := by decide +kernel
theorem dX11_snow_38 : decode cX11_snow 38 = .ok (.iload_n 3, 1) := by decide +kernel
theorem dX11_snow_39 : decode cX11_snow 39 = .ok (.aload_n 0, 1) := by decide +kernel
theorem dX11_snow_40 : decode cX11_snow 40 = .ok (.getfield 19, 3) := by decide +kernel
theorem dX11_snow_43 : decode cX11_snow 43 = .ok (.getfield 105, 3) := by decide +kernel
theorem dX11_snow_46 : decode cX11_snow 46 = .ok (.getfield 109, 3) := by decide +kernel
theorem dX11_snow_49 : decode cX11_snow 49 = .ok (.if_icmp .ge 20, 3) := by decide +kernel
theorem dX11_snow_52 : decode cX11_snow 52 = .ok (.aload_n 0, 1) := by decide +kernel
theorem dX11_snow_53 : decode cX11_snow 53 = .ok (.iload_n 3, 1) := by decide +kernel
theorem dX11_snow_54 : decode cX11_snow 54 = .ok (.invokevirtual 194, 3) := by decide +kernel
theorem dX11_snow_57 : decode cX11_snow 57 = .ok (.ifCond .eq 6, 3) := by decide +kernel
theorem dX11_snow_60 : decode cX11_snow 60 = .ok (.iinc 2 1, 3) := by decide +kernel
theorem dX11_snow_63 : decode cX11_snow 63 = .ok (.iinc 3 1, 3) := by decide +kernel
theorem dX11_snow_66 : decode cX11_snow 66 = .ok (.goto (-28), 3) := by decide +kernel
theorem dX11_snow_69 : decode cX11_snow 69 = .ok (.aload_n 0, 1) := by decide +kernel
theorem dX11_snow_70 : decode cX11_snow 70 = .ok (.iload_n 2, 1) := by decide +kernel
theorem dX11_snow_71 : decode cX11_snow 71 = .ok (.invokevirtual 98, 3) := by decide +kernel
theorem dX11_snow_74 : decode cX11_snow 74 = .ok (.ireturn, 1) := by decide +kernel
theorem dX11_melt_0 : decode cX11_melt 0 = .ok (.iload_n 1, 1) := by decide +kernel
theorem dX11_melt_1 : decode cX11_melt 1 = .ok (.ifCond .lt 7, 3) := by decide +kernel
theorem dX11_melt_4 : decode cX11_melt 4 = .ok (.iload_n 2, 1) := by decide +kernel
theorem dX11_melt_5 : decode cX11_melt 5 = .ok (.ifCond .ge 10, 3) := by decide +kernel
theorem dX11_melt_8 : decode cX11_melt 8 = .ok (.aload_n 0, 1) := by decide +kernel
theorem dX11_melt_9 : decode cX11_melt 9 = .ok (.bipush (-2), 2) := by decide +kernel
theorem dX11_melt_11 : decode cX11_melt 11 = .ok (.invokevirtual 88, 3) := by decide +kernel
theorem dX11_melt_14 : decode cX11_melt 14 = .ok (.ireturn, 1) := by decide +kernel
theorem dX11_melt_15 : decode cX11_melt 15 = .ok (.iload_n 2, 1) := by decide +kernel
theorem dX11_melt_16 : decode cX11_melt 16 = .ok (.ifCond .ne 10, 3) := by decide +kernel
theorem dX11_melt_19 : decode cX11_melt 19 = .ok (.aload_n 0, 1) := by decide +kernel
theorem dX11_melt_20 : decode cX11_melt 20 = .ok (.bipush (-8), 2) := by decide +kernel
theorem dX11_melt_22 : decode cX11_melt 22 = .ok (.invokevirtual 88, 3) := by decide +kernel
theorem dX11_melt_25 : decode cX11_melt 25 = .ok (.ireturn, 1) := by decide +kernel
theorem dX11_melt_26 : decode cX11_melt 26 = .ok (.iload_n 1, 1) := by decide +kernel
theorem dX11_melt_27 : decode cX11_melt 27 = .ok (.iload_n 2, 1) := by decide +kernel
theorem dX11_melt_28 : decode cX11_melt 28 = .ok (.invokestatic 197, 3) := by decide +kernel
theorem dX11_melt_31 : decode cX11_melt 31 = .ok (.istore_n 3, 1) := by decide +kernel
theorem dX11_melt_32 : decode cX11_melt 32 = .ok (.aload_n 0, 1) := by decide +kernel
theorem dX11_melt_33 : decode cX11_melt 33 = .ok (.invokevirtual 95, 3) := by decide +kernel
theorem dX11_melt_36 : decode cX11_melt 36 = .ok (.iconst 0, 1) := by decide +kernel
theorem dX11_melt_37 : decode cX11_melt 37 = .ok (.istore 4, 2) := by decide +kernel
theorem dX11_melt_39 : decode cX11_melt 39 = .ok (.iload 4, 2) := by decide +kernel
theorem dX11_melt_41 : decode cX11_melt 41 = .ok (.aload_n 0, 1) := by decide +kernel
theorem dX11_melt_42 : decode cX11_melt 42 = .ok (.getfield 19, 3) := by decide +kernel
theorem dX11_melt_45 : decode cX11_melt 45 = .ok (.getfield 105, 3) := by decide +kernel
theorem dX11_melt_48 : decode cX11_melt 48 = .ok (.getfield 109, 3) := by decide +kernel
theorem dX11_melt_51 : decode cX11_melt 51 = .ok (.if_icmp .ge 21, 3) := by decide +kernel
theorem dX11_melt_54 : decode cX11_melt 54 = .ok (.aload_n 0, 1) := by decide +kernel
theorem dX11_melt_55 : decode cX11_melt 55 = .ok (.getfield 19, 3) := by decide +kernel
theorem dX11_melt_58 : decode cX11_melt 58 = .ok (.iload 4, 2) := by decide +kernel
theorem dX11_melt_60 : decode cX11_melt 60 = .ok (.iconst 3, 1) := by decide +kernel
theorem dX11_melt_61 : decode cX11_melt 61 = .ok (.iload_n 3, 1) := by decide +kernel
theorem dX11_melt_62 : decode cX11_melt 62 = .ok (.imul, 1) := by decide +kernel
theorem dX11_melt_63 : decode cX11_melt 63 = .ok (.invokevirtual 200, 3) := by decide +kernel
theorem dX11_melt_66 : decode cX11_melt 66 = .ok (.iinc 4 1, 3) := by decide +kernel
theorem dX11_melt_69 : decode cX11_melt 69 = .ok (.goto (-30), 3) := by decide +kernel
theorem dX11_melt_72 : decode cX11_melt 72 = .ok (.aload_n 0, 1) := by decide +kernel
theorem dX11_melt_73 : decode cX11_melt 73 = .ok (.iload_n 3, 1) := by decide +kernel
theorem dX11_melt_74 : decode cX11_melt 74 = .ok (.invokevirtual 98, 3) := by decide +kernel
theorem dX11_melt_77 : decode cX11_melt 77 = .ok (.ireturn, 1) := by decide +kernel
theorem dX11_plough_0 : decode cX11_plough 0 = .ok (.iload_n 1, 1) := by decide +kernel
theorem dX11_plough_1 : decode cX11_plough 1 = .ok (.ifCond .lt 19, 3) := by decide +kernel
theorem dX11_plough_4 : decode cX11_plough 4 = .ok (.iload_n 1, 1) := by decide +kernel
theorem dX11_plough_5 : decode cX11_plough 5 = .ok (.iconst 3, 1) := by decide +kernel
theorem dX11_plough_6 : decode cX11_plough 6 = .ok (.if_icmp .gt 14, 3) := by decide +kernel
theorem dX11_plough_9 : decode cX11_plough 9 = .ok (.iload_n 2, 1) := by decide +kernel
theorem dX11_plough_10 : decode cX11_plough 10 = .ok (.ifCond .lt 10, 3) := by decide +kernel
theorem dX11_plough_13 : decode cX11_plough 13 = .ok (.iload_n 2, 1) := by decide +kernel
theorem dX11_plough_14 : decode cX11_plough 14 = .ok (.sipush 10000, 3) := by decide +kernel
theorem dX11_plough_17 : decode cX11_plough 17 = .ok (.if_icmp .le 10, 3) := by decide +kernel
theorem dX11_plough_20 : decode cX11_plough 20 = .ok (.aload_n 0, 1) := by decide +kernel
theorem dX11_plough_21 : decode cX11_plough 21 = .ok (.bipush (-2), 2) := by decide +kernel
theorem dX11_plough_23 : decode cX11_plough 23 = .ok (.invokevirtual 88, 3) := by decide +kernel
theorem dX11_plough_26 : decode cX11_plough 26 = .ok (.ireturn, 1) := by decide +kernel
theorem dX11_plough_27 : decode cX11_plough 27 = .ok (.aload_n 0, 1) := by decide +kernel
theorem dX11_plough_28 : decode cX11_plough 28 = .ok (.getfield 19, 3) := by decide +kernel
theorem dX11_plough_31 : decode cX11_plough 31 = .ok (.getfield 203, 3) := by decide +kernel
theorem dX11_plough_34 : decode cX11_plough 34 = .ok (.getfield 109, 3) := by decide +kernel
theorem dX11_plough_37 : decode cX11_plough 37 = .ok (.bipush 12, 2) := by decide +kernel
theorem dX11_plough_39 : decode cX11_plough 39 = .ok (.if_icmp .lt 10, 3) := by decide +kernel
theorem dX11_plough_42 : decode cX11_plough 42 = .ok (.aload_n 0, 1) := by decide +kernel
theorem dX11_plough_43 : decode cX11_plough 43 = .ok (.bipush (-3), 2) := by decide +kernel
theorem dX11_plough_45 : decode cX11_plough 45 = .ok (.invokevirtual 88, 3) := by decide +kernel
theorem dX11_plough_48 : decode cX11_plough 48 = .ok (.ireturn, 1) := by decide +kernel
theorem dX11_plough_49 : decode cX11_plough 49 = .ok (.aload_n 0, 1) := by decide +kernel
theorem dX11_plough_50 : decode cX11_plough 50 = .ok (.invokevirtual 95, 3) := by decide +kernel
theorem dX11_plough_53 : decode cX11_plough 53 = .ok (.aload_n 0, 1) := by decide +kernel
theorem dX11_plough_54 : decode cX11_plough 54 = .ok (.aload_n 0, 1) := by decide +kernel
theorem dX11_plough_55 : decode cX11_plough 55 = .ok (.aload_n 0, 1) := by decide +kernel
theorem dX11_plough_56 : decode cX11_plough 56 = .ok (.iload_n 1, 1) := by decide +kernel
theorem dX11_plough_57 : decode cX11_plough 57 = .ok (.invokevirtual 206, 3) := by decide +kernel
theorem dX11_plough_60 : decode cX11_plough 60 = .ok (.iload_n 1, 1) := by decide +kernel
theorem dX11_plough_61 : decode cX11_plough 61 = .ok (.iload_n 2, 1) := by decide +kernel
theorem dX11_plough_62 : decode cX11_plough 62 = .ok (.invokevirtual 210, 3) := by decide +kernel
theorem dX11_plough_65 : decode cX11_plough 65 = .ok (.invokevirtual 98, 3) := by decide +kernel
theorem dX11_plough_68 : decode cX11_plough 68 = .ok (.ireturn, 1) := by decide +kernel
theorem dX11_pair_0 : decode cX11_pair 0 = .ok (.aload_n 0, 1) := by decide +kernel
theorem dX11_pair_1 : decode cX11_pair 1 = .ok (.getfield 19, 3) := by decide +kernel
theorem dX11_pair_4 : decode cX11_pair 4 = .ok (.getfield 203, 3) := by decide +kernel
theorem dX11_pair_7 : decode cX11_pair 7 = .ok (.iload_n 1, 1) := by decide +kernel
theorem dX11_pair_8 : decode cX11_pair 8 = .ok (.invokevirtual 126, 3) := by decide +kernel
theorem dX11_pair_11 : decode cX11_pair 11 = .ok (.ifCond .eq 33, 3) := by decide +kernel
theorem dX11_pair_14 : decode cX11_pair 14 = .ok (.aload_n 0, 1) := by decide +kernel
theorem dX11_pair_15 : decode cX11_pair 15 = .ok (.getfield 19, 3) := by decide +kernel
theorem dX11_pair_18 : decode cX11_pair 18 = .ok (.getfield 203, 3) := by decide +kernel
theorem dX11_pair_21 : decode cX11_pair 21 = .ok (.iload_n 2, 1) := by decide +kernel
theorem dX11_pair_22 : decode cX11_pair 22 = .ok (.invokevirtual 126, 3) := by decide +kernel
theorem dX11_pair_25 : decode cX11_pair 25 = .ok (.ifCond .eq 19, 3) := by decide +kernel
theorem dX11_pair_28 : decode cX11_pair 28 = .ok (.iload_n 1, 1) := by decide +kernel
theorem dX11_pair_29 : decode cX11_pair 29 = .ok (.iload_n 2, 1) := by decide +kernel
theorem dX11_pair_30 : decode cX11_pair 30 = .ok (.if_icmp .eq 14, 3) := by decide +kernel
theorem dX11_pair_33 : decode cX11_pair 33 = .ok (.iload_n 3, 1) := by decide +kernel
theorem dX11_pair_34 : decode cX11_pair 34 = .ok (.ifCond .lt 10, 3) := by decide +kernel
theorem dX11_pair_37 : decode cX11_pair 37 = .ok (.iload_n 3, 1) := by decide +kernel
theorem dX11_pair_38 : decode cX11_pair 38 = .ok (.sipush 10000, 3) := by decide +kernel
theorem dX11_pair_41 : decode cX11_pair 41 = .ok (.if_icmp .le 10, 3) := by decide +kernel
theorem dX11_pair_44 : decode cX11_pair 44 = .ok (.aload_n 0, 1) := by decide +kernel
theorem dX11_pair_45 : decode cX11_pair 45 = .ok (.bipush (-2), 2) := by decide +kernel
theorem dX11_pair_47 : decode cX11_pair 47 = .ok (.invokevirtual 88, 3) := by decide +kernel
theorem dX11_pair_50 : decode cX11_pair 50 = .ok (.ireturn, 1) := by decide +kernel
theorem dX11_pair_51 : decode cX11_pair 51 = .ok (.aload_n 0, 1) := by decide +kernel
theorem dX11_pair_52 : decode cX11_pair 52 = .ok (.getfield 19, 3) := by decide +kernel
theorem dX11_pair_55 : decode cX11_pair 55 = .ok (.getfield 203, 3) := by decide +kernel
theorem dX11_pair_58 : decode cX11_pair 58 = .ok (.getfield 109, 3) := by decide +kernel
theorem dX11_pair_61 : decode cX11_pair 61 = .ok (.bipush 12, 2) := by decide +kernel
theorem dX11_pair_63 : decode cX11_pair 63 = .ok (.if_icmp .lt 10, 3) := by decide +kernel
theorem dX11_pair_66 : decode cX11_pair 66 = .ok (.aload_n 0, 1) := by decide +kernel
theorem dX11_pair_67 : decode cX11_pair 67 = .ok (.bipush (-3), 2) := by decide +kernel
theorem dX11_pair_69 : decode cX11_pair 69 = .ok (.invokevirtual 88, 3) := by decide +kernel
theorem dX11_pair_72 : decode cX11_pair 72 = .ok (.ireturn, 1) := by decide +kernel
theorem dX11_pair_73 : decode cX11_pair 73 = .ok (.aload_n 0, 1) := by decide +kernel
theorem dX11_pair_74 : decode cX11_pair 74 = .ok (.iload_n 1, 1) := by decide +kernel
