theorem dX0_init_0 : decode cX0_init 0 = .ok (.aload_n 0, 1) := by decide +kernel
theorem dX0_init_1 : decode cX0_init 1 = .ok (.invokespecial 3, 3) := by decide +kernel
theorem dX0_init_4 : decode cX0_init 4 = .ok (.aload_n 0, 1) := by decide +kernel
theorem dX0_init_5 : decode cX0_init 5 = .ok (.bipush 48, 2) := by decide +kernel
theorem dX0_init_7 : decode cX0_init 7 = .ok (.newarray .int, 2) := by decide +kernel
theorem dX0_init_9 : decode cX0_init 9 = .ok (.putfield 9, 3) := by decide +kernel
theorem dX0_init_12 : decode cX0_init 12 = .ok (.aload_n 0, 1) := by decide +kernel
theorem dX0_init_13 : decode cX0_init 13 = .ok (.iconst (-1), 1) := by decide +kernel
theorem dX0_init_14 : decode cX0_init 14 = .ok (.putfield 15, 3) := by decide +kernel
theorem dX0_init_17 : decode cX0_init 17 = .ok (.return_, 1) := by decide +kernel
theorem dX0_isLost_0 : decode cX0_isLost 0 = .ok (.aload_n 0, 1) := by decide +kernel
theorem dX0_isLost_1 : decode cX0_isLost 1 = .ok (.getfield 15, 3) := by decide +kernel
theorem dX0_isLost_4 : decode cX0_isLost 4 = .ok (.iconst (-1), 1) := by decide +kernel
theorem dX0_isLost_5 : decode cX0_isLost 5 = .ok (.if_icmp .ne 7, 3) := by decide +kernel
theorem dX0_isLost_8 : decode cX0_isLost 8 = .ok (.iconst 1, 1) := by decide +kernel
theorem dX0_isLost_9 : decode cX0_isLost 9 = .ok (.goto 4, 3) := by decide +kernel
theorem dX0_isLost_12 : decode cX0_isLost 12 = .ok (.iconst 0, 1) := by decide +kernel
theorem dX0_isLost_13 : decode cX0_isLost 13 = .ok (.ireturn, 1) := by decide +kernel
theorem dX0_renew_0 : decode cX0_renew 0 = .ok (.aload_n 0, 1) := by decide +kernel
theorem dX0_renew_1 : decode cX0_renew 1 = .ok (.getfield 9, 3) := by decide +kernel
theorem dX0_renew_4 : decode cX0_renew 4 = .ok (.iconst 0, 1) := by decide +kernel
theorem dX0_renew_5 : decode cX0_renew 5 = .ok (.invokestatic 19, 3) := by decide +kernel
theorem dX0_renew_8 : decode cX0_renew 8 = .ok (.aload_n 0, 1) := by decide +kernel
theorem dX0_renew_9 : decode cX0_renew 9 = .ok (.iload_n 1, 1) := by decide +kernel
theorem dX0_renew_10 : decode cX0_renew 10 = .ok (.putfield 15, 3) := by decide +kernel
theorem dX0_renew_13 : decode cX0_renew 13 = .ok (.aload_n 0, 1) := by decide +kernel
theorem dX0_renew_14 : decode cX0_renew 14 = .ok (.iload_n 2, 1) := by decide +kernel
theorem dX0_renew_15 : decode cX0_renew 15 = .ok (.putfield 25, 3) := by decide +kernel
theorem dX0_renew_18 : decode cX0_renew 18 = .ok (.return_, 1) := by decide +kernel
theorem dX0_hasStretch_0 : decode cX0_hasStretch 0 = .ok (.iload_n 1, 1) := by decide +kernel
theorem dX0_hasStretch_1 : decode cX0_hasStretch 1 = .ok (.ifCond .lt 21, 3) := by decide +kernel
theorem dX0_hasStretch_4 : decode cX0_hasStretch 4 = .ok (.iload_n 2, 1) := by decide +kernel
theorem dX0_hasStretch_5 : decode cX0_hasStretch 5 = .ok (.ifCond .lt 17, 3) := by decide +kernel
theorem dX0_hasStretch_8 : decode cX0_hasStretch 8 = .ok (.iload_n 2, 1) := by decide +kernel
theorem dX0_hasStretch_9 : decode cX0_hasStretch 9 = .ok (.aload_n 0, 1) := by decide +kernel
theorem dX0_hasStretch_10 : decode cX0_hasStretch 10 = .ok (.getfield 25, 3) := by decide +kernel
theorem dX0_hasStretch_13 : decode cX0_hasStretch 13 = .ok (.iload_n 1, 1) := by decide +kernel
theorem dX0_hasStretch_14 : decode cX0_hasStretch 14 = .ok (.isub, 1) := by decide +kernel
theorem dX0_hasStretch_15 : decode cX0_hasStretch 15 = .ok (.if_icmp .gt 7, 3) := by decide +kernel
theorem dX0_hasStretch_18 : decode cX0_hasStretch 18 = .ok (.iconst 1, 1) := by decide +kernel
theorem dX0_hasStretch_19 : decode cX0_hasStretch 19 = .ok (.goto 4, 3) := by decide +kernel
theorem dX0_hasStretch_22 : decode cX0_hasStretch 22 = .ok (.iconst 0, 1) := by decide +kernel
theorem dX0_hasStretch_23 : decode cX0_hasStretch 23 = .ok (.ireturn, 1) := by decide +kernel
theorem dX0_store_0 : decode cX0_store 0 = .ok (.iload_n 2, 1) := by decide +kernel
theorem dX0_store_1 : decode cX0_store 1 = .ok (.istore_n 3, 1) := by decide +kernel
theorem dX0_store_2 : decode cX0_store 2 = .ok (.aload_n 0, 1) := by decide +kernel
theorem dX0_store_3 : decode cX0_store 3 = .ok (.getfield 15, 3) := by decide +kernel
theorem dX0_store_6 : decode cX0_store 6 = .ok (.ifCond .ne 9, 3) := by decide +kernel
theorem dX0_store_9 : decode cX0_store 9 = .ok (.iload_n 2, 1) := by decide +kernel
theorem dX0_store_10 : decode cX0_store 10 = .ok (.i2b, 1) := by decide +kernel
theorem dX0_store_11 : decode cX0_store 11 = .ok (.istore_n 3, 1) := by decide +kernel
theorem dX0_store_12 : decode cX0_store 12 = .ok (.goto 14, 3) := by decide +kernel
theorem dX0_store_15 : decode cX0_store 15 = .ok (.aload_n 0, 1) := by decide +kernel
theorem dX0_store_16 : decode cX0_store 16 = .ok (.getfield 15, 3) := by decide +kernel
theorem dX0_store_19 : decode cX0_store 19 = .ok (.iconst 1, 1) := by decide +kernel
theorem dX0_store_20 : decode cX0_store 20 = .ok (.if_icmp .ne 6, 3) := by decide +kernel
theorem dX0_store_23 : decode cX0_store 23 = .ok (.iload_n 2, 1) := by decide +kernel
theorem dX0_store_24 : decode cX0_store 24 = .ok (.i2s, 1) := by decide +kernel
theorem dX0_store_25 : decode cX0_store 25 = .ok (.istore_n 3, 1) := by decide +kernel
theorem dX0_store_26 : decode cX0_store 26 = .ok (.aload_n 0, 1) := by decide +kernel
theorem dX0_store_27 : decode cX0_store 27 = .ok (.getfield 9, 3) := by decide +kernel
theorem dX0_store_30 : decode cX0_store 30 = .ok (.iload_n 1, 1) := by decide +kernel
theorem dX0_store_31 : decode cX0_store 31 = .ok (.iload_n 3, 1) := by decide +kernel
theorem dX0_store_32 : decode cX0_store 32 = .ok (.invokestatic 28, 3) := by decide +kernel
theorem dX0_store_35 : decode cX0_store 35 = .ok (.return_, 1) := by decide +kernel
theorem dX1_init_0 : decode cX1_init 0 = .ok (.aload_n 0, 1) := by decide +kernel
theorem dX1_init_1 : decode cX1_init 1 = .ok (.invokespecial 3, 3) := by decide +kernel
theorem dX1_init_4 : decode cX1_init 4 = .ok (.aload_n 0, 1) := by decide +kernel
theorem dX1_init_5 : decode cX1_init 5 = .ok (.bipush 12, 2) := by decide +kernel
theorem dX1_init_7 : decode cX1_init 7 = .ok (.newarray .int, 2) := by decide +kernel
theorem dX1_init_9 : decode cX1_init 9 = .ok (.putfield 9, 3) := by decide +kernel
theorem dX1_init_12 : decode cX1_init 12 = .ok (.aload_n 0, 1) := by decide +kernel
theorem dX1_init_13 : decode cX1_init 13 = .ok (.bipush 12, 2) := by decide +kernel
theorem dX1_init_15 : decode cX1_init 15 = .ok (.newarray .int, 2) := by decide +kernel
theorem dX1_init_17 : decode cX1_init 17 = .ok (.putfield 15, 3) := by decide +kernel
theorem dX1_init_20 : decode cX1_init 20 = .ok (.aload_n 0, 1) := by decide +kernel
theorem dX1_init_21 : decode cX1_init 21 = .ok (.bipush 12, 2) := by decide +kernel
theorem dX1_init_23 : decode cX1_init 23 = .ok (.newarray .int, 2) := by decide +kernel
theorem dX1_init_25 : decode cX1_init 25 = .ok (.putfield 18, 3) := by decide +kernel
theorem dX1_init_28 : decode cX1_init 28 = .ok (.return_, 1) := by decide +kernel
theorem dX1_add_0 : decode cX1_add 0 = .ok (.aload_n 0, 1) := by decide +kernel
theorem dX1_add_1 : decode cX1_add 1 = .ok (.getfield 21, 3) := by decide +kernel
theorem dX1_add_4 : decode cX1_add 4 = .ok (.bipush 12, 2) := by decide +kernel
theorem dX1_add_6 : decode cX1_add 6 = .ok (.if_icmp .ge 49, 3) := by decide +kernel
theorem dX1_add_9 : decode cX1_add 9 = .ok (.aload_n 0, 1) := by decide +kernel
theorem dX1_add_10 : decode cX1_add 10 = .ok (.getfield 9, 3) := by decide +kernel
theorem dX1_add_13 : decode cX1_add 13 = .ok (.aload_n 0, 1) := by decide +kernel
theorem dX1_add_14 : decode cX1_add 14 = .ok (.getfield 21, 3) := by decide +kernel
theorem dX1_add_17 : decode cX1_add 17 = .ok (.iload_n 1, 1) := by decide +kernel
theorem dX1_add_18 : decode cX1_add 18 = .ok (.invokestatic 25, 3) := by decide +kernel
theorem dX1_add_21 : decode cX1_add 21 = .ok (.aload_n 0, 1) := by decide +kernel
theorem dX1_add_22 : decode cX1_add 22 = .ok (.getfield 15, 3) := by decide +kernel
theorem dX1_add_25 : decode cX1_add 25 = .ok (.aload_n 0, 1) := by decide +kernel
theorem dX1_add_26 : decode cX1_add 26 = .ok (.getfield 21, 3) := by decide +kernel
theorem dX1_add_29 : decode cX1_add 29 = .ok (.iload_n 2, 1) := by decide +kernel
theorem dX1_add_30 : decode cX1_add 30 = .ok (.invokestatic 25, 3) := by decide +kernel
theorem dX1_add_33 : decode cX1_add 33 = .ok (.aload_n 0, 1) := by decide +kernel
theorem dX1_add_34 : decode cX1_add 34 = .ok (.getfield 18, 3) := by decide +kernel
theorem dX1_add_37 : decode cX1_add 37 = .ok (.aload_n 0, 1) := by decide +kernel
theorem dX1_add_38 : decode cX1_add 38 = .ok (.getfield 21, 3) := by decide +kernel
theorem dX1_add_41 : decode cX1_add 41 = .ok (.iload_n 3, 1) := by decide +kernel
theorem dX1_add_42 : decode cX1_add 42 = .ok (.invokestatic 25, 3) := by decide +kernel
theorem dX1_add_45 : decode cX1_add 45 = .ok (.aload_n 0, 1) := by decide +kernel
theorem dX1_add_46 : decode cX1_add 46 = .ok (.dup, 1) := by decide +kernel
theorem dX1_add_47 : decode cX1_add 47 = .ok (.getfield 21, 3) := by decide +kernel
theorem dX1_add_50 : decode cX1_add 50 = .ok (.iconst 1, 1) := by decide +kernel
theorem dX1_add_51 : decode cX1_add 51 = .ok (.iadd, 1) := by decide +kernel
theorem dX1_add_52 : decode cX1_add 52 = .ok (.putfield 21, 3) := by decide +kernel
theorem dX1_add_55 : decode cX1_add 55 = .ok (.return_, 1) := by decide +kernel
theorem dX1_pointsAt_0 : decode cX1_pointsAt 0 = .ok (.iload_n 2, 1) := by decide +kernel
theorem dX1_pointsAt_1 : decode cX1_pointsAt 1 = .ok (.istore_n 3, 1) := by decide +kernel
theorem dX1_pointsAt_2 : decode cX1_pointsAt 2 = .ok (.iconst 0, 1) := by decide +kernel
theorem dX1_pointsAt_3 : decode cX1_pointsAt 3 = .ok (.istore 4, 2) := by decide +kernel
theorem dX1_pointsAt_5 : decode cX1_pointsAt 5 = .ok (.iload 4, 2) := by decide +kernel
theorem dX1_pointsAt_7 : decode cX1_pointsAt 7 = .ok (.aload_n 0, 1) := by decide +kernel
theorem dX1_pointsAt_8 : decode cX1_pointsAt 8 = .ok (.getfield 21, 3) := by decide +kernel
theorem dX1_pointsAt_11 : decode cX1_pointsAt 11 = .ok (.if_icmp .ge 62, 3) := by decide +kernel
theorem dX1_pointsAt_14 : decode cX1_pointsAt 14 = .ok (.aload_n 0, 1) := by decide +kernel
theorem dX1_pointsAt_15 : decode cX1_pointsAt 15 = .ok (.getfield 9, 3) := by decide +kernel
theorem dX1_pointsAt_18 : decode cX1_pointsAt 18 = .ok (.iload 4, 2) := by decide +kernel
theorem dX1_pointsAt_20 : decode cX1_pointsAt 20 = .ok (.invokestatic 29, 3) := by decide +kernel
theorem dX1_pointsAt_23 : decode cX1_pointsAt 23 = .ok (.iload_n 1, 1) := by decide +kernel
theorem dX1_pointsAt_24 : decode cX1_pointsAt 24 = .ok (.if_icmp .ne 43, 3) := by decide +kernel
theorem dX1_pointsAt_27 : decode cX1_pointsAt 27 = .ok (.iconst 1, 1) := by decide +kernel
theorem dX1_pointsAt_28 : decode cX1_pointsAt 28 = .ok (.aload_n 0, 1) := by decide +kernel
theorem dX1_pointsAt_29 : decode cX1_pointsAt 29 = .ok (.getfield 15, 3) := by decide +kernel
theorem dX1_pointsAt_32 : decode cX1_pointsAt 32 = .ok (.iload 4, 2) := by decide +kernel
theorem dX1_pointsAt_34 : decode cX1_pointsAt 34 = .ok (.invokestatic 29, 3) := by decide +kernel
theorem dX1_pointsAt_37 : decode cX1_pointsAt 37 = .ok (.ishl, 1) := by decide +kernel
theorem dX1_pointsAt_38 : decode cX1_pointsAt 38 = .ok (.istore 5, 2) := by decide +kernel
theorem dX1_pointsAt_40 : decode cX1_pointsAt 40 = .ok (.aload_n 0, 1) := by decide +kernel
theorem dX1_pointsAt_41 : decode cX1_pointsAt 41 = .ok (.getfield 18, 3) := by decide +kernel
theorem dX1_pointsAt_44 : decode cX1_pointsAt 44 = .ok (.iload 4, 2) := by decide +kernel
theorem dX1_pointsAt_46 : decode cX1_pointsAt 46 = .ok (.invokestatic 29, 3) := by decide +kernel
theorem dX1_pointsAt_49 : decode cX1_pointsAt 49 = .ok (.iconst 1, 1) := by decide +kernel
theorem dX1_pointsAt_50 : decode cX1_pointsAt 50 = .ok (.if_icmp .ne 10, 3) := by decide +kernel
theorem dX1_pointsAt_53 : decode cX1_pointsAt 53 = .ok (.iload_n 3, 1) := by decide +kernel
theorem dX1_pointsAt_54 : decode cX1_pointsAt 54 = .ok (.iload 5, 2) := by decide +kernel
theorem dX1_pointsAt_56 : decode cX1_pointsAt 56 = .ok (.ior, 1) := by decide +kernel
theorem dX1_pointsAt_57 : decode cX1_pointsAt 57 = .ok (.goto 9, 3) := by decide +kernel
theorem dX1_pointsAt_60 : decode cX1_pointsAt 60 = .ok (.iload_n 3, 1) := by decide +kernel
theorem dX1_pointsAt_61 : decode cX1_pointsAt 61 = .ok (.iload 5, 2) := by decide +kernel
theorem dX1_pointsAt_63 : decode cX1_pointsAt 63 = .ok (.iconst (-1), 1) := by decide +kernel
theorem dX1_pointsAt_64 : decode cX1_pointsAt 64 = .ok (.ixor, 1) := by decide +kernel
theorem dX1_pointsAt_65 : decode cX1_pointsAt 65 = .ok (.iand, 1) := by decide +kernel
theorem dX1_pointsAt_66 : decode cX1_pointsAt 66 = .ok (.istore_n 3, 1) := by decide +kernel
theorem dX1_pointsAt_67 : decode cX1_pointsAt 67 = .ok (.iinc 4 1, 3) := by decide +kernel
theorem dX1_pointsAt_70 : decode cX1_pointsAt 70 = .ok (.goto (-65), 3) := by decide +kernel
theorem dX1_pointsAt_73 : decode cX1_pointsAt 73 = .ok (.iload_n 3, 1) := by decide +kernel
theorem dX1_pointsAt_74 : decode cX1_pointsAt 74 = .ok (.ireturn, 1) := by decide +kernel
theorem dX2_init_0 : decode cX2_init 0 = .ok (.aload_n 0, 1) := by decide +kernel
theorem dX2_init_1 : decode cX2_init 1 = .ok (.invokespecial 1, 3) := by decide +kernel
theorem dX2_init_4 : decode cX2_init 4 = .ok (.aload_n 0, 1) := by decide +kernel
theorem dX2_init_5 : decode cX2_init 5 = .ok (.iload_n 1, 1) := by decide +kernel
theorem dX2_init_6 : decode cX2_init 6 = .ok (.iconst 0, 1) := by decide +kernel
theorem dX2_init_7 : decode cX2_init 7 = .ok (.invokestatic 7, 3) := by decide +kernel
theorem dX2_init_10 : decode cX2_init 10 = .ok (.newarray .int, 2) := by decide +kernel
theorem dX2_init_12 : decode cX2_init 12 = .ok (.putfield 13, 3) := by decide +kernel
theorem dX2_init_15 : decode cX2_init 15 = .ok (.return_, 1) := by decide +kernel
theorem dX2_hasRoom_0 : decode cX2_hasRoom 0 = .ok (.aload_n 0, 1) := by decide +kernel
theorem dX2_hasRoom_1 : decode cX2_hasRoom 1 = .ok (.getfield 19, 3) := by decide +kernel
theorem dX2_hasRoom_4 : decode cX2_hasRoom 4 = .ok (.aload_n 0, 1) := by decide +kernel
theorem dX2_hasRoom_5 : decode cX2_hasRoom 5 = .ok (.getfield 13, 3) := by decide +kernel
theorem dX2_hasRoom_8 : decode cX2_hasRoom 8 = .ok (.arraylength, 1) := by decide +kernel
theorem dX2_hasRoom_9 : decode cX2_hasRoom 9 = .ok (.if_icmp .ge 7, 3) := by decide +kernel
theorem dX2_hasRoom_12 : decode cX2_hasRoom 12 = .ok (.iconst 1, 1) := by decide +kernel
theorem dX2_hasRoom_13 : decode cX2_hasRoom 13 = .ok (.goto 4, 3) := by decide +kernel
theorem dX2_hasRoom_16 : decode cX2_hasRoom 16 = .ok (.iconst 0, 1) := by decide +kernel
theorem dX2_hasRoom_17 : decode cX2_hasRoom 17 = .ok (.ireturn, 1) := by decide +kernel
theorem dX2_append_0 : decode cX2_append 0 = .ok (.aload_n 0, 1) := by decide +kernel
theorem dX2_append_1 : decode cX2_append 1 = .ok (.invokevirtual 23, 3) := by decide +kernel
theorem dX2_append_4 : decode cX2_append 4 = .ok (.ifCond .eq 25, 3) := by decide +kernel
theorem dX2_append_7 : decode cX2_append 7 = .ok (.aload_n 0, 1) := by decide +kernel
theorem dX2_append_8 : decode cX2_append 8 = .ok (.getfield 13, 3) := by decide +kernel
theorem dX2_append_11 : decode cX2_append 11 = .ok (.aload_n 0, 1) := by decide +kernel
theorem dX2_append_12 : decode cX2_append 12 = .ok (.getfield 19, 3) := by decide +kernel
theorem dX2_append_15 : decode cX2_append 15 = .ok (.iload_n 1, 1) := by decide +kernel
theorem dX2_append_16 : decode cX2_append 16 = .ok (.invokestatic 27, 3) := by decide +kernel
theorem dX2_append_19 : decode cX2_append 19 = .ok (.aload_n 0, 1) := by decide +kernel
theorem dX2_append_20 : decode cX2_append 20 = .ok (.dup, 1) := by decide +kernel
theorem dX2_append_21 : decode cX2_append 21 = .ok (.getfield 19, 3) := by decide +kernel
theorem dX2_append_24 : decode cX2_append 24 = .ok (.iconst 1, 1) := by decide +kernel
theorem dX2_append_25 : decode cX2_append 25 = .ok (.iadd, 1) := by decide +kernel
theorem dX2_append_26 : decode cX2_append 26 = .ok (.putfield 19, 3) := by decide +kernel
theorem dX2_append_29 : decode cX2_append 29 = .ok (.return_, 1) := by decide +kernel
theorem dX3_init_0 : decode cX3_init 0 = .ok (.aload_n 0, 1) := by decide +kernel
theorem dX3_init_1 : decode cX3_init 1 = .ok (.invokespecial 3, 3) := by decide +kernel
theorem dX3_init_4 : decode cX3_init 4 = .ok (.aload_n 0, 1) := by decide +kernel
theorem dX3_init_5 : decode cX3_init 5 = .ok (.new 9, 3) := by decide +kernel
theorem dX3_init_8 : decode cX3_init 8 = .ok (.dup, 1) := by decide +kernel
theorem dX3_init_9 : decode cX3_init 9 = .ok (.bipush 60, 2) := by decide +kernel
theorem dX3_init_11 : decode cX3_init 11 = .ok (.invokespecial 11, 3) := by decide +kernel
theorem dX3_init_14 : decode cX3_init 14 = .ok (.putfield 14, 3) := by decide +kernel
theorem dX3_init_17 : decode cX3_init 17 = .ok (.aload_n 0, 1) := by decide +kernel
theorem dX3_init_18 : decode cX3_init 18 = .ok (.bipush 48, 2) := by decide +kernel
theorem dX3_init_20 : decode cX3_init 20 = .ok (.newarray .int, 2) := by decide +kernel
theorem dX3_init_22 : decode cX3_init 22 = .ok (.putfield 20, 3) := by decide +kernel
theorem dX3_init_25 : decode cX3_init 25 = .ok (.aload_n 0, 1) := by decide +kernel
theorem dX3_init_26 : decode cX3_init 26 = .ok (.bipush 8, 2) := by decide +kernel
theorem dX3_init_28 : decode cX3_init 28 = .ok (.newarray .int, 2) := by decide +kernel
theorem dX3_init_30 : decode cX3_init 30 = .ok (.putfield 24, 3) := by decide +kernel
theorem dX3_init_33 : decode cX3_init 33 = .ok (.aload_n 0, 1) := by decide +kernel
theorem dX3_init_34 : decode cX3_init 34 = .ok (.iconst (-1), 1) := by decide +kernel
theorem dX3_init_35 : decode cX3_init 35 = .ok (.putfield 27, 3) := by decide +kernel
theorem dX3_init_38 : decode cX3_init 38 = .ok (.return_, 1) := by decide +kernel
theorem dX3_has_0 : decode cX3_has 0 = .ok (.iload_n 1, 1) := by decide +kernel
theorem dX3_has_1 : decode cX3_has 1 = .ok (.iconst 0, 1) := by decide +kernel
theorem dX3_has_2 : decode cX3_has 2 = .ok (.aload_n 0, 1) := by decide +kernel
theorem dX3_has_3 : decode cX3_has 3 = .ok (.getfield 31, 3) := by decide +kernel
theorem dX3_has_6 : decode cX3_has 6 = .ok (.iconst 1, 1) := by decide +kernel
theorem dX3_has_7 : decode cX3_has 7 = .ok (.isub, 1) := by decide +kernel
theorem dX3_has_8 : decode cX3_has 8 = .ok (.invokestatic 34, 3) := by decide +kernel
theorem dX3_has_11 : decode cX3_has 11 = .ok (.ireturn, 1) := by decide +kernel
theorem dX3_lettersOf_0 : decode cX3_lettersOf 0 = .ok (.iload_n 1, 1) := by decide +kernel
theorem dX3_lettersOf_1 : decode cX3_lettersOf 1 = .ok (.ifCond .lt 29, 3) := by decide +kernel
theorem dX3_lettersOf_4 : decode cX3_lettersOf 4 = .ok (.iload_n 1, 1) := by decide +kernel
theorem dX3_lettersOf_5 : decode cX3_lettersOf 5 = .ok (.aload_n 0, 1) := by decide +kernel
theorem dX3_lettersOf_6 : decode cX3_lettersOf 6 = .ok (.getfield 31, 3) := by decide +kernel
theorem dX3_lettersOf_9 : decode cX3_lettersOf 9 = .ok (.if_icmp .ge 21, 3) := by decide +kernel
theorem dX3_lettersOf_12 : decode cX3_lettersOf 12 = .ok (.iload_n 1, 1) := by decide +kernel
theorem dX3_lettersOf_13 : decode cX3_lettersOf 13 = .ok (.aload_n 0, 1) := by decide +kernel
theorem dX3_lettersOf_14 : decode cX3_lettersOf 14 = .ok (.getfield 24, 3) := by decide +kernel
theorem dX3_lettersOf_17 : decode cX3_lettersOf 17 = .ok (.arraylength, 1) := by decide +kernel
theorem dX3_lettersOf_18 : decode cX3_lettersOf 18 = .ok (.if_icmp .ge 12, 3) := by decide +kernel
theorem dX3_lettersOf_21 : decode cX3_lettersOf 21 = .ok (.aload_n 0, 1) := by decide +kernel
theorem dX3_lettersOf_22 : decode cX3_lettersOf 22 = .ok (.getfield 24, 3) := by decide +kernel
theorem dX3_lettersOf_25 : decode cX3_lettersOf 25 = .ok (.iload_n 1, 1) := by decide +kernel
theorem dX3_lettersOf_26 : decode cX3_lettersOf 26 = .ok (.iaload, 1) := by decide +kernel
theorem dX3_lettersOf_27 : decode cX3_lettersOf 27 = .ok (.goto 4, 3) := by decide +kernel
theorem dX3_lettersOf_30 : decode cX3_lettersOf 30 = .ok (.iconst 0, 1) := by decide +kernel
theorem dX3_lettersOf_31 : decode cX3_lettersOf 31 = .ok (.ireturn, 1) := by decide +kernel
theorem dX3_letterOf_0 : decode cX3_letterOf 0 = .ok (.iload_n 1, 1) := by decide +kernel
theorem dX3_letterOf_1 : decode cX3_letterOf 1 = .ok (.bipush 6, 2) := by decide +kernel
theorem dX3_letterOf_3 : decode cX3_letterOf 3 = .ok (.imul, 1) := by decide +kernel
theorem dX3_letterOf_4 : decode cX3_letterOf 4 = .ok (.iload_n 2, 1) := by decide +kernel
theorem dX3_letterOf_5 : decode cX3_letterOf 5 = .ok (.iadd, 1) := by decide +kernel
theorem dX3_letterOf_6 : decode cX3_letterOf 6 = .ok (.istore_n 3, 1) := by decide +kernel
theorem dX3_letterOf_7 : decode cX3_letterOf 7 = .ok (.iload_n 3, 1) := by decide +kernel
theorem dX3_letterOf_8 : decode cX3_letterOf 8 = .ok (.ifCond .lt 21, 3) := by decide +kernel
theorem dX3_letterOf_11 : decode cX3_letterOf 11 = .ok (.iload_n 3, 1) := by decide +kernel
theorem dX3_letterOf_12 : decode cX3_letterOf 12 = .ok (.aload_n 0, 1) := by decide +kernel
theorem dX3_letterOf_13 : decode cX3_letterOf 13 = .ok (.getfield 20, 3) := by decide +kernel
theorem dX3_letterOf_16 : decode cX3_letterOf 16 = .ok (.arraylength, 1) := by decide +kernel
theorem dX3_letterOf_17 : decode cX3_letterOf 17 = .ok (.if_icmp .ge 12, 3) := by decide +kernel
theorem dX3_letterOf_20 : decode cX3_letterOf 20 = .ok (.aload_n 0, 1) := by decide +kernel
theorem dX3_letterOf_21 : decode cX3_letterOf 21 = .ok (.getfield 20, 3) := by decide +kernel
theorem dX3_letterOf_24 : decode cX3_letterOf 24 = .ok (.iload_n 3, 1) := by decide +kernel
theorem dX3_letterOf_25 : decode cX3_letterOf 25 = .ok (.iaload, 1) := by decide +kernel
theorem dX3_letterOf_26 : decode cX3_letterOf 26 = .ok (.goto 4, 3) := by decide +kernel
theorem dX3_letterOf_29 : decode cX3_letterOf 29 = .ok (.iconst 0, 1) := by decide +kernel
theorem dX3_letterOf_30 : decode cX3_letterOf 30 = .ok (.ireturn, 1) := by decide +kernel
theorem dX3_split_0 : decode cX3_split 0 = .ok (.aload_n 0, 1) := by decide +kernel
theorem dX3_split_1 : decode cX3_split 1 = .ok (.iconst 0, 1) := by decide +kernel
theorem dX3_split_2 : decode cX3_split 2 = .ok (.putfield 31, 3) := by decide +kernel
theorem dX3_split_5 : decode cX3_split 5 = .ok (.aload_n 0, 1) := by decide +kernel
theorem dX3_split_6 : decode cX3_split 6 = .ok (.aload_n 0, 1) := by decide +kernel
theorem dX3_split_7 : decode cX3_split 7 = .ok (.invokevirtual 38, 3) := by decide +kernel
theorem dX3_split_10 : decode cX3_split 10 = .ok (.putfield 27, 3) := by decide +kernel
theorem dX3_split_13 : decode cX3_split 13 = .ok (.aload_n 0, 1) := by decide +kernel
theorem dX3_split_14 : decode cX3_split 14 = .ok (.getfield 27, 3) := by decide +kernel
theorem dX3_split_17 : decode cX3_split 17 = .ok (.iconst (-1), 1) := by decide +kernel
theorem dX3_split_18 : decode cX3_split 18 = .ok (.if_icmp .ne 13, 3) := by decide +kernel
theorem dX3_split_21 : decode cX3_split 21 = .ok (.aload_n 0, 1) := by decide +kernel
theorem dX3_split_22 : decode cX3_split 22 = .ok (.getfield 14, 3) := by decide +kernel
theorem dX3_split_25 : decode cX3_split 25 = .ok (.getfield 42, 3) := by decide +kernel
theorem dX3_split_28 : decode cX3_split 28 = .ok (.ifCond .ne 4, 3) := by decide +kernel
theorem dX3_split_31 : decode cX3_split 31 = .ok (.return_, 1) := by decide +kernel
theorem dX3_split_32 : decode cX3_split 32 = .ok (.aload_n 0, 1) := by decide +kernel
theorem dX3_split_33 : decode cX3_split 33 = .ok (.getfield 24, 3) := by decide +kernel
theorem dX3_split_36 : decode cX3_split 36 = .ok (.iconst 0, 1) := by decide +kernel
theorem dX3_split_37 : decode cX3_split 37 = .ok (.invokestatic 45, 3) := by decide +kernel
theorem dX3_split_40 : decode cX3_split 40 = .ok (.iconst 0, 1) := by decide +kernel
theorem dX3_split_41 : decode cX3_split 41 = .ok (.istore_n 1, 1) := by decide +kernel
theorem dX3_split_42 : decode cX3_split 42 = .ok (.iconst 0, 1) := by decide +kernel
theorem dX3_split_43 : decode cX3_split 43 = .ok (.istore_n 2, 1) := by decide +kernel
theorem dX3_split_44 : decode cX3_split 44 = .ok (.iload_n 2, 1) := by decide +kernel
theorem dX3_split_45 : decode cX3_split 45 = .ok (.aload_n 0, 1) := by decide +kernel
theorem dX3_split_46 : decode cX3_split 46 = .ok (.getfield 14, 3) := by decide +kernel
theorem dX3_split_49 : decode cX3_split 49 = .ok (.getfield 42, 3) := by decide +kernel
theorem dX3_split_52 : decode cX3_split 52 = .ok (.if_icmp .ge 73, 3) := by decide +kernel
theorem dX3_split_55 : decode cX3_split 55 = .ok (.aload_n 0, 1) := by decide +kernel
theorem dX3_split_56 : decode cX3_split 56 = .ok (.getfield 14, 3) := by decide +kernel
theorem dX3_split_59 : decode cX3_split 59 = .ok (.getfield 51, 3) := by decide +kernel
theorem dX3_split_62 : decode cX3_split 62 = .ok (.iload_n 2, 1) := by decide +kernel
theorem dX3_split_63 : decode cX3_split 63 = .ok (.invokestatic 54, 3) := by decide +kernel
theorem dX3_split_66 : decode cX3_split 66 = .ok (.istore_n 3, 1) := by decide +kernel
theorem dX3_split_67 : decode cX3_split 67 = .ok (.iload_n 3, 1) := by decide +kernel
theorem dX3_split_68 : decode cX3_split 68 = .ok (.bipush 59, 2) := by decide +kernel
theorem dX3_split_70 : decode cX3_split 70 = .ok (.if_icmp .ne 9, 3) := by decide +kernel
theorem dX3_split_73 : decode cX3_split 73 = .ok (.iinc 1 1, 3) := by decide +kernel
theorem dX3_split_76 : decode cX3_split 76 = .ok (.goto 43, 3) := by decide +kernel
theorem dX3_split_79 : decode cX3_split 79 = .ok (.aload_n 0, 1) := by decide +kernel
theorem dX3_split_80 : decode cX3_split 80 = .ok (.getfield 24, 3) := by decide +kernel
theorem dX3_split_83 : decode cX3_split 83 = .ok (.iload_n 1, 1) := by decide +kernel
theorem dX3_split_84 : decode cX3_split 84 = .ok (.invokestatic 54, 3) := by decide +kernel
theorem dX3_split_87 : decode cX3_split 87 = .ok (.istore 4, 2) := by decide +kernel
theorem dX3_split_89 : decode cX3_split 89 = .ok (.aload_n 0, 1) := by decide +kernel
theorem dX3_split_90 : decode cX3_split 90 = .ok (.getfield 20, 3) := by decide +kernel
theorem dX3_split_93 : decode cX3_split 93 = .ok (.iload_n 1, 1) := by decide +kernel
theorem dX3_split_94 : decode cX3_split 94 = .ok (.bipush 6, 2) := by decide +kernel
theorem dX3_split_96 : decode cX3_split 96 = .ok (.imul, 1) := by decide +kernel
theorem dX3_split_97 : decode cX3_split 97 = .ok (.iload 4, 2) := by decide +kernel
theorem dX3_split_99 : decode cX3_split 99 = .ok (.iadd, 1) := by decide +kernel
theorem dX3_split_100 : decode cX3_split 100 = .ok (.iload_n 3, 1) := by decide +kernel
theorem dX3_split_101 : decode cX3_split 101 = .ok (.bipush 97, 2) := by decide +kernel
theorem dX3_split_103 : decode cX3_split 103 = .ok (.isub, 1) := by decide +kernel
theorem dX3_split_104 : decode cX3_split 104 = .ok (.invokestatic 58, 3) := by decide +kernel
theorem dX3_split_107 : decode cX3_split 107 = .ok (.aload_n 0, 1) := by decide +kernel
theorem dX3_split_108 : decode cX3_split 108 = .ok (.getfield 24, 3) := by decide +kernel
theorem dX3_split_111 : decode cX3_split 111 = .ok (.iload_n 1, 1) := by decide +kernel
theorem dX3_split_112 : decode cX3_split 112 = .ok (.iload 4, 2) := by decide +kernel
theorem dX3_split_114 : decode cX3_split 114 = .ok (.iconst 1, 1) := by decide +kernel
theorem dX3_split_115 : decode cX3_split 115 = .ok (.iadd, 1) := by decide +kernel
theorem dX3_split_116 : decode cX3_split 116 = .ok (.invokestatic 58, 3) := by decide +kernel
theorem dX3_split_119 : decode cX3_split 119 = .ok (.iinc 2 1, 3) := by decide +kernel
theorem dX3_split_122 : decode cX3_split 122 = .ok (.goto (-78), 3) := by decide +kernel
theorem dX3_split_125 : decode cX3_split 125 = .ok (.aload_n 0, 1) := by decide +kernel
theorem dX3_split_126 : decode cX3_split 126 = .ok (.iload_n 1, 1) := by decide +kernel
theorem dX3_split_127 : decode cX3_split 127 = .ok (.iconst 1, 1) := by decide +kernel
theorem dX3_split_128 : decode cX3_split 128 = .ok (.iadd, 1) := by decide +kernel
theorem dX3_split_129 : decode cX3_split 129 = .ok (.putfield 31, 3) := by decide +kernel
theorem dX3_split_132 : decode cX3_split 132 = .ok (.return_, 1) := by decide +kernel
theorem dX3_firstFault_0 : decode cX3_firstFault 0 = .ok (.iconst 0, 1) := by decide +kernel
theorem dX3_firstFault_1 : decode cX3_firstFault 1 = .ok (.istore_n 1, 1) := by decide +kernel
theorem dX3_firstFault_2 : decode cX3_firstFault 2 = .ok (.iconst 0, 1) := by decide +kernel
theorem dX3_firstFault_3 : decode cX3_firstFault 3 = .ok (.istore_n 2, 1) := by decide +kernel
theorem dX3_firstFault_4 : decode cX3_firstFault 4 = .ok (.iconst 0, 1) := by decide +kernel
theorem dX3_firstFault_5 : decode cX3_firstFault 5 = .ok (.istore_n 3, 1) := by decide +kernel
theorem dX3_firstFault_6 : decode cX3_firstFault 6 = .ok (.iload_n 3, 1) := by decide +kernel
theorem dX3_firstFault_7 : decode cX3_firstFault 7 = .ok (.aload_n 0, 1) := by decide +kernel
theorem dX3_firstFault_8 : decode cX3_firstFault 8 = .ok (.getfield 14, 3) := by decide +kernel
theorem dX3_firstFault_11 : decode cX3_firstFault 11 = .ok (.getfield 42, 3) := by decide +kernel
theorem dX3_firstFault_14 : decode cX3_firstFault 14 = .ok (.if_icmp .ge 105, 3) := by decide +kernel
theorem dX3_firstFault_17 : decode cX3_firstFault 17 = .ok (.aload_n 0, 1) := by decide +kernel
theorem dX3_firstFault_18 : decode cX3_firstFault 18 = .ok (.getfield 14, 3) := by decide +kernel
theorem dX3_firstFault_21 : decode cX3_firstFault 21 = .ok (.getfield 51, 3) := by decide +kernel
theorem dX3_firstFault_24 : decode cX3_firstFault 24 = .ok (.iload_n 3, 1) := by decide +kernel
theorem dX3_firstFault_25 : decode cX3_firstFault 25 = .ok (.invokestatic 54, 3) := by decide +kernel
theorem dX3_firstFault_28 : decode cX3_firstFault 28 = .ok (.istore 4, 2) := by decide +kernel
theorem dX3_firstFault_30 : decode cX3_firstFault 30 = .ok (.iload 4, 2) := by decide +kernel
theorem dX3_firstFault_32 : decode cX3_firstFault 32 = .ok (.invokestatic 62, 3) := by decide +kernel
theorem dX3_firstFault_35 : decode cX3_firstFault 35 = .ok (.ifCond .eq 17, 3) := by decide +kernel
theorem dX3_firstFault_38 : decode cX3_firstFault 38 = .ok (.iload_n 2, 1) := by decide +kernel
theorem dX3_firstFault_39 : decode cX3_firstFault 39 = .ok (.bipush 6, 2) := by decide +kernel
theorem dX3_firstFault_41 : decode cX3_firstFault 41 = .ok (.if_icmp .ge 7, 3) := by decide +kernel
theorem dX3_firstFault_44 : decode cX3_firstFault 44 = .ok (.iconst 1, 1) := by decide +kernel
theorem dX3_firstFault_45 : decode cX3_firstFault 45 = .ok (.goto 23, 3) := by decide +kernel
theorem dX3_firstFault_48 : decode cX3_firstFault 48 = .ok (.iconst 0, 1) := by decide +kernel
theorem dX3_firstFault_49 : decode cX3_firstFault 49 = .ok (.goto 19, 3) := by decide +kernel
theorem dX3_firstFault_52 : decode cX3_firstFault 52 = .ok (.iload 4, 2) := by decide +kernel
theorem dX3_firstFault_54 : decode cX3_firstFault 54 = .ok (.bipush 59, 2) := by decide +kernel
theorem dX3_firstFault_56 : decode cX3_firstFault 56 = .ok (.if_icmp .ne 11, 3) := by decide +kernel
theorem dX3_firstFault_59 : decode cX3_firstFault 59 = .ok (.iload_n 2, 1) := by decide +kernel
theorem dX3_firstFault_60 : decode cX3_firstFault 60 = .ok (.ifCond .le 7, 3) := by decide +kernel
theorem dX3_firstFault_63 : decode cX3_firstFault 63 = .ok (.iconst 1, 1) := by decide +kernel
theorem dX3_firstFault_64 : decode cX3_firstFault 64 = .ok (.goto 4, 3) := by decide +kernel
theorem dX3_firstFault_67 : decode cX3_firstFault 67 = .ok (.iconst 0, 1) := by decide +kernel
theorem dX3_firstFault_68 : decode cX3_firstFault 68 = .ok (.istore 5, 2) := by decide +kernel
theorem dX3_firstFault_70 : decode cX3_firstFault 70 = .ok (.iload_n 1, 1) := by decide +kernel
theorem dX3_firstFault_71 : decode cX3_firstFault 71 = .ok (.bipush 8, 2) := by decide +kernel
theorem dX3_firstFault_73 : decode cX3_firstFault 73 = .ok (.if_icmp .ge 8, 3) := by decide +kernel
theorem dX3_firstFault_76 : decode cX3_firstFault 76 = .ok (.iload 5, 2) := by decide +kernel
theorem dX3_firstFault_78 : decode cX3_firstFault 78 = .ok (.ifCond .ne 5, 3) := by decide +kernel
theorem dX3_firstFault_81 : decode cX3_firstFault 81 = .ok (.iload_n 3, 1) := by decide +kernel
theorem dX3_firstFault_82 : decode cX3_firstFault 82 = .ok (.ireturn, 1) := by decide +kernel
theorem dX3_firstFault_83 : decode cX3_firstFault 83 = .ok (.iload 4, 2) := by decide +kernel
theorem dX3_firstFault_85 : decode cX3_firstFault 85 = .ok (.bipush 59, 2) := by decide +kernel
theorem dX3_firstFault_87 : decode cX3_firstFault 87 = .ok (.if_icmp .ne 7, 3) := by decide +kernel
theorem dX3_firstFault_90 : decode cX3_firstFault 90 = .ok (.iconst 0, 1) := by decide +kernel
theorem dX3_firstFault_91 : decode cX3_firstFault 91 = .ok (.goto 6, 3) := by decide +kernel
theorem dX3_firstFault_94 : decode cX3_firstFault 94 = .ok (.iload_n 2, 1) := by decide +kernel
theorem dX3_firstFault_95 : decode cX3_firstFault 95 = .ok (.iconst 1, 1) := by decide +kernel
theorem dX3_firstFault_96 : decode cX3_firstFault 96 = .ok (.iadd, 1) := by decide +kernel
theorem dX3_firstFault_97 : decode cX3_firstFault 97 = .ok (.istore_n 2, 1) := by decide +kernel
theorem dX3_firstFault_98 : decode cX3_firstFault 98 = .ok (.iload 4, 2) := by decide +kernel
theorem dX3_firstFault_100 : decode cX3_firstFault 100 = .ok (.bipush 59, 2) := by decide +kernel
theorem dX3_firstFault_102 : decode cX3_firstFault 102 = .ok (.if_icmp .ne 9, 3) := by decide +kernel
theorem dX3_firstFault_105 : decode cX3_firstFault 105 = .ok (.iload_n 1, 1) := by decide +kernel
theorem dX3_firstFault_106 : decode cX3_firstFault 106 = .ok (.iconst 1, 1) := by decide +kernel
theorem dX3_firstFault_107 : decode cX3_firstFault 107 = .ok (.iadd, 1) := by decide +kernel
theorem dX3_firstFault_108 : decode cX3_firstFault 108 = .ok (.goto 4, 3) := by decide +kernel
theorem dX3_firstFault_111 : decode cX3_firstFault 111 = .ok (.iload_n 1, 1) := by decide +kernel
theorem dX3_firstFault_112 : decode cX3_firstFault 112 = .ok (.istore_n 1, 1) := by decide +kernel
theorem dX3_firstFault_113 : decode cX3_firstFault 113 = .ok (.iinc 3 1, 3) := by decide +kernel
theorem dX3_firstFault_116 : decode cX3_firstFault 116 = .ok (.goto (-110), 3) := by decide +kernel
theorem dX3_firstFault_119 : decode cX3_firstFault 119 = .ok (.aload_n 0, 1) := by decide +kernel
theorem dX3_firstFault_120 : decode cX3_firstFault 120 = .ok (.getfield 14, 3) := by decide +kernel
theorem dX3_firstFault_123 : decode cX3_firstFault 123 = .ok (.getfield 42, 3) := by decide +kernel
theorem dX3_firstFault_126 : decode cX3_firstFault 126 = .ok (.ifCond .le 11, 3) := by decide +kernel
theorem dX3_firstFault_129 : decode cX3_firstFault 129 = .ok (.iload_n 2, 1) := by decide +kernel
theorem dX3_firstFault_130 : decode cX3_firstFault 130 = .ok (.ifCond .ne 7, 3) := by decide +kernel
theorem dX3_firstFault_133 : decode cX3_firstFault 133 = .ok (.iconst 1, 1) := by decide +kernel
theorem dX3_firstFault_134 : decode cX3_firstFault 134 = .ok (.goto 4, 3) := by decide +kernel
theorem dX3_firstFault_137 : decode cX3_firstFault 137 = .ok (.iconst 0, 1) := by decide +kernel
theorem dX3_firstFault_138 : decode cX3_firstFault 138 = .ok (.istore_n 3, 1) := by decide +kernel
theorem dX3_firstFault_139 : decode cX3_firstFault 139 = .ok (.iload_n 3, 1) := by decide +kernel
theorem dX3_firstFault_140 : decode cX3_firstFault 140 = .ok (.ifCond .eq 13, 3) := by decide +kernel
theorem dX3_firstFault_143 : decode cX3_firstFault 143 = .ok (.aload_n 0, 1) := by decide +kernel
theorem dX3_firstFault_144 : decode cX3_firstFault 144 = .ok (.getfield 14, 3) := by decide +kernel
theorem dX3_firstFault_147 : decode cX3_firstFault 147 = .ok (.getfield 42, 3) := by decide +kernel
theorem dX3_firstFault_150 : decode cX3_firstFault 150 = .ok (.goto 4, 3) := by decide +kernel
theorem dX3_firstFault_153 : decode cX3_firstFault 153 = .ok (.iconst (-1), 1) := by decide +kernel
theorem dX3_firstFault_154 : decode cX3_firstFault 154 = .ok (.ireturn, 1) := by decide +kernel
theorem dX4_init_0 : decode cX4_init 0 = .ok (.aload_n 0, 1) := by decide +kernel
theorem dX4_init_1 : decode cX4_init 1 = .ok (.invokespecial 1, 3) := by decide +kernel
theorem dX4_init_4 : decode cX4_init 4 = .ok (.aload_n 0, 1) := by decide +kernel
theorem dX4_init_5 : decode cX4_init 5 = .ok (.new 7, 3) := by decide +kernel
theorem dX4_init_8 : decode cX4_init 8 = .ok (.dup, 1) := by decide +kernel
theorem dX4_init_9 : decode cX4_init 9 = .ok (.bipush 24, 2) := by decide +kernel
theorem dX4_init_11 : decode cX4_init 11 = .ok (.invokespecial 11, 3) := by decide +kernel
theorem dX4_init_14 : decode cX4_init 14 = .ok (.putfield 14, 3) := by decide +kernel
theorem dX4_init_17 : decode cX4_init 17 = .ok (.aload_n 0, 1) := by decide +kernel
theorem dX4_init_18 : decode cX4_init 18 = .ok (.new 18, 3) := by decide +kernel
theorem dX4_init_21 : decode cX4_init 21 = .ok (.dup, 1) := by decide +kernel
theorem dX4_init_22 : decode cX4_init 22 = .ok (.invokespecial 20, 3) := by decide +kernel
theorem dX4_init_25 : decode cX4_init 25 = .ok (.putfield 21, 3) := by decide +kernel
theorem dX4_init_28 : decode cX4_init 28 = .ok (.aload_n 0, 1) := by decide +kernel
theorem dX4_init_29 : decode cX4_init 29 = .ok (.new 25, 3) := by decide +kernel
theorem dX4_init_32 : decode cX4_init 32 = .ok (.dup, 1) := by decide +kernel
theorem dX4_init_33 : decode cX4_init 33 = .ok (.invokespecial 27, 3) := by decide +kernel
theorem dX4_init_36 : decode cX4_init 36 = .ok (.putfield 28, 3) := by decide +kernel
theorem dX4_init_39 : decode cX4_init 39 = .ok (.aload_n 0, 1) := by decide +kernel
theorem dX4_init_40 : decode cX4_init 40 = .ok (.getstatic 32, 3) := by decide +kernel
theorem dX4_init_43 : decode cX4_init 43 = .ok (.invokevirtual 36, 3) := by decide +kernel
theorem dX4_init_46 : decode cX4_init 46 = .ok (.checkcast 37, 3) := by decide +kernel
theorem dX4_init_49 : decode cX4_init 49 = .ok (.putfield 41, 3) := by decide +kernel
theorem dX4_init_52 : decode cX4_init 52 = .ok (.aload_n 0, 1) := by decide +kernel
theorem dX4_init_53 : decode cX4_init 53 = .ok (.bipush 24, 2) := by decide +kernel
theorem dX4_init_55 : decode cX4_init 55 = .ok (.newarray .int, 2) := by decide +kernel
theorem dX4_init_57 : decode cX4_init 57 = .ok (.putfield 44, 3) := by decide +kernel
theorem dX4_init_60 : decode cX4_init 60 = .ok (.aload_n 0, 1) := by decide +kernel
theorem dX4_init_61 : decode cX4_init 61 = .ok (.iconst 1, 1) := by decide +kernel
theorem dX4_init_62 : decode cX4_init 62 = .ok (.putfield 47, 3) := by decide +kernel
theorem dX4_init_65 : decode cX4_init 65 = .ok (.aload_n 0, 1) := by decide +kernel
theorem dX4_init_66 : decode cX4_init 66 = .ok (.iconst 2, 1) := by decide +kernel
theorem dX4_init_67 : decode cX4_init 67 = .ok (.putfield 51, 3) := by decide +kernel
theorem dX4_init_70 : decode cX4_init 70 = .ok (.aload_n 0, 1) := by decide +kernel
theorem dX4_init_71 : decode cX4_init 71 = .ok (.bipush 8, 2) := by decide +kernel
theorem dX4_init_73 : decode cX4_init 73 = .ok (.newarray .int, 2) := by decide +kernel
theorem dX4_init_75 : decode cX4_init 75 = .ok (.putfield 54, 3) := by decide +kernel
theorem dX4_init_78 : decode cX4_init 78 = .ok (.aload_n 0, 1) := by decide +kernel
theorem dX4_init_79 : decode cX4_init 79 = .ok (.getfield 54, 3) := by decide +kernel
theorem dX4_init_82 : decode cX4_init 82 = .ok (.iconst 1, 1) := by decide +kernel
theorem dX4_init_83 : decode cX4_init 83 = .ok (.invokestatic 57, 3) := by decide +kernel
theorem dX4_init_86 : decode cX4_init 86 = .ok (.aload_n 0, 1) := by decide +kernel
theorem dX4_init_87 : decode cX4_init 87 = .ok (.bipush 18, 2) := by decide +kernel
theorem dX4_init_89 : decode cX4_init 89 = .ok (.newarray .int, 2) := by decide +kernel
theorem dX4_init_91 : decode cX4_init 91 = .ok (.putfield 63, 3) := by decide +kernel
theorem dX4_init_94 : decode cX4_init 94 = .ok (.aload_n 0, 1) := by decide +kernel
theorem dX4_init_95 : decode cX4_init 95 = .ok (.iconst 4, 1) := by decide +kernel
theorem dX4_init_96 : decode cX4_init 96 = .ok (.anewarray 66, 3) := by decide +kernel
theorem dX4_init_99 : decode cX4_init 99 = .ok (.putfield 68, 3) := by decide +kernel
theorem dX4_init_102 : decode cX4_init 102 = .ok (.iconst 0, 1) := by decide +kernel
theorem dX4_init_103 : decode cX4_init 103 = .ok (.istore_n 1, 1) := by decide +kernel
theorem dX4_init_104 : decode cX4_init 104 = .ok (.iload_n 1, 1) := by decide +kernel
theorem dX4_init_105 : decode cX4_init 105 = .ok (.aload_n 0, 1) := by decide +kernel
theorem dX4_init_106 : decode cX4_init 106 = .ok (.getfield 68, 3) := by decide +kernel
theorem dX4_init_109 : decode cX4_init 109 = .ok (.arraylength, 1) := by decide +kernel
theorem dX4_init_110 : decode cX4_init 110 = .ok (.if_icmp .ge 22, 3) := by decide +kernel
theorem dX4_init_113 : decode cX4_init 113 = .ok (.aload_n 0, 1) := by decide +kernel
theorem dX4_init_114 : decode cX4_init 114 = .ok (.getfield 68, 3) := by decide +kernel
theorem dX4_init_117 : decode cX4_init 117 = .ok (.iload_n 1, 1) := by decide +kernel
theorem dX4_init_118 : decode cX4_init 118 = .ok (.new 66, 3) := by decide +kernel
theorem dX4_init_121 : decode cX4_init 121 = .ok (.dup, 1) := by decide +kernel
theorem dX4_init_122 : decode cX4_init 122 = .ok (.invokespecial 72, 3) := by decide +kernel
theorem dX4_init_125 : decode cX4_init 125 = .ok (.aastore, 1) := by decide +kernel
theorem dX4_init_126 : decode cX4_init 126 = .ok (.iinc 1 1, 3) := by decide +kernel
theorem dX4_init_129 : decode cX4_init 129 = .ok (.goto (-25), 3) := by decide +kernel
theorem dX4_init_132 : decode cX4_init 132 = .ok (.aload_n 0, 1) := by decide +kernel
theorem dX4_init_133 : decode cX4_init 133 = .ok (.bipush 24, 2) := by decide +kernel
theorem dX4_init_135 : decode cX4_init 135 = .ok (.newarray .int, 2) := by decide +kernel
theorem dX4_init_137 : decode cX4_init 137 = .ok (.putfield 73, 3) := by decide +kernel
theorem dX4_init_140 : decode cX4_init 140 = .ok (.aload_n 0, 1) := by decide +kernel
theorem dX4_init_141 : decode cX4_init 141 = .ok (.bipush 25, 2) := by decide +kernel
theorem dX4_init_143 : decode cX4_init 143 = .ok (.newarray .int, 2) := by decide +kernel
theorem dX4_init_145 : decode cX4_init 145 = .ok (.putfield 76, 3) := by decide +kernel
theorem dX4_init_148 : decode cX4_init 148 = .ok (.return_, 1) := by decide +kernel
theorem dX4_type_0 : decode cX4_type 0 = .ok (.aload_n 0, 1) := by decide +kernel
theorem dX4_type_1 : decode cX4_type 1 = .ok (.iload_n 1, 1) := by decide +kernel
theorem dX4_type_2 : decode cX4_type 2 = .ok (.invokevirtual 79, 3) := by decide +kernel
theorem dX4_type_5 : decode cX4_type 5 = .ok (.astore_n 3, 1) := by decide +kernel
theorem dX4_type_6 : decode cX4_type 6 = .ok (.aload_n 3, 1) := by decide +kernel
theorem dX4_type_7 : decode cX4_type 7 = .ok (.ifnull 14, 3) := by decide +kernel
theorem dX4_type_10 : decode cX4_type 10 = .ok (.iload_n 2, 1) := by decide +kernel
theorem dX4_type_11 : decode cX4_type 11 = .ok (.iconst 0, 1) := by decide +kernel
theorem dX4_type_12 : decode cX4_type 12 = .ok (.sipush 255, 3) := by decide +kernel
theorem dX4_type_15 : decode cX4_type 15 = .ok (.invokestatic 83, 3) := by decide +kernel
theorem dX4_type_18 : decode cX4_type 18 = .ok (.ifCond .ne 6, 3) := by decide +kernel
theorem dX4_type_21 : decode cX4_type 21 = .ok (.bipush (-2), 2) := by decide +kernel
theorem dX4_type_23 : decode cX4_type 23 = .ok (.ireturn, 1) := by decide +kernel
theorem dX4_type_24 : decode cX4_type 24 = .ok (.aload_n 3, 1) := by decide +kernel
theorem dX4_type_25 : decode cX4_type 25 = .ok (.invokevirtual 87, 3) := by decide +kernel
theorem dX4_type_28 : decode cX4_type 28 = .ok (.ifCond .ne 6, 3) := by decide +kernel
theorem dX4_type_31 : decode cX4_type 31 = .ok (.bipush (-4), 2) := by decide +kernel
theorem dX4_type_33 : decode cX4_type 33 = .ok (.ireturn, 1) := by decide +kernel
theorem dX4_type_34 : decode cX4_type 34 = .ok (.aload_n 3, 1) := by decide +kernel
theorem dX4_type_35 : decode cX4_type 35 = .ok (.iload_n 2, 1) := by decide +kernel
theorem dX4_type_36 : decode cX4_type 36 = .ok (.invokevirtual 91, 3) := by decide +kernel
theorem dX4_type_39 : decode cX4_type 39 = .ok (.aload_n 0, 1) := by decide +kernel
theorem dX4_type_40 : decode cX4_type 40 = .ok (.invokevirtual 94, 3) := by decide +kernel
theorem dX4_type_43 : decode cX4_type 43 = .ok (.aload_n 3, 1) := by decide +kernel
theorem dX4_type_44 : decode cX4_type 44 = .ok (.getfield 97, 3) := by decide +kernel
theorem dX4_type_47 : decode cX4_type 47 = .ok (.ireturn, 1) := by decide +kernel
theorem dX4_wipe_0 : decode cX4_wipe 0 = .ok (.aload_n 0, 1) := by decide +kernel
theorem dX4_wipe_1 : decode cX4_wipe 1 = .ok (.iload_n 1, 1) := by decide +kernel
theorem dX4_wipe_2 : decode cX4_wipe 2 = .ok (.invokevirtual 79, 3) := by decide +kernel
theorem dX4_wipe_5 : decode cX4_wipe 5 = .ok (.astore_n 2, 1) := by decide +kernel
theorem dX4_wipe_6 : decode cX4_wipe 6 = .ok (.aload_n 2, 1) := by decide +kernel
theorem dX4_wipe_7 : decode cX4_wipe 7 = .ok (.ifnonnull 6, 3) := by decide +kernel
theorem dX4_wipe_10 : decode cX4_wipe 10 = .ok (.bipush (-2), 2) := by decide +kernel
theorem dX4_wipe_12 : decode cX4_wipe 12 = .ok (.ireturn, 1) := by decide +kernel
theorem dX4_wipe_13 : decode cX4_wipe 13 = .ok (.aload_n 2, 1) := by decide +kernel
theorem dX4_wipe_14 : decode cX4_wipe 14 = .ok (.getfield 97, 3) := by decide +kernel
theorem dX4_wipe_17 : decode cX4_wipe 17 = .ok (.istore_n 3, 1) := by decide +kernel
theorem dX4_wipe_18 : decode cX4_wipe 18 = .ok (.aload_n 2, 1) := by decide +kernel
theorem dX4_wipe_19 : decode cX4_wipe 19 = .ok (.iconst 0, 1) := by decide +kernel
theorem dX4_wipe_20 : decode cX4_wipe 20 = .ok (.putfield 97, 3) := by decide +kernel
theorem dX4_wipe_23 : decode cX4_wipe 23 = .ok (.aload_n 0, 1) := by decide +kernel
theorem dX4_wipe_24 : decode cX4_wipe 24 = .ok (.invokevirtual 94, 3) := by decide +kernel
theorem dX4_wipe_27 : decode cX4_wipe 27 = .ok (.iload_n 3, 1) := by decide +kernel
theorem dX4_wipe_28 : decode cX4_wipe 28 = .ok (.ireturn, 1) := by decide +kernel
theorem dX4_fault_0 : decode cX4_fault 0 = .ok (.iload_n 1, 1) := by decide +kernel
theorem dX4_fault_1 : decode cX4_fault 1 = .ok (.iconst 0, 1) := by decide +kernel
theorem dX4_fault_2 : decode cX4_fault 2 = .ok (.iconst 1, 1) := by decide +kernel
theorem dX4_fault_3 : decode cX4_fault 3 = .ok (.invokestatic 83, 3) := by decide +kernel
theorem dX4_fault_6 : decode cX4_fault 6 = .ok (.ifCond .ne 6, 3) := by decide +kernel
theorem dX4_fault_9 : decode cX4_fault 9 = .ok (.bipush (-2), 2) := by decide +kernel
theorem dX4_fault_11 : decode cX4_fault 11 = .ok (.ireturn, 1) := by decide +kernel
theorem dX4_fault_12 : decode cX4_fault 12 = .ok (.iload_n 1, 1) := by decide +kernel
theorem dX4_fault_13 : decode cX4_fault 13 = .ok (.ifCond .ne 10, 3) := by decide +kernel
theorem dX4_fault_16 : decode cX4_fault 16 = .ok (.aload_n 0, 1) := by decide +kernel
theorem dX4_fault_17 : decode cX4_fault 17 = .ok (.invokevirtual 100, 3) := by decide +kernel
theorem dX4_fault_20 : decode cX4_fault 20 = .ok (.goto 10, 3) := by decide +kernel
theorem dX4_fault_23 : decode cX4_fault 23 = .ok (.aload_n 0, 1) := by decide +kernel
theorem dX4_fault_24 : decode cX4_fault 24 = .ok (.getfield 21, 3) := by decide +kernel
theorem dX4_fault_27 : decode cX4_fault 27 = .ok (.getfield 104, 3) := by decide +kernel
theorem dX4_fault_30 : decode cX4_fault 30 = .ok (.ireturn, 1) := by decide +kernel
theorem dX4_sign_0 : decode cX4_sign 0 = .ok (.iload_n 1, 1) := by decide +kernel
theorem dX4_sign_1 : decode cX4_sign 1 = .ok (.iconst 0, 1) := by decide +kernel
theorem dX4_sign_2 : decode cX4_sign 2 = .ok (.bipush 9, 2) := by decide +kernel
theorem dX4_sign_4 : decode cX4_sign 4 = .ok (.invokestatic 83, 3) := by decide +kernel
theorem dX4_sign_7 : decode cX4_sign 7 = .ok (.ifCond .eq 10, 3) := by decide +kernel
theorem dX4_sign_10 : decode cX4_sign 10 = .ok (.iload_n 2, 1) := by decide +kernel
theorem dX4_sign_11 : decode cX4_sign 11 = .ok (.invokestatic 107, 3) := by decide +kernel
theorem dX4_sign_14 : decode cX4_sign 14 = .ok (.ifCond .ne 6, 3) := by decide +kernel
theorem dX4_sign_17 : decode cX4_sign 17 = .ok (.bipush (-2), 2) := by decide +kernel
theorem dX4_sign_19 : decode cX4_sign 19 = .ok (.ireturn, 1) := by decide +kernel
theorem dX4_sign_20 : decode cX4_sign 20 = .ok (.aload_n 0, 1) := by decide +kernel
theorem dX4_sign_21 : decode cX4_sign 21 = .ok (.getfield 41, 3) := by decide +kernel
theorem dX4_sign_24 : decode cX4_sign 24 = .ok (.iload_n 1, 1) := by decide +kernel
theorem dX4_sign_25 : decode cX4_sign 25 = .ok (.invokestatic 111, 3) := by decide +kernel
theorem dX4_sign_28 : decode cX4_sign 28 = .ok (.istore_n 3, 1) := by decide +kernel
theorem dX4_sign_29 : decode cX4_sign 29 = .ok (.aload_n 0, 1) := by decide +kernel
theorem dX4_sign_30 : decode cX4_sign 30 = .ok (.getfield 41, 3) := by decide +kernel
theorem dX4_sign_33 : decode cX4_sign 33 = .ok (.iload_n 1, 1) := by decide +kernel
theorem dX4_sign_34 : decode cX4_sign 34 = .ok (.iload_n 2, 1) := by decide +kernel
theorem dX4_sign_35 : decode cX4_sign 35 = .ok (.invokestatic 115, 3) := by decide +kernel
theorem dX4_sign_38 : decode cX4_sign 38 = .ok (.aload_n 0, 1) := by decide +kernel
theorem dX4_sign_39 : decode cX4_sign 39 = .ok (.invokevirtual 119, 3) := by decide +kernel
theorem dX4_sign_42 : decode cX4_sign 42 = .ok (.iload_n 3, 1) := by decide +kernel
theorem dX4_sign_43 : decode cX4_sign 43 = .ok (.ireturn, 1) := by decide +kernel
theorem dX4_read_0 : decode cX4_read 0 = .ok (.aload_n 0, 1) := by decide +kernel
theorem dX4_read_1 : decode cX4_read 1 = .ok (.iload_n 1, 1) := by decide +kernel
theorem dX4_read_2 : decode cX4_read 2 = .ok (.invokevirtual 122, 3) := by decide +kernel
theorem dX4_read_5 : decode cX4_read 5 = .ok (.astore_n 2, 1) := by decide +kernel
theorem dX4_read_6 : decode cX4_read 6 = .ok (.aload_n 2, 1) := by decide +kernel
theorem dX4_read_7 : decode cX4_read 7 = .ok (.ifnonnull 6, 3) := by decide +kernel
theorem dX4_read_10 : decode cX4_read 10 = .ok (.bipush (-2), 2) := by decide +kernel
theorem dX4_read_12 : decode cX4_read 12 = .ok (.ireturn, 1) := by decide +kernel
theorem dX4_read_13 : decode cX4_read 13 = .ok (.aload_n 2, 1) := by decide +kernel
theorem dX4_read_14 : decode cX4_read 14 = .ok (.invokevirtual 126, 3) := by decide +kernel
theorem dX4_read_17 : decode cX4_read 17 = .ok (.ifCond .eq 9, 3) := by decide +kernel
theorem dX4_read_20 : decode cX4_read 20 = .ok (.aload_n 0, 1) := by decide +kernel
theorem dX4_read_21 : decode cX4_read 21 = .ok (.iconst 1, 1) := by decide +kernel
theorem dX4_read_22 : decode cX4_read 22 = .ok (.invokevirtual 129, 3) := by decide +kernel
theorem dX4_read_25 : decode cX4_read 25 = .ok (.ireturn, 1) := by decide +kernel
theorem dX4_read_26 : decode cX4_read 26 = .ok (.iconst 0, 1) := by decide +kernel
theorem dX4_read_27 : decode cX4_read 27 = .ok (.istore_n 3, 1) := by decide +kernel
theorem dX4_read_28 : decode cX4_read 28 = .ok (.iload_n 3, 1) := by decide +kernel
theorem dX4_read_29 : decode cX4_read 29 = .ok (.bipush 10, 2) := by decide +kernel
theorem dX4_read_31 : decode cX4_read 31 = .ok (.if_icmp .ge 47, 3) := by decide +kernel
theorem dX4_read_34 : decode cX4_read 34 = .ok (.iload_n 3, 1) := by decide +kernel
theorem dX4_read_35 : decode cX4_read 35 = .ok (.aload_n 2, 1) := by decide +kernel
theorem dX4_read_36 : decode cX4_read 36 = .ok (.getfield 133, 3) := by decide +kernel
theorem dX4_read_39 : decode cX4_read 39 = .ok (.if_icmp .ge 39, 3) := by decide +kernel
theorem dX4_read_42 : decode cX4_read 42 = .ok (.aload_n 2, 1) := by decide +kernel
theorem dX4_read_43 : decode cX4_read 43 = .ok (.getfield 136, 3) := by decide +kernel
theorem dX4_read_46 : decode cX4_read 46 = .ok (.iload_n 3, 1) := by decide +kernel
theorem dX4_read_47 : decode cX4_read 47 = .ok (.invokestatic 111, 3) := by decide +kernel
theorem dX4_read_50 : decode cX4_read 50 = .ok (.invokestatic 107, 3) := by decide +kernel
theorem dX4_read_53 : decode cX4_read 53 = .ok (.ifCond .eq 25, 3) := by decide +kernel
theorem dX4_read_56 : decode cX4_read 56 = .ok (.aload_n 0, 1) := by decide +kernel
theorem dX4_read_57 : decode cX4_read 57 = .ok (.getfield 41, 3) := by decide +kernel
theorem dX4_read_60 : decode cX4_read 60 = .ok (.iload_n 3, 1) := by decide +kernel
theorem dX4_read_61 : decode cX4_read 61 = .ok (.aload_n 2, 1) := by decide +kernel
theorem dX4_read_62 : decode cX4_read 62 = .ok (.getfield 136, 3) := by decide +kernel
theorem dX4_read_65 : decode cX4_read 65 = .ok (.iload_n 3, 1) := by decide +kernel
theorem dX4_read_66 : decode cX4_read 66 = .ok (.invokestatic 111, 3) := by decide +kernel
theorem dX4_read_69 : decode cX4_read 69 = .ok (.invokestatic 115, 3) := by decide +kernel
theorem dX4_read_72 : decode cX4_read 72 = .ok (.iinc 3 1, 3) := by decide +kernel
theorem dX4_read_75 : decode cX4_read 75 = .ok (.goto (-47), 3) := by decide +kernel
theorem dX4_read_78 : decode cX4_read 78 = .ok (.aload_n 0, 1) := by decide +kernel
theorem dX4_read_79 : decode cX4_read 79 = .ok (.invokevirtual 119, 3) := by decide +kernel
theorem dX4_read_82 : decode cX4_read 82 = .ok (.iload_n 3, 1) := by decide +kernel
theorem dX4_read_83 : decode cX4_read 83 = .ok (.ireturn, 1) := by decide +kernel
theorem dX4_slip_0 : decode cX4_slip 0 = .ok (.iload_n 1, 1) := by decide +kernel
theorem dX4_slip_1 : decode cX4_slip 1 = .ok (.iconst 0, 1) := by decide +kernel
theorem dX4_slip_2 : decode cX4_slip 2 = .ok (.bipush 23, 2) := by decide +kernel
theorem dX4_slip_4 : decode cX4_slip 4 = .ok (.invokestatic 83, 3) := by decide +kernel
theorem dX4_slip_7 : decode cX4_slip 7 = .ok (.ifCond .eq 21, 3) := by decide +kernel
theorem dX4_slip_10 : decode cX4_slip 10 = .ok (.iload_n 2, 1) := by decide +kernel
theorem dX4_slip_11 : decode cX4_slip 11 = .ok (.iconst 0, 1) := by decide +kernel
theorem dX4_slip_12 : decode cX4_slip 12 = .ok (.iconst 5, 1) := by decide +kernel
theorem dX4_slip_13 : decode cX4_slip 13 = .ok (.invokestatic 83, 3) := by decide +kernel
theorem dX4_slip_16 : decode cX4_slip 16 = .ok (.ifCond .eq 12, 3) := by decide +kernel
theorem dX4_slip_19 : decode cX4_slip 19 = .ok (.iload_n 3, 1) := by decide +kernel
theorem dX4_slip_20 : decode cX4_slip 20 = .ok (.iconst 0, 1) := by decide +kernel
theorem dX4_slip_21 : decode cX4_slip 21 = .ok (.iconst 1, 1) := by decide +kernel
theorem dX4_slip_22 : decode cX4_slip 22 = .ok (.invokestatic 83, 3) := by decide +kernel
theorem dX4_slip_25 : decode cX4_slip 25 = .ok (.ifCond .ne 6, 3) := by decide +kernel
theorem dX4_slip_28 : decode cX4_slip 28 = .ok (.bipush (-2), 2) := by decide +kernel
theorem dX4_slip_30 : decode cX4_slip 30 = .ok (.ireturn, 1) := by decide +kernel
theorem dX4_slip_31 : decode cX4_slip 31 = .ok (.aload_n 0, 1) := by decide +kernel
theorem dX4_slip_32 : decode cX4_slip 32 = .ok (.getfield 28, 3) := by decide +kernel
theorem dX4_slip_35 : decode cX4_slip 35 = .ok (.getfield 139, 3) := by decide +kernel
theorem dX4_slip_38 : decode cX4_slip 38 = .ok (.bipush 12, 2) := by decide +kernel
theorem dX4_slip_40 : decode cX4_slip 40 = .ok (.if_icmp .lt 6, 3) := by decide +kernel
theorem dX4_slip_43 : decode cX4_slip 43 = .ok (.bipush (-4), 2) := by decide +kernel
theorem dX4_slip_45 : decode cX4_slip 45 = .ok (.ireturn, 1) := by decide +kernel
theorem dX4_slip_46 : decode cX4_slip 46 = .ok (.aload_n 0, 1) := by decide +kernel
theorem dX4_slip_47 : decode cX4_slip 47 = .ok (.getfield 28, 3) := by decide +kernel
theorem dX4_slip_50 : decode cX4_slip 50 = .ok (.iload_n 1, 1) := by decide +kernel
theorem dX4_slip_51 : decode cX4_slip 51 = .ok (.iload_n 2, 1) := by decide +kernel
theorem dX4_slip_52 : decode cX4_slip 52 = .ok (.iload_n 3, 1) := by decide +kernel
theorem dX4_slip_53 : decode cX4_slip 53 = .ok (.invokevirtual 142, 3) := by decide +kernel
theorem dX4_slip_56 : decode cX4_slip 56 = .ok (.aload_n 0, 1) := by decide +kernel
theorem dX4_slip_57 : decode cX4_slip 57 = .ok (.invokevirtual 119, 3) := by decide +kernel
theorem dX4_slip_60 : decode cX4_slip 60 = .ok (.aload_n 0, 1) := by decide +kernel
theorem dX4_slip_61 : decode cX4_slip 61 = .ok (.getfield 28, 3) := by decide +kernel
theorem dX4_slip_64 : decode cX4_slip 64 = .ok (.getfield 139, 3) := by decide +kernel
theorem dX4_slip_67 : decode cX4_slip 67 = .ok (.ireturn, 1) := by decide +kernel
theorem dX4_undo_0 : decode cX4_undo 0 = .ok (.aload_n 0, 1) := by decide +kernel
theorem dX4_undo_1 : decode cX4_undo 1 = .ok (.getfield 28, 3) := by decide +kernel
theorem dX4_undo_4 : decode cX4_undo 4 = .ok (.getfield 139, 3) := by decide +kernel
theorem dX4_undo_7 : decode cX4_undo 7 = .ok (.ifCond .gt 6, 3) := by decide +kernel
theorem dX4_undo_10 : decode cX4_undo 10 = .ok (.bipush (-3), 2) := by decide +kernel
theorem dX4_undo_12 : decode cX4_undo 12 = .ok (.ireturn, 1) := by decide +kernel
theorem dX4_undo_13 : decode cX4_undo 13 = .ok (.aload_n 0, 1) := by decide +kernel
theorem dX4_undo_14 : decode cX4_undo 14 = .ok (.getfield 28, 3) := by decide +kernel
theorem dX4_undo_17 : decode cX4_undo 17 = .ok (.dup, 1) := by decide +kernel
theorem dX4_undo_18 : decode cX4_undo 18 = .ok (.getfield 139, 3) := by decide +kernel
theorem dX4_undo_21 : decode cX4_undo 21 = .ok (.iconst 1, 1) := by decide +kernel
theorem dX4_undo_22 : decode cX4_undo 22 = .ok (.isub, 1) := by decide +kernel
theorem dX4_undo_23 : decode cX4_undo 23 = .ok (.putfield 139, 3) := by decide +kernel
theorem dX4_undo_26 : decode cX4_undo 26 = .ok (.aload_n 0, 1) := by decide +kernel
theorem dX4_undo_27 : decode cX4_undo 27 = .ok (.invokevirtual 119, 3) := by decide +kernel
theorem dX4_undo_30 : decode cX4_undo 30 = .ok (.aload_n 0, 1) := by decide +kernel
theorem dX4_undo_31 : decode cX4_undo 31 = .ok (.getfield 28, 3) := by decide +kernel
theorem dX4_undo_34 : decode cX4_undo 34 = .ok (.getfield 139, 3) := by decide +kernel
theorem dX4_undo_37 : decode cX4_undo 37 = .ok (.ireturn, 1) := by decide +kernel
theorem dX4_set_0 : decode cX4_set 0 = .ok (.iload_n 1, 1) := by decide +kernel
theorem dX4_set_1 : decode cX4_set 1 = .ok (.iconst 0, 1) := by decide +kernel
theorem dX4_set_2 : decode cX4_set 2 = .ok (.iconst 1, 1) := by decide +kernel
theorem dX4_set_3 : decode cX4_set 3 = .ok (.invokestatic 83, 3) := by decide +kernel
theorem dX4_set_6 : decode cX4_set 6 = .ok (.ifCond .eq 13, 3) := by decide +kernel
theorem dX4_set_9 : decode cX4_set 9 = .ok (.iload_n 2, 1) := by decide +kernel
theorem dX4_set_10 : decode cX4_set 10 = .ok (.iconst 0, 1) := by decide +kernel
theorem dX4_set_11 : decode cX4_set 11 = .ok (.bipush 9, 2) := by decide +kernel
theorem dX4_set_13 : decode cX4_set 13 = .ok (.invokestatic 83, 3) := by decide +kernel
theorem dX4_set_16 : decode cX4_set 16 = .ok (.ifCond .ne 6, 3) := by decide +kernel
theorem dX4_set_19 : decode cX4_set 19 = .ok (.bipush (-2), 2) := by decide +kernel
theorem dX4_set_21 : decode cX4_set 21 = .ok (.ireturn, 1) := by decide +kernel
theorem dX4_set_22 : decode cX4_set 22 = .ok (.iload_n 1, 1) := by decide +kernel
theorem dX4_set_23 : decode cX4_set 23 = .ok (.ifCond .ne 10, 3) := by decide +kernel
theorem dX4_set_26 : decode cX4_set 26 = .ok (.aload_n 0, 1) := by decide +kernel
theorem dX4_set_27 : decode cX4_set 27 = .ok (.getfield 47, 3) := by decide +kernel
theorem dX4_set_30 : decode cX4_set 30 = .ok (.goto 7, 3) := by decide +kernel
theorem dX4_set_33 : decode cX4_set 33 = .ok (.aload_n 0, 1) := by decide +kernel
theorem dX4_set_34 : decode cX4_set 34 = .ok (.getfield 51, 3) := by decide +kernel
theorem dX4_set_37 : decode cX4_set 37 = .ok (.istore_n 3, 1) := by decide +kernel
theorem dX4_set_38 : decode cX4_set 38 = .ok (.iload_n 1, 1) := by decide +kernel
theorem dX4_set_39 : decode cX4_set 39 = .ok (.ifCond .ne 11, 3) := by decide +kernel
theorem dX4_set_42 : decode cX4_set 42 = .ok (.aload_n 0, 1) := by decide +kernel
theorem dX4_set_43 : decode cX4_set 43 = .ok (.iload_n 2, 1) := by decide +kernel
theorem dX4_set_44 : decode cX4_set 44 = .ok (.putfield 47, 3) := by decide +kernel
theorem dX4_set_47 : decode cX4_set 47 = .ok (.goto 8, 3) := by decide +kernel
theorem dX4_set_50 : decode cX4_set 50 = .ok (.aload_n 0, 1) := by decide +kernel
theorem dX4_set_51 : decode cX4_set 51 = .ok (.iload_n 2, 1) := by decide +kernel
theorem dX4_set_52 : decode cX4_set 52 = .ok (.putfield 51, 3) := by decide +kernel
theorem dX4_set_55 : decode cX4_set 55 = .ok (.iload_n 3, 1) := by decide +kernel
theorem dX4_set_56 : decode cX4_set 56 = .ok (.ireturn, 1) := by decide +kernel
theorem dX4_often_0 : decode cX4_often 0 = .ok (.iload_n 1, 1) := by decide +kernel
theorem dX4_often_1 : decode cX4_often 1 = .ok (.iconst 0, 1) := by decide +kernel
theorem dX4_often_2 : decode cX4_often 2 = .ok (.bipush 7, 2) := by decide +kernel
theorem dX4_often_4 : decode cX4_often 4 = .ok (.invokestatic 83, 3) := by decide +kernel
theorem dX4_often_7 : decode cX4_often 7 = .ok (.ifCond .eq 13, 3) := by decide +kernel
theorem dX4_often_10 : decode cX4_often 10 = .ok (.iload_n 2, 1) := by decide +kernel
theorem dX4_often_11 : decode cX4_often 11 = .ok (.iconst 0, 1) := by decide +kernel
theorem dX4_often_12 : decode cX4_often 12 = .ok (.bipush 99, 2) := by decide +kernel
theorem dX4_often_14 : decode cX4_often 14 = .ok (.invokestatic 83, 3) := by decide +kernel
theorem dX4_often_17 : decode cX4_often 17 = .ok (.ifCond .ne 6, 3) := by decide +kernel
theorem dX4_often_20 : decode cX4_often 20 = .ok (.bipush (-2), 2) := by decide +kernel
theorem dX4_often_22 : decode cX4_often 22 = .ok (.ireturn, 1) := by decide +kernel
theorem dX4_often_23 : decode cX4_often 23 = .ok (.aload_n 0, 1) := by decide +kernel
theorem dX4_often_24 : decode cX4_often 24 = .ok (.getfield 54, 3) := by decide +kernel
theorem dX4_often_27 : decode cX4_often 27 = .ok (.iload_n 1, 1) := by decide +kernel
theorem dX4_often_28 : decode cX4_often 28 = .ok (.invokestatic 111, 3) := by decide +kernel
theorem dX4_often_31 : decode cX4_often 31 = .ok (.istore_n 3, 1) := by decide +kernel
theorem dX4_often_32 : decode cX4_often 32 = .ok (.aload_n 0, 1) := by decide +kernel
theorem dX4_often_33 : decode cX4_often 33 = .ok (.getfield 54, 3) := by decide +kernel
theorem dX4_often_36 : decode cX4_often 36 = .ok (.iload_n 1, 1) := by decide +kernel
theorem dX4_often_37 : decode cX4_often 37 = .ok (.iload_n 2, 1) := by decide +kernel
theorem dX4_often_38 : decode cX4_often 38 = .ok (.invokestatic 115, 3) := by decide +kernel
theorem dX4_often_41 : decode cX4_often 41 = .ok (.iload_n 3, 1) := by decide +kernel
theorem dX4_often_42 : decode cX4_often 42 = .ok (.ireturn, 1) := by decide +kernel
theorem dX4_cell_0 : decode cX4_cell 0 = .ok (.aload_n 0, 1) := by decide +kernel
theorem dX4_cell_1 : decode cX4_cell 1 = .ok (.iload_n 1, 1) := by decide +kernel
theorem dX4_cell_2 : decode cX4_cell 2 = .ok (.invokevirtual 146, 3) := by decide +kernel
theorem dX4_cell_5 : decode cX4_cell 5 = .ok (.ifCond .eq 14, 3) := by decide +kernel
theorem dX4_cell_8 : decode cX4_cell 8 = .ok (.aload_n 0, 1) := by decide +kernel
theorem dX4_cell_9 : decode cX4_cell 9 = .ok (.getfield 44, 3) := by decide +kernel
theorem dX4_cell_12 : decode cX4_cell 12 = .ok (.iload_n 1, 1) := by decide +kernel
theorem dX4_cell_13 : decode cX4_cell 13 = .ok (.invokestatic 111, 3) := by decide +kernel
theorem dX4_cell_16 : decode cX4_cell 16 = .ok (.goto 5, 3) := by decide +kernel
theorem dX4_cell_19 : decode cX4_cell 19 = .ok (.bipush (-2), 2) := by decide +kernel
theorem dX4_cell_21 : decode cX4_cell 21 = .ok (.ireturn, 1) := by decide +kernel
theorem dX4_letter_0 : decode cX4_letter 0 = .ok (.aload_n 0, 1) := by decide +kernel
theorem dX4_letter_1 : decode cX4_letter 1 = .ok (.iload_n 1, 1) := by decide +kernel
theorem dX4_letter_2 : decode cX4_letter 2 = .ok (.invokevirtual 146, 3) := by decide +kernel
theorem dX4_letter_5 : decode cX4_letter 5 = .ok (.ifCond .eq 18, 3) := by decide +kernel
theorem dX4_letter_8 : decode cX4_letter 8 = .ok (.aload_n 0, 1) := by decide +kernel
theorem dX4_letter_9 : decode cX4_letter 9 = .ok (.aload_n 0, 1) := by decide +kernel
theorem dX4_letter_10 : decode cX4_letter 10 = .ok (.getfield 44, 3) := by decide +kernel
theorem dX4_letter_13 : decode cX4_letter 13 = .ok (.iload_n 1, 1) := by decide +kernel
theorem dX4_letter_14 : decode cX4_letter 14 = .ok (.invokestatic 111, 3) := by decide +kernel
theorem dX4_letter_17 : decode cX4_letter 17 = .ok (.invokevirtual 149, 3) := by decide +kernel
theorem dX4_letter_20 : decode cX4_letter 20 = .ok (.goto 5, 3) := by decide +kernel
theorem dX4_letter_23 : decode cX4_letter 23 = .ok (.bipush (-2), 2) := by decide +kernel
theorem dX4_letter_25 : decode cX4_letter 25 = .ok (.ireturn, 1) := by decide +kernel
theorem dX4_judged_0 : decode cX4_judged 0 = .ok (.iconst 0, 1) := by decide +kernel
theorem dX4_judged_1 : decode cX4_judged 1 = .ok (.istore_n 1, 1) := by decide +kernel
theorem dX4_judged_2 : decode cX4_judged 2 = .ok (.iload_n 1, 1) := by decide +kernel
theorem dX4_judged_3 : decode cX4_judged 3 = .ok (.aload_n 0, 1) := by decide +kernel
theorem dX4_judged_4 : decode cX4_judged 4 = .ok (.getfield 152, 3) := by decide +kernel
theorem dX4_judged_7 : decode cX4_judged 7 = .ok (.if_icmp .ge 27, 3) := by decide +kernel
theorem dX4_judged_10 : decode cX4_judged 10 = .ok (.aload_n 0, 1) := by decide +kernel
theorem dX4_judged_11 : decode cX4_judged 11 = .ok (.aload_n 0, 1) := by decide +kernel
theorem dX4_judged_12 : decode cX4_judged 12 = .ok (.getfield 44, 3) := by decide +kernel
theorem dX4_judged_15 : decode cX4_judged 15 = .ok (.iload_n 1, 1) := by decide +kernel
theorem dX4_judged_16 : decode cX4_judged 16 = .ok (.invokestatic 111, 3) := by decide +kernel
theorem dX4_judged_19 : decode cX4_judged 19 = .ok (.invokevirtual 149, 3) := by decide +kernel
theorem dX4_judged_22 : decode cX4_judged 22 = .ok (.iconst (-1), 1) := by decide +kernel
theorem dX4_judged_23 : decode cX4_judged 23 = .ok (.if_icmp .ne 5, 3) := by decide +kernel
theorem dX4_judged_26 : decode cX4_judged 26 = .ok (.iload_n 1, 1) := by decide +kernel
theorem dX4_judged_27 : decode cX4_judged 27 = .ok (.ireturn, 1) := by decide +kernel
theorem dX4_judged_28 : decode cX4_judged 28 = .ok (.iinc 1 1, 3) := by decide +kernel
theorem dX4_judged_31 : decode cX4_judged 31 = .ok (.goto (-29), 3) := by decide +kernel
theorem dX4_judged_34 : decode cX4_judged 34 = .ok (.iconst (-1), 1) := by decide +kernel
theorem dX4_judged_35 : decode cX4_judged 35 = .ok (.ireturn, 1) := by decide +kernel
theorem dX4_wrong_0 : decode cX4_wrong 0 = .ok (.aload_n 0, 1) := by decide +kernel
theorem dX4_wrong_1 : decode cX4_wrong 1 = .ok (.iload_n 1, 1) := by decide +kernel
theorem dX4_wrong_2 : decode cX4_wrong 2 = .ok (.invokevirtual 146, 3) := by decide +kernel
theorem dX4_wrong_5 : decode cX4_wrong 5 = .ok (.ifCond .eq 28, 3) := by decide +kernel
theorem dX4_wrong_8 : decode cX4_wrong 8 = .ok (.aload_n 0, 1) := by decide +kernel
theorem dX4_wrong_9 : decode cX4_wrong 9 = .ok (.aload_n 0, 1) := by decide +kernel
theorem dX4_wrong_10 : decode cX4_wrong 10 = .ok (.getfield 44, 3) := by decide +kernel
theorem dX4_wrong_13 : decode cX4_wrong 13 = .ok (.aload_n 0, 1) := by decide +kernel
theorem dX4_wrong_14 : decode cX4_wrong 14 = .ok (.getfield 152, 3) := by decide +kernel
theorem dX4_wrong_17 : decode cX4_wrong 17 = .ok (.iconst 1, 1) := by decide +kernel
theorem dX4_wrong_18 : decode cX4_wrong 18 = .ok (.isub, 1) := by decide +kernel
theorem dX4_wrong_19 : decode cX4_wrong 19 = .ok (.iload_n 1, 1) := by decide +kernel
theorem dX4_wrong_20 : decode cX4_wrong 20 = .ok (.isub, 1) := by decide +kernel
theorem dX4_wrong_21 : decode cX4_wrong 21 = .ok (.invokestatic 111, 3) := by decide +kernel
theorem dX4_wrong_24 : decode cX4_wrong 24 = .ok (.invokestatic 155, 3) := by decide +kernel
theorem dX4_wrong_27 : decode cX4_wrong 27 = .ok (.invokevirtual 149, 3) := by decide +kernel
theorem dX4_wrong_30 : decode cX4_wrong 30 = .ok (.goto 5, 3) := by decide +kernel
theorem dX4_wrong_33 : decode cX4_wrong 33 = .ok (.bipush (-2), 2) := by decide +kernel
theorem dX4_wrong_35 : decode cX4_wrong 35 = .ok (.ireturn, 1) := by decide +kernel
theorem dX4_mirrored_0 : decode cX4_mirrored 0 = .ok (.iload_n 1, 1) := by decide +kernel
theorem dX4_mirrored_1 : decode cX4_mirrored 1 = .ok (.iconst 0, 1) := by decide +kernel
theorem dX4_mirrored_2 : decode cX4_mirrored 2 = .ok (.bipush 63, 2) := by decide +kernel
theorem dX4_mirrored_4 : decode cX4_mirrored 4 = .ok (.invokestatic 83, 3) := by decide +kernel
theorem dX4_mirrored_7 : decode cX4_mirrored 7 = .ok (.ifCond .eq 10, 3) := by decide +kernel
theorem dX4_mirrored_10 : decode cX4_mirrored 10 = .ok (.iload_n 1, 1) := by decide +kernel
theorem dX4_mirrored_11 : decode cX4_mirrored 11 = .ok (.invokestatic 155, 3) := by decide +kernel
theorem dX4_mirrored_14 : decode cX4_mirrored 14 = .ok (.goto 5, 3) := by decide +kernel
theorem dX4_mirrored_17 : decode cX4_mirrored 17 = .ok (.bipush (-2), 2) := by decide +kernel
theorem dX4_mirrored_19 : decode cX4_mirrored 19 = .ok (.ireturn, 1) := by decide +kernel
theorem dX4_both_0 : decode cX4_both 0 = .ok (.iload_n 1, 1) := by decide +kernel
theorem dX4_both_1 : decode cX4_both 1 = .ok (.iconst (-1), 1) := by decide +kernel
theorem dX4_both_2 : decode cX4_both 2 = .ok (.if_icmp .eq 17, 3) := by decide +kernel
theorem dX4_both_5 : decode cX4_both 5 = .ok (.aload_n 0, 1) := by decide +kernel
theorem dX4_both_6 : decode cX4_both 6 = .ok (.getfield 21, 3) := by decide +kernel
theorem dX4_both_9 : decode cX4_both 9 = .ok (.iload_n 1, 1) := by decide +kernel
theorem dX4_both_10 : decode cX4_both 10 = .ok (.invokevirtual 158, 3) := by decide +kernel
theorem dX4_both_13 : decode cX4_both 13 = .ok (.ifCond .ne 6, 3) := by decide +kernel
theorem dX4_both_16 : decode cX4_both 16 = .ok (.bipush (-2), 2) := by decide +kernel
theorem dX4_both_18 : decode cX4_both 18 = .ok (.ireturn, 1) := by decide +kernel
theorem dX4_both_19 : decode cX4_both 19 = .ok (.iload_n 1, 1) := by decide +kernel
theorem dX4_both_20 : decode cX4_both 20 = .ok (.iconst (-1), 1) := by decide +kernel
theorem dX4_both_21 : decode cX4_both 21 = .ok (.if_icmp .ne 10, 3) := by decide +kernel
theorem dX4_both_24 : decode cX4_both 24 = .ok (.aload_n 0, 1) := by decide +kernel
theorem dX4_both_25 : decode cX4_both 25 = .ok (.invokevirtual 161, 3) := by decide +kernel
theorem dX4_both_28 : decode cX4_both 28 = .ok (.goto 8, 3) := by decide +kernel
theorem dX4_both_31 : decode cX4_both 31 = .ok (.aload_n 0, 1) := by decide +kernel
theorem dX4_both_32 : decode cX4_both 32 = .ok (.iload_n 1, 1) := by decide +kernel
theorem dX4_both_33 : decode cX4_both 33 = .ok (.invokevirtual 164, 3) := by decide +kernel
theorem dX4_both_36 : decode cX4_both 36 = .ok (.ireturn, 1) := by decide +kernel
theorem dX4_fits_0 : decode cX4_fits 0 = .ok (.aload_n 0, 1) := by decide +kernel
theorem dX4_fits_1 : decode cX4_fits 1 = .ok (.getfield 21, 3) := by decide +kernel
theorem dX4_fits_4 : decode cX4_fits 4 = .ok (.iload_n 1, 1) := by decide +kernel
theorem dX4_fits_5 : decode cX4_fits 5 = .ok (.invokevirtual 158, 3) := by decide +kernel
theorem dX4_fits_8 : decode cX4_fits 8 = .ok (.ifCond .eq 7, 3) := by decide +kernel
theorem dX4_fits_11 : decode cX4_fits 11 = .ok (.iload_n 2, 1) := by decide +kernel
theorem dX4_fits_12 : decode cX4_fits 12 = .ok (.ifCond .ge 6, 3) := by decide +kernel
theorem dX4_fits_15 : decode cX4_fits 15 = .ok (.bipush (-2), 2) := by decide +kernel
theorem dX4_fits_17 : decode cX4_fits 17 = .ok (.ireturn, 1) := by decide +kernel
theorem dX4_fits_18 : decode cX4_fits 18 = .ok (.aload_n 0, 1) := by decide +kernel
theorem dX4_fits_19 : decode cX4_fits 19 = .ok (.iload_n 1, 1) := by decide +kernel
theorem dX4_fits_20 : decode cX4_fits 20 = .ok (.iload_n 2, 1) := by decide +kernel
theorem dX4_fits_21 : decode cX4_fits 21 = .ok (.invokevirtual 167, 3) := by decide +kernel
theorem dX4_fits_24 : decode cX4_fits 24 = .ok (.ireturn, 1) := by decide +kernel
theorem dX4_meant_0 : decode cX4_meant 0 = .ok (.aload_n 0, 1) := by decide +kernel
theorem dX4_meant_1 : decode cX4_meant 1 = .ok (.iload_n 1, 1) := by decide +kernel
theorem dX4_meant_2 : decode cX4_meant 2 = .ok (.invokevirtual 146, 3) := by decide +kernel
theorem dX4_meant_5 : decode cX4_meant 5 = .ok (.ifCond .eq 12, 3) := by decide +kernel
theorem dX4_meant_8 : decode cX4_meant 8 = .ok (.iload_n 2, 1) := by decide +kernel
theorem dX4_meant_9 : decode cX4_meant 9 = .ok (.iconst 0, 1) := by decide +kernel
theorem dX4_meant_10 : decode cX4_meant 10 = .ok (.iconst 1, 1) := by decide +kernel
theorem dX4_meant_11 : decode cX4_meant 11 = .ok (.invokestatic 83, 3) := by decide +kernel
theorem dX4_meant_14 : decode cX4_meant 14 = .ok (.ifCond .ne 6, 3) := by decide +kernel
theorem dX4_meant_17 : decode cX4_meant 17 = .ok (.bipush (-2), 2) := by decide +kernel
theorem dX4_meant_19 : decode cX4_meant 19 = .ok (.ireturn, 1) := by decide +kernel
theorem dX4_meant_20 : decode cX4_meant 20 = .ok (.aload_n 0, 1) := by decide +kernel
theorem dX4_meant_21 : decode cX4_meant 21 = .ok (.iload_n 1, 1) := by decide +kernel
theorem dX4_meant_22 : decode cX4_meant 22 = .ok (.invokevirtual 171, 3) := by decide +kernel
theorem dX4_meant_25 : decode cX4_meant 25 = .ok (.istore_n 3, 1) := by decide +kernel
theorem dX4_meant_26 : decode cX4_meant 26 = .ok (.iload_n 3, 1) := by decide +kernel
theorem dX4_meant_27 : decode cX4_meant 27 = .ok (.iconst (-1), 1) := by decide +kernel
theorem dX4_meant_28 : decode cX4_meant 28 = .ok (.if_icmp .eq 7, 3) := by decide +kernel
theorem dX4_meant_31 : decode cX4_meant 31 = .ok (.iload_n 2, 1) := by decide +kernel
theorem dX4_meant_32 : decode cX4_meant 32 = .ok (.ifCond .ne 7, 3) := by decide +kernel
theorem dX4_meant_35 : decode cX4_meant 35 = .ok (.iload_n 3, 1) := by decide +kernel
theorem dX4_meant_36 : decode cX4_meant 36 = .ok (.goto 9, 3) := by decide +kernel
theorem dX4_meant_39 : decode cX4_meant 39 = .ok (.aload_n 0, 1) := by decide +kernel
theorem dX4_meant_40 : decode cX4_meant 40 = .ok (.iload_n 3, 1) := by decide +kernel
theorem dX4_meant_41 : decode cX4_meant 41 = .ok (.iload_n 1, 1) := by decide +kernel
theorem dX4_meant_42 : decode cX4_meant 42 = .ok (.invokevirtual 167, 3) := by decide +kernel
theorem dX4_meant_45 : decode cX4_meant 45 = .ok (.ireturn, 1) := by decide +kernel
theorem dX4_within_0 : decode cX4_within 0 = .ok (.aload_n 0, 1) := by decide +kernel
theorem dX4_within_1 : decode cX4_within 1 = .ok (.iload_n 1, 1) := by decide +kernel
theorem dX4_within_2 : decode cX4_within 2 = .ok (.invokevirtual 146, 3) := by decide +kernel
theorem dX4_within_5 : decode cX4_within 5 = .ok (.ifCond .eq 14, 3) := by decide +kernel
theorem dX4_within_8 : decode cX4_within 8 = .ok (.iload_n 2, 1) := by decide +kernel
theorem dX4_within_9 : decode cX4_within 9 = .ok (.iconst 0, 1) := by decide +kernel
theorem dX4_within_10 : decode cX4_within 10 = .ok (.sipush 999, 3) := by decide +kernel
theorem dX4_within_13 : decode cX4_within 13 = .ok (.invokestatic 83, 3) := by decide +kernel
theorem dX4_within_16 : decode cX4_within 16 = .ok (.ifCond .ne 6, 3) := by decide +kernel
theorem dX4_within_19 : decode cX4_within 19 = .ok (.bipush (-2), 2) := by decide +kernel
theorem dX4_within_21 : decode cX4_within 21 = .ok (.ireturn, 1) := by decide +kernel
theorem dX4_within_22 : decode cX4_within 22 = .ok (.iconst 0, 1) := by decide +kernel
theorem dX4_within_23 : decode cX4_within 23 = .ok (.istore_n 3, 1) := by decide +kernel
theorem dX4_within_24 : decode cX4_within 24 = .ok (.iconst 0, 1) := by decide +kernel
theorem dX4_within_25 : decode cX4_within 25 = .ok (.istore 4, 2) := by decide +kernel
theorem dX4_within_27 : decode cX4_within 27 = .ok (.iload 4, 2) := by decide +kernel
theorem dX4_within_29 : decode cX4_within 29 = .ok (.aload_n 0, 1) := by decide +kernel
theorem dX4_within_30 : decode cX4_within 30 = .ok (.getfield 21, 3) := by decide +kernel
theorem dX4_within_33 : decode cX4_within 33 = .ok (.getfield 174, 3) := by decide +kernel
theorem dX4_within_36 : decode cX4_within 36 = .ok (.if_icmp .ge 37, 3) := by decide +kernel
theorem dX4_within_39 : decode cX4_within 39 = .ok (.aload_n 0, 1) := by decide +kernel
theorem dX4_within_40 : decode cX4_within 40 = .ok (.iload 4, 2) := by decide +kernel
theorem dX4_within_42 : decode cX4_within 42 = .ok (.iload_n 1, 1) := by decide +kernel
theorem dX4_within_43 : decode cX4_within 43 = .ok (.invokevirtual 167, 3) := by decide +kernel
theorem dX4_within_46 : decode cX4_within 46 = .ok (.istore 5, 2) := by decide +kernel
theorem dX4_within_48 : decode cX4_within 48 = .ok (.iload 5, 2) := by decide +kernel
theorem dX4_within_50 : decode cX4_within 50 = .ok (.iconst (-1), 1) := by decide +kernel
theorem dX4_within_51 : decode cX4_within 51 = .ok (.if_icmp .eq 16, 3) := by decide +kernel
theorem dX4_within_54 : decode cX4_within 54 = .ok (.iload 5, 2) := by decide +kernel
theorem dX4_within_56 : decode cX4_within 56 = .ok (.iload_n 2, 1) := by decide +kernel
theorem dX4_within_57 : decode cX4_within 57 = .ok (.if_icmp .gt 10, 3) := by decide +kernel
theorem dX4_within_60 : decode cX4_within 60 = .ok (.iload_n 3, 1) := by decide +kernel
theorem dX4_within_61 : decode cX4_within 61 = .ok (.iconst 1, 1) := by decide +kernel
theorem dX4_within_62 : decode cX4_within 62 = .ok (.iload 4, 2) := by decide +kernel
theorem dX4_within_64 : decode cX4_within 64 = .ok (.ishl, 1) := by decide +kernel
theorem dX4_within_65 : decode cX4_within 65 = .ok (.ior, 1) := by decide +kernel
theorem dX4_within_66 : decode cX4_within 66 = .ok (.istore_n 3, 1) := by decide +kernel
theorem dX4_within_67 : decode cX4_within 67 = .ok (.iinc 4 1, 3) := by decide +kernel
theorem dX4_within_70 : decode cX4_within 70 = .ok (.goto (-43), 3) := by decide +kernel
theorem dX4_within_73 : decode cX4_within 73 = .ok (.iload_n 3, 1) := by decide +kernel
theorem dX4_within_74 : decode cX4_within 74 = .ok (.ireturn, 1) := by decide +kernel
theorem dX4_line_0 : decode cX4_line 0 = .ok (.iload_n 1, 1) := by decide +kernel
theorem dX4_line_1 : decode cX4_line 1 = .ok (.iconst 0, 1) := by decide +kernel
theorem dX4_line_2 : decode cX4_line 2 = .ok (.iconst 1, 1) := by decide +kernel
theorem dX4_line_3 : decode cX4_line 3 = .ok (.invokestatic 83, 3) := by decide +kernel
theorem dX4_line_6 : decode cX4_line 6 = .ok (.ifCond .ne 6, 3) := by decide +kernel
theorem dX4_line_9 : decode cX4_line 9 = .ok (.bipush (-2), 2) := by decide +kernel
theorem dX4_line_11 : decode cX4_line 11 = .ok (.ireturn, 1) := by decide +kernel
theorem dX4_line_12 : decode cX4_line 12 = .ok (.aload_n 0, 1) := by decide +kernel
theorem dX4_line_13 : decode cX4_line 13 = .ok (.invokevirtual 175, 3) := by decide +kernel
theorem dX4_line_16 : decode cX4_line 16 = .ok (.istore_n 2, 1) := by decide +kernel
theorem dX4_line_17 : decode cX4_line 17 = .ok (.iload_n 1, 1) := by decide +kernel
theorem dX4_line_18 : decode cX4_line 18 = .ok (.ifCond .ne 10, 3) := by decide +kernel
theorem dX4_line_21 : decode cX4_line 21 = .ok (.iload_n 2, 1) := by decide +kernel
theorem dX4_line_22 : decode cX4_line 22 = .ok (.bipush 64, 2) := by decide +kernel
theorem dX4_line_24 : decode cX4_line 24 = .ok (.idiv, 1) := by decide +kernel
theorem dX4_line_25 : decode cX4_line 25 = .ok (.goto 7, 3) := by decide +kernel
theorem dX4_line_28 : decode cX4_line 28 = .ok (.iload_n 2, 1) := by decide +kernel
theorem dX4_line_29 : decode cX4_line 29 = .ok (.bipush 64, 2) := by decide +kernel
theorem dX4_line_31 : decode cX4_line 31 = .ok (.irem, 1) := by decide +kernel
theorem dX4_line_32 : decode cX4_line 32 = .ok (.ireturn, 1) := by decide +kernel
theorem dX4_slippery_0 : decode cX4_slippery 0 = .ok (.iconst 0, 1) := by decide +kernel
theorem dX4_slippery_1 : decode cX4_slippery 1 = .ok (.istore_n 1, 1) := by decide +kernel
theorem dX4_slippery_2 : decode cX4_slippery 2 = .ok (.iconst 0, 1) := by decide +kernel
theorem dX4_slippery_3 : decode cX4_slippery 3 = .ok (.istore_n 2, 1) := by decide +kernel
theorem dX4_slippery_4 : decode cX4_slippery 4 = .ok (.iload_n 2, 1) := by decide +kernel
theorem dX4_slippery_5 : decode cX4_slippery 5 = .ok (.bipush 10, 2) := by decide +kernel
theorem dX4_slippery_7 : decode cX4_slippery 7 = .ok (.if_icmp .ge 48, 3) := by decide +kernel
theorem dX4_slippery_10 : decode cX4_slippery 10 = .ok (.iconst 0, 1) := by decide +kernel
theorem dX4_slippery_11 : decode cX4_slippery 11 = .ok (.istore_n 3, 1) := by decide +kernel
theorem dX4_slippery_12 : decode cX4_slippery 12 = .ok (.iload_n 3, 1) := by decide +kernel
theorem dX4_slippery_13 : decode cX4_slippery 13 = .ok (.bipush 10, 2) := by decide +kernel
theorem dX4_slippery_15 : decode cX4_slippery 15 = .ok (.if_icmp .ge 34, 3) := by decide +kernel
theorem dX4_slippery_18 : decode cX4_slippery 18 = .ok (.aload_n 0, 1) := by decide +kernel
theorem dX4_slippery_19 : decode cX4_slippery 19 = .ok (.getfield 41, 3) := by decide +kernel
theorem dX4_slippery_22 : decode cX4_slippery 22 = .ok (.iload_n 3, 1) := by decide +kernel
theorem dX4_slippery_23 : decode cX4_slippery 23 = .ok (.invokestatic 111, 3) := by decide +kernel
theorem dX4_slippery_26 : decode cX4_slippery 26 = .ok (.aload_n 0, 1) := by decide +kernel
theorem dX4_slippery_27 : decode cX4_slippery 27 = .ok (.getfield 41, 3) := by decide +kernel
theorem dX4_slippery_30 : decode cX4_slippery 30 = .ok (.iload_n 2, 1) := by decide +kernel
theorem dX4_slippery_31 : decode cX4_slippery 31 = .ok (.invokestatic 111, 3) := by decide +kernel
theorem dX4_slippery_34 : decode cX4_slippery 34 = .ok (.invokestatic 178, 3) := by decide +kernel
theorem dX4_slippery_37 : decode cX4_slippery 37 = .ok (.ifCond .eq 6, 3) := by decide +kernel
theorem dX4_slippery_40 : decode cX4_slippery 40 = .ok (.iinc 1 1, 3) := by decide +kernel
theorem dX4_slippery_43 : decode cX4_slippery 43 = .ok (.iinc 3 1, 3) := by decide +kernel
theorem dX4_slippery_46 : decode cX4_slippery 46 = .ok (.goto (-34), 3) := by decide +kernel
theorem dX4_slippery_49 : decode cX4_slippery 49 = .ok (.iinc 2 1, 3) := by decide +kernel
theorem dX4_slippery_52 : decode cX4_slippery 52 = .ok (.goto (-48), 3) := by decide +kernel
theorem dX4_slippery_55 : decode cX4_slippery 55 = .ok (.iload_n 1, 1) := by decide +kernel
theorem dX4_slippery_56 : decode cX4_slippery 56 = .ok (.ireturn, 1) := by decide +kernel
theorem dX4_better_0 : decode cX4_better 0 = .ok (.iload_n 1, 1) := by decide +kernel
theorem dX4_better_1 : decode cX4_better 1 = .ok (.iconst 0, 1) := by decide +kernel
theorem dX4_better_2 : decode cX4_better 2 = .ok (.bipush 9, 2) := by decide +kernel
theorem dX4_better_4 : decode cX4_better 4 = .ok (.invokestatic 83, 3) := by decide +kernel
theorem dX4_better_7 : decode cX4_better 7 = .ok (.ifCond .ne 6, 3) := by decide +kernel
theorem dX4_better_10 : decode cX4_better 10 = .ok (.bipush (-2), 2) := by decide +kernel
theorem dX4_better_12 : decode cX4_better 12 = .ok (.ireturn, 1) := by decide +kernel
theorem dX4_better_13 : decode cX4_better 13 = .ok (.iconst (-1), 1) := by decide +kernel
theorem dX4_better_14 : decode cX4_better 14 = .ok (.istore_n 2, 1) := by decide +kernel
theorem dX4_better_15 : decode cX4_better 15 = .ok (.iconst 1, 1) := by decide +kernel
theorem dX4_better_16 : decode cX4_better 16 = .ok (.istore_n 3, 1) := by decide +kernel
theorem dX4_better_17 : decode cX4_better 17 = .ok (.iload_n 3, 1) := by decide +kernel
theorem dX4_better_18 : decode cX4_better 18 = .ok (.bipush 63, 2) := by decide +kernel
theorem dX4_better_20 : decode cX4_better 20 = .ok (.if_icmp .gt 48, 3) := by decide +kernel
theorem dX4_better_23 : decode cX4_better 23 = .ok (.iload_n 2, 1) := by decide +kernel
theorem dX4_better_24 : decode cX4_better 24 = .ok (.iconst (-1), 1) := by decide +kernel
theorem dX4_better_25 : decode cX4_better 25 = .ok (.if_icmp .eq 14, 3) := by decide +kernel
theorem dX4_better_28 : decode cX4_better 28 = .ok (.iload_n 3, 1) := by decide +kernel
theorem dX4_better_29 : decode cX4_better 29 = .ok (.invokestatic 182, 3) := by decide +kernel
theorem dX4_better_32 : decode cX4_better 32 = .ok (.iload_n 2, 1) := by decide +kernel
theorem dX4_better_33 : decode cX4_better 33 = .ok (.invokestatic 182, 3) := by decide +kernel
theorem dX4_better_36 : decode cX4_better 36 = .ok (.if_icmp .ge 7, 3) := by decide +kernel
theorem dX4_better_39 : decode cX4_better 39 = .ok (.iconst 1, 1) := by decide +kernel
theorem dX4_better_40 : decode cX4_better 40 = .ok (.goto 4, 3) := by decide +kernel
theorem dX4_better_43 : decode cX4_better 43 = .ok (.iconst 0, 1) := by decide +kernel
theorem dX4_better_44 : decode cX4_better 44 = .ok (.istore 4, 2) := by decide +kernel
theorem dX4_better_46 : decode cX4_better 46 = .ok (.iload 4, 2) := by decide +kernel
theorem dX4_better_48 : decode cX4_better 48 = .ok (.ifCond .eq 14, 3) := by decide +kernel
theorem dX4_better_51 : decode cX4_better 51 = .ok (.aload_n 0, 1) := by decide +kernel
theorem dX4_better_52 : decode cX4_better 52 = .ok (.iload_n 3, 1) := by decide +kernel
theorem dX4_better_53 : decode cX4_better 53 = .ok (.iload_n 1, 1) := by decide +kernel
theorem dX4_better_54 : decode cX4_better 54 = .ok (.invokevirtual 187, 3) := by decide +kernel
theorem dX4_better_57 : decode cX4_better 57 = .ok (.ifCond .eq 5, 3) := by decide +kernel
theorem dX4_better_60 : decode cX4_better 60 = .ok (.iload_n 3, 1) := by decide +kernel
theorem dX4_better_61 : decode cX4_better 61 = .ok (.istore_n 2, 1) := by decide +kernel
theorem dX4_better_62 : decode cX4_better 62 = .ok (.iinc 3 1, 3) := by decide +kernel
theorem dX4_better_65 : decode cX4_better 65 = .ok (.goto (-48), 3) := by decide +kernel
theorem dX4_better_68 : decode cX4_better 68 = .ok (.iload_n 2, 1) := by decide +kernel
theorem dX4_better_69 : decode cX4_better 69 = .ok (.ireturn, 1) := by decide +kernel
theorem dX4_shorts_0 : decode cX4_shorts 0 = .ok (.iload_n 1, 1) := by decide +kernel
theorem dX4_shorts_1 : decode cX4_shorts 1 = .ok (.iconst 0, 1) := by decide +kernel
theorem dX4_shorts_2 : decode cX4_shorts 2 = .ok (.bipush 8, 2) := by decide +kernel
theorem dX4_shorts_4 : decode cX4_shorts 4 = .ok (.invokestatic 83, 3) := by decide +kernel
theorem dX4_shorts_7 : decode cX4_shorts 7 = .ok (.ifCond .eq 12, 3) := by decide +kernel
theorem dX4_shorts_10 : decode cX4_shorts 10 = .ok (.iload_n 2, 1) := by decide +kernel
theorem dX4_shorts_11 : decode cX4_shorts 11 = .ok (.iconst 0, 1) := by decide +kernel
theorem dX4_shorts_12 : decode cX4_shorts 12 = .ok (.iconst 2, 1) := by decide +kernel
theorem dX4_shorts_13 : decode cX4_shorts 13 = .ok (.invokestatic 83, 3) := by decide +kernel
theorem dX4_shorts_16 : decode cX4_shorts 16 = .ok (.ifCond .ne 6, 3) := by decide +kernel
theorem dX4_shorts_19 : decode cX4_shorts 19 = .ok (.bipush (-2), 2) := by decide +kernel
theorem dX4_shorts_21 : decode cX4_shorts 21 = .ok (.ireturn, 1) := by decide +kernel
theorem dX4_shorts_22 : decode cX4_shorts 22 = .ok (.iload_n 2, 1) := by decide +kernel
theorem dX4_shorts_23 : decode cX4_shorts 23 = .ok (.iconst 2, 1) := by decide +kernel
theorem dX4_shorts_24 : decode cX4_shorts 24 = .ok (.if_icmp .ne 8, 3) := by decide +kernel
theorem dX4_shorts_27 : decode cX4_shorts 27 = .ok (.aload_n 0, 1) := by decide +kernel
theorem dX4_shorts_28 : decode cX4_shorts 28 = .ok (.invokevirtual 190, 3) := by decide +kernel
theorem dX4_shorts_31 : decode cX4_shorts 31 = .ok (.ireturn, 1) := by decide +kernel
theorem dX4_shorts_32 : decode cX4_shorts 32 = .ok (.aload_n 0, 1) := by decide +kernel
theorem dX4_shorts_33 : decode cX4_shorts 33 = .ok (.iload_n 1, 1) := by decide +kernel
theorem dX4_shorts_34 : decode cX4_shorts 34 = .ok (.invokevirtual 193, 3) := by decide +kernel
theorem dX4_shorts_37 : decode cX4_shorts 37 = .ok (.istore_n 3, 1) := by decide +kernel
theorem dX4_shorts_38 : decode cX4_shorts 38 = .ok (.iload_n 2, 1) := by decide +kernel
theorem dX4_shorts_39 : decode cX4_shorts 39 = .ok (.ifCond .ne 7, 3) := by decide +kernel
theorem dX4_shorts_42 : decode cX4_shorts 42 = .ok (.iload_n 3, 1) := by decide +kernel
theorem dX4_shorts_43 : decode cX4_shorts 43 = .ok (.goto 8, 3) := by decide +kernel
theorem dX4_shorts_46 : decode cX4_shorts 46 = .ok (.aload_n 0, 1) := by decide +kernel
theorem dX4_shorts_47 : decode cX4_shorts 47 = .ok (.iload_n 3, 1) := by decide +kernel
theorem dX4_shorts_48 : decode cX4_shorts 48 = .ok (.invokevirtual 196, 3) := by decide +kernel
theorem dX4_shorts_51 : decode cX4_shorts 51 = .ok (.ireturn, 1) := by decide +kernel
theorem dX4_under_0 : decode cX4_under 0 = .ok (.aload_n 0, 1) := by decide +kernel
theorem dX4_under_1 : decode cX4_under 1 = .ok (.getfield 21, 3) := by decide +kernel
theorem dX4_under_4 : decode cX4_under 4 = .ok (.iload_n 1, 1) := by decide +kernel
theorem dX4_under_5 : decode cX4_under 5 = .ok (.invokevirtual 158, 3) := by decide +kernel
theorem dX4_under_8 : decode cX4_under 8 = .ok (.ifCond .eq 7, 3) := by decide +kernel
theorem dX4_under_11 : decode cX4_under 11 = .ok (.iload_n 2, 1) := by decide +kernel
theorem dX4_under_12 : decode cX4_under 12 = .ok (.ifCond .ge 6, 3) := by decide +kernel
theorem dX4_under_15 : decode cX4_under 15 = .ok (.bipush (-2), 2) := by decide +kernel
theorem dX4_under_17 : decode cX4_under 17 = .ok (.ireturn, 1) := by decide +kernel
theorem dX4_under_18 : decode cX4_under 18 = .ok (.iconst 0, 1) := by decide +kernel
theorem dX4_under_19 : decode cX4_under 19 = .ok (.istore_n 3, 1) := by decide +kernel
theorem dX4_under_20 : decode cX4_under 20 = .ok (.iconst 0, 1) := by decide +kernel
theorem dX4_under_21 : decode cX4_under 21 = .ok (.istore 4, 2) := by decide +kernel
theorem dX4_under_23 : decode cX4_under 23 = .ok (.iload 4, 2) := by decide +kernel
theorem dX4_under_25 : decode cX4_under 25 = .ok (.aload_n 0, 1) := by decide +kernel
theorem dX4_under_26 : decode cX4_under 26 = .ok (.getfield 21, 3) := by decide +kernel
theorem dX4_under_29 : decode cX4_under 29 = .ok (.getfield 174, 3) := by decide +kernel
theorem dX4_under_32 : decode cX4_under 32 = .ok (.if_icmp .ge 27, 3) := by decide +kernel
theorem dX4_under_35 : decode cX4_under 35 = .ok (.aload_n 0, 1) := by decide +kernel
theorem dX4_under_36 : decode cX4_under 36 = .ok (.iload_n 1, 1) := by decide +kernel
theorem dX4_under_37 : decode cX4_under 37 = .ok (.iload 4, 2) := by decide +kernel
theorem dX4_under_39 : decode cX4_under 39 = .ok (.iload_n 2, 1) := by decide +kernel
theorem dX4_under_40 : decode cX4_under 40 = .ok (.invokevirtual 199, 3) := by decide +kernel
theorem dX4_under_43 : decode cX4_under 43 = .ok (.ifCond .eq 10, 3) := by decide +kernel
theorem dX4_under_46 : decode cX4_under 46 = .ok (.iload_n 3, 1) := by decide +kernel
theorem dX4_under_47 : decode cX4_under 47 = .ok (.iconst 1, 1) := by decide +kernel
theorem dX4_under_48 : decode cX4_under 48 = .ok (.iload 4, 2) := by decide +kernel
theorem dX4_under_50 : decode cX4_under 50 = .ok (.ishl, 1) := by decide +kernel
theorem dX4_under_51 : decode cX4_under 51 = .ok (.ior, 1) := by decide +kernel
theorem dX4_under_52 : decode cX4_under 52 = .ok (.istore_n 3, 1) := by decide +kernel
theorem dX4_under_53 : decode cX4_under 53 = .ok (.iinc 4 1, 3) := by decide +kernel
theorem dX4_under_56 : decode cX4_under 56 = .ok (.goto (-33), 3) := by decide +kernel
theorem dX4_under_59 : decode cX4_under 59 = .ok (.iload_n 3, 1) := by decide +kernel
theorem dX4_under_60 : decode cX4_under 60 = .ok (.ireturn, 1) := by decide +kernel
theorem dX4_clash_0 : decode cX4_clash 0 = .ok (.aload_n 0, 1) := by decide +kernel
theorem dX4_clash_1 : decode cX4_clash 1 = .ok (.iload_n 1, 1) := by decide +kernel
theorem dX4_clash_2 : decode cX4_clash 2 = .ok (.invokevirtual 122, 3) := by decide +kernel
theorem dX4_clash_5 : decode cX4_clash 5 = .ok (.astore_n 2, 1) := by decide +kernel
theorem dX4_clash_6 : decode cX4_clash 6 = .ok (.aload_n 2, 1) := by decide +kernel
theorem dX4_clash_7 : decode cX4_clash 7 = .ok (.ifnonnull 6, 3) := by decide +kernel
theorem dX4_clash_10 : decode cX4_clash 10 = .ok (.bipush (-2), 2) := by decide +kernel
theorem dX4_clash_12 : decode cX4_clash 12 = .ok (.ireturn, 1) := by decide +kernel
theorem dX4_clash_13 : decode cX4_clash 13 = .ok (.aload_n 2, 1) := by decide +kernel
theorem dX4_clash_14 : decode cX4_clash 14 = .ok (.invokevirtual 126, 3) := by decide +kernel
theorem dX4_clash_17 : decode cX4_clash 17 = .ok (.ifCond .eq 9, 3) := by decide +kernel
theorem dX4_clash_20 : decode cX4_clash 20 = .ok (.aload_n 0, 1) := by decide +kernel
theorem dX4_clash_21 : decode cX4_clash 21 = .ok (.iconst 1, 1) := by decide +kernel
theorem dX4_clash_22 : decode cX4_clash 22 = .ok (.invokevirtual 129, 3) := by decide +kernel
theorem dX4_clash_25 : decode cX4_clash 25 = .ok (.ireturn, 1) := by decide +kernel
theorem dX4_clash_26 : decode cX4_clash 26 = .ok (.iconst 0, 1) := by decide +kernel
theorem dX4_clash_27 : decode cX4_clash 27 = .ok (.istore_n 3, 1) := by decide +kernel
theorem dX4_clash_28 : decode cX4_clash 28 = .ok (.iload_n 3, 1) := by decide +kernel
theorem dX4_clash_29 : decode cX4_clash 29 = .ok (.aload_n 2, 1) := by decide +kernel
theorem dX4_clash_30 : decode cX4_clash 30 = .ok (.getfield 133, 3) := by decide +kernel
theorem dX4_clash_33 : decode cX4_clash 33 = .ok (.if_icmp .ge 29, 3) := by decide +kernel
theorem dX4_clash_36 : decode cX4_clash 36 = .ok (.aload_n 2, 1) := by decide +kernel
theorem dX4_clash_37 : decode cX4_clash 37 = .ok (.getfield 136, 3) := by decide +kernel
theorem dX4_clash_40 : decode cX4_clash 40 = .ok (.iload_n 3, 1) := by decide +kernel
theorem dX4_clash_41 : decode cX4_clash 41 = .ok (.invokestatic 111, 3) := by decide +kernel
theorem dX4_clash_44 : decode cX4_clash 44 = .ok (.iconst 0, 1) := by decide +kernel
theorem dX4_clash_45 : decode cX4_clash 45 = .ok (.bipush 63, 2) := by decide +kernel
theorem dX4_clash_47 : decode cX4_clash 47 = .ok (.invokestatic 83, 3) := by decide +kernel
theorem dX4_clash_50 : decode cX4_clash 50 = .ok (.ifCond .ne 6, 3) := by decide +kernel
theorem dX4_clash_53 : decode cX4_clash 53 = .ok (.bipush (-3), 2) := by decide +kernel
theorem dX4_clash_55 : decode cX4_clash 55 = .ok (.ireturn, 1) := by decide +kernel
theorem dX4_clash_56 : decode cX4_clash 56 = .ok (.iinc 3 1, 3) := by decide +kernel
theorem dX4_clash_59 : decode cX4_clash 59 = .ok (.goto (-31), 3) := by decide +kernel
theorem dX4_clash_62 : decode cX4_clash 62 = .ok (.aload_n 0, 1) := by decide +kernel
theorem dX4_clash_63 : decode cX4_clash 63 = .ok (.aload_n 2, 1) := by decide +kernel
theorem dX4_clash_64 : decode cX4_clash 64 = .ok (.invokevirtual 202, 3) := by decide +kernel
theorem dX4_clash_67 : decode cX4_clash 67 = .ok (.ireturn, 1) := by decide +kernel
theorem dX4_hand_0 : decode cX4_hand 0 = .ok (.iload_n 1, 1) := by decide +kernel
theorem dX4_hand_1 : decode cX4_hand 1 = .ok (.iconst 0, 1) := by decide +kernel
theorem dX4_hand_2 : decode cX4_hand 2 = .ok (.iconst 2, 1) := by decide +kernel
theorem dX4_hand_3 : decode cX4_hand 3 = .ok (.invokestatic 83, 3) := by decide +kernel
theorem dX4_hand_6 : decode cX4_hand 6 = .ok (.ifCond .eq 22, 3) := by decide +kernel
theorem dX4_hand_9 : decode cX4_hand 9 = .ok (.iload_n 2, 1) := by decide +kernel
theorem dX4_hand_10 : decode cX4_hand 10 = .ok (.iconst 0, 1) := by decide +kernel
theorem dX4_hand_11 : decode cX4_hand 11 = .ok (.iconst 5, 1) := by decide +kernel
theorem dX4_hand_12 : decode cX4_hand 12 = .ok (.invokestatic 83, 3) := by decide +kernel
theorem dX4_hand_15 : decode cX4_hand 15 = .ok (.ifCond .eq 13, 3) := by decide +kernel
theorem dX4_hand_18 : decode cX4_hand 18 = .ok (.iload_n 3, 1) := by decide +kernel
theorem dX4_hand_19 : decode cX4_hand 19 = .ok (.iconst 0, 1) := by decide +kernel
theorem dX4_hand_20 : decode cX4_hand 20 = .ok (.bipush 99, 2) := by decide +kernel
theorem dX4_hand_22 : decode cX4_hand 22 = .ok (.invokestatic 83, 3) := by decide +kernel
theorem dX4_hand_25 : decode cX4_hand 25 = .ok (.ifCond .ne 6, 3) := by decide +kernel
theorem dX4_hand_28 : decode cX4_hand 28 = .ok (.bipush (-2), 2) := by decide +kernel
theorem dX4_hand_30 : decode cX4_hand 30 = .ok (.ireturn, 1) := by decide +kernel
theorem dX4_hand_31 : decode cX4_hand 31 = .ok (.iload_n 1, 1) := by decide +kernel
theorem dX4_hand_32 : decode cX4_hand 32 = .ok (.bipush 6, 2) := by decide +kernel
theorem dX4_hand_34 : decode cX4_hand 34 = .ok (.imul, 1) := by decide +kernel
theorem dX4_hand_35 : decode cX4_hand 35 = .ok (.iload_n 2, 1) := by decide +kernel
theorem dX4_hand_36 : decode cX4_hand 36 = .ok (.iadd, 1) := by decide +kernel
theorem dX4_hand_37 : decode cX4_hand 37 = .ok (.istore 4, 2) := by decide +kernel
theorem dX4_hand_39 : decode cX4_hand 39 = .ok (.aload_n 0, 1) := by decide +kernel
theorem dX4_hand_40 : decode cX4_hand 40 = .ok (.getfield 63, 3) := by decide +kernel
theorem dX4_hand_43 : decode cX4_hand 43 = .ok (.iload 4, 2) := by decide +kernel
theorem dX4_hand_45 : decode cX4_hand 45 = .ok (.invokestatic 111, 3) := by decide +kernel
theorem dX4_hand_48 : decode cX4_hand 48 = .ok (.istore 5, 2) := by decide +kernel
theorem dX4_hand_50 : decode cX4_hand 50 = .ok (.aload_n 0, 1) := by decide +kernel
theorem dX4_hand_51 : decode cX4_hand 51 = .ok (.getfield 63, 3) := by decide +kernel
theorem dX4_hand_54 : decode cX4_hand 54 = .ok (.iload 4, 2) := by decide +kernel
theorem dX4_hand_56 : decode cX4_hand 56 = .ok (.iload_n 3, 1) := by decide +kernel
theorem dX4_hand_57 : decode cX4_hand 57 = .ok (.invokestatic 115, 3) := by decide +kernel
theorem dX4_hand_60 : decode cX4_hand 60 = .ok (.iload 5, 2) := by decide +kernel
theorem dX4_hand_62 : decode cX4_hand 62 = .ok (.ireturn, 1) := by decide +kernel
theorem dX4_whose_0 : decode cX4_whose 0 = .ok (.iconst 0, 1) := by decide +kernel
theorem dX4_whose_1 : decode cX4_whose 1 = .ok (.istore_n 1, 1) := by decide +kernel
theorem dX4_whose_2 : decode cX4_whose 2 = .ok (.iconst 0, 1) := by decide +kernel
theorem dX4_whose_3 : decode cX4_whose 3 = .ok (.istore_n 2, 1) := by decide +kernel
theorem dX4_whose_4 : decode cX4_whose 4 = .ok (.iload_n 2, 1) := by decide +kernel
theorem dX4_whose_5 : decode cX4_whose 5 = .ok (.aload_n 0, 1) := by decide +kernel
theorem dX4_whose_6 : decode cX4_whose 6 = .ok (.getfield 152, 3) := by decide +kernel
theorem dX4_whose_9 : decode cX4_whose 9 = .ok (.if_icmp .ge 27, 3) := by decide +kernel
theorem dX4_whose_12 : decode cX4_whose 12 = .ok (.iload_n 1, 1) := by decide +kernel
theorem dX4_whose_13 : decode cX4_whose 13 = .ok (.ifCond .ne 11, 3) := by decide +kernel
theorem dX4_whose_16 : decode cX4_whose 16 = .ok (.aload_n 0, 1) := by decide +kernel
theorem dX4_whose_17 : decode cX4_whose 17 = .ok (.iload_n 2, 1) := by decide +kernel
theorem dX4_whose_18 : decode cX4_whose 18 = .ok (.invokevirtual 206, 3) := by decide +kernel
theorem dX4_whose_21 : decode cX4_whose 21 = .ok (.ifCond .eq 7, 3) := by decide +kernel
theorem dX4_whose_24 : decode cX4_whose 24 = .ok (.iconst 1, 1) := by decide +kernel
theorem dX4_whose_25 : decode cX4_whose 25 = .ok (.goto 4, 3) := by decide +kernel
theorem dX4_whose_28 : decode cX4_whose 28 = .ok (.iconst 0, 1) := by decide +kernel
theorem dX4_whose_29 : decode cX4_whose 29 = .ok (.istore_n 1, 1) := by decide +kernel
theorem dX4_whose_30 : decode cX4_whose 30 = .ok (.iinc 2 1, 3) := by decide +kernel
theorem dX4_whose_33 : decode cX4_whose 33 = .ok (.goto (-29), 3) := by decide +kernel
theorem dX4_whose_36 : decode cX4_whose 36 = .ok (.iload_n 1, 1) := by decide +kernel
theorem dX4_whose_37 : decode cX4_whose 37 = .ok (.ifCond .ne 5, 3) := by decide +kernel
theorem dX4_whose_40 : decode cX4_whose 40 = .ok (.iconst (-1), 1) := by decide +kernel
theorem dX4_whose_41 : decode cX4_whose 41 = .ok (.ireturn, 1) := by decide +kernel
theorem dX4_whose_42 : decode cX4_whose 42 = .ok (.iconst 0, 1) := by decide +kernel
theorem dX4_whose_43 : decode cX4_whose 43 = .ok (.istore_n 2, 1) := by decide +kernel
theorem dX4_whose_44 : decode cX4_whose 44 = .ok (.iconst 1, 1) := by decide +kernel
theorem dX4_whose_45 : decode cX4_whose 45 = .ok (.istore_n 3, 1) := by decide +kernel
theorem dX4_whose_46 : decode cX4_whose 46 = .ok (.iload_n 3, 1) := by decide +kernel
theorem dX4_whose_47 : decode cX4_whose 47 = .ok (.iconst 3, 1) := by decide +kernel
theorem dX4_whose_48 : decode cX4_whose 48 = .ok (.if_icmp .ge 24, 3) := by decide +kernel
theorem dX4_whose_51 : decode cX4_whose 51 = .ok (.aload_n 0, 1) := by decide +kernel
theorem dX4_whose_52 : decode cX4_whose 52 = .ok (.iload_n 3, 1) := by decide +kernel
theorem dX4_whose_53 : decode cX4_whose 53 = .ok (.invokevirtual 209, 3) := by decide +kernel
theorem dX4_whose_56 : decode cX4_whose 56 = .ok (.aload_n 0, 1) := by decide +kernel
theorem dX4_whose_57 : decode cX4_whose 57 = .ok (.iload_n 2, 1) := by decide +kernel
theorem dX4_whose_58 : decode cX4_whose 58 = .ok (.invokevirtual 209, 3) := by decide +kernel
theorem dX4_whose_61 : decode cX4_whose 61 = .ok (.if_icmp .le 5, 3) := by decide +kernel
theorem dX4_whose_64 : decode cX4_whose 64 = .ok (.iload_n 3, 1) := by decide +kernel
theorem dX4_whose_65 : decode cX4_whose 65 = .ok (.istore_n 2, 1) := by decide +kernel
theorem dX4_whose_66 : decode cX4_whose 66 = .ok (.iinc 3 1, 3) := by decide +kernel
theorem dX4_whose_69 : decode cX4_whose 69 = .ok (.goto (-23), 3) := by decide +kernel
theorem dX4_whose_72 : decode cX4_whose 72 = .ok (.iload_n 2, 1) := by decide +kernel
theorem dX4_whose_73 : decode cX4_whose 73 = .ok (.ireturn, 1) := by decide +kernel
theorem dX4_wear_0 : decode cX4_wear 0 = .ok (.iload_n 1, 1) := by decide +kernel
theorem dX4_wear_1 : decode cX4_wear 1 = .ok (.iconst 0, 1) := by decide +kernel
theorem dX4_wear_2 : decode cX4_wear 2 = .ok (.bipush 99, 2) := by decide +kernel
theorem dX4_wear_4 : decode cX4_wear 4 = .ok (.invokestatic 83, 3) := by decide +kernel
theorem dX4_wear_7 : decode cX4_wear 7 = .ok (.ifCond .eq 16, 3) := by decide +kernel
theorem dX4_wear_10 : decode cX4_wear 10 = .ok (.iload_n 2, 1) := by decide +kernel
theorem dX4_wear_11 : decode cX4_wear 11 = .ok (.iconst (-1), 1) := by decide +kernel
theorem dX4_wear_12 : decode cX4_wear 12 = .ok (.if_icmp .eq 14, 3) := by decide +kernel
theorem dX4_wear_15 : decode cX4_wear 15 = .ok (.aload_n 0, 1) := by decide +kernel
theorem dX4_wear_16 : decode cX4_wear 16 = .ok (.iload_n 2, 1) := by decide +kernel
theorem dX4_wear_17 : decode cX4_wear 17 = .ok (.invokevirtual 146, 3) := by decide +kernel
theorem dX4_wear_20 : decode cX4_wear 20 = .ok (.ifCond .ne 6, 3) := by decide +kernel
theorem dX4_wear_23 : decode cX4_wear 23 = .ok (.bipush (-2), 2) := by decide +kernel
theorem dX4_wear_25 : decode cX4_wear 25 = .ok (.ireturn, 1) := by decide +kernel
theorem dX4_wear_26 : decode cX4_wear 26 = .ok (.aload_n 0, 1) := by decide +kernel
theorem dX4_wear_27 : decode cX4_wear 27 = .ok (.iload_n 1, 1) := by decide +kernel
theorem dX4_wear_28 : decode cX4_wear 28 = .ok (.invokevirtual 212, 3) := by decide +kernel
theorem dX4_wear_31 : decode cX4_wear 31 = .ok (.iload_n 2, 1) := by decide +kernel
theorem dX4_wear_32 : decode cX4_wear 32 = .ok (.iconst (-1), 1) := by decide +kernel
theorem dX4_wear_33 : decode cX4_wear 33 = .ok (.if_icmp .ne 17, 3) := by decide +kernel
theorem dX4_wear_36 : decode cX4_wear 36 = .ok (.aload_n 0, 1) := by decide +kernel
theorem dX4_wear_37 : decode cX4_wear 37 = .ok (.getfield 73, 3) := by decide +kernel
theorem dX4_wear_40 : decode cX4_wear 40 = .ok (.aload_n 0, 1) := by decide +kernel
theorem dX4_wear_41 : decode cX4_wear 41 = .ok (.getfield 152, 3) := by decide +kernel
theorem dX4_wear_44 : decode cX4_wear 44 = .ok (.invokestatic 215, 3) := by decide +kernel
theorem dX4_wear_47 : decode cX4_wear 47 = .ok (.goto 11, 3) := by decide +kernel
theorem dX4_wear_50 : decode cX4_wear 50 = .ok (.aload_n 0, 1) := by decide +kernel
theorem dX4_wear_51 : decode cX4_wear 51 = .ok (.getfield 73, 3) := by decide +kernel
theorem dX4_wear_54 : decode cX4_wear 54 = .ok (.iload_n 2, 1) := by decide +kernel
theorem dX4_wear_55 : decode cX4_wear 55 = .ok (.invokestatic 111, 3) := by decide +kernel
theorem dX4_wear_58 : decode cX4_wear 58 = .ok (.ireturn, 1) := by decide +kernel
theorem dX4_sheet_0 : decode cX4_sheet 0 = .ok (.aload_n 0, 1) := by decide +kernel
theorem dX4_sheet_1 : decode cX4_sheet 1 = .ok (.iload_n 1, 1) := by decide +kernel
theorem dX4_sheet_2 : decode cX4_sheet 2 = .ok (.invokevirtual 122, 3) := by decide +kernel
theorem dX4_sheet_5 : decode cX4_sheet 5 = .ok (.astore 4, 2) := by decide +kernel
theorem dX4_sheet_7 : decode cX4_sheet 7 = .ok (.aload 4, 2) := by decide +kernel
theorem dX4_sheet_9 : decode cX4_sheet 9 = .ok (.ifnull 16, 3) := by decide +kernel
theorem dX4_sheet_12 : decode cX4_sheet 12 = .ok (.iload_n 2, 1) := by decide +kernel
theorem dX4_sheet_13 : decode cX4_sheet 13 = .ok (.invokestatic 218, 3) := by decide +kernel
theorem dX4_sheet_16 : decode cX4_sheet 16 = .ok (.ifCond .eq 9, 3) := by decide +kernel
theorem dX4_sheet_19 : decode cX4_sheet 19 = .ok (.iload_n 3, 1) := by decide +kernel
theorem dX4_sheet_20 : decode cX4_sheet 20 = .ok (.bipush 48, 2) := by decide +kernel
theorem dX4_sheet_22 : decode cX4_sheet 22 = .ok (.if_icmp .le 6, 3) := by decide +kernel
theorem dX4_sheet_25 : decode cX4_sheet 25 = .ok (.bipush (-2), 2) := by decide +kernel
theorem dX4_sheet_27 : decode cX4_sheet 27 = .ok (.ireturn, 1) := by decide +kernel
theorem dX4_sheet_28 : decode cX4_sheet 28 = .ok (.iload_n 3, 1) := by decide +kernel
theorem dX4_sheet_29 : decode cX4_sheet 29 = .ok (.ifCond .ge 9, 3) := by decide +kernel
theorem dX4_sheet_32 : decode cX4_sheet 32 = .ok (.aload_n 0, 1) := by decide +kernel
theorem dX4_sheet_33 : decode cX4_sheet 33 = .ok (.iconst 5, 1) := by decide +kernel
theorem dX4_sheet_34 : decode cX4_sheet 34 = .ok (.invokevirtual 129, 3) := by decide +kernel
theorem dX4_sheet_37 : decode cX4_sheet 37 = .ok (.ireturn, 1) := by decide +kernel
theorem dX4_sheet_38 : decode cX4_sheet 38 = .ok (.aload 4, 2) := by decide +kernel
theorem dX4_sheet_40 : decode cX4_sheet 40 = .ok (.iload_n 2, 1) := by decide +kernel
theorem dX4_sheet_41 : decode cX4_sheet 41 = .ok (.iload_n 3, 1) := by decide +kernel
theorem dX4_sheet_42 : decode cX4_sheet 42 = .ok (.invokevirtual 221, 3) := by decide +kernel
theorem dX4_sheet_45 : decode cX4_sheet 45 = .ok (.iload_n 3, 1) := by decide +kernel
theorem dX4_sheet_46 : decode cX4_sheet 46 = .ok (.ireturn, 1) := by decide +kernel
theorem dX4_lose_0 : decode cX4_lose 0 = .ok (.aload_n 0, 1) := by decide +kernel
theorem dX4_lose_1 : decode cX4_lose 1 = .ok (.iload_n 1, 1) := by decide +kernel
theorem dX4_lose_2 : decode cX4_lose 2 = .ok (.invokevirtual 122, 3) := by decide +kernel
theorem dX4_lose_5 : decode cX4_lose 5 = .ok (.astore_n 2, 1) := by decide +kernel
theorem dX4_lose_6 : decode cX4_lose 6 = .ok (.aload_n 2, 1) := by decide +kernel
theorem dX4_lose_7 : decode cX4_lose 7 = .ok (.ifnonnull 6, 3) := by decide +kernel
theorem dX4_lose_10 : decode cX4_lose 10 = .ok (.bipush (-2), 2) := by decide +kernel
theorem dX4_lose_12 : decode cX4_lose 12 = .ok (.ireturn, 1) := by decide +kernel
theorem dX4_lose_13 : decode cX4_lose 13 = .ok (.aload_n 2, 1) := by decide +kernel
theorem dX4_lose_14 : decode cX4_lose 14 = .ok (.invokevirtual 126, 3) := by decide +kernel
theorem dX4_lose_17 : decode cX4_lose 17 = .ok (.ifCond .eq 9, 3) := by decide +kernel
theorem dX4_lose_20 : decode cX4_lose 20 = .ok (.aload_n 0, 1) := by decide +kernel
theorem dX4_lose_21 : decode cX4_lose 21 = .ok (.iconst 1, 1) := by decide +kernel
theorem dX4_lose_22 : decode cX4_lose 22 = .ok (.invokevirtual 129, 3) := by decide +kernel
theorem dX4_lose_25 : decode cX4_lose 25 = .ok (.ireturn, 1) := by decide +kernel
theorem dX4_lose_26 : decode cX4_lose 26 = .ok (.aload_n 2, 1) := by decide +kernel
theorem dX4_lose_27 : decode cX4_lose 27 = .ok (.getfield 133, 3) := by decide +kernel
theorem dX4_lose_30 : decode cX4_lose 30 = .ok (.istore_n 3, 1) := by decide +kernel
theorem dX4_lose_31 : decode cX4_lose 31 = .ok (.aload_n 2, 1) := by decide +kernel
theorem dX4_lose_32 : decode cX4_lose 32 = .ok (.iconst (-1), 1) := by decide +kernel
theorem dX4_lose_33 : decode cX4_lose 33 = .ok (.iconst 0, 1) := by decide +kernel
theorem dX4_lose_34 : decode cX4_lose 34 = .ok (.invokevirtual 221, 3) := by decide +kernel
theorem dX4_lose_37 : decode cX4_lose 37 = .ok (.iload_n 3, 1) := by decide +kernel
theorem dX4_lose_38 : decode cX4_lose 38 = .ok (.ireturn, 1) := by decide +kernel
theorem dX4_put_0 : decode cX4_put 0 = .ok (.aload_n 0, 1) := by decide +kernel
theorem dX4_put_1 : decode cX4_put 1 = .ok (.iload_n 1, 1) := by decide +kernel
theorem dX4_put_2 : decode cX4_put 2 = .ok (.invokevirtual 122, 3) := by decide +kernel
theorem dX4_put_5 : decode cX4_put 5 = .ok (.astore 5, 2) := by decide +kernel
theorem dX4_put_7 : decode cX4_put 7 = .ok (.aload 5, 2) := by decide +kernel
theorem dX4_put_9 : decode cX4_put 9 = .ok (.ifnull 10, 3) := by decide +kernel
theorem dX4_put_12 : decode cX4_put 12 = .ok (.iload_n 2, 1) := by decide +kernel
theorem dX4_put_13 : decode cX4_put 13 = .ok (.invokestatic 218, 3) := by decide +kernel
theorem dX4_put_16 : decode cX4_put 16 = .ok (.ifCond .ne 6, 3) := by decide +kernel
theorem dX4_put_19 : decode cX4_put 19 = .ok (.bipush (-2), 2) := by decide +kernel
theorem dX4_put_21 : decode cX4_put 21 = .ok (.ireturn, 1) := by decide +kernel
theorem dX4_put_22 : decode cX4_put 22 = .ok (.aload 5, 2) := by decide +kernel
theorem dX4_put_24 : decode cX4_put 24 = .ok (.iload_n 2, 1) := by decide +kernel
theorem dX4_put_25 : decode cX4_put 25 = .ok (.iload_n 3, 1) := by decide +kernel
theorem dX4_put_26 : decode cX4_put 26 = .ok (.invokestatic 225, 3) := by decide +kernel
theorem dX4_put_29 : decode cX4_put 29 = .ok (.istore 6, 2) := by decide +kernel
theorem dX4_put_31 : decode cX4_put 31 = .ok (.iload 6, 2) := by decide +kernel
theorem dX4_put_33 : decode cX4_put 33 = .ok (.ifCond .eq 10, 3) := by decide +kernel
theorem dX4_put_36 : decode cX4_put 36 = .ok (.aload_n 0, 1) := by decide +kernel
theorem dX4_put_37 : decode cX4_put 37 = .ok (.iload 6, 2) := by decide +kernel
theorem dX4_put_39 : decode cX4_put 39 = .ok (.invokevirtual 129, 3) := by decide +kernel
theorem dX4_put_42 : decode cX4_put 42 = .ok (.ireturn, 1) := by decide +kernel
theorem dX4_put_43 : decode cX4_put 43 = .ok (.aload 5, 2) := by decide +kernel
theorem dX4_put_45 : decode cX4_put 45 = .ok (.iload_n 3, 1) := by decide +kernel
theorem dX4_put_46 : decode cX4_put 46 = .ok (.iload 4, 2) := by decide +kernel
theorem dX4_put_48 : decode cX4_put 48 = .ok (.invokevirtual 229, 3) := by decide +kernel
theorem dX4_put_51 : decode cX4_put 51 = .ok (.iconst 1, 1) := by decide +kernel
theorem dX4_put_52 : decode cX4_put 52 = .ok (.ireturn, 1) := by decide +kernel
theorem dX4_get_0 : decode cX4_get 0 = .ok (.aload_n 0, 1) := by decide +kernel
theorem dX4_get_1 : decode cX4_get 1 = .ok (.iload_n 1, 1) := by decide +kernel
theorem dX4_get_2 : decode cX4_get 2 = .ok (.invokevirtual 122, 3) := by decide +kernel
theorem dX4_get_5 : decode cX4_get 5 = .ok (.astore 4, 2) := by decide +kernel
theorem dX4_get_7 : decode cX4_get 7 = .ok (.aload 4, 2) := by decide +kernel
theorem dX4_get_9 : decode cX4_get 9 = .ok (.ifnull 10, 3) := by decide +kernel
theorem dX4_get_12 : decode cX4_get 12 = .ok (.iload_n 2, 1) := by decide +kernel
theorem dX4_get_13 : decode cX4_get 13 = .ok (.invokestatic 218, 3) := by decide +kernel
theorem dX4_get_16 : decode cX4_get 16 = .ok (.ifCond .ne 6, 3) := by decide +kernel
theorem dX4_get_19 : decode cX4_get 19 = .ok (.ldc 232, 2) := by decide +kernel
theorem dX4_get_21 : decode cX4_get 21 = .ok (.ireturn, 1) := by decide +kernel
theorem dX4_get_22 : decode cX4_get 22 = .ok (.aload 4, 2) := by decide +kernel
theorem dX4_get_24 : decode cX4_get 24 = .ok (.iload_n 2, 1) := by decide +kernel
theorem dX4_get_25 : decode cX4_get 25 = .ok (.iload_n 3, 1) := by decide +kernel
theorem dX4_get_26 : decode cX4_get 26 = .ok (.invokestatic 225, 3) := by decide +kernel
theorem dX4_get_29 : decode cX4_get 29 = .ok (.istore 5, 2) := by decide +kernel
theorem dX4_get_31 : decode cX4_get 31 = .ok (.iload 5, 2) := by decide +kernel
theorem dX4_get_33 : decode cX4_get 33 = .ok (.ifCond .eq 12, 3) := by decide +kernel
theorem dX4_get_36 : decode cX4_get 36 = .ok (.aload_n 0, 1) := by decide +kernel
theorem dX4_get_37 : decode cX4_get 37 = .ok (.iload 5, 2) := by decide +kernel
theorem dX4_get_39 : decode cX4_get 39 = .ok (.putfield 233, 3) := by decide +kernel
theorem dX4_get_42 : decode cX4_get 42 = .ok (.ldc 232, 2) := by decide +kernel
theorem dX4_get_44 : decode cX4_get 44 = .ok (.ireturn, 1) := by decide +kernel
theorem dX4_get_45 : decode cX4_get 45 = .ok (.aload 4, 2) := by decide +kernel
theorem dX4_get_47 : decode cX4_get 47 = .ok (.getfield 136, 3) := by decide +kernel
theorem dX4_get_50 : decode cX4_get 50 = .ok (.iload_n 3, 1) := by decide +kernel
theorem dX4_get_51 : decode cX4_get 51 = .ok (.invokestatic 111, 3) := by decide +kernel
theorem dX4_get_54 : decode cX4_get 54 = .ok (.ireturn, 1) := by decide +kernel
theorem dX4_copy_0 : decode cX4_copy 0 = .ok (.aload_n 0, 1) := by decide +kernel
theorem dX4_copy_1 : decode cX4_copy 1 = .ok (.iload_n 1, 1) := by decide +kernel
theorem dX4_copy_2 : decode cX4_copy 2 = .ok (.invokevirtual 122, 3) := by decide +kernel
theorem dX4_copy_5 : decode cX4_copy 5 = .ok (.astore 6, 2) := by decide +kernel
theorem dX4_copy_7 : decode cX4_copy 7 = .ok (.aload_n 0, 1) := by decide +kernel
theorem dX4_copy_8 : decode cX4_copy 8 = .ok (.iload_n 3, 1) := by decide +kernel
theorem dX4_copy_9 : decode cX4_copy 9 = .ok (.invokevirtual 122, 3) := by decide +kernel
theorem dX4_copy_12 : decode cX4_copy 12 = .ok (.astore 7, 2) := by decide +kernel
theorem dX4_copy_14 : decode cX4_copy 14 = .ok (.aload 6, 2) := by decide +kernel
theorem dX4_copy_16 : decode cX4_copy 16 = .ok (.ifnull 8, 3) := by decide +kernel
theorem dX4_copy_19 : decode cX4_copy 19 = .ok (.aload 7, 2) := by decide +kernel
theorem dX4_copy_21 : decode cX4_copy 21 = .ok (.ifnonnull 6, 3) := by decide +kernel
theorem dX4_copy_24 : decode cX4_copy 24 = .ok (.bipush (-2), 2) := by decide +kernel
theorem dX4_copy_26 : decode cX4_copy 26 = .ok (.ireturn, 1) := by decide +kernel
theorem dX4_copy_27 : decode cX4_copy 27 = .ok (.aload 6, 2) := by decide +kernel
theorem dX4_copy_29 : decode cX4_copy 29 = .ok (.invokevirtual 126, 3) := by decide +kernel
theorem dX4_copy_32 : decode cX4_copy 32 = .ok (.ifCond .ne 11, 3) := by decide +kernel
theorem dX4_copy_35 : decode cX4_copy 35 = .ok (.aload 7, 2) := by decide +kernel
theorem dX4_copy_37 : decode cX4_copy 37 = .ok (.invokevirtual 126, 3) := by decide +kernel
theorem dX4_copy_40 : decode cX4_copy 40 = .ok (.ifCond .eq 9, 3) := by decide +kernel
theorem dX4_copy_43 : decode cX4_copy 43 = .ok (.aload_n 0, 1) := by decide +kernel
theorem dX4_copy_44 : decode cX4_copy 44 = .ok (.iconst 1, 1) := by decide +kernel
theorem dX4_copy_45 : decode cX4_copy 45 = .ok (.invokevirtual 129, 3) := by decide +kernel
theorem dX4_copy_48 : decode cX4_copy 48 = .ok (.ireturn, 1) := by decide +kernel
theorem dX4_copy_49 : decode cX4_copy 49 = .ok (.aload 6, 2) := by decide +kernel
theorem dX4_copy_51 : decode cX4_copy 51 = .ok (.getfield 236, 3) := by decide +kernel
theorem dX4_copy_54 : decode cX4_copy 54 = .ok (.aload 7, 2) := by decide +kernel
theorem dX4_copy_56 : decode cX4_copy 56 = .ok (.getfield 236, 3) := by decide +kernel
theorem dX4_copy_59 : decode cX4_copy 59 = .ok (.if_icmp .eq 9, 3) := by decide +kernel
theorem dX4_copy_62 : decode cX4_copy 62 = .ok (.aload_n 0, 1) := by decide +kernel
theorem dX4_copy_63 : decode cX4_copy 63 = .ok (.iconst 4, 1) := by decide +kernel
theorem dX4_copy_64 : decode cX4_copy 64 = .ok (.invokevirtual 129, 3) := by decide +kernel
theorem dX4_copy_67 : decode cX4_copy 67 = .ok (.ireturn, 1) := by decide +kernel
theorem dX4_copy_68 : decode cX4_copy 68 = .ok (.aload 6, 2) := by decide +kernel
theorem dX4_copy_70 : decode cX4_copy 70 = .ok (.iload_n 2, 1) := by decide +kernel
theorem dX4_copy_71 : decode cX4_copy 71 = .ok (.iload 5, 2) := by decide +kernel
theorem dX4_copy_73 : decode cX4_copy 73 = .ok (.invokevirtual 239, 3) := by decide +kernel
theorem dX4_copy_76 : decode cX4_copy 76 = .ok (.ifCond .eq 15, 3) := by decide +kernel
theorem dX4_copy_79 : decode cX4_copy 79 = .ok (.aload 7, 2) := by decide +kernel
theorem dX4_copy_81 : decode cX4_copy 81 = .ok (.iload 4, 2) := by decide +kernel
theorem dX4_copy_83 : decode cX4_copy 83 = .ok (.iload 5, 2) := by decide +kernel
theorem dX4_copy_85 : decode cX4_copy 85 = .ok (.invokevirtual 239, 3) := by decide +kernel
theorem dX4_copy_88 : decode cX4_copy 88 = .ok (.ifCond .ne 9, 3) := by decide +kernel
theorem dX4_copy_91 : decode cX4_copy 91 = .ok (.aload_n 0, 1) := by decide +kernel
theorem dX4_copy_92 : decode cX4_copy 92 = .ok (.iconst 2, 1) := by decide +kernel
theorem dX4_copy_93 : decode cX4_copy 93 = .ok (.invokevirtual 129, 3) := by decide +kernel
theorem dX4_copy_96 : decode cX4_copy 96 = .ok (.ireturn, 1) := by decide +kernel
theorem dX4_copy_97 : decode cX4_copy 97 = .ok (.aload 6, 2) := by decide +kernel
theorem dX4_copy_99 : decode cX4_copy 99 = .ok (.getfield 136, 3) := by decide +kernel
theorem dX4_copy_102 : decode cX4_copy 102 = .ok (.iload_n 2, 1) := by decide +kernel
theorem dX4_copy_103 : decode cX4_copy 103 = .ok (.aload 7, 2) := by decide +kernel
theorem dX4_copy_105 : decode cX4_copy 105 = .ok (.getfield 136, 3) := by decide +kernel
theorem dX4_copy_108 : decode cX4_copy 108 = .ok (.iload 4, 2) := by decide +kernel
theorem dX4_copy_110 : decode cX4_copy 110 = .ok (.iload 5, 2) := by decide +kernel
theorem dX4_copy_112 : decode cX4_copy 112 = .ok (.invokestatic 242, 3) := by decide +kernel
theorem dX4_copy_115 : decode cX4_copy 115 = .ok (.iconst 1, 1) := by decide +kernel
theorem dX4_copy_116 : decode cX4_copy 116 = .ok (.ireturn, 1) := by decide +kernel
theorem dX4_write_0 : decode cX4_write 0 = .ok (.aload_n 0, 1) := by decide +kernel
theorem dX4_write_1 : decode cX4_write 1 = .ok (.iload_n 1, 1) := by decide +kernel
theorem dX4_write_2 : decode cX4_write 2 = .ok (.invokevirtual 122, 3) := by decide +kernel
theorem dX4_write_5 : decode cX4_write 5 = .ok (.astore_n 2, 1) := by decide +kernel
theorem dX4_write_6 : decode cX4_write 6 = .ok (.aload_n 2, 1) := by decide +kernel
theorem dX4_write_7 : decode cX4_write 7 = .ok (.ifnonnull 6, 3) := by decide +kernel
theorem dX4_write_10 : decode cX4_write 10 = .ok (.bipush (-2), 2) := by decide +kernel
theorem dX4_write_12 : decode cX4_write 12 = .ok (.ireturn, 1) := by decide +kernel
theorem dX4_write_13 : decode cX4_write 13 = .ok (.aload_n 2, 1) := by decide +kernel
theorem dX4_write_14 : decode cX4_write 14 = .ok (.invokevirtual 126, 3) := by decide +kernel
theorem dX4_write_17 : decode cX4_write 17 = .ok (.ifCond .eq 9, 3) := by decide +kernel
theorem dX4_write_20 : decode cX4_write 20 = .ok (.aload_n 0, 1) := by decide +kernel
theorem dX4_write_21 : decode cX4_write 21 = .ok (.iconst 1, 1) := by decide +kernel
theorem dX4_write_22 : decode cX4_write 22 = .ok (.invokevirtual 129, 3) := by decide +kernel
theorem dX4_write_25 : decode cX4_write 25 = .ok (.ireturn, 1) := by decide +kernel
theorem dX4_write_26 : decode cX4_write 26 = .ok (.aload_n 2, 1) := by decide +kernel
theorem dX4_write_27 : decode cX4_write 27 = .ok (.getfield 133, 3) := by decide +kernel
theorem dX4_write_30 : decode cX4_write 30 = .ok (.aload_n 0, 1) := by decide +kernel
theorem dX4_write_31 : decode cX4_write 31 = .ok (.getfield 152, 3) := by decide +kernel
theorem dX4_write_34 : decode cX4_write 34 = .ok (.invokestatic 248, 3) := by decide +kernel
theorem dX4_write_37 : decode cX4_write 37 = .ok (.istore_n 3, 1) := by decide +kernel
theorem dX4_write_38 : decode cX4_write 38 = .ok (.iconst 0, 1) := by decide +kernel
theorem dX4_write_39 : decode cX4_write 39 = .ok (.istore 4, 2) := by decide +kernel
theorem dX4_write_41 : decode cX4_write 41 = .ok (.iload 4, 2) := by decide +kernel
theorem dX4_write_43 : decode cX4_write 43 = .ok (.iload_n 3, 1) := by decide +kernel
theorem dX4_write_44 : decode cX4_write 44 = .ok (.if_icmp .ge 24, 3) := by decide +kernel
theorem dX4_write_47 : decode cX4_write 47 = .ok (.aload_n 2, 1) := by decide +kernel
theorem dX4_write_48 : decode cX4_write 48 = .ok (.iload 4, 2) := by decide +kernel
theorem dX4_write_50 : decode cX4_write 50 = .ok (.aload_n 0, 1) := by decide +kernel
theorem dX4_write_51 : decode cX4_write 51 = .ok (.getfield 44, 3) := by decide +kernel
theorem dX4_write_54 : decode cX4_write 54 = .ok (.iload 4, 2) := by decide +kernel
theorem dX4_write_56 : decode cX4_write 56 = .ok (.invokestatic 111, 3) := by decide +kernel
theorem dX4_write_59 : decode cX4_write 59 = .ok (.invokevirtual 229, 3) := by decide +kernel
theorem dX4_write_62 : decode cX4_write 62 = .ok (.iinc 4 1, 3) := by decide +kernel
theorem dX4_write_65 : decode cX4_write 65 = .ok (.goto (-24), 3) := by decide +kernel
theorem dX4_write_68 : decode cX4_write 68 = .ok (.iload_n 3, 1) := by decide +kernel
theorem dX4_write_69 : decode cX4_write 69 = .ok (.ireturn, 1) := by decide +kernel
theorem dX4_count_0 : decode cX4_count 0 = .ok (.iload_n 1, 1) := by decide +kernel
theorem dX4_count_1 : decode cX4_count 1 = .ok (.tableswitch 123 0 8 #[51, 56, 64, 72, 83, 91, 103, 113, 118], 51) := by decide +kernel
theorem dX4_count_52 : decode cX4_count 52 = .ok (.aload_n 0, 1) := by decide +kernel
theorem dX4_count_53 : decode cX4_count 53 = .ok (.getfield 152, 3) := by decide +kernel
theorem dX4_count_56 : decode cX4_count 56 = .ok (.ireturn, 1) := by decide +kernel
theorem dX4_count_57 : decode cX4_count 57 = .ok (.aload_n 0, 1) := by decide +kernel
theorem dX4_count_58 : decode cX4_count 58 = .ok (.getfield 21, 3) := by decide +kernel
theorem dX4_count_61 : decode cX4_count 61 = .ok (.getfield 174, 3) := by decide +kernel
theorem dX4_count_64 : decode cX4_count 64 = .ok (.ireturn, 1) := by decide +kernel
theorem dX4_count_65 : decode cX4_count 65 = .ok (.aload_n 0, 1) := by decide +kernel
theorem dX4_count_66 : decode cX4_count 66 = .ok (.getfield 14, 3) := by decide +kernel
theorem dX4_count_69 : decode cX4_count 69 = .ok (.getfield 97, 3) := by decide +kernel
theorem dX4_count_72 : decode cX4_count 72 = .ok (.ireturn, 1) := by decide +kernel
theorem dX4_count_73 : decode cX4_count 73 = .ok (.aload_n 0, 1) := by decide +kernel
theorem dX4_count_74 : decode cX4_count 74 = .ok (.getfield 21, 3) := by decide +kernel
theorem dX4_count_77 : decode cX4_count 77 = .ok (.getfield 253, 3) := by decide +kernel
theorem dX4_count_80 : decode cX4_count 80 = .ok (.getfield 97, 3) := by decide +kernel
theorem dX4_count_83 : decode cX4_count 83 = .ok (.ireturn, 1) := by decide +kernel
theorem dX4_count_84 : decode cX4_count 84 = .ok (.aload_n 0, 1) := by decide +kernel
theorem dX4_count_85 : decode cX4_count 85 = .ok (.getfield 28, 3) := by decide +kernel
theorem dX4_count_88 : decode cX4_count 88 = .ok (.getfield 139, 3) := by decide +kernel
theorem dX4_count_91 : decode cX4_count 91 = .ok (.ireturn, 1) := by decide +kernel
theorem dX4_count_92 : decode cX4_count 92 = .ok (.aload_n 0, 1) := by decide +kernel
theorem dX4_count_93 : decode cX4_count 93 = .ok (.getfield 44, 3) := by decide +kernel
theorem dX4_count_96 : decode cX4_count 96 = .ok (.aload_n 0, 1) := by decide +kernel
theorem dX4_count_97 : decode cX4_count 97 = .ok (.getfield 152, 3) := by decide +kernel
theorem dX4_count_100 : decode cX4_count 100 = .ok (.invokestatic 215, 3) := by decide +kernel
theorem dX4_count_103 : decode cX4_count 103 = .ok (.ireturn, 1) := by decide +kernel
theorem dX4_count_104 : decode cX4_count 104 = .ok (.aload_n 0, 1) := by decide +kernel
theorem dX4_count_105 : decode cX4_count 105 = .ok (.getfield 41, 3) := by decide +kernel
theorem dX4_count_108 : decode cX4_count 108 = .ok (.bipush 10, 2) := by decide +kernel
theorem dX4_count_110 : decode cX4_count 110 = .ok (.invokestatic 215, 3) := by decide +kernel
theorem dX4_count_113 : decode cX4_count 113 = .ok (.ireturn, 1) := by decide +kernel
theorem dX4_count_114 : decode cX4_count 114 = .ok (.aload_n 0, 1) := by decide +kernel
theorem dX4_count_115 : decode cX4_count 115 = .ok (.invokevirtual 256, 3) := by decide +kernel
theorem dX4_count_118 : decode cX4_count 118 = .ok (.ireturn, 1) := by decide +kernel
theorem dX4_count_119 : decode cX4_count 119 = .ok (.aload_n 0, 1) := by decide +kernel
theorem dX4_count_120 : decode cX4_count 120 = .ok (.getfield 233, 3) := by decide +kernel
theorem dX4_count_123 : decode cX4_count 123 = .ok (.ireturn, 1) := by decide +kernel
theorem dX4_count_124 : decode cX4_count 124 = .ok (.bipush (-2), 2) := by decide +kernel
theorem dX4_count_126 : decode cX4_count 126 = .ok (.ireturn, 1) := by decide +kernel
theorem dX4_digest_0 : decode cX4_digest 0 = .ok (.ldc2_w 259, 3) := by decide +kernel
theorem dX4_digest_3 : decode cX4_digest 3 = .ok (.lstore_n 1, 1) := by decide +kernel
theorem dX4_digest_4 : decode cX4_digest 4 = .ok (.iconst 0, 1) := by decide +kernel
theorem dX4_digest_5 : decode cX4_digest 5 = .ok (.istore_n 3, 1) := by decide +kernel
theorem dX4_digest_6 : decode cX4_digest 6 = .ok (.iload_n 3, 1) := by decide +kernel
theorem dX4_digest_7 : decode cX4_digest 7 = .ok (.bipush 8, 2) := by decide +kernel
theorem dX4_digest_9 : decode cX4_digest 9 = .ok (.if_icmp .ge 20, 3) := by decide +kernel
theorem dX4_digest_12 : decode cX4_digest 12 = .ok (.lload_n 1, 1) := by decide +kernel
theorem dX4_digest_13 : decode cX4_digest 13 = .ok (.aload_n 0, 1) := by decide +kernel
theorem dX4_digest_14 : decode cX4_digest 14 = .ok (.iload_n 3, 1) := by decide +kernel
theorem dX4_digest_15 : decode cX4_digest 15 = .ok (.invokevirtual 261, 3) := by decide +kernel
theorem dX4_digest_18 : decode cX4_digest 18 = .ok (.i2l, 1) := by decide +kernel
theorem dX4_digest_19 : decode cX4_digest 19 = .ok (.invokestatic 264, 3) := by decide +kernel
theorem dX4_digest_22 : decode cX4_digest 22 = .ok (.lstore_n 1, 1) := by decide +kernel
theorem dX4_digest_23 : decode cX4_digest 23 = .ok (.iinc 3 1, 3) := by decide +kernel
theorem dX4_digest_26 : decode cX4_digest 26 = .ok (.goto (-20), 3) := by decide +kernel
theorem dX4_digest_29 : decode cX4_digest 29 = .ok (.lload_n 1, 1) := by decide +kernel
theorem dX4_digest_30 : decode cX4_digest 30 = .ok (.aload_n 0, 1) := by decide +kernel
theorem dX4_digest_31 : decode cX4_digest 31 = .ok (.iconst 0, 1) := by decide +kernel
theorem dX4_digest_32 : decode cX4_digest 32 = .ok (.invokevirtual 268, 3) := by decide +kernel
theorem dX4_digest_35 : decode cX4_digest 35 = .ok (.i2l, 1) := by decide +kernel
theorem dX4_digest_36 : decode cX4_digest 36 = .ok (.invokestatic 264, 3) := by decide +kernel
theorem dX4_digest_39 : decode cX4_digest 39 = .ok (.aload_n 0, 1) := by decide +kernel
theorem dX4_digest_40 : decode cX4_digest 40 = .ok (.iconst 1, 1) := by decide +kernel
theorem dX4_digest_41 : decode cX4_digest 41 = .ok (.invokevirtual 268, 3) := by decide +kernel
theorem dX4_digest_44 : decode cX4_digest 44 = .ok (.i2l, 1) := by decide +kernel
theorem dX4_digest_45 : decode cX4_digest 45 = .ok (.invokestatic 264, 3) := by decide +kernel
theorem dX4_digest_48 : decode cX4_digest 48 = .ok (.lstore_n 1, 1) := by decide +kernel
theorem dX4_digest_49 : decode cX4_digest 49 = .ok (.lload_n 1, 1) := by decide +kernel
theorem dX4_digest_50 : decode cX4_digest 50 = .ok (.aload_n 0, 1) := by decide +kernel
theorem dX4_digest_51 : decode cX4_digest 51 = .ok (.invokevirtual 271, 3) := by decide +kernel
theorem dX4_digest_54 : decode cX4_digest 54 = .ok (.i2l, 1) := by decide +kernel
theorem dX4_digest_55 : decode cX4_digest 55 = .ok (.invokestatic 264, 3) := by decide +kernel
theorem dX4_digest_58 : decode cX4_digest 58 = .ok (.lstore_n 1, 1) := by decide +kernel
theorem dX4_digest_59 : decode cX4_digest 59 = .ok (.aload_n 0, 1) := by decide +kernel
theorem dX4_digest_60 : decode cX4_digest 60 = .ok (.lload_n 1, 1) := by decide +kernel
theorem dX4_digest_61 : decode cX4_digest 61 = .ok (.invokevirtual 274, 3) := by decide +kernel
theorem dX4_digest_64 : decode cX4_digest 64 = .ok (.lstore_n 1, 1) := by decide +kernel
theorem dX4_digest_65 : decode cX4_digest 65 = .ok (.aload_n 0, 1) := by decide +kernel
theorem dX4_digest_66 : decode cX4_digest 66 = .ok (.lload_n 1, 1) := by decide +kernel
theorem dX4_digest_67 : decode cX4_digest 67 = .ok (.invokevirtual 278, 3) := by decide +kernel
theorem dX4_digest_70 : decode cX4_digest 70 = .ok (.lstore_n 1, 1) := by decide +kernel
theorem dX4_digest_71 : decode cX4_digest 71 = .ok (.lload_n 1, 1) := by decide +kernel
theorem dX4_digest_72 : decode cX4_digest 72 = .ok (.aload_n 0, 1) := by decide +kernel
theorem dX4_digest_73 : decode cX4_digest 73 = .ok (.iconst (-1), 1) := by decide +kernel
theorem dX4_digest_74 : decode cX4_digest 74 = .ok (.invokevirtual 281, 3) := by decide +kernel
theorem dX4_digest_77 : decode cX4_digest 77 = .ok (.i2l, 1) := by decide +kernel
theorem dX4_digest_78 : decode cX4_digest 78 = .ok (.invokestatic 264, 3) := by decide +kernel
theorem dX4_digest_81 : decode cX4_digest 81 = .ok (.lstore_n 1, 1) := by decide +kernel
theorem dX4_digest_82 : decode cX4_digest 82 = .ok (.lload_n 1, 1) := by decide +kernel
theorem dX4_digest_83 : decode cX4_digest 83 = .ok (.aload_n 0, 1) := by decide +kernel
theorem dX4_digest_84 : decode cX4_digest 84 = .ok (.iconst 0, 1) := by decide +kernel
theorem dX4_digest_85 : decode cX4_digest 85 = .ok (.invokevirtual 284, 3) := by decide +kernel
theorem dX4_digest_88 : decode cX4_digest 88 = .ok (.i2l, 1) := by decide +kernel
theorem dX4_digest_89 : decode cX4_digest 89 = .ok (.invokestatic 264, 3) := by decide +kernel
theorem dX4_digest_92 : decode cX4_digest 92 = .ok (.aload_n 0, 1) := by decide +kernel
theorem dX4_digest_93 : decode cX4_digest 93 = .ok (.iconst 1, 1) := by decide +kernel
theorem dX4_digest_94 : decode cX4_digest 94 = .ok (.invokevirtual 284, 3) := by decide +kernel
theorem dX4_digest_97 : decode cX4_digest 97 = .ok (.i2l, 1) := by decide +kernel
theorem dX4_digest_98 : decode cX4_digest 98 = .ok (.invokestatic 264, 3) := by decide +kernel
theorem dX4_digest_101 : decode cX4_digest 101 = .ok (.lstore_n 1, 1) := by decide +kernel
theorem dX4_digest_102 : decode cX4_digest 102 = .ok (.lload_n 1, 1) := by decide +kernel
theorem dX4_digest_103 : decode cX4_digest 103 = .ok (.aload_n 0, 1) := by decide +kernel
theorem dX4_digest_104 : decode cX4_digest 104 = .ok (.invokevirtual 287, 3) := by decide +kernel
theorem dX4_digest_107 : decode cX4_digest 107 = .ok (.i2l, 1) := by decide +kernel
theorem dX4_digest_108 : decode cX4_digest 108 = .ok (.invokestatic 264, 3) := by decide +kernel
theorem dX4_digest_111 : decode cX4_digest 111 = .ok (.lstore_n 1, 1) := by decide +kernel
theorem dX4_digest_112 : decode cX4_digest 112 = .ok (.iconst 0, 1) := by decide +kernel
theorem dX4_digest_113 : decode cX4_digest 113 = .ok (.istore_n 3, 1) := by decide +kernel
theorem dX4_digest_114 : decode cX4_digest 114 = .ok (.iload_n 3, 1) := by decide +kernel
theorem dX4_digest_115 : decode cX4_digest 115 = .ok (.bipush 10, 2) := by decide +kernel
theorem dX4_digest_117 : decode cX4_digest 117 = .ok (.if_icmp .ge 20, 3) := by decide +kernel
theorem dX4_digest_120 : decode cX4_digest 120 = .ok (.lload_n 1, 1) := by decide +kernel
theorem dX4_digest_121 : decode cX4_digest 121 = .ok (.aload_n 0, 1) := by decide +kernel
theorem dX4_digest_122 : decode cX4_digest 122 = .ok (.iload_n 3, 1) := by decide +kernel
theorem dX4_digest_123 : decode cX4_digest 123 = .ok (.invokevirtual 290, 3) := by decide +kernel
theorem dX4_digest_126 : decode cX4_digest 126 = .ok (.i2l, 1) := by decide +kernel
theorem dX4_digest_127 : decode cX4_digest 127 = .ok (.invokestatic 264, 3) := by decide +kernel
theorem dX4_digest_130 : decode cX4_digest 130 = .ok (.lstore_n 1, 1) := by decide +kernel
theorem dX4_digest_131 : decode cX4_digest 131 = .ok (.iinc 3 1, 3) := by decide +kernel
theorem dX4_digest_134 : decode cX4_digest 134 = .ok (.goto (-20), 3) := by decide +kernel
theorem dX4_digest_137 : decode cX4_digest 137 = .ok (.iconst 0, 1) := by decide +kernel
theorem dX4_digest_138 : decode cX4_digest 138 = .ok (.istore_n 3, 1) := by decide +kernel
theorem dX4_digest_139 : decode cX4_digest 139 = .ok (.iload_n 3, 1) := by decide +kernel
theorem dX4_digest_140 : decode cX4_digest 140 = .ok (.iconst 2, 1) := by decide +kernel
theorem dX4_digest_141 : decode cX4_digest 141 = .ok (.if_icmp .gt 21, 3) := by decide +kernel
theorem dX4_digest_144 : decode cX4_digest 144 = .ok (.lload_n 1, 1) := by decide +kernel
theorem dX4_digest_145 : decode cX4_digest 145 = .ok (.aload_n 0, 1) := by decide +kernel
theorem dX4_digest_146 : decode cX4_digest 146 = .ok (.iconst 3, 1) := by decide +kernel
theorem dX4_digest_147 : decode cX4_digest 147 = .ok (.iload_n 3, 1) := by decide +kernel
theorem dX4_digest_148 : decode cX4_digest 148 = .ok (.invokevirtual 293, 3) := by decide +kernel
theorem dX4_digest_151 : decode cX4_digest 151 = .ok (.i2l, 1) := by decide +kernel
theorem dX4_digest_152 : decode cX4_digest 152 = .ok (.invokestatic 264, 3) := by decide +kernel
theorem dX4_digest_155 : decode cX4_digest 155 = .ok (.lstore_n 1, 1) := by decide +kernel
theorem dX4_digest_156 : decode cX4_digest 156 = .ok (.iinc 3 1, 3) := by decide +kernel
theorem dX4_digest_159 : decode cX4_digest 159 = .ok (.goto (-20), 3) := by decide +kernel
theorem dX4_digest_162 : decode cX4_digest 162 = .ok (.lload_n 1, 1) := by decide +kernel
theorem dX4_digest_163 : decode cX4_digest 163 = .ok (.aload_n 0, 1) := by decide +kernel
theorem dX4_digest_164 : decode cX4_digest 164 = .ok (.invokevirtual 296, 3) := by decide +kernel
theorem dX4_digest_167 : decode cX4_digest 167 = .ok (.i2l, 1) := by decide +kernel
theorem dX4_digest_168 : decode cX4_digest 168 = .ok (.invokestatic 264, 3) := by decide +kernel
theorem dX4_digest_171 : decode cX4_digest 171 = .ok (.aload_n 0, 1) := by decide +kernel
theorem dX4_digest_172 : decode cX4_digest 172 = .ok (.bipush 20, 2) := by decide +kernel
theorem dX4_digest_174 : decode cX4_digest 174 = .ok (.iconst (-1), 1) := by decide +kernel
theorem dX4_digest_175 : decode cX4_digest 175 = .ok (.invokevirtual 299, 3) := by decide +kernel
theorem dX4_digest_178 : decode cX4_digest 178 = .ok (.i2l, 1) := by decide +kernel
theorem dX4_digest_179 : decode cX4_digest 179 = .ok (.invokestatic 264, 3) := by decide +kernel
theorem dX4_digest_182 : decode cX4_digest 182 = .ok (.lreturn, 1) := by decide +kernel
theorem dX4_mixCells_0 : decode cX4_mixCells 0 = .ok (.lload_n 1, 1) := by decide +kernel
theorem dX4_mixCells_1 : decode cX4_mixCells 1 = .ok (.lstore_n 3, 1) := by decide +kernel
theorem dX4_mixCells_2 : decode cX4_mixCells 2 = .ok (.iconst 0, 1) := by decide +kernel
theorem dX4_mixCells_3 : decode cX4_mixCells 3 = .ok (.istore 5, 2) := by decide +kernel
theorem dX4_mixCells_5 : decode cX4_mixCells 5 = .ok (.iload 5, 2) := by decide +kernel
theorem dX4_mixCells_7 : decode cX4_mixCells 7 = .ok (.aload_n 0, 1) := by decide +kernel
theorem dX4_mixCells_8 : decode cX4_mixCells 8 = .ok (.getfield 152, 3) := by decide +kernel
theorem dX4_mixCells_11 : decode cX4_mixCells 11 = .ok (.if_icmp .ge 82, 3) := by decide +kernel
theorem dX4_mixCells_14 : decode cX4_mixCells 14 = .ok (.lload_n 3, 1) := by decide +kernel
theorem dX4_mixCells_15 : decode cX4_mixCells 15 = .ok (.aload_n 0, 1) := by decide +kernel
theorem dX4_mixCells_16 : decode cX4_mixCells 16 = .ok (.iload 5, 2) := by decide +kernel
theorem dX4_mixCells_18 : decode cX4_mixCells 18 = .ok (.invokevirtual 302, 3) := by decide +kernel
theorem dX4_mixCells_21 : decode cX4_mixCells 21 = .ok (.i2l, 1) := by decide +kernel
theorem dX4_mixCells_22 : decode cX4_mixCells 22 = .ok (.invokestatic 264, 3) := by decide +kernel
theorem dX4_mixCells_25 : decode cX4_mixCells 25 = .ok (.lstore_n 3, 1) := by decide +kernel
theorem dX4_mixCells_26 : decode cX4_mixCells 26 = .ok (.lload_n 3, 1) := by decide +kernel
theorem dX4_mixCells_27 : decode cX4_mixCells 27 = .ok (.aload_n 0, 1) := by decide +kernel
theorem dX4_mixCells_28 : decode cX4_mixCells 28 = .ok (.iload 5, 2) := by decide +kernel
theorem dX4_mixCells_30 : decode cX4_mixCells 30 = .ok (.invokevirtual 305, 3) := by decide +kernel
theorem dX4_mixCells_33 : decode cX4_mixCells 33 = .ok (.i2l, 1) := by decide +kernel
theorem dX4_mixCells_34 : decode cX4_mixCells 34 = .ok (.invokestatic 264, 3) := by decide +kernel
theorem dX4_mixCells_37 : decode cX4_mixCells 37 = .ok (.lstore_n 3, 1) := by decide +kernel
theorem dX4_mixCells_38 : decode cX4_mixCells 38 = .ok (.lload_n 3, 1) := by decide +kernel
theorem dX4_mixCells_39 : decode cX4_mixCells 39 = .ok (.aload_n 0, 1) := by decide +kernel
theorem dX4_mixCells_40 : decode cX4_mixCells 40 = .ok (.iload 5, 2) := by decide +kernel
theorem dX4_mixCells_42 : decode cX4_mixCells 42 = .ok (.invokevirtual 308, 3) := by decide +kernel
theorem dX4_mixCells_45 : decode cX4_mixCells 45 = .ok (.i2l, 1) := by decide +kernel
theorem dX4_mixCells_46 : decode cX4_mixCells 46 = .ok (.invokestatic 264, 3) := by decide +kernel
theorem dX4_mixCells_49 : decode cX4_mixCells 49 = .ok (.lstore_n 3, 1) := by decide +kernel
theorem dX4_mixCells_50 : decode cX4_mixCells 50 = .ok (.lload_n 3, 1) := by decide +kernel
theorem dX4_mixCells_51 : decode cX4_mixCells 51 = .ok (.aload_n 0, 1) := by decide +kernel
theorem dX4_mixCells_52 : decode cX4_mixCells 52 = .ok (.iload 5, 2) := by decide +kernel
theorem dX4_mixCells_54 : decode cX4_mixCells 54 = .ok (.iconst 0, 1) := by decide +kernel
theorem dX4_mixCells_55 : decode cX4_mixCells 55 = .ok (.invokevirtual 311, 3) := by decide +kernel
theorem dX4_mixCells_58 : decode cX4_mixCells 58 = .ok (.i2l, 1) := by decide +kernel
theorem dX4_mixCells_59 : decode cX4_mixCells 59 = .ok (.invokestatic 264, 3) := by decide +kernel
theorem dX4_mixCells_62 : decode cX4_mixCells 62 = .ok (.aload_n 0, 1) := by decide +kernel
theorem dX4_mixCells_63 : decode cX4_mixCells 63 = .ok (.iload 5, 2) := by decide +kernel
theorem dX4_mixCells_65 : decode cX4_mixCells 65 = .ok (.iconst 1, 1) := by decide +kernel
theorem dX4_mixCells_66 : decode cX4_mixCells 66 = .ok (.invokevirtual 311, 3) := by decide +kernel
theorem dX4_mixCells_69 : decode cX4_mixCells 69 = .ok (.i2l, 1) := by decide +kernel
theorem dX4_mixCells_70 : decode cX4_mixCells 70 = .ok (.invokestatic 264, 3) := by decide +kernel
theorem dX4_mixCells_73 : decode cX4_mixCells 73 = .ok (.lstore_n 3, 1) := by decide +kernel
theorem dX4_mixCells_74 : decode cX4_mixCells 74 = .ok (.lload_n 3, 1) := by decide +kernel
theorem dX4_mixCells_75 : decode cX4_mixCells 75 = .ok (.aload_n 0, 1) := by decide +kernel
theorem dX4_mixCells_76 : decode cX4_mixCells 76 = .ok (.iload 5, 2) := by decide +kernel
theorem dX4_mixCells_78 : decode cX4_mixCells 78 = .ok (.iconst 5, 1) := by decide +kernel
theorem dX4_mixCells_79 : decode cX4_mixCells 79 = .ok (.invokevirtual 314, 3) := by decide +kernel
theorem dX4_mixCells_82 : decode cX4_mixCells 82 = .ok (.i2l, 1) := by decide +kernel
theorem dX4_mixCells_83 : decode cX4_mixCells 83 = .ok (.invokestatic 264, 3) := by decide +kernel
theorem dX4_mixCells_86 : decode cX4_mixCells 86 = .ok (.lstore_n 3, 1) := by decide +kernel
theorem dX4_mixCells_87 : decode cX4_mixCells 87 = .ok (.iinc 5 1, 3) := by decide +kernel
theorem dX4_mixCells_90 : decode cX4_mixCells 90 = .ok (.goto (-85), 3) := by decide +kernel
theorem dX4_mixCells_93 : decode cX4_mixCells 93 = .ok (.lload_n 3, 1) := by decide +kernel
theorem dX4_mixCells_94 : decode cX4_mixCells 94 = .ok (.lreturn, 1) := by decide +kernel
theorem dX4_mixWords_0 : decode cX4_mixWords 0 = .ok (.lload_n 1, 1) := by decide +kernel
theorem dX4_mixWords_1 : decode cX4_mixWords 1 = .ok (.lstore_n 3, 1) := by decide +kernel
theorem dX4_mixWords_2 : decode cX4_mixWords 2 = .ok (.iconst 0, 1) := by decide +kernel
theorem dX4_mixWords_3 : decode cX4_mixWords 3 = .ok (.istore 5, 2) := by decide +kernel
theorem dX4_mixWords_5 : decode cX4_mixWords 5 = .ok (.iload 5, 2) := by decide +kernel
theorem dX4_mixWords_7 : decode cX4_mixWords 7 = .ok (.aload_n 0, 1) := by decide +kernel
theorem dX4_mixWords_8 : decode cX4_mixWords 8 = .ok (.getfield 21, 3) := by decide +kernel
theorem dX4_mixWords_11 : decode cX4_mixWords 11 = .ok (.getfield 174, 3) := by decide +kernel
theorem dX4_mixWords_14 : decode cX4_mixWords 14 = .ok (.if_icmp .ge 47, 3) := by decide +kernel
theorem dX4_mixWords_17 : decode cX4_mixWords 17 = .ok (.lload_n 3, 1) := by decide +kernel
theorem dX4_mixWords_18 : decode cX4_mixWords 18 = .ok (.aload_n 0, 1) := by decide +kernel
theorem dX4_mixWords_19 : decode cX4_mixWords 19 = .ok (.iload 5, 2) := by decide +kernel
theorem dX4_mixWords_21 : decode cX4_mixWords 21 = .ok (.invokevirtual 281, 3) := by decide +kernel
theorem dX4_mixWords_24 : decode cX4_mixWords 24 = .ok (.i2l, 1) := by decide +kernel
theorem dX4_mixWords_25 : decode cX4_mixWords 25 = .ok (.invokestatic 264, 3) := by decide +kernel
theorem dX4_mixWords_28 : decode cX4_mixWords 28 = .ok (.lstore_n 3, 1) := by decide +kernel
theorem dX4_mixWords_29 : decode cX4_mixWords 29 = .ok (.lload_n 3, 1) := by decide +kernel
theorem dX4_mixWords_30 : decode cX4_mixWords 30 = .ok (.aload_n 0, 1) := by decide +kernel
theorem dX4_mixWords_31 : decode cX4_mixWords 31 = .ok (.iload 5, 2) := by decide +kernel
theorem dX4_mixWords_33 : decode cX4_mixWords 33 = .ok (.iconst 0, 1) := by decide +kernel
theorem dX4_mixWords_34 : decode cX4_mixWords 34 = .ok (.invokevirtual 317, 3) := by decide +kernel
theorem dX4_mixWords_37 : decode cX4_mixWords 37 = .ok (.i2l, 1) := by decide +kernel
theorem dX4_mixWords_38 : decode cX4_mixWords 38 = .ok (.invokestatic 264, 3) := by decide +kernel
theorem dX4_mixWords_41 : decode cX4_mixWords 41 = .ok (.lstore_n 3, 1) := by decide +kernel
theorem dX4_mixWords_42 : decode cX4_mixWords 42 = .ok (.lload_n 3, 1) := by decide +kernel
theorem dX4_mixWords_43 : decode cX4_mixWords 43 = .ok (.aload_n 0, 1) := by decide +kernel
theorem dX4_mixWords_44 : decode cX4_mixWords 44 = .ok (.iload 5, 2) := by decide +kernel
theorem dX4_mixWords_46 : decode cX4_mixWords 46 = .ok (.iconst 0, 1) := by decide +kernel
theorem dX4_mixWords_47 : decode cX4_mixWords 47 = .ok (.invokevirtual 320, 3) := by decide +kernel
theorem dX4_mixWords_50 : decode cX4_mixWords 50 = .ok (.i2l, 1) := by decide +kernel
theorem dX4_mixWords_51 : decode cX4_mixWords 51 = .ok (.invokestatic 264, 3) := by decide +kernel
theorem dX4_mixWords_54 : decode cX4_mixWords 54 = .ok (.lstore_n 3, 1) := by decide +kernel
theorem dX4_mixWords_55 : decode cX4_mixWords 55 = .ok (.iinc 5 1, 3) := by decide +kernel
theorem dX4_mixWords_58 : decode cX4_mixWords 58 = .ok (.goto (-53), 3) := by decide +kernel
theorem dX4_mixWords_61 : decode cX4_mixWords 61 = .ok (.lload_n 3, 1) := by decide +kernel
theorem dX4_mixWords_62 : decode cX4_mixWords 62 = .ok (.lreturn, 1) := by decide +kernel
theorem dX4_mix_0 : decode cX4_mix 0 = .ok (.ldc2_w 323, 3) := by decide +kernel
theorem dX4_mix_3 : decode cX4_mix 3 = .ok (.lload_n 0, 1) := by decide +kernel
theorem dX4_mix_4 : decode cX4_mix 4 = .ok (.lmul, 1) := by decide +kernel
theorem dX4_mix_5 : decode cX4_mix 5 = .ok (.lload_n 2, 1) := by decide +kernel
theorem dX4_mix_6 : decode cX4_mix 6 = .ok (.ladd, 1) := by decide +kernel
theorem dX4_mix_7 : decode cX4_mix 7 = .ok (.lreturn, 1) := by decide +kernel
theorem dX4_at_0 : decode cX4_at 0 = .ok (.aload_n 0, 1) := by decide +kernel
theorem dX4_at_1 : decode cX4_at 1 = .ok (.ifnull 19, 3) := by decide +kernel
theorem dX4_at_4 : decode cX4_at 4 = .ok (.iload_n 1, 1) := by decide +kernel
theorem dX4_at_5 : decode cX4_at 5 = .ok (.ifCond .lt 15, 3) := by decide +kernel
theorem dX4_at_8 : decode cX4_at 8 = .ok (.iload_n 1, 1) := by decide +kernel
theorem dX4_at_9 : decode cX4_at 9 = .ok (.aload_n 0, 1) := by decide +kernel
theorem dX4_at_10 : decode cX4_at 10 = .ok (.arraylength, 1) := by decide +kernel
theorem dX4_at_11 : decode cX4_at 11 = .ok (.if_icmp .ge 9, 3) := by decide +kernel
theorem dX4_at_14 : decode cX4_at 14 = .ok (.aload_n 0, 1) := by decide +kernel
theorem dX4_at_15 : decode cX4_at 15 = .ok (.iload_n 1, 1) := by decide +kernel
theorem dX4_at_16 : decode cX4_at 16 = .ok (.iaload, 1) := by decide +kernel
theorem dX4_at_17 : decode cX4_at 17 = .ok (.goto 4, 3) := by decide +kernel
theorem dX4_at_20 : decode cX4_at 20 = .ok (.iconst 0, 1) := by decide +kernel
theorem dX4_at_21 : decode cX4_at 21 = .ok (.ireturn, 1) := by decide +kernel
theorem dX4_lay_0 : decode cX4_lay 0 = .ok (.aload_n 0, 1) := by decide +kernel
theorem dX4_lay_1 : decode cX4_lay 1 = .ok (.ifnull 17, 3) := by decide +kernel
theorem dX4_lay_4 : decode cX4_lay 4 = .ok (.iload_n 1, 1) := by decide +kernel
theorem dX4_lay_5 : decode cX4_lay 5 = .ok (.ifCond .lt 13, 3) := by decide +kernel
theorem dX4_lay_8 : decode cX4_lay 8 = .ok (.iload_n 1, 1) := by decide +kernel
theorem dX4_lay_9 : decode cX4_lay 9 = .ok (.aload_n 0, 1) := by decide +kernel
theorem dX4_lay_10 : decode cX4_lay 10 = .ok (.arraylength, 1) := by decide +kernel
theorem dX4_lay_11 : decode cX4_lay 11 = .ok (.if_icmp .ge 7, 3) := by decide +kernel
theorem dX4_lay_14 : decode cX4_lay 14 = .ok (.aload_n 0, 1) := by decide +kernel
theorem dX4_lay_15 : decode cX4_lay 15 = .ok (.iload_n 1, 1) := by decide +kernel
theorem dX4_lay_16 : decode cX4_lay 16 = .ok (.iload_n 2, 1) := by decide +kernel
theorem dX4_lay_17 : decode cX4_lay 17 = .ok (.iastore, 1) := by decide +kernel
theorem dX4_lay_18 : decode cX4_lay 18 = .ok (.return_, 1) := by decide +kernel
theorem dX4_isWithin_0 : decode cX4_isWithin 0 = .ok (.iload_n 0, 1) := by decide +kernel
theorem dX4_isWithin_1 : decode cX4_isWithin 1 = .ok (.iload_n 1, 1) := by decide +kernel
theorem dX4_isWithin_2 : decode cX4_isWithin 2 = .ok (.if_icmp .lt 12, 3) := by decide +kernel
theorem dX4_isWithin_5 : decode cX4_isWithin 5 = .ok (.iload_n 0, 1) := by decide +kernel
theorem dX4_isWithin_6 : decode cX4_isWithin 6 = .ok (.iload_n 2, 1) := by decide +kernel
theorem dX4_isWithin_7 : decode cX4_isWithin 7 = .ok (.if_icmp .gt 7, 3) := by decide +kernel
theorem dX4_isWithin_10 : decode cX4_isWithin 10 = .ok (.iconst 1, 1) := by decide +kernel
theorem dX4_isWithin_11 : decode cX4_isWithin 11 = .ok (.goto 4, 3) := by decide +kernel
theorem dX4_isWithin_14 : decode cX4_isWithin 14 = .ok (.iconst 0, 1) := by decide +kernel
theorem dX4_isWithin_15 : decode cX4_isWithin 15 = .ok (.ireturn, 1) := by decide +kernel
theorem dX4_isSign_0 : decode cX4_isSign 0 = .ok (.iload_n 0, 1) := by decide +kernel
theorem dX4_isSign_1 : decode cX4_isSign 1 = .ok (.iconst 1, 1) := by decide +kernel
theorem dX4_isSign_2 : decode cX4_isSign 2 = .ok (.bipush 63, 2) := by decide +kernel
theorem dX4_isSign_4 : decode cX4_isSign 4 = .ok (.invokestatic 83, 3) := by decide +kernel
theorem dX4_isSign_7 : decode cX4_isSign 7 = .ok (.ireturn, 1) := by decide +kernel
theorem dX4_isForm_0 : decode cX4_isForm 0 = .ok (.iload_n 0, 1) := by decide +kernel
theorem dX4_isForm_1 : decode cX4_isForm 1 = .ok (.iconst 0, 1) := by decide +kernel
theorem dX4_isForm_2 : decode cX4_isForm 2 = .ok (.iconst 2, 1) := by decide +kernel
theorem dX4_isForm_3 : decode cX4_isForm 3 = .ok (.invokestatic 83, 3) := by decide +kernel
theorem dX4_isForm_6 : decode cX4_isForm 6 = .ok (.ireturn, 1) := by decide +kernel
theorem dX4_isCell_0 : decode cX4_isCell 0 = .ok (.iload_n 1, 1) := by decide +kernel
theorem dX4_isCell_1 : decode cX4_isCell 1 = .ok (.iconst 0, 1) := by decide +kernel
theorem dX4_isCell_2 : decode cX4_isCell 2 = .ok (.aload_n 0, 1) := by decide +kernel
theorem dX4_isCell_3 : decode cX4_isCell 3 = .ok (.getfield 152, 3) := by decide +kernel
theorem dX4_isCell_6 : decode cX4_isCell 6 = .ok (.iconst 1, 1) := by decide +kernel
theorem dX4_isCell_7 : decode cX4_isCell 7 = .ok (.isub, 1) := by decide +kernel
theorem dX4_isCell_8 : decode cX4_isCell 8 = .ok (.invokestatic 83, 3) := by decide +kernel
theorem dX4_isCell_11 : decode cX4_isCell 11 = .ok (.ireturn, 1) := by decide +kernel
theorem dX4_pointsOf_0 : decode cX4_pointsOf 0 = .ok (.iconst 0, 1) := by decide +kernel
theorem dX4_pointsOf_1 : decode cX4_pointsOf 1 = .ok (.istore_n 2, 1) := by decide +kernel
theorem dX4_pointsOf_2 : decode cX4_pointsOf 2 = .ok (.iconst 0, 1) := by decide +kernel
theorem dX4_pointsOf_3 : decode cX4_pointsOf 3 = .ok (.istore_n 3, 1) := by decide +kernel
theorem dX4_pointsOf_4 : decode cX4_pointsOf 4 = .ok (.iload_n 3, 1) := by decide +kernel
theorem dX4_pointsOf_5 : decode cX4_pointsOf 5 = .ok (.iload_n 1, 1) := by decide +kernel
theorem dX4_pointsOf_6 : decode cX4_pointsOf 6 = .ok (.if_icmp .ge 20, 3) := by decide +kernel
theorem dX4_pointsOf_9 : decode cX4_pointsOf 9 = .ok (.iload_n 2, 1) := by decide +kernel
theorem dX4_pointsOf_10 : decode cX4_pointsOf 10 = .ok (.aload_n 0, 1) := by decide +kernel
theorem dX4_pointsOf_11 : decode cX4_pointsOf 11 = .ok (.iload_n 3, 1) := by decide +kernel
theorem dX4_pointsOf_12 : decode cX4_pointsOf 12 = .ok (.invokestatic 111, 3) := by decide +kernel
theorem dX4_pointsOf_15 : decode cX4_pointsOf 15 = .ok (.invokestatic 182, 3) := by decide +kernel
theorem dX4_pointsOf_18 : decode cX4_pointsOf 18 = .ok (.iadd, 1) := by decide +kernel
theorem dX4_pointsOf_19 : decode cX4_pointsOf 19 = .ok (.istore_n 2, 1) := by decide +kernel
theorem dX4_pointsOf_20 : decode cX4_pointsOf 20 = .ok (.iinc 3 1, 3) := by decide +kernel
theorem dX4_pointsOf_23 : decode cX4_pointsOf 23 = .ok (.goto (-19), 3) := by decide +kernel
theorem dX4_pointsOf_26 : decode cX4_pointsOf 26 = .ok (.iload_n 2, 1) := by decide +kernel
theorem dX4_pointsOf_27 : decode cX4_pointsOf 27 = .ok (.ireturn, 1) := by decide +kernel
theorem dX4_textAt_0 : decode cX4_textAt 0 = .ok (.iload_n 1, 1) := by decide +kernel
theorem dX4_textAt_1 : decode cX4_textAt 1 = .ok (.ifCond .ne 8, 3) := by decide +kernel
theorem dX4_textAt_4 : decode cX4_textAt 4 = .ok (.aload_n 0, 1) := by decide +kernel
theorem dX4_textAt_5 : decode cX4_textAt 5 = .ok (.getfield 14, 3) := by decide +kernel
theorem dX4_textAt_8 : decode cX4_textAt 8 = .ok (.areturn, 1) := by decide +kernel
theorem dX4_textAt_9 : decode cX4_textAt 9 = .ok (.iload_n 1, 1) := by decide +kernel
theorem dX4_textAt_10 : decode cX4_textAt 10 = .ok (.iconst 1, 1) := by decide +kernel
theorem dX4_textAt_11 : decode cX4_textAt 11 = .ok (.if_icmp .ne 13, 3) := by decide +kernel
theorem dX4_textAt_14 : decode cX4_textAt 14 = .ok (.aload_n 0, 1) := by decide +kernel
theorem dX4_textAt_15 : decode cX4_textAt 15 = .ok (.getfield 21, 3) := by decide +kernel
theorem dX4_textAt_18 : decode cX4_textAt 18 = .ok (.getfield 253, 3) := by decide +kernel
theorem dX4_textAt_21 : decode cX4_textAt 21 = .ok (.goto 4, 3) := by decide +kernel
theorem dX4_textAt_24 : decode cX4_textAt 24 = .ok (.aconst_null, 1) := by decide +kernel
theorem dX4_textAt_25 : decode cX4_textAt 25 = .ok (.areturn, 1) := by decide +kernel
theorem dX4_pageFault_0 : decode cX4_pageFault 0 = .ok (.iconst 0, 1) := by decide +kernel
theorem dX4_pageFault_1 : decode cX4_pageFault 1 = .ok (.istore_n 1, 1) := by decide +kernel
theorem dX4_pageFault_2 : decode cX4_pageFault 2 = .ok (.iload_n 1, 1) := by decide +kernel
theorem dX4_pageFault_3 : decode cX4_pageFault 3 = .ok (.aload_n 0, 1) := by decide +kernel
theorem dX4_pageFault_4 : decode cX4_pageFault 4 = .ok (.getfield 14, 3) := by decide +kernel
theorem dX4_pageFault_7 : decode cX4_pageFault 7 = .ok (.getfield 97, 3) := by decide +kernel
theorem dX4_pageFault_10 : decode cX4_pageFault 10 = .ok (.if_icmp .ge 36, 3) := by decide +kernel
theorem dX4_pageFault_13 : decode cX4_pageFault 13 = .ok (.aload_n 0, 1) := by decide +kernel
theorem dX4_pageFault_14 : decode cX4_pageFault 14 = .ok (.getfield 14, 3) := by decide +kernel
theorem dX4_pageFault_17 : decode cX4_pageFault 17 = .ok (.getfield 325, 3) := by decide +kernel
theorem dX4_pageFault_20 : decode cX4_pageFault 20 = .ok (.iload_n 1, 1) := by decide +kernel
theorem dX4_pageFault_21 : decode cX4_pageFault 21 = .ok (.invokestatic 111, 3) := by decide +kernel
theorem dX4_pageFault_24 : decode cX4_pageFault 24 = .ok (.istore_n 2, 1) := by decide +kernel
theorem dX4_pageFault_25 : decode cX4_pageFault 25 = .ok (.iload_n 2, 1) := by decide +kernel
theorem dX4_pageFault_26 : decode cX4_pageFault 26 = .ok (.bipush 46, 2) := by decide +kernel
theorem dX4_pageFault_28 : decode cX4_pageFault 28 = .ok (.if_icmp .eq 12, 3) := by decide +kernel
theorem dX4_pageFault_31 : decode cX4_pageFault 31 = .ok (.iload_n 2, 1) := by decide +kernel
theorem dX4_pageFault_32 : decode cX4_pageFault 32 = .ok (.invokestatic 328, 3) := by decide +kernel
theorem dX4_pageFault_35 : decode cX4_pageFault 35 = .ok (.ifCond .ne 5, 3) := by decide +kernel
theorem dX4_pageFault_38 : decode cX4_pageFault 38 = .ok (.iload_n 1, 1) := by decide +kernel
theorem dX4_pageFault_39 : decode cX4_pageFault 39 = .ok (.ireturn, 1) := by decide +kernel
theorem dX4_pageFault_40 : decode cX4_pageFault 40 = .ok (.iinc 1 1, 3) := by decide +kernel
theorem dX4_pageFault_43 : decode cX4_pageFault 43 = .ok (.goto (-41), 3) := by decide +kernel
theorem dX4_pageFault_46 : decode cX4_pageFault 46 = .ok (.iconst (-1), 1) := by decide +kernel
theorem dX4_pageFault_47 : decode cX4_pageFault 47 = .ok (.ireturn, 1) := by decide +kernel
theorem dX4_isLetter_0 : decode cX4_isLetter 0 = .ok (.iload_n 0, 1) := by decide +kernel
theorem dX4_isLetter_1 : decode cX4_isLetter 1 = .ok (.bipush 97, 2) := by decide +kernel
theorem dX4_isLetter_3 : decode cX4_isLetter 3 = .ok (.bipush 106, 2) := by decide +kernel
theorem dX4_isLetter_5 : decode cX4_isLetter 5 = .ok (.invokestatic 83, 3) := by decide +kernel
theorem dX4_isLetter_8 : decode cX4_isLetter 8 = .ok (.ireturn, 1) := by decide +kernel
theorem dX4_layTexts_0 : decode cX4_layTexts 0 = .ok (.aload_n 0, 1) := by decide +kernel
theorem dX4_layTexts_1 : decode cX4_layTexts 1 = .ok (.getfield 21, 3) := by decide +kernel
theorem dX4_layTexts_4 : decode cX4_layTexts 4 = .ok (.invokevirtual 331, 3) := by decide +kernel
theorem dX4_layTexts_7 : decode cX4_layTexts 7 = .ok (.aload_n 0, 1) := by decide +kernel
theorem dX4_layTexts_8 : decode cX4_layTexts 8 = .ok (.invokevirtual 119, 3) := by decide +kernel
theorem dX4_layTexts_11 : decode cX4_layTexts 11 = .ok (.return_, 1) := by decide +kernel
theorem dX4_layCells_0 : decode cX4_layCells 0 = .ok (.aload_n 0, 1) := by decide +kernel
theorem dX4_layCells_1 : decode cX4_layCells 1 = .ok (.aload_n 0, 1) := by decide +kernel
theorem dX4_layCells_2 : decode cX4_layCells 2 = .ok (.invokevirtual 100, 3) := by decide +kernel
theorem dX4_layCells_5 : decode cX4_layCells 5 = .ok (.iconst (-1), 1) := by decide +kernel
theorem dX4_layCells_6 : decode cX4_layCells 6 = .ok (.if_icmp .ne 13, 3) := by decide +kernel
theorem dX4_layCells_9 : decode cX4_layCells 9 = .ok (.aload_n 0, 1) := by decide +kernel
theorem dX4_layCells_10 : decode cX4_layCells 10 = .ok (.getfield 14, 3) := by decide +kernel
theorem dX4_layCells_13 : decode cX4_layCells 13 = .ok (.getfield 97, 3) := by decide +kernel
theorem dX4_layCells_16 : decode cX4_layCells 16 = .ok (.goto 4, 3) := by decide +kernel
theorem dX4_layCells_19 : decode cX4_layCells 19 = .ok (.iconst 0, 1) := by decide +kernel
theorem dX4_layCells_20 : decode cX4_layCells 20 = .ok (.putfield 152, 3) := by decide +kernel
theorem dX4_layCells_23 : decode cX4_layCells 23 = .ok (.iconst 0, 1) := by decide +kernel
theorem dX4_layCells_24 : decode cX4_layCells 24 = .ok (.istore_n 1, 1) := by decide +kernel
theorem dX4_layCells_25 : decode cX4_layCells 25 = .ok (.iload_n 1, 1) := by decide +kernel
theorem dX4_layCells_26 : decode cX4_layCells 26 = .ok (.aload_n 0, 1) := by decide +kernel
theorem dX4_layCells_27 : decode cX4_layCells 27 = .ok (.getfield 152, 3) := by decide +kernel
theorem dX4_layCells_30 : decode cX4_layCells 30 = .ok (.if_icmp .ge 30, 3) := by decide +kernel
theorem dX4_layCells_33 : decode cX4_layCells 33 = .ok (.aload_n 0, 1) := by decide +kernel
theorem dX4_layCells_34 : decode cX4_layCells 34 = .ok (.getfield 44, 3) := by decide +kernel
theorem dX4_layCells_37 : decode cX4_layCells 37 = .ok (.iload_n 1, 1) := by decide +kernel
theorem dX4_layCells_38 : decode cX4_layCells 38 = .ok (.aload_n 0, 1) := by decide +kernel
theorem dX4_layCells_39 : decode cX4_layCells 39 = .ok (.getfield 28, 3) := by decide +kernel
theorem dX4_layCells_42 : decode cX4_layCells 42 = .ok (.iload_n 1, 1) := by decide +kernel
theorem dX4_layCells_43 : decode cX4_layCells 43 = .ok (.aload_n 0, 1) := by decide +kernel
theorem dX4_layCells_44 : decode cX4_layCells 44 = .ok (.iload_n 1, 1) := by decide +kernel
theorem dX4_layCells_45 : decode cX4_layCells 45 = .ok (.invokevirtual 334, 3) := by decide +kernel
theorem dX4_layCells_48 : decode cX4_layCells 48 = .ok (.invokevirtual 337, 3) := by decide +kernel
theorem dX4_layCells_51 : decode cX4_layCells 51 = .ok (.invokestatic 115, 3) := by decide +kernel
theorem dX4_layCells_54 : decode cX4_layCells 54 = .ok (.iinc 1 1, 3) := by decide +kernel
theorem dX4_layCells_57 : decode cX4_layCells 57 = .ok (.goto (-32), 3) := by decide +kernel
theorem dX4_layCells_60 : decode cX4_layCells 60 = .ok (.return_, 1) := by decide +kernel
theorem dX4_printedAt_0 : decode cX4_printedAt 0 = .ok (.aload_n 0, 1) := by decide +kernel
theorem dX4_printedAt_1 : decode cX4_printedAt 1 = .ok (.getfield 14, 3) := by decide +kernel
theorem dX4_printedAt_4 : decode cX4_printedAt 4 = .ok (.getfield 325, 3) := by decide +kernel
theorem dX4_printedAt_7 : decode cX4_printedAt 7 = .ok (.iload_n 1, 1) := by decide +kernel
theorem dX4_printedAt_8 : decode cX4_printedAt 8 = .ok (.invokestatic 111, 3) := by decide +kernel
theorem dX4_printedAt_11 : decode cX4_printedAt 11 = .ok (.istore_n 2, 1) := by decide +kernel
theorem dX4_printedAt_12 : decode cX4_printedAt 12 = .ok (.iload_n 2, 1) := by decide +kernel
theorem dX4_printedAt_13 : decode cX4_printedAt 13 = .ok (.invokestatic 328, 3) := by decide +kernel
theorem dX4_printedAt_16 : decode cX4_printedAt 16 = .ok (.ifCond .eq 17, 3) := by decide +kernel
theorem dX4_printedAt_19 : decode cX4_printedAt 19 = .ok (.aload_n 0, 1) := by decide +kernel
theorem dX4_printedAt_20 : decode cX4_printedAt 20 = .ok (.getfield 41, 3) := by decide +kernel
theorem dX4_printedAt_23 : decode cX4_printedAt 23 = .ok (.iload_n 2, 1) := by decide +kernel
theorem dX4_printedAt_24 : decode cX4_printedAt 24 = .ok (.bipush 97, 2) := by decide +kernel
theorem dX4_printedAt_26 : decode cX4_printedAt 26 = .ok (.isub, 1) := by decide +kernel
theorem dX4_printedAt_27 : decode cX4_printedAt 27 = .ok (.invokestatic 111, 3) := by decide +kernel
theorem dX4_printedAt_30 : decode cX4_printedAt 30 = .ok (.goto 4, 3) := by decide +kernel
theorem dX4_printedAt_33 : decode cX4_printedAt 33 = .ok (.iconst 0, 1) := by decide +kernel
theorem dX4_printedAt_34 : decode cX4_printedAt 34 = .ok (.ireturn, 1) := by decide +kernel
theorem dX4_readingOf_0 : decode cX4_readingOf 0 = .ok (.iload_n 1, 1) := by decide +kernel
theorem dX4_readingOf_1 : decode cX4_readingOf 1 = .ok (.ifCond .ne 6, 3) := by decide +kernel
theorem dX4_readingOf_4 : decode cX4_readingOf 4 = .ok (.bipush 10, 2) := by decide +kernel
theorem dX4_readingOf_6 : decode cX4_readingOf 6 = .ok (.ireturn, 1) := by decide +kernel
theorem dX4_readingOf_7 : decode cX4_readingOf 7 = .ok (.iconst 0, 1) := by decide +kernel
theorem dX4_readingOf_8 : decode cX4_readingOf 8 = .ok (.istore_n 2, 1) := by decide +kernel
theorem dX4_readingOf_9 : decode cX4_readingOf 9 = .ok (.iload_n 2, 1) := by decide +kernel
theorem dX4_readingOf_10 : decode cX4_readingOf 10 = .ok (.bipush 10, 2) := by decide +kernel
theorem dX4_readingOf_12 : decode cX4_readingOf 12 = .ok (.if_icmp .ge 23, 3) := by decide +kernel
theorem dX4_readingOf_15 : decode cX4_readingOf 15 = .ok (.aload_n 0, 1) := by decide +kernel
theorem dX4_readingOf_16 : decode cX4_readingOf 16 = .ok (.getfield 41, 3) := by decide +kernel
theorem dX4_readingOf_19 : decode cX4_readingOf 19 = .ok (.iload_n 2, 1) := by decide +kernel
theorem dX4_readingOf_20 : decode cX4_readingOf 20 = .ok (.invokestatic 111, 3) := by decide +kernel
theorem dX4_readingOf_23 : decode cX4_readingOf 23 = .ok (.iload_n 1, 1) := by decide +kernel
theorem dX4_readingOf_24 : decode cX4_readingOf 24 = .ok (.if_icmp .ne 5, 3) := by decide +kernel
theorem dX4_readingOf_27 : decode cX4_readingOf 27 = .ok (.iload_n 2, 1) := by decide +kernel
theorem dX4_readingOf_28 : decode cX4_readingOf 28 = .ok (.ireturn, 1) := by decide +kernel
theorem dX4_readingOf_29 : decode cX4_readingOf 29 = .ok (.iinc 2 1, 3) := by decide +kernel
theorem dX4_readingOf_32 : decode cX4_readingOf 32 = .ok (.goto (-23), 3) := by decide +kernel
theorem dX4_readingOf_35 : decode cX4_readingOf 35 = .ok (.iconst (-1), 1) := by decide +kernel
theorem dX4_readingOf_36 : decode cX4_readingOf 36 = .ok (.ireturn, 1) := by decide +kernel
theorem dX4_swapColumns_0 : decode cX4_swapColumns 0 = .ok (.iload_n 0, 1) := by decide +kernel
theorem dX4_swapColumns_1 : decode cX4_swapColumns 1 = .ok (.bipush 7, 2) := by decide +kernel
theorem dX4_swapColumns_3 : decode cX4_swapColumns 3 = .ok (.iand, 1) := by decide +kernel
theorem dX4_swapColumns_4 : decode cX4_swapColumns 4 = .ok (.iconst 3, 1) := by decide +kernel
theorem dX4_swapColumns_5 : decode cX4_swapColumns 5 = .ok (.ishl, 1) := by decide +kernel
theorem dX4_swapColumns_6 : decode cX4_swapColumns 6 = .ok (.iload_n 0, 1) := by decide +kernel
theorem dX4_swapColumns_7 : decode cX4_swapColumns 7 = .ok (.iconst 3, 1) := by decide +kernel
theorem dX4_swapColumns_8 : decode cX4_swapColumns 8 = .ok (.ishr, 1) := by decide +kernel
theorem dX4_swapColumns_9 : decode cX4_swapColumns 9 = .ok (.bipush 7, 2) := by decide +kernel
theorem dX4_swapColumns_11 : decode cX4_swapColumns 11 = .ok (.iand, 1) := by decide +kernel
theorem dX4_swapColumns_12 : decode cX4_swapColumns 12 = .ok (.ior, 1) := by decide +kernel
theorem dX4_swapColumns_13 : decode cX4_swapColumns 13 = .ok (.ireturn, 1) := by decide +kernel
theorem dX4_cellsOfLetters_0 : decode cX4_cellsOfLetters 0 = .ok (.iconst 0, 1) := by decide +kernel
theorem dX4_cellsOfLetters_1 : decode cX4_cellsOfLetters 1 = .ok (.istore_n 1, 1) := by decide +kernel
theorem dX4_cellsOfLetters_2 : decode cX4_cellsOfLetters 2 = .ok (.iconst 0, 1) := by decide +kernel
theorem dX4_cellsOfLetters_3 : decode cX4_cellsOfLetters 3 = .ok (.istore_n 2, 1) := by decide +kernel
theorem dX4_cellsOfLetters_4 : decode cX4_cellsOfLetters 4 = .ok (.iload_n 2, 1) := by decide +kernel
theorem dX4_cellsOfLetters_5 : decode cX4_cellsOfLetters 5 = .ok (.aload_n 0, 1) := by decide +kernel
theorem dX4_cellsOfLetters_6 : decode cX4_cellsOfLetters 6 = .ok (.getfield 152, 3) := by decide +kernel
theorem dX4_cellsOfLetters_9 : decode cX4_cellsOfLetters 9 = .ok (.if_icmp .ge 33, 3) := by decide +kernel
theorem dX4_cellsOfLetters_12 : decode cX4_cellsOfLetters 12 = .ok (.aload_n 0, 1) := by decide +kernel
theorem dX4_cellsOfLetters_13 : decode cX4_cellsOfLetters 13 = .ok (.aload_n 0, 1) := by decide +kernel
theorem dX4_cellsOfLetters_14 : decode cX4_cellsOfLetters 14 = .ok (.getfield 44, 3) := by decide +kernel
theorem dX4_cellsOfLetters_17 : decode cX4_cellsOfLetters 17 = .ok (.iload_n 2, 1) := by decide +kernel
theorem dX4_cellsOfLetters_18 : decode cX4_cellsOfLetters 18 = .ok (.invokestatic 111, 3) := by decide +kernel
theorem dX4_cellsOfLetters_21 : decode cX4_cellsOfLetters 21 = .ok (.invokevirtual 149, 3) := by decide +kernel
theorem dX4_cellsOfLetters_24 : decode cX4_cellsOfLetters 24 = .ok (.iconst 0, 1) := by decide +kernel
theorem dX4_cellsOfLetters_25 : decode cX4_cellsOfLetters 25 = .ok (.bipush 9, 2) := by decide +kernel
theorem dX4_cellsOfLetters_27 : decode cX4_cellsOfLetters 27 = .ok (.invokestatic 83, 3) := by decide +kernel
theorem dX4_cellsOfLetters_30 : decode cX4_cellsOfLetters 30 = .ok (.ifCond .eq 6, 3) := by decide +kernel
theorem dX4_cellsOfLetters_33 : decode cX4_cellsOfLetters 33 = .ok (.iinc 1 1, 3) := by decide +kernel
theorem dX4_cellsOfLetters_36 : decode cX4_cellsOfLetters 36 = .ok (.iinc 2 1, 3) := by decide +kernel
theorem dX4_cellsOfLetters_39 : decode cX4_cellsOfLetters 39 = .ok (.goto (-35), 3) := by decide +kernel
theorem dX4_cellsOfLetters_42 : decode cX4_cellsOfLetters 42 = .ok (.iload_n 1, 1) := by decide +kernel
theorem dX4_cellsOfLetters_43 : decode cX4_cellsOfLetters 43 = .ok (.ireturn, 1) := by decide +kernel
theorem dX4_signOf_0 : decode cX4_signOf 0 = .ok (.aload_n 0, 1) := by decide +kernel
theorem dX4_signOf_1 : decode cX4_signOf 1 = .ok (.getfield 41, 3) := by decide +kernel
theorem dX4_signOf_4 : decode cX4_signOf 4 = .ok (.aload_n 0, 1) := by decide +kernel
theorem dX4_signOf_5 : decode cX4_signOf 5 = .ok (.getfield 21, 3) := by decide +kernel
theorem dX4_signOf_8 : decode cX4_signOf 8 = .ok (.iload_n 1, 1) := by decide +kernel
theorem dX4_signOf_9 : decode cX4_signOf 9 = .ok (.iload_n 2, 1) := by decide +kernel
theorem dX4_signOf_10 : decode cX4_signOf 10 = .ok (.invokevirtual 340, 3) := by decide +kernel
theorem dX4_signOf_13 : decode cX4_signOf 13 = .ok (.invokestatic 111, 3) := by decide +kernel
theorem dX4_signOf_16 : decode cX4_signOf 16 = .ok (.ireturn, 1) := by decide +kernel
theorem dX4_wordsBothWays_0 : decode cX4_wordsBothWays 0 = .ok (.iconst 0, 1) := by decide +kernel
theorem dX4_wordsBothWays_1 : decode cX4_wordsBothWays 1 = .ok (.istore_n 1, 1) := by decide +kernel
theorem dX4_wordsBothWays_2 : decode cX4_wordsBothWays 2 = .ok (.iconst 0, 1) := by decide +kernel
theorem dX4_wordsBothWays_3 : decode cX4_wordsBothWays 3 = .ok (.istore_n 2, 1) := by decide +kernel
theorem dX4_wordsBothWays_4 : decode cX4_wordsBothWays 4 = .ok (.iload_n 2, 1) := by decide +kernel
theorem dX4_wordsBothWays_5 : decode cX4_wordsBothWays 5 = .ok (.aload_n 0, 1) := by decide +kernel
theorem dX4_wordsBothWays_6 : decode cX4_wordsBothWays 6 = .ok (.getfield 21, 3) := by decide +kernel
theorem dX4_wordsBothWays_9 : decode cX4_wordsBothWays 9 = .ok (.getfield 174, 3) := by decide +kernel
theorem dX4_wordsBothWays_12 : decode cX4_wordsBothWays 12 = .ok (.if_icmp .ge 24, 3) := by decide +kernel
theorem dX4_wordsBothWays_15 : decode cX4_wordsBothWays 15 = .ok (.aload_n 0, 1) := by decide +kernel
theorem dX4_wordsBothWays_16 : decode cX4_wordsBothWays 16 = .ok (.iload_n 2, 1) := by decide +kernel
theorem dX4_wordsBothWays_17 : decode cX4_wordsBothWays 17 = .ok (.invokevirtual 164, 3) := by decide +kernel
theorem dX4_wordsBothWays_20 : decode cX4_wordsBothWays 20 = .ok (.iconst (-1), 1) := by decide +kernel
theorem dX4_wordsBothWays_21 : decode cX4_wordsBothWays 21 = .ok (.if_icmp .eq 9, 3) := by decide +kernel
theorem dX4_wordsBothWays_24 : decode cX4_wordsBothWays 24 = .ok (.iload_n 1, 1) := by decide +kernel
theorem dX4_wordsBothWays_25 : decode cX4_wordsBothWays 25 = .ok (.iconst 1, 1) := by decide +kernel
theorem dX4_wordsBothWays_26 : decode cX4_wordsBothWays 26 = .ok (.iload_n 2, 1) := by decide +kernel
theorem dX4_wordsBothWays_27 : decode cX4_wordsBothWays 27 = .ok (.ishl, 1) := by decide +kernel
theorem dX4_wordsBothWays_28 : decode cX4_wordsBothWays 28 = .ok (.ior, 1) := by decide +kernel
theorem dX4_wordsBothWays_29 : decode cX4_wordsBothWays 29 = .ok (.istore_n 1, 1) := by decide +kernel
theorem dX4_wordsBothWays_30 : decode cX4_wordsBothWays 30 = .ok (.iinc 2 1, 3) := by decide +kernel
theorem dX4_wordsBothWays_33 : decode cX4_wordsBothWays 33 = .ok (.goto (-29), 3) := by decide +kernel
theorem dX4_wordsBothWays_36 : decode cX4_wordsBothWays 36 = .ok (.iload_n 1, 1) := by decide +kernel
theorem dX4_wordsBothWays_37 : decode cX4_wordsBothWays 37 = .ok (.ireturn, 1) := by decide +kernel
theorem dX4_wordFromBehind_0 : decode cX4_wordFromBehind 0 = .ok (.iconst 0, 1) := by decide +kernel
theorem dX4_wordFromBehind_1 : decode cX4_wordFromBehind 1 = .ok (.istore_n 2, 1) := by decide +kernel
theorem dX4_wordFromBehind_2 : decode cX4_wordFromBehind 2 = .ok (.iload_n 2, 1) := by decide +kernel
theorem dX4_wordFromBehind_3 : decode cX4_wordFromBehind 3 = .ok (.aload_n 0, 1) := by decide +kernel
theorem dX4_wordFromBehind_4 : decode cX4_wordFromBehind 4 = .ok (.getfield 21, 3) := by decide +kernel
theorem dX4_wordFromBehind_7 : decode cX4_wordFromBehind 7 = .ok (.getfield 174, 3) := by decide +kernel
theorem dX4_wordFromBehind_10 : decode cX4_wordFromBehind 10 = .ok (.if_icmp .ge 20, 3) := by decide +kernel
theorem dX4_wordFromBehind_13 : decode cX4_wordFromBehind 13 = .ok (.aload_n 0, 1) := by decide +kernel
theorem dX4_wordFromBehind_14 : decode cX4_wordFromBehind 14 = .ok (.iload_n 1, 1) := by decide +kernel
theorem dX4_wordFromBehind_15 : decode cX4_wordFromBehind 15 = .ok (.iload_n 2, 1) := by decide +kernel
theorem dX4_wordFromBehind_16 : decode cX4_wordFromBehind 16 = .ok (.invokevirtual 343, 3) := by decide +kernel
theorem dX4_wordFromBehind_19 : decode cX4_wordFromBehind 19 = .ok (.ifCond .eq 5, 3) := by decide +kernel
theorem dX4_wordFromBehind_22 : decode cX4_wordFromBehind 22 = .ok (.iload_n 2, 1) := by decide +kernel
theorem dX4_wordFromBehind_23 : decode cX4_wordFromBehind 23 = .ok (.ireturn, 1) := by decide +kernel
theorem dX4_wordFromBehind_24 : decode cX4_wordFromBehind 24 = .ok (.iinc 2 1, 3) := by decide +kernel
theorem dX4_wordFromBehind_27 : decode cX4_wordFromBehind 27 = .ok (.goto (-25), 3) := by decide +kernel
theorem dX4_wordFromBehind_30 : decode cX4_wordFromBehind 30 = .ok (.iconst (-1), 1) := by decide +kernel
theorem dX4_wordFromBehind_31 : decode cX4_wordFromBehind 31 = .ok (.ireturn, 1) := by decide +kernel
theorem dX4_isReadFromBehindAs_0 : decode cX4_isReadFromBehindAs 0 = .ok (.aload_n 0, 1) := by decide +kernel
theorem dX4_isReadFromBehindAs_1 : decode cX4_isReadFromBehindAs 1 = .ok (.getfield 21, 3) := by decide +kernel
theorem dX4_isReadFromBehindAs_4 : decode cX4_isReadFromBehindAs 4 = .ok (.iload_n 1, 1) := by decide +kernel
theorem dX4_isReadFromBehindAs_5 : decode cX4_isReadFromBehindAs 5 = .ok (.invokevirtual 346, 3) := by decide +kernel
theorem dX4_isReadFromBehindAs_8 : decode cX4_isReadFromBehindAs 8 = .ok (.istore_n 3, 1) := by decide +kernel
theorem dX4_isReadFromBehindAs_9 : decode cX4_isReadFromBehindAs 9 = .ok (.aload_n 0, 1) := by decide +kernel
theorem dX4_isReadFromBehindAs_10 : decode cX4_isReadFromBehindAs 10 = .ok (.getfield 21, 3) := by decide +kernel
theorem dX4_isReadFromBehindAs_13 : decode cX4_isReadFromBehindAs 13 = .ok (.iload_n 2, 1) := by decide +kernel
theorem dX4_isReadFromBehindAs_14 : decode cX4_isReadFromBehindAs 14 = .ok (.invokevirtual 346, 3) := by decide +kernel
theorem dX4_isReadFromBehindAs_17 : decode cX4_isReadFromBehindAs 17 = .ok (.iload_n 3, 1) := by decide +kernel
theorem dX4_isReadFromBehindAs_18 : decode cX4_isReadFromBehindAs 18 = .ok (.if_icmp .eq 5, 3) := by decide +kernel
theorem dX4_isReadFromBehindAs_21 : decode cX4_isReadFromBehindAs 21 = .ok (.iconst 0, 1) := by decide +kernel
theorem dX4_isReadFromBehindAs_22 : decode cX4_isReadFromBehindAs 22 = .ok (.ireturn, 1) := by decide +kernel
theorem dX4_isReadFromBehindAs_23 : decode cX4_isReadFromBehindAs 23 = .ok (.iconst 0, 1) := by decide +kernel
theorem dX4_isReadFromBehindAs_24 : decode cX4_isReadFromBehindAs 24 = .ok (.istore 4, 2) := by decide +kernel
theorem dX4_isReadFromBehindAs_26 : decode cX4_isReadFromBehindAs 26 = .ok (.iload 4, 2) := by decide +kernel
theorem dX4_isReadFromBehindAs_28 : decode cX4_isReadFromBehindAs 28 = .ok (.iload_n 3, 1) := by decide +kernel
theorem dX4_isReadFromBehindAs_29 : decode cX4_isReadFromBehindAs 29 = .ok (.if_icmp .ge 42, 3) := by decide +kernel
theorem dX4_isReadFromBehindAs_32 : decode cX4_isReadFromBehindAs 32 = .ok (.aload_n 0, 1) := by decide +kernel
theorem dX4_isReadFromBehindAs_33 : decode cX4_isReadFromBehindAs 33 = .ok (.aload_n 0, 1) := by decide +kernel
theorem dX4_isReadFromBehindAs_34 : decode cX4_isReadFromBehindAs 34 = .ok (.iload_n 1, 1) := by decide +kernel
theorem dX4_isReadFromBehindAs_35 : decode cX4_isReadFromBehindAs 35 = .ok (.iload_n 3, 1) := by decide +kernel
theorem dX4_isReadFromBehindAs_36 : decode cX4_isReadFromBehindAs 36 = .ok (.iconst 1, 1) := by decide +kernel
theorem dX4_isReadFromBehindAs_37 : decode cX4_isReadFromBehindAs 37 = .ok (.isub, 1) := by decide +kernel
theorem dX4_isReadFromBehindAs_38 : decode cX4_isReadFromBehindAs 38 = .ok (.iload 4, 2) := by decide +kernel
theorem dX4_isReadFromBehindAs_40 : decode cX4_isReadFromBehindAs 40 = .ok (.isub, 1) := by decide +kernel
theorem dX4_isReadFromBehindAs_41 : decode cX4_isReadFromBehindAs 41 = .ok (.invokevirtual 349, 3) := by decide +kernel
theorem dX4_isReadFromBehindAs_44 : decode cX4_isReadFromBehindAs 44 = .ok (.invokestatic 155, 3) := by decide +kernel
theorem dX4_isReadFromBehindAs_47 : decode cX4_isReadFromBehindAs 47 = .ok (.invokevirtual 149, 3) := by decide +kernel
theorem dX4_isReadFromBehindAs_50 : decode cX4_isReadFromBehindAs 50 = .ok (.aload_n 0, 1) := by decide +kernel
theorem dX4_isReadFromBehindAs_51 : decode cX4_isReadFromBehindAs 51 = .ok (.getfield 21, 3) := by decide +kernel
theorem dX4_isReadFromBehindAs_54 : decode cX4_isReadFromBehindAs 54 = .ok (.iload_n 2, 1) := by decide +kernel
theorem dX4_isReadFromBehindAs_55 : decode cX4_isReadFromBehindAs 55 = .ok (.iload 4, 2) := by decide +kernel
theorem dX4_isReadFromBehindAs_57 : decode cX4_isReadFromBehindAs 57 = .ok (.invokevirtual 340, 3) := by decide +kernel
theorem dX4_isReadFromBehindAs_60 : decode cX4_isReadFromBehindAs 60 = .ok (.if_icmp .eq 5, 3) := by decide +kernel
theorem dX4_isReadFromBehindAs_63 : decode cX4_isReadFromBehindAs 63 = .ok (.iconst 0, 1) := by decide +kernel
theorem dX4_isReadFromBehindAs_64 : decode cX4_isReadFromBehindAs 64 = .ok (.ireturn, 1) := by decide +kernel
theorem dX4_isReadFromBehindAs_65 : decode cX4_isReadFromBehindAs 65 = .ok (.iinc 4 1, 3) := by decide +kernel
theorem dX4_isReadFromBehindAs_68 : decode cX4_isReadFromBehindAs 68 = .ok (.goto (-42), 3) := by decide +kernel
theorem dX4_isReadFromBehindAs_71 : decode cX4_isReadFromBehindAs 71 = .ok (.iconst 1, 1) := by decide +kernel
theorem dX4_isReadFromBehindAs_72 : decode cX4_isReadFromBehindAs 72 = .ok (.ireturn, 1) := by decide +kernel
theorem dX4_hasCellsFor_0 : decode cX4_hasCellsFor 0 = .ok (.iload_n 2, 1) := by decide +kernel
theorem dX4_hasCellsFor_1 : decode cX4_hasCellsFor 1 = .ok (.ifCond .lt 24, 3) := by decide +kernel
theorem dX4_hasCellsFor_4 : decode cX4_hasCellsFor 4 = .ok (.iload_n 2, 1) := by decide +kernel
theorem dX4_hasCellsFor_5 : decode cX4_hasCellsFor 5 = .ok (.aload_n 0, 1) := by decide +kernel
theorem dX4_hasCellsFor_6 : decode cX4_hasCellsFor 6 = .ok (.getfield 152, 3) := by decide +kernel
theorem dX4_hasCellsFor_9 : decode cX4_hasCellsFor 9 = .ok (.aload_n 0, 1) := by decide +kernel
theorem dX4_hasCellsFor_10 : decode cX4_hasCellsFor 10 = .ok (.getfield 21, 3) := by decide +kernel
theorem dX4_hasCellsFor_13 : decode cX4_hasCellsFor 13 = .ok (.iload_n 1, 1) := by decide +kernel
theorem dX4_hasCellsFor_14 : decode cX4_hasCellsFor 14 = .ok (.invokevirtual 346, 3) := by decide +kernel
theorem dX4_hasCellsFor_17 : decode cX4_hasCellsFor 17 = .ok (.isub, 1) := by decide +kernel
theorem dX4_hasCellsFor_18 : decode cX4_hasCellsFor 18 = .ok (.if_icmp .gt 7, 3) := by decide +kernel
theorem dX4_hasCellsFor_21 : decode cX4_hasCellsFor 21 = .ok (.iconst 1, 1) := by decide +kernel
theorem dX4_hasCellsFor_22 : decode cX4_hasCellsFor 22 = .ok (.goto 4, 3) := by decide +kernel
theorem dX4_hasCellsFor_25 : decode cX4_hasCellsFor 25 = .ok (.iconst 0, 1) := by decide +kernel
theorem dX4_hasCellsFor_26 : decode cX4_hasCellsFor 26 = .ok (.ireturn, 1) := by decide +kernel
theorem dX4_costAt_0 : decode cX4_costAt 0 = .ok (.aload_n 0, 1) := by decide +kernel
theorem dX4_costAt_1 : decode cX4_costAt 1 = .ok (.iload_n 1, 1) := by decide +kernel
theorem dX4_costAt_2 : decode cX4_costAt 2 = .ok (.iload_n 2, 1) := by decide +kernel
theorem dX4_costAt_3 : decode cX4_costAt 3 = .ok (.invokevirtual 352, 3) := by decide +kernel
theorem dX4_costAt_6 : decode cX4_costAt 6 = .ok (.ifCond .ne 5, 3) := by decide +kernel
theorem dX4_costAt_9 : decode cX4_costAt 9 = .ok (.iconst (-1), 1) := by decide +kernel
theorem dX4_costAt_10 : decode cX4_costAt 10 = .ok (.ireturn, 1) := by decide +kernel
theorem dX4_costAt_11 : decode cX4_costAt 11 = .ok (.iconst 0, 1) := by decide +kernel
theorem dX4_costAt_12 : decode cX4_costAt 12 = .ok (.istore_n 3, 1) := by decide +kernel
theorem dX4_costAt_13 : decode cX4_costAt 13 = .ok (.iconst 0, 1) := by decide +kernel
theorem dX4_costAt_14 : decode cX4_costAt 14 = .ok (.istore 4, 2) := by decide +kernel
theorem dX4_costAt_16 : decode cX4_costAt 16 = .ok (.iload 4, 2) := by decide +kernel
theorem dX4_costAt_18 : decode cX4_costAt 18 = .ok (.aload_n 0, 1) := by decide +kernel
theorem dX4_costAt_19 : decode cX4_costAt 19 = .ok (.getfield 21, 3) := by decide +kernel
theorem dX4_costAt_22 : decode cX4_costAt 22 = .ok (.iload_n 1, 1) := by decide +kernel
theorem dX4_costAt_23 : decode cX4_costAt 23 = .ok (.invokevirtual 346, 3) := by decide +kernel
theorem dX4_costAt_26 : decode cX4_costAt 26 = .ok (.if_icmp .ge 65, 3) := by decide +kernel
theorem dX4_costAt_29 : decode cX4_costAt 29 = .ok (.aload_n 0, 1) := by decide +kernel
theorem dX4_costAt_30 : decode cX4_costAt 30 = .ok (.iload_n 1, 1) := by decide +kernel
theorem dX4_costAt_31 : decode cX4_costAt 31 = .ok (.iload 4, 2) := by decide +kernel
theorem dX4_costAt_33 : decode cX4_costAt 33 = .ok (.invokevirtual 349, 3) := by decide +kernel
theorem dX4_costAt_36 : decode cX4_costAt 36 = .ok (.istore 5, 2) := by decide +kernel
theorem dX4_costAt_38 : decode cX4_costAt 38 = .ok (.aload_n 0, 1) := by decide +kernel
theorem dX4_costAt_39 : decode cX4_costAt 39 = .ok (.getfield 44, 3) := by decide +kernel
theorem dX4_costAt_42 : decode cX4_costAt 42 = .ok (.iload_n 2, 1) := by decide +kernel
theorem dX4_costAt_43 : decode cX4_costAt 43 = .ok (.iload 4, 2) := by decide +kernel
theorem dX4_costAt_45 : decode cX4_costAt 45 = .ok (.iadd, 1) := by decide +kernel
theorem dX4_costAt_46 : decode cX4_costAt 46 = .ok (.invokestatic 111, 3) := by decide +kernel
theorem dX4_costAt_49 : decode cX4_costAt 49 = .ok (.istore 6, 2) := by decide +kernel
theorem dX4_costAt_51 : decode cX4_costAt 51 = .ok (.iload_n 3, 1) := by decide +kernel
theorem dX4_costAt_52 : decode cX4_costAt 52 = .ok (.aload_n 0, 1) := by decide +kernel
theorem dX4_costAt_53 : decode cX4_costAt 53 = .ok (.getfield 47, 3) := by decide +kernel
theorem dX4_costAt_56 : decode cX4_costAt 56 = .ok (.iload 5, 2) := by decide +kernel
theorem dX4_costAt_58 : decode cX4_costAt 58 = .ok (.iload 6, 2) := by decide +kernel
theorem dX4_costAt_60 : decode cX4_costAt 60 = .ok (.iconst (-1), 1) := by decide +kernel
theorem dX4_costAt_61 : decode cX4_costAt 61 = .ok (.ixor, 1) := by decide +kernel
theorem dX4_costAt_62 : decode cX4_costAt 62 = .ok (.iand, 1) := by decide +kernel
theorem dX4_costAt_63 : decode cX4_costAt 63 = .ok (.invokestatic 182, 3) := by decide +kernel
theorem dX4_costAt_66 : decode cX4_costAt 66 = .ok (.imul, 1) := by decide +kernel
theorem dX4_costAt_67 : decode cX4_costAt 67 = .ok (.aload_n 0, 1) := by decide +kernel
theorem dX4_costAt_68 : decode cX4_costAt 68 = .ok (.getfield 51, 3) := by decide +kernel
theorem dX4_costAt_71 : decode cX4_costAt 71 = .ok (.iload 6, 2) := by decide +kernel
theorem dX4_costAt_73 : decode cX4_costAt 73 = .ok (.iload 5, 2) := by decide +kernel
theorem dX4_costAt_75 : decode cX4_costAt 75 = .ok (.iconst (-1), 1) := by decide +kernel
theorem dX4_costAt_76 : decode cX4_costAt 76 = .ok (.ixor, 1) := by decide +kernel
theorem dX4_costAt_77 : decode cX4_costAt 77 = .ok (.iand, 1) := by decide +kernel
theorem dX4_costAt_78 : decode cX4_costAt 78 = .ok (.invokestatic 182, 3) := by decide +kernel
theorem dX4_costAt_81 : decode cX4_costAt 81 = .ok (.imul, 1) := by decide +kernel
theorem dX4_costAt_82 : decode cX4_costAt 82 = .ok (.iadd, 1) := by decide +kernel
theorem dX4_costAt_83 : decode cX4_costAt 83 = .ok (.iadd, 1) := by decide +kernel
theorem dX4_costAt_84 : decode cX4_costAt 84 = .ok (.istore_n 3, 1) := by decide +kernel
theorem dX4_costAt_85 : decode cX4_costAt 85 = .ok (.iinc 4 1, 3) := by decide +kernel
theorem dX4_costAt_88 : decode cX4_costAt 88 = .ok (.goto (-72), 3) := by decide +kernel
theorem dX4_costAt_91 : decode cX4_costAt 91 = .ok (.iload_n 3, 1) := by decide +kernel
theorem dX4_costAt_92 : decode cX4_costAt 92 = .ok (.ireturn, 1) := by decide +kernel
theorem dX4_cheapestAt_0 : decode cX4_cheapestAt 0 = .ok (.iconst (-1), 1) := by decide +kernel
theorem dX4_cheapestAt_1 : decode cX4_cheapestAt 1 = .ok (.istore_n 2, 1) := by decide +kernel
theorem dX4_cheapestAt_2 : decode cX4_cheapestAt 2 = .ok (.iconst 0, 1) := by decide +kernel
theorem dX4_cheapestAt_3 : decode cX4_cheapestAt 3 = .ok (.istore_n 3, 1) := by decide +kernel
theorem dX4_cheapestAt_4 : decode cX4_cheapestAt 4 = .ok (.iconst 0, 1) := by decide +kernel
theorem dX4_cheapestAt_5 : decode cX4_cheapestAt 5 = .ok (.istore 4, 2) := by decide +kernel
theorem dX4_cheapestAt_7 : decode cX4_cheapestAt 7 = .ok (.iload 4, 2) := by decide +kernel
theorem dX4_cheapestAt_9 : decode cX4_cheapestAt 9 = .ok (.aload_n 0, 1) := by decide +kernel
theorem dX4_cheapestAt_10 : decode cX4_cheapestAt 10 = .ok (.getfield 21, 3) := by decide +kernel
theorem dX4_cheapestAt_13 : decode cX4_cheapestAt 13 = .ok (.getfield 174, 3) := by decide +kernel
theorem dX4_cheapestAt_16 : decode cX4_cheapestAt 16 = .ok (.if_icmp .ge 82, 3) := by decide +kernel
theorem dX4_cheapestAt_19 : decode cX4_cheapestAt 19 = .ok (.aload_n 0, 1) := by decide +kernel
theorem dX4_cheapestAt_20 : decode cX4_cheapestAt 20 = .ok (.iload 4, 2) := by decide +kernel
theorem dX4_cheapestAt_22 : decode cX4_cheapestAt 22 = .ok (.iload_n 1, 1) := by decide +kernel
theorem dX4_cheapestAt_23 : decode cX4_cheapestAt 23 = .ok (.invokevirtual 167, 3) := by decide +kernel
theorem dX4_cheapestAt_26 : decode cX4_cheapestAt 26 = .ok (.istore 5, 2) := by decide +kernel
theorem dX4_cheapestAt_28 : decode cX4_cheapestAt 28 = .ok (.iload 5, 2) := by decide +kernel
theorem dX4_cheapestAt_30 : decode cX4_cheapestAt 30 = .ok (.iconst (-1), 1) := by decide +kernel
theorem dX4_cheapestAt_31 : decode cX4_cheapestAt 31 = .ok (.if_icmp .ne 6, 3) := by decide +kernel
theorem dX4_cheapestAt_34 : decode cX4_cheapestAt 34 = .ok (.goto 58, 3) := by decide +kernel
theorem dX4_cheapestAt_37 : decode cX4_cheapestAt 37 = .ok (.iload 5, 2) := by decide +kernel
theorem dX4_cheapestAt_39 : decode cX4_cheapestAt 39 = .ok (.iload_n 3, 1) := by decide +kernel
theorem dX4_cheapestAt_40 : decode cX4_cheapestAt 40 = .ok (.if_icmp .ne 27, 3) := by decide +kernel
theorem dX4_cheapestAt_43 : decode cX4_cheapestAt 43 = .ok (.aload_n 0, 1) := by decide +kernel
theorem dX4_cheapestAt_44 : decode cX4_cheapestAt 44 = .ok (.getfield 21, 3) := by decide +kernel
theorem dX4_cheapestAt_47 : decode cX4_cheapestAt 47 = .ok (.iload 4, 2) := by decide +kernel
theorem dX4_cheapestAt_49 : decode cX4_cheapestAt 49 = .ok (.invokevirtual 346, 3) := by decide +kernel
theorem dX4_cheapestAt_52 : decode cX4_cheapestAt 52 = .ok (.aload_n 0, 1) := by decide +kernel
theorem dX4_cheapestAt_53 : decode cX4_cheapestAt 53 = .ok (.getfield 21, 3) := by decide +kernel
theorem dX4_cheapestAt_56 : decode cX4_cheapestAt 56 = .ok (.iload_n 2, 1) := by decide +kernel
theorem dX4_cheapestAt_57 : decode cX4_cheapestAt 57 = .ok (.invokevirtual 346, 3) := by decide +kernel
theorem dX4_cheapestAt_60 : decode cX4_cheapestAt 60 = .ok (.if_icmp .le 7, 3) := by decide +kernel
theorem dX4_cheapestAt_63 : decode cX4_cheapestAt 63 = .ok (.iconst 1, 1) := by decide +kernel
theorem dX4_cheapestAt_64 : decode cX4_cheapestAt 64 = .ok (.goto 4, 3) := by decide +kernel
theorem dX4_cheapestAt_67 : decode cX4_cheapestAt 67 = .ok (.iconst 0, 1) := by decide +kernel
theorem dX4_cheapestAt_68 : decode cX4_cheapestAt 68 = .ok (.istore 6, 2) := by decide +kernel
theorem dX4_cheapestAt_70 : decode cX4_cheapestAt 70 = .ok (.iload_n 2, 1) := by decide +kernel
theorem dX4_cheapestAt_71 : decode cX4_cheapestAt 71 = .ok (.iconst (-1), 1) := by decide +kernel
theorem dX4_cheapestAt_72 : decode cX4_cheapestAt 72 = .ok (.if_icmp .eq 14, 3) := by decide +kernel
theorem dX4_cheapestAt_75 : decode cX4_cheapestAt 75 = .ok (.iload 5, 2) := by decide +kernel
theorem dX4_cheapestAt_77 : decode cX4_cheapestAt 77 = .ok (.iload_n 3, 1) := by decide +kernel
theorem dX4_cheapestAt_78 : decode cX4_cheapestAt 78 = .ok (.if_icmp .lt 8, 3) := by decide +kernel
theorem dX4_cheapestAt_81 : decode cX4_cheapestAt 81 = .ok (.iload 6, 2) := by decide +kernel
theorem dX4_cheapestAt_83 : decode cX4_cheapestAt 83 = .ok (.ifCond .eq 9, 3) := by decide +kernel
theorem dX4_cheapestAt_86 : decode cX4_cheapestAt 86 = .ok (.iload 4, 2) := by decide +kernel
theorem dX4_cheapestAt_88 : decode cX4_cheapestAt 88 = .ok (.istore_n 2, 1) := by decide +kernel
theorem dX4_cheapestAt_89 : decode cX4_cheapestAt 89 = .ok (.iload 5, 2) := by decide +kernel
theorem dX4_cheapestAt_91 : decode cX4_cheapestAt 91 = .ok (.istore_n 3, 1) := by decide +kernel
theorem dX4_cheapestAt_92 : decode cX4_cheapestAt 92 = .ok (.iinc 4 1, 3) := by decide +kernel
theorem dX4_cheapestAt_95 : decode cX4_cheapestAt 95 = .ok (.goto (-88), 3) := by decide +kernel
theorem dX4_cheapestAt_98 : decode cX4_cheapestAt 98 = .ok (.iload_n 2, 1) := by decide +kernel
theorem dX4_cheapestAt_99 : decode cX4_cheapestAt 99 = .ok (.ireturn, 1) := by decide +kernel
theorem dX4_bestLine_0 : decode cX4_bestLine 0 = .ok (.aload_n 0, 1) := by decide +kernel
theorem dX4_bestLine_1 : decode cX4_bestLine 1 = .ok (.getfield 76, 3) := by decide +kernel
theorem dX4_bestLine_4 : decode cX4_bestLine 4 = .ok (.aload_n 0, 1) := by decide +kernel
theorem dX4_bestLine_5 : decode cX4_bestLine 5 = .ok (.getfield 152, 3) := by decide +kernel
theorem dX4_bestLine_8 : decode cX4_bestLine 8 = .ok (.iconst 0, 1) := by decide +kernel
theorem dX4_bestLine_9 : decode cX4_bestLine 9 = .ok (.invokestatic 115, 3) := by decide +kernel
theorem dX4_bestLine_12 : decode cX4_bestLine 12 = .ok (.aload_n 0, 1) := by decide +kernel
theorem dX4_bestLine_13 : decode cX4_bestLine 13 = .ok (.getfield 152, 3) := by decide +kernel
theorem dX4_bestLine_16 : decode cX4_bestLine 16 = .ok (.iconst 1, 1) := by decide +kernel
theorem dX4_bestLine_17 : decode cX4_bestLine 17 = .ok (.isub, 1) := by decide +kernel
theorem dX4_bestLine_18 : decode cX4_bestLine 18 = .ok (.istore_n 1, 1) := by decide +kernel
theorem dX4_bestLine_19 : decode cX4_bestLine 19 = .ok (.iload_n 1, 1) := by decide +kernel
theorem dX4_bestLine_20 : decode cX4_bestLine 20 = .ok (.ifCond .lt 88, 3) := by decide +kernel
theorem dX4_bestLine_23 : decode cX4_bestLine 23 = .ok (.aload_n 0, 1) := by decide +kernel
theorem dX4_bestLine_24 : decode cX4_bestLine 24 = .ok (.iload_n 1, 1) := by decide +kernel
theorem dX4_bestLine_25 : decode cX4_bestLine 25 = .ok (.invokevirtual 355, 3) := by decide +kernel
theorem dX4_bestLine_28 : decode cX4_bestLine 28 = .ok (.istore_n 2, 1) := by decide +kernel
theorem dX4_bestLine_29 : decode cX4_bestLine 29 = .ok (.iconst 0, 1) := by decide +kernel
theorem dX4_bestLine_30 : decode cX4_bestLine 30 = .ok (.istore_n 3, 1) := by decide +kernel
theorem dX4_bestLine_31 : decode cX4_bestLine 31 = .ok (.iload_n 3, 1) := by decide +kernel
theorem dX4_bestLine_32 : decode cX4_bestLine 32 = .ok (.aload_n 0, 1) := by decide +kernel
theorem dX4_bestLine_33 : decode cX4_bestLine 33 = .ok (.getfield 21, 3) := by decide +kernel
theorem dX4_bestLine_36 : decode cX4_bestLine 36 = .ok (.getfield 174, 3) := by decide +kernel
theorem dX4_bestLine_39 : decode cX4_bestLine 39 = .ok (.if_icmp .ge 54, 3) := by decide +kernel
theorem dX4_bestLine_42 : decode cX4_bestLine 42 = .ok (.aload_n 0, 1) := by decide +kernel
theorem dX4_bestLine_43 : decode cX4_bestLine 43 = .ok (.iload_n 3, 1) := by decide +kernel
theorem dX4_bestLine_44 : decode cX4_bestLine 44 = .ok (.iload_n 1, 1) := by decide +kernel
theorem dX4_bestLine_45 : decode cX4_bestLine 45 = .ok (.invokevirtual 167, 3) := by decide +kernel
theorem dX4_bestLine_48 : decode cX4_bestLine 48 = .ok (.istore 4, 2) := by decide +kernel
theorem dX4_bestLine_50 : decode cX4_bestLine 50 = .ok (.iload 4, 2) := by decide +kernel
theorem dX4_bestLine_52 : decode cX4_bestLine 52 = .ok (.iconst (-1), 1) := by decide +kernel
theorem dX4_bestLine_53 : decode cX4_bestLine 53 = .ok (.if_icmp .eq 34, 3) := by decide +kernel
theorem dX4_bestLine_56 : decode cX4_bestLine 56 = .ok (.iload 4, 2) := by decide +kernel
theorem dX4_bestLine_58 : decode cX4_bestLine 58 = .ok (.bipush 64, 2) := by decide +kernel
theorem dX4_bestLine_60 : decode cX4_bestLine 60 = .ok (.imul, 1) := by decide +kernel
theorem dX4_bestLine_61 : decode cX4_bestLine 61 = .ok (.iconst 1, 1) := by decide +kernel
theorem dX4_bestLine_62 : decode cX4_bestLine 62 = .ok (.iadd, 1) := by decide +kernel
theorem dX4_bestLine_63 : decode cX4_bestLine 63 = .ok (.aload_n 0, 1) := by decide +kernel
theorem dX4_bestLine_64 : decode cX4_bestLine 64 = .ok (.iload_n 1, 1) := by decide +kernel
theorem dX4_bestLine_65 : decode cX4_bestLine 65 = .ok (.aload_n 0, 1) := by decide +kernel
theorem dX4_bestLine_66 : decode cX4_bestLine 66 = .ok (.getfield 21, 3) := by decide +kernel
theorem dX4_bestLine_69 : decode cX4_bestLine 69 = .ok (.iload_n 3, 1) := by decide +kernel
theorem dX4_bestLine_70 : decode cX4_bestLine 70 = .ok (.invokevirtual 346, 3) := by decide +kernel
theorem dX4_bestLine_73 : decode cX4_bestLine 73 = .ok (.iadd, 1) := by decide +kernel
theorem dX4_bestLine_74 : decode cX4_bestLine 74 = .ok (.invokevirtual 355, 3) := by decide +kernel
theorem dX4_bestLine_77 : decode cX4_bestLine 77 = .ok (.iadd, 1) := by decide +kernel
theorem dX4_bestLine_78 : decode cX4_bestLine 78 = .ok (.istore 5, 2) := by decide +kernel
theorem dX4_bestLine_80 : decode cX4_bestLine 80 = .ok (.iload_n 2, 1) := by decide +kernel
theorem dX4_bestLine_81 : decode cX4_bestLine 81 = .ok (.iload 5, 2) := by decide +kernel
theorem dX4_bestLine_83 : decode cX4_bestLine 83 = .ok (.invokestatic 248, 3) := by decide +kernel
theorem dX4_bestLine_86 : decode cX4_bestLine 86 = .ok (.istore_n 2, 1) := by decide +kernel
theorem dX4_bestLine_87 : decode cX4_bestLine 87 = .ok (.iinc 3 1, 3) := by decide +kernel
theorem dX4_bestLine_90 : decode cX4_bestLine 90 = .ok (.goto (-59), 3) := by decide +kernel
theorem dX4_bestLine_93 : decode cX4_bestLine 93 = .ok (.aload_n 0, 1) := by decide +kernel
theorem dX4_bestLine_94 : decode cX4_bestLine 94 = .ok (.getfield 76, 3) := by decide +kernel
theorem dX4_bestLine_97 : decode cX4_bestLine 97 = .ok (.iload_n 1, 1) := by decide +kernel
theorem dX4_bestLine_98 : decode cX4_bestLine 98 = .ok (.iload_n 2, 1) := by decide +kernel
theorem dX4_bestLine_99 : decode cX4_bestLine 99 = .ok (.invokestatic 115, 3) := by decide +kernel
theorem dX4_bestLine_102 : decode cX4_bestLine 102 = .ok (.iinc 1 (-1), 3) := by decide +kernel
theorem dX4_bestLine_105 : decode cX4_bestLine 105 = .ok (.goto (-86), 3) := by decide +kernel
theorem dX4_bestLine_108 : decode cX4_bestLine 108 = .ok (.aload_n 0, 1) := by decide +kernel
theorem dX4_bestLine_109 : decode cX4_bestLine 109 = .ok (.getfield 76, 3) := by decide +kernel
theorem dX4_bestLine_112 : decode cX4_bestLine 112 = .ok (.iconst 0, 1) := by decide +kernel
theorem dX4_bestLine_113 : decode cX4_bestLine 113 = .ok (.invokestatic 111, 3) := by decide +kernel
theorem dX4_bestLine_116 : decode cX4_bestLine 116 = .ok (.ireturn, 1) := by decide +kernel
theorem dX4_bestBehindWord_0 : decode cX4_bestBehindWord 0 = .ok (.iload_n 1, 1) := by decide +kernel
theorem dX4_bestBehindWord_1 : decode cX4_bestBehindWord 1 = .ok (.aload_n 0, 1) := by decide +kernel
theorem dX4_bestBehindWord_2 : decode cX4_bestBehindWord 2 = .ok (.getfield 152, 3) := by decide +kernel
theorem dX4_bestBehindWord_5 : decode cX4_bestBehindWord 5 = .ok (.if_icmp .lt 5, 3) := by decide +kernel
theorem dX4_bestBehindWord_8 : decode cX4_bestBehindWord 8 = .ok (.iconst 0, 1) := by decide +kernel
theorem dX4_bestBehindWord_9 : decode cX4_bestBehindWord 9 = .ok (.ireturn, 1) := by decide +kernel
theorem dX4_bestBehindWord_10 : decode cX4_bestBehindWord 10 = .ok (.aload_n 0, 1) := by decide +kernel
theorem dX4_bestBehindWord_11 : decode cX4_bestBehindWord 11 = .ok (.getfield 51, 3) := by decide +kernel
theorem dX4_bestBehindWord_14 : decode cX4_bestBehindWord 14 = .ok (.aload_n 0, 1) := by decide +kernel
theorem dX4_bestBehindWord_15 : decode cX4_bestBehindWord 15 = .ok (.getfield 44, 3) := by decide +kernel
theorem dX4_bestBehindWord_18 : decode cX4_bestBehindWord 18 = .ok (.iload_n 1, 1) := by decide +kernel
theorem dX4_bestBehindWord_19 : decode cX4_bestBehindWord 19 = .ok (.invokestatic 111, 3) := by decide +kernel
theorem dX4_bestBehindWord_22 : decode cX4_bestBehindWord 22 = .ok (.invokestatic 182, 3) := by decide +kernel
theorem dX4_bestBehindWord_25 : decode cX4_bestBehindWord 25 = .ok (.imul, 1) := by decide +kernel
theorem dX4_bestBehindWord_26 : decode cX4_bestBehindWord 26 = .ok (.istore_n 2, 1) := by decide +kernel
theorem dX4_bestBehindWord_27 : decode cX4_bestBehindWord 27 = .ok (.iload_n 2, 1) := by decide +kernel
theorem dX4_bestBehindWord_28 : decode cX4_bestBehindWord 28 = .ok (.bipush 64, 2) := by decide +kernel
theorem dX4_bestBehindWord_30 : decode cX4_bestBehindWord 30 = .ok (.imul, 1) := by decide +kernel
theorem dX4_bestBehindWord_31 : decode cX4_bestBehindWord 31 = .ok (.aload_n 0, 1) := by decide +kernel
theorem dX4_bestBehindWord_32 : decode cX4_bestBehindWord 32 = .ok (.getfield 76, 3) := by decide +kernel
theorem dX4_bestBehindWord_35 : decode cX4_bestBehindWord 35 = .ok (.iload_n 1, 1) := by decide +kernel
theorem dX4_bestBehindWord_36 : decode cX4_bestBehindWord 36 = .ok (.iconst 1, 1) := by decide +kernel
theorem dX4_bestBehindWord_37 : decode cX4_bestBehindWord 37 = .ok (.iadd, 1) := by decide +kernel
theorem dX4_bestBehindWord_38 : decode cX4_bestBehindWord 38 = .ok (.invokestatic 111, 3) := by decide +kernel
theorem dX4_bestBehindWord_41 : decode cX4_bestBehindWord 41 = .ok (.iadd, 1) := by decide +kernel
theorem dX4_bestBehindWord_42 : decode cX4_bestBehindWord 42 = .ok (.ireturn, 1) := by decide +kernel
theorem dX4_isOnePointLess_0 : decode cX4_isOnePointLess 0 = .ok (.iload_n 0, 1) := by decide +kernel
theorem dX4_isOnePointLess_1 : decode cX4_isOnePointLess 1 = .ok (.iload_n 1, 1) := by decide +kernel
theorem dX4_isOnePointLess_2 : decode cX4_isOnePointLess 2 = .ok (.iconst (-1), 1) := by decide +kernel
theorem dX4_isOnePointLess_3 : decode cX4_isOnePointLess 3 = .ok (.ixor, 1) := by decide +kernel
theorem dX4_isOnePointLess_4 : decode cX4_isOnePointLess 4 = .ok (.iand, 1) := by decide +kernel
theorem dX4_isOnePointLess_5 : decode cX4_isOnePointLess 5 = .ok (.ifCond .ne 20, 3) := by decide +kernel
theorem dX4_isOnePointLess_8 : decode cX4_isOnePointLess 8 = .ok (.iload_n 0, 1) := by decide +kernel
theorem dX4_isOnePointLess_9 : decode cX4_isOnePointLess 9 = .ok (.invokestatic 182, 3) := by decide +kernel
theorem dX4_isOnePointLess_12 : decode cX4_isOnePointLess 12 = .ok (.iload_n 1, 1) := by decide +kernel
theorem dX4_isOnePointLess_13 : decode cX4_isOnePointLess 13 = .ok (.invokestatic 182, 3) := by decide +kernel
theorem dX4_isOnePointLess_16 : decode cX4_isOnePointLess 16 = .ok (.iconst 1, 1) := by decide +kernel
theorem dX4_isOnePointLess_17 : decode cX4_isOnePointLess 17 = .ok (.isub, 1) := by decide +kernel
theorem dX4_isOnePointLess_18 : decode cX4_isOnePointLess 18 = .ok (.if_icmp .ne 7, 3) := by decide +kernel
theorem dX4_isOnePointLess_21 : decode cX4_isOnePointLess 21 = .ok (.iconst 1, 1) := by decide +kernel
theorem dX4_isOnePointLess_22 : decode cX4_isOnePointLess 22 = .ok (.goto 4, 3) := by decide +kernel
theorem dX4_isOnePointLess_25 : decode cX4_isOnePointLess 25 = .ok (.iconst 0, 1) := by decide +kernel
theorem dX4_isOnePointLess_26 : decode cX4_isOnePointLess 26 = .ok (.ireturn, 1) := by decide +kernel
theorem dX4_isApartFromOthers_0 : decode cX4_isApartFromOthers 0 = .ok (.iconst 0, 1) := by decide +kernel
theorem dX4_isApartFromOthers_1 : decode cX4_isApartFromOthers 1 = .ok (.istore_n 3, 1) := by decide +kernel
theorem dX4_isApartFromOthers_2 : decode cX4_isApartFromOthers 2 = .ok (.iload_n 3, 1) := by decide +kernel
theorem dX4_isApartFromOthers_3 : decode cX4_isApartFromOthers 3 = .ok (.bipush 10, 2) := by decide +kernel
theorem dX4_isApartFromOthers_5 : decode cX4_isApartFromOthers 5 = .ok (.if_icmp .ge 50, 3) := by decide +kernel
theorem dX4_isApartFromOthers_8 : decode cX4_isApartFromOthers 8 = .ok (.aload_n 0, 1) := by decide +kernel
theorem dX4_isApartFromOthers_9 : decode cX4_isApartFromOthers 9 = .ok (.getfield 41, 3) := by decide +kernel
theorem dX4_isApartFromOthers_12 : decode cX4_isApartFromOthers 12 = .ok (.iload_n 3, 1) := by decide +kernel
theorem dX4_isApartFromOthers_13 : decode cX4_isApartFromOthers 13 = .ok (.invokestatic 111, 3) := by decide +kernel
theorem dX4_isApartFromOthers_16 : decode cX4_isApartFromOthers 16 = .ok (.istore 4, 2) := by decide +kernel
theorem dX4_isApartFromOthers_18 : decode cX4_isApartFromOthers 18 = .ok (.iload_n 3, 1) := by decide +kernel
theorem dX4_isApartFromOthers_19 : decode cX4_isApartFromOthers 19 = .ok (.iload_n 2, 1) := by decide +kernel
theorem dX4_isApartFromOthers_20 : decode cX4_isApartFromOthers 20 = .ok (.if_icmp .eq 29, 3) := by decide +kernel
theorem dX4_isApartFromOthers_23 : decode cX4_isApartFromOthers 23 = .ok (.iload 4, 2) := by decide +kernel
theorem dX4_isApartFromOthers_25 : decode cX4_isApartFromOthers 25 = .ok (.iload_n 1, 1) := by decide +kernel
theorem dX4_isApartFromOthers_26 : decode cX4_isApartFromOthers 26 = .ok (.if_icmp .eq 21, 3) := by decide +kernel
theorem dX4_isApartFromOthers_29 : decode cX4_isApartFromOthers 29 = .ok (.iload 4, 2) := by decide +kernel
theorem dX4_isApartFromOthers_31 : decode cX4_isApartFromOthers 31 = .ok (.iload_n 1, 1) := by decide +kernel
theorem dX4_isApartFromOthers_32 : decode cX4_isApartFromOthers 32 = .ok (.invokestatic 178, 3) := by decide +kernel
theorem dX4_isApartFromOthers_35 : decode cX4_isApartFromOthers 35 = .ok (.ifCond .ne 12, 3) := by decide +kernel
theorem dX4_isApartFromOthers_38 : decode cX4_isApartFromOthers 38 = .ok (.iload_n 1, 1) := by decide +kernel
theorem dX4_isApartFromOthers_39 : decode cX4_isApartFromOthers 39 = .ok (.iload 4, 2) := by decide +kernel
theorem dX4_isApartFromOthers_41 : decode cX4_isApartFromOthers 41 = .ok (.invokestatic 178, 3) := by decide +kernel
theorem dX4_isApartFromOthers_44 : decode cX4_isApartFromOthers 44 = .ok (.ifCond .eq 5, 3) := by decide +kernel
theorem dX4_isApartFromOthers_47 : decode cX4_isApartFromOthers 47 = .ok (.iconst 0, 1) := by decide +kernel
theorem dX4_isApartFromOthers_48 : decode cX4_isApartFromOthers 48 = .ok (.ireturn, 1) := by decide +kernel
theorem dX4_isApartFromOthers_49 : decode cX4_isApartFromOthers 49 = .ok (.iinc 3 1, 3) := by decide +kernel
theorem dX4_isApartFromOthers_52 : decode cX4_isApartFromOthers 52 = .ok (.goto (-50), 3) := by decide +kernel
theorem dX4_isApartFromOthers_55 : decode cX4_isApartFromOthers 55 = .ok (.iconst 1, 1) := by decide +kernel
theorem dX4_isApartFromOthers_56 : decode cX4_isApartFromOthers 56 = .ok (.ireturn, 1) := by decide +kernel
theorem dX4_freeSigns_0 : decode cX4_freeSigns 0 = .ok (.iconst 0, 1) := by decide +kernel
theorem dX4_freeSigns_1 : decode cX4_freeSigns 1 = .ok (.istore_n 1, 1) := by decide +kernel
theorem dX4_freeSigns_2 : decode cX4_freeSigns 2 = .ok (.iconst 1, 1) := by decide +kernel
theorem dX4_freeSigns_3 : decode cX4_freeSigns 3 = .ok (.istore_n 2, 1) := by decide +kernel
theorem dX4_freeSigns_4 : decode cX4_freeSigns 4 = .ok (.iload_n 2, 1) := by decide +kernel
theorem dX4_freeSigns_5 : decode cX4_freeSigns 5 = .ok (.bipush 63, 2) := by decide +kernel
theorem dX4_freeSigns_7 : decode cX4_freeSigns 7 = .ok (.if_icmp .gt 21, 3) := by decide +kernel
theorem dX4_freeSigns_10 : decode cX4_freeSigns 10 = .ok (.aload_n 0, 1) := by decide +kernel
theorem dX4_freeSigns_11 : decode cX4_freeSigns 11 = .ok (.iload_n 2, 1) := by decide +kernel
theorem dX4_freeSigns_12 : decode cX4_freeSigns 12 = .ok (.invokevirtual 149, 3) := by decide +kernel
theorem dX4_freeSigns_15 : decode cX4_freeSigns 15 = .ok (.iconst (-1), 1) := by decide +kernel
theorem dX4_freeSigns_16 : decode cX4_freeSigns 16 = .ok (.if_icmp .ne 6, 3) := by decide +kernel
theorem dX4_freeSigns_19 : decode cX4_freeSigns 19 = .ok (.iinc 1 1, 3) := by decide +kernel
theorem dX4_freeSigns_22 : decode cX4_freeSigns 22 = .ok (.iinc 2 1, 3) := by decide +kernel
theorem dX4_freeSigns_25 : decode cX4_freeSigns 25 = .ok (.goto (-21), 3) := by decide +kernel
theorem dX4_freeSigns_28 : decode cX4_freeSigns 28 = .ok (.iload_n 1, 1) := by decide +kernel
theorem dX4_freeSigns_29 : decode cX4_freeSigns 29 = .ok (.ireturn, 1) := by decide +kernel
theorem dX4_shortened_0 : decode cX4_shortened 0 = .ok (.iload_n 1, 1) := by decide +kernel
theorem dX4_shortened_1 : decode cX4_shortened 1 = .ok (.aload_n 0, 1) := by decide +kernel
theorem dX4_shortened_2 : decode cX4_shortened 2 = .ok (.invokevirtual 190, 3) := by decide +kernel
theorem dX4_shortened_5 : decode cX4_shortened 5 = .ok (.invokestatic 248, 3) := by decide +kernel
theorem dX4_shortened_8 : decode cX4_shortened 8 = .ok (.istore_n 2, 1) := by decide +kernel
theorem dX4_shortened_9 : decode cX4_shortened 9 = .ok (.iconst 0, 1) := by decide +kernel
theorem dX4_shortened_10 : decode cX4_shortened 10 = .ok (.istore_n 3, 1) := by decide +kernel
theorem dX4_shortened_11 : decode cX4_shortened 11 = .ok (.iconst 0, 1) := by decide +kernel
theorem dX4_shortened_12 : decode cX4_shortened 12 = .ok (.istore 4, 2) := by decide +kernel
theorem dX4_shortened_14 : decode cX4_shortened 14 = .ok (.iload 4, 2) := by decide +kernel
theorem dX4_shortened_16 : decode cX4_shortened 16 = .ok (.iload_n 2, 1) := by decide +kernel
theorem dX4_shortened_17 : decode cX4_shortened 17 = .ok (.if_icmp .ge 32, 3) := by decide +kernel
theorem dX4_shortened_20 : decode cX4_shortened 20 = .ok (.aload_n 0, 1) := by decide +kernel
theorem dX4_shortened_21 : decode cX4_shortened 21 = .ok (.iload_n 3, 1) := by decide +kernel
theorem dX4_shortened_22 : decode cX4_shortened 22 = .ok (.invokevirtual 358, 3) := by decide +kernel
theorem dX4_shortened_25 : decode cX4_shortened 25 = .ok (.istore 5, 2) := by decide +kernel
theorem dX4_shortened_27 : decode cX4_shortened 27 = .ok (.iload 5, 2) := by decide +kernel
theorem dX4_shortened_29 : decode cX4_shortened 29 = .ok (.iconst (-1), 1) := by decide +kernel
theorem dX4_shortened_30 : decode cX4_shortened 30 = .ok (.if_icmp .ne 6, 3) := by decide +kernel
theorem dX4_shortened_33 : decode cX4_shortened 33 = .ok (.goto 16, 3) := by decide +kernel
theorem dX4_shortened_36 : decode cX4_shortened 36 = .ok (.iload_n 3, 1) := by decide +kernel
theorem dX4_shortened_37 : decode cX4_shortened 37 = .ok (.iconst 1, 1) := by decide +kernel
theorem dX4_shortened_38 : decode cX4_shortened 38 = .ok (.iload 5, 2) := by decide +kernel
theorem dX4_shortened_40 : decode cX4_shortened 40 = .ok (.ishl, 1) := by decide +kernel
theorem dX4_shortened_41 : decode cX4_shortened 41 = .ok (.ior, 1) := by decide +kernel
theorem dX4_shortened_42 : decode cX4_shortened 42 = .ok (.istore_n 3, 1) := by decide +kernel
theorem dX4_shortened_43 : decode cX4_shortened 43 = .ok (.iinc 4 1, 3) := by decide +kernel
theorem dX4_shortened_46 : decode cX4_shortened 46 = .ok (.goto (-32), 3) := by decide +kernel
theorem dX4_shortened_49 : decode cX4_shortened 49 = .ok (.iload_n 3, 1) := by decide +kernel
theorem dX4_shortened_50 : decode cX4_shortened 50 = .ok (.ireturn, 1) := by decide +kernel
theorem dX4_mostSavingBut_0 : decode cX4_mostSavingBut 0 = .ok (.iconst (-1), 1) := by decide +kernel
theorem dX4_mostSavingBut_1 : decode cX4_mostSavingBut 1 = .ok (.istore_n 2, 1) := by decide +kernel
theorem dX4_mostSavingBut_2 : decode cX4_mostSavingBut 2 = .ok (.iconst 0, 1) := by decide +kernel
theorem dX4_mostSavingBut_3 : decode cX4_mostSavingBut 3 = .ok (.istore_n 3, 1) := by decide +kernel
theorem dX4_mostSavingBut_4 : decode cX4_mostSavingBut 4 = .ok (.iconst 0, 1) := by decide +kernel
theorem dX4_mostSavingBut_5 : decode cX4_mostSavingBut 5 = .ok (.istore 4, 2) := by decide +kernel
theorem dX4_mostSavingBut_7 : decode cX4_mostSavingBut 7 = .ok (.iload 4, 2) := by decide +kernel
theorem dX4_mostSavingBut_9 : decode cX4_mostSavingBut 9 = .ok (.aload_n 0, 1) := by decide +kernel
theorem dX4_mostSavingBut_10 : decode cX4_mostSavingBut 10 = .ok (.getfield 21, 3) := by decide +kernel
theorem dX4_mostSavingBut_13 : decode cX4_mostSavingBut 13 = .ok (.getfield 174, 3) := by decide +kernel
theorem dX4_mostSavingBut_16 : decode cX4_mostSavingBut 16 = .ok (.if_icmp .ge 40, 3) := by decide +kernel
theorem dX4_mostSavingBut_19 : decode cX4_mostSavingBut 19 = .ok (.aload_n 0, 1) := by decide +kernel
theorem dX4_mostSavingBut_20 : decode cX4_mostSavingBut 20 = .ok (.iconst 1, 1) := by decide +kernel
theorem dX4_mostSavingBut_21 : decode cX4_mostSavingBut 21 = .ok (.iload 4, 2) := by decide +kernel
theorem dX4_mostSavingBut_23 : decode cX4_mostSavingBut 23 = .ok (.ishl, 1) := by decide +kernel
theorem dX4_mostSavingBut_24 : decode cX4_mostSavingBut 24 = .ok (.invokevirtual 196, 3) := by decide +kernel
theorem dX4_mostSavingBut_27 : decode cX4_mostSavingBut 27 = .ok (.istore 5, 2) := by decide +kernel
theorem dX4_mostSavingBut_29 : decode cX4_mostSavingBut 29 = .ok (.iload_n 1, 1) := by decide +kernel
theorem dX4_mostSavingBut_30 : decode cX4_mostSavingBut 30 = .ok (.iconst 1, 1) := by decide +kernel
theorem dX4_mostSavingBut_31 : decode cX4_mostSavingBut 31 = .ok (.iload 4, 2) := by decide +kernel
theorem dX4_mostSavingBut_33 : decode cX4_mostSavingBut 33 = .ok (.ishl, 1) := by decide +kernel
theorem dX4_mostSavingBut_34 : decode cX4_mostSavingBut 34 = .ok (.iand, 1) := by decide +kernel
theorem dX4_mostSavingBut_35 : decode cX4_mostSavingBut 35 = .ok (.ifCond .ne 15, 3) := by decide +kernel
theorem dX4_mostSavingBut_38 : decode cX4_mostSavingBut 38 = .ok (.iload 5, 2) := by decide +kernel
theorem dX4_mostSavingBut_40 : decode cX4_mostSavingBut 40 = .ok (.iload_n 3, 1) := by decide +kernel
theorem dX4_mostSavingBut_41 : decode cX4_mostSavingBut 41 = .ok (.if_icmp .le 9, 3) := by decide +kernel
theorem dX4_mostSavingBut_44 : decode cX4_mostSavingBut 44 = .ok (.iload 4, 2) := by decide +kernel
theorem dX4_mostSavingBut_46 : decode cX4_mostSavingBut 46 = .ok (.istore_n 2, 1) := by decide +kernel
theorem dX4_mostSavingBut_47 : decode cX4_mostSavingBut 47 = .ok (.iload 5, 2) := by decide +kernel
theorem dX4_mostSavingBut_49 : decode cX4_mostSavingBut 49 = .ok (.istore_n 3, 1) := by decide +kernel
theorem dX4_mostSavingBut_50 : decode cX4_mostSavingBut 50 = .ok (.iinc 4 1, 3) := by decide +kernel
theorem dX4_mostSavingBut_53 : decode cX4_mostSavingBut 53 = .ok (.goto (-46), 3) := by decide +kernel
theorem dX4_mostSavingBut_56 : decode cX4_mostSavingBut 56 = .ok (.iload_n 2, 1) := by decide +kernel
theorem dX4_mostSavingBut_57 : decode cX4_mostSavingBut 57 = .ok (.ireturn, 1) := by decide +kernel
theorem dX4_savedBy_0 : decode cX4_savedBy 0 = .ok (.iconst 0, 1) := by decide +kernel
theorem dX4_savedBy_1 : decode cX4_savedBy 1 = .ok (.istore_n 2, 1) := by decide +kernel
theorem dX4_savedBy_2 : decode cX4_savedBy 2 = .ok (.iconst 0, 1) := by decide +kernel
theorem dX4_savedBy_3 : decode cX4_savedBy 3 = .ok (.istore_n 3, 1) := by decide +kernel
theorem dX4_savedBy_4 : decode cX4_savedBy 4 = .ok (.iload_n 3, 1) := by decide +kernel
theorem dX4_savedBy_5 : decode cX4_savedBy 5 = .ok (.aload_n 0, 1) := by decide +kernel
theorem dX4_savedBy_6 : decode cX4_savedBy 6 = .ok (.getfield 21, 3) := by decide +kernel
theorem dX4_savedBy_9 : decode cX4_savedBy 9 = .ok (.getfield 174, 3) := by decide +kernel
theorem dX4_savedBy_12 : decode cX4_savedBy 12 = .ok (.if_icmp .ge 39, 3) := by decide +kernel
theorem dX4_savedBy_15 : decode cX4_savedBy 15 = .ok (.iload_n 1, 1) := by decide +kernel
theorem dX4_savedBy_16 : decode cX4_savedBy 16 = .ok (.iconst 1, 1) := by decide +kernel
theorem dX4_savedBy_17 : decode cX4_savedBy 17 = .ok (.iload_n 3, 1) := by decide +kernel
theorem dX4_savedBy_18 : decode cX4_savedBy 18 = .ok (.ishl, 1) := by decide +kernel
theorem dX4_savedBy_19 : decode cX4_savedBy 19 = .ok (.iand, 1) := by decide +kernel
theorem dX4_savedBy_20 : decode cX4_savedBy 20 = .ok (.ifCond .eq 25, 3) := by decide +kernel
theorem dX4_savedBy_23 : decode cX4_savedBy 23 = .ok (.iload_n 2, 1) := by decide +kernel
theorem dX4_savedBy_24 : decode cX4_savedBy 24 = .ok (.aload_n 0, 1) := by decide +kernel
theorem dX4_savedBy_25 : decode cX4_savedBy 25 = .ok (.getfield 54, 3) := by decide +kernel
theorem dX4_savedBy_28 : decode cX4_savedBy 28 = .ok (.iload_n 3, 1) := by decide +kernel
theorem dX4_savedBy_29 : decode cX4_savedBy 29 = .ok (.invokestatic 111, 3) := by decide +kernel
theorem dX4_savedBy_32 : decode cX4_savedBy 32 = .ok (.aload_n 0, 1) := by decide +kernel
theorem dX4_savedBy_33 : decode cX4_savedBy 33 = .ok (.getfield 21, 3) := by decide +kernel
theorem dX4_savedBy_36 : decode cX4_savedBy 36 = .ok (.iload_n 3, 1) := by decide +kernel
theorem dX4_savedBy_37 : decode cX4_savedBy 37 = .ok (.invokevirtual 346, 3) := by decide +kernel
theorem dX4_savedBy_40 : decode cX4_savedBy 40 = .ok (.iconst 1, 1) := by decide +kernel
theorem dX4_savedBy_41 : decode cX4_savedBy 41 = .ok (.isub, 1) := by decide +kernel
theorem dX4_savedBy_42 : decode cX4_savedBy 42 = .ok (.imul, 1) := by decide +kernel
theorem dX4_savedBy_43 : decode cX4_savedBy 43 = .ok (.iadd, 1) := by decide +kernel
theorem dX4_savedBy_44 : decode cX4_savedBy 44 = .ok (.istore_n 2, 1) := by decide +kernel
theorem dX4_savedBy_45 : decode cX4_savedBy 45 = .ok (.iinc 3 1, 3) := by decide +kernel
theorem dX4_savedBy_48 : decode cX4_savedBy 48 = .ok (.goto (-44), 3) := by decide +kernel
theorem dX4_savedBy_51 : decode cX4_savedBy 51 = .ok (.iload_n 2, 1) := by decide +kernel
theorem dX4_savedBy_52 : decode cX4_savedBy 52 = .ok (.ireturn, 1) := by decide +kernel
theorem dX4_lieTogether_0 : decode cX4_lieTogether 0 = .ok (.aload_n 0, 1) := by decide +kernel
theorem dX4_lieTogether_1 : decode cX4_lieTogether 1 = .ok (.getfield 21, 3) := by decide +kernel
theorem dX4_lieTogether_4 : decode cX4_lieTogether 4 = .ok (.iload_n 1, 1) := by decide +kernel
theorem dX4_lieTogether_5 : decode cX4_lieTogether 5 = .ok (.invokevirtual 346, 3) := by decide +kernel
theorem dX4_lieTogether_8 : decode cX4_lieTogether 8 = .ok (.istore 4, 2) := by decide +kernel
theorem dX4_lieTogether_10 : decode cX4_lieTogether 10 = .ok (.aload_n 0, 1) := by decide +kernel
theorem dX4_lieTogether_11 : decode cX4_lieTogether 11 = .ok (.getfield 21, 3) := by decide +kernel
theorem dX4_lieTogether_14 : decode cX4_lieTogether 14 = .ok (.iload_n 2, 1) := by decide +kernel
theorem dX4_lieTogether_15 : decode cX4_lieTogether 15 = .ok (.invokevirtual 346, 3) := by decide +kernel
theorem dX4_lieTogether_18 : decode cX4_lieTogether 18 = .ok (.iload 4, 2) := by decide +kernel
theorem dX4_lieTogether_20 : decode cX4_lieTogether 20 = .ok (.if_icmp .ne 12, 3) := by decide +kernel
theorem dX4_lieTogether_23 : decode cX4_lieTogether 23 = .ok (.aload_n 0, 1) := by decide +kernel
theorem dX4_lieTogether_24 : decode cX4_lieTogether 24 = .ok (.iload_n 1, 1) := by decide +kernel
theorem dX4_lieTogether_25 : decode cX4_lieTogether 25 = .ok (.iload_n 3, 1) := by decide +kernel
theorem dX4_lieTogether_26 : decode cX4_lieTogether 26 = .ok (.invokevirtual 352, 3) := by decide +kernel
theorem dX4_lieTogether_29 : decode cX4_lieTogether 29 = .ok (.ifCond .ne 5, 3) := by decide +kernel
theorem dX4_lieTogether_32 : decode cX4_lieTogether 32 = .ok (.iconst 0, 1) := by decide +kernel
theorem dX4_lieTogether_33 : decode cX4_lieTogether 33 = .ok (.ireturn, 1) := by decide +kernel
theorem dX4_lieTogether_34 : decode cX4_lieTogether 34 = .ok (.iconst 0, 1) := by decide +kernel
theorem dX4_lieTogether_35 : decode cX4_lieTogether 35 = .ok (.istore 5, 2) := by decide +kernel
theorem dX4_lieTogether_37 : decode cX4_lieTogether 37 = .ok (.iload 5, 2) := by decide +kernel
theorem dX4_lieTogether_39 : decode cX4_lieTogether 39 = .ok (.iload 4, 2) := by decide +kernel
theorem dX4_lieTogether_41 : decode cX4_lieTogether 41 = .ok (.if_icmp .ge 40, 3) := by decide +kernel
theorem dX4_lieTogether_44 : decode cX4_lieTogether 44 = .ok (.aload_n 0, 1) := by decide +kernel
theorem dX4_lieTogether_45 : decode cX4_lieTogether 45 = .ok (.iload_n 1, 1) := by decide +kernel
theorem dX4_lieTogether_46 : decode cX4_lieTogether 46 = .ok (.iload 5, 2) := by decide +kernel
theorem dX4_lieTogether_48 : decode cX4_lieTogether 48 = .ok (.invokevirtual 349, 3) := by decide +kernel
theorem dX4_lieTogether_51 : decode cX4_lieTogether 51 = .ok (.aload_n 0, 1) := by decide +kernel
theorem dX4_lieTogether_52 : decode cX4_lieTogether 52 = .ok (.iload_n 2, 1) := by decide +kernel
theorem dX4_lieTogether_53 : decode cX4_lieTogether 53 = .ok (.iload 5, 2) := by decide +kernel
theorem dX4_lieTogether_55 : decode cX4_lieTogether 55 = .ok (.invokevirtual 349, 3) := by decide +kernel
theorem dX4_lieTogether_58 : decode cX4_lieTogether 58 = .ok (.ior, 1) := by decide +kernel
theorem dX4_lieTogether_59 : decode cX4_lieTogether 59 = .ok (.aload_n 0, 1) := by decide +kernel
theorem dX4_lieTogether_60 : decode cX4_lieTogether 60 = .ok (.getfield 44, 3) := by decide +kernel
theorem dX4_lieTogether_63 : decode cX4_lieTogether 63 = .ok (.iload_n 3, 1) := by decide +kernel
theorem dX4_lieTogether_64 : decode cX4_lieTogether 64 = .ok (.iload 5, 2) := by decide +kernel
theorem dX4_lieTogether_66 : decode cX4_lieTogether 66 = .ok (.iadd, 1) := by decide +kernel
theorem dX4_lieTogether_67 : decode cX4_lieTogether 67 = .ok (.invokestatic 111, 3) := by decide +kernel
theorem dX4_lieTogether_70 : decode cX4_lieTogether 70 = .ok (.if_icmp .eq 5, 3) := by decide +kernel
theorem dX4_lieTogether_73 : decode cX4_lieTogether 73 = .ok (.iconst 0, 1) := by decide +kernel
theorem dX4_lieTogether_74 : decode cX4_lieTogether 74 = .ok (.ireturn, 1) := by decide +kernel
theorem dX4_lieTogether_75 : decode cX4_lieTogether 75 = .ok (.iinc 5 1, 3) := by decide +kernel
theorem dX4_lieTogether_78 : decode cX4_lieTogether 78 = .ok (.goto (-41), 3) := by decide +kernel
theorem dX4_lieTogether_81 : decode cX4_lieTogether 81 = .ok (.iconst 1, 1) := by decide +kernel
theorem dX4_lieTogether_82 : decode cX4_lieTogether 82 = .ok (.ireturn, 1) := by decide +kernel
theorem dX4_firstClash_0 : decode cX4_firstClash 0 = .ok (.iconst 0, 1) := by decide +kernel
theorem dX4_firstClash_1 : decode cX4_firstClash 1 = .ok (.istore_n 2, 1) := by decide +kernel
theorem dX4_firstClash_2 : decode cX4_firstClash 2 = .ok (.iload_n 2, 1) := by decide +kernel
theorem dX4_firstClash_3 : decode cX4_firstClash 3 = .ok (.aload_n 0, 1) := by decide +kernel
theorem dX4_firstClash_4 : decode cX4_firstClash 4 = .ok (.getfield 152, 3) := by decide +kernel
theorem dX4_firstClash_7 : decode cX4_firstClash 7 = .ok (.if_icmp .ge 67, 3) := by decide +kernel
theorem dX4_firstClash_10 : decode cX4_firstClash 10 = .ok (.aload_n 0, 1) := by decide +kernel
theorem dX4_firstClash_11 : decode cX4_firstClash 11 = .ok (.getfield 152, 3) := by decide +kernel
theorem dX4_firstClash_14 : decode cX4_firstClash 14 = .ok (.iconst 1, 1) := by decide +kernel
theorem dX4_firstClash_15 : decode cX4_firstClash 15 = .ok (.isub, 1) := by decide +kernel
theorem dX4_firstClash_16 : decode cX4_firstClash 16 = .ok (.iload_n 2, 1) := by decide +kernel
theorem dX4_firstClash_17 : decode cX4_firstClash 17 = .ok (.isub, 1) := by decide +kernel
theorem dX4_firstClash_18 : decode cX4_firstClash 18 = .ok (.istore_n 3, 1) := by decide +kernel
theorem dX4_firstClash_19 : decode cX4_firstClash 19 = .ok (.aload_n 1, 1) := by decide +kernel
theorem dX4_firstClash_20 : decode cX4_firstClash 20 = .ok (.ifnull 15, 3) := by decide +kernel
theorem dX4_firstClash_23 : decode cX4_firstClash 23 = .ok (.iload_n 3, 1) := by decide +kernel
theorem dX4_firstClash_24 : decode cX4_firstClash 24 = .ok (.aload_n 1, 1) := by decide +kernel
theorem dX4_firstClash_25 : decode cX4_firstClash 25 = .ok (.getfield 133, 3) := by decide +kernel
theorem dX4_firstClash_28 : decode cX4_firstClash 28 = .ok (.if_icmp .ge 7, 3) := by decide +kernel
theorem dX4_firstClash_31 : decode cX4_firstClash 31 = .ok (.iconst 1, 1) := by decide +kernel
theorem dX4_firstClash_32 : decode cX4_firstClash 32 = .ok (.goto 4, 3) := by decide +kernel
theorem dX4_firstClash_35 : decode cX4_firstClash 35 = .ok (.iconst 0, 1) := by decide +kernel
theorem dX4_firstClash_36 : decode cX4_firstClash 36 = .ok (.istore 4, 2) := by decide +kernel
theorem dX4_firstClash_38 : decode cX4_firstClash 38 = .ok (.iload 4, 2) := by decide +kernel
theorem dX4_firstClash_40 : decode cX4_firstClash 40 = .ok (.ifCond .eq 28, 3) := by decide +kernel
theorem dX4_firstClash_43 : decode cX4_firstClash 43 = .ok (.aload_n 0, 1) := by decide +kernel
theorem dX4_firstClash_44 : decode cX4_firstClash 44 = .ok (.getfield 44, 3) := by decide +kernel
theorem dX4_firstClash_47 : decode cX4_firstClash 47 = .ok (.iload_n 2, 1) := by decide +kernel
theorem dX4_firstClash_48 : decode cX4_firstClash 48 = .ok (.invokestatic 111, 3) := by decide +kernel
theorem dX4_firstClash_51 : decode cX4_firstClash 51 = .ok (.aload_n 1, 1) := by decide +kernel
theorem dX4_firstClash_52 : decode cX4_firstClash 52 = .ok (.getfield 136, 3) := by decide +kernel
theorem dX4_firstClash_55 : decode cX4_firstClash 55 = .ok (.iload_n 3, 1) := by decide +kernel
theorem dX4_firstClash_56 : decode cX4_firstClash 56 = .ok (.invokestatic 111, 3) := by decide +kernel
theorem dX4_firstClash_59 : decode cX4_firstClash 59 = .ok (.invokestatic 155, 3) := by decide +kernel
theorem dX4_firstClash_62 : decode cX4_firstClash 62 = .ok (.iand, 1) := by decide +kernel
theorem dX4_firstClash_63 : decode cX4_firstClash 63 = .ok (.ifCond .eq 5, 3) := by decide +kernel
theorem dX4_firstClash_66 : decode cX4_firstClash 66 = .ok (.iload_n 2, 1) := by decide +kernel
theorem dX4_firstClash_67 : decode cX4_firstClash 67 = .ok (.ireturn, 1) := by decide +kernel
theorem dX4_firstClash_68 : decode cX4_firstClash 68 = .ok (.iinc 2 1, 3) := by decide +kernel
theorem dX4_firstClash_71 : decode cX4_firstClash 71 = .ok (.goto (-69), 3) := by decide +kernel
theorem dX4_firstClash_74 : decode cX4_firstClash 74 = .ok (.iconst (-1), 1) := by decide +kernel
theorem dX4_firstClash_75 : decode cX4_firstClash 75 = .ok (.ireturn, 1) := by decide +kernel
theorem dX4_skippedAt_0 : decode cX4_skippedAt 0 = .ok (.aload_n 0, 1) := by decide +kernel
theorem dX4_skippedAt_1 : decode cX4_skippedAt 1 = .ok (.iload_n 1, 1) := by decide +kernel
theorem dX4_skippedAt_2 : decode cX4_skippedAt 2 = .ok (.invokevirtual 334, 3) := by decide +kernel
theorem dX4_skippedAt_5 : decode cX4_skippedAt 5 = .ok (.aload_n 0, 1) := by decide +kernel
theorem dX4_skippedAt_6 : decode cX4_skippedAt 6 = .ok (.getfield 44, 3) := by decide +kernel
theorem dX4_skippedAt_9 : decode cX4_skippedAt 9 = .ok (.iload_n 1, 1) := by decide +kernel
theorem dX4_skippedAt_10 : decode cX4_skippedAt 10 = .ok (.invokestatic 111, 3) := by decide +kernel
theorem dX4_skippedAt_13 : decode cX4_skippedAt 13 = .ok (.iconst (-1), 1) := by decide +kernel
theorem dX4_skippedAt_14 : decode cX4_skippedAt 14 = .ok (.ixor, 1) := by decide +kernel
theorem dX4_skippedAt_15 : decode cX4_skippedAt 15 = .ok (.iand, 1) := by decide +kernel
theorem dX4_skippedAt_16 : decode cX4_skippedAt 16 = .ok (.ireturn, 1) := by decide +kernel
theorem dX4_skippedBy_0 : decode cX4_skippedBy 0 = .ok (.iconst 0, 1) := by decide +kernel
theorem dX4_skippedBy_1 : decode cX4_skippedBy 1 = .ok (.istore_n 2, 1) := by decide +kernel
theorem dX4_skippedBy_2 : decode cX4_skippedBy 2 = .ok (.iconst 0, 1) := by decide +kernel
theorem dX4_skippedBy_3 : decode cX4_skippedBy 3 = .ok (.istore_n 3, 1) := by decide +kernel
theorem dX4_skippedBy_4 : decode cX4_skippedBy 4 = .ok (.iload_n 3, 1) := by decide +kernel
theorem dX4_skippedBy_5 : decode cX4_skippedBy 5 = .ok (.aload_n 0, 1) := by decide +kernel
theorem dX4_skippedBy_6 : decode cX4_skippedBy 6 = .ok (.getfield 152, 3) := by decide +kernel
theorem dX4_skippedBy_9 : decode cX4_skippedBy 9 = .ok (.if_icmp .ge 59, 3) := by decide +kernel
theorem dX4_skippedBy_12 : decode cX4_skippedBy 12 = .ok (.aload_n 0, 1) := by decide +kernel
theorem dX4_skippedBy_13 : decode cX4_skippedBy 13 = .ok (.iload_n 3, 1) := by decide +kernel
theorem dX4_skippedBy_14 : decode cX4_skippedBy 14 = .ok (.invokevirtual 206, 3) := by decide +kernel
theorem dX4_skippedBy_17 : decode cX4_skippedBy 17 = .ok (.istore 4, 2) := by decide +kernel
theorem dX4_skippedBy_19 : decode cX4_skippedBy 19 = .ok (.iconst 0, 1) := by decide +kernel
theorem dX4_skippedBy_20 : decode cX4_skippedBy 20 = .ok (.istore 5, 2) := by decide +kernel
theorem dX4_skippedBy_22 : decode cX4_skippedBy 22 = .ok (.iload 5, 2) := by decide +kernel
theorem dX4_skippedBy_24 : decode cX4_skippedBy 24 = .ok (.bipush 6, 2) := by decide +kernel
theorem dX4_skippedBy_26 : decode cX4_skippedBy 26 = .ok (.if_icmp .ge 36, 3) := by decide +kernel
theorem dX4_skippedBy_29 : decode cX4_skippedBy 29 = .ok (.iload 4, 2) := by decide +kernel
theorem dX4_skippedBy_31 : decode cX4_skippedBy 31 = .ok (.iconst 1, 1) := by decide +kernel
theorem dX4_skippedBy_32 : decode cX4_skippedBy 32 = .ok (.iload 5, 2) := by decide +kernel
theorem dX4_skippedBy_34 : decode cX4_skippedBy 34 = .ok (.ishl, 1) := by decide +kernel
theorem dX4_skippedBy_35 : decode cX4_skippedBy 35 = .ok (.iand, 1) := by decide +kernel
theorem dX4_skippedBy_36 : decode cX4_skippedBy 36 = .ok (.ifCond .eq 20, 3) := by decide +kernel
theorem dX4_skippedBy_39 : decode cX4_skippedBy 39 = .ok (.iload_n 2, 1) := by decide +kernel
theorem dX4_skippedBy_40 : decode cX4_skippedBy 40 = .ok (.aload_n 0, 1) := by decide +kernel
theorem dX4_skippedBy_41 : decode cX4_skippedBy 41 = .ok (.getfield 63, 3) := by decide +kernel
theorem dX4_skippedBy_44 : decode cX4_skippedBy 44 = .ok (.iload_n 1, 1) := by decide +kernel
theorem dX4_skippedBy_45 : decode cX4_skippedBy 45 = .ok (.bipush 6, 2) := by decide +kernel
theorem dX4_skippedBy_47 : decode cX4_skippedBy 47 = .ok (.imul, 1) := by decide +kernel
theorem dX4_skippedBy_48 : decode cX4_skippedBy 48 = .ok (.iload 5, 2) := by decide +kernel
theorem dX4_skippedBy_50 : decode cX4_skippedBy 50 = .ok (.iadd, 1) := by decide +kernel
theorem dX4_skippedBy_51 : decode cX4_skippedBy 51 = .ok (.invokestatic 111, 3) := by decide +kernel
theorem dX4_skippedBy_54 : decode cX4_skippedBy 54 = .ok (.iadd, 1) := by decide +kernel
theorem dX4_skippedBy_55 : decode cX4_skippedBy 55 = .ok (.istore_n 2, 1) := by decide +kernel
theorem dX4_skippedBy_56 : decode cX4_skippedBy 56 = .ok (.iinc 5 1, 3) := by decide +kernel
theorem dX4_skippedBy_59 : decode cX4_skippedBy 59 = .ok (.goto (-37), 3) := by decide +kernel
theorem dX4_skippedBy_62 : decode cX4_skippedBy 62 = .ok (.iinc 3 1, 3) := by decide +kernel
theorem dX4_skippedBy_65 : decode cX4_skippedBy 65 = .ok (.goto (-61), 3) := by decide +kernel
theorem dX4_skippedBy_68 : decode cX4_skippedBy 68 = .ok (.iload_n 2, 1) := by decide +kernel
theorem dX4_skippedBy_69 : decode cX4_skippedBy 69 = .ok (.ireturn, 1) := by decide +kernel
theorem dX4_wearDown_0 : decode cX4_wearDown 0 = .ok (.iconst 0, 1) := by decide +kernel
theorem dX4_wearDown_1 : decode cX4_wearDown 1 = .ok (.istore_n 2, 1) := by decide +kernel
theorem dX4_wearDown_2 : decode cX4_wearDown 2 = .ok (.iload_n 2, 1) := by decide +kernel
theorem dX4_wearDown_3 : decode cX4_wearDown 3 = .ok (.aload_n 0, 1) := by decide +kernel
theorem dX4_wearDown_4 : decode cX4_wearDown 4 = .ok (.getfield 152, 3) := by decide +kernel
theorem dX4_wearDown_7 : decode cX4_wearDown 7 = .ok (.if_icmp .ge 25, 3) := by decide +kernel
theorem dX4_wearDown_10 : decode cX4_wearDown 10 = .ok (.aload_n 0, 1) := by decide +kernel
theorem dX4_wearDown_11 : decode cX4_wearDown 11 = .ok (.getfield 73, 3) := by decide +kernel
theorem dX4_wearDown_14 : decode cX4_wearDown 14 = .ok (.iload_n 2, 1) := by decide +kernel
theorem dX4_wearDown_15 : decode cX4_wearDown 15 = .ok (.aload_n 0, 1) := by decide +kernel
theorem dX4_wearDown_16 : decode cX4_wearDown 16 = .ok (.getfield 44, 3) := by decide +kernel
theorem dX4_wearDown_19 : decode cX4_wearDown 19 = .ok (.iload_n 2, 1) := by decide +kernel
theorem dX4_wearDown_20 : decode cX4_wearDown 20 = .ok (.invokestatic 111, 3) := by decide +kernel
theorem dX4_wearDown_23 : decode cX4_wearDown 23 = .ok (.invokestatic 115, 3) := by decide +kernel
theorem dX4_wearDown_26 : decode cX4_wearDown 26 = .ok (.iinc 2 1, 3) := by decide +kernel
theorem dX4_wearDown_29 : decode cX4_wearDown 29 = .ok (.goto (-27), 3) := by decide +kernel
theorem dX4_wearDown_32 : decode cX4_wearDown 32 = .ok (.iconst 0, 1) := by decide +kernel
theorem dX4_wearDown_33 : decode cX4_wearDown 33 = .ok (.istore_n 2, 1) := by decide +kernel
theorem dX4_wearDown_34 : decode cX4_wearDown 34 = .ok (.iconst 0, 1) := by decide +kernel
theorem dX4_wearDown_35 : decode cX4_wearDown 35 = .ok (.istore_n 3, 1) := by decide +kernel
theorem dX4_wearDown_36 : decode cX4_wearDown 36 = .ok (.iload_n 3, 1) := by decide +kernel
theorem dX4_wearDown_37 : decode cX4_wearDown 37 = .ok (.iload_n 1, 1) := by decide +kernel
theorem dX4_wearDown_38 : decode cX4_wearDown 38 = .ok (.if_icmp .ge 49, 3) := by decide +kernel
theorem dX4_wearDown_41 : decode cX4_wearDown 41 = .ok (.aload_n 0, 1) := by decide +kernel
theorem dX4_wearDown_42 : decode cX4_wearDown 42 = .ok (.iload_n 2, 1) := by decide +kernel
theorem dX4_wearDown_43 : decode cX4_wearDown 43 = .ok (.invokevirtual 361, 3) := by decide +kernel
theorem dX4_wearDown_46 : decode cX4_wearDown 46 = .ok (.istore 4, 2) := by decide +kernel
theorem dX4_wearDown_48 : decode cX4_wearDown 48 = .ok (.iload 4, 2) := by decide +kernel
theorem dX4_wearDown_50 : decode cX4_wearDown 50 = .ok (.iconst (-1), 1) := by decide +kernel
theorem dX4_wearDown_51 : decode cX4_wearDown 51 = .ok (.if_icmp .ne 4, 3) := by decide +kernel
theorem dX4_wearDown_54 : decode cX4_wearDown 54 = .ok (.return_, 1) := by decide +kernel
theorem dX4_wearDown_55 : decode cX4_wearDown 55 = .ok (.aload_n 0, 1) := by decide +kernel
theorem dX4_wearDown_56 : decode cX4_wearDown 56 = .ok (.getfield 73, 3) := by decide +kernel
theorem dX4_wearDown_59 : decode cX4_wearDown 59 = .ok (.iload 4, 2) := by decide +kernel
theorem dX4_wearDown_61 : decode cX4_wearDown 61 = .ok (.aload_n 0, 1) := by decide +kernel
theorem dX4_wearDown_62 : decode cX4_wearDown 62 = .ok (.getfield 73, 3) := by decide +kernel
theorem dX4_wearDown_65 : decode cX4_wearDown 65 = .ok (.iload 4, 2) := by decide +kernel
theorem dX4_wearDown_67 : decode cX4_wearDown 67 = .ok (.invokestatic 111, 3) := by decide +kernel
theorem dX4_wearDown_70 : decode cX4_wearDown 70 = .ok (.invokestatic 364, 3) := by decide +kernel
theorem dX4_wearDown_73 : decode cX4_wearDown 73 = .ok (.invokestatic 115, 3) := by decide +kernel
theorem dX4_wearDown_76 : decode cX4_wearDown 76 = .ok (.iload 4, 2) := by decide +kernel
theorem dX4_wearDown_78 : decode cX4_wearDown 78 = .ok (.iconst 1, 1) := by decide +kernel
theorem dX4_wearDown_79 : decode cX4_wearDown 79 = .ok (.iadd, 1) := by decide +kernel
theorem dX4_wearDown_80 : decode cX4_wearDown 80 = .ok (.istore_n 2, 1) := by decide +kernel
theorem dX4_wearDown_81 : decode cX4_wearDown 81 = .ok (.iinc 3 1, 3) := by decide +kernel
theorem dX4_wearDown_84 : decode cX4_wearDown 84 = .ok (.goto (-48), 3) := by decide +kernel
theorem dX4_wearDown_87 : decode cX4_wearDown 87 = .ok (.return_, 1) := by decide +kernel
theorem dX4_nextRaised_0 : decode cX4_nextRaised 0 = .ok (.iconst 0, 1) := by decide +kernel
theorem dX4_nextRaised_1 : decode cX4_nextRaised 1 = .ok (.istore_n 2, 1) := by decide +kernel
theorem dX4_nextRaised_2 : decode cX4_nextRaised 2 = .ok (.iload_n 2, 1) := by decide +kernel
theorem dX4_nextRaised_3 : decode cX4_nextRaised 3 = .ok (.aload_n 0, 1) := by decide +kernel
theorem dX4_nextRaised_4 : decode cX4_nextRaised 4 = .ok (.getfield 152, 3) := by decide +kernel
theorem dX4_nextRaised_7 : decode cX4_nextRaised 7 = .ok (.if_icmp .ge 47, 3) := by decide +kernel
theorem dX4_nextRaised_10 : decode cX4_nextRaised 10 = .ok (.iload_n 1, 1) := by decide +kernel
theorem dX4_nextRaised_11 : decode cX4_nextRaised 11 = .ok (.iload_n 2, 1) := by decide +kernel
theorem dX4_nextRaised_12 : decode cX4_nextRaised 12 = .ok (.iadd, 1) := by decide +kernel
theorem dX4_nextRaised_13 : decode cX4_nextRaised 13 = .ok (.aload_n 0, 1) := by decide +kernel
theorem dX4_nextRaised_14 : decode cX4_nextRaised 14 = .ok (.getfield 152, 3) := by decide +kernel
theorem dX4_nextRaised_17 : decode cX4_nextRaised 17 = .ok (.if_icmp .ge 9, 3) := by decide +kernel
theorem dX4_nextRaised_20 : decode cX4_nextRaised 20 = .ok (.iload_n 1, 1) := by decide +kernel
theorem dX4_nextRaised_21 : decode cX4_nextRaised 21 = .ok (.iload_n 2, 1) := by decide +kernel
theorem dX4_nextRaised_22 : decode cX4_nextRaised 22 = .ok (.iadd, 1) := by decide +kernel
theorem dX4_nextRaised_23 : decode cX4_nextRaised 23 = .ok (.goto 11, 3) := by decide +kernel
theorem dX4_nextRaised_26 : decode cX4_nextRaised 26 = .ok (.iload_n 1, 1) := by decide +kernel
theorem dX4_nextRaised_27 : decode cX4_nextRaised 27 = .ok (.iload_n 2, 1) := by decide +kernel
theorem dX4_nextRaised_28 : decode cX4_nextRaised 28 = .ok (.iadd, 1) := by decide +kernel
theorem dX4_nextRaised_29 : decode cX4_nextRaised 29 = .ok (.aload_n 0, 1) := by decide +kernel
theorem dX4_nextRaised_30 : decode cX4_nextRaised 30 = .ok (.getfield 152, 3) := by decide +kernel
theorem dX4_nextRaised_33 : decode cX4_nextRaised 33 = .ok (.isub, 1) := by decide +kernel
theorem dX4_nextRaised_34 : decode cX4_nextRaised 34 = .ok (.istore_n 3, 1) := by decide +kernel
theorem dX4_nextRaised_35 : decode cX4_nextRaised 35 = .ok (.aload_n 0, 1) := by decide +kernel
theorem dX4_nextRaised_36 : decode cX4_nextRaised 36 = .ok (.getfield 73, 3) := by decide +kernel
theorem dX4_nextRaised_39 : decode cX4_nextRaised 39 = .ok (.iload_n 3, 1) := by decide +kernel
theorem dX4_nextRaised_40 : decode cX4_nextRaised 40 = .ok (.invokestatic 111, 3) := by decide +kernel
theorem dX4_nextRaised_43 : decode cX4_nextRaised 43 = .ok (.ifCond .eq 5, 3) := by decide +kernel
theorem dX4_nextRaised_46 : decode cX4_nextRaised 46 = .ok (.iload_n 3, 1) := by decide +kernel
theorem dX4_nextRaised_47 : decode cX4_nextRaised 47 = .ok (.ireturn, 1) := by decide +kernel
theorem dX4_nextRaised_48 : decode cX4_nextRaised 48 = .ok (.iinc 2 1, 3) := by decide +kernel
theorem dX4_nextRaised_51 : decode cX4_nextRaised 51 = .ok (.goto (-49), 3) := by decide +kernel
theorem dX4_nextRaised_54 : decode cX4_nextRaised 54 = .ok (.iconst (-1), 1) := by decide +kernel
theorem dX4_nextRaised_55 : decode cX4_nextRaised 55 = .ok (.ireturn, 1) := by decide +kernel
theorem dX4_withoutGreatestPoint_0 : decode cX4_withoutGreatestPoint 0 = .ok (.iconst 5, 1) := by decide +kernel
theorem dX4_withoutGreatestPoint_1 : decode cX4_withoutGreatestPoint 1 = .ok (.istore_n 1, 1) := by decide +kernel
theorem dX4_withoutGreatestPoint_2 : decode cX4_withoutGreatestPoint 2 = .ok (.iload_n 1, 1) := by decide +kernel
theorem dX4_withoutGreatestPoint_3 : decode cX4_withoutGreatestPoint 3 = .ok (.ifCond .lt 25, 3) := by decide +kernel
theorem dX4_withoutGreatestPoint_6 : decode cX4_withoutGreatestPoint 6 = .ok (.iload_n 0, 1) := by decide +kernel
theorem dX4_withoutGreatestPoint_7 : decode cX4_withoutGreatestPoint 7 = .ok (.iconst 1, 1) := by decide +kernel
theorem dX4_withoutGreatestPoint_8 : decode cX4_withoutGreatestPoint 8 = .ok (.iload_n 1, 1) := by decide +kernel
theorem dX4_withoutGreatestPoint_9 : decode cX4_withoutGreatestPoint 9 = .ok (.ishl, 1) := by decide +kernel
theorem dX4_withoutGreatestPoint_10 : decode cX4_withoutGreatestPoint 10 = .ok (.iand, 1) := by decide +kernel
theorem dX4_withoutGreatestPoint_11 : decode cX4_withoutGreatestPoint 11 = .ok (.ifCond .eq 11, 3) := by decide +kernel
theorem dX4_withoutGreatestPoint_14 : decode cX4_withoutGreatestPoint 14 = .ok (.iload_n 0, 1) := by decide +kernel
theorem dX4_withoutGreatestPoint_15 : decode cX4_withoutGreatestPoint 15 = .ok (.iconst 1, 1) := by decide +kernel
theorem dX4_withoutGreatestPoint_16 : decode cX4_withoutGreatestPoint 16 = .ok (.iload_n 1, 1) := by decide +kernel
theorem dX4_withoutGreatestPoint_17 : decode cX4_withoutGreatestPoint 17 = .ok (.ishl, 1) := by decide +kernel
theorem dX4_withoutGreatestPoint_18 : decode cX4_withoutGreatestPoint 18 = .ok (.iconst (-1), 1) := by decide +kernel
theorem dX4_withoutGreatestPoint_19 : decode cX4_withoutGreatestPoint 19 = .ok (.ixor, 1) := by decide +kernel
theorem dX4_withoutGreatestPoint_20 : decode cX4_withoutGreatestPoint 20 = .ok (.iand, 1) := by decide +kernel
theorem dX4_withoutGreatestPoint_21 : decode cX4_withoutGreatestPoint 21 = .ok (.ireturn, 1) := by decide +kernel
theorem dX4_withoutGreatestPoint_22 : decode cX4_withoutGreatestPoint 22 = .ok (.iinc 1 (-1), 3) := by decide +kernel
theorem dX4_withoutGreatestPoint_25 : decode cX4_withoutGreatestPoint 25 = .ok (.goto (-23), 3) := by decide +kernel
theorem dX4_withoutGreatestPoint_28 : decode cX4_withoutGreatestPoint 28 = .ok (.iconst 0, 1) := by decide +kernel
theorem dX4_withoutGreatestPoint_29 : decode cX4_withoutGreatestPoint 29 = .ok (.ireturn, 1) := by decide +kernel
theorem dX4_sheetAt_0 : decode cX4_sheetAt 0 = .ok (.iload_n 1, 1) := by decide +kernel
theorem dX4_sheetAt_1 : decode cX4_sheetAt 1 = .ok (.ifCond .lt 21, 3) := by decide +kernel
theorem dX4_sheetAt_4 : decode cX4_sheetAt 4 = .ok (.iload_n 1, 1) := by decide +kernel
theorem dX4_sheetAt_5 : decode cX4_sheetAt 5 = .ok (.aload_n 0, 1) := by decide +kernel
theorem dX4_sheetAt_6 : decode cX4_sheetAt 6 = .ok (.getfield 68, 3) := by decide +kernel
theorem dX4_sheetAt_9 : decode cX4_sheetAt 9 = .ok (.arraylength, 1) := by decide +kernel
theorem dX4_sheetAt_10 : decode cX4_sheetAt 10 = .ok (.if_icmp .ge 12, 3) := by decide +kernel
theorem dX4_sheetAt_13 : decode cX4_sheetAt 13 = .ok (.aload_n 0, 1) := by decide +kernel
theorem dX4_sheetAt_14 : decode cX4_sheetAt 14 = .ok (.getfield 68, 3) := by decide +kernel
theorem dX4_sheetAt_17 : decode cX4_sheetAt 17 = .ok (.iload_n 1, 1) := by decide +kernel
theorem dX4_sheetAt_18 : decode cX4_sheetAt 18 = .ok (.aaload, 1) := by decide +kernel
theorem dX4_sheetAt_19 : decode cX4_sheetAt 19 = .ok (.goto 4, 3) := by decide +kernel
theorem dX4_sheetAt_22 : decode cX4_sheetAt 22 = .ok (.aconst_null, 1) := by decide +kernel
theorem dX4_sheetAt_23 : decode cX4_sheetAt 23 = .ok (.areturn, 1) := by decide +kernel
theorem dX4_find_0 : decode cX4_find 0 = .ok (.aload_n 0, 1) := by decide +kernel
theorem dX4_find_1 : decode cX4_find 1 = .ok (.iload_n 1, 1) := by decide +kernel
theorem dX4_find_2 : decode cX4_find 2 = .ok (.putfield 233, 3) := by decide +kernel
theorem dX4_find_5 : decode cX4_find 5 = .ok (.bipush (-10), 2) := by decide +kernel
theorem dX4_find_7 : decode cX4_find 7 = .ok (.iload_n 1, 1) := by decide +kernel
theorem dX4_find_8 : decode cX4_find 8 = .ok (.isub, 1) := by decide +kernel
theorem dX4_find_9 : decode cX4_find 9 = .ok (.ireturn, 1) := by decide +kernel
theorem dX4_itemFinding_0 : decode cX4_itemFinding 0 = .ok (.aload_n 0, 1) := by decide +kernel
theorem dX4_itemFinding_1 : decode cX4_itemFinding 1 = .ok (.ifnull 10, 3) := by decide +kernel
theorem dX4_itemFinding_4 : decode cX4_itemFinding 4 = .ok (.aload_n 0, 1) := by decide +kernel
theorem dX4_itemFinding_5 : decode cX4_itemFinding 5 = .ok (.invokevirtual 126, 3) := by decide +kernel
theorem dX4_itemFinding_8 : decode cX4_itemFinding 8 = .ok (.ifCond .eq 5, 3) := by decide +kernel
theorem dX4_itemFinding_11 : decode cX4_itemFinding 11 = .ok (.iconst 1, 1) := by decide +kernel
theorem dX4_itemFinding_12 : decode cX4_itemFinding 12 = .ok (.ireturn, 1) := by decide +kernel
theorem dX4_itemFinding_13 : decode cX4_itemFinding 13 = .ok (.aload_n 0, 1) := by decide +kernel
theorem dX4_itemFinding_14 : decode cX4_itemFinding 14 = .ok (.getfield 236, 3) := by decide +kernel
theorem dX4_itemFinding_17 : decode cX4_itemFinding 17 = .ok (.iload_n 1, 1) := by decide +kernel
theorem dX4_itemFinding_18 : decode cX4_itemFinding 18 = .ok (.if_icmp .eq 5, 3) := by decide +kernel
theorem dX4_itemFinding_21 : decode cX4_itemFinding 21 = .ok (.iconst 3, 1) := by decide +kernel
theorem dX4_itemFinding_22 : decode cX4_itemFinding 22 = .ok (.ireturn, 1) := by decide +kernel
theorem dX4_itemFinding_23 : decode cX4_itemFinding 23 = .ok (.iload_n 2, 1) := by decide +kernel
theorem dX4_itemFinding_24 : decode cX4_itemFinding 24 = .ok (.iconst 0, 1) := by decide +kernel
theorem dX4_itemFinding_25 : decode cX4_itemFinding 25 = .ok (.aload_n 0, 1) := by decide +kernel
theorem dX4_itemFinding_26 : decode cX4_itemFinding 26 = .ok (.getfield 133, 3) := by decide +kernel
theorem dX4_itemFinding_29 : decode cX4_itemFinding 29 = .ok (.iconst 1, 1) := by decide +kernel
theorem dX4_itemFinding_30 : decode cX4_itemFinding 30 = .ok (.isub, 1) := by decide +kernel
theorem dX4_itemFinding_31 : decode cX4_itemFinding 31 = .ok (.invokestatic 83, 3) := by decide +kernel
theorem dX4_itemFinding_34 : decode cX4_itemFinding 34 = .ok (.ifCond .eq 7, 3) := by decide +kernel
theorem dX4_itemFinding_37 : decode cX4_itemFinding 37 = .ok (.iconst 0, 1) := by decide +kernel
theorem dX4_itemFinding_38 : decode cX4_itemFinding 38 = .ok (.goto 4, 3) := by decide +kernel
theorem dX4_itemFinding_41 : decode cX4_itemFinding 41 = .ok (.iconst 2, 1) := by decide +kernel
theorem dX4_itemFinding_42 : decode cX4_itemFinding 42 = .ok (.ireturn, 1) := by decide +kernel
theorem dJ6_bitCount_0f7a4_0 : decode cJ6_bitCount_0f7a4 0 = .ok (.iload_n 0, 1) := by decide +kernel
theorem dJ6_bitCount_0f7a4_1 : decode cJ6_bitCount_0f7a4 1 = .ok (.iload_n 0, 1) := by decide +kernel
theorem dJ6_bitCount_0f7a4_2 : decode cJ6_bitCount_0f7a4 2 = .ok (.iconst 1, 1) := by decide +kernel
theorem dJ6_bitCount_0f7a4_3 : decode cJ6_bitCount_0f7a4 3 = .ok (.iushr, 1) := by decide +kernel
theorem dJ6_bitCount_0f7a4_4 : decode cJ6_bitCount_0f7a4 4 = .ok (.ldc_w 265, 3) := by decide +kernel
theorem dJ6_bitCount_0f7a4_7 : decode cJ6_bitCount_0f7a4 7 = .ok (.iand, 1) := by decide +kernel
theorem dJ6_bitCount_0f7a4_8 : decode cJ6_bitCount_0f7a4 8 = .ok (.isub, 1) := by decide +kernel
theorem dJ6_bitCount_0f7a4_9 : decode cJ6_bitCount_0f7a4 9 = .ok (.istore_n 0, 1) := by decide +kernel
theorem dJ6_bitCount_0f7a4_10 : decode cJ6_bitCount_0f7a4 10 = .ok (.iload_n 0, 1) := by decide +kernel
theorem dJ6_bitCount_0f7a4_11 : decode cJ6_bitCount_0f7a4 11 = .ok (.ldc_w 266, 3) := by decide +kernel
theorem dJ6_bitCount_0f7a4_14 : decode cJ6_bitCount_0f7a4 14 = .ok (.iand, 1) := by decide +kernel
theorem dJ6_bitCount_0f7a4_15 : decode cJ6_bitCount_0f7a4 15 = .ok (.iload_n 0, 1) := by decide +kernel
theorem dJ6_bitCount_0f7a4_16 : decode cJ6_bitCount_0f7a4 16 = .ok (.iconst 2, 1) := by decide +kernel
theorem dJ6_bitCount_0f7a4_17 : decode cJ6_bitCount_0f7a4 17 = .ok (.iushr, 1) := by decide +kernel
theorem dJ6_bitCount_0f7a4_18 : decode cJ6_bitCount_0f7a4 18 = .ok (.ldc_w 266, 3) := by decide +kernel
theorem dJ6_bitCount_0f7a4_21 : decode cJ6_bitCount_0f7a4 21 = .ok (.iand, 1) := by decide +kernel
theorem dJ6_bitCount_0f7a4_22 : decode cJ6_bitCount_0f7a4 22 = .ok (.iadd, 1) := by decide +kernel
theorem dJ6_bitCount_0f7a4_23 : decode cJ6_bitCount_0f7a4 23 = .ok (.istore_n 0, 1) := by decide +kernel
theorem dJ6_bitCount_0f7a4_24 : decode cJ6_bitCount_0f7a4 24 = .ok (.iload_n 0, 1) := by decide +kernel
theorem dJ6_bitCount_0f7a4_25 : decode cJ6_bitCount_0f7a4 25 = .ok (.iload_n 0, 1) := by decide +kernel
theorem dJ6_bitCount_0f7a4_26 : decode cJ6_bitCount_0f7a4 26 = .ok (.iconst 4, 1) := by decide +kernel
theorem dJ6_bitCount_0f7a4_27 : decode cJ6_bitCount_0f7a4 27 = .ok (.iushr, 1) := by decide +kernel
theorem dJ6_bitCount_0f7a4_28 : decode cJ6_bitCount_0f7a4 28 = .ok (.iadd, 1) := by decide +kernel
theorem dJ6_bitCount_0f7a4_29 : decode cJ6_bitCount_0f7a4 29 = .ok (.ldc_w 267, 3) := by decide +kernel
theorem dJ6_bitCount_0f7a4_32 : decode cJ6_bitCount_0f7a4 32 = .ok (.iand, 1) := by decide +kernel
theorem dJ6_bitCount_0f7a4_33 : decode cJ6_bitCount_0f7a4 33 = .ok (.istore_n 0, 1) := by decide +kernel
theorem dJ6_bitCount_0f7a4_34 : decode cJ6_bitCount_0f7a4 34 = .ok (.iload_n 0, 1) := by decide +kernel
theorem dJ6_bitCount_0f7a4_35 : decode cJ6_bitCount_0f7a4 35 = .ok (.iload_n 0, 1) := by decide +kernel
theorem dJ6_bitCount_0f7a4_36 : decode cJ6_bitCount_0f7a4 36 = .ok (.bipush 8, 2) := by decide +kernel
theorem dJ6_bitCount_0f7a4_38 : decode cJ6_bitCount_0f7a4 38 = .ok (.iushr, 1) := by decide +kernel
theorem dJ6_bitCount_0f7a4_39 : decode cJ6_bitCount_0f7a4 39 = .ok (.iadd, 1) := by decide +kernel
theorem dJ6_bitCount_0f7a4_40 : decode cJ6_bitCount_0f7a4 40 = .ok (.istore_n 0, 1) := by decide +kernel
theorem dJ6_bitCount_0f7a4_41 : decode cJ6_bitCount_0f7a4 41 = .ok (.iload_n 0, 1) := by decide +kernel
theorem dJ6_bitCount_0f7a4_42 : decode cJ6_bitCount_0f7a4 42 = .ok (.iload_n 0, 1) := by decide +kernel
theorem dJ6_bitCount_0f7a4_43 : decode cJ6_bitCount_0f7a4 43 = .ok (.bipush 16, 2) := by decide +kernel
theorem dJ6_bitCount_0f7a4_45 : decode cJ6_bitCount_0f7a4 45 = .ok (.iushr, 1) := by decide +kernel
theorem dJ6_bitCount_0f7a4_46 : decode cJ6_bitCount_0f7a4 46 = .ok (.iadd, 1) := by decide +kernel
theorem dJ6_bitCount_0f7a4_47 : decode cJ6_bitCount_0f7a4 47 = .ok (.istore_n 0, 1) := by decide +kernel
theorem dJ6_bitCount_0f7a4_48 : decode cJ6_bitCount_0f7a4 48 = .ok (.iload_n 0, 1) := by decide +kernel
theorem dJ6_bitCount_0f7a4_49 : decode cJ6_bitCount_0f7a4 49 = .ok (.bipush 63, 2) := by decide +kernel
theorem dJ6_bitCount_0f7a4_51 : decode cJ6_bitCount_0f7a4 51 = .ok (.iand, 1) := by decide +kernel
theorem dJ6_bitCount_0f7a4_52 : decode cJ6_bitCount_0f7a4 52 = .ok (.ireturn, 1) := by decide +kernel
theorem dJ9_max_7cf53_0 : decode cJ9_max_7cf53 0 = .ok (.iload_n 0, 1) := by decide +kernel
theorem dJ9_max_7cf53_1 : decode cJ9_max_7cf53 1 = .ok (.iload_n 1, 1) := by decide +kernel
theorem dJ9_max_7cf53_2 : decode cJ9_max_7cf53 2 = .ok (.if_icmp .lt 7, 3) := by decide +kernel
theorem dJ9_max_7cf53_5 : decode cJ9_max_7cf53 5 = .ok (.iload_n 0, 1) := by decide +kernel
theorem dJ9_max_7cf53_6 : decode cJ9_max_7cf53 6 = .ok (.goto 4, 3) := by decide +kernel
theorem dJ9_max_7cf53_9 : decode cJ9_max_7cf53 9 = .ok (.iload_n 1, 1) := by decide +kernel
theorem dJ9_max_7cf53_10 : decode cJ9_max_7cf53 10 = .ok (.ireturn, 1) := by decide +kernel
theorem dJ9_min_7cf53_0 : decode cJ9_min_7cf53 0 = .ok (.iload_n 0, 1) := by decide +kernel
theorem dJ9_min_7cf53_1 : decode cJ9_min_7cf53 1 = .ok (.iload_n 1, 1) := by decide +kernel
theorem dJ9_min_7cf53_2 : decode cJ9_min_7cf53 2 = .ok (.if_icmp .gt 7, 3) := by decide +kernel
theorem dJ9_min_7cf53_5 : decode cJ9_min_7cf53 5 = .ok (.iload_n 0, 1) := by decide +kernel
theorem dJ9_min_7cf53_6 : decode cJ9_min_7cf53 6 = .ok (.goto 4, 3) := by decide +kernel
theorem dJ9_min_7cf53_9 : decode cJ9_min_7cf53 9 = .ok (.iload_n 1, 1) := by decide +kernel
theorem dJ9_min_7cf53_10 : decode cJ9_min_7cf53 10 = .ok (.ireturn, 1) := by decide +kernel
theorem dJ7_fill_53178_0 : decode cJ7_fill_53178 0 = .ok (.iconst 0, 1) := by decide +kernel
theorem dJ7_fill_53178_1 : decode cJ7_fill_53178 1 = .ok (.istore_n 2, 1) := by decide +kernel
theorem dJ7_fill_53178_2 : decode cJ7_fill_53178 2 = .ok (.aload_n 0, 1) := by decide +kernel
theorem dJ7_fill_53178_3 : decode cJ7_fill_53178 3 = .ok (.arraylength, 1) := by decide +kernel
theorem dJ7_fill_53178_4 : decode cJ7_fill_53178 4 = .ok (.istore_n 3, 1) := by decide +kernel
theorem dJ7_fill_53178_5 : decode cJ7_fill_53178 5 = .ok (.iload_n 2, 1) := by decide +kernel
theorem dJ7_fill_53178_6 : decode cJ7_fill_53178 6 = .ok (.iload_n 3, 1) := by decide +kernel
theorem dJ7_fill_53178_7 : decode cJ7_fill_53178 7 = .ok (.if_icmp .ge 13, 3) := by decide +kernel
theorem dJ7_fill_53178_10 : decode cJ7_fill_53178 10 = .ok (.aload_n 0, 1) := by decide +kernel
theorem dJ7_fill_53178_11 : decode cJ7_fill_53178 11 = .ok (.iload_n 2, 1) := by decide +kernel
theorem dJ7_fill_53178_12 : decode cJ7_fill_53178 12 = .ok (.iload_n 1, 1) := by decide +kernel
theorem dJ7_fill_53178_13 : decode cJ7_fill_53178 13 = .ok (.iastore, 1) := by decide +kernel
theorem dJ7_fill_53178_14 : decode cJ7_fill_53178 14 = .ok (.iinc 2 1, 3) := by decide +kernel
theorem dJ7_fill_53178_17 : decode cJ7_fill_53178 17 = .ok (.goto (-12), 3) := by decide +kernel
theorem dJ7_fill_53178_20 : decode cJ7_fill_53178 20 = .ok (.return_, 1) := by decide +kernel
