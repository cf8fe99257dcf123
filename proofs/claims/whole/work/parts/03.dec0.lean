theorem dX0_init_0 : decode cX0_init 0 = .ok (.aload_n 0, 1) := by decide +kernel
theorem dX0_init_1 : decode cX0_init 1 = .ok (.invokespecial 3, 3) := by decide +kernel
theorem dX0_init_4 : decode cX0_init 4 = .ok (.aload_n 0, 1) := by decide +kernel
theorem dX0_init_5 : decode cX0_init 5 = .ok (.bipush 20, 2) := by decide +kernel
theorem dX0_init_7 : decode cX0_init 7 = .ok (.newarray .int, 2) := by decide +kernel
theorem dX0_init_9 : decode cX0_init 9 = .ok (.putfield 9, 3) := by decide +kernel
theorem dX0_init_12 : decode cX0_init 12 = .ok (.aload_n 0, 1) := by decide +kernel
theorem dX0_init_13 : decode cX0_init 13 = .ok (.bipush 20, 2) := by decide +kernel
theorem dX0_init_15 : decode cX0_init 15 = .ok (.newarray .boolean, 2) := by decide +kernel
theorem dX0_init_17 : decode cX0_init 17 = .ok (.putfield 15, 3) := by decide +kernel
theorem dX0_init_20 : decode cX0_init 20 = .ok (.return_, 1) := by decide +kernel
theorem dX0_hasRoom_0 : decode cX0_hasRoom 0 = .ok (.aload_n 0, 1) := by decide +kernel
theorem dX0_hasRoom_1 : decode cX0_hasRoom 1 = .ok (.getfield 19, 3) := by decide +kernel
theorem dX0_hasRoom_4 : decode cX0_hasRoom 4 = .ok (.bipush 20, 2) := by decide +kernel
theorem dX0_hasRoom_6 : decode cX0_hasRoom 6 = .ok (.if_icmp .ge 7, 3) := by decide +kernel
theorem dX0_hasRoom_9 : decode cX0_hasRoom 9 = .ok (.iconst 1, 1) := by decide +kernel
theorem dX0_hasRoom_10 : decode cX0_hasRoom 10 = .ok (.goto 4, 3) := by decide +kernel
theorem dX0_hasRoom_13 : decode cX0_hasRoom 13 = .ok (.iconst 0, 1) := by decide +kernel
theorem dX0_hasRoom_14 : decode cX0_hasRoom 14 = .ok (.ireturn, 1) := by decide +kernel
theorem dX0_enter_0 : decode cX0_enter 0 = .ok (.aload_n 0, 1) := by decide +kernel
theorem dX0_enter_1 : decode cX0_enter 1 = .ok (.invokevirtual 23, 3) := by decide +kernel
theorem dX0_enter_4 : decode cX0_enter 4 = .ok (.ifCond .ne 4, 3) := by decide +kernel
theorem dX0_enter_7 : decode cX0_enter 7 = .ok (.return_, 1) := by decide +kernel
theorem dX0_enter_8 : decode cX0_enter 8 = .ok (.aload_n 0, 1) := by decide +kernel
theorem dX0_enter_9 : decode cX0_enter 9 = .ok (.getfield 9, 3) := by decide +kernel
theorem dX0_enter_12 : decode cX0_enter 12 = .ok (.aload_n 0, 1) := by decide +kernel
theorem dX0_enter_13 : decode cX0_enter 13 = .ok (.getfield 19, 3) := by decide +kernel
theorem dX0_enter_16 : decode cX0_enter 16 = .ok (.iload_n 1, 1) := by decide +kernel
theorem dX0_enter_17 : decode cX0_enter 17 = .ok (.iastore, 1) := by decide +kernel
theorem dX0_enter_18 : decode cX0_enter 18 = .ok (.aload_n 0, 1) := by decide +kernel
theorem dX0_enter_19 : decode cX0_enter 19 = .ok (.getfield 15, 3) := by decide +kernel
theorem dX0_enter_22 : decode cX0_enter 22 = .ok (.aload_n 0, 1) := by decide +kernel
theorem dX0_enter_23 : decode cX0_enter 23 = .ok (.getfield 19, 3) := by decide +kernel
theorem dX0_enter_26 : decode cX0_enter 26 = .ok (.iload_n 2, 1) := by decide +kernel
theorem dX0_enter_27 : decode cX0_enter 27 = .ok (.bastore, 1) := by decide +kernel
theorem dX0_enter_28 : decode cX0_enter 28 = .ok (.aload_n 0, 1) := by decide +kernel
theorem dX0_enter_29 : decode cX0_enter 29 = .ok (.dup, 1) := by decide +kernel
theorem dX0_enter_30 : decode cX0_enter 30 = .ok (.getfield 19, 3) := by decide +kernel
theorem dX0_enter_33 : decode cX0_enter 33 = .ok (.iconst 1, 1) := by decide +kernel
theorem dX0_enter_34 : decode cX0_enter 34 = .ok (.iadd, 1) := by decide +kernel
theorem dX0_enter_35 : decode cX0_enter 35 = .ok (.putfield 19, 3) := by decide +kernel
theorem dX0_enter_38 : decode cX0_enter 38 = .ok (.return_, 1) := by decide +kernel
theorem dX0_firstWrong_0 : decode cX0_firstWrong 0 = .ok (.iconst 0, 1) := by decide +kernel
theorem dX0_firstWrong_1 : decode cX0_firstWrong 1 = .ok (.istore_n 2, 1) := by decide +kernel
theorem dX0_firstWrong_2 : decode cX0_firstWrong 2 = .ok (.iload_n 2, 1) := by decide +kernel
theorem dX0_firstWrong_3 : decode cX0_firstWrong 3 = .ok (.aload_n 0, 1) := by decide +kernel
theorem dX0_firstWrong_4 : decode cX0_firstWrong 4 = .ok (.getfield 19, 3) := by decide +kernel
theorem dX0_firstWrong_7 : decode cX0_firstWrong 7 = .ok (.if_icmp .ge 49, 3) := by decide +kernel
theorem dX0_firstWrong_10 : decode cX0_firstWrong 10 = .ok (.iload_n 2, 1) := by decide +kernel
theorem dX0_firstWrong_11 : decode cX0_firstWrong 11 = .ok (.bipush 20, 2) := by decide +kernel
theorem dX0_firstWrong_13 : decode cX0_firstWrong 13 = .ok (.if_icmp .ge 43, 3) := by decide +kernel
theorem dX0_firstWrong_16 : decode cX0_firstWrong 16 = .ok (.aload_n 1, 1) := by decide +kernel
theorem dX0_firstWrong_17 : decode cX0_firstWrong 17 = .ok (.aload_n 0, 1) := by decide +kernel
theorem dX0_firstWrong_18 : decode cX0_firstWrong 18 = .ok (.getfield 9, 3) := by decide +kernel
theorem dX0_firstWrong_21 : decode cX0_firstWrong 21 = .ok (.iload_n 2, 1) := by decide +kernel
theorem dX0_firstWrong_22 : decode cX0_firstWrong 22 = .ok (.iaload, 1) := by decide +kernel
theorem dX0_firstWrong_23 : decode cX0_firstWrong 23 = .ok (.invokevirtual 27, 3) := by decide +kernel
theorem dX0_firstWrong_26 : decode cX0_firstWrong 26 = .ok (.ifCond .eq 22, 3) := by decide +kernel
theorem dX0_firstWrong_29 : decode cX0_firstWrong 29 = .ok (.aload_n 1, 1) := by decide +kernel
theorem dX0_firstWrong_30 : decode cX0_firstWrong 30 = .ok (.aload_n 0, 1) := by decide +kernel
theorem dX0_firstWrong_31 : decode cX0_firstWrong 31 = .ok (.getfield 9, 3) := by decide +kernel
theorem dX0_firstWrong_34 : decode cX0_firstWrong 34 = .ok (.iload_n 2, 1) := by decide +kernel
theorem dX0_firstWrong_35 : decode cX0_firstWrong 35 = .ok (.iaload, 1) := by decide +kernel
theorem dX0_firstWrong_36 : decode cX0_firstWrong 36 = .ok (.invokevirtual 33, 3) := by decide +kernel
theorem dX0_firstWrong_39 : decode cX0_firstWrong 39 = .ok (.aload_n 0, 1) := by decide +kernel
theorem dX0_firstWrong_40 : decode cX0_firstWrong 40 = .ok (.getfield 15, 3) := by decide +kernel
theorem dX0_firstWrong_43 : decode cX0_firstWrong 43 = .ok (.iload_n 2, 1) := by decide +kernel
theorem dX0_firstWrong_44 : decode cX0_firstWrong 44 = .ok (.baload, 1) := by decide +kernel
theorem dX0_firstWrong_45 : decode cX0_firstWrong 45 = .ok (.if_icmp .eq 5, 3) := by decide +kernel
theorem dX0_firstWrong_48 : decode cX0_firstWrong 48 = .ok (.iload_n 2, 1) := by decide +kernel
theorem dX0_firstWrong_49 : decode cX0_firstWrong 49 = .ok (.ireturn, 1) := by decide +kernel
theorem dX0_firstWrong_50 : decode cX0_firstWrong 50 = .ok (.iinc 2 1, 3) := by decide +kernel
theorem dX0_firstWrong_53 : decode cX0_firstWrong 53 = .ok (.goto (-51), 3) := by decide +kernel
theorem dX0_firstWrong_56 : decode cX0_firstWrong 56 = .ok (.iconst (-1), 1) := by decide +kernel
theorem dX0_firstWrong_57 : decode cX0_firstWrong 57 = .ok (.ireturn, 1) := by decide +kernel
theorem dX1_init_0 : decode cX1_init 0 = .ok (.aload_n 0, 1) := by decide +kernel
theorem dX1_init_1 : decode cX1_init 1 = .ok (.invokespecial 3, 3) := by decide +kernel
theorem dX1_init_4 : decode cX1_init 4 = .ok (.aload_n 0, 1) := by decide +kernel
theorem dX1_init_5 : decode cX1_init 5 = .ok (.bipush 20, 2) := by decide +kernel
theorem dX1_init_7 : decode cX1_init 7 = .ok (.anewarray 9, 3) := by decide +kernel
theorem dX1_init_10 : decode cX1_init 10 = .ok (.putfield 11, 3) := by decide +kernel
theorem dX1_init_13 : decode cX1_init 13 = .ok (.iconst 0, 1) := by decide +kernel
theorem dX1_init_14 : decode cX1_init 14 = .ok (.istore_n 1, 1) := by decide +kernel
theorem dX1_init_15 : decode cX1_init 15 = .ok (.iload_n 1, 1) := by decide +kernel
theorem dX1_init_16 : decode cX1_init 16 = .ok (.aload_n 0, 1) := by decide +kernel
theorem dX1_init_17 : decode cX1_init 17 = .ok (.getfield 11, 3) := by decide +kernel
theorem dX1_init_20 : decode cX1_init 20 = .ok (.arraylength, 1) := by decide +kernel
theorem dX1_init_21 : decode cX1_init 21 = .ok (.if_icmp .ge 22, 3) := by decide +kernel
theorem dX1_init_24 : decode cX1_init 24 = .ok (.aload_n 0, 1) := by decide +kernel
theorem dX1_init_25 : decode cX1_init 25 = .ok (.getfield 11, 3) := by decide +kernel
theorem dX1_init_28 : decode cX1_init 28 = .ok (.iload_n 1, 1) := by decide +kernel
theorem dX1_init_29 : decode cX1_init 29 = .ok (.new 9, 3) := by decide +kernel
theorem dX1_init_32 : decode cX1_init 32 = .ok (.dup, 1) := by decide +kernel
theorem dX1_init_33 : decode cX1_init 33 = .ok (.invokespecial 17, 3) := by decide +kernel
theorem dX1_init_36 : decode cX1_init 36 = .ok (.aastore, 1) := by decide +kernel
theorem dX1_init_37 : decode cX1_init 37 = .ok (.iinc 1 1, 3) := by decide +kernel
theorem dX1_init_40 : decode cX1_init 40 = .ok (.goto (-25), 3) := by decide +kernel
theorem dX1_init_43 : decode cX1_init 43 = .ok (.return_, 1) := by decide +kernel
theorem dX1_remember_0 : decode cX1_remember 0 = .ok (.aload_n 0, 1) := by decide +kernel
theorem dX1_remember_1 : decode cX1_remember 1 = .ok (.getfield 11, 3) := by decide +kernel
theorem dX1_remember_4 : decode cX1_remember 4 = .ok (.aload_n 0, 1) := by decide +kernel
theorem dX1_remember_5 : decode cX1_remember 5 = .ok (.getfield 18, 3) := by decide +kernel
theorem dX1_remember_8 : decode cX1_remember 8 = .ok (.aaload, 1) := by decide +kernel
theorem dX1_remember_9 : decode cX1_remember 9 = .ok (.aload_n 1, 1) := by decide +kernel
theorem dX1_remember_10 : decode cX1_remember 10 = .ok (.invokevirtual 22, 3) := by decide +kernel
theorem dX1_remember_13 : decode cX1_remember 13 = .ok (.aload_n 0, 1) := by decide +kernel
theorem dX1_remember_14 : decode cX1_remember 14 = .ok (.aload_n 0, 1) := by decide +kernel
theorem dX1_remember_15 : decode cX1_remember 15 = .ok (.getfield 18, 3) := by decide +kernel
theorem dX1_remember_18 : decode cX1_remember 18 = .ok (.iconst 1, 1) := by decide +kernel
theorem dX1_remember_19 : decode cX1_remember 19 = .ok (.iadd, 1) := by decide +kernel
theorem dX1_remember_20 : decode cX1_remember 20 = .ok (.aload_n 0, 1) := by decide +kernel
theorem dX1_remember_21 : decode cX1_remember 21 = .ok (.getfield 11, 3) := by decide +kernel
theorem dX1_remember_24 : decode cX1_remember 24 = .ok (.arraylength, 1) := by decide +kernel
theorem dX1_remember_25 : decode cX1_remember 25 = .ok (.if_icmp .ge 12, 3) := by decide +kernel
theorem dX1_remember_28 : decode cX1_remember 28 = .ok (.aload_n 0, 1) := by decide +kernel
theorem dX1_remember_29 : decode cX1_remember 29 = .ok (.getfield 18, 3) := by decide +kernel
theorem dX1_remember_32 : decode cX1_remember 32 = .ok (.iconst 1, 1) := by decide +kernel
theorem dX1_remember_33 : decode cX1_remember 33 = .ok (.iadd, 1) := by decide +kernel
theorem dX1_remember_34 : decode cX1_remember 34 = .ok (.goto 4, 3) := by decide +kernel
theorem dX1_remember_37 : decode cX1_remember 37 = .ok (.iconst 0, 1) := by decide +kernel
theorem dX1_remember_38 : decode cX1_remember 38 = .ok (.putfield 18, 3) := by decide +kernel
theorem dX1_remember_41 : decode cX1_remember 41 = .ok (.aload_n 0, 1) := by decide +kernel
theorem dX1_remember_42 : decode cX1_remember 42 = .ok (.aload_n 0, 1) := by decide +kernel
theorem dX1_remember_43 : decode cX1_remember 43 = .ok (.getfield 26, 3) := by decide +kernel
theorem dX1_remember_46 : decode cX1_remember 46 = .ok (.iconst 1, 1) := by decide +kernel
theorem dX1_remember_47 : decode cX1_remember 47 = .ok (.iadd, 1) := by decide +kernel
theorem dX1_remember_48 : decode cX1_remember 48 = .ok (.aload_n 0, 1) := by decide +kernel
theorem dX1_remember_49 : decode cX1_remember 49 = .ok (.getfield 11, 3) := by decide +kernel
theorem dX1_remember_52 : decode cX1_remember 52 = .ok (.arraylength, 1) := by decide +kernel
theorem dX1_remember_53 : decode cX1_remember 53 = .ok (.invokestatic 29, 3) := by decide +kernel
theorem dX1_remember_56 : decode cX1_remember 56 = .ok (.putfield 26, 3) := by decide +kernel
theorem dX1_remember_59 : decode cX1_remember 59 = .ok (.return_, 1) := by decide +kernel
theorem dX1_takeBack_0 : decode cX1_takeBack 0 = .ok (.iload_n 1, 1) := by decide +kernel
theorem dX1_takeBack_1 : decode cX1_takeBack 1 = .ok (.iconst 1, 1) := by decide +kernel
theorem dX1_takeBack_2 : decode cX1_takeBack 2 = .ok (.if_icmp .lt 11, 3) := by decide +kernel
theorem dX1_takeBack_5 : decode cX1_takeBack 5 = .ok (.iload_n 1, 1) := by decide +kernel
theorem dX1_takeBack_6 : decode cX1_takeBack 6 = .ok (.aload_n 0, 1) := by decide +kernel
theorem dX1_takeBack_7 : decode cX1_takeBack 7 = .ok (.getfield 26, 3) := by decide +kernel
theorem dX1_takeBack_10 : decode cX1_takeBack 10 = .ok (.if_icmp .le 4, 3) := by decide +kernel
theorem dX1_takeBack_13 : decode cX1_takeBack 13 = .ok (.return_, 1) := by decide +kernel
theorem dX1_takeBack_14 : decode cX1_takeBack 14 = .ok (.aload_n 0, 1) := by decide +kernel
theorem dX1_takeBack_15 : decode cX1_takeBack 15 = .ok (.aload_n 0, 1) := by decide +kernel
theorem dX1_takeBack_16 : decode cX1_takeBack 16 = .ok (.getfield 18, 3) := by decide +kernel
theorem dX1_takeBack_19 : decode cX1_takeBack 19 = .ok (.iload_n 1, 1) := by decide +kernel
theorem dX1_takeBack_20 : decode cX1_takeBack 20 = .ok (.if_icmp .lt 12, 3) := by decide +kernel
theorem dX1_takeBack_23 : decode cX1_takeBack 23 = .ok (.aload_n 0, 1) := by decide +kernel
theorem dX1_takeBack_24 : decode cX1_takeBack 24 = .ok (.getfield 18, 3) := by decide +kernel
theorem dX1_takeBack_27 : decode cX1_takeBack 27 = .ok (.iload_n 1, 1) := by decide +kernel
theorem dX1_takeBack_28 : decode cX1_takeBack 28 = .ok (.isub, 1) := by decide +kernel
theorem dX1_takeBack_29 : decode cX1_takeBack 29 = .ok (.goto 15, 3) := by decide +kernel
theorem dX1_takeBack_32 : decode cX1_takeBack 32 = .ok (.aload_n 0, 1) := by decide +kernel
theorem dX1_takeBack_33 : decode cX1_takeBack 33 = .ok (.getfield 18, 3) := by decide +kernel
theorem dX1_takeBack_36 : decode cX1_takeBack 36 = .ok (.iload_n 1, 1) := by decide +kernel
theorem dX1_takeBack_37 : decode cX1_takeBack 37 = .ok (.isub, 1) := by decide +kernel
theorem dX1_takeBack_38 : decode cX1_takeBack 38 = .ok (.aload_n 0, 1) := by decide +kernel
theorem dX1_takeBack_39 : decode cX1_takeBack 39 = .ok (.getfield 11, 3) := by decide +kernel
theorem dX1_takeBack_42 : decode cX1_takeBack 42 = .ok (.arraylength, 1) := by decide +kernel
theorem dX1_takeBack_43 : decode cX1_takeBack 43 = .ok (.iadd, 1) := by decide +kernel
theorem dX1_takeBack_44 : decode cX1_takeBack 44 = .ok (.putfield 18, 3) := by decide +kernel
theorem dX1_takeBack_47 : decode cX1_takeBack 47 = .ok (.aload_n 0, 1) := by decide +kernel
theorem dX1_takeBack_48 : decode cX1_takeBack 48 = .ok (.dup, 1) := by decide +kernel
theorem dX1_takeBack_49 : decode cX1_takeBack 49 = .ok (.getfield 26, 3) := by decide +kernel
theorem dX1_takeBack_52 : decode cX1_takeBack 52 = .ok (.iload_n 1, 1) := by decide +kernel
theorem dX1_takeBack_53 : decode cX1_takeBack 53 = .ok (.isub, 1) := by decide +kernel
theorem dX1_takeBack_54 : decode cX1_takeBack 54 = .ok (.putfield 26, 3) := by decide +kernel
theorem dX1_takeBack_57 : decode cX1_takeBack 57 = .ok (.aload_n 2, 1) := by decide +kernel
theorem dX1_takeBack_58 : decode cX1_takeBack 58 = .ok (.aload_n 0, 1) := by decide +kernel
theorem dX1_takeBack_59 : decode cX1_takeBack 59 = .ok (.getfield 11, 3) := by decide +kernel
theorem dX1_takeBack_62 : decode cX1_takeBack 62 = .ok (.aload_n 0, 1) := by decide +kernel
theorem dX1_takeBack_63 : decode cX1_takeBack 63 = .ok (.getfield 18, 3) := by decide +kernel
theorem dX1_takeBack_66 : decode cX1_takeBack 66 = .ok (.aaload, 1) := by decide +kernel
theorem dX1_takeBack_67 : decode cX1_takeBack 67 = .ok (.invokevirtual 22, 3) := by decide +kernel
theorem dX1_takeBack_70 : decode cX1_takeBack 70 = .ok (.return_, 1) := by decide +kernel
theorem dX1_forget_0 : decode cX1_forget 0 = .ok (.aload_n 0, 1) := by decide +kernel
theorem dX1_forget_1 : decode cX1_forget 1 = .ok (.iconst 0, 1) := by decide +kernel
theorem dX1_forget_2 : decode cX1_forget 2 = .ok (.putfield 26, 3) := by decide +kernel
theorem dX1_forget_5 : decode cX1_forget 5 = .ok (.return_, 1) := by decide +kernel
theorem dX2_init_0 : decode cX2_init 0 = .ok (.aload_n 0, 1) := by decide +kernel
theorem dX2_init_1 : decode cX2_init 1 = .ok (.invokespecial 1, 3) := by decide +kernel
theorem dX2_init_4 : decode cX2_init 4 = .ok (.aload_n 0, 1) := by decide +kernel
theorem dX2_init_5 : decode cX2_init 5 = .ok (.new 7, 3) := by decide +kernel
theorem dX2_init_8 : decode cX2_init 8 = .ok (.dup, 1) := by decide +kernel
theorem dX2_init_9 : decode cX2_init 9 = .ok (.invokespecial 9, 3) := by decide +kernel
theorem dX2_init_12 : decode cX2_init 12 = .ok (.putfield 10, 3) := by decide +kernel
theorem dX2_init_15 : decode cX2_init 15 = .ok (.return_, 1) := by decide +kernel
theorem dJ6_bitCount_0f7a4_0 : decode cJ6_bitCount_0f7a4 0 = .ok (.iload_n 0, 1) := by decide +kernel
theorem dJ6_bitCount_0f7a4_1 : decode cJ6_bitCount_0f7a4 1 = .ok (.iload_n 0, 1) := by decide +kernel
theorem dJ6_bitCount_0f7a4_2 : decode cJ6_bitCount_0f7a4 2 = .ok (.iconst 1, 1) := by decide +kernel
theorem dJ6_bitCount_0f7a4_3 : decode cJ6_bitCount_0f7a4 3 = .ok (.iushr, 1) := by decide +kernel
theorem dJ6_bitCount_0f7a4_4 : decode cJ6_bitCount_0f7a4 4 = .ok (.ldc_w 265, 3) := by decide +kernel
theorem dJ6_bitCount_0f7a4_7 : decode cJ6_bitCount_0f7a4 7 = .ok (.iand, 1) := by decide +kernel
theorem dJ6_bitCount_0f7a4_8 : decode cJ6_bitCount_0f7a4 8 = .ok (.isub, 1) := by decide +kernel
theorem dJ6_bitCount_0f7a4_9 : decode cJ6_bitCount_0f7a4 9 = .ok (.istore_n 0, 1) := by decide +kernel
theorem dJ6_bitCount_0f7a4_10 : decode cJ6_bitCount_0f7a4 10 = .ok (.iload_n 0, 1) := by decide +kernel
theorem dJ6_bitCount_0f7a4_11 : decode cJ6_bitCount_0f7a4 11 = .ok (.ldc_w 266, 3) := by decide +kernel
theorem dJ6_bitCount_0f7a4_14 : decode cJ6_bitCount_0f7a4 14 = .ok (.iand, 1) := by decide +kernel
theorem dJ6_bitCount_0f7a4_15 : decode cJ6_bitCount_0f7a4 15 = .ok (.iload_n 0, 1) := by decide +kernel
theorem dJ6_bitCount_0f7a4_16 : decode cJ6_bitCount_0f7a4 16 = .ok (.iconst 2, 1) := by decide +kernel
theorem dJ6_bitCount_0f7a4_17 : decode cJ6_bitCount_0f7a4 17 = .ok (.iushr, 1) := by decide +kernel
theorem dJ6_bitCount_0f7a4_18 : decode cJ6_bitCount_0f7a4 18 = .ok (.ldc_w 266, 3) := by decide +kernel
theorem dJ6_bitCount_0f7a4_21 : decode cJ6_bitCount_0f7a4 21 = .ok (.iand, 1) := by decide +kernel
theorem dJ6_bitCount_0f7a4_22 : decode cJ6_bitCount_0f7a4 22 = .ok (.iadd, 1) := by decide +kernel
theorem dJ6_bitCount_0f7a4_23 : decode cJ6_bitCount_0f7a4 23 = .ok (.istore_n 0, 1) := by decide +kernel
theorem dJ6_bitCount_0f7a4_24 : decode cJ6_bitCount_0f7a4 24 = .ok (.iload_n 0, 1) := by decide +kernel
theorem dJ6_bitCount_0f7a4_25 : decode cJ6_bitCount_0f7a4 25 = .ok (.iload_n 0, 1) := by decide +kernel
theorem dJ6_bitCount_0f7a4_26 : decode cJ6_bitCount_0f7a4 26 = .ok (.iconst 4, 1) := by decide +kernel
theorem dJ6_bitCount_0f7a4_27 : decode cJ6_bitCount_0f7a4 27 = .ok (.iushr, 1) := by decide +kernel
theorem dJ6_bitCount_0f7a4_28 : decode cJ6_bitCount_0f7a4 28 = .ok (.iadd, 1) := by decide +kernel
theorem dJ6_bitCount_0f7a4_29 : decode cJ6_bitCount_0f7a4 29 = .ok (.ldc_w 267, 3) := by decide +kernel
theorem dJ6_bitCount_0f7a4_32 : decode cJ6_bitCount_0f7a4 32 = .ok (.iand, 1) := by decide +kernel
theorem dJ6_bitCount_0f7a4_33 : decode cJ6_bitCount_0f7a4 33 = .ok (.istore_n 0, 1) := by decide +kernel
theorem dJ6_bitCount_0f7a4_34 : decode cJ6_bitCount_0f7a4 34 = .ok (.iload_n 0, 1) := by decide +kernel
theorem dJ6_bitCount_0f7a4_35 : decode cJ6_bitCount_0f7a4 35 = .ok (.iload_n 0, 1) := by decide +kernel
theorem dJ6_bitCount_0f7a4_36 : decode cJ6_bitCount_0f7a4 36 = .ok (.bipush 8, 2) := by decide +kernel
theorem dJ6_bitCount_0f7a4_38 : decode cJ6_bitCount_0f7a4 38 = .ok (.iushr, 1) := by decide +kernel
theorem dJ6_bitCount_0f7a4_39 : decode cJ6_bitCount_0f7a4 39 = .ok (.iadd, 1) := by decide +kernel
theorem dJ6_bitCount_0f7a4_40 : decode cJ6_bitCount_0f7a4 40 = .ok (.istore_n 0, 1) := by decide +kernel
theorem dJ6_bitCount_0f7a4_41 : decode cJ6_bitCount_0f7a4 41 = .ok (.iload_n 0, 1) := by decide +kernel
theorem dJ6_bitCount_0f7a4_42 : decode cJ6_bitCount_0f7a4 42 = .ok (.iload_n 0, 1) := by decide +kernel
theorem dJ6_bitCount_0f7a4_43 : decode cJ6_bitCount_0f7a4 43 = .ok (.bipush 16, 2) := by decide +kernel
theorem dJ6_bitCount_0f7a4_45 : decode cJ6_bitCount_0f7a4 45 = .ok (.iushr, 1) := by decide +kernel
theorem dJ6_bitCount_0f7a4_46 : decode cJ6_bitCount_0f7a4 46 = .ok (.iadd, 1) := by decide +kernel
theorem dJ6_bitCount_0f7a4_47 : decode cJ6_bitCount_0f7a4 47 = .ok (.istore_n 0, 1) := by decide +kernel
theorem dJ6_bitCount_0f7a4_48 : decode cJ6_bitCount_0f7a4 48 = .ok (.iload_n 0, 1) := by decide +kernel
theorem dJ6_bitCount_0f7a4_49 : decode cJ6_bitCount_0f7a4 49 = .ok (.bipush 63, 2) := by decide +kernel
theorem dJ6_bitCount_0f7a4_51 : decode cJ6_bitCount_0f7a4 51 = .ok (.iand, 1) := by decide +kernel
theorem dJ6_bitCount_0f7a4_52 : decode cJ6_bitCount_0f7a4 52 = .ok (.ireturn, 1) := by decide +kernel
theorem dJ9_max_7cf53_0 : decode cJ9_max_7cf53 0 = .ok (.iload_n 0, 1) := by decide +kernel
theorem dJ9_max_7cf53_1 : decode cJ9_max_7cf53 1 = .ok (.iload_n 1, 1) := by decide +kernel
theorem dJ9_max_7cf53_2 : decode cJ9_max_7cf53 2 = .ok (.if_icmp .lt 7, 3) := by decide +kernel
theorem dJ9_max_7cf53_5 : decode cJ9_max_7cf53 5 = .ok (.iload_n 0, 1) := by decide +kernel
theorem dJ9_max_7cf53_6 : decode cJ9_max_7cf53 6 = .ok (.goto 4, 3) := by decide +kernel
theorem dJ9_max_7cf53_9 : decode cJ9_max_7cf53 9 = .ok (.iload_n 1, 1) := by decide +kernel
theorem dJ9_max_7cf53_10 : decode cJ9_max_7cf53 10 = .ok (.ireturn, 1) := by decide +kernel
theorem dJ9_min_7cf53_0 : decode cJ9_min_7cf53 0 = .ok (.iload_n 0, 1) := by decide +kernel
theorem dJ9_min_7cf53_1 : decode cJ9_min_7cf53 1 = .ok (.iload_n 1, 1) := by decide +kernel
theorem dJ9_min_7cf53_2 : decode cJ9_min_7cf53 2 = .ok (.if_icmp .gt 7, 3) := by decide +kernel
theorem dJ9_min_7cf53_5 : decode cJ9_min_7cf53 5 = .ok (.iload_n 0, 1) := by decide +kernel
theorem dJ9_min_7cf53_6 : decode cJ9_min_7cf53 6 = .ok (.goto 4, 3) := by decide +kernel
theorem dJ9_min_7cf53_9 : decode cJ9_min_7cf53 9 = .ok (.iload_n 1, 1) := by decide +kernel
theorem dJ9_min_7cf53_10 : decode cJ9_min_7cf53 10 = .ok (.ireturn, 1) := by decide +kernel
theorem dX3_init_0 : decode cX3_init 0 = .ok (.aload_n 0, 1) := by decide +kernel
theorem dX3_init_1 : decode cX3_init 1 = .ok (.invokespecial 3, 3) := by decide +kernel
theorem dX3_init_4 : decode cX3_init 4 = .ok (.aload_n 0, 1) := by decide +kernel
theorem dX3_init_5 : decode cX3_init 5 = .ok (.bipush 9, 2) := by decide +kernel
theorem dX3_init_7 : decode cX3_init 7 = .ok (.newarray .int, 2) := by decide +kernel
theorem dX3_init_9 : decode cX3_init 9 = .ok (.putfield 9, 3) := by decide +kernel
theorem dX3_init_12 : decode cX3_init 12 = .ok (.aload_n 0, 1) := by decide +kernel
theorem dX3_init_13 : decode cX3_init 13 = .ok (.bipush 9, 2) := by decide +kernel
theorem dX3_init_15 : decode cX3_init 15 = .ok (.newarray .int, 2) := by decide +kernel
theorem dX3_init_17 : decode cX3_init 17 = .ok (.putfield 15, 3) := by decide +kernel
theorem dX3_init_20 : decode cX3_init 20 = .ok (.aload_n 0, 1) := by decide +kernel
theorem dX3_init_21 : decode cX3_init 21 = .ok (.bipush 9, 2) := by decide +kernel
theorem dX3_init_23 : decode cX3_init 23 = .ok (.newarray .int, 2) := by decide +kernel
theorem dX3_init_25 : decode cX3_init 25 = .ok (.putfield 18, 3) := by decide +kernel
theorem dX3_init_28 : decode cX3_init 28 = .ok (.aload_n 0, 1) := by decide +kernel
theorem dX3_init_29 : decode cX3_init 29 = .ok (.bipush 9, 2) := by decide +kernel
theorem dX3_init_31 : decode cX3_init 31 = .ok (.newarray .int, 2) := by decide +kernel
theorem dX3_init_33 : decode cX3_init 33 = .ok (.putfield 21, 3) := by decide +kernel
theorem dX3_init_36 : decode cX3_init 36 = .ok (.aload_n 0, 1) := by decide +kernel
theorem dX3_init_37 : decode cX3_init 37 = .ok (.bipush 28, 2) := by decide +kernel
theorem dX3_init_39 : decode cX3_init 39 = .ok (.newarray .int, 2) := by decide +kernel
theorem dX3_init_41 : decode cX3_init 41 = .ok (.putfield 24, 3) := by decide +kernel
theorem dX3_init_44 : decode cX3_init 44 = .ok (.return_, 1) := by decide +kernel
theorem dX3_leastHarmIs_0 : decode cX3_leastHarmIs 0 = .ok (.aload_n 0, 1) := by decide +kernel
theorem dX3_leastHarmIs_1 : decode cX3_leastHarmIs 1 = .ok (.aload_n 1, 1) := by decide +kernel
theorem dX3_leastHarmIs_2 : decode cX3_leastHarmIs 2 = .ok (.iload_n 2, 1) := by decide +kernel
theorem dX3_leastHarmIs_3 : decode cX3_leastHarmIs 3 = .ok (.iconst 1, 1) := by decide +kernel
theorem dX3_leastHarmIs_4 : decode cX3_leastHarmIs 4 = .ok (.invokevirtual 27, 3) := by decide +kernel
theorem dX3_leastHarmIs_7 : decode cX3_leastHarmIs 7 = .ok (.aload_n 0, 1) := by decide +kernel
theorem dX3_leastHarmIs_8 : decode cX3_leastHarmIs 8 = .ok (.getfield 31, 3) := by decide +kernel
theorem dX3_leastHarmIs_11 : decode cX3_leastHarmIs 11 = .ok (.ifCond .eq 15, 3) := by decide +kernel
theorem dX3_leastHarmIs_14 : decode cX3_leastHarmIs 14 = .ok (.aload_n 0, 1) := by decide +kernel
theorem dX3_leastHarmIs_15 : decode cX3_leastHarmIs 15 = .ok (.getfield 35, 3) := by decide +kernel
theorem dX3_leastHarmIs_18 : decode cX3_leastHarmIs 18 = .ok (.iload_n 2, 1) := by decide +kernel
theorem dX3_leastHarmIs_19 : decode cX3_leastHarmIs 19 = .ok (.if_icmp .ne 7, 3) := by decide +kernel
theorem dX3_leastHarmIs_22 : decode cX3_leastHarmIs 22 = .ok (.iconst 1, 1) := by decide +kernel
theorem dX3_leastHarmIs_23 : decode cX3_leastHarmIs 23 = .ok (.goto 4, 3) := by decide +kernel
theorem dX3_leastHarmIs_26 : decode cX3_leastHarmIs 26 = .ok (.iconst 0, 1) := by decide +kernel
theorem dX3_leastHarmIs_27 : decode cX3_leastHarmIs 27 = .ok (.ireturn, 1) := by decide +kernel
theorem dX3_leastHarm_0 : decode cX3_leastHarm 0 = .ok (.aload_n 0, 1) := by decide +kernel
theorem dX3_leastHarm_1 : decode cX3_leastHarm 1 = .ok (.getfield 31, 3) := by decide +kernel
theorem dX3_leastHarm_4 : decode cX3_leastHarm 4 = .ok (.ifCond .eq 10, 3) := by decide +kernel
theorem dX3_leastHarm_7 : decode cX3_leastHarm 7 = .ok (.aload_n 0, 1) := by decide +kernel
theorem dX3_leastHarm_8 : decode cX3_leastHarm 8 = .ok (.getfield 35, 3) := by decide +kernel
theorem dX3_leastHarm_11 : decode cX3_leastHarm 11 = .ok (.goto 4, 3) := by decide +kernel
theorem dX3_leastHarm_14 : decode cX3_leastHarm 14 = .ok (.iconst (-1), 1) := by decide +kernel
theorem dX3_leastHarm_15 : decode cX3_leastHarm 15 = .ok (.ireturn, 1) := by decide +kernel
theorem dX3_earliestEnd_0 : decode cX3_earliestEnd 0 = .ok (.aload_n 0, 1) := by decide +kernel
theorem dX3_earliestEnd_1 : decode cX3_earliestEnd 1 = .ok (.getfield 31, 3) := by decide +kernel
theorem dX3_earliestEnd_4 : decode cX3_earliestEnd 4 = .ok (.ifCond .eq 10, 3) := by decide +kernel
theorem dX3_earliestEnd_7 : decode cX3_earliestEnd 7 = .ok (.aload_n 0, 1) := by decide +kernel
theorem dX3_earliestEnd_8 : decode cX3_earliestEnd 8 = .ok (.getfield 39, 3) := by decide +kernel
theorem dX3_earliestEnd_11 : decode cX3_earliestEnd 11 = .ok (.goto 4, 3) := by decide +kernel
theorem dX3_earliestEnd_14 : decode cX3_earliestEnd 14 = .ok (.iconst (-1), 1) := by decide +kernel
theorem dX3_earliestEnd_15 : decode cX3_earliestEnd 15 = .ok (.ireturn, 1) := by decide +kernel
theorem dX3_cellAt_0 : decode cX3_cellAt 0 = .ok (.aload_n 0, 1) := by decide +kernel
theorem dX3_cellAt_1 : decode cX3_cellAt 1 = .ok (.getfield 31, 3) := by decide +kernel
theorem dX3_cellAt_4 : decode cX3_cellAt 4 = .ok (.ifCond .eq 33, 3) := by decide +kernel
theorem dX3_cellAt_7 : decode cX3_cellAt 7 = .ok (.iload_n 1, 1) := by decide +kernel
theorem dX3_cellAt_8 : decode cX3_cellAt 8 = .ok (.ifCond .lt 29, 3) := by decide +kernel
theorem dX3_cellAt_11 : decode cX3_cellAt 11 = .ok (.iload_n 1, 1) := by decide +kernel
theorem dX3_cellAt_12 : decode cX3_cellAt 12 = .ok (.aload_n 0, 1) := by decide +kernel
theorem dX3_cellAt_13 : decode cX3_cellAt 13 = .ok (.getfield 42, 3) := by decide +kernel
theorem dX3_cellAt_16 : decode cX3_cellAt 16 = .ok (.if_icmp .ge 21, 3) := by decide +kernel
theorem dX3_cellAt_19 : decode cX3_cellAt 19 = .ok (.iload_n 1, 1) := by decide +kernel
theorem dX3_cellAt_20 : decode cX3_cellAt 20 = .ok (.aload_n 0, 1) := by decide +kernel
theorem dX3_cellAt_21 : decode cX3_cellAt 21 = .ok (.getfield 21, 3) := by decide +kernel
theorem dX3_cellAt_24 : decode cX3_cellAt 24 = .ok (.arraylength, 1) := by decide +kernel
theorem dX3_cellAt_25 : decode cX3_cellAt 25 = .ok (.if_icmp .ge 12, 3) := by decide +kernel
theorem dX3_cellAt_28 : decode cX3_cellAt 28 = .ok (.aload_n 0, 1) := by decide +kernel
theorem dX3_cellAt_29 : decode cX3_cellAt 29 = .ok (.getfield 21, 3) := by decide +kernel
theorem dX3_cellAt_32 : decode cX3_cellAt 32 = .ok (.iload_n 1, 1) := by decide +kernel
theorem dX3_cellAt_33 : decode cX3_cellAt 33 = .ok (.iaload, 1) := by decide +kernel
theorem dX3_cellAt_34 : decode cX3_cellAt 34 = .ok (.goto 4, 3) := by decide +kernel
theorem dX3_cellAt_37 : decode cX3_cellAt 37 = .ok (.iconst (-1), 1) := by decide +kernel
theorem dX3_cellAt_38 : decode cX3_cellAt 38 = .ok (.ireturn, 1) := by decide +kernel
theorem dX3_search_0 : decode cX3_search 0 = .ok (.aload_n 0, 1) := by decide +kernel
theorem dX3_search_1 : decode cX3_search 1 = .ok (.aload_n 1, 1) := by decide +kernel
theorem dX3_search_2 : decode cX3_search 2 = .ok (.invokevirtual 45, 3) := by decide +kernel
theorem dX3_search_5 : decode cX3_search 5 = .ok (.aload_n 0, 1) := by decide +kernel
theorem dX3_search_6 : decode cX3_search 6 = .ok (.aload_n 1, 1) := by decide +kernel
theorem dX3_search_7 : decode cX3_search 7 = .ok (.invokevirtual 49, 3) := by decide +kernel
theorem dX3_search_10 : decode cX3_search 10 = .ok (.aload_n 0, 1) := by decide +kernel
theorem dX3_search_11 : decode cX3_search 11 = .ok (.aload_n 1, 1) := by decide +kernel
theorem dX3_search_12 : decode cX3_search 12 = .ok (.invokevirtual 52, 3) := by decide +kernel
theorem dX3_search_15 : decode cX3_search 15 = .ok (.aload_n 0, 1) := by decide +kernel
theorem dX3_search_16 : decode cX3_search 16 = .ok (.iconst 0, 1) := by decide +kernel
theorem dX3_search_17 : decode cX3_search 17 = .ok (.putfield 31, 3) := by decide +kernel
theorem dX3_search_20 : decode cX3_search 20 = .ok (.aload_n 0, 1) := by decide +kernel
theorem dX3_search_21 : decode cX3_search 21 = .ok (.iload_n 2, 1) := by decide +kernel
theorem dX3_search_22 : decode cX3_search 22 = .ok (.putfield 35, 3) := by decide +kernel
theorem dX3_search_25 : decode cX3_search 25 = .ok (.aload_n 0, 1) := by decide +kernel
theorem dX3_search_26 : decode cX3_search 26 = .ok (.ldc 55, 2) := by decide +kernel
theorem dX3_search_28 : decode cX3_search 28 = .ok (.putfield 39, 3) := by decide +kernel
theorem dX3_search_31 : decode cX3_search 31 = .ok (.aload_n 0, 1) := by decide +kernel
theorem dX3_search_32 : decode cX3_search 32 = .ok (.iload_n 3, 1) := by decide +kernel
theorem dX3_search_33 : decode cX3_search 33 = .ok (.putfield 56, 3) := by decide +kernel
theorem dX3_search_36 : decode cX3_search 36 = .ok (.aload_n 0, 1) := by decide +kernel
theorem dX3_search_37 : decode cX3_search 37 = .ok (.getfield 42, 3) := by decide +kernel
theorem dX3_search_40 : decode cX3_search 40 = .ok (.ifCond .eq 16, 3) := by decide +kernel
theorem dX3_search_43 : decode cX3_search 43 = .ok (.aload_n 0, 1) := by decide +kernel
theorem dX3_search_44 : decode cX3_search 44 = .ok (.aload_n 0, 1) := by decide +kernel
theorem dX3_search_45 : decode cX3_search 45 = .ok (.getfield 59, 3) := by decide +kernel
theorem dX3_search_48 : decode cX3_search 48 = .ok (.invokevirtual 62, 3) := by decide +kernel
theorem dX3_search_51 : decode cX3_search 51 = .ok (.ldc 55, 2) := by decide +kernel
theorem dX3_search_53 : decode cX3_search 53 = .ok (.if_icmp .eq 20, 3) := by decide +kernel
theorem dX3_search_56 : decode cX3_search 56 = .ok (.aload_n 0, 1) := by decide +kernel
theorem dX3_search_57 : decode cX3_search 57 = .ok (.iconst 0, 1) := by decide +kernel
theorem dX3_search_58 : decode cX3_search 58 = .ok (.aload_n 1, 1) := by decide +kernel
theorem dX3_search_59 : decode cX3_search 59 = .ok (.getfield 66, 3) := by decide +kernel
theorem dX3_search_62 : decode cX3_search 62 = .ok (.aload_n 0, 1) := by decide +kernel
theorem dX3_search_63 : decode cX3_search 63 = .ok (.invokevirtual 71, 3) := by decide +kernel
theorem dX3_search_66 : decode cX3_search 66 = .ok (.aload_n 1, 1) := by decide +kernel
theorem dX3_search_67 : decode cX3_search 67 = .ok (.invokevirtual 75, 3) := by decide +kernel
theorem dX3_search_70 : decode cX3_search 70 = .ok (.invokevirtual 78, 3) := by decide +kernel
theorem dX3_search_73 : decode cX3_search 73 = .ok (.return_, 1) := by decide +kernel
theorem dX3_readWall_0 : decode cX3_readWall 0 = .ok (.aload_n 0, 1) := by decide +kernel
theorem dX3_readWall_1 : decode cX3_readWall 1 = .ok (.aload_n 1, 1) := by decide +kernel
theorem dX3_readWall_2 : decode cX3_readWall 2 = .ok (.getfield 82, 3) := by decide +kernel
theorem dX3_readWall_5 : decode cX3_readWall 5 = .ok (.putfield 85, 3) := by decide +kernel
theorem dX3_readWall_8 : decode cX3_readWall 8 = .ok (.aload_n 0, 1) := by decide +kernel
theorem dX3_readWall_9 : decode cX3_readWall 9 = .ok (.aload_n 1, 1) := by decide +kernel
theorem dX3_readWall_10 : decode cX3_readWall 10 = .ok (.getfield 86, 3) := by decide +kernel
theorem dX3_readWall_13 : decode cX3_readWall 13 = .ok (.putfield 89, 3) := by decide +kernel
theorem dX3_readWall_16 : decode cX3_readWall 16 = .ok (.aload_n 0, 1) := by decide +kernel
theorem dX3_readWall_17 : decode cX3_readWall 17 = .ok (.aload_n 1, 1) := by decide +kernel
theorem dX3_readWall_18 : decode cX3_readWall 18 = .ok (.getfield 90, 3) := by decide +kernel
theorem dX3_readWall_21 : decode cX3_readWall 21 = .ok (.putfield 93, 3) := by decide +kernel
theorem dX3_readWall_24 : decode cX3_readWall 24 = .ok (.aload_n 0, 1) := by decide +kernel
theorem dX3_readWall_25 : decode cX3_readWall 25 = .ok (.aload_n 1, 1) := by decide +kernel
theorem dX3_readWall_26 : decode cX3_readWall 26 = .ok (.getfield 94, 3) := by decide +kernel
theorem dX3_readWall_29 : decode cX3_readWall 29 = .ok (.putfield 97, 3) := by decide +kernel
theorem dX3_readWall_32 : decode cX3_readWall 32 = .ok (.aload_n 0, 1) := by decide +kernel
theorem dX3_readWall_33 : decode cX3_readWall 33 = .ok (.aload_n 1, 1) := by decide +kernel
theorem dX3_readWall_34 : decode cX3_readWall 34 = .ok (.getfield 98, 3) := by decide +kernel
theorem dX3_readWall_37 : decode cX3_readWall 37 = .ok (.putfield 101, 3) := by decide +kernel
theorem dX3_readWall_40 : decode cX3_readWall 40 = .ok (.aload_n 0, 1) := by decide +kernel
theorem dX3_readWall_41 : decode cX3_readWall 41 = .ok (.aload_n 1, 1) := by decide +kernel
theorem dX3_readWall_42 : decode cX3_readWall 42 = .ok (.getfield 102, 3) := by decide +kernel
theorem dX3_readWall_45 : decode cX3_readWall 45 = .ok (.putfield 105, 3) := by decide +kernel
theorem dX3_readWall_48 : decode cX3_readWall 48 = .ok (.return_, 1) := by decide +kernel
theorem dX3_readCells_0 : decode cX3_readCells 0 = .ok (.aload_n 0, 1) := by decide +kernel
theorem dX3_readCells_1 : decode cX3_readCells 1 = .ok (.iconst 0, 1) := by decide +kernel
theorem dX3_readCells_2 : decode cX3_readCells 2 = .ok (.putfield 42, 3) := by decide +kernel
theorem dX3_readCells_5 : decode cX3_readCells 5 = .ok (.aload_n 0, 1) := by decide +kernel
theorem dX3_readCells_6 : decode cX3_readCells 6 = .ok (.iconst 0, 1) := by decide +kernel
theorem dX3_readCells_7 : decode cX3_readCells 7 = .ok (.putfield 59, 3) := by decide +kernel
theorem dX3_readCells_10 : decode cX3_readCells 10 = .ok (.aload_n 0, 1) := by decide +kernel
theorem dX3_readCells_11 : decode cX3_readCells 11 = .ok (.iconst 3, 1) := by decide +kernel
theorem dX3_readCells_12 : decode cX3_readCells 12 = .ok (.putfield 106, 3) := by decide +kernel
theorem dX3_readCells_15 : decode cX3_readCells 15 = .ok (.iconst 0, 1) := by decide +kernel
theorem dX3_readCells_16 : decode cX3_readCells 16 = .ok (.istore_n 2, 1) := by decide +kernel
theorem dX3_readCells_17 : decode cX3_readCells 17 = .ok (.iload_n 2, 1) := by decide +kernel
theorem dX3_readCells_18 : decode cX3_readCells 18 = .ok (.aload_n 0, 1) := by decide +kernel
theorem dX3_readCells_19 : decode cX3_readCells 19 = .ok (.getfield 93, 3) := by decide +kernel
theorem dX3_readCells_22 : decode cX3_readCells 22 = .ok (.if_icmp .ge 107, 3) := by decide +kernel
theorem dX3_readCells_25 : decode cX3_readCells 25 = .ok (.aload_n 0, 1) := by decide +kernel
theorem dX3_readCells_26 : decode cX3_readCells 26 = .ok (.getfield 9, 3) := by decide +kernel
theorem dX3_readCells_29 : decode cX3_readCells 29 = .ok (.iload_n 2, 1) := by decide +kernel
theorem dX3_readCells_30 : decode cX3_readCells 30 = .ok (.aload_n 1, 1) := by decide +kernel
theorem dX3_readCells_31 : decode cX3_readCells 31 = .ok (.getfield 109, 3) := by decide +kernel
theorem dX3_readCells_34 : decode cX3_readCells 34 = .ok (.iload_n 2, 1) := by decide +kernel
theorem dX3_readCells_35 : decode cX3_readCells 35 = .ok (.iaload, 1) := by decide +kernel
theorem dX3_readCells_36 : decode cX3_readCells 36 = .ok (.iastore, 1) := by decide +kernel
theorem dX3_readCells_37 : decode cX3_readCells 37 = .ok (.aload_n 0, 1) := by decide +kernel
theorem dX3_readCells_38 : decode cX3_readCells 38 = .ok (.dup, 1) := by decide +kernel
theorem dX3_readCells_39 : decode cX3_readCells 39 = .ok (.getfield 59, 3) := by decide +kernel
theorem dX3_readCells_42 : decode cX3_readCells 42 = .ok (.aload_n 0, 1) := by decide +kernel
theorem dX3_readCells_43 : decode cX3_readCells 43 = .ok (.getfield 9, 3) := by decide +kernel
theorem dX3_readCells_46 : decode cX3_readCells 46 = .ok (.iload_n 2, 1) := by decide +kernel
theorem dX3_readCells_47 : decode cX3_readCells 47 = .ok (.iaload, 1) := by decide +kernel
theorem dX3_readCells_48 : decode cX3_readCells 48 = .ok (.iadd, 1) := by decide +kernel
theorem dX3_readCells_49 : decode cX3_readCells 49 = .ok (.putfield 59, 3) := by decide +kernel
theorem dX3_readCells_52 : decode cX3_readCells 52 = .ok (.aload_n 1, 1) := by decide +kernel
theorem dX3_readCells_53 : decode cX3_readCells 53 = .ok (.iload_n 2, 1) := by decide +kernel
theorem dX3_readCells_54 : decode cX3_readCells 54 = .ok (.invokevirtual 110, 3) := by decide +kernel
theorem dX3_readCells_57 : decode cX3_readCells 57 = .ok (.ifCond .eq 18, 3) := by decide +kernel
theorem dX3_readCells_60 : decode cX3_readCells 60 = .ok (.aload_n 0, 1) := by decide +kernel
theorem dX3_readCells_61 : decode cX3_readCells 61 = .ok (.getfield 15, 3) := by decide +kernel
theorem dX3_readCells_64 : decode cX3_readCells 64 = .ok (.iload_n 2, 1) := by decide +kernel
theorem dX3_readCells_65 : decode cX3_readCells 65 = .ok (.aload_n 1, 1) := by decide +kernel
theorem dX3_readCells_66 : decode cX3_readCells 66 = .ok (.getfield 114, 3) := by decide +kernel
theorem dX3_readCells_69 : decode cX3_readCells 69 = .ok (.iload_n 2, 1) := by decide +kernel
theorem dX3_readCells_70 : decode cX3_readCells 70 = .ok (.iaload, 1) := by decide +kernel
theorem dX3_readCells_71 : decode cX3_readCells 71 = .ok (.iastore, 1) := by decide +kernel
theorem dX3_readCells_72 : decode cX3_readCells 72 = .ok (.goto 21, 3) := by decide +kernel
theorem dX3_readCells_75 : decode cX3_readCells 75 = .ok (.aload_n 0, 1) := by decide +kernel
theorem dX3_readCells_76 : decode cX3_readCells 76 = .ok (.getfield 15, 3) := by decide +kernel
theorem dX3_readCells_79 : decode cX3_readCells 79 = .ok (.iload_n 2, 1) := by decide +kernel
theorem dX3_readCells_80 : decode cX3_readCells 80 = .ok (.ldc 55, 2) := by decide +kernel
theorem dX3_readCells_82 : decode cX3_readCells 82 = .ok (.iastore, 1) := by decide +kernel
theorem dX3_readCells_83 : decode cX3_readCells 83 = .ok (.aload_n 0, 1) := by decide +kernel
theorem dX3_readCells_84 : decode cX3_readCells 84 = .ok (.dup, 1) := by decide +kernel
theorem dX3_readCells_85 : decode cX3_readCells 85 = .ok (.getfield 42, 3) := by decide +kernel
theorem dX3_readCells_88 : decode cX3_readCells 88 = .ok (.iconst 1, 1) := by decide +kernel
theorem dX3_readCells_89 : decode cX3_readCells 89 = .ok (.iadd, 1) := by decide +kernel
theorem dX3_readCells_90 : decode cX3_readCells 90 = .ok (.putfield 42, 3) := by decide +kernel
theorem dX3_readCells_93 : decode cX3_readCells 93 = .ok (.iload_n 2, 1) := by decide +kernel
theorem dX3_readCells_94 : decode cX3_readCells 94 = .ok (.aload_n 0, 1) := by decide +kernel
theorem dX3_readCells_95 : decode cX3_readCells 95 = .ok (.getfield 85, 3) := by decide +kernel
theorem dX3_readCells_98 : decode cX3_readCells 98 = .ok (.iadd, 1) := by decide +kernel
theorem dX3_readCells_99 : decode cX3_readCells 99 = .ok (.aload_n 0, 1) := by decide +kernel
theorem dX3_readCells_100 : decode cX3_readCells 100 = .ok (.getfield 93, 3) := by decide +kernel
theorem dX3_readCells_103 : decode cX3_readCells 103 = .ok (.if_icmp .lt 20, 3) := by decide +kernel
theorem dX3_readCells_106 : decode cX3_readCells 106 = .ok (.aload_n 0, 1) := by decide +kernel
theorem dX3_readCells_107 : decode cX3_readCells 107 = .ok (.aload_n 0, 1) := by decide +kernel
theorem dX3_readCells_108 : decode cX3_readCells 108 = .ok (.getfield 106, 3) := by decide +kernel
theorem dX3_readCells_111 : decode cX3_readCells 111 = .ok (.aload_n 0, 1) := by decide +kernel
theorem dX3_readCells_112 : decode cX3_readCells 112 = .ok (.getfield 9, 3) := by decide +kernel
theorem dX3_readCells_115 : decode cX3_readCells 115 = .ok (.iload_n 2, 1) := by decide +kernel
theorem dX3_readCells_116 : decode cX3_readCells 116 = .ok (.iaload, 1) := by decide +kernel
theorem dX3_readCells_117 : decode cX3_readCells 117 = .ok (.invokestatic 115, 3) := by decide +kernel
theorem dX3_readCells_120 : decode cX3_readCells 120 = .ok (.putfield 106, 3) := by decide +kernel
theorem dX3_readCells_123 : decode cX3_readCells 123 = .ok (.iinc 2 1, 3) := by decide +kernel
theorem dX3_readCells_126 : decode cX3_readCells 126 = .ok (.goto (-109), 3) := by decide +kernel
theorem dX3_readCells_129 : decode cX3_readCells 129 = .ok (.return_, 1) := by decide +kernel
theorem dX3_readArrivals_0 : decode cX3_readArrivals 0 = .ok (.aload_n 0, 1) := by decide +kernel
theorem dX3_readArrivals_1 : decode cX3_readArrivals 1 = .ok (.getfield 24, 3) := by decide +kernel
theorem dX3_readArrivals_4 : decode cX3_readArrivals 4 = .ok (.ldc 55, 2) := by decide +kernel
theorem dX3_readArrivals_6 : decode cX3_readArrivals 6 = .ok (.invokestatic 121, 3) := by decide +kernel
theorem dX3_readArrivals_9 : decode cX3_readArrivals 9 = .ok (.iconst 0, 1) := by decide +kernel
theorem dX3_readArrivals_10 : decode cX3_readArrivals 10 = .ok (.istore_n 2, 1) := by decide +kernel
theorem dX3_readArrivals_11 : decode cX3_readArrivals 11 = .ok (.iload_n 2, 1) := by decide +kernel
theorem dX3_readArrivals_12 : decode cX3_readArrivals 12 = .ok (.aload_n 1, 1) := by decide +kernel
theorem dX3_readArrivals_13 : decode cX3_readArrivals 13 = .ok (.getfield 125, 3) := by decide +kernel
theorem dX3_readArrivals_16 : decode cX3_readArrivals 16 = .ok (.if_icmp .ge 67, 3) := by decide +kernel
theorem dX3_readArrivals_19 : decode cX3_readArrivals 19 = .ok (.aload_n 1, 1) := by decide +kernel
theorem dX3_readArrivals_20 : decode cX3_readArrivals 20 = .ok (.getfield 128, 3) := by decide +kernel
theorem dX3_readArrivals_23 : decode cX3_readArrivals 23 = .ok (.iload_n 2, 1) := by decide +kernel
theorem dX3_readArrivals_24 : decode cX3_readArrivals 24 = .ok (.iaload, 1) := by decide +kernel
theorem dX3_readArrivals_25 : decode cX3_readArrivals 25 = .ok (.istore_n 3, 1) := by decide +kernel
theorem dX3_readArrivals_26 : decode cX3_readArrivals 26 = .ok (.aload_n 1, 1) := by decide +kernel
theorem dX3_readArrivals_27 : decode cX3_readArrivals 27 = .ok (.iload_n 3, 1) := by decide +kernel
theorem dX3_readArrivals_28 : decode cX3_readArrivals 28 = .ok (.invokevirtual 131, 3) := by decide +kernel
theorem dX3_readArrivals_31 : decode cX3_readArrivals 31 = .ok (.istore 4, 2) := by decide +kernel
theorem dX3_readArrivals_33 : decode cX3_readArrivals 33 = .ok (.iconst 0, 1) := by decide +kernel
theorem dX3_readArrivals_34 : decode cX3_readArrivals 34 = .ok (.istore 5, 2) := by decide +kernel
theorem dX3_readArrivals_36 : decode cX3_readArrivals 36 = .ok (.iload 5, 2) := by decide +kernel
theorem dX3_readArrivals_38 : decode cX3_readArrivals 38 = .ok (.iload 4, 2) := by decide +kernel
theorem dX3_readArrivals_40 : decode cX3_readArrivals 40 = .ok (.if_icmp .gt 37, 3) := by decide +kernel
theorem dX3_readArrivals_43 : decode cX3_readArrivals 43 = .ok (.iload 5, 2) := by decide +kernel
theorem dX3_readArrivals_45 : decode cX3_readArrivals 45 = .ok (.aload_n 0, 1) := by decide +kernel
theorem dX3_readArrivals_46 : decode cX3_readArrivals 46 = .ok (.getfield 24, 3) := by decide +kernel
theorem dX3_readArrivals_49 : decode cX3_readArrivals 49 = .ok (.arraylength, 1) := by decide +kernel
theorem dX3_readArrivals_50 : decode cX3_readArrivals 50 = .ok (.if_icmp .ge 27, 3) := by decide +kernel
theorem dX3_readArrivals_53 : decode cX3_readArrivals 53 = .ok (.aload_n 0, 1) := by decide +kernel
theorem dX3_readArrivals_54 : decode cX3_readArrivals 54 = .ok (.getfield 24, 3) := by decide +kernel
theorem dX3_readArrivals_57 : decode cX3_readArrivals 57 = .ok (.iload 5, 2) := by decide +kernel
theorem dX3_readArrivals_59 : decode cX3_readArrivals 59 = .ok (.aload_n 0, 1) := by decide +kernel
theorem dX3_readArrivals_60 : decode cX3_readArrivals 60 = .ok (.getfield 24, 3) := by decide +kernel
theorem dX3_readArrivals_63 : decode cX3_readArrivals 63 = .ok (.iload 5, 2) := by decide +kernel
theorem dX3_readArrivals_65 : decode cX3_readArrivals 65 = .ok (.iaload, 1) := by decide +kernel
theorem dX3_readArrivals_66 : decode cX3_readArrivals 66 = .ok (.iload_n 3, 1) := by decide +kernel
theorem dX3_readArrivals_67 : decode cX3_readArrivals 67 = .ok (.invokestatic 115, 3) := by decide +kernel
theorem dX3_readArrivals_70 : decode cX3_readArrivals 70 = .ok (.iastore, 1) := by decide +kernel
theorem dX3_readArrivals_71 : decode cX3_readArrivals 71 = .ok (.iinc 5 1, 3) := by decide +kernel
theorem dX3_readArrivals_74 : decode cX3_readArrivals 74 = .ok (.goto (-38), 3) := by decide +kernel
theorem dX3_readArrivals_77 : decode cX3_readArrivals 77 = .ok (.iinc 2 1, 3) := by decide +kernel
theorem dX3_readArrivals_80 : decode cX3_readArrivals 80 = .ok (.goto (-69), 3) := by decide +kernel
theorem dX3_readArrivals_83 : decode cX3_readArrivals 83 = .ok (.return_, 1) := by decide +kernel
theorem dX3_arrivalOf_0 : decode cX3_arrivalOf 0 = .ok (.iload_n 1, 1) := by decide +kernel
theorem dX3_arrivalOf_1 : decode cX3_arrivalOf 1 = .ok (.ifCond .lt 12, 3) := by decide +kernel
theorem dX3_arrivalOf_4 : decode cX3_arrivalOf 4 = .ok (.iload_n 1, 1) := by decide +kernel
theorem dX3_arrivalOf_5 : decode cX3_arrivalOf 5 = .ok (.aload_n 0, 1) := by decide +kernel
theorem dX3_arrivalOf_6 : decode cX3_arrivalOf 6 = .ok (.getfield 24, 3) := by decide +kernel
theorem dX3_arrivalOf_9 : decode cX3_arrivalOf 9 = .ok (.arraylength, 1) := by decide +kernel
theorem dX3_arrivalOf_10 : decode cX3_arrivalOf 10 = .ok (.if_icmp .lt 8, 3) := by decide +kernel
theorem dX3_arrivalOf_13 : decode cX3_arrivalOf 13 = .ok (.ldc 55, 2) := by decide +kernel
theorem dX3_arrivalOf_15 : decode cX3_arrivalOf 15 = .ok (.goto 9, 3) := by decide +kernel
theorem dX3_arrivalOf_18 : decode cX3_arrivalOf 18 = .ok (.aload_n 0, 1) := by decide +kernel
theorem dX3_arrivalOf_19 : decode cX3_arrivalOf 19 = .ok (.getfield 24, 3) := by decide +kernel
theorem dX3_arrivalOf_22 : decode cX3_arrivalOf 22 = .ok (.iload_n 1, 1) := by decide +kernel
theorem dX3_arrivalOf_23 : decode cX3_arrivalOf 23 = .ok (.iaload, 1) := by decide +kernel
theorem dX3_arrivalOf_24 : decode cX3_arrivalOf 24 = .ok (.ireturn, 1) := by decide +kernel
theorem dX3_harmCovered_0 : decode cX3_harmCovered 0 = .ok (.iconst 0, 1) := by decide +kernel
theorem dX3_harmCovered_1 : decode cX3_harmCovered 1 = .ok (.istore_n 1, 1) := by decide +kernel
theorem dX3_harmCovered_2 : decode cX3_harmCovered 2 = .ok (.iconst 0, 1) := by decide +kernel
theorem dX3_harmCovered_3 : decode cX3_harmCovered 3 = .ok (.istore_n 2, 1) := by decide +kernel
theorem dX3_harmCovered_4 : decode cX3_harmCovered 4 = .ok (.iload_n 2, 1) := by decide +kernel
theorem dX3_harmCovered_5 : decode cX3_harmCovered 5 = .ok (.aload_n 0, 1) := by decide +kernel
theorem dX3_harmCovered_6 : decode cX3_harmCovered 6 = .ok (.getfield 93, 3) := by decide +kernel
theorem dX3_harmCovered_9 : decode cX3_harmCovered 9 = .ok (.if_icmp .ge 41, 3) := by decide +kernel
theorem dX3_harmCovered_12 : decode cX3_harmCovered 12 = .ok (.aload_n 0, 1) := by decide +kernel
theorem dX3_harmCovered_13 : decode cX3_harmCovered 13 = .ok (.getfield 15, 3) := by decide +kernel
theorem dX3_harmCovered_16 : decode cX3_harmCovered 16 = .ok (.iload_n 2, 1) := by decide +kernel
theorem dX3_harmCovered_17 : decode cX3_harmCovered 17 = .ok (.iaload, 1) := by decide +kernel
theorem dX3_harmCovered_18 : decode cX3_harmCovered 18 = .ok (.ldc 55, 2) := by decide +kernel
theorem dX3_harmCovered_20 : decode cX3_harmCovered 20 = .ok (.if_icmp .eq 24, 3) := by decide +kernel
theorem dX3_harmCovered_23 : decode cX3_harmCovered 23 = .ok (.iload_n 1, 1) := by decide +kernel
theorem dX3_harmCovered_24 : decode cX3_harmCovered 24 = .ok (.aload_n 0, 1) := by decide +kernel
theorem dX3_harmCovered_25 : decode cX3_harmCovered 25 = .ok (.iload_n 2, 1) := by decide +kernel
theorem dX3_harmCovered_26 : decode cX3_harmCovered 26 = .ok (.aload_n 0, 1) := by decide +kernel
theorem dX3_harmCovered_27 : decode cX3_harmCovered 27 = .ok (.getfield 15, 3) := by decide +kernel
theorem dX3_harmCovered_30 : decode cX3_harmCovered 30 = .ok (.iload_n 2, 1) := by decide +kernel
theorem dX3_harmCovered_31 : decode cX3_harmCovered 31 = .ok (.iaload, 1) := by decide +kernel
theorem dX3_harmCovered_32 : decode cX3_harmCovered 32 = .ok (.aload_n 0, 1) := by decide +kernel
theorem dX3_harmCovered_33 : decode cX3_harmCovered 33 = .ok (.getfield 9, 3) := by decide +kernel
theorem dX3_harmCovered_36 : decode cX3_harmCovered 36 = .ok (.iload_n 2, 1) := by decide +kernel
theorem dX3_harmCovered_37 : decode cX3_harmCovered 37 = .ok (.iaload, 1) := by decide +kernel
theorem dX3_harmCovered_38 : decode cX3_harmCovered 38 = .ok (.isub, 1) := by decide +kernel
theorem dX3_harmCovered_39 : decode cX3_harmCovered 39 = .ok (.invokevirtual 134, 3) := by decide +kernel
theorem dX3_harmCovered_42 : decode cX3_harmCovered 42 = .ok (.iadd, 1) := by decide +kernel
theorem dX3_harmCovered_43 : decode cX3_harmCovered 43 = .ok (.istore_n 1, 1) := by decide +kernel
theorem dX3_harmCovered_44 : decode cX3_harmCovered 44 = .ok (.iinc 2 1, 3) := by decide +kernel
theorem dX3_harmCovered_47 : decode cX3_harmCovered 47 = .ok (.goto (-43), 3) := by decide +kernel
theorem dX3_harmCovered_50 : decode cX3_harmCovered 50 = .ok (.iload_n 1, 1) := by decide +kernel
theorem dX3_harmCovered_51 : decode cX3_harmCovered 51 = .ok (.ireturn, 1) := by decide +kernel
theorem dX3_extend_0 : decode cX3_extend 0 = .ok (.iload_n 1, 1) := by decide +kernel
theorem dX3_extend_1 : decode cX3_extend 1 = .ok (.aload_n 0, 1) := by decide +kernel
theorem dX3_extend_2 : decode cX3_extend 2 = .ok (.getfield 42, 3) := by decide +kernel
theorem dX3_extend_5 : decode cX3_extend 5 = .ok (.if_icmp .ge 12, 3) := by decide +kernel
theorem dX3_extend_8 : decode cX3_extend 8 = .ok (.iload_n 1, 1) := by decide +kernel
theorem dX3_extend_9 : decode cX3_extend 9 = .ok (.aload_n 0, 1) := by decide +kernel
theorem dX3_extend_10 : decode cX3_extend 10 = .ok (.getfield 18, 3) := by decide +kernel
theorem dX3_extend_13 : decode cX3_extend 13 = .ok (.arraylength, 1) := by decide +kernel
theorem dX3_extend_14 : decode cX3_extend 14 = .ok (.if_icmp .lt 10, 3) := by decide +kernel
theorem dX3_extend_17 : decode cX3_extend 17 = .ok (.aload_n 0, 1) := by decide +kernel
theorem dX3_extend_18 : decode cX3_extend 18 = .ok (.iload_n 2, 1) := by decide +kernel
theorem dX3_extend_19 : decode cX3_extend 19 = .ok (.iload_n 3, 1) := by decide +kernel
theorem dX3_extend_20 : decode cX3_extend 20 = .ok (.invokevirtual 137, 3) := by decide +kernel
theorem dX3_extend_23 : decode cX3_extend 23 = .ok (.return_, 1) := by decide +kernel
theorem dX3_extend_24 : decode cX3_extend 24 = .ok (.iconst 0, 1) := by decide +kernel
theorem dX3_extend_25 : decode cX3_extend 25 = .ok (.istore 5, 2) := by decide +kernel
theorem dX3_extend_27 : decode cX3_extend 27 = .ok (.iload 5, 2) := by decide +kernel
theorem dX3_extend_29 : decode cX3_extend 29 = .ok (.aload_n 0, 1) := by decide +kernel
theorem dX3_extend_30 : decode cX3_extend 30 = .ok (.getfield 93, 3) := by decide +kernel
theorem dX3_extend_33 : decode cX3_extend 33 = .ok (.if_icmp .ge 134, 3) := by decide +kernel
theorem dX3_extend_36 : decode cX3_extend 36 = .ok (.aload_n 0, 1) := by decide +kernel
theorem dX3_extend_37 : decode cX3_extend 37 = .ok (.iload 5, 2) := by decide +kernel
theorem dX3_extend_39 : decode cX3_extend 39 = .ok (.invokevirtual 141, 3) := by decide +kernel
theorem dX3_extend_42 : decode cX3_extend 42 = .ok (.ifCond .ne 6, 3) := by decide +kernel
theorem dX3_extend_45 : decode cX3_extend 45 = .ok (.goto 116, 3) := by decide +kernel
theorem dX3_extend_48 : decode cX3_extend 48 = .ok (.iload 4, 2) := by decide +kernel
theorem dX3_extend_50 : decode cX3_extend 50 = .ok (.aload_n 0, 1) := by decide +kernel
theorem dX3_extend_51 : decode cX3_extend 51 = .ok (.getfield 9, 3) := by decide +kernel
theorem dX3_extend_54 : decode cX3_extend 54 = .ok (.iload 5, 2) := by decide +kernel
theorem dX3_extend_56 : decode cX3_extend 56 = .ok (.iaload, 1) := by decide +kernel
theorem dX3_extend_57 : decode cX3_extend 57 = .ok (.iadd, 1) := by decide +kernel
theorem dX3_extend_58 : decode cX3_extend 58 = .ok (.istore 6, 2) := by decide +kernel
theorem dX3_extend_60 : decode cX3_extend 60 = .ok (.iload_n 2, 1) := by decide +kernel
theorem dX3_extend_61 : decode cX3_extend 61 = .ok (.aload_n 0, 1) := by decide +kernel
theorem dX3_extend_62 : decode cX3_extend 62 = .ok (.iload 6, 2) := by decide +kernel
theorem dX3_extend_64 : decode cX3_extend 64 = .ok (.invokevirtual 62, 3) := by decide +kernel
theorem dX3_extend_67 : decode cX3_extend 67 = .ok (.invokestatic 144, 3) := by decide +kernel
theorem dX3_extend_70 : decode cX3_extend 70 = .ok (.istore 7, 2) := by decide +kernel
theorem dX3_extend_72 : decode cX3_extend 72 = .ok (.iload_n 3, 1) := by decide +kernel
theorem dX3_extend_73 : decode cX3_extend 73 = .ok (.aload_n 0, 1) := by decide +kernel
theorem dX3_extend_74 : decode cX3_extend 74 = .ok (.iload 5, 2) := by decide +kernel
theorem dX3_extend_76 : decode cX3_extend 76 = .ok (.iload 7, 2) := by decide +kernel
theorem dX3_extend_78 : decode cX3_extend 78 = .ok (.invokevirtual 134, 3) := by decide +kernel
theorem dX3_extend_81 : decode cX3_extend 81 = .ok (.iadd, 1) := by decide +kernel
theorem dX3_extend_82 : decode cX3_extend 82 = .ok (.istore 8, 2) := by decide +kernel
theorem dX3_extend_84 : decode cX3_extend 84 = .ok (.iload 7, 2) := by decide +kernel
theorem dX3_extend_86 : decode cX3_extend 86 = .ok (.aload_n 0, 1) := by decide +kernel
theorem dX3_extend_87 : decode cX3_extend 87 = .ok (.getfield 9, 3) := by decide +kernel
theorem dX3_extend_90 : decode cX3_extend 90 = .ok (.iload 5, 2) := by decide +kernel
theorem dX3_extend_92 : decode cX3_extend 92 = .ok (.iaload, 1) := by decide +kernel
theorem dX3_extend_93 : decode cX3_extend 93 = .ok (.iadd, 1) := by decide +kernel
theorem dX3_extend_94 : decode cX3_extend 94 = .ok (.istore 9, 2) := by decide +kernel
theorem dX3_extend_96 : decode cX3_extend 96 = .ok (.aload_n 0, 1) := by decide +kernel
theorem dX3_extend_97 : decode cX3_extend 97 = .ok (.getfield 18, 3) := by decide +kernel
theorem dX3_extend_100 : decode cX3_extend 100 = .ok (.iload_n 1, 1) := by decide +kernel
theorem dX3_extend_101 : decode cX3_extend 101 = .ok (.iload 5, 2) := by decide +kernel
theorem dX3_extend_103 : decode cX3_extend 103 = .ok (.iastore, 1) := by decide +kernel
theorem dX3_extend_104 : decode cX3_extend 104 = .ok (.aload_n 0, 1) := by decide +kernel
theorem dX3_extend_105 : decode cX3_extend 105 = .ok (.getfield 15, 3) := by decide +kernel
theorem dX3_extend_108 : decode cX3_extend 108 = .ok (.iload 5, 2) := by decide +kernel
theorem dX3_extend_110 : decode cX3_extend 110 = .ok (.iload 9, 2) := by decide +kernel
theorem dX3_extend_112 : decode cX3_extend 112 = .ok (.iastore, 1) := by decide +kernel
theorem dX3_extend_113 : decode cX3_extend 113 = .ok (.aload_n 0, 1) := by decide +kernel
theorem dX3_extend_114 : decode cX3_extend 114 = .ok (.iload 8, 2) := by decide +kernel
theorem dX3_extend_116 : decode cX3_extend 116 = .ok (.aload_n 0, 1) := by decide +kernel
theorem dX3_extend_117 : decode cX3_extend 117 = .ok (.iload 9, 2) := by decide +kernel
theorem dX3_extend_119 : decode cX3_extend 119 = .ok (.iload 6, 2) := by decide +kernel
theorem dX3_extend_121 : decode cX3_extend 121 = .ok (.invokevirtual 147, 3) := by decide +kernel
theorem dX3_extend_124 : decode cX3_extend 124 = .ok (.iadd, 1) := by decide +kernel
theorem dX3_extend_125 : decode cX3_extend 125 = .ok (.aload_n 0, 1) := by decide +kernel
theorem dX3_extend_126 : decode cX3_extend 126 = .ok (.iload 9, 2) := by decide +kernel
theorem dX3_extend_128 : decode cX3_extend 128 = .ok (.iload 6, 2) := by decide +kernel
theorem dX3_extend_130 : decode cX3_extend 130 = .ok (.invokevirtual 150, 3) := by decide +kernel
theorem dX3_extend_133 : decode cX3_extend 133 = .ok (.invokevirtual 153, 3) := by decide +kernel
theorem dX3_extend_136 : decode cX3_extend 136 = .ok (.ifCond .eq 16, 3) := by decide +kernel
theorem dX3_extend_139 : decode cX3_extend 139 = .ok (.aload_n 0, 1) := by decide +kernel
theorem dX3_extend_140 : decode cX3_extend 140 = .ok (.iload_n 1, 1) := by decide +kernel
theorem dX3_extend_141 : decode cX3_extend 141 = .ok (.iconst 1, 1) := by decide +kernel
theorem dX3_extend_142 : decode cX3_extend 142 = .ok (.iadd, 1) := by decide +kernel
theorem dX3_extend_143 : decode cX3_extend 143 = .ok (.iload 9, 2) := by decide +kernel
theorem dX3_extend_145 : decode cX3_extend 145 = .ok (.iload 8, 2) := by decide +kernel
theorem dX3_extend_147 : decode cX3_extend 147 = .ok (.iload 6, 2) := by decide +kernel
theorem dX3_extend_149 : decode cX3_extend 149 = .ok (.invokevirtual 78, 3) := by decide +kernel
theorem dX3_extend_152 : decode cX3_extend 152 = .ok (.aload_n 0, 1) := by decide +kernel
theorem dX3_extend_153 : decode cX3_extend 153 = .ok (.getfield 15, 3) := by decide +kernel
theorem dX3_extend_156 : decode cX3_extend 156 = .ok (.iload 5, 2) := by decide +kernel
theorem dX3_extend_158 : decode cX3_extend 158 = .ok (.ldc 55, 2) := by decide +kernel
theorem dX3_extend_160 : decode cX3_extend 160 = .ok (.iastore, 1) := by decide +kernel
theorem dX3_extend_161 : decode cX3_extend 161 = .ok (.iinc 5 1, 3) := by decide +kernel
theorem dX3_extend_164 : decode cX3_extend 164 = .ok (.goto (-137), 3) := by decide +kernel
theorem dX3_extend_167 : decode cX3_extend 167 = .ok (.return_, 1) := by decide +kernel
theorem dX3_isNext_0 : decode cX3_isNext 0 = .ok (.aload_n 0, 1) := by decide +kernel
theorem dX3_isNext_1 : decode cX3_isNext 1 = .ok (.getfield 15, 3) := by decide +kernel
theorem dX3_isNext_4 : decode cX3_isNext 4 = .ok (.iload_n 1, 1) := by decide +kernel
theorem dX3_isNext_5 : decode cX3_isNext 5 = .ok (.iaload, 1) := by decide +kernel
theorem dX3_isNext_6 : decode cX3_isNext 6 = .ok (.ldc 55, 2) := by decide +kernel
theorem dX3_isNext_8 : decode cX3_isNext 8 = .ok (.if_icmp .ne 31, 3) := by decide +kernel
theorem dX3_isNext_11 : decode cX3_isNext 11 = .ok (.iload_n 1, 1) := by decide +kernel
theorem dX3_isNext_12 : decode cX3_isNext 12 = .ok (.aload_n 0, 1) := by decide +kernel
theorem dX3_isNext_13 : decode cX3_isNext 13 = .ok (.getfield 85, 3) := by decide +kernel
theorem dX3_isNext_16 : decode cX3_isNext 16 = .ok (.if_icmp .lt 19, 3) := by decide +kernel
theorem dX3_isNext_19 : decode cX3_isNext 19 = .ok (.aload_n 0, 1) := by decide +kernel
theorem dX3_isNext_20 : decode cX3_isNext 20 = .ok (.getfield 15, 3) := by decide +kernel
theorem dX3_isNext_23 : decode cX3_isNext 23 = .ok (.iload_n 1, 1) := by decide +kernel
theorem dX3_isNext_24 : decode cX3_isNext 24 = .ok (.aload_n 0, 1) := by decide +kernel
theorem dX3_isNext_25 : decode cX3_isNext 25 = .ok (.getfield 85, 3) := by decide +kernel
theorem dX3_isNext_28 : decode cX3_isNext 28 = .ok (.isub, 1) := by decide +kernel
theorem dX3_isNext_29 : decode cX3_isNext 29 = .ok (.iaload, 1) := by decide +kernel
theorem dX3_isNext_30 : decode cX3_isNext 30 = .ok (.ldc 55, 2) := by decide +kernel
theorem dX3_isNext_32 : decode cX3_isNext 32 = .ok (.if_icmp .eq 7, 3) := by decide +kernel
theorem dX3_isNext_35 : decode cX3_isNext 35 = .ok (.iconst 1, 1) := by decide +kernel
theorem dX3_isNext_36 : decode cX3_isNext 36 = .ok (.goto 4, 3) := by decide +kernel
theorem dX3_isNext_39 : decode cX3_isNext 39 = .ok (.iconst 0, 1) := by decide +kernel
theorem dX3_isNext_40 : decode cX3_isNext 40 = .ok (.ireturn, 1) := by decide +kernel
theorem dX3_take_0 : decode cX3_take 0 = .ok (.aload_n 0, 1) := by decide +kernel
theorem dX3_take_1 : decode cX3_take 1 = .ok (.iload_n 2, 1) := by decide +kernel
theorem dX3_take_2 : decode cX3_take 2 = .ok (.iload_n 1, 1) := by decide +kernel
theorem dX3_take_3 : decode cX3_take 3 = .ok (.invokevirtual 153, 3) := by decide +kernel
theorem dX3_take_6 : decode cX3_take 6 = .ok (.ifCond .ne 4, 3) := by decide +kernel
theorem dX3_take_9 : decode cX3_take 9 = .ok (.return_, 1) := by decide +kernel
theorem dX3_take_10 : decode cX3_take 10 = .ok (.aload_n 0, 1) := by decide +kernel
theorem dX3_take_11 : decode cX3_take 11 = .ok (.iconst 1, 1) := by decide +kernel
theorem dX3_take_12 : decode cX3_take 12 = .ok (.putfield 31, 3) := by decide +kernel
theorem dX3_take_15 : decode cX3_take 15 = .ok (.aload_n 0, 1) := by decide +kernel
theorem dX3_take_16 : decode cX3_take 16 = .ok (.aload_n 0, 1) := by decide +kernel
theorem dX3_take_17 : decode cX3_take 17 = .ok (.getfield 56, 3) := by decide +kernel
theorem dX3_take_20 : decode cX3_take 20 = .ok (.ifCond .eq 15, 3) := by decide +kernel
theorem dX3_take_23 : decode cX3_take 23 = .ok (.iload_n 2, 1) := by decide +kernel
theorem dX3_take_24 : decode cX3_take 24 = .ok (.aload_n 0, 1) := by decide +kernel
theorem dX3_take_25 : decode cX3_take 25 = .ok (.getfield 35, 3) := by decide +kernel
theorem dX3_take_28 : decode cX3_take 28 = .ok (.if_icmp .ge 7, 3) := by decide +kernel
theorem dX3_take_31 : decode cX3_take 31 = .ok (.iconst (-1), 1) := by decide +kernel
theorem dX3_take_32 : decode cX3_take 32 = .ok (.goto 4, 3) := by decide +kernel
theorem dX3_take_35 : decode cX3_take 35 = .ok (.iload_n 2, 1) := by decide +kernel
theorem dX3_take_36 : decode cX3_take 36 = .ok (.putfield 35, 3) := by decide +kernel
theorem dX3_take_39 : decode cX3_take 39 = .ok (.aload_n 0, 1) := by decide +kernel
theorem dX3_take_40 : decode cX3_take 40 = .ok (.iload_n 1, 1) := by decide +kernel
theorem dX3_take_41 : decode cX3_take 41 = .ok (.putfield 39, 3) := by decide +kernel
theorem dX3_take_44 : decode cX3_take 44 = .ok (.aload_n 0, 1) := by decide +kernel
theorem dX3_take_45 : decode cX3_take 45 = .ok (.getfield 18, 3) := by decide +kernel
theorem dX3_take_48 : decode cX3_take 48 = .ok (.aload_n 0, 1) := by decide +kernel
theorem dX3_take_49 : decode cX3_take 49 = .ok (.getfield 21, 3) := by decide +kernel
theorem dX3_take_52 : decode cX3_take 52 = .ok (.invokestatic 157, 3) := by decide +kernel
theorem dX3_take_55 : decode cX3_take 55 = .ok (.return_, 1) := by decide +kernel
theorem dX3_mayBeBetter_0 : decode cX3_mayBeBetter 0 = .ok (.iload_n 1, 1) := by decide +kernel
theorem dX3_mayBeBetter_1 : decode cX3_mayBeBetter 1 = .ok (.aload_n 0, 1) := by decide +kernel
theorem dX3_mayBeBetter_2 : decode cX3_mayBeBetter 2 = .ok (.getfield 35, 3) := by decide +kernel
theorem dX3_mayBeBetter_5 : decode cX3_mayBeBetter 5 = .ok (.if_icmp .eq 17, 3) := by decide +kernel
theorem dX3_mayBeBetter_8 : decode cX3_mayBeBetter 8 = .ok (.iload_n 1, 1) := by decide +kernel
theorem dX3_mayBeBetter_9 : decode cX3_mayBeBetter 9 = .ok (.aload_n 0, 1) := by decide +kernel
theorem dX3_mayBeBetter_10 : decode cX3_mayBeBetter 10 = .ok (.getfield 35, 3) := by decide +kernel
theorem dX3_mayBeBetter_13 : decode cX3_mayBeBetter 13 = .ok (.if_icmp .ge 7, 3) := by decide +kernel
theorem dX3_mayBeBetter_16 : decode cX3_mayBeBetter 16 = .ok (.iconst 1, 1) := by decide +kernel
theorem dX3_mayBeBetter_17 : decode cX3_mayBeBetter 17 = .ok (.goto 4, 3) := by decide +kernel
theorem dX3_mayBeBetter_20 : decode cX3_mayBeBetter 20 = .ok (.iconst 0, 1) := by decide +kernel
theorem dX3_mayBeBetter_21 : decode cX3_mayBeBetter 21 = .ok (.ireturn, 1) := by decide +kernel
theorem dX3_mayBeBetter_22 : decode cX3_mayBeBetter 22 = .ok (.iload_n 2, 1) := by decide +kernel
theorem dX3_mayBeBetter_23 : decode cX3_mayBeBetter 23 = .ok (.aload_n 0, 1) := by decide +kernel
theorem dX3_mayBeBetter_24 : decode cX3_mayBeBetter 24 = .ok (.getfield 39, 3) := by decide +kernel
theorem dX3_mayBeBetter_27 : decode cX3_mayBeBetter 27 = .ok (.if_icmp .ge 21, 3) := by decide +kernel
theorem dX3_mayBeBetter_30 : decode cX3_mayBeBetter 30 = .ok (.aload_n 0, 1) := by decide +kernel
theorem dX3_mayBeBetter_31 : decode cX3_mayBeBetter 31 = .ok (.getfield 31, 3) := by decide +kernel
theorem dX3_mayBeBetter_34 : decode cX3_mayBeBetter 34 = .ok (.ifCond .eq 10, 3) := by decide +kernel
theorem dX3_mayBeBetter_37 : decode cX3_mayBeBetter 37 = .ok (.aload_n 0, 1) := by decide +kernel
theorem dX3_mayBeBetter_38 : decode cX3_mayBeBetter 38 = .ok (.getfield 56, 3) := by decide +kernel
theorem dX3_mayBeBetter_41 : decode cX3_mayBeBetter 41 = .ok (.ifCond .ne 7, 3) := by decide +kernel
theorem dX3_mayBeBetter_44 : decode cX3_mayBeBetter 44 = .ok (.iconst 1, 1) := by decide +kernel
theorem dX3_mayBeBetter_45 : decode cX3_mayBeBetter 45 = .ok (.goto 4, 3) := by decide +kernel
theorem dX3_mayBeBetter_48 : decode cX3_mayBeBetter 48 = .ok (.iconst 0, 1) := by decide +kernel
theorem dX3_mayBeBetter_49 : decode cX3_mayBeBetter 49 = .ok (.ireturn, 1) := by decide +kernel
theorem dX3_leastEnd_0 : decode cX3_leastEnd 0 = .ok (.aload_n 0, 1) := by decide +kernel
theorem dX3_leastEnd_1 : decode cX3_leastEnd 1 = .ok (.getfield 59, 3) := by decide +kernel
theorem dX3_leastEnd_4 : decode cX3_leastEnd 4 = .ok (.iload_n 2, 1) := by decide +kernel
theorem dX3_leastEnd_5 : decode cX3_leastEnd 5 = .ok (.isub, 1) := by decide +kernel
theorem dX3_leastEnd_6 : decode cX3_leastEnd 6 = .ok (.istore_n 3, 1) := by decide +kernel
theorem dX3_leastEnd_7 : decode cX3_leastEnd 7 = .ok (.iload_n 3, 1) := by decide +kernel
theorem dX3_leastEnd_8 : decode cX3_leastEnd 8 = .ok (.ifCond .ne 7, 3) := by decide +kernel
theorem dX3_leastEnd_11 : decode cX3_leastEnd 11 = .ok (.iload_n 1, 1) := by decide +kernel
theorem dX3_leastEnd_12 : decode cX3_leastEnd 12 = .ok (.goto 22, 3) := by decide +kernel
theorem dX3_leastEnd_15 : decode cX3_leastEnd 15 = .ok (.iload_n 1, 1) := by decide +kernel
theorem dX3_leastEnd_16 : decode cX3_leastEnd 16 = .ok (.iload_n 3, 1) := by decide +kernel
theorem dX3_leastEnd_17 : decode cX3_leastEnd 17 = .ok (.iadd, 1) := by decide +kernel
theorem dX3_leastEnd_18 : decode cX3_leastEnd 18 = .ok (.aload_n 0, 1) := by decide +kernel
theorem dX3_leastEnd_19 : decode cX3_leastEnd 19 = .ok (.aload_n 0, 1) := by decide +kernel
theorem dX3_leastEnd_20 : decode cX3_leastEnd 20 = .ok (.getfield 59, 3) := by decide +kernel
theorem dX3_leastEnd_23 : decode cX3_leastEnd 23 = .ok (.invokevirtual 62, 3) := by decide +kernel
theorem dX3_leastEnd_26 : decode cX3_leastEnd 26 = .ok (.aload_n 0, 1) := by decide +kernel
theorem dX3_leastEnd_27 : decode cX3_leastEnd 27 = .ok (.getfield 106, 3) := by decide +kernel
theorem dX3_leastEnd_30 : decode cX3_leastEnd 30 = .ok (.iadd, 1) := by decide +kernel
theorem dX3_leastEnd_31 : decode cX3_leastEnd 31 = .ok (.invokestatic 144, 3) := by decide +kernel
theorem dX3_leastEnd_34 : decode cX3_leastEnd 34 = .ok (.ireturn, 1) := by decide +kernel
theorem dX3_harmToCome_0 : decode cX3_harmToCome 0 = .ok (.iconst 0, 1) := by decide +kernel
theorem dX3_harmToCome_1 : decode cX3_harmToCome 1 = .ok (.istore_n 3, 1) := by decide +kernel
theorem dX3_harmToCome_2 : decode cX3_harmToCome 2 = .ok (.iconst 0, 1) := by decide +kernel
theorem dX3_harmToCome_3 : decode cX3_harmToCome 3 = .ok (.istore 4, 2) := by decide +kernel
theorem dX3_harmToCome_5 : decode cX3_harmToCome 5 = .ok (.iload 4, 2) := by decide +kernel
theorem dX3_harmToCome_7 : decode cX3_harmToCome 7 = .ok (.aload_n 0, 1) := by decide +kernel
theorem dX3_harmToCome_8 : decode cX3_harmToCome 8 = .ok (.getfield 85, 3) := by decide +kernel
theorem dX3_harmToCome_11 : decode cX3_harmToCome 11 = .ok (.if_icmp .ge 117, 3) := by decide +kernel
theorem dX3_harmToCome_14 : decode cX3_harmToCome 14 = .ok (.iload_n 1, 1) := by decide +kernel
theorem dX3_harmToCome_15 : decode cX3_harmToCome 15 = .ok (.istore 5, 2) := by decide +kernel
theorem dX3_harmToCome_17 : decode cX3_harmToCome 17 = .ok (.iload_n 2, 1) := by decide +kernel
theorem dX3_harmToCome_18 : decode cX3_harmToCome 18 = .ok (.istore 6, 2) := by decide +kernel
theorem dX3_harmToCome_20 : decode cX3_harmToCome 20 = .ok (.iconst 0, 1) := by decide +kernel
theorem dX3_harmToCome_21 : decode cX3_harmToCome 21 = .ok (.istore 7, 2) := by decide +kernel
theorem dX3_harmToCome_23 : decode cX3_harmToCome 23 = .ok (.iload 7, 2) := by decide +kernel
theorem dX3_harmToCome_25 : decode cX3_harmToCome 25 = .ok (.aload_n 0, 1) := by decide +kernel
theorem dX3_harmToCome_26 : decode cX3_harmToCome 26 = .ok (.getfield 89, 3) := by decide +kernel
theorem dX3_harmToCome_29 : decode cX3_harmToCome 29 = .ok (.if_icmp .ge 93, 3) := by decide +kernel
theorem dX3_harmToCome_32 : decode cX3_harmToCome 32 = .ok (.iload 7, 2) := by decide +kernel
theorem dX3_harmToCome_34 : decode cX3_harmToCome 34 = .ok (.aload_n 0, 1) := by decide +kernel
theorem dX3_harmToCome_35 : decode cX3_harmToCome 35 = .ok (.getfield 85, 3) := by decide +kernel
theorem dX3_harmToCome_38 : decode cX3_harmToCome 38 = .ok (.imul, 1) := by decide +kernel
theorem dX3_harmToCome_39 : decode cX3_harmToCome 39 = .ok (.iload 4, 2) := by decide +kernel
theorem dX3_harmToCome_41 : decode cX3_harmToCome 41 = .ok (.iadd, 1) := by decide +kernel
theorem dX3_harmToCome_42 : decode cX3_harmToCome 42 = .ok (.istore 8, 2) := by decide +kernel
theorem dX3_harmToCome_44 : decode cX3_harmToCome 44 = .ok (.iload 8, 2) := by decide +kernel
theorem dX3_harmToCome_46 : decode cX3_harmToCome 46 = .ok (.aload_n 0, 1) := by decide +kernel
theorem dX3_harmToCome_47 : decode cX3_harmToCome 47 = .ok (.getfield 93, 3) := by decide +kernel
theorem dX3_harmToCome_50 : decode cX3_harmToCome 50 = .ok (.if_icmp .ge 66, 3) := by decide +kernel
theorem dX3_harmToCome_53 : decode cX3_harmToCome 53 = .ok (.aload_n 0, 1) := by decide +kernel
theorem dX3_harmToCome_54 : decode cX3_harmToCome 54 = .ok (.getfield 15, 3) := by decide +kernel
theorem dX3_harmToCome_57 : decode cX3_harmToCome 57 = .ok (.iload 8, 2) := by decide +kernel
theorem dX3_harmToCome_59 : decode cX3_harmToCome 59 = .ok (.iaload, 1) := by decide +kernel
theorem dX3_harmToCome_60 : decode cX3_harmToCome 60 = .ok (.ldc 55, 2) := by decide +kernel
theorem dX3_harmToCome_62 : decode cX3_harmToCome 62 = .ok (.if_icmp .eq 6, 3) := by decide +kernel
theorem dX3_harmToCome_65 : decode cX3_harmToCome 65 = .ok (.goto 51, 3) := by decide +kernel
theorem dX3_harmToCome_68 : decode cX3_harmToCome 68 = .ok (.iload 6, 2) := by decide +kernel
theorem dX3_harmToCome_70 : decode cX3_harmToCome 70 = .ok (.aload_n 0, 1) := by decide +kernel
theorem dX3_harmToCome_71 : decode cX3_harmToCome 71 = .ok (.getfield 9, 3) := by decide +kernel
theorem dX3_harmToCome_74 : decode cX3_harmToCome 74 = .ok (.iload 8, 2) := by decide +kernel
theorem dX3_harmToCome_76 : decode cX3_harmToCome 76 = .ok (.iaload, 1) := by decide +kernel
theorem dX3_harmToCome_77 : decode cX3_harmToCome 77 = .ok (.iadd, 1) := by decide +kernel
theorem dX3_harmToCome_78 : decode cX3_harmToCome 78 = .ok (.istore 6, 2) := by decide +kernel
theorem dX3_harmToCome_80 : decode cX3_harmToCome 80 = .ok (.iload 5, 2) := by decide +kernel
theorem dX3_harmToCome_82 : decode cX3_harmToCome 82 = .ok (.aload_n 0, 1) := by decide +kernel
theorem dX3_harmToCome_83 : decode cX3_harmToCome 83 = .ok (.iload 6, 2) := by decide +kernel
theorem dX3_harmToCome_85 : decode cX3_harmToCome 85 = .ok (.invokevirtual 62, 3) := by decide +kernel
theorem dX3_harmToCome_88 : decode cX3_harmToCome 88 = .ok (.invokestatic 144, 3) := by decide +kernel
theorem dX3_harmToCome_91 : decode cX3_harmToCome 91 = .ok (.istore 5, 2) := by decide +kernel
theorem dX3_harmToCome_93 : decode cX3_harmToCome 93 = .ok (.iload_n 3, 1) := by decide +kernel
theorem dX3_harmToCome_94 : decode cX3_harmToCome 94 = .ok (.aload_n 0, 1) := by decide +kernel
theorem dX3_harmToCome_95 : decode cX3_harmToCome 95 = .ok (.iload 8, 2) := by decide +kernel
theorem dX3_harmToCome_97 : decode cX3_harmToCome 97 = .ok (.iload 5, 2) := by decide +kernel
theorem dX3_harmToCome_99 : decode cX3_harmToCome 99 = .ok (.invokevirtual 134, 3) := by decide +kernel
theorem dX3_harmToCome_102 : decode cX3_harmToCome 102 = .ok (.iadd, 1) := by decide +kernel
theorem dX3_harmToCome_103 : decode cX3_harmToCome 103 = .ok (.istore_n 3, 1) := by decide +kernel
theorem dX3_harmToCome_104 : decode cX3_harmToCome 104 = .ok (.iload 5, 2) := by decide +kernel
theorem dX3_harmToCome_106 : decode cX3_harmToCome 106 = .ok (.aload_n 0, 1) := by decide +kernel
theorem dX3_harmToCome_107 : decode cX3_harmToCome 107 = .ok (.getfield 9, 3) := by decide +kernel
theorem dX3_harmToCome_110 : decode cX3_harmToCome 110 = .ok (.iload 8, 2) := by decide +kernel
theorem dX3_harmToCome_112 : decode cX3_harmToCome 112 = .ok (.iaload, 1) := by decide +kernel
theorem dX3_harmToCome_113 : decode cX3_harmToCome 113 = .ok (.iadd, 1) := by decide +kernel
theorem dX3_harmToCome_114 : decode cX3_harmToCome 114 = .ok (.istore 5, 2) := by decide +kernel
theorem dX3_harmToCome_116 : decode cX3_harmToCome 116 = .ok (.iinc 7 1, 3) := by decide +kernel
theorem dX3_harmToCome_119 : decode cX3_harmToCome 119 = .ok (.goto (-96), 3) := by decide +kernel
theorem dX3_harmToCome_122 : decode cX3_harmToCome 122 = .ok (.iinc 4 1, 3) := by decide +kernel
theorem dX3_harmToCome_125 : decode cX3_harmToCome 125 = .ok (.goto (-120), 3) := by decide +kernel
theorem dX3_harmToCome_128 : decode cX3_harmToCome 128 = .ok (.iload_n 3, 1) := by decide +kernel
theorem dX3_harmToCome_129 : decode cX3_harmToCome 129 = .ok (.ireturn, 1) := by decide +kernel
theorem dX3_harmCovering_0 : decode cX3_harmCovering 0 = .ok (.aload_n 0, 1) := by decide +kernel
theorem dX3_harmCovering_1 : decode cX3_harmCovering 1 = .ok (.getfield 85, 3) := by decide +kernel
theorem dX3_harmCovering_4 : decode cX3_harmCovering 4 = .ok (.iconst 1, 1) := by decide +kernel
theorem dX3_harmCovering_5 : decode cX3_harmCovering 5 = .ok (.if_icmp .ge 5, 3) := by decide +kernel
theorem dX3_harmCovering_8 : decode cX3_harmCovering 8 = .ok (.iconst 0, 1) := by decide +kernel
theorem dX3_harmCovering_9 : decode cX3_harmCovering 9 = .ok (.ireturn, 1) := by decide +kernel
theorem dX3_harmCovering_10 : decode cX3_harmCovering 10 = .ok (.iload_n 1, 1) := by decide +kernel
theorem dX3_harmCovering_11 : decode cX3_harmCovering 11 = .ok (.aload_n 0, 1) := by decide +kernel
theorem dX3_harmCovering_12 : decode cX3_harmCovering 12 = .ok (.getfield 85, 3) := by decide +kernel
theorem dX3_harmCovering_15 : decode cX3_harmCovering 15 = .ok (.irem, 1) := by decide +kernel
theorem dX3_harmCovering_16 : decode cX3_harmCovering 16 = .ok (.istore_n 3, 1) := by decide +kernel
theorem dX3_harmCovering_17 : decode cX3_harmCovering 17 = .ok (.iload_n 2, 1) := by decide +kernel
theorem dX3_harmCovering_18 : decode cX3_harmCovering 18 = .ok (.aload_n 0, 1) := by decide +kernel
theorem dX3_harmCovering_19 : decode cX3_harmCovering 19 = .ok (.getfield 97, 3) := by decide +kernel
theorem dX3_harmCovering_22 : decode cX3_harmCovering 22 = .ok (.isub, 1) := by decide +kernel
theorem dX3_harmCovering_23 : decode cX3_harmCovering 23 = .ok (.istore 4, 2) := by decide +kernel
theorem dX3_harmCovering_25 : decode cX3_harmCovering 25 = .ok (.iconst 0, 1) := by decide +kernel
theorem dX3_harmCovering_26 : decode cX3_harmCovering 26 = .ok (.istore 5, 2) := by decide +kernel
theorem dX3_harmCovering_28 : decode cX3_harmCovering 28 = .ok (.iload_n 1, 1) := by decide +kernel
theorem dX3_harmCovering_29 : decode cX3_harmCovering 29 = .ok (.aload_n 0, 1) := by decide +kernel
theorem dX3_harmCovering_30 : decode cX3_harmCovering 30 = .ok (.getfield 85, 3) := by decide +kernel
theorem dX3_harmCovering_33 : decode cX3_harmCovering 33 = .ok (.if_icmp .lt 28, 3) := by decide +kernel
theorem dX3_harmCovering_36 : decode cX3_harmCovering 36 = .ok (.aload_n 0, 1) := by decide +kernel
theorem dX3_harmCovering_37 : decode cX3_harmCovering 37 = .ok (.getfield 15, 3) := by decide +kernel
theorem dX3_harmCovering_40 : decode cX3_harmCovering 40 = .ok (.iload_n 1, 1) := by decide +kernel
theorem dX3_harmCovering_41 : decode cX3_harmCovering 41 = .ok (.aload_n 0, 1) := by decide +kernel
theorem dX3_harmCovering_42 : decode cX3_harmCovering 42 = .ok (.getfield 85, 3) := by decide +kernel
theorem dX3_harmCovering_45 : decode cX3_harmCovering 45 = .ok (.isub, 1) := by decide +kernel
theorem dX3_harmCovering_46 : decode cX3_harmCovering 46 = .ok (.iaload, 1) := by decide +kernel
theorem dX3_harmCovering_47 : decode cX3_harmCovering 47 = .ok (.iload 4, 2) := by decide +kernel
theorem dX3_harmCovering_49 : decode cX3_harmCovering 49 = .ok (.if_icmp .ge 12, 3) := by decide +kernel
theorem dX3_harmCovering_52 : decode cX3_harmCovering 52 = .ok (.iload 5, 2) := by decide +kernel
theorem dX3_harmCovering_54 : decode cX3_harmCovering 54 = .ok (.aload_n 0, 1) := by decide +kernel
theorem dX3_harmCovering_55 : decode cX3_harmCovering 55 = .ok (.getfield 101, 3) := by decide +kernel
theorem dX3_harmCovering_58 : decode cX3_harmCovering 58 = .ok (.iadd, 1) := by decide +kernel
theorem dX3_harmCovering_59 : decode cX3_harmCovering 59 = .ok (.istore 5, 2) := by decide +kernel
theorem dX3_harmCovering_61 : decode cX3_harmCovering 61 = .ok (.iload_n 3, 1) := by decide +kernel
theorem dX3_harmCovering_62 : decode cX3_harmCovering 62 = .ok (.ifCond .le 25, 3) := by decide +kernel
theorem dX3_harmCovering_65 : decode cX3_harmCovering 65 = .ok (.aload_n 0, 1) := by decide +kernel
theorem dX3_harmCovering_66 : decode cX3_harmCovering 66 = .ok (.getfield 15, 3) := by decide +kernel
theorem dX3_harmCovering_69 : decode cX3_harmCovering 69 = .ok (.iload_n 1, 1) := by decide +kernel
theorem dX3_harmCovering_70 : decode cX3_harmCovering 70 = .ok (.iconst 1, 1) := by decide +kernel
theorem dX3_harmCovering_71 : decode cX3_harmCovering 71 = .ok (.isub, 1) := by decide +kernel
theorem dX3_harmCovering_72 : decode cX3_harmCovering 72 = .ok (.iaload, 1) := by decide +kernel
theorem dX3_harmCovering_73 : decode cX3_harmCovering 73 = .ok (.iload 4, 2) := by decide +kernel
theorem dX3_harmCovering_75 : decode cX3_harmCovering 75 = .ok (.if_icmp .ge 12, 3) := by decide +kernel
theorem dX3_harmCovering_78 : decode cX3_harmCovering 78 = .ok (.iload 5, 2) := by decide +kernel
theorem dX3_harmCovering_80 : decode cX3_harmCovering 80 = .ok (.aload_n 0, 1) := by decide +kernel
theorem dX3_harmCovering_81 : decode cX3_harmCovering 81 = .ok (.getfield 105, 3) := by decide +kernel
theorem dX3_harmCovering_84 : decode cX3_harmCovering 84 = .ok (.iadd, 1) := by decide +kernel
theorem dX3_harmCovering_85 : decode cX3_harmCovering 85 = .ok (.istore 5, 2) := by decide +kernel
theorem dX3_harmCovering_87 : decode cX3_harmCovering 87 = .ok (.iload_n 3, 1) := by decide +kernel
theorem dX3_harmCovering_88 : decode cX3_harmCovering 88 = .ok (.iconst 1, 1) := by decide +kernel
theorem dX3_harmCovering_89 : decode cX3_harmCovering 89 = .ok (.iadd, 1) := by decide +kernel
theorem dX3_harmCovering_90 : decode cX3_harmCovering 90 = .ok (.aload_n 0, 1) := by decide +kernel
theorem dX3_harmCovering_91 : decode cX3_harmCovering 91 = .ok (.getfield 85, 3) := by decide +kernel
theorem dX3_harmCovering_94 : decode cX3_harmCovering 94 = .ok (.if_icmp .ge 25, 3) := by decide +kernel
theorem dX3_harmCovering_97 : decode cX3_harmCovering 97 = .ok (.aload_n 0, 1) := by decide +kernel
theorem dX3_harmCovering_98 : decode cX3_harmCovering 98 = .ok (.getfield 15, 3) := by decide +kernel
theorem dX3_harmCovering_101 : decode cX3_harmCovering 101 = .ok (.iload_n 1, 1) := by decide +kernel
theorem dX3_harmCovering_102 : decode cX3_harmCovering 102 = .ok (.iconst 1, 1) := by decide +kernel
theorem dX3_harmCovering_103 : decode cX3_harmCovering 103 = .ok (.iadd, 1) := by decide +kernel
theorem dX3_harmCovering_104 : decode cX3_harmCovering 104 = .ok (.iaload, 1) := by decide +kernel
theorem dX3_harmCovering_105 : decode cX3_harmCovering 105 = .ok (.iload 4, 2) := by decide +kernel
theorem dX3_harmCovering_107 : decode cX3_harmCovering 107 = .ok (.if_icmp .ge 12, 3) := by decide +kernel
theorem dX3_harmCovering_110 : decode cX3_harmCovering 110 = .ok (.iload 5, 2) := by decide +kernel
theorem dX3_harmCovering_112 : decode cX3_harmCovering 112 = .ok (.aload_n 0, 1) := by decide +kernel
theorem dX3_harmCovering_113 : decode cX3_harmCovering 113 = .ok (.getfield 105, 3) := by decide +kernel
theorem dX3_harmCovering_116 : decode cX3_harmCovering 116 = .ok (.iadd, 1) := by decide +kernel
theorem dX3_harmCovering_117 : decode cX3_harmCovering 117 = .ok (.istore 5, 2) := by decide +kernel
theorem dX3_harmCovering_119 : decode cX3_harmCovering 119 = .ok (.iload 5, 2) := by decide +kernel
theorem dX3_harmCovering_121 : decode cX3_harmCovering 121 = .ok (.ireturn, 1) := by decide +kernel
