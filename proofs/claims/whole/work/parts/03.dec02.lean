theorem dX8_areTogether_30 : decode cX8_areTogether 30 = .ok (.iload_n 2, 1) := by decide +kernel
theorem dX8_areTogether_31 : decode cX8_areTogether 31 = .ok (.iaload, 1) := by decide +kernel
theorem dX8_areTogether_32 : decode cX8_areTogether 32 = .ok (.if_icmp .ne 7, 3) := by decide +kernel
theorem dX8_areTogether_35 : decode cX8_areTogether 35 = .ok (.iconst 1, 1) := by decide +kernel
theorem dX8_areTogether_36 : decode cX8_areTogether 36 = .ok (.goto 4, 3) := by decide +kernel
theorem dX8_areTogether_39 : decode cX8_areTogether 39 = .ok (.iconst 0, 1) := by decide +kernel
theorem dX8_areTogether_40 : decode cX8_areTogether 40 = .ok (.ireturn, 1) := by decide +kernel
theorem dX8_bitsOf_0 : decode cX8_bitsOf 0 = .ok (.iconst 0, 1) := by decide +kernel
theorem dX8_bitsOf_1 : decode cX8_bitsOf 1 = .ok (.istore_n 3, 1) := by decide +kernel
theorem dX8_bitsOf_2 : decode cX8_bitsOf 2 = .ok (.iconst 0, 1) := by decide +kernel
theorem dX8_bitsOf_3 : decode cX8_bitsOf 3 = .ok (.istore 4, 2) := by decide +kernel
theorem dX8_bitsOf_5 : decode cX8_bitsOf 5 = .ok (.iload 4, 2) := by decide +kernel
theorem dX8_bitsOf_7 : decode cX8_bitsOf 7 = .ok (.iload_n 2, 1) := by decide +kernel
theorem dX8_bitsOf_8 : decode cX8_bitsOf 8 = .ok (.if_icmp .ge 34, 3) := by decide +kernel
theorem dX8_bitsOf_11 : decode cX8_bitsOf 11 = .ok (.iload 4, 2) := by decide +kernel
theorem dX8_bitsOf_13 : decode cX8_bitsOf 13 = .ok (.bipush 16, 2) := by decide +kernel
theorem dX8_bitsOf_15 : decode cX8_bitsOf 15 = .ok (.if_icmp .ge 27, 3) := by decide +kernel
theorem dX8_bitsOf_18 : decode cX8_bitsOf 18 = .ok (.aload_n 0, 1) := by decide +kernel
theorem dX8_bitsOf_19 : decode cX8_bitsOf 19 = .ok (.getfield 9, 3) := by decide +kernel
theorem dX8_bitsOf_22 : decode cX8_bitsOf 22 = .ok (.iload 4, 2) := by decide +kernel
theorem dX8_bitsOf_24 : decode cX8_bitsOf 24 = .ok (.iaload, 1) := by decide +kernel
theorem dX8_bitsOf_25 : decode cX8_bitsOf 25 = .ok (.iload_n 1, 1) := by decide +kernel
theorem dX8_bitsOf_26 : decode cX8_bitsOf 26 = .ok (.if_icmp .ne 10, 3) := by decide +kernel
theorem dX8_bitsOf_29 : decode cX8_bitsOf 29 = .ok (.iload_n 3, 1) := by decide +kernel
theorem dX8_bitsOf_30 : decode cX8_bitsOf 30 = .ok (.iconst 1, 1) := by decide +kernel
theorem dX8_bitsOf_31 : decode cX8_bitsOf 31 = .ok (.iload 4, 2) := by decide +kernel
theorem dX8_bitsOf_33 : decode cX8_bitsOf 33 = .ok (.ishl, 1) := by decide +kernel
theorem dX8_bitsOf_34 : decode cX8_bitsOf 34 = .ok (.ior, 1) := by decide +kernel
theorem dX8_bitsOf_35 : decode cX8_bitsOf 35 = .ok (.istore_n 3, 1) := by decide +kernel
theorem dX8_bitsOf_36 : decode cX8_bitsOf 36 = .ok (.iinc 4 1, 3) := by decide +kernel
theorem dX8_bitsOf_39 : decode cX8_bitsOf 39 = .ok (.goto (-34), 3) := by decide +kernel
theorem dX8_bitsOf_42 : decode cX8_bitsOf 42 = .ok (.iload_n 3, 1) := by decide +kernel
theorem dX8_bitsOf_43 : decode cX8_bitsOf 43 = .ok (.ireturn, 1) := by decide +kernel
theorem dX8_calledByAll_0 : decode cX8_calledByAll 0 = .ok (.iconst 0, 1) := by decide +kernel
theorem dX8_calledByAll_1 : decode cX8_calledByAll 1 = .ok (.istore_n 2, 1) := by decide +kernel
theorem dX8_calledByAll_2 : decode cX8_calledByAll 2 = .ok (.iconst 0, 1) := by decide +kernel
theorem dX8_calledByAll_3 : decode cX8_calledByAll 3 = .ok (.istore_n 3, 1) := by decide +kernel
theorem dX8_calledByAll_4 : decode cX8_calledByAll 4 = .ok (.iload_n 3, 1) := by decide +kernel
theorem dX8_calledByAll_5 : decode cX8_calledByAll 5 = .ok (.iload_n 1, 1) := by decide +kernel
theorem dX8_calledByAll_6 : decode cX8_calledByAll 6 = .ok (.if_icmp .ge 24, 3) := by decide +kernel
theorem dX8_calledByAll_9 : decode cX8_calledByAll 9 = .ok (.iload_n 3, 1) := by decide +kernel
theorem dX8_calledByAll_10 : decode cX8_calledByAll 10 = .ok (.bipush 16, 2) := by decide +kernel
theorem dX8_calledByAll_12 : decode cX8_calledByAll 12 = .ok (.if_icmp .ge 18, 3) := by decide +kernel
theorem dX8_calledByAll_15 : decode cX8_calledByAll 15 = .ok (.iload_n 2, 1) := by decide +kernel
theorem dX8_calledByAll_16 : decode cX8_calledByAll 16 = .ok (.aload_n 0, 1) := by decide +kernel
theorem dX8_calledByAll_17 : decode cX8_calledByAll 17 = .ok (.getfield 21, 3) := by decide +kernel
theorem dX8_calledByAll_20 : decode cX8_calledByAll 20 = .ok (.iload_n 3, 1) := by decide +kernel
theorem dX8_calledByAll_21 : decode cX8_calledByAll 21 = .ok (.iaload, 1) := by decide +kernel
theorem dX8_calledByAll_22 : decode cX8_calledByAll 22 = .ok (.iadd, 1) := by decide +kernel
theorem dX8_calledByAll_23 : decode cX8_calledByAll 23 = .ok (.istore_n 2, 1) := by decide +kernel
theorem dX8_calledByAll_24 : decode cX8_calledByAll 24 = .ok (.iinc 3 1, 3) := by decide +kernel
theorem dX8_calledByAll_27 : decode cX8_calledByAll 27 = .ok (.goto (-23), 3) := by decide +kernel
theorem dX8_calledByAll_30 : decode cX8_calledByAll 30 = .ok (.iload_n 2, 1) := by decide +kernel
theorem dX8_calledByAll_31 : decode cX8_calledByAll 31 = .ok (.ireturn, 1) := by decide +kernel
theorem dX9_init_0 : decode cX9_init 0 = .ok (.aload_n 0, 1) := by decide +kernel
theorem dX9_init_1 : decode cX9_init 1 = .ok (.invokespecial 3, 3) := by decide +kernel
theorem dX9_init_4 : decode cX9_init 4 = .ok (.aload_n 0, 1) := by decide +kernel
theorem dX9_init_5 : decode cX9_init 5 = .ok (.sipush 260, 3) := by decide +kernel
theorem dX9_init_8 : decode cX9_init 8 = .ok (.newarray .int, 2) := by decide +kernel
theorem dX9_init_10 : decode cX9_init 10 = .ok (.putfield 11, 3) := by decide +kernel
theorem dX9_init_13 : decode cX9_init 13 = .ok (.aload_n 0, 1) := by decide +kernel
theorem dX9_init_14 : decode cX9_init 14 = .ok (.iconst 0, 1) := by decide +kernel
theorem dX9_init_15 : decode cX9_init 15 = .ok (.putfield 15, 3) := by decide +kernel
theorem dX9_init_18 : decode cX9_init 18 = .ok (.aload_n 0, 1) := by decide +kernel
theorem dX9_init_19 : decode cX9_init 19 = .ok (.iconst 0, 1) := by decide +kernel
theorem dX9_init_20 : decode cX9_init 20 = .ok (.putfield 19, 3) := by decide +kernel
theorem dX9_init_23 : decode cX9_init 23 = .ok (.aload_n 0, 1) := by decide +kernel
theorem dX9_init_24 : decode cX9_init 24 = .ok (.iconst 0, 1) := by decide +kernel
theorem dX9_init_25 : decode cX9_init 25 = .ok (.putfield 22, 3) := by decide +kernel
theorem dX9_init_28 : decode cX9_init 28 = .ok (.aload_n 0, 1) := by decide +kernel
theorem dX9_init_29 : decode cX9_init 29 = .ok (.iconst 0, 1) := by decide +kernel
theorem dX9_init_30 : decode cX9_init 30 = .ok (.putfield 25, 3) := by decide +kernel
theorem dX9_init_33 : decode cX9_init 33 = .ok (.return_, 1) := by decide +kernel
theorem dX9_addWord_0 : decode cX9_addWord 0 = .ok (.bipush 24, 2) := by decide +kernel
theorem dX9_addWord_2 : decode cX9_addWord 2 = .ok (.istore_n 2, 1) := by decide +kernel
theorem dX9_addWord_3 : decode cX9_addWord 3 = .ok (.iload_n 2, 1) := by decide +kernel
theorem dX9_addWord_4 : decode cX9_addWord 4 = .ok (.ifCond .lt 47, 3) := by decide +kernel
theorem dX9_addWord_7 : decode cX9_addWord 7 = .ok (.aload_n 0, 1) := by decide +kernel
theorem dX9_addWord_8 : decode cX9_addWord 8 = .ok (.getfield 15, 3) := by decide +kernel
theorem dX9_addWord_11 : decode cX9_addWord 11 = .ok (.aload_n 0, 1) := by decide +kernel
theorem dX9_addWord_12 : decode cX9_addWord 12 = .ok (.getfield 11, 3) := by decide +kernel
theorem dX9_addWord_15 : decode cX9_addWord 15 = .ok (.arraylength, 1) := by decide +kernel
theorem dX9_addWord_16 : decode cX9_addWord 16 = .ok (.if_icmp .ge 35, 3) := by decide +kernel
theorem dX9_addWord_19 : decode cX9_addWord 19 = .ok (.aload_n 0, 1) := by decide +kernel
theorem dX9_addWord_20 : decode cX9_addWord 20 = .ok (.getfield 11, 3) := by decide +kernel
theorem dX9_addWord_23 : decode cX9_addWord 23 = .ok (.aload_n 0, 1) := by decide +kernel
theorem dX9_addWord_24 : decode cX9_addWord 24 = .ok (.getfield 15, 3) := by decide +kernel
theorem dX9_addWord_27 : decode cX9_addWord 27 = .ok (.iload_n 1, 1) := by decide +kernel
theorem dX9_addWord_28 : decode cX9_addWord 28 = .ok (.iload_n 2, 1) := by decide +kernel
theorem dX9_addWord_29 : decode cX9_addWord 29 = .ok (.ishr, 1) := by decide +kernel
theorem dX9_addWord_30 : decode cX9_addWord 30 = .ok (.sipush 255, 3) := by decide +kernel
theorem dX9_addWord_33 : decode cX9_addWord 33 = .ok (.iand, 1) := by decide +kernel
theorem dX9_addWord_34 : decode cX9_addWord 34 = .ok (.iastore, 1) := by decide +kernel
theorem dX9_addWord_35 : decode cX9_addWord 35 = .ok (.aload_n 0, 1) := by decide +kernel
theorem dX9_addWord_36 : decode cX9_addWord 36 = .ok (.dup, 1) := by decide +kernel
theorem dX9_addWord_37 : decode cX9_addWord 37 = .ok (.getfield 15, 3) := by decide +kernel
theorem dX9_addWord_40 : decode cX9_addWord 40 = .ok (.iconst 1, 1) := by decide +kernel
theorem dX9_addWord_41 : decode cX9_addWord 41 = .ok (.iadd, 1) := by decide +kernel
theorem dX9_addWord_42 : decode cX9_addWord 42 = .ok (.putfield 15, 3) := by decide +kernel
theorem dX9_addWord_45 : decode cX9_addWord 45 = .ok (.iinc 2 (-8), 3) := by decide +kernel
theorem dX9_addWord_48 : decode cX9_addWord 48 = .ok (.goto (-45), 3) := by decide +kernel
theorem dX9_addWord_51 : decode cX9_addWord 51 = .ok (.return_, 1) := by decide +kernel
theorem dX9_byteAt_0 : decode cX9_byteAt 0 = .ok (.iload_n 1, 1) := by decide +kernel
theorem dX9_byteAt_1 : decode cX9_byteAt 1 = .ok (.ifCond .lt 20, 3) := by decide +kernel
theorem dX9_byteAt_4 : decode cX9_byteAt 4 = .ok (.iload_n 1, 1) := by decide +kernel
theorem dX9_byteAt_5 : decode cX9_byteAt 5 = .ok (.aload_n 0, 1) := by decide +kernel
theorem dX9_byteAt_6 : decode cX9_byteAt 6 = .ok (.getfield 15, 3) := by decide +kernel
theorem dX9_byteAt_9 : decode cX9_byteAt 9 = .ok (.if_icmp .ge 12, 3) := by decide +kernel
theorem dX9_byteAt_12 : decode cX9_byteAt 12 = .ok (.aload_n 0, 1) := by decide +kernel
theorem dX9_byteAt_13 : decode cX9_byteAt 13 = .ok (.getfield 11, 3) := by decide +kernel
theorem dX9_byteAt_16 : decode cX9_byteAt 16 = .ok (.iload_n 1, 1) := by decide +kernel
theorem dX9_byteAt_17 : decode cX9_byteAt 17 = .ok (.iaload, 1) := by decide +kernel
theorem dX9_byteAt_18 : decode cX9_byteAt 18 = .ok (.goto 4, 3) := by decide +kernel
theorem dX9_byteAt_21 : decode cX9_byteAt 21 = .ok (.iconst (-1), 1) := by decide +kernel
theorem dX9_byteAt_22 : decode cX9_byteAt 22 = .ok (.ireturn, 1) := by decide +kernel
theorem dX9_clear_0 : decode cX9_clear 0 = .ok (.aload_n 0, 1) := by decide +kernel
theorem dX9_clear_1 : decode cX9_clear 1 = .ok (.iconst 0, 1) := by decide +kernel
theorem dX9_clear_2 : decode cX9_clear 2 = .ok (.putfield 15, 3) := by decide +kernel
theorem dX9_clear_5 : decode cX9_clear 5 = .ok (.return_, 1) := by decide +kernel
theorem dX9_beginText_0 : decode cX9_beginText 0 = .ok (.aload_n 0, 1) := by decide +kernel
theorem dX9_beginText_1 : decode cX9_beginText 1 = .ok (.iload_n 1, 1) := by decide +kernel
theorem dX9_beginText_2 : decode cX9_beginText 2 = .ok (.aload_n 0, 1) := by decide +kernel
theorem dX9_beginText_3 : decode cX9_beginText 3 = .ok (.getfield 15, 3) := by decide +kernel
theorem dX9_beginText_6 : decode cX9_beginText 6 = .ok (.invokestatic 28, 3) := by decide +kernel
theorem dX9_beginText_9 : decode cX9_beginText 9 = .ok (.putfield 19, 3) := by decide +kernel
theorem dX9_beginText_12 : decode cX9_beginText 12 = .ok (.aload_n 0, 1) := by decide +kernel
theorem dX9_beginText_13 : decode cX9_beginText 13 = .ok (.iconst 0, 1) := by decide +kernel
theorem dX9_beginText_14 : decode cX9_beginText 14 = .ok (.putfield 22, 3) := by decide +kernel
theorem dX9_beginText_17 : decode cX9_beginText 17 = .ok (.aload_n 0, 1) := by decide +kernel
theorem dX9_beginText_18 : decode cX9_beginText 18 = .ok (.iconst 0, 1) := by decide +kernel
theorem dX9_beginText_19 : decode cX9_beginText 19 = .ok (.putfield 25, 3) := by decide +kernel
theorem dX9_beginText_22 : decode cX9_beginText 22 = .ok (.return_, 1) := by decide +kernel
theorem dX9_sign_0 : decode cX9_sign 0 = .ok (.aload_n 0, 1) := by decide +kernel
theorem dX9_sign_1 : decode cX9_sign 1 = .ok (.getfield 25, 3) := by decide +kernel
theorem dX9_sign_4 : decode cX9_sign 4 = .ok (.ifCond .ne 33, 3) := by decide +kernel
theorem dX9_sign_7 : decode cX9_sign 7 = .ok (.aload_n 0, 1) := by decide +kernel
theorem dX9_sign_8 : decode cX9_sign 8 = .ok (.getfield 22, 3) := by decide +kernel
theorem dX9_sign_11 : decode cX9_sign 11 = .ok (.ifCond .lt 26, 3) := by decide +kernel
theorem dX9_sign_14 : decode cX9_sign 14 = .ok (.aload_n 0, 1) := by decide +kernel
theorem dX9_sign_15 : decode cX9_sign 15 = .ok (.getfield 22, 3) := by decide +kernel
theorem dX9_sign_18 : decode cX9_sign 18 = .ok (.aload_n 0, 1) := by decide +kernel
theorem dX9_sign_19 : decode cX9_sign 19 = .ok (.getfield 19, 3) := by decide +kernel
theorem dX9_sign_22 : decode cX9_sign 22 = .ok (.if_icmp .ge 15, 3) := by decide +kernel
theorem dX9_sign_25 : decode cX9_sign 25 = .ok (.aload_n 0, 1) := by decide +kernel
theorem dX9_sign_26 : decode cX9_sign 26 = .ok (.getfield 11, 3) := by decide +kernel
theorem dX9_sign_29 : decode cX9_sign 29 = .ok (.aload_n 0, 1) := by decide +kernel
theorem dX9_sign_30 : decode cX9_sign 30 = .ok (.getfield 22, 3) := by decide +kernel
theorem dX9_sign_33 : decode cX9_sign 33 = .ok (.iaload, 1) := by decide +kernel
theorem dX9_sign_34 : decode cX9_sign 34 = .ok (.goto 4, 3) := by decide +kernel
theorem dX9_sign_37 : decode cX9_sign 37 = .ok (.iconst (-1), 1) := by decide +kernel
theorem dX9_sign_38 : decode cX9_sign 38 = .ok (.ireturn, 1) := by decide +kernel
theorem dX9_fail_0 : decode cX9_fail 0 = .ok (.aload_n 0, 1) := by decide +kernel
theorem dX9_fail_1 : decode cX9_fail 1 = .ok (.getfield 25, 3) := by decide +kernel
theorem dX9_fail_4 : decode cX9_fail 4 = .ok (.ifCond .ne 14, 3) := by decide +kernel
theorem dX9_fail_7 : decode cX9_fail 7 = .ok (.aload_n 0, 1) := by decide +kernel
theorem dX9_fail_8 : decode cX9_fail 8 = .ok (.sipush (-1000), 3) := by decide +kernel
theorem dX9_fail_11 : decode cX9_fail 11 = .ok (.iload_n 1, 1) := by decide +kernel
theorem dX9_fail_12 : decode cX9_fail 12 = .ok (.imul, 1) := by decide +kernel
theorem dX9_fail_13 : decode cX9_fail 13 = .ok (.iload_n 2, 1) := by decide +kernel
theorem dX9_fail_14 : decode cX9_fail 14 = .ok (.isub, 1) := by decide +kernel
theorem dX9_fail_15 : decode cX9_fail 15 = .ok (.putfield 25, 3) := by decide +kernel
theorem dX9_fail_18 : decode cX9_fail 18 = .ok (.return_, 1) := by decide +kernel
theorem dX9_mayTake_0 : decode cX9_mayTake 0 = .ok (.aload_n 0, 1) := by decide +kernel
theorem dX9_mayTake_1 : decode cX9_mayTake 1 = .ok (.invokevirtual 34, 3) := by decide +kernel
theorem dX9_mayTake_4 : decode cX9_mayTake 4 = .ok (.iload_n 1, 1) := by decide +kernel
theorem dX9_mayTake_5 : decode cX9_mayTake 5 = .ok (.if_icmp .ne 7, 3) := by decide +kernel
theorem dX9_mayTake_8 : decode cX9_mayTake 8 = .ok (.iconst 1, 1) := by decide +kernel
theorem dX9_mayTake_9 : decode cX9_mayTake 9 = .ok (.goto 4, 3) := by decide +kernel
theorem dX9_mayTake_12 : decode cX9_mayTake 12 = .ok (.iconst 0, 1) := by decide +kernel
theorem dX9_mayTake_13 : decode cX9_mayTake 13 = .ok (.istore_n 2, 1) := by decide +kernel
theorem dX9_mayTake_14 : decode cX9_mayTake 14 = .ok (.iload_n 2, 1) := by decide +kernel
theorem dX9_mayTake_15 : decode cX9_mayTake 15 = .ok (.ifCond .eq 13, 3) := by decide +kernel
theorem dX9_mayTake_18 : decode cX9_mayTake 18 = .ok (.aload_n 0, 1) := by decide +kernel
theorem dX9_mayTake_19 : decode cX9_mayTake 19 = .ok (.dup, 1) := by decide +kernel
theorem dX9_mayTake_20 : decode cX9_mayTake 20 = .ok (.getfield 22, 3) := by decide +kernel
theorem dX9_mayTake_23 : decode cX9_mayTake 23 = .ok (.iconst 1, 1) := by decide +kernel
theorem dX9_mayTake_24 : decode cX9_mayTake 24 = .ok (.iadd, 1) := by decide +kernel
theorem dX9_mayTake_25 : decode cX9_mayTake 25 = .ok (.putfield 22, 3) := by decide +kernel
theorem dX9_mayTake_28 : decode cX9_mayTake 28 = .ok (.iload_n 2, 1) := by decide +kernel
theorem dX9_mayTake_29 : decode cX9_mayTake 29 = .ok (.ireturn, 1) := by decide +kernel
theorem dX9_take_0 : decode cX9_take 0 = .ok (.aload_n 0, 1) := by decide +kernel
theorem dX9_take_1 : decode cX9_take 1 = .ok (.invokevirtual 34, 3) := by decide +kernel
theorem dX9_take_4 : decode cX9_take 4 = .ok (.iload_n 1, 1) := by decide +kernel
theorem dX9_take_5 : decode cX9_take 5 = .ok (.if_icmp .ne 16, 3) := by decide +kernel
theorem dX9_take_8 : decode cX9_take 8 = .ok (.aload_n 0, 1) := by decide +kernel
theorem dX9_take_9 : decode cX9_take 9 = .ok (.dup, 1) := by decide +kernel
theorem dX9_take_10 : decode cX9_take 10 = .ok (.getfield 22, 3) := by decide +kernel
theorem dX9_take_13 : decode cX9_take 13 = .ok (.iconst 1, 1) := by decide +kernel
theorem dX9_take_14 : decode cX9_take 14 = .ok (.iadd, 1) := by decide +kernel
theorem dX9_take_15 : decode cX9_take 15 = .ok (.putfield 22, 3) := by decide +kernel
theorem dX9_take_18 : decode cX9_take 18 = .ok (.goto 12, 3) := by decide +kernel
theorem dX9_take_21 : decode cX9_take 21 = .ok (.aload_n 0, 1) := by decide +kernel
theorem dX9_take_22 : decode cX9_take 22 = .ok (.iconst 1, 1) := by decide +kernel
theorem dX9_take_23 : decode cX9_take 23 = .ok (.aload_n 0, 1) := by decide +kernel
theorem dX9_take_24 : decode cX9_take 24 = .ok (.getfield 22, 3) := by decide +kernel
theorem dX9_take_27 : decode cX9_take 27 = .ok (.invokevirtual 38, 3) := by decide +kernel
theorem dX9_take_30 : decode cX9_take 30 = .ok (.return_, 1) := by decide +kernel
theorem dX9_endText_0 : decode cX9_endText 0 = .ok (.aload_n 0, 1) := by decide +kernel
theorem dX9_endText_1 : decode cX9_endText 1 = .ok (.getfield 22, 3) := by decide +kernel
theorem dX9_endText_4 : decode cX9_endText 4 = .ok (.aload_n 0, 1) := by decide +kernel
theorem dX9_endText_5 : decode cX9_endText 5 = .ok (.getfield 19, 3) := by decide +kernel
theorem dX9_endText_8 : decode cX9_endText 8 = .ok (.if_icmp .ge 12, 3) := by decide +kernel
theorem dX9_endText_11 : decode cX9_endText 11 = .ok (.aload_n 0, 1) := by decide +kernel
theorem dX9_endText_12 : decode cX9_endText 12 = .ok (.iconst 1, 1) := by decide +kernel
theorem dX9_endText_13 : decode cX9_endText 13 = .ok (.aload_n 0, 1) := by decide +kernel
theorem dX9_endText_14 : decode cX9_endText 14 = .ok (.getfield 22, 3) := by decide +kernel
theorem dX9_endText_17 : decode cX9_endText 17 = .ok (.invokevirtual 38, 3) := by decide +kernel
theorem dX9_endText_20 : decode cX9_endText 20 = .ok (.aload_n 0, 1) := by decide +kernel
theorem dX9_endText_21 : decode cX9_endText 21 = .ok (.getfield 25, 3) := by decide +kernel
theorem dX9_endText_24 : decode cX9_endText 24 = .ok (.ifCond .ne 7, 3) := by decide +kernel
theorem dX9_endText_27 : decode cX9_endText 27 = .ok (.iload_n 1, 1) := by decide +kernel
theorem dX9_endText_28 : decode cX9_endText 28 = .ok (.goto 7, 3) := by decide +kernel
theorem dX9_endText_31 : decode cX9_endText 31 = .ok (.aload_n 0, 1) := by decide +kernel
theorem dX9_endText_32 : decode cX9_endText 32 = .ok (.getfield 25, 3) := by decide +kernel
theorem dX9_endText_35 : decode cX9_endText 35 = .ok (.ireturn, 1) := by decide +kernel
theorem dX10_init_0 : decode cX10_init 0 = .ok (.aload_n 0, 1) := by decide +kernel
theorem dX10_init_1 : decode cX10_init 1 = .ok (.invokespecial 3, 3) := by decide +kernel
theorem dX10_init_4 : decode cX10_init 4 = .ok (.aload_n 0, 1) := by decide +kernel
theorem dX10_init_5 : decode cX10_init 5 = .ok (.aload_n 1, 1) := by decide +kernel
theorem dX10_init_6 : decode cX10_init 6 = .ok (.putfield 9, 3) := by decide +kernel
theorem dX10_init_9 : decode cX10_init 9 = .ok (.aload_n 0, 1) := by decide +kernel
theorem dX10_init_10 : decode cX10_init 10 = .ok (.aload_n 2, 1) := by decide +kernel
theorem dX10_init_11 : decode cX10_init 11 = .ok (.putfield 15, 3) := by decide +kernel
theorem dX10_init_14 : decode cX10_init 14 = .ok (.aload_n 0, 1) := by decide +kernel
theorem dX10_init_15 : decode cX10_init 15 = .ok (.bipush 11, 2) := by decide +kernel
theorem dX10_init_17 : decode cX10_init 17 = .ok (.newarray .int, 2) := by decide +kernel
theorem dX10_init_19 : decode cX10_init 19 = .ok (.putfield 19, 3) := by decide +kernel
theorem dX10_init_22 : decode cX10_init 22 = .ok (.return_, 1) := by decide +kernel
theorem dX10_go_0 : decode cX10_go 0 = .ok (.iconst 0, 1) := by decide +kernel
theorem dX10_go_1 : decode cX10_go 1 = .ok (.istore_n 3, 1) := by decide +kernel
theorem dX10_go_2 : decode cX10_go 2 = .ok (.iconst 0, 1) := by decide +kernel
theorem dX10_go_3 : decode cX10_go 3 = .ok (.istore 4, 2) := by decide +kernel
theorem dX10_go_5 : decode cX10_go 5 = .ok (.iload 4, 2) := by decide +kernel
theorem dX10_go_7 : decode cX10_go 7 = .ok (.iload_n 2, 1) := by decide +kernel
theorem dX10_go_8 : decode cX10_go 8 = .ok (.if_icmp .ge 17, 3) := by decide +kernel
theorem dX10_go_11 : decode cX10_go 11 = .ok (.iload_n 3, 1) := by decide +kernel
theorem dX10_go_12 : decode cX10_go 12 = .ok (.aload_n 0, 1) := by decide +kernel
theorem dX10_go_13 : decode cX10_go 13 = .ok (.aload_n 1, 1) := by decide +kernel
theorem dX10_go_14 : decode cX10_go 14 = .ok (.invokevirtual 23, 3) := by decide +kernel
theorem dX10_go_17 : decode cX10_go 17 = .ok (.iadd, 1) := by decide +kernel
theorem dX10_go_18 : decode cX10_go 18 = .ok (.istore_n 3, 1) := by decide +kernel
theorem dX10_go_19 : decode cX10_go 19 = .ok (.iinc 4 1, 3) := by decide +kernel
theorem dX10_go_22 : decode cX10_go 22 = .ok (.goto (-17), 3) := by decide +kernel
theorem dX10_go_25 : decode cX10_go 25 = .ok (.iload_n 3, 1) := by decide +kernel
theorem dX10_go_26 : decode cX10_go 26 = .ok (.ireturn, 1) := by decide +kernel
theorem dX10_season_0 : decode cX10_season 0 = .ok (.aload_n 1, 1) := by decide +kernel
theorem dX10_season_1 : decode cX10_season 1 = .ok (.getfield 27, 3) := by decide +kernel
theorem dX10_season_4 : decode cX10_season 4 = .ok (.sipush 9999, 3) := by decide +kernel
theorem dX10_season_7 : decode cX10_season 7 = .ok (.if_icmp .lt 5, 3) := by decide +kernel
theorem dX10_season_10 : decode cX10_season 10 = .ok (.iconst 0, 1) := by decide +kernel
theorem dX10_season_11 : decode cX10_season 11 = .ok (.ireturn, 1) := by decide +kernel
theorem dX10_season_12 : decode cX10_season 12 = .ok (.iconst 0, 1) := by decide +kernel
theorem dX10_season_13 : decode cX10_season 13 = .ok (.istore_n 2, 1) := by decide +kernel
theorem dX10_season_14 : decode cX10_season 14 = .ok (.iconst 0, 1) := by decide +kernel
theorem dX10_season_15 : decode cX10_season 15 = .ok (.istore_n 3, 1) := by decide +kernel
theorem dX10_season_16 : decode cX10_season 16 = .ok (.iload_n 3, 1) := by decide +kernel
theorem dX10_season_17 : decode cX10_season 17 = .ok (.aload_n 0, 1) := by decide +kernel
theorem dX10_season_18 : decode cX10_season 18 = .ok (.getfield 9, 3) := by decide +kernel
theorem dX10_season_21 : decode cX10_season 21 = .ok (.getfield 32, 3) := by decide +kernel
theorem dX10_season_24 : decode cX10_season 24 = .ok (.if_icmp .ge 38, 3) := by decide +kernel
theorem dX10_season_27 : decode cX10_season 27 = .ok (.aload_n 1, 1) := by decide +kernel
theorem dX10_season_28 : decode cX10_season 28 = .ok (.getfield 37, 3) := by decide +kernel
theorem dX10_season_31 : decode cX10_season 31 = .ok (.iload_n 3, 1) := by decide +kernel
theorem dX10_season_32 : decode cX10_season 32 = .ok (.iaload, 1) := by decide +kernel
theorem dX10_season_33 : decode cX10_season 33 = .ok (.iconst 3, 1) := by decide +kernel
theorem dX10_season_34 : decode cX10_season 34 = .ok (.if_icmp .eq 22, 3) := by decide +kernel
theorem dX10_season_37 : decode cX10_season 37 = .ok (.aload_n 1, 1) := by decide +kernel
theorem dX10_season_38 : decode cX10_season 38 = .ok (.getfield 37, 3) := by decide +kernel
theorem dX10_season_41 : decode cX10_season 41 = .ok (.iload_n 3, 1) := by decide +kernel
theorem dX10_season_42 : decode cX10_season 42 = .ok (.iaload, 1) := by decide +kernel
theorem dX10_season_43 : decode cX10_season 43 = .ok (.iconst 4, 1) := by decide +kernel
theorem dX10_season_44 : decode cX10_season 44 = .ok (.if_icmp .eq 12, 3) := by decide +kernel
theorem dX10_season_47 : decode cX10_season 47 = .ok (.iload_n 2, 1) := by decide +kernel
theorem dX10_season_48 : decode cX10_season 48 = .ok (.aload_n 0, 1) := by decide +kernel
theorem dX10_season_49 : decode cX10_season 49 = .ok (.aload_n 1, 1) := by decide +kernel
theorem dX10_season_50 : decode cX10_season 50 = .ok (.iload_n 3, 1) := by decide +kernel
theorem dX10_season_51 : decode cX10_season 51 = .ok (.invokevirtual 40, 3) := by decide +kernel
theorem dX10_season_54 : decode cX10_season 54 = .ok (.iadd, 1) := by decide +kernel
theorem dX10_season_55 : decode cX10_season 55 = .ok (.istore_n 2, 1) := by decide +kernel
theorem dX10_season_56 : decode cX10_season 56 = .ok (.iinc 3 1, 3) := by decide +kernel
theorem dX10_season_59 : decode cX10_season 59 = .ok (.goto (-43), 3) := by decide +kernel
theorem dX10_season_62 : decode cX10_season 62 = .ok (.aload_n 1, 1) := by decide +kernel
theorem dX10_season_63 : decode cX10_season 63 = .ok (.dup, 1) := by decide +kernel
theorem dX10_season_64 : decode cX10_season 64 = .ok (.getfield 27, 3) := by decide +kernel
theorem dX10_season_67 : decode cX10_season 67 = .ok (.iconst 1, 1) := by decide +kernel
theorem dX10_season_68 : decode cX10_season 68 = .ok (.iadd, 1) := by decide +kernel
theorem dX10_season_69 : decode cX10_season 69 = .ok (.putfield 27, 3) := by decide +kernel
theorem dX10_season_72 : decode cX10_season 72 = .ok (.iload_n 2, 1) := by decide +kernel
theorem dX10_season_73 : decode cX10_season 73 = .ok (.ireturn, 1) := by decide +kernel
theorem dX10_grow_0 : decode cX10_grow 0 = .ok (.aload_n 0, 1) := by decide +kernel
theorem dX10_grow_1 : decode cX10_grow 1 = .ok (.aload_n 1, 1) := by decide +kernel
theorem dX10_grow_2 : decode cX10_grow 2 = .ok (.iload_n 2, 1) := by decide +kernel
theorem dX10_grow_3 : decode cX10_grow 3 = .ok (.invokevirtual 44, 3) := by decide +kernel
theorem dX10_grow_6 : decode cX10_grow 6 = .ok (.aload_n 0, 1) := by decide +kernel
theorem dX10_grow_7 : decode cX10_grow 7 = .ok (.getfield 15, 3) := by decide +kernel
theorem dX10_grow_10 : decode cX10_grow 10 = .ok (.aload_n 0, 1) := by decide +kernel
theorem dX10_grow_11 : decode cX10_grow 11 = .ok (.getfield 19, 3) := by decide +kernel
theorem dX10_grow_14 : decode cX10_grow 14 = .ok (.invokevirtual 48, 3) := by decide +kernel
theorem dX10_grow_17 : decode cX10_grow 17 = .ok (.istore_n 3, 1) := by decide +kernel
theorem dX10_grow_18 : decode cX10_grow 18 = .ok (.aload_n 0, 1) := by decide +kernel
theorem dX10_grow_19 : decode cX10_grow 19 = .ok (.getfield 15, 3) := by decide +kernel
theorem dX10_grow_22 : decode cX10_grow 22 = .ok (.bipush 118, 2) := by decide +kernel
theorem dX10_grow_24 : decode cX10_grow 24 = .ok (.iconst 1, 1) := by decide +kernel
theorem dX10_grow_25 : decode cX10_grow 25 = .ok (.bipush 9, 2) := by decide +kernel
theorem dX10_grow_27 : decode cX10_grow 27 = .ok (.aload_n 0, 1) := by decide +kernel
theorem dX10_grow_28 : decode cX10_grow 28 = .ok (.getfield 19, 3) := by decide +kernel
theorem dX10_grow_31 : decode cX10_grow 31 = .ok (.invokevirtual 54, 3) := by decide +kernel
theorem dX10_grow_34 : decode cX10_grow 34 = .ok (.istore 4, 2) := by decide +kernel
theorem dX10_grow_36 : decode cX10_grow 36 = .ok (.aload_n 0, 1) := by decide +kernel
theorem dX10_grow_37 : decode cX10_grow 37 = .ok (.getfield 15, 3) := by decide +kernel
theorem dX10_grow_40 : decode cX10_grow 40 = .ok (.bipush 102, 2) := by decide +kernel
theorem dX10_grow_42 : decode cX10_grow 42 = .ok (.iconst 0, 1) := by decide +kernel
theorem dX10_grow_43 : decode cX10_grow 43 = .ok (.bipush 99, 2) := by decide +kernel
theorem dX10_grow_45 : decode cX10_grow 45 = .ok (.aload_n 0, 1) := by decide +kernel
theorem dX10_grow_46 : decode cX10_grow 46 = .ok (.getfield 19, 3) := by decide +kernel
theorem dX10_grow_49 : decode cX10_grow 49 = .ok (.invokevirtual 54, 3) := by decide +kernel
theorem dX10_grow_52 : decode cX10_grow 52 = .ok (.istore 5, 2) := by decide +kernel
theorem dX10_grow_54 : decode cX10_grow 54 = .ok (.iload_n 3, 1) := by decide +kernel
theorem dX10_grow_55 : decode cX10_grow 55 = .ok (.ifCond .eq 12, 3) := by decide +kernel
theorem dX10_grow_58 : decode cX10_grow 58 = .ok (.aload_n 1, 1) := by decide +kernel
theorem dX10_grow_59 : decode cX10_grow 59 = .ok (.getfield 37, 3) := by decide +kernel
theorem dX10_grow_62 : decode cX10_grow 62 = .ok (.iload_n 2, 1) := by decide +kernel
theorem dX10_grow_63 : decode cX10_grow 63 = .ok (.iconst 4, 1) := by decide +kernel
theorem dX10_grow_64 : decode cX10_grow 64 = .ok (.iastore, 1) := by decide +kernel
theorem dX10_grow_65 : decode cX10_grow 65 = .ok (.iconst 0, 1) := by decide +kernel
theorem dX10_grow_66 : decode cX10_grow 66 = .ok (.ireturn, 1) := by decide +kernel
theorem dX10_grow_67 : decode cX10_grow 67 = .ok (.iconst 0, 1) := by decide +kernel
theorem dX10_grow_68 : decode cX10_grow 68 = .ok (.istore 6, 2) := by decide +kernel
theorem dX10_grow_70 : decode cX10_grow 70 = .ok (.aload_n 1, 1) := by decide +kernel
theorem dX10_grow_71 : decode cX10_grow 71 = .ok (.getfield 37, 3) := by decide +kernel
theorem dX10_grow_74 : decode cX10_grow 74 = .ok (.iload_n 2, 1) := by decide +kernel
theorem dX10_grow_75 : decode cX10_grow 75 = .ok (.iaload, 1) := by decide +kernel
theorem dX10_grow_76 : decode cX10_grow 76 = .ok (.ifCond .ne 13, 3) := by decide +kernel
theorem dX10_grow_79 : decode cX10_grow 79 = .ok (.aload_n 1, 1) := by decide +kernel
theorem dX10_grow_80 : decode cX10_grow 80 = .ok (.getfield 37, 3) := by decide +kernel
theorem dX10_grow_83 : decode cX10_grow 83 = .ok (.iload_n 2, 1) := by decide +kernel
theorem dX10_grow_84 : decode cX10_grow 84 = .ok (.iconst 1, 1) := by decide +kernel
theorem dX10_grow_85 : decode cX10_grow 85 = .ok (.iastore, 1) := by decide +kernel
theorem dX10_grow_86 : decode cX10_grow 86 = .ok (.goto 33, 3) := by decide +kernel
theorem dX10_grow_89 : decode cX10_grow 89 = .ok (.aload_n 1, 1) := by decide +kernel
theorem dX10_grow_90 : decode cX10_grow 90 = .ok (.getfield 37, 3) := by decide +kernel
theorem dX10_grow_93 : decode cX10_grow 93 = .ok (.iload_n 2, 1) := by decide +kernel
theorem dX10_grow_94 : decode cX10_grow 94 = .ok (.iaload, 1) := by decide +kernel
theorem dX10_grow_95 : decode cX10_grow 95 = .ok (.iconst 1, 1) := by decide +kernel
theorem dX10_grow_96 : decode cX10_grow 96 = .ok (.if_icmp .ne 13, 3) := by decide +kernel
theorem dX10_grow_99 : decode cX10_grow 99 = .ok (.aload_n 1, 1) := by decide +kernel
theorem dX10_grow_100 : decode cX10_grow 100 = .ok (.getfield 37, 3) := by decide +kernel
theorem dX10_grow_103 : decode cX10_grow 103 = .ok (.iload_n 2, 1) := by decide +kernel
theorem dX10_grow_104 : decode cX10_grow 104 = .ok (.iconst 2, 1) := by decide +kernel
theorem dX10_grow_105 : decode cX10_grow 105 = .ok (.iastore, 1) := by decide +kernel
theorem dX10_grow_106 : decode cX10_grow 106 = .ok (.goto 13, 3) := by decide +kernel
theorem dX10_grow_109 : decode cX10_grow 109 = .ok (.aload_n 0, 1) := by decide +kernel
theorem dX10_grow_110 : decode cX10_grow 110 = .ok (.aload_n 1, 1) := by decide +kernel
theorem dX10_grow_111 : decode cX10_grow 111 = .ok (.iload_n 2, 1) := by decide +kernel
theorem dX10_grow_112 : decode cX10_grow 112 = .ok (.iload 4, 2) := by decide +kernel
theorem dX10_grow_114 : decode cX10_grow 114 = .ok (.invokevirtual 58, 3) := by decide +kernel
theorem dX10_grow_117 : decode cX10_grow 117 = .ok (.istore 6, 2) := by decide +kernel
theorem dX10_grow_119 : decode cX10_grow 119 = .ok (.aload_n 0, 1) := by decide +kernel
theorem dX10_grow_120 : decode cX10_grow 120 = .ok (.aload_n 1, 1) := by decide +kernel
theorem dX10_grow_121 : decode cX10_grow 121 = .ok (.iload_n 2, 1) := by decide +kernel
theorem dX10_grow_122 : decode cX10_grow 122 = .ok (.iload 5, 2) := by decide +kernel
theorem dX10_grow_124 : decode cX10_grow 124 = .ok (.invokevirtual 62, 3) := by decide +kernel
theorem dX10_grow_127 : decode cX10_grow 127 = .ok (.iload 6, 2) := by decide +kernel
theorem dX10_grow_129 : decode cX10_grow 129 = .ok (.ireturn, 1) := by decide +kernel
theorem dX10_tellValues_0 : decode cX10_tellValues 0 = .ok (.aload_n 0, 1) := by decide +kernel
theorem dX10_tellValues_1 : decode cX10_tellValues 1 = .ok (.getfield 19, 3) := by decide +kernel
theorem dX10_tellValues_4 : decode cX10_tellValues 4 = .ok (.iconst 0, 1) := by decide +kernel
theorem dX10_tellValues_5 : decode cX10_tellValues 5 = .ok (.iload_n 2, 1) := by decide +kernel
theorem dX10_tellValues_6 : decode cX10_tellValues 6 = .ok (.iastore, 1) := by decide +kernel
theorem dX10_tellValues_7 : decode cX10_tellValues 7 = .ok (.aload_n 0, 1) := by decide +kernel
theorem dX10_tellValues_8 : decode cX10_tellValues 8 = .ok (.getfield 19, 3) := by decide +kernel
theorem dX10_tellValues_11 : decode cX10_tellValues 11 = .ok (.iconst 1, 1) := by decide +kernel
theorem dX10_tellValues_12 : decode cX10_tellValues 12 = .ok (.aload_n 1, 1) := by decide +kernel
theorem dX10_tellValues_13 : decode cX10_tellValues 13 = .ok (.getfield 37, 3) := by decide +kernel
theorem dX10_tellValues_16 : decode cX10_tellValues 16 = .ok (.iload_n 2, 1) := by decide +kernel
theorem dX10_tellValues_17 : decode cX10_tellValues 17 = .ok (.iaload, 1) := by decide +kernel
theorem dX10_tellValues_18 : decode cX10_tellValues 18 = .ok (.iastore, 1) := by decide +kernel
theorem dX10_tellValues_19 : decode cX10_tellValues 19 = .ok (.aload_n 0, 1) := by decide +kernel
theorem dX10_tellValues_20 : decode cX10_tellValues 20 = .ok (.getfield 19, 3) := by decide +kernel
theorem dX10_tellValues_23 : decode cX10_tellValues 23 = .ok (.iconst 2, 1) := by decide +kernel
theorem dX10_tellValues_24 : decode cX10_tellValues 24 = .ok (.aload_n 1, 1) := by decide +kernel
theorem dX10_tellValues_25 : decode cX10_tellValues 25 = .ok (.getfield 66, 3) := by decide +kernel
theorem dX10_tellValues_28 : decode cX10_tellValues 28 = .ok (.iload_n 2, 1) := by decide +kernel
theorem dX10_tellValues_29 : decode cX10_tellValues 29 = .ok (.iaload, 1) := by decide +kernel
theorem dX10_tellValues_30 : decode cX10_tellValues 30 = .ok (.iastore, 1) := by decide +kernel
theorem dX10_tellValues_31 : decode cX10_tellValues 31 = .ok (.aload_n 0, 1) := by decide +kernel
theorem dX10_tellValues_32 : decode cX10_tellValues 32 = .ok (.getfield 19, 3) := by decide +kernel
theorem dX10_tellValues_35 : decode cX10_tellValues 35 = .ok (.iconst 3, 1) := by decide +kernel
theorem dX10_tellValues_36 : decode cX10_tellValues 36 = .ok (.aload_n 0, 1) := by decide +kernel
theorem dX10_tellValues_37 : decode cX10_tellValues 37 = .ok (.getfield 9, 3) := by decide +kernel
theorem dX10_tellValues_40 : decode cX10_tellValues 40 = .ok (.getfield 69, 3) := by decide +kernel
theorem dX10_tellValues_43 : decode cX10_tellValues 43 = .ok (.iload_n 2, 1) := by decide +kernel
theorem dX10_tellValues_44 : decode cX10_tellValues 44 = .ok (.iaload, 1) := by decide +kernel
theorem dX10_tellValues_45 : decode cX10_tellValues 45 = .ok (.iastore, 1) := by decide +kernel
theorem dX10_tellValues_46 : decode cX10_tellValues 46 = .ok (.aload_n 0, 1) := by decide +kernel
theorem dX10_tellValues_47 : decode cX10_tellValues 47 = .ok (.getfield 19, 3) := by decide +kernel
theorem dX10_tellValues_50 : decode cX10_tellValues 50 = .ok (.iconst 4, 1) := by decide +kernel
theorem dX10_tellValues_51 : decode cX10_tellValues 51 = .ok (.aload_n 0, 1) := by decide +kernel
theorem dX10_tellValues_52 : decode cX10_tellValues 52 = .ok (.getfield 9, 3) := by decide +kernel
theorem dX10_tellValues_55 : decode cX10_tellValues 55 = .ok (.getfield 72, 3) := by decide +kernel
theorem dX10_tellValues_58 : decode cX10_tellValues 58 = .ok (.iload_n 2, 1) := by decide +kernel
theorem dX10_tellValues_59 : decode cX10_tellValues 59 = .ok (.iaload, 1) := by decide +kernel
theorem dX10_tellValues_60 : decode cX10_tellValues 60 = .ok (.iastore, 1) := by decide +kernel
theorem dX10_tellValues_61 : decode cX10_tellValues 61 = .ok (.aload_n 0, 1) := by decide +kernel
theorem dX10_tellValues_62 : decode cX10_tellValues 62 = .ok (.getfield 19, 3) := by decide +kernel
theorem dX10_tellValues_65 : decode cX10_tellValues 65 = .ok (.iconst 5, 1) := by decide +kernel
theorem dX10_tellValues_66 : decode cX10_tellValues 66 = .ok (.aload_n 0, 1) := by decide +kernel
theorem dX10_tellValues_67 : decode cX10_tellValues 67 = .ok (.getfield 9, 3) := by decide +kernel
theorem dX10_tellValues_70 : decode cX10_tellValues 70 = .ok (.getfield 75, 3) := by decide +kernel
theorem dX10_tellValues_73 : decode cX10_tellValues 73 = .ok (.iload_n 2, 1) := by decide +kernel
theorem dX10_tellValues_74 : decode cX10_tellValues 74 = .ok (.iaload, 1) := by decide +kernel
theorem dX10_tellValues_75 : decode cX10_tellValues 75 = .ok (.iastore, 1) := by decide +kernel
theorem dX10_tellValues_76 : decode cX10_tellValues 76 = .ok (.aload_n 0, 1) := by decide +kernel
theorem dX10_tellValues_77 : decode cX10_tellValues 77 = .ok (.getfield 19, 3) := by decide +kernel
theorem dX10_tellValues_80 : decode cX10_tellValues 80 = .ok (.bipush 6, 2) := by decide +kernel
theorem dX10_tellValues_82 : decode cX10_tellValues 82 = .ok (.aload_n 1, 1) := by decide +kernel
theorem dX10_tellValues_83 : decode cX10_tellValues 83 = .ok (.getfield 78, 3) := by decide +kernel
theorem dX10_tellValues_86 : decode cX10_tellValues 86 = .ok (.iload_n 2, 1) := by decide +kernel
theorem dX10_tellValues_87 : decode cX10_tellValues 87 = .ok (.iaload, 1) := by decide +kernel
theorem dX10_tellValues_88 : decode cX10_tellValues 88 = .ok (.iastore, 1) := by decide +kernel
theorem dX10_tellValues_89 : decode cX10_tellValues 89 = .ok (.aload_n 0, 1) := by decide +kernel
theorem dX10_tellValues_90 : decode cX10_tellValues 90 = .ok (.getfield 19, 3) := by decide +kernel
theorem dX10_tellValues_93 : decode cX10_tellValues 93 = .ok (.bipush 7, 2) := by decide +kernel
theorem dX10_tellValues_95 : decode cX10_tellValues 95 = .ok (.aload_n 1, 1) := by decide +kernel
theorem dX10_tellValues_96 : decode cX10_tellValues 96 = .ok (.getfield 81, 3) := by decide +kernel
theorem dX10_tellValues_99 : decode cX10_tellValues 99 = .ok (.iload_n 2, 1) := by decide +kernel
theorem dX10_tellValues_100 : decode cX10_tellValues 100 = .ok (.iaload, 1) := by decide +kernel
theorem dX10_tellValues_101 : decode cX10_tellValues 101 = .ok (.aload_n 0, 1) := by decide +kernel
theorem dX10_tellValues_102 : decode cX10_tellValues 102 = .ok (.aload_n 1, 1) := by decide +kernel
theorem dX10_tellValues_103 : decode cX10_tellValues 103 = .ok (.iload_n 2, 1) := by decide +kernel
theorem dX10_tellValues_104 : decode cX10_tellValues 104 = .ok (.invokevirtual 84, 3) := by decide +kernel
theorem dX10_tellValues_107 : decode cX10_tellValues 107 = .ok (.invokestatic 87, 3) := by decide +kernel
theorem dX10_tellValues_110 : decode cX10_tellValues 110 = .ok (.iastore, 1) := by decide +kernel
theorem dX10_tellValues_111 : decode cX10_tellValues 111 = .ok (.aload_n 0, 1) := by decide +kernel
theorem dX10_tellValues_112 : decode cX10_tellValues 112 = .ok (.getfield 19, 3) := by decide +kernel
theorem dX10_tellValues_115 : decode cX10_tellValues 115 = .ok (.bipush 8, 2) := by decide +kernel
theorem dX10_tellValues_117 : decode cX10_tellValues 117 = .ok (.aload_n 0, 1) := by decide +kernel
theorem dX10_tellValues_118 : decode cX10_tellValues 118 = .ok (.aload_n 1, 1) := by decide +kernel
theorem dX10_tellValues_119 : decode cX10_tellValues 119 = .ok (.iload_n 2, 1) := by decide +kernel
theorem dX10_tellValues_120 : decode cX10_tellValues 120 = .ok (.invokevirtual 91, 3) := by decide +kernel
theorem dX10_tellValues_123 : decode cX10_tellValues 123 = .ok (.iastore, 1) := by decide +kernel
theorem dX10_tellValues_124 : decode cX10_tellValues 124 = .ok (.aload_n 0, 1) := by decide +kernel
theorem dX10_tellValues_125 : decode cX10_tellValues 125 = .ok (.getfield 19, 3) := by decide +kernel
theorem dX10_tellValues_128 : decode cX10_tellValues 128 = .ok (.bipush 9, 2) := by decide +kernel
theorem dX10_tellValues_130 : decode cX10_tellValues 130 = .ok (.aload_n 1, 1) := by decide +kernel
theorem dX10_tellValues_131 : decode cX10_tellValues 131 = .ok (.getfield 27, 3) := by decide +kernel
theorem dX10_tellValues_134 : decode cX10_tellValues 134 = .ok (.bipush 100, 2) := by decide +kernel
theorem dX10_tellValues_136 : decode cX10_tellValues 136 = .ok (.irem, 1) := by decide +kernel
theorem dX10_tellValues_137 : decode cX10_tellValues 137 = .ok (.iastore, 1) := by decide +kernel
theorem dX10_tellValues_138 : decode cX10_tellValues 138 = .ok (.aload_n 0, 1) := by decide +kernel
theorem dX10_tellValues_139 : decode cX10_tellValues 139 = .ok (.getfield 19, 3) := by decide +kernel
theorem dX10_tellValues_142 : decode cX10_tellValues 142 = .ok (.bipush 10, 2) := by decide +kernel
theorem dX10_tellValues_144 : decode cX10_tellValues 144 = .ok (.aload_n 1, 1) := by decide +kernel
theorem dX10_tellValues_145 : decode cX10_tellValues 145 = .ok (.invokevirtual 94, 3) := by decide +kernel
theorem dX10_tellValues_148 : decode cX10_tellValues 148 = .ok (.iastore, 1) := by decide +kernel
theorem dX10_tellValues_149 : decode cX10_tellValues 149 = .ok (.return_, 1) := by decide +kernel
theorem dX10_othersAt_0 : decode cX10_othersAt 0 = .ok (.iconst 0, 1) := by decide +kernel
theorem dX10_othersAt_1 : decode cX10_othersAt 1 = .ok (.istore_n 3, 1) := by decide +kernel
theorem dX10_othersAt_2 : decode cX10_othersAt 2 = .ok (.iconst 0, 1) := by decide +kernel
theorem dX10_othersAt_3 : decode cX10_othersAt 3 = .ok (.istore 4, 2) := by decide +kernel
theorem dX10_othersAt_5 : decode cX10_othersAt 5 = .ok (.iload 4, 2) := by decide +kernel
theorem dX10_othersAt_7 : decode cX10_othersAt 7 = .ok (.aload_n 0, 1) := by decide +kernel
theorem dX10_othersAt_8 : decode cX10_othersAt 8 = .ok (.getfield 9, 3) := by decide +kernel
theorem dX10_othersAt_11 : decode cX10_othersAt 11 = .ok (.getfield 32, 3) := by decide +kernel
theorem dX10_othersAt_14 : decode cX10_othersAt 14 = .ok (.if_icmp .ge 45, 3) := by decide +kernel
theorem dX10_othersAt_17 : decode cX10_othersAt 17 = .ok (.iload 4, 2) := by decide +kernel
theorem dX10_othersAt_19 : decode cX10_othersAt 19 = .ok (.iload_n 2, 1) := by decide +kernel
theorem dX10_othersAt_20 : decode cX10_othersAt 20 = .ok (.if_icmp .eq 33, 3) := by decide +kernel
theorem dX10_othersAt_23 : decode cX10_othersAt 23 = .ok (.aload_n 1, 1) := by decide +kernel
theorem dX10_othersAt_24 : decode cX10_othersAt 24 = .ok (.getfield 37, 3) := by decide +kernel
theorem dX10_othersAt_27 : decode cX10_othersAt 27 = .ok (.iload 4, 2) := by decide +kernel
theorem dX10_othersAt_29 : decode cX10_othersAt 29 = .ok (.iaload, 1) := by decide +kernel
theorem dX10_othersAt_30 : decode cX10_othersAt 30 = .ok (.iconst 2, 1) := by decide +kernel
theorem dX10_othersAt_31 : decode cX10_othersAt 31 = .ok (.if_icmp .ne 22, 3) := by decide +kernel
theorem dX10_othersAt_34 : decode cX10_othersAt 34 = .ok (.aload_n 1, 1) := by decide +kernel
theorem dX10_othersAt_35 : decode cX10_othersAt 35 = .ok (.getfield 81, 3) := by decide +kernel
theorem dX10_othersAt_38 : decode cX10_othersAt 38 = .ok (.iload 4, 2) := by decide +kernel
theorem dX10_othersAt_40 : decode cX10_othersAt 40 = .ok (.iaload, 1) := by decide +kernel
theorem dX10_othersAt_41 : decode cX10_othersAt 41 = .ok (.aload_n 1, 1) := by decide +kernel
theorem dX10_othersAt_42 : decode cX10_othersAt 42 = .ok (.getfield 81, 3) := by decide +kernel
theorem dX10_othersAt_45 : decode cX10_othersAt 45 = .ok (.iload_n 2, 1) := by decide +kernel
theorem dX10_othersAt_46 : decode cX10_othersAt 46 = .ok (.iaload, 1) := by decide +kernel
theorem dX10_othersAt_47 : decode cX10_othersAt 47 = .ok (.if_icmp .ne 6, 3) := by decide +kernel
theorem dX10_othersAt_50 : decode cX10_othersAt 50 = .ok (.iinc 3 1, 3) := by decide +kernel
theorem dX10_othersAt_53 : decode cX10_othersAt 53 = .ok (.iinc 4 1, 3) := by decide +kernel
theorem dX10_othersAt_56 : decode cX10_othersAt 56 = .ok (.goto (-51), 3) := by decide +kernel
theorem dX10_othersAt_59 : decode cX10_othersAt 59 = .ok (.iload_n 3, 1) := by decide +kernel
theorem dX10_othersAt_60 : decode cX10_othersAt 60 = .ok (.ireturn, 1) := by decide +kernel
theorem dX10_aim_0 : decode cX10_aim 0 = .ok (.aload_n 1, 1) := by decide +kernel
theorem dX10_aim_1 : decode cX10_aim 1 = .ok (.getfield 98, 3) := by decide +kernel
theorem dX10_aim_4 : decode cX10_aim 4 = .ok (.iload_n 2, 1) := by decide +kernel
theorem dX10_aim_5 : decode cX10_aim 5 = .ok (.iaload, 1) := by decide +kernel
theorem dX10_aim_6 : decode cX10_aim 6 = .ok (.iconst 1, 1) := by decide +kernel
theorem dX10_aim_7 : decode cX10_aim 7 = .ok (.if_icmp .ne 15, 3) := by decide +kernel
theorem dX10_aim_10 : decode cX10_aim 10 = .ok (.aload_n 0, 1) := by decide +kernel
theorem dX10_aim_11 : decode cX10_aim 11 = .ok (.getfield 9, 3) := by decide +kernel
theorem dX10_aim_14 : decode cX10_aim 14 = .ok (.getfield 101, 3) := by decide +kernel
theorem dX10_aim_17 : decode cX10_aim 17 = .ok (.iload_n 2, 1) := by decide +kernel
theorem dX10_aim_18 : decode cX10_aim 18 = .ok (.iaload, 1) := by decide +kernel
theorem dX10_aim_19 : decode cX10_aim 19 = .ok (.goto 12, 3) := by decide +kernel
theorem dX10_aim_22 : decode cX10_aim 22 = .ok (.aload_n 0, 1) := by decide +kernel
theorem dX10_aim_23 : decode cX10_aim 23 = .ok (.getfield 9, 3) := by decide +kernel
theorem dX10_aim_26 : decode cX10_aim 26 = .ok (.getfield 104, 3) := by decide +kernel
theorem dX10_aim_29 : decode cX10_aim 29 = .ok (.iload_n 2, 1) := by decide +kernel
theorem dX10_aim_30 : decode cX10_aim 30 = .ok (.iaload, 1) := by decide +kernel
theorem dX10_aim_31 : decode cX10_aim 31 = .ok (.ireturn, 1) := by decide +kernel
theorem dX10_goAbout_0 : decode cX10_goAbout 0 = .ok (.aload_n 0, 1) := by decide +kernel
theorem dX10_goAbout_1 : decode cX10_goAbout 1 = .ok (.getfield 9, 3) := by decide +kernel
theorem dX10_goAbout_4 : decode cX10_goAbout 4 = .ok (.getfield 72, 3) := by decide +kernel
theorem dX10_goAbout_7 : decode cX10_goAbout 7 = .ok (.iload_n 2, 1) := by decide +kernel
theorem dX10_goAbout_8 : decode cX10_goAbout 8 = .ok (.iaload, 1) := by decide +kernel
theorem dX10_goAbout_9 : decode cX10_goAbout 9 = .ok (.iconst 1, 1) := by decide +kernel
theorem dX10_goAbout_10 : decode cX10_goAbout 10 = .ok (.if_icmp .ne 9, 3) := by decide +kernel
theorem dX10_goAbout_13 : decode cX10_goAbout 13 = .ok (.iload_n 3, 1) := by decide +kernel
theorem dX10_goAbout_14 : decode cX10_goAbout 14 = .ok (.iconst 2, 1) := by decide +kernel
theorem dX10_goAbout_15 : decode cX10_goAbout 15 = .ok (.idiv, 1) := by decide +kernel
theorem dX10_goAbout_16 : decode cX10_goAbout 16 = .ok (.goto 4, 3) := by decide +kernel
theorem dX10_goAbout_19 : decode cX10_goAbout 19 = .ok (.iload_n 3, 1) := by decide +kernel
theorem dX10_goAbout_20 : decode cX10_goAbout 20 = .ok (.aload_n 0, 1) := by decide +kernel
theorem dX10_goAbout_21 : decode cX10_goAbout 21 = .ok (.getfield 9, 3) := by decide +kernel
theorem dX10_goAbout_24 : decode cX10_goAbout 24 = .ok (.getfield 75, 3) := by decide +kernel
theorem dX10_goAbout_27 : decode cX10_goAbout 27 = .ok (.iload_n 2, 1) := by decide +kernel
theorem dX10_goAbout_28 : decode cX10_goAbout 28 = .ok (.iaload, 1) := by decide +kernel
theorem dX10_goAbout_29 : decode cX10_goAbout 29 = .ok (.iadd, 1) := by decide +kernel
theorem dX10_goAbout_30 : decode cX10_goAbout 30 = .ok (.istore 4, 2) := by decide +kernel
theorem dX10_goAbout_32 : decode cX10_goAbout 32 = .ok (.aload_n 0, 1) := by decide +kernel
theorem dX10_goAbout_33 : decode cX10_goAbout 33 = .ok (.aload_n 1, 1) := by decide +kernel
theorem dX10_goAbout_34 : decode cX10_goAbout 34 = .ok (.iload_n 2, 1) := by decide +kernel
theorem dX10_goAbout_35 : decode cX10_goAbout 35 = .ok (.invokevirtual 107, 3) := by decide +kernel
theorem dX10_goAbout_38 : decode cX10_goAbout 38 = .ok (.istore 5, 2) := by decide +kernel
theorem dX10_goAbout_40 : decode cX10_goAbout 40 = .ok (.iconst 0, 1) := by decide +kernel
theorem dX10_goAbout_41 : decode cX10_goAbout 41 = .ok (.istore 6, 2) := by decide +kernel
theorem dX10_goAbout_43 : decode cX10_goAbout 43 = .ok (.iload 6, 2) := by decide +kernel
theorem dX10_goAbout_45 : decode cX10_goAbout 45 = .ok (.iload 4, 2) := by decide +kernel
theorem dX10_goAbout_47 : decode cX10_goAbout 47 = .ok (.if_icmp .ge 41, 3) := by decide +kernel
theorem dX10_goAbout_50 : decode cX10_goAbout 50 = .ok (.aload_n 1, 1) := by decide +kernel
theorem dX10_goAbout_51 : decode cX10_goAbout 51 = .ok (.getfield 81, 3) := by decide +kernel
theorem dX10_goAbout_54 : decode cX10_goAbout 54 = .ok (.iload_n 2, 1) := by decide +kernel
theorem dX10_goAbout_55 : decode cX10_goAbout 55 = .ok (.aload_n 1, 1) := by decide +kernel
theorem dX10_goAbout_56 : decode cX10_goAbout 56 = .ok (.getfield 81, 3) := by decide +kernel
theorem dX10_goAbout_59 : decode cX10_goAbout 59 = .ok (.iload_n 2, 1) := by decide +kernel
theorem dX10_goAbout_60 : decode cX10_goAbout 60 = .ok (.iaload, 1) := by decide +kernel
theorem dX10_goAbout_61 : decode cX10_goAbout 61 = .ok (.aload_n 0, 1) := by decide +kernel
theorem dX10_goAbout_62 : decode cX10_goAbout 62 = .ok (.aload_n 1, 1) := by decide +kernel
theorem dX10_goAbout_63 : decode cX10_goAbout 63 = .ok (.iload_n 2, 1) := by decide +kernel
theorem dX10_goAbout_64 : decode cX10_goAbout 64 = .ok (.invokevirtual 84, 3) := by decide +kernel
theorem dX10_goAbout_67 : decode cX10_goAbout 67 = .ok (.invokestatic 110, 3) := by decide +kernel
theorem dX10_goAbout_70 : decode cX10_goAbout 70 = .ok (.iastore, 1) := by decide +kernel
theorem dX10_goAbout_71 : decode cX10_goAbout 71 = .ok (.iload 5, 2) := by decide +kernel
theorem dX10_goAbout_73 : decode cX10_goAbout 73 = .ok (.aload_n 0, 1) := by decide +kernel
theorem dX10_goAbout_74 : decode cX10_goAbout 74 = .ok (.aload_n 1, 1) := by decide +kernel
theorem dX10_goAbout_75 : decode cX10_goAbout 75 = .ok (.iload_n 2, 1) := by decide +kernel
theorem dX10_goAbout_76 : decode cX10_goAbout 76 = .ok (.invokevirtual 107, 3) := by decide +kernel
theorem dX10_goAbout_79 : decode cX10_goAbout 79 = .ok (.iadd, 1) := by decide +kernel
theorem dX10_goAbout_80 : decode cX10_goAbout 80 = .ok (.istore 5, 2) := by decide +kernel
theorem dX10_goAbout_82 : decode cX10_goAbout 82 = .ok (.iinc 6 1, 3) := by decide +kernel
theorem dX10_goAbout_85 : decode cX10_goAbout 85 = .ok (.goto (-42), 3) := by decide +kernel
theorem dX10_goAbout_88 : decode cX10_goAbout 88 = .ok (.iload 5, 2) := by decide +kernel
theorem dX10_goAbout_90 : decode cX10_goAbout 90 = .ok (.ireturn, 1) := by decide +kernel
theorem dX10_oneStep_0 : decode cX10_oneStep 0 = .ok (.iload_n 1, 1) := by decide +kernel
theorem dX10_oneStep_1 : decode cX10_oneStep 1 = .ok (.bipush 24, 2) := by decide +kernel
theorem dX10_oneStep_3 : decode cX10_oneStep 3 = .ok (.irem, 1) := by decide +kernel
theorem dX10_oneStep_4 : decode cX10_oneStep 4 = .ok (.iload_n 0, 1) := by decide +kernel
theorem dX10_oneStep_5 : decode cX10_oneStep 5 = .ok (.bipush 24, 2) := by decide +kernel
theorem dX10_oneStep_7 : decode cX10_oneStep 7 = .ok (.irem, 1) := by decide +kernel
theorem dX10_oneStep_8 : decode cX10_oneStep 8 = .ok (.invokestatic 113, 3) := by decide +kernel
theorem dX10_oneStep_11 : decode cX10_oneStep 11 = .ok (.istore_n 2, 1) := by decide +kernel
theorem dX10_oneStep_12 : decode cX10_oneStep 12 = .ok (.iload_n 1, 1) := by decide +kernel
theorem dX10_oneStep_13 : decode cX10_oneStep 13 = .ok (.bipush 24, 2) := by decide +kernel
theorem dX10_oneStep_15 : decode cX10_oneStep 15 = .ok (.idiv, 1) := by decide +kernel
theorem dX10_oneStep_16 : decode cX10_oneStep 16 = .ok (.iload_n 0, 1) := by decide +kernel
theorem dX10_oneStep_17 : decode cX10_oneStep 17 = .ok (.bipush 24, 2) := by decide +kernel
theorem dX10_oneStep_19 : decode cX10_oneStep 19 = .ok (.idiv, 1) := by decide +kernel
theorem dX10_oneStep_20 : decode cX10_oneStep 20 = .ok (.invokestatic 113, 3) := by decide +kernel
theorem dX10_oneStep_23 : decode cX10_oneStep 23 = .ok (.istore_n 3, 1) := by decide +kernel
theorem dX10_oneStep_24 : decode cX10_oneStep 24 = .ok (.iload_n 2, 1) := by decide +kernel
theorem dX10_oneStep_25 : decode cX10_oneStep 25 = .ok (.ifCond .eq 9, 3) := by decide +kernel
theorem dX10_oneStep_28 : decode cX10_oneStep 28 = .ok (.iload_n 0, 1) := by decide +kernel
theorem dX10_oneStep_29 : decode cX10_oneStep 29 = .ok (.iload_n 2, 1) := by decide +kernel
theorem dX10_oneStep_30 : decode cX10_oneStep 30 = .ok (.iadd, 1) := by decide +kernel
theorem dX10_oneStep_31 : decode cX10_oneStep 31 = .ok (.goto 9, 3) := by decide +kernel
theorem dX10_oneStep_34 : decode cX10_oneStep 34 = .ok (.iload_n 0, 1) := by decide +kernel
theorem dX10_oneStep_35 : decode cX10_oneStep 35 = .ok (.bipush 24, 2) := by decide +kernel
theorem dX10_oneStep_37 : decode cX10_oneStep 37 = .ok (.iload_n 3, 1) := by decide +kernel
theorem dX10_oneStep_38 : decode cX10_oneStep 38 = .ok (.imul, 1) := by decide +kernel
theorem dX10_oneStep_39 : decode cX10_oneStep 39 = .ok (.iadd, 1) := by decide +kernel
theorem dX10_oneStep_40 : decode cX10_oneStep 40 = .ok (.ireturn, 1) := by decide +kernel
theorem dX10_turn_0 : decode cX10_turn 0 = .ok (.aload_n 1, 1) := by decide +kernel
theorem dX10_turn_1 : decode cX10_turn 1 = .ok (.getfield 81, 3) := by decide +kernel
theorem dX10_turn_4 : decode cX10_turn 4 = .ok (.iload_n 2, 1) := by decide +kernel
theorem dX10_turn_5 : decode cX10_turn 5 = .ok (.iaload, 1) := by decide +kernel
theorem dX10_turn_6 : decode cX10_turn 6 = .ok (.aload_n 0, 1) := by decide +kernel
theorem dX10_turn_7 : decode cX10_turn 7 = .ok (.aload_n 1, 1) := by decide +kernel
theorem dX10_turn_8 : decode cX10_turn 8 = .ok (.iload_n 2, 1) := by decide +kernel
theorem dX10_turn_9 : decode cX10_turn 9 = .ok (.invokevirtual 84, 3) := by decide +kernel
theorem dX10_turn_12 : decode cX10_turn 12 = .ok (.if_icmp .eq 5, 3) := by decide +kernel
theorem dX10_turn_15 : decode cX10_turn 15 = .ok (.iconst 0, 1) := by decide +kernel
theorem dX10_turn_16 : decode cX10_turn 16 = .ok (.ireturn, 1) := by decide +kernel
theorem dX10_turn_17 : decode cX10_turn 17 = .ok (.aload_n 1, 1) := by decide +kernel
theorem dX10_turn_18 : decode cX10_turn 18 = .ok (.getfield 98, 3) := by decide +kernel
theorem dX10_turn_21 : decode cX10_turn 21 = .ok (.iload_n 2, 1) := by decide +kernel
theorem dX10_turn_22 : decode cX10_turn 22 = .ok (.iconst 1, 1) := by decide +kernel
theorem dX10_turn_23 : decode cX10_turn 23 = .ok (.aload_n 1, 1) := by decide +kernel
theorem dX10_turn_24 : decode cX10_turn 24 = .ok (.getfield 98, 3) := by decide +kernel
theorem dX10_turn_27 : decode cX10_turn 27 = .ok (.iload_n 2, 1) := by decide +kernel
theorem dX10_turn_28 : decode cX10_turn 28 = .ok (.iaload, 1) := by decide +kernel
theorem dX10_turn_29 : decode cX10_turn 29 = .ok (.isub, 1) := by decide +kernel
theorem dX10_turn_30 : decode cX10_turn 30 = .ok (.iastore, 1) := by decide +kernel
theorem dX10_turn_31 : decode cX10_turn 31 = .ok (.aload_n 1, 1) := by decide +kernel
theorem dX10_turn_32 : decode cX10_turn 32 = .ok (.getfield 98, 3) := by decide +kernel
theorem dX10_turn_35 : decode cX10_turn 35 = .ok (.iload_n 2, 1) := by decide +kernel
theorem dX10_turn_36 : decode cX10_turn 36 = .ok (.iaload, 1) := by decide +kernel
theorem dX10_turn_37 : decode cX10_turn 37 = .ok (.ifCond .ne 5, 3) := by decide +kernel
theorem dX10_turn_40 : decode cX10_turn 40 = .ok (.iconst 0, 1) := by decide +kernel
theorem dX10_turn_41 : decode cX10_turn 41 = .ok (.ireturn, 1) := by decide +kernel
theorem dX10_turn_42 : decode cX10_turn 42 = .ok (.aload_n 1, 1) := by decide +kernel
theorem dX10_turn_43 : decode cX10_turn 43 = .ok (.getfield 78, 3) := by decide +kernel
theorem dX10_turn_46 : decode cX10_turn 46 = .ok (.iload_n 2, 1) := by decide +kernel
theorem dX10_turn_47 : decode cX10_turn 47 = .ok (.aload_n 1, 1) := by decide +kernel
theorem dX10_turn_48 : decode cX10_turn 48 = .ok (.getfield 78, 3) := by decide +kernel
theorem dX10_turn_51 : decode cX10_turn 51 = .ok (.iload_n 2, 1) := by decide +kernel
theorem dX10_turn_52 : decode cX10_turn 52 = .ok (.iaload, 1) := by decide +kernel
theorem dX10_turn_53 : decode cX10_turn 53 = .ok (.iconst 1, 1) := by decide +kernel
theorem dX10_turn_54 : decode cX10_turn 54 = .ok (.iadd, 1) := by decide +kernel
theorem dX10_turn_55 : decode cX10_turn 55 = .ok (.sipush 9999, 3) := by decide +kernel
theorem dX10_turn_58 : decode cX10_turn 58 = .ok (.invokestatic 118, 3) := by decide +kernel
theorem dX10_turn_61 : decode cX10_turn 61 = .ok (.iastore, 1) := by decide +kernel
theorem dX10_turn_62 : decode cX10_turn 62 = .ok (.aload_n 1, 1) := by decide +kernel
theorem dX10_turn_63 : decode cX10_turn 63 = .ok (.getfield 66, 3) := by decide +kernel
theorem dX10_turn_66 : decode cX10_turn 66 = .ok (.iload_n 2, 1) := by decide +kernel
theorem dX10_turn_67 : decode cX10_turn 67 = .ok (.bipush 99, 2) := by decide +kernel
theorem dX10_turn_69 : decode cX10_turn 69 = .ok (.iastore, 1) := by decide +kernel
theorem dX10_turn_70 : decode cX10_turn 70 = .ok (.iconst 1, 1) := by decide +kernel
theorem dX10_turn_71 : decode cX10_turn 71 = .ok (.ireturn, 1) := by decide +kernel
theorem dX10_forget_0 : decode cX10_forget 0 = .ok (.aload_n 0, 1) := by decide +kernel
theorem dX10_forget_1 : decode cX10_forget 1 = .ok (.getfield 9, 3) := by decide +kernel
theorem dX10_forget_4 : decode cX10_forget 4 = .ok (.getfield 69, 3) := by decide +kernel
theorem dX10_forget_7 : decode cX10_forget 7 = .ok (.iload_n 2, 1) := by decide +kernel
theorem dX10_forget_8 : decode cX10_forget 8 = .ok (.iaload, 1) := by decide +kernel
theorem dX10_forget_9 : decode cX10_forget 9 = .ok (.iconst 1, 1) := by decide +kernel
theorem dX10_forget_10 : decode cX10_forget 10 = .ok (.if_icmp .ne 9, 3) := by decide +kernel
theorem dX10_forget_13 : decode cX10_forget 13 = .ok (.iload_n 3, 1) := by decide +kernel
theorem dX10_forget_14 : decode cX10_forget 14 = .ok (.iconst 2, 1) := by decide +kernel
theorem dX10_forget_15 : decode cX10_forget 15 = .ok (.idiv, 1) := by decide +kernel
theorem dX10_forget_16 : decode cX10_forget 16 = .ok (.goto 4, 3) := by decide +kernel
theorem dX10_forget_19 : decode cX10_forget 19 = .ok (.iload_n 3, 1) := by decide +kernel
theorem dX10_forget_20 : decode cX10_forget 20 = .ok (.istore 4, 2) := by decide +kernel
theorem dX10_forget_22 : decode cX10_forget 22 = .ok (.aload_n 1, 1) := by decide +kernel
theorem dX10_forget_23 : decode cX10_forget 23 = .ok (.getfield 66, 3) := by decide +kernel
theorem dX10_forget_26 : decode cX10_forget 26 = .ok (.iload_n 2, 1) := by decide +kernel
theorem dX10_forget_27 : decode cX10_forget 27 = .ok (.iconst 0, 1) := by decide +kernel
theorem dX10_forget_28 : decode cX10_forget 28 = .ok (.aload_n 1, 1) := by decide +kernel
theorem dX10_forget_29 : decode cX10_forget 29 = .ok (.getfield 66, 3) := by decide +kernel
theorem dX10_forget_32 : decode cX10_forget 32 = .ok (.iload_n 2, 1) := by decide +kernel
theorem dX10_forget_33 : decode cX10_forget 33 = .ok (.iaload, 1) := by decide +kernel
theorem dX10_forget_34 : decode cX10_forget 34 = .ok (.iload 4, 2) := by decide +kernel
theorem dX10_forget_36 : decode cX10_forget 36 = .ok (.isub, 1) := by decide +kernel
theorem dX10_forget_37 : decode cX10_forget 37 = .ok (.invokestatic 123, 3) := by decide +kernel
theorem dX10_forget_40 : decode cX10_forget 40 = .ok (.iastore, 1) := by decide +kernel
theorem dX10_forget_41 : decode cX10_forget 41 = .ok (.aload_n 1, 1) := by decide +kernel
theorem dX10_forget_42 : decode cX10_forget 42 = .ok (.getfield 66, 3) := by decide +kernel
theorem dX10_forget_45 : decode cX10_forget 45 = .ok (.iload_n 2, 1) := by decide +kernel
theorem dX10_forget_46 : decode cX10_forget 46 = .ok (.iaload, 1) := by decide +kernel
theorem dX10_forget_47 : decode cX10_forget 47 = .ok (.ifCond .ne 10, 3) := by decide +kernel
theorem dX10_forget_50 : decode cX10_forget 50 = .ok (.aload_n 1, 1) := by decide +kernel
theorem dX10_forget_51 : decode cX10_forget 51 = .ok (.getfield 37, 3) := by decide +kernel
theorem dX10_forget_54 : decode cX10_forget 54 = .ok (.iload_n 2, 1) := by decide +kernel
theorem dX10_forget_55 : decode cX10_forget 55 = .ok (.iconst 3, 1) := by decide +kernel
theorem dX10_forget_56 : decode cX10_forget 56 = .ok (.iastore, 1) := by decide +kernel
theorem dX10_forget_57 : decode cX10_forget 57 = .ok (.return_, 1) := by decide +kernel
theorem dX11_init_0 : decode cX11_init 0 = .ok (.aload_n 0, 1) := by decide +kernel
theorem dX11_init_1 : decode cX11_init 1 = .ok (.invokespecial 1, 3) := by decide +kernel
theorem dX11_init_4 : decode cX11_init 4 = .ok (.aload_n 0, 1) := by decide +kernel
theorem dX11_init_5 : decode cX11_init 5 = .ok (.new 7, 3) := by decide +kernel
theorem dX11_init_8 : decode cX11_init 8 = .ok (.dup, 1) := by decide +kernel
theorem dX11_init_9 : decode cX11_init 9 = .ok (.invokespecial 9, 3) := by decide +kernel
theorem dX11_init_12 : decode cX11_init 12 = .ok (.putfield 10, 3) := by decide +kernel
theorem dX11_init_15 : decode cX11_init 15 = .ok (.aload_n 0, 1) := by decide +kernel
theorem dX11_init_16 : decode cX11_init 16 = .ok (.new 16, 3) := by decide +kernel
theorem dX11_init_19 : decode cX11_init 19 = .ok (.dup, 1) := by decide +kernel
theorem dX11_init_20 : decode cX11_init 20 = .ok (.invokespecial 18, 3) := by decide +kernel
theorem dX11_init_23 : decode cX11_init 23 = .ok (.putfield 19, 3) := by decide +kernel
theorem dX11_init_26 : decode cX11_init 26 = .ok (.aload_n 0, 1) := by decide +kernel
theorem dX11_init_27 : decode cX11_init 27 = .ok (.new 23, 3) := by decide +kernel
theorem dX11_init_30 : decode cX11_init 30 = .ok (.dup, 1) := by decide +kernel
theorem dX11_init_31 : decode cX11_init 31 = .ok (.aload_n 0, 1) := by decide +kernel
theorem dX11_init_32 : decode cX11_init 32 = .ok (.getfield 10, 3) := by decide +kernel
theorem dX11_init_35 : decode cX11_init 35 = .ok (.invokespecial 25, 3) := by decide +kernel
theorem dX11_init_38 : decode cX11_init 38 = .ok (.putfield 28, 3) := by decide +kernel
theorem dX11_init_41 : decode cX11_init 41 = .ok (.aload_n 0, 1) := by decide +kernel
theorem dX11_init_42 : decode cX11_init 42 = .ok (.new 32, 3) := by decide +kernel
theorem dX11_init_45 : decode cX11_init 45 = .ok (.dup, 1) := by decide +kernel
theorem dX11_init_46 : decode cX11_init 46 = .ok (.invokespecial 34, 3) := by decide +kernel
theorem dX11_init_49 : decode cX11_init 49 = .ok (.putfield 35, 3) := by decide +kernel
theorem dX11_init_52 : decode cX11_init 52 = .ok (.aload_n 0, 1) := by decide +kernel
theorem dX11_init_53 : decode cX11_init 53 = .ok (.new 39, 3) := by decide +kernel
theorem dX11_init_56 : decode cX11_init 56 = .ok (.dup, 1) := by decide +kernel
theorem dX11_init_57 : decode cX11_init 57 = .ok (.aload_n 0, 1) := by decide +kernel
theorem dX11_init_58 : decode cX11_init 58 = .ok (.getfield 10, 3) := by decide +kernel
theorem dX11_init_61 : decode cX11_init 61 = .ok (.invokespecial 41, 3) := by decide +kernel
theorem dX11_init_64 : decode cX11_init 64 = .ok (.putfield 42, 3) := by decide +kernel
theorem dX11_init_67 : decode cX11_init 67 = .ok (.aload_n 0, 1) := by decide +kernel
theorem dX11_init_68 : decode cX11_init 68 = .ok (.new 46, 3) := by decide +kernel
theorem dX11_init_71 : decode cX11_init 71 = .ok (.dup, 1) := by decide +kernel
theorem dX11_init_72 : decode cX11_init 72 = .ok (.invokespecial 48, 3) := by decide +kernel
theorem dX11_init_75 : decode cX11_init 75 = .ok (.putfield 49, 3) := by decide +kernel
theorem dX11_init_78 : decode cX11_init 78 = .ok (.aload_n 0, 1) := by decide +kernel
theorem dX11_init_79 : decode cX11_init 79 = .ok (.new 46, 3) := by decide +kernel
theorem dX11_init_82 : decode cX11_init 82 = .ok (.dup, 1) := by decide +kernel
theorem dX11_init_83 : decode cX11_init 83 = .ok (.invokespecial 48, 3) := by decide +kernel
theorem dX11_init_86 : decode cX11_init 86 = .ok (.putfield 53, 3) := by decide +kernel
theorem dX11_init_89 : decode cX11_init 89 = .ok (.aload_n 0, 1) := by decide +kernel
theorem dX11_init_90 : decode cX11_init 90 = .ok (.new 46, 3) := by decide +kernel
theorem dX11_init_93 : decode cX11_init 93 = .ok (.dup, 1) := by decide +kernel
theorem dX11_init_94 : decode cX11_init 94 = .ok (.invokespecial 48, 3) := by decide +kernel
theorem dX11_init_97 : decode cX11_init 97 = .ok (.putfield 56, 3) := by decide +kernel
theorem dX11_init_100 : decode cX11_init 100 = .ok (.aload_n 0, 1) := by decide +kernel
theorem dX11_init_101 : decode cX11_init 101 = .ok (.new 59, 3) := by decide +kernel
theorem dX11_init_104 : decode cX11_init 104 = .ok (.dup, 1) := by decide +kernel
theorem dX11_init_105 : decode cX11_init 105 = .ok (.aload_n 0, 1) := by decide +kernel
theorem dX11_init_106 : decode cX11_init 106 = .ok (.getfield 19, 3) := by decide +kernel
theorem dX11_init_109 : decode cX11_init 109 = .ok (.aload_n 0, 1) := by decide +kernel
theorem dX11_init_110 : decode cX11_init 110 = .ok (.getfield 35, 3) := by decide +kernel
theorem dX11_init_113 : decode cX11_init 113 = .ok (.invokespecial 61, 3) := by decide +kernel
theorem dX11_init_116 : decode cX11_init 116 = .ok (.putfield 64, 3) := by decide +kernel
theorem dX11_init_119 : decode cX11_init 119 = .ok (.aload_n 0, 1) := by decide +kernel
theorem dX11_init_120 : decode cX11_init 120 = .ok (.new 68, 3) := by decide +kernel
theorem dX11_init_123 : decode cX11_init 123 = .ok (.dup, 1) := by decide +kernel
theorem dX11_init_124 : decode cX11_init 124 = .ok (.invokespecial 70, 3) := by decide +kernel
theorem dX11_init_127 : decode cX11_init 127 = .ok (.putfield 71, 3) := by decide +kernel
theorem dX11_init_130 : decode cX11_init 130 = .ok (.aload_n 0, 1) := by decide +kernel
theorem dX11_init_131 : decode cX11_init 131 = .ok (.new 75, 3) := by decide +kernel
theorem dX11_init_134 : decode cX11_init 134 = .ok (.dup, 1) := by decide +kernel
theorem dX11_init_135 : decode cX11_init 135 = .ok (.invokespecial 77, 3) := by decide +kernel
theorem dX11_init_138 : decode cX11_init 138 = .ok (.putfield 78, 3) := by decide +kernel
theorem dX11_init_141 : decode cX11_init 141 = .ok (.aload_n 0, 1) := by decide +kernel
theorem dX11_init_142 : decode cX11_init 142 = .ok (.new 82, 3) := by decide +kernel
theorem dX11_init_145 : decode cX11_init 145 = .ok (.dup, 1) := by decide +kernel
theorem dX11_init_146 : decode cX11_init 146 = .ok (.invokespecial 84, 3) := by decide +kernel
theorem dX11_init_149 : decode cX11_init 149 = .ok (.putfield 85, 3) := by decide +kernel
theorem dX11_init_152 : decode cX11_init 152 = .ok (.aload_n 0, 1) := by decide +kernel
theorem dX11_init_153 : decode cX11_init 153 = .ok (.new 89, 3) := by decide +kernel
theorem dX11_init_156 : decode cX11_init 156 = .ok (.dup, 1) := by decide +kernel
theorem dX11_init_157 : decode cX11_init 157 = .ok (.invokespecial 91, 3) := by decide +kernel
theorem dX11_init_160 : decode cX11_init 160 = .ok (.putfield 92, 3) := by decide +kernel
theorem dX11_init_163 : decode cX11_init 163 = .ok (.aload_n 0, 1) := by decide +kernel
theorem dX11_init_164 : decode cX11_init 164 = .ok (.iconst 0, 1) := by decide +kernel
theorem dX11_init_165 : decode cX11_init 165 = .ok (.putfield 96, 3) := by decide +kernel
theorem dX11_init_168 : decode cX11_init 168 = .ok (.aload_n 0, 1) := by decide +kernel
theorem dX11_init_169 : decode cX11_init 169 = .ok (.iconst 0, 1) := by decide +kernel
theorem dX11_init_170 : decode cX11_init 170 = .ok (.putfield 100, 3) := by decide +kernel
theorem dX11_init_173 : decode cX11_init 173 = .ok (.return_, 1) := by decide +kernel
theorem dX11_home_0 : decode cX11_home 0 = .ok (.aload_n 0, 1) := by decide +kernel
theorem dX11_home_1 : decode cX11_home 1 = .ok (.iload_n 1, 1) := by decide +kernel
theorem dX11_home_2 : decode cX11_home 2 = .ok (.invokevirtual 104, 3) := by decide +kernel
theorem dX11_home_5 : decode cX11_home 5 = .ok (.ifCond .eq 17, 3) := by decide +kernel
theorem dX11_home_8 : decode cX11_home 8 = .ok (.iload_n 2, 1) := by decide +kernel
theorem dX11_home_9 : decode cX11_home 9 = .ok (.invokestatic 108, 3) := by decide +kernel
theorem dX11_home_12 : decode cX11_home 12 = .ok (.ifCond .eq 10, 3) := by decide +kernel
theorem dX11_home_15 : decode cX11_home 15 = .ok (.iload_n 3, 1) := by decide +kernel
theorem dX11_home_16 : decode cX11_home 16 = .ok (.invokestatic 111, 3) := by decide +kernel
theorem dX11_home_19 : decode cX11_home 19 = .ok (.ifCond .ne 5, 3) := by decide +kernel
theorem dX11_home_22 : decode cX11_home 22 = .ok (.iconst 0, 1) := by decide +kernel
theorem dX11_home_23 : decode cX11_home 23 = .ok (.ireturn, 1) := by decide +kernel
theorem dX11_home_24 : decode cX11_home 24 = .ok (.aload_n 0, 1) := by decide +kernel
theorem dX11_home_25 : decode cX11_home 25 = .ok (.getfield 19, 3) := by decide +kernel
theorem dX11_home_28 : decode cX11_home 28 = .ok (.getfield 114, 3) := by decide +kernel
theorem dX11_home_31 : decode cX11_home 31 = .ok (.iload_n 1, 1) := by decide +kernel
theorem dX11_home_32 : decode cX11_home 32 = .ok (.bipush 24, 2) := by decide +kernel
theorem dX11_home_34 : decode cX11_home 34 = .ok (.iload_n 3, 1) := by decide +kernel
theorem dX11_home_35 : decode cX11_home 35 = .ok (.imul, 1) := by decide +kernel
theorem dX11_home_36 : decode cX11_home 36 = .ok (.iload_n 2, 1) := by decide +kernel
theorem dX11_home_37 : decode cX11_home 37 = .ok (.iadd, 1) := by decide +kernel
theorem dX11_home_38 : decode cX11_home 38 = .ok (.iastore, 1) := by decide +kernel
theorem dX11_home_39 : decode cX11_home 39 = .ok (.iconst 1, 1) := by decide +kernel
theorem dX11_home_40 : decode cX11_home 40 = .ok (.ireturn, 1) := by decide +kernel
theorem dX11_feed_0 : decode cX11_feed 0 = .ok (.aload_n 0, 1) := by decide +kernel
theorem dX11_feed_1 : decode cX11_feed 1 = .ok (.getfield 10, 3) := by decide +kernel
theorem dX11_feed_4 : decode cX11_feed 4 = .ok (.getfield 118, 3) := by decide +kernel
theorem dX11_feed_7 : decode cX11_feed 7 = .ok (.bipush 20, 2) := by decide +kernel
theorem dX11_feed_9 : decode cX11_feed 9 = .ok (.iadd, 1) := by decide +kernel
theorem dX11_feed_10 : decode cX11_feed 10 = .ok (.sipush 260, 3) := by decide +kernel
theorem dX11_feed_13 : decode cX11_feed 13 = .ok (.if_icmp .le 5, 3) := by decide +kernel
theorem dX11_feed_16 : decode cX11_feed 16 = .ok (.iconst (-1), 1) := by decide +kernel
theorem dX11_feed_17 : decode cX11_feed 17 = .ok (.ireturn, 1) := by decide +kernel
theorem dX11_feed_18 : decode cX11_feed 18 = .ok (.aload_n 0, 1) := by decide +kernel
theorem dX11_feed_19 : decode cX11_feed 19 = .ok (.getfield 10, 3) := by decide +kernel
theorem dX11_feed_22 : decode cX11_feed 22 = .ok (.iload_n 1, 1) := by decide +kernel
theorem dX11_feed_23 : decode cX11_feed 23 = .ok (.invokevirtual 121, 3) := by decide +kernel
theorem dX11_feed_26 : decode cX11_feed 26 = .ok (.aload_n 0, 1) := by decide +kernel
theorem dX11_feed_27 : decode cX11_feed 27 = .ok (.getfield 10, 3) := by decide +kernel
theorem dX11_feed_30 : decode cX11_feed 30 = .ok (.iload_n 2, 1) := by decide +kernel
theorem dX11_feed_31 : decode cX11_feed 31 = .ok (.invokevirtual 121, 3) := by decide +kernel
theorem dX11_feed_34 : decode cX11_feed 34 = .ok (.aload_n 0, 1) := by decide +kernel
theorem dX11_feed_35 : decode cX11_feed 35 = .ok (.getfield 10, 3) := by decide +kernel
theorem dX11_feed_38 : decode cX11_feed 38 = .ok (.iload_n 3, 1) := by decide +kernel
theorem dX11_feed_39 : decode cX11_feed 39 = .ok (.invokevirtual 121, 3) := by decide +kernel
theorem dX11_feed_42 : decode cX11_feed 42 = .ok (.aload_n 0, 1) := by decide +kernel
theorem dX11_feed_43 : decode cX11_feed 43 = .ok (.getfield 10, 3) := by decide +kernel
theorem dX11_feed_46 : decode cX11_feed 46 = .ok (.iload 4, 2) := by decide +kernel
theorem dX11_feed_48 : decode cX11_feed 48 = .ok (.invokevirtual 121, 3) := by decide +kernel
theorem dX11_feed_51 : decode cX11_feed 51 = .ok (.aload_n 0, 1) := by decide +kernel
theorem dX11_feed_52 : decode cX11_feed 52 = .ok (.getfield 10, 3) := by decide +kernel
theorem dX11_feed_55 : decode cX11_feed 55 = .ok (.iload 5, 2) := by decide +kernel
theorem dX11_feed_57 : decode cX11_feed 57 = .ok (.invokevirtual 121, 3) := by decide +kernel
theorem dX11_feed_60 : decode cX11_feed 60 = .ok (.aload_n 0, 1) := by decide +kernel
theorem dX11_feed_61 : decode cX11_feed 61 = .ok (.getfield 10, 3) := by decide +kernel
theorem dX11_feed_64 : decode cX11_feed 64 = .ok (.getfield 118, 3) := by decide +kernel
theorem dX11_feed_67 : decode cX11_feed 67 = .ok (.ireturn, 1) := by decide +kernel
theorem dX11_law_0 : decode cX11_law 0 = .ok (.iload_n 1, 1) := by decide +kernel
theorem dX11_law_1 : decode cX11_law 1 = .ok (.iconst 1, 1) := by decide +kernel
theorem dX11_law_2 : decode cX11_law 2 = .ok (.if_icmp .lt 21, 3) := by decide +kernel
theorem dX11_law_5 : decode cX11_law 5 = .ok (.iload_n 1, 1) := by decide +kernel
theorem dX11_law_6 : decode cX11_law 6 = .ok (.sipush 240, 3) := by decide +kernel
theorem dX11_law_9 : decode cX11_law 9 = .ok (.if_icmp .gt 14, 3) := by decide +kernel
theorem dX11_law_12 : decode cX11_law 12 = .ok (.iload_n 1, 1) := by decide +kernel
theorem dX11_law_13 : decode cX11_law 13 = .ok (.aload_n 0, 1) := by decide +kernel
theorem dX11_law_14 : decode cX11_law 14 = .ok (.getfield 10, 3) := by decide +kernel
theorem dX11_law_17 : decode cX11_law 17 = .ok (.getfield 118, 3) := by decide +kernel
theorem dX11_law_20 : decode cX11_law 20 = .ok (.if_icmp .le 5, 3) := by decide +kernel
theorem dX11_law_23 : decode cX11_law 23 = .ok (.iconst (-1), 1) := by decide +kernel
theorem dX11_law_24 : decode cX11_law 24 = .ok (.ireturn, 1) := by decide +kernel
theorem dX11_law_25 : decode cX11_law 25 = .ok (.aload_n 0, 1) := by decide +kernel
theorem dX11_law_26 : decode cX11_law 26 = .ok (.getfield 42, 3) := by decide +kernel
theorem dX11_law_29 : decode cX11_law 29 = .ok (.iload_n 1, 1) := by decide +kernel
theorem dX11_law_30 : decode cX11_law 30 = .ok (.invokevirtual 125, 3) := by decide +kernel
theorem dX11_law_33 : decode cX11_law 33 = .ok (.istore_n 2, 1) := by decide +kernel
theorem dX11_law_34 : decode cX11_law 34 = .ok (.aload_n 0, 1) := by decide +kernel
theorem dX11_law_35 : decode cX11_law 35 = .ok (.getfield 10, 3) := by decide +kernel
theorem dX11_law_38 : decode cX11_law 38 = .ok (.invokevirtual 129, 3) := by decide +kernel
theorem dX11_law_41 : decode cX11_law 41 = .ok (.iload_n 2, 1) := by decide +kernel
theorem dX11_law_42 : decode cX11_law 42 = .ok (.ifCond .le 17, 3) := by decide +kernel
theorem dX11_law_45 : decode cX11_law 45 = .ok (.aload_n 0, 1) := by decide +kernel
theorem dX11_law_46 : decode cX11_law 46 = .ok (.getfield 35, 3) := by decide +kernel
theorem dX11_law_49 : decode cX11_law 49 = .ok (.aload_n 0, 1) := by decide +kernel
theorem dX11_law_50 : decode cX11_law 50 = .ok (.getfield 42, 3) := by decide +kernel
theorem dX11_law_53 : decode cX11_law 53 = .ok (.getfield 132, 3) := by decide +kernel
theorem dX11_law_56 : decode cX11_law 56 = .ok (.invokevirtual 135, 3) := by decide +kernel
theorem dX11_law_59 : decode cX11_law 59 = .ok (.iload_n 2, 1) := by decide +kernel
theorem dX11_law_60 : decode cX11_law 60 = .ok (.ireturn, 1) := by decide +kernel
theorem dX11_bark_0 : decode cX11_bark 0 = .ok (.iload_n 1, 1) := by decide +kernel
theorem dX11_bark_1 : decode cX11_bark 1 = .ok (.iconst 1, 1) := by decide +kernel
theorem dX11_bark_2 : decode cX11_bark 2 = .ok (.if_icmp .lt 21, 3) := by decide +kernel
theorem dX11_bark_5 : decode cX11_bark 5 = .ok (.iload_n 1, 1) := by decide +kernel
theorem dX11_bark_6 : decode cX11_bark 6 = .ok (.sipush 160, 3) := by decide +kernel
theorem dX11_bark_9 : decode cX11_bark 9 = .ok (.if_icmp .gt 14, 3) := by decide +kernel
theorem dX11_bark_12 : decode cX11_bark 12 = .ok (.iload_n 1, 1) := by decide +kernel
theorem dX11_bark_13 : decode cX11_bark 13 = .ok (.aload_n 0, 1) := by decide +kernel
theorem dX11_bark_14 : decode cX11_bark 14 = .ok (.getfield 10, 3) := by decide +kernel
theorem dX11_bark_17 : decode cX11_bark 17 = .ok (.getfield 118, 3) := by decide +kernel
theorem dX11_bark_20 : decode cX11_bark 20 = .ok (.if_icmp .le 5, 3) := by decide +kernel
theorem dX11_bark_23 : decode cX11_bark 23 = .ok (.iconst (-1), 1) := by decide +kernel
theorem dX11_bark_24 : decode cX11_bark 24 = .ok (.ireturn, 1) := by decide +kernel
theorem dX11_bark_25 : decode cX11_bark 25 = .ok (.aload_n 0, 1) := by decide +kernel
theorem dX11_bark_26 : decode cX11_bark 26 = .ok (.getfield 28, 3) := by decide +kernel
theorem dX11_bark_29 : decode cX11_bark 29 = .ok (.iload_n 1, 1) := by decide +kernel
theorem dX11_bark_30 : decode cX11_bark 30 = .ok (.invokevirtual 139, 3) := by decide +kernel
theorem dX11_bark_33 : decode cX11_bark 33 = .ok (.istore_n 2, 1) := by decide +kernel
theorem dX11_bark_34 : decode cX11_bark 34 = .ok (.aload_n 0, 1) := by decide +kernel
theorem dX11_bark_35 : decode cX11_bark 35 = .ok (.getfield 10, 3) := by decide +kernel
theorem dX11_bark_38 : decode cX11_bark 38 = .ok (.invokevirtual 129, 3) := by decide +kernel
theorem dX11_bark_41 : decode cX11_bark 41 = .ok (.iload_n 2, 1) := by decide +kernel
theorem dX11_bark_42 : decode cX11_bark 42 = .ok (.ifCond .le 28, 3) := by decide +kernel
theorem dX11_bark_45 : decode cX11_bark 45 = .ok (.aload_n 0, 1) := by decide +kernel
theorem dX11_bark_46 : decode cX11_bark 46 = .ok (.getfield 19, 3) := by decide +kernel
theorem dX11_bark_49 : decode cX11_bark 49 = .ok (.aload_n 0, 1) := by decide +kernel
theorem dX11_bark_50 : decode cX11_bark 50 = .ok (.getfield 28, 3) := by decide +kernel
theorem dX11_bark_53 : decode cX11_bark 53 = .ok (.getfield 140, 3) := by decide +kernel
theorem dX11_bark_56 : decode cX11_bark 56 = .ok (.invokevirtual 142, 3) := by decide +kernel
theorem dX11_bark_59 : decode cX11_bark 59 = .ok (.aload_n 0, 1) := by decide +kernel
theorem dX11_bark_60 : decode cX11_bark 60 = .ok (.getfield 49, 3) := by decide +kernel
theorem dX11_bark_63 : decode cX11_bark 63 = .ok (.aload_n 0, 1) := by decide +kernel
theorem dX11_bark_64 : decode cX11_bark 64 = .ok (.getfield 19, 3) := by decide +kernel
theorem dX11_bark_67 : decode cX11_bark 67 = .ok (.invokevirtual 145, 3) := by decide +kernel
theorem dX11_bark_70 : decode cX11_bark 70 = .ok (.iload_n 2, 1) := by decide +kernel
theorem dX11_bark_71 : decode cX11_bark 71 = .ok (.ireturn, 1) := by decide +kernel
theorem dX11_seasons_0 : decode cX11_seasons 0 = .ok (.iload_n 1, 1) := by decide +kernel
theorem dX11_seasons_1 : decode cX11_seasons 1 = .ok (.invokestatic 148, 3) := by decide +kernel
theorem dX11_seasons_4 : decode cX11_seasons 4 = .ok (.ifCond .eq 18, 3) := by decide +kernel
theorem dX11_seasons_7 : decode cX11_seasons 7 = .ok (.aload_n 0, 1) := by decide +kernel
theorem dX11_seasons_8 : decode cX11_seasons 8 = .ok (.getfield 64, 3) := by decide +kernel
theorem dX11_seasons_11 : decode cX11_seasons 11 = .ok (.aload_n 0, 1) := by decide +kernel
theorem dX11_seasons_12 : decode cX11_seasons 12 = .ok (.getfield 49, 3) := by decide +kernel
theorem dX11_seasons_15 : decode cX11_seasons 15 = .ok (.iload_n 1, 1) := by decide +kernel
theorem dX11_seasons_16 : decode cX11_seasons 16 = .ok (.invokevirtual 151, 3) := by decide +kernel
theorem dX11_seasons_19 : decode cX11_seasons 19 = .ok (.goto 4, 3) := by decide +kernel
theorem dX11_seasons_22 : decode cX11_seasons 22 = .ok (.iconst (-1), 1) := by decide +kernel
theorem dX11_seasons_23 : decode cX11_seasons 23 = .ok (.ireturn, 1) := by decide +kernel
theorem dX11_tried_0 : decode cX11_tried 0 = .ok (.aload_n 0, 1) := by decide +kernel
theorem dX11_tried_1 : decode cX11_tried 1 = .ok (.iload_n 2, 1) := by decide +kernel
theorem dX11_tried_2 : decode cX11_tried 2 = .ok (.bipush 20, 2) := by decide +kernel
theorem dX11_tried_4 : decode cX11_tried 4 = .ok (.isub, 1) := by decide +kernel
theorem dX11_tried_5 : decode cX11_tried 5 = .ok (.invokevirtual 104, 3) := by decide +kernel
theorem dX11_tried_8 : decode cX11_tried 8 = .ok (.ifCond .ne 25, 3) := by decide +kernel
theorem dX11_tried_11 : decode cX11_tried 11 = .ok (.aload_n 0, 1) := by decide +kernel
theorem dX11_tried_12 : decode cX11_tried 12 = .ok (.iload_n 2, 1) := by decide +kernel
theorem dX11_tried_13 : decode cX11_tried 13 = .ok (.bipush 40, 2) := by decide +kernel
theorem dX11_tried_15 : decode cX11_tried 15 = .ok (.isub, 1) := by decide +kernel
theorem dX11_tried_16 : decode cX11_tried 16 = .ok (.invokevirtual 104, 3) := by decide +kernel
theorem dX11_tried_19 : decode cX11_tried 19 = .ok (.ifCond .ne 14, 3) := by decide +kernel
theorem dX11_tried_22 : decode cX11_tried 22 = .ok (.aload_n 0, 1) := by decide +kernel
theorem dX11_tried_23 : decode cX11_tried 23 = .ok (.iload_n 2, 1) := by decide +kernel
theorem dX11_tried_24 : decode cX11_tried 24 = .ok (.bipush 60, 2) := by decide +kernel
theorem dX11_tried_26 : decode cX11_tried 26 = .ok (.isub, 1) := by decide +kernel
theorem dX11_tried_27 : decode cX11_tried 27 = .ok (.invokevirtual 104, 3) := by decide +kernel
theorem dX11_tried_30 : decode cX11_tried 30 = .ok (.ifCond .eq 7, 3) := by decide +kernel
theorem dX11_tried_33 : decode cX11_tried 33 = .ok (.iconst 1, 1) := by decide +kernel
theorem dX11_tried_34 : decode cX11_tried 34 = .ok (.goto 4, 3) := by decide +kernel
theorem dX11_tried_37 : decode cX11_tried 37 = .ok (.iconst 0, 1) := by decide +kernel
theorem dX11_tried_38 : decode cX11_tried 38 = .ok (.istore_n 3, 1) := by decide +kernel
theorem dX11_tried_39 : decode cX11_tried 39 = .ok (.iload_n 2, 1) := by decide +kernel
theorem dX11_tried_40 : decode cX11_tried 40 = .ok (.ifCond .lt 12, 3) := by decide +kernel
theorem dX11_tried_43 : decode cX11_tried 43 = .ok (.iload_n 2, 1) := by decide +kernel
theorem dX11_tried_44 : decode cX11_tried 44 = .ok (.iconst 2, 1) := by decide +kernel
theorem dX11_tried_45 : decode cX11_tried 45 = .ok (.if_icmp .gt 7, 3) := by decide +kernel
theorem dX11_tried_48 : decode cX11_tried 48 = .ok (.iconst 1, 1) := by decide +kernel
theorem dX11_tried_49 : decode cX11_tried 49 = .ok (.goto 4, 3) := by decide +kernel
theorem dX11_tried_52 : decode cX11_tried 52 = .ok (.iconst 0, 1) := by decide +kernel
theorem dX11_tried_53 : decode cX11_tried 53 = .ok (.istore 4, 2) := by decide +kernel
theorem dX11_tried_55 : decode cX11_tried 55 = .ok (.iload_n 1, 1) := by decide +kernel
theorem dX11_tried_56 : decode cX11_tried 56 = .ok (.invokestatic 148, 3) := by decide +kernel
theorem dX11_tried_59 : decode cX11_tried 59 = .ok (.ifCond .eq 12, 3) := by decide +kernel
theorem dX11_tried_62 : decode cX11_tried 62 = .ok (.iload_n 3, 1) := by decide +kernel
theorem dX11_tried_63 : decode cX11_tried 63 = .ok (.ifCond .ne 10, 3) := by decide +kernel
theorem dX11_tried_66 : decode cX11_tried 66 = .ok (.iload 4, 2) := by decide +kernel
theorem dX11_tried_68 : decode cX11_tried 68 = .ok (.ifCond .ne 5, 3) := by decide +kernel
theorem dX11_tried_71 : decode cX11_tried 71 = .ok (.iconst (-1), 1) := by decide +kernel
theorem dX11_tried_72 : decode cX11_tried 72 = .ok (.ireturn, 1) := by decide +kernel
theorem dX11_tried_73 : decode cX11_tried 73 = .ok (.aload_n 0, 1) := by decide +kernel
theorem dX11_tried_74 : decode cX11_tried 74 = .ok (.getfield 56, 3) := by decide +kernel
theorem dX11_tried_77 : decode cX11_tried 77 = .ok (.aload_n 0, 1) := by decide +kernel
theorem dX11_tried_78 : decode cX11_tried 78 = .ok (.getfield 49, 3) := by decide +kernel
theorem dX11_tried_81 : decode cX11_tried 81 = .ok (.aload_n 0, 1) := by decide +kernel
theorem dX11_tried_82 : decode cX11_tried 82 = .ok (.getfield 19, 3) := by decide +kernel
theorem dX11_tried_85 : decode cX11_tried 85 = .ok (.getfield 155, 3) := by decide +kernel
theorem dX11_tried_88 : decode cX11_tried 88 = .ok (.invokevirtual 156, 3) := by decide +kernel
theorem dX11_tried_91 : decode cX11_tried 91 = .ok (.aload_n 0, 1) := by decide +kernel
theorem dX11_tried_92 : decode cX11_tried 92 = .ok (.getfield 64, 3) := by decide +kernel
theorem dX11_tried_95 : decode cX11_tried 95 = .ok (.aload_n 0, 1) := by decide +kernel
theorem dX11_tried_96 : decode cX11_tried 96 = .ok (.getfield 56, 3) := by decide +kernel
theorem dX11_tried_99 : decode cX11_tried 99 = .ok (.iload_n 1, 1) := by decide +kernel
theorem dX11_tried_100 : decode cX11_tried 100 = .ok (.invokevirtual 151, 3) := by decide +kernel
theorem dX11_tried_103 : decode cX11_tried 103 = .ok (.istore 5, 2) := by decide +kernel
theorem dX11_tried_105 : decode cX11_tried 105 = .ok (.iload_n 2, 1) := by decide +kernel
theorem dX11_tried_106 : decode cX11_tried 106 = .ok (.ifCond .ne 6, 3) := by decide +kernel
theorem dX11_tried_109 : decode cX11_tried 109 = .ok (.iload 5, 2) := by decide +kernel
theorem dX11_tried_111 : decode cX11_tried 111 = .ok (.ireturn, 1) := by decide +kernel
theorem dX11_tried_112 : decode cX11_tried 112 = .ok (.iload 4, 2) := by decide +kernel
theorem dX11_tried_114 : decode cX11_tried 114 = .ok (.ifCond .eq 28, 3) := by decide +kernel
theorem dX11_tried_117 : decode cX11_tried 117 = .ok (.aload_n 0, 1) := by decide +kernel
theorem dX11_tried_118 : decode cX11_tried 118 = .ok (.getfield 56, 3) := by decide +kernel
theorem dX11_tried_121 : decode cX11_tried 121 = .ok (.iload_n 2, 1) := by decide +kernel
theorem dX11_tried_122 : decode cX11_tried 122 = .ok (.iconst 1, 1) := by decide +kernel
theorem dX11_tried_123 : decode cX11_tried 123 = .ok (.if_icmp .ne 7, 3) := by decide +kernel
theorem dX11_tried_126 : decode cX11_tried 126 = .ok (.iconst 3, 1) := by decide +kernel
theorem dX11_tried_127 : decode cX11_tried 127 = .ok (.goto 4, 3) := by decide +kernel
theorem dX11_tried_130 : decode cX11_tried 130 = .ok (.iconst 4, 1) := by decide +kernel
theorem dX11_tried_131 : decode cX11_tried 131 = .ok (.aload_n 0, 1) := by decide +kernel
theorem dX11_tried_132 : decode cX11_tried 132 = .ok (.getfield 19, 3) := by decide +kernel
theorem dX11_tried_135 : decode cX11_tried 135 = .ok (.getfield 155, 3) := by decide +kernel
theorem dX11_tried_138 : decode cX11_tried 138 = .ok (.invokevirtual 159, 3) := by decide +kernel
theorem dX11_tried_141 : decode cX11_tried 141 = .ok (.ireturn, 1) := by decide +kernel
theorem dX11_tried_142 : decode cX11_tried 142 = .ok (.aload_n 0, 1) := by decide +kernel
theorem dX11_tried_143 : decode cX11_tried 143 = .ok (.iload_n 2, 1) := by decide +kernel
theorem dX11_tried_144 : decode cX11_tried 144 = .ok (.bipush 20, 2) := by decide +kernel
theorem dX11_tried_146 : decode cX11_tried 146 = .ok (.isub, 1) := by decide +kernel
theorem dX11_tried_147 : decode cX11_tried 147 = .ok (.invokevirtual 104, 3) := by decide +kernel
theorem dX11_tried_150 : decode cX11_tried 150 = .ok (.ifCond .eq 16, 3) := by decide +kernel
theorem dX11_tried_153 : decode cX11_tried 153 = .ok (.aload_n 0, 1) := by decide +kernel
theorem dX11_tried_154 : decode cX11_tried 154 = .ok (.getfield 56, 3) := by decide +kernel
theorem dX11_tried_157 : decode cX11_tried 157 = .ok (.getfield 163, 3) := by decide +kernel
theorem dX11_tried_160 : decode cX11_tried 160 = .ok (.iload_n 2, 1) := by decide +kernel
theorem dX11_tried_161 : decode cX11_tried 161 = .ok (.bipush 20, 2) := by decide +kernel
theorem dX11_tried_163 : decode cX11_tried 163 = .ok (.isub, 1) := by decide +kernel
theorem dX11_tried_164 : decode cX11_tried 164 = .ok (.iaload, 1) := by decide +kernel
theorem dX11_tried_165 : decode cX11_tried 165 = .ok (.ireturn, 1) := by decide +kernel
theorem dX11_tried_166 : decode cX11_tried 166 = .ok (.aload_n 0, 1) := by decide +kernel
theorem dX11_tried_167 : decode cX11_tried 167 = .ok (.iload_n 2, 1) := by decide +kernel
theorem dX11_tried_168 : decode cX11_tried 168 = .ok (.bipush 40, 2) := by decide +kernel
theorem dX11_tried_170 : decode cX11_tried 170 = .ok (.isub, 1) := by decide +kernel
theorem dX11_tried_171 : decode cX11_tried 171 = .ok (.invokevirtual 104, 3) := by decide +kernel
theorem dX11_tried_174 : decode cX11_tried 174 = .ok (.ifCond .eq 18, 3) := by decide +kernel
theorem dX11_tried_177 : decode cX11_tried 177 = .ok (.aload_n 0, 1) := by decide +kernel
theorem dX11_tried_178 : decode cX11_tried 178 = .ok (.getfield 56, 3) := by decide +kernel
theorem dX11_tried_181 : decode cX11_tried 181 = .ok (.getfield 166, 3) := by decide +kernel
theorem dX11_tried_184 : decode cX11_tried 184 = .ok (.iload_n 2, 1) := by decide +kernel
theorem dX11_tried_185 : decode cX11_tried 185 = .ok (.bipush 40, 2) := by decide +kernel
theorem dX11_tried_187 : decode cX11_tried 187 = .ok (.isub, 1) := by decide +kernel
theorem dX11_tried_188 : decode cX11_tried 188 = .ok (.iaload, 1) := by decide +kernel
theorem dX11_tried_189 : decode cX11_tried 189 = .ok (.goto 15, 3) := by decide +kernel
theorem dX11_tried_192 : decode cX11_tried 192 = .ok (.aload_n 0, 1) := by decide +kernel
theorem dX11_tried_193 : decode cX11_tried 193 = .ok (.getfield 56, 3) := by decide +kernel
theorem dX11_tried_196 : decode cX11_tried 196 = .ok (.getfield 169, 3) := by decide +kernel
theorem dX11_tried_199 : decode cX11_tried 199 = .ok (.iload_n 2, 1) := by decide +kernel
theorem dX11_tried_200 : decode cX11_tried 200 = .ok (.bipush 60, 2) := by decide +kernel
theorem dX11_tried_202 : decode cX11_tried 202 = .ok (.isub, 1) := by decide +kernel
theorem dX11_tried_203 : decode cX11_tried 203 = .ok (.iaload, 1) := by decide +kernel
theorem dX11_tried_204 : decode cX11_tried 204 = .ok (.ireturn, 1) := by decide +kernel
theorem dX11_cutIs_0 : decode cX11_cutIs 0 = .ok (.aload_n 0, 1) := by decide +kernel
theorem dX11_cutIs_1 : decode cX11_cutIs 1 = .ok (.iload_n 1, 1) := by decide +kernel
theorem dX11_cutIs_2 : decode cX11_cutIs 2 = .ok (.invokevirtual 104, 3) := by decide +kernel
theorem dX11_cutIs_5 : decode cX11_cutIs 5 = .ok (.ifCond .ne 5, 3) := by decide +kernel
theorem dX11_cutIs_8 : decode cX11_cutIs 8 = .ok (.iconst (-1), 1) := by decide +kernel
theorem dX11_cutIs_9 : decode cX11_cutIs 9 = .ok (.ireturn, 1) := by decide +kernel
theorem dX11_cutIs_10 : decode cX11_cutIs 10 = .ok (.iload_n 2, 1) := by decide +kernel
theorem dX11_cutIs_11 : decode cX11_cutIs 11 = .ok (.tableswitch 195 0 12 #[65, 75, 85, 95, 105, 115, 125, 135, 145, 155, 165, 175, 185], 65) := by decide +kernel
theorem dX11_cutIs_76 : decode cX11_cutIs 76 = .ok (.aload_n 0, 1) := by decide +kernel
theorem dX11_cutIs_77 : decode cX11_cutIs 77 = .ok (.getfield 19, 3) := by decide +kernel
theorem dX11_cutIs_80 : decode cX11_cutIs 80 = .ok (.getfield 172, 3) := by decide +kernel
theorem dX11_cutIs_83 : decode cX11_cutIs 83 = .ok (.iload_n 1, 1) := by decide +kernel
theorem dX11_cutIs_84 : decode cX11_cutIs 84 = .ok (.iaload, 1) := by decide +kernel
theorem dX11_cutIs_85 : decode cX11_cutIs 85 = .ok (.ireturn, 1) := by decide +kernel
theorem dX11_cutIs_86 : decode cX11_cutIs 86 = .ok (.aload_n 0, 1) := by decide +kernel
theorem dX11_cutIs_87 : decode cX11_cutIs 87 = .ok (.getfield 19, 3) := by decide +kernel
theorem dX11_cutIs_90 : decode cX11_cutIs 90 = .ok (.getfield 175, 3) := by decide +kernel
theorem dX11_cutIs_93 : decode cX11_cutIs 93 = .ok (.iload_n 1, 1) := by decide +kernel
theorem dX11_cutIs_94 : decode cX11_cutIs 94 = .ok (.iaload, 1) := by decide +kernel
theorem dX11_cutIs_95 : decode cX11_cutIs 95 = .ok (.ireturn, 1) := by decide +kernel
theorem dX11_cutIs_96 : decode cX11_cutIs 96 = .ok (.aload_n 0, 1) := by decide +kernel
theorem dX11_cutIs_97 : decode cX11_cutIs 97 = .ok (.getfield 19, 3) := by decide +kernel
theorem dX11_cutIs_100 : decode cX11_cutIs 100 = .ok (.getfield 178, 3) := by decide +kernel
theorem dX11_cutIs_103 : decode cX11_cutIs 103 = .ok (.iload_n 1, 1) := by decide +kernel
theorem dX11_cutIs_104 : decode cX11_cutIs 104 = .ok (.iaload, 1) := by decide +kernel
theorem dX11_cutIs_105 : decode cX11_cutIs 105 = .ok (.ireturn, 1) := by decide +kernel
theorem dX11_cutIs_106 : decode cX11_cutIs 106 = .ok (.aload_n 0, 1) := by decide +kernel
theorem dX11_cutIs_107 : decode cX11_cutIs 107 = .ok (.getfield 19, 3) := by decide +kernel
theorem dX11_cutIs_110 : decode cX11_cutIs 110 = .ok (.getfield 181, 3) := by decide +kernel
theorem dX11_cutIs_113 : decode cX11_cutIs 113 = .ok (.iload_n 1, 1) := by decide +kernel
theorem dX11_cutIs_114 : decode cX11_cutIs 114 = .ok (.iaload, 1) := by decide +kernel
theorem dX11_cutIs_115 : decode cX11_cutIs 115 = .ok (.ireturn, 1) := by decide +kernel
theorem dX11_cutIs_116 : decode cX11_cutIs 116 = .ok (.aload_n 0, 1) := by decide +kernel
theorem dX11_cutIs_117 : decode cX11_cutIs 117 = .ok (.getfield 19, 3) := by decide +kernel
theorem dX11_cutIs_120 : decode cX11_cutIs 120 = .ok (.getfield 184, 3) := by decide +kernel
theorem dX11_cutIs_123 : decode cX11_cutIs 123 = .ok (.iload_n 1, 1) := by decide +kernel
theorem dX11_cutIs_124 : decode cX11_cutIs 124 = .ok (.iaload, 1) := by decide +kernel
theorem dX11_cutIs_125 : decode cX11_cutIs 125 = .ok (.ireturn, 1) := by decide +kernel
theorem dX11_cutIs_126 : decode cX11_cutIs 126 = .ok (.aload_n 0, 1) := by decide +kernel
theorem dX11_cutIs_127 : decode cX11_cutIs 127 = .ok (.getfield 19, 3) := by decide +kernel
theorem dX11_cutIs_130 : decode cX11_cutIs 130 = .ok (.getfield 187, 3) := by decide +kernel
theorem dX11_cutIs_133 : decode cX11_cutIs 133 = .ok (.iload_n 1, 1) := by decide +kernel
theorem dX11_cutIs_134 : decode cX11_cutIs 134 = .ok (.iaload, 1) := by decide +kernel
theorem dX11_cutIs_135 : decode cX11_cutIs 135 = .ok (.ireturn, 1) := by decide +kernel
theorem dX11_cutIs_136 : decode cX11_cutIs 136 = .ok (.aload_n 0, 1) := by decide +kernel
theorem dX11_cutIs_137 : decode cX11_cutIs 137 = .ok (.getfield 19, 3) := by decide +kernel
theorem dX11_cutIs_140 : decode cX11_cutIs 140 = .ok (.getfield 190, 3) := by decide +kernel
theorem dX11_cutIs_143 : decode cX11_cutIs 143 = .ok (.iload_n 1, 1) := by decide +kernel
theorem dX11_cutIs_144 : decode cX11_cutIs 144 = .ok (.iaload, 1) := by decide +kernel
theorem dX11_cutIs_145 : decode cX11_cutIs 145 = .ok (.ireturn, 1) := by decide +kernel
theorem dX11_cutIs_146 : decode cX11_cutIs 146 = .ok (.aload_n 0, 1) := by decide +kernel
theorem dX11_cutIs_147 : decode cX11_cutIs 147 = .ok (.getfield 19, 3) := by decide +kernel
theorem dX11_cutIs_150 : decode cX11_cutIs 150 = .ok (.getfield 114, 3) := by decide +kernel
theorem dX11_cutIs_153 : decode cX11_cutIs 153 = .ok (.iload_n 1, 1) := by decide +kernel
theorem dX11_cutIs_154 : decode cX11_cutIs 154 = .ok (.iaload, 1) := by decide +kernel
theorem dX11_cutIs_155 : decode cX11_cutIs 155 = .ok (.ireturn, 1) := by decide +kernel
theorem dX11_cutIs_156 : decode cX11_cutIs 156 = .ok (.aload_n 0, 1) := by decide +kernel
theorem dX11_cutIs_157 : decode cX11_cutIs 157 = .ok (.getfield 49, 3) := by decide +kernel
theorem dX11_cutIs_160 : decode cX11_cutIs 160 = .ok (.getfield 163, 3) := by decide +kernel
theorem dX11_cutIs_163 : decode cX11_cutIs 163 = .ok (.iload_n 1, 1) := by decide +kernel
theorem dX11_cutIs_164 : decode cX11_cutIs 164 = .ok (.iaload, 1) := by decide +kernel
theorem dX11_cutIs_165 : decode cX11_cutIs 165 = .ok (.ireturn, 1) := by decide +kernel
theorem dX11_cutIs_166 : decode cX11_cutIs 166 = .ok (.aload_n 0, 1) := by decide +kernel
theorem dX11_cutIs_167 : decode cX11_cutIs 167 = .ok (.getfield 49, 3) := by decide +kernel
theorem dX11_cutIs_170 : decode cX11_cutIs 170 = .ok (.getfield 166, 3) := by decide +kernel
theorem dX11_cutIs_173 : decode cX11_cutIs 173 = .ok (.iload_n 1, 1) := by decide +kernel
theorem dX11_cutIs_174 : decode cX11_cutIs 174 = .ok (.iaload, 1) := by decide +kernel
theorem dX11_cutIs_175 : decode cX11_cutIs 175 = .ok (.ireturn, 1) := by decide +kernel
theorem dX11_cutIs_176 : decode cX11_cutIs 176 = .ok (.aload_n 0, 1) := by decide +kernel
theorem dX11_cutIs_177 : decode cX11_cutIs 177 = .ok (.getfield 49, 3) := by decide +kernel
theorem dX11_cutIs_180 : decode cX11_cutIs 180 = .ok (.getfield 193, 3) := by decide +kernel
theorem dX11_cutIs_183 : decode cX11_cutIs 183 = .ok (.iload_n 1, 1) := by decide +kernel
theorem dX11_cutIs_184 : decode cX11_cutIs 184 = .ok (.iaload, 1) := by decide +kernel
theorem dX11_cutIs_185 : decode cX11_cutIs 185 = .ok (.ireturn, 1) := by decide +kernel
theorem dX11_cutIs_186 : decode cX11_cutIs 186 = .ok (.aload_n 0, 1) := by decide +kernel
theorem dX11_cutIs_187 : decode cX11_cutIs 187 = .ok (.getfield 49, 3) := by decide +kernel
theorem dX11_cutIs_190 : decode cX11_cutIs 190 = .ok (.getfield 169, 3) := by decide +kernel
theorem dX11_cutIs_193 : decode cX11_cutIs 193 = .ok (.iload_n 1, 1) := by decide +kernel
theorem dX11_cutIs_194 : decode cX11_cutIs 194 = .ok (.iaload, 1) := by decide +kernel
theorem dX11_cutIs_195 : decode cX11_cutIs 195 = .ok (.ireturn, 1) := by decide +kernel
theorem dX11_cutIs_196 : decode cX11_cutIs 196 = .ok (.aload_n 0, 1) := by decide +kernel
theorem dX11_cutIs_197 : decode cX11_cutIs 197 = .ok (.getfield 49, 3) := by decide +kernel
theorem dX11_cutIs_200 : decode cX11_cutIs 200 = .ok (.getfield 196, 3) := by decide +kernel
theorem dX11_cutIs_203 : decode cX11_cutIs 203 = .ok (.iload_n 1, 1) := by decide +kernel
theorem dX11_cutIs_204 : decode cX11_cutIs 204 = .ok (.iaload, 1) := by decide +kernel
theorem dX11_cutIs_205 : decode cX11_cutIs 205 = .ok (.ireturn, 1) := by decide +kernel
theorem dX11_cutIs_206 : decode cX11_cutIs 206 = .ok (.iconst (-1), 1) := by decide +kernel
theorem dX11_cutIs_207 : decode cX11_cutIs 207 = .ok (.ireturn, 1) := by decide +kernel
theorem dX11_meet_0 : decode cX11_meet 0 = .ok (.aload_n 0, 1) := by decide +kernel
theorem dX11_meet_1 : decode cX11_meet 1 = .ok (.iload_n 1, 1) := by decide +kernel
theorem dX11_meet_2 : decode cX11_meet 2 = .ok (.invokevirtual 104, 3) := by decide +kernel
theorem dX11_meet_5 : decode cX11_meet 5 = .ok (.ifCond .eq 23, 3) := by decide +kernel
theorem dX11_meet_8 : decode cX11_meet 8 = .ok (.aload_n 0, 1) := by decide +kernel
theorem dX11_meet_9 : decode cX11_meet 9 = .ok (.iload_n 2, 1) := by decide +kernel
theorem dX11_meet_10 : decode cX11_meet 10 = .ok (.invokevirtual 104, 3) := by decide +kernel
theorem dX11_meet_13 : decode cX11_meet 13 = .ok (.ifCond .eq 15, 3) := by decide +kernel
theorem dX11_meet_16 : decode cX11_meet 16 = .ok (.iload_n 1, 1) := by decide +kernel
theorem dX11_meet_17 : decode cX11_meet 17 = .ok (.iload_n 2, 1) := by decide +kernel
theorem dX11_meet_18 : decode cX11_meet 18 = .ok (.if_icmp .eq 10, 3) := by decide +kernel
theorem dX11_meet_21 : decode cX11_meet 21 = .ok (.iload_n 3, 1) := by decide +kernel
theorem dX11_meet_22 : decode cX11_meet 22 = .ok (.invokestatic 148, 3) := by decide +kernel
theorem dX11_meet_25 : decode cX11_meet 25 = .ok (.ifCond .ne 5, 3) := by decide +kernel
theorem dX11_meet_28 : decode cX11_meet 28 = .ok (.iconst (-1), 1) := by decide +kernel
theorem dX11_meet_29 : decode cX11_meet 29 = .ok (.ireturn, 1) := by decide +kernel
theorem dX11_meet_30 : decode cX11_meet 30 = .ok (.aload_n 0, 1) := by decide +kernel
theorem dX11_meet_31 : decode cX11_meet 31 = .ok (.getfield 56, 3) := by decide +kernel
theorem dX11_meet_34 : decode cX11_meet 34 = .ok (.aload_n 0, 1) := by decide +kernel
theorem dX11_meet_35 : decode cX11_meet 35 = .ok (.getfield 49, 3) := by decide +kernel
theorem dX11_meet_38 : decode cX11_meet 38 = .ok (.aload_n 0, 1) := by decide +kernel
theorem dX11_meet_39 : decode cX11_meet 39 = .ok (.getfield 19, 3) := by decide +kernel
theorem dX11_meet_42 : decode cX11_meet 42 = .ok (.getfield 155, 3) := by decide +kernel
theorem dX11_meet_45 : decode cX11_meet 45 = .ok (.invokevirtual 156, 3) := by decide +kernel
theorem dX11_meet_48 : decode cX11_meet 48 = .ok (.iconst 0, 1) := by decide +kernel
theorem dX11_meet_49 : decode cX11_meet 49 = .ok (.istore 4, 2) := by decide +kernel
theorem dX11_meet_51 : decode cX11_meet 51 = .ok (.iload 4, 2) := by decide +kernel
theorem dX11_meet_53 : decode cX11_meet 53 = .ok (.iload_n 3, 1) := by decide +kernel
theorem dX11_meet_54 : decode cX11_meet 54 = .ok (.if_icmp .gt 36, 3) := by decide +kernel
theorem dX11_meet_57 : decode cX11_meet 57 = .ok (.aload_n 0, 1) := by decide +kernel
theorem dX11_meet_58 : decode cX11_meet 58 = .ok (.getfield 56, 3) := by decide +kernel
theorem dX11_meet_61 : decode cX11_meet 61 = .ok (.iload_n 1, 1) := by decide +kernel
theorem dX11_meet_62 : decode cX11_meet 62 = .ok (.iload_n 2, 1) := by decide +kernel
theorem dX11_meet_63 : decode cX11_meet 63 = .ok (.invokevirtual 199, 3) := by decide +kernel
theorem dX11_meet_66 : decode cX11_meet 66 = .ok (.ifCond .eq 6, 3) := by decide +kernel
theorem dX11_meet_69 : decode cX11_meet 69 = .ok (.iload 4, 2) := by decide +kernel
theorem dX11_meet_71 : decode cX11_meet 71 = .ok (.ireturn, 1) := by decide +kernel
theorem dX11_meet_72 : decode cX11_meet 72 = .ok (.aload_n 0, 1) := by decide +kernel
theorem dX11_meet_73 : decode cX11_meet 73 = .ok (.getfield 64, 3) := by decide +kernel
theorem dX11_meet_76 : decode cX11_meet 76 = .ok (.aload_n 0, 1) := by decide +kernel
theorem dX11_meet_77 : decode cX11_meet 77 = .ok (.getfield 56, 3) := by decide +kernel
theorem dX11_meet_80 : decode cX11_meet 80 = .ok (.invokevirtual 203, 3) := by decide +kernel
theorem dX11_meet_83 : decode cX11_meet 83 = .ok (.pop, 1) := by decide +kernel
theorem dX11_meet_84 : decode cX11_meet 84 = .ok (.iinc 4 1, 3) := by decide +kernel
theorem dX11_meet_87 : decode cX11_meet 87 = .ok (.goto (-36), 3) := by decide +kernel
theorem dX11_meet_90 : decode cX11_meet 90 = .ok (.bipush (-2), 2) := by decide +kernel
theorem dX11_meet_92 : decode cX11_meet 92 = .ok (.ireturn, 1) := by decide +kernel
theorem dX11_roots_0 : decode cX11_roots 0 = .ok (.aload_n 0, 1) := by decide +kernel
theorem dX11_roots_1 : decode cX11_roots 1 = .ok (.iload_n 1, 1) := by decide +kernel
theorem dX11_roots_2 : decode cX11_roots 2 = .ok (.invokevirtual 104, 3) := by decide +kernel
theorem dX11_roots_5 : decode cX11_roots 5 = .ok (.ifCond .eq 10, 3) := by decide +kernel
theorem dX11_roots_8 : decode cX11_roots 8 = .ok (.iload_n 2, 1) := by decide +kernel
theorem dX11_roots_9 : decode cX11_roots 9 = .ok (.invokestatic 148, 3) := by decide +kernel
theorem dX11_roots_12 : decode cX11_roots 12 = .ok (.ifCond .ne 5, 3) := by decide +kernel
theorem dX11_roots_15 : decode cX11_roots 15 = .ok (.iconst (-1), 1) := by decide +kernel
theorem dX11_roots_16 : decode cX11_roots 16 = .ok (.ireturn, 1) := by decide +kernel
theorem dX11_roots_17 : decode cX11_roots 17 = .ok (.aload_n 0, 1) := by decide +kernel
theorem dX11_roots_18 : decode cX11_roots 18 = .ok (.getfield 56, 3) := by decide +kernel
theorem dX11_roots_21 : decode cX11_roots 21 = .ok (.aload_n 0, 1) := by decide +kernel
theorem dX11_roots_22 : decode cX11_roots 22 = .ok (.getfield 49, 3) := by decide +kernel
theorem dX11_roots_25 : decode cX11_roots 25 = .ok (.aload_n 0, 1) := by decide +kernel
theorem dX11_roots_26 : decode cX11_roots 26 = .ok (.getfield 19, 3) := by decide +kernel
theorem dX11_roots_29 : decode cX11_roots 29 = .ok (.getfield 155, 3) := by decide +kernel
theorem dX11_roots_32 : decode cX11_roots 32 = .ok (.invokevirtual 156, 3) := by decide +kernel
theorem dX11_roots_35 : decode cX11_roots 35 = .ok (.iconst 0, 1) := by decide +kernel
theorem dX11_roots_36 : decode cX11_roots 36 = .ok (.istore_n 3, 1) := by decide +kernel
theorem dX11_roots_37 : decode cX11_roots 37 = .ok (.iload_n 3, 1) := by decide +kernel
theorem dX11_roots_38 : decode cX11_roots 38 = .ok (.iload_n 2, 1) := by decide +kernel
theorem dX11_roots_39 : decode cX11_roots 39 = .ok (.if_icmp .gt 36, 3) := by decide +kernel
theorem dX11_roots_42 : decode cX11_roots 42 = .ok (.aload_n 0, 1) := by decide +kernel
theorem dX11_roots_43 : decode cX11_roots 43 = .ok (.getfield 56, 3) := by decide +kernel
theorem dX11_roots_46 : decode cX11_roots 46 = .ok (.getfield 169, 3) := by decide +kernel
theorem dX11_roots_49 : decode cX11_roots 49 = .ok (.iload_n 1, 1) := by decide +kernel
theorem dX11_roots_50 : decode cX11_roots 50 = .ok (.iaload, 1) := by decide +kernel
theorem dX11_roots_51 : decode cX11_roots 51 = .ok (.iconst 3, 1) := by decide +kernel
theorem dX11_roots_52 : decode cX11_roots 52 = .ok (.if_icmp .ne 5, 3) := by decide +kernel
theorem dX11_roots_55 : decode cX11_roots 55 = .ok (.iload_n 3, 1) := by decide +kernel
theorem dX11_roots_56 : decode cX11_roots 56 = .ok (.ireturn, 1) := by decide +kernel
theorem dX11_roots_57 : decode cX11_roots 57 = .ok (.aload_n 0, 1) := by decide +kernel
theorem dX11_roots_58 : decode cX11_roots 58 = .ok (.getfield 64, 3) := by decide +kernel
theorem dX11_roots_61 : decode cX11_roots 61 = .ok (.aload_n 0, 1) := by decide +kernel
theorem dX11_roots_62 : decode cX11_roots 62 = .ok (.getfield 56, 3) := by decide +kernel
theorem dX11_roots_65 : decode cX11_roots 65 = .ok (.invokevirtual 203, 3) := by decide +kernel
theorem dX11_roots_68 : decode cX11_roots 68 = .ok (.pop, 1) := by decide +kernel
theorem dX11_roots_69 : decode cX11_roots 69 = .ok (.iinc 3 1, 3) := by decide +kernel
theorem dX11_roots_72 : decode cX11_roots 72 = .ok (.goto (-35), 3) := by decide +kernel
theorem dX11_roots_75 : decode cX11_roots 75 = .ok (.bipush (-2), 2) := by decide +kernel
theorem dX11_roots_77 : decode cX11_roots 77 = .ok (.ireturn, 1) := by decide +kernel
theorem dX11_single_0 : decode cX11_single 0 = .ok (.iload_n 1, 1) := by decide +kernel
theorem dX11_single_1 : decode cX11_single 1 = .ok (.ifCond .eq 10, 3) := by decide +kernel
theorem dX11_single_4 : decode cX11_single 4 = .ok (.iload_n 1, 1) := by decide +kernel
theorem dX11_single_5 : decode cX11_single 5 = .ok (.iconst 1, 1) := by decide +kernel
theorem dX11_single_6 : decode cX11_single 6 = .ok (.if_icmp .eq 5, 3) := by decide +kernel
theorem dX11_single_9 : decode cX11_single 9 = .ok (.iconst (-1), 1) := by decide +kernel
theorem dX11_single_10 : decode cX11_single 10 = .ok (.ireturn, 1) := by decide +kernel
theorem dX11_single_11 : decode cX11_single 11 = .ok (.iconst 0, 1) := by decide +kernel
theorem dX11_single_12 : decode cX11_single 12 = .ok (.istore_n 2, 1) := by decide +kernel
theorem dX11_single_13 : decode cX11_single 13 = .ok (.iconst 0, 1) := by decide +kernel
theorem dX11_single_14 : decode cX11_single 14 = .ok (.istore_n 3, 1) := by decide +kernel
theorem dX11_single_15 : decode cX11_single 15 = .ok (.iload_n 3, 1) := by decide +kernel
theorem dX11_single_16 : decode cX11_single 16 = .ok (.aload_n 0, 1) := by decide +kernel
theorem dX11_single_17 : decode cX11_single 17 = .ok (.getfield 19, 3) := by decide +kernel
theorem dX11_single_20 : decode cX11_single 20 = .ok (.getfield 155, 3) := by decide +kernel
theorem dX11_single_23 : decode cX11_single 23 = .ok (.if_icmp .ge 57, 3) := by decide +kernel
theorem dX11_single_26 : decode cX11_single 26 = .ok (.aload_n 0, 1) := by decide +kernel
theorem dX11_single_27 : decode cX11_single 27 = .ok (.getfield 19, 3) := by decide +kernel
theorem dX11_single_30 : decode cX11_single 30 = .ok (.getfield 178, 3) := by decide +kernel
theorem dX11_single_33 : decode cX11_single 33 = .ok (.iload_n 3, 1) := by decide +kernel
theorem dX11_single_34 : decode cX11_single 34 = .ok (.iaload, 1) := by decide +kernel
theorem dX11_single_35 : decode cX11_single 35 = .ok (.ifCond .ge 7, 3) := by decide +kernel
theorem dX11_single_38 : decode cX11_single 38 = .ok (.iconst 1, 1) := by decide +kernel
theorem dX11_single_39 : decode cX11_single 39 = .ok (.goto 4, 3) := by decide +kernel
theorem dX11_single_42 : decode cX11_single 42 = .ok (.iconst 0, 1) := by decide +kernel
theorem dX11_single_43 : decode cX11_single 43 = .ok (.istore 4, 2) := by decide +kernel
theorem dX11_single_45 : decode cX11_single 45 = .ok (.iload 4, 2) := by decide +kernel
theorem dX11_single_47 : decode cX11_single 47 = .ok (.ifCond .eq 27, 3) := by decide +kernel
theorem dX11_single_50 : decode cX11_single 50 = .ok (.iload_n 1, 1) := by decide +kernel
theorem dX11_single_51 : decode cX11_single 51 = .ok (.ifCond .eq 17, 3) := by decide +kernel
theorem dX11_single_54 : decode cX11_single 54 = .ok (.aload_n 0, 1) := by decide +kernel
theorem dX11_single_55 : decode cX11_single 55 = .ok (.getfield 19, 3) := by decide +kernel
theorem dX11_single_58 : decode cX11_single 58 = .ok (.getfield 178, 3) := by decide +kernel
theorem dX11_single_61 : decode cX11_single 61 = .ok (.iload_n 3, 1) := by decide +kernel
theorem dX11_single_62 : decode cX11_single 62 = .ok (.iaload, 1) := by decide +kernel
theorem dX11_single_63 : decode cX11_single 63 = .ok (.bipush (-3), 2) := by decide +kernel
theorem dX11_single_65 : decode cX11_single 65 = .ok (.if_icmp .ne 9, 3) := by decide +kernel
theorem dX11_single_68 : decode cX11_single 68 = .ok (.iload_n 2, 1) := by decide +kernel
theorem dX11_single_69 : decode cX11_single 69 = .ok (.iconst 1, 1) := by decide +kernel
theorem dX11_single_70 : decode cX11_single 70 = .ok (.iload_n 3, 1) := by decide +kernel
theorem dX11_single_71 : decode cX11_single 71 = .ok (.ishl, 1) := by decide +kernel
theorem dX11_single_72 : decode cX11_single 72 = .ok (.ior, 1) := by decide +kernel
theorem dX11_single_73 : decode cX11_single 73 = .ok (.istore_n 2, 1) := by decide +kernel
theorem dX11_single_74 : decode cX11_single 74 = .ok (.iinc 3 1, 3) := by decide +kernel
theorem dX11_single_77 : decode cX11_single 77 = .ok (.goto (-62), 3) := by decide +kernel
theorem dX11_single_80 : decode cX11_single 80 = .ok (.iload_n 2, 1) := by decide +kernel
theorem dX11_single_81 : decode cX11_single 81 = .ok (.ireturn, 1) := by decide +kernel
theorem dX11_who_0 : decode cX11_who 0 = .ok (.iload_n 1, 1) := by decide +kernel
theorem dX11_who_1 : decode cX11_who 1 = .ok (.ifCond .lt 9, 3) := by decide +kernel
theorem dX11_who_4 : decode cX11_who 4 = .ok (.iload_n 1, 1) := by decide +kernel
theorem dX11_who_5 : decode cX11_who 5 = .ok (.bipush 16, 2) := by decide +kernel
theorem dX11_who_7 : decode cX11_who 7 = .ok (.if_icmp .lt 5, 3) := by decide +kernel
theorem dX11_who_10 : decode cX11_who 10 = .ok (.iconst (-1), 1) := by decide +kernel
theorem dX11_who_11 : decode cX11_who 11 = .ok (.ireturn, 1) := by decide +kernel
theorem dX11_who_12 : decode cX11_who 12 = .ok (.iconst 0, 1) := by decide +kernel
theorem dX11_who_13 : decode cX11_who 13 = .ok (.istore_n 2, 1) := by decide +kernel
theorem dX11_who_14 : decode cX11_who 14 = .ok (.iconst 0, 1) := by decide +kernel
theorem dX11_who_15 : decode cX11_who 15 = .ok (.istore_n 3, 1) := by decide +kernel
theorem dX11_who_16 : decode cX11_who 16 = .ok (.iload_n 3, 1) := by decide +kernel
theorem dX11_who_17 : decode cX11_who 17 = .ok (.aload_n 0, 1) := by decide +kernel
theorem dX11_who_18 : decode cX11_who 18 = .ok (.getfield 19, 3) := by decide +kernel
theorem dX11_who_21 : decode cX11_who 21 = .ok (.getfield 155, 3) := by decide +kernel
theorem dX11_who_24 : decode cX11_who 24 = .ok (.if_icmp .ge 41, 3) := by decide +kernel
theorem dX11_who_27 : decode cX11_who 27 = .ok (.aload_n 0, 1) := by decide +kernel
theorem dX11_who_28 : decode cX11_who 28 = .ok (.getfield 19, 3) := by decide +kernel
theorem dX11_who_31 : decode cX11_who 31 = .ok (.getfield 175, 3) := by decide +kernel
theorem dX11_who_34 : decode cX11_who 34 = .ok (.iload_n 3, 1) := by decide +kernel
theorem dX11_who_35 : decode cX11_who 35 = .ok (.iaload, 1) := by decide +kernel
theorem dX11_who_36 : decode cX11_who 36 = .ok (.iload_n 1, 1) := by decide +kernel
theorem dX11_who_37 : decode cX11_who 37 = .ok (.if_icmp .eq 16, 3) := by decide +kernel
theorem dX11_who_40 : decode cX11_who 40 = .ok (.aload_n 0, 1) := by decide +kernel
theorem dX11_who_41 : decode cX11_who 41 = .ok (.getfield 19, 3) := by decide +kernel
theorem dX11_who_44 : decode cX11_who 44 = .ok (.getfield 178, 3) := by decide +kernel
theorem dX11_who_47 : decode cX11_who 47 = .ok (.iload_n 3, 1) := by decide +kernel
theorem dX11_who_48 : decode cX11_who 48 = .ok (.iaload, 1) := by decide +kernel
theorem dX11_who_49 : decode cX11_who 49 = .ok (.iload_n 1, 1) := by decide +kernel
theorem dX11_who_50 : decode cX11_who 50 = .ok (.if_icmp .ne 9, 3) := by decide +kernel
theorem dX11_who_53 : decode cX11_who 53 = .ok (.iload_n 2, 1) := by decide +kernel
theorem dX11_who_54 : decode cX11_who 54 = .ok (.iconst 1, 1) := by decide +kernel
theorem dX11_who_55 : decode cX11_who 55 = .ok (.iload_n 3, 1) := by decide +kernel
theorem dX11_who_56 : decode cX11_who 56 = .ok (.ishl, 1) := by decide +kernel
theorem dX11_who_57 : decode cX11_who 57 = .ok (.ior, 1) := by decide +kernel
theorem dX11_who_58 : decode cX11_who 58 = .ok (.istore_n 2, 1) := by decide +kernel
theorem dX11_who_59 : decode cX11_who 59 = .ok (.iinc 3 1, 3) := by decide +kernel
theorem dX11_who_62 : decode cX11_who 62 = .ok (.goto (-46), 3) := by decide +kernel
theorem dX11_who_65 : decode cX11_who 65 = .ok (.iload_n 2, 1) := by decide +kernel
theorem dX11_who_66 : decode cX11_who 66 = .ok (.ireturn, 1) := by decide +kernel
theorem dX11_letters_0 : decode cX11_letters 0 = .ok (.iconst 0, 1) := by decide +kernel
theorem dX11_letters_1 : decode cX11_letters 1 = .ok (.istore_n 1, 1) := by decide +kernel
theorem dX11_letters_2 : decode cX11_letters 2 = .ok (.iconst 0, 1) := by decide +kernel
theorem dX11_letters_3 : decode cX11_letters 3 = .ok (.istore_n 2, 1) := by decide +kernel
theorem dX11_letters_4 : decode cX11_letters 4 = .ok (.iload_n 2, 1) := by decide +kernel
theorem dX11_letters_5 : decode cX11_letters 5 = .ok (.aload_n 0, 1) := by decide +kernel
theorem dX11_letters_6 : decode cX11_letters 6 = .ok (.getfield 19, 3) := by decide +kernel
theorem dX11_letters_9 : decode cX11_letters 9 = .ok (.getfield 155, 3) := by decide +kernel
theorem dX11_letters_12 : decode cX11_letters 12 = .ok (.if_icmp .ge 33, 3) := by decide +kernel
theorem dX11_letters_15 : decode cX11_letters 15 = .ok (.aload_n 0, 1) := by decide +kernel
theorem dX11_letters_16 : decode cX11_letters 16 = .ok (.getfield 49, 3) := by decide +kernel
theorem dX11_letters_19 : decode cX11_letters 19 = .ok (.getfield 169, 3) := by decide +kernel
theorem dX11_letters_22 : decode cX11_letters 22 = .ok (.iload_n 2, 1) := by decide +kernel
theorem dX11_letters_23 : decode cX11_letters 23 = .ok (.iaload, 1) := by decide +kernel
theorem dX11_letters_24 : decode cX11_letters 24 = .ok (.iconst 2, 1) := by decide +kernel
theorem dX11_letters_25 : decode cX11_letters 25 = .ok (.if_icmp .ne 14, 3) := by decide +kernel
theorem dX11_letters_28 : decode cX11_letters 28 = .ok (.iload_n 1, 1) := by decide +kernel
theorem dX11_letters_29 : decode cX11_letters 29 = .ok (.aload_n 0, 1) := by decide +kernel
theorem dX11_letters_30 : decode cX11_letters 30 = .ok (.getfield 19, 3) := by decide +kernel
theorem dX11_letters_33 : decode cX11_letters 33 = .ok (.iload_n 2, 1) := by decide +kernel
theorem dX11_letters_34 : decode cX11_letters 34 = .ok (.invokevirtual 207, 3) := by decide +kernel
theorem dX11_letters_37 : decode cX11_letters 37 = .ok (.ior, 1) := by decide +kernel
theorem dX11_letters_38 : decode cX11_letters 38 = .ok (.istore_n 1, 1) := by decide +kernel
theorem dX11_letters_39 : decode cX11_letters 39 = .ok (.iinc 2 1, 3) := by decide +kernel
theorem dX11_letters_42 : decode cX11_letters 42 = .ok (.goto (-38), 3) := by decide +kernel
theorem dX11_letters_45 : decode cX11_letters 45 = .ok (.iload_n 1, 1) := by decide +kernel
theorem dX11_letters_46 : decode cX11_letters 46 = .ok (.ireturn, 1) := by decide +kernel
theorem dX11_nearest_0 : decode cX11_nearest 0 = .ok (.aload_n 0, 1) := by decide +kernel
theorem dX11_nearest_1 : decode cX11_nearest 1 = .ok (.iload_n 1, 1) := by decide +kernel
theorem dX11_nearest_2 : decode cX11_nearest 2 = .ok (.invokevirtual 104, 3) := by decide +kernel
theorem dX11_nearest_5 : decode cX11_nearest 5 = .ok (.ifCond .eq 12, 3) := by decide +kernel
theorem dX11_nearest_8 : decode cX11_nearest 8 = .ok (.iload_n 2, 1) := by decide +kernel
theorem dX11_nearest_9 : decode cX11_nearest 9 = .ok (.ifCond .eq 10, 3) := by decide +kernel
theorem dX11_nearest_12 : decode cX11_nearest 12 = .ok (.iload_n 2, 1) := by decide +kernel
theorem dX11_nearest_13 : decode cX11_nearest 13 = .ok (.iconst 1, 1) := by decide +kernel
theorem dX11_nearest_14 : decode cX11_nearest 14 = .ok (.if_icmp .eq 5, 3) := by decide +kernel
theorem dX11_nearest_17 : decode cX11_nearest 17 = .ok (.iconst (-1), 1) := by decide +kernel
theorem dX11_nearest_18 : decode cX11_nearest 18 = .ok (.ireturn, 1) := by decide +kernel
theorem dX11_nearest_19 : decode cX11_nearest 19 = .ok (.bipush (-2), 2) := by decide +kernel
theorem dX11_nearest_21 : decode cX11_nearest 21 = .ok (.istore_n 3, 1) := by decide +kernel
theorem dX11_nearest_22 : decode cX11_nearest 22 = .ok (.bipush (-2), 2) := by decide +kernel
theorem dX11_nearest_24 : decode cX11_nearest 24 = .ok (.istore 4, 2) := by decide +kernel
theorem dX11_nearest_26 : decode cX11_nearest 26 = .ok (.iconst 0, 1) := by decide +kernel
theorem dX11_nearest_27 : decode cX11_nearest 27 = .ok (.istore 5, 2) := by decide +kernel
theorem dX11_nearest_29 : decode cX11_nearest 29 = .ok (.iload 5, 2) := by decide +kernel
theorem dX11_nearest_31 : decode cX11_nearest 31 = .ok (.aload_n 0, 1) := by decide +kernel
theorem dX11_nearest_32 : decode cX11_nearest 32 = .ok (.getfield 19, 3) := by decide +kernel
theorem dX11_nearest_35 : decode cX11_nearest 35 = .ok (.getfield 155, 3) := by decide +kernel
theorem dX11_nearest_38 : decode cX11_nearest 38 = .ok (.if_icmp .ge 59, 3) := by decide +kernel
theorem dX11_nearest_41 : decode cX11_nearest 41 = .ok (.aload_n 0, 1) := by decide +kernel
theorem dX11_nearest_42 : decode cX11_nearest 42 = .ok (.getfield 49, 3) := by decide +kernel
theorem dX11_nearest_45 : decode cX11_nearest 45 = .ok (.getfield 163, 3) := by decide +kernel
theorem dX11_nearest_48 : decode cX11_nearest 48 = .ok (.iload_n 1, 1) := by decide +kernel
theorem dX11_nearest_49 : decode cX11_nearest 49 = .ok (.iaload, 1) := by decide +kernel
theorem dX11_nearest_50 : decode cX11_nearest 50 = .ok (.aload_n 0, 1) := by decide +kernel
theorem dX11_nearest_51 : decode cX11_nearest 51 = .ok (.getfield 49, 3) := by decide +kernel
theorem dX11_nearest_54 : decode cX11_nearest 54 = .ok (.getfield 163, 3) := by decide +kernel
theorem dX11_nearest_57 : decode cX11_nearest 57 = .ok (.iload 5, 2) := by decide +kernel
theorem dX11_nearest_59 : decode cX11_nearest 59 = .ok (.iaload, 1) := by decide +kernel
theorem dX11_nearest_60 : decode cX11_nearest 60 = .ok (.invokestatic 210, 3) := by decide +kernel
theorem dX11_nearest_63 : decode cX11_nearest 63 = .ok (.istore 6, 2) := by decide +kernel
theorem dX11_nearest_65 : decode cX11_nearest 65 = .ok (.iload 5, 2) := by decide +kernel
theorem dX11_nearest_67 : decode cX11_nearest 67 = .ok (.iload_n 1, 1) := by decide +kernel
theorem dX11_nearest_68 : decode cX11_nearest 68 = .ok (.if_icmp .eq 23, 3) := by decide +kernel
theorem dX11_nearest_71 : decode cX11_nearest 71 = .ok (.iload_n 3, 1) := by decide +kernel
theorem dX11_nearest_72 : decode cX11_nearest 72 = .ok (.bipush (-2), 2) := by decide +kernel
theorem dX11_nearest_74 : decode cX11_nearest 74 = .ok (.if_icmp .eq 10, 3) := by decide +kernel
theorem dX11_nearest_77 : decode cX11_nearest 77 = .ok (.iload 6, 2) := by decide +kernel
theorem dX11_nearest_79 : decode cX11_nearest 79 = .ok (.iload 4, 2) := by decide +kernel
theorem dX11_nearest_81 : decode cX11_nearest 81 = .ok (.if_icmp .ge 10, 3) := by decide +kernel
theorem dX11_nearest_84 : decode cX11_nearest 84 = .ok (.iload 5, 2) := by decide +kernel
theorem dX11_nearest_86 : decode cX11_nearest 86 = .ok (.istore_n 3, 1) := by decide +kernel
theorem dX11_nearest_87 : decode cX11_nearest 87 = .ok (.iload 6, 2) := by decide +kernel
theorem dX11_nearest_89 : decode cX11_nearest 89 = .ok (.istore 4, 2) := by decide +kernel
theorem dX11_nearest_91 : decode cX11_nearest 91 = .ok (.iinc 5 1, 3) := by decide +kernel
theorem dX11_nearest_94 : decode cX11_nearest 94 = .ok (.goto (-65), 3) := by decide +kernel
theorem dX11_nearest_97 : decode cX11_nearest 97 = .ok (.iload_n 2, 1) := by decide +kernel
theorem dX11_nearest_98 : decode cX11_nearest 98 = .ok (.ifCond .ne 7, 3) := by decide +kernel
theorem dX11_nearest_101 : decode cX11_nearest 101 = .ok (.iload_n 3, 1) := by decide +kernel
theorem dX11_nearest_102 : decode cX11_nearest 102 = .ok (.goto 5, 3) := by decide +kernel
theorem dX11_nearest_105 : decode cX11_nearest 105 = .ok (.iload 4, 2) := by decide +kernel
theorem dX11_nearest_107 : decode cX11_nearest 107 = .ok (.ireturn, 1) := by decide +kernel
theorem dX11_strays_0 : decode cX11_strays 0 = .ok (.aload_n 0, 1) := by decide +kernel
theorem dX11_strays_1 : decode cX11_strays 1 = .ok (.iload_n 1, 1) := by decide +kernel
theorem dX11_strays_2 : decode cX11_strays 2 = .ok (.invokevirtual 104, 3) := by decide +kernel
theorem dX11_strays_5 : decode cX11_strays 5 = .ok (.ifCond .eq 10, 3) := by decide +kernel
theorem dX11_strays_8 : decode cX11_strays 8 = .ok (.iload_n 2, 1) := by decide +kernel
theorem dX11_strays_9 : decode cX11_strays 9 = .ok (.invokestatic 148, 3) := by decide +kernel
theorem dX11_strays_12 : decode cX11_strays 12 = .ok (.ifCond .ne 5, 3) := by decide +kernel
theorem dX11_strays_15 : decode cX11_strays 15 = .ok (.iconst (-1), 1) := by decide +kernel
theorem dX11_strays_16 : decode cX11_strays 16 = .ok (.ireturn, 1) := by decide +kernel
theorem dX11_strays_17 : decode cX11_strays 17 = .ok (.aload_n 0, 1) := by decide +kernel
theorem dX11_strays_18 : decode cX11_strays 18 = .ok (.getfield 56, 3) := by decide +kernel
theorem dX11_strays_21 : decode cX11_strays 21 = .ok (.aload_n 0, 1) := by decide +kernel
theorem dX11_strays_22 : decode cX11_strays 22 = .ok (.getfield 49, 3) := by decide +kernel
theorem dX11_strays_25 : decode cX11_strays 25 = .ok (.aload_n 0, 1) := by decide +kernel
theorem dX11_strays_26 : decode cX11_strays 26 = .ok (.getfield 19, 3) := by decide +kernel
theorem dX11_strays_29 : decode cX11_strays 29 = .ok (.getfield 155, 3) := by decide +kernel
theorem dX11_strays_32 : decode cX11_strays 32 = .ok (.invokevirtual 156, 3) := by decide +kernel
theorem dX11_strays_35 : decode cX11_strays 35 = .ok (.iconst 0, 1) := by decide +kernel
theorem dX11_strays_36 : decode cX11_strays 36 = .ok (.istore_n 3, 1) := by decide +kernel
theorem dX11_strays_37 : decode cX11_strays 37 = .ok (.iconst 0, 1) := by decide +kernel
theorem dX11_strays_38 : decode cX11_strays 38 = .ok (.istore 4, 2) := by decide +kernel
theorem dX11_strays_40 : decode cX11_strays 40 = .ok (.iload 4, 2) := by decide +kernel
theorem dX11_strays_42 : decode cX11_strays 42 = .ok (.iload_n 2, 1) := by decide +kernel
theorem dX11_strays_43 : decode cX11_strays 43 = .ok (.if_icmp .ge 60, 3) := by decide +kernel
theorem dX11_strays_46 : decode cX11_strays 46 = .ok (.aload_n 0, 1) := by decide +kernel
theorem dX11_strays_47 : decode cX11_strays 47 = .ok (.getfield 56, 3) := by decide +kernel
theorem dX11_strays_50 : decode cX11_strays 50 = .ok (.getfield 213, 3) := by decide +kernel
theorem dX11_strays_53 : decode cX11_strays 53 = .ok (.sipush 9999, 3) := by decide +kernel
theorem dX11_strays_56 : decode cX11_strays 56 = .ok (.if_icmp .ge 47, 3) := by decide +kernel
theorem dX11_strays_59 : decode cX11_strays 59 = .ok (.aload_n 0, 1) := by decide +kernel
theorem dX11_strays_60 : decode cX11_strays 60 = .ok (.getfield 64, 3) := by decide +kernel
theorem dX11_strays_63 : decode cX11_strays 63 = .ok (.aload_n 0, 1) := by decide +kernel
theorem dX11_strays_64 : decode cX11_strays 64 = .ok (.getfield 56, 3) := by decide +kernel
theorem dX11_strays_67 : decode cX11_strays 67 = .ok (.invokevirtual 203, 3) := by decide +kernel
theorem dX11_strays_70 : decode cX11_strays 70 = .ok (.pop, 1) := by decide +kernel
theorem dX11_strays_71 : decode cX11_strays 71 = .ok (.iload_n 3, 1) := by decide +kernel
theorem dX11_strays_72 : decode cX11_strays 72 = .ok (.aload_n 0, 1) := by decide +kernel
theorem dX11_strays_73 : decode cX11_strays 73 = .ok (.getfield 19, 3) := by decide +kernel
theorem dX11_strays_76 : decode cX11_strays 76 = .ok (.getfield 172, 3) := by decide +kernel
theorem dX11_strays_79 : decode cX11_strays 79 = .ok (.iload_n 1, 1) := by decide +kernel
theorem dX11_strays_80 : decode cX11_strays 80 = .ok (.iaload, 1) := by decide +kernel
theorem dX11_strays_81 : decode cX11_strays 81 = .ok (.aload_n 0, 1) := by decide +kernel
theorem dX11_strays_82 : decode cX11_strays 82 = .ok (.getfield 56, 3) := by decide +kernel
theorem dX11_strays_85 : decode cX11_strays 85 = .ok (.getfield 163, 3) := by decide +kernel
theorem dX11_strays_88 : decode cX11_strays 88 = .ok (.iload_n 1, 1) := by decide +kernel
theorem dX11_strays_89 : decode cX11_strays 89 = .ok (.iaload, 1) := by decide +kernel
theorem dX11_strays_90 : decode cX11_strays 90 = .ok (.invokestatic 210, 3) := by decide +kernel
theorem dX11_strays_93 : decode cX11_strays 93 = .ok (.invokestatic 215, 3) := by decide +kernel
theorem dX11_strays_96 : decode cX11_strays 96 = .ok (.istore_n 3, 1) := by decide +kernel
theorem dX11_strays_97 : decode cX11_strays 97 = .ok (.iinc 4 1, 3) := by decide +kernel
theorem dX11_strays_100 : decode cX11_strays 100 = .ok (.goto (-60), 3) := by decide +kernel
theorem dX11_strays_103 : decode cX11_strays 103 = .ok (.iload_n 3, 1) := by decide +kernel
theorem dX11_strays_104 : decode cX11_strays 104 = .ok (.ireturn, 1) := by decide +kernel
theorem dX11_dates_0 : decode cX11_dates 0 = .ok (.iload_n 1, 1) := by decide +kernel
theorem dX11_dates_1 : decode cX11_dates 1 = .ok (.ifCond .lt 8, 3) := by decide +kernel
theorem dX11_dates_4 : decode cX11_dates 4 = .ok (.iload_n 1, 1) := by decide +kernel
theorem dX11_dates_5 : decode cX11_dates 5 = .ok (.iconst 2, 1) := by decide +kernel
theorem dX11_dates_6 : decode cX11_dates 6 = .ok (.if_icmp .le 5, 3) := by decide +kernel
theorem dX11_dates_9 : decode cX11_dates 9 = .ok (.iconst (-1), 1) := by decide +kernel
theorem dX11_dates_10 : decode cX11_dates 10 = .ok (.ireturn, 1) := by decide +kernel
theorem dX11_dates_11 : decode cX11_dates 11 = .ok (.iconst 0, 1) := by decide +kernel
theorem dX11_dates_12 : decode cX11_dates 12 = .ok (.istore_n 2, 1) := by decide +kernel
theorem dX11_dates_13 : decode cX11_dates 13 = .ok (.bipush (-2), 2) := by decide +kernel
theorem dX11_dates_15 : decode cX11_dates 15 = .ok (.istore_n 3, 1) := by decide +kernel
theorem dX11_dates_16 : decode cX11_dates 16 = .ok (.bipush (-2), 2) := by decide +kernel
theorem dX11_dates_18 : decode cX11_dates 18 = .ok (.istore 4, 2) := by decide +kernel
theorem dX11_dates_20 : decode cX11_dates 20 = .ok (.iconst 0, 1) := by decide +kernel
theorem dX11_dates_21 : decode cX11_dates 21 = .ok (.istore 5, 2) := by decide +kernel
theorem dX11_dates_23 : decode cX11_dates 23 = .ok (.iload 5, 2) := by decide +kernel
theorem dX11_dates_25 : decode cX11_dates 25 = .ok (.aload_n 0, 1) := by decide +kernel
theorem dX11_dates_26 : decode cX11_dates 26 = .ok (.getfield 19, 3) := by decide +kernel
theorem dX11_dates_29 : decode cX11_dates 29 = .ok (.getfield 155, 3) := by decide +kernel
theorem dX11_dates_32 : decode cX11_dates 32 = .ok (.if_icmp .ge 58, 3) := by decide +kernel
theorem dX11_dates_35 : decode cX11_dates 35 = .ok (.aload_n 0, 1) := by decide +kernel
theorem dX11_dates_36 : decode cX11_dates 36 = .ok (.getfield 19, 3) := by decide +kernel
theorem dX11_dates_39 : decode cX11_dates 39 = .ok (.getfield 190, 3) := by decide +kernel
theorem dX11_dates_42 : decode cX11_dates 42 = .ok (.iload 5, 2) := by decide +kernel
theorem dX11_dates_44 : decode cX11_dates 44 = .ok (.iaload, 1) := by decide +kernel
theorem dX11_dates_45 : decode cX11_dates 45 = .ok (.istore 6, 2) := by decide +kernel
theorem dX11_dates_47 : decode cX11_dates 47 = .ok (.iload 6, 2) := by decide +kernel
theorem dX11_dates_49 : decode cX11_dates 49 = .ok (.bipush (-2), 2) := by decide +kernel
theorem dX11_dates_51 : decode cX11_dates 51 = .ok (.if_icmp .eq 33, 3) := by decide +kernel
theorem dX11_dates_54 : decode cX11_dates 54 = .ok (.iinc 2 1, 3) := by decide +kernel
theorem dX11_dates_57 : decode cX11_dates 57 = .ok (.iload_n 3, 1) := by decide +kernel
theorem dX11_dates_58 : decode cX11_dates 58 = .ok (.bipush (-2), 2) := by decide +kernel
theorem dX11_dates_60 : decode cX11_dates 60 = .ok (.if_icmp .ne 8, 3) := by decide +kernel
theorem dX11_dates_63 : decode cX11_dates 63 = .ok (.iload 6, 2) := by decide +kernel
theorem dX11_dates_65 : decode cX11_dates 65 = .ok (.goto 9, 3) := by decide +kernel
theorem dX11_dates_68 : decode cX11_dates 68 = .ok (.iload_n 3, 1) := by decide +kernel
theorem dX11_dates_69 : decode cX11_dates 69 = .ok (.iload 6, 2) := by decide +kernel
theorem dX11_dates_71 : decode cX11_dates 71 = .ok (.invokestatic 220, 3) := by decide +kernel
theorem dX11_dates_74 : decode cX11_dates 74 = .ok (.istore_n 3, 1) := by decide +kernel
theorem dX11_dates_75 : decode cX11_dates 75 = .ok (.iload 4, 2) := by decide +kernel
theorem dX11_dates_77 : decode cX11_dates 77 = .ok (.iload 6, 2) := by decide +kernel
theorem dX11_dates_79 : decode cX11_dates 79 = .ok (.invokestatic 215, 3) := by decide +kernel
theorem dX11_dates_82 : decode cX11_dates 82 = .ok (.istore 4, 2) := by decide +kernel
theorem dX11_dates_84 : decode cX11_dates 84 = .ok (.iinc 5 1, 3) := by decide +kernel
theorem dX11_dates_87 : decode cX11_dates 87 = .ok (.goto (-64), 3) := by decide +kernel
theorem dX11_dates_90 : decode cX11_dates 90 = .ok (.iload_n 1, 1) := by decide +kernel
theorem dX11_dates_91 : decode cX11_dates 91 = .ok (.ifCond .ne 5, 3) := by decide +kernel
theorem dX11_dates_94 : decode cX11_dates 94 = .ok (.iload_n 2, 1) := by decide +kernel
theorem dX11_dates_95 : decode cX11_dates 95 = .ok (.ireturn, 1) := by decide +kernel
theorem dX11_dates_96 : decode cX11_dates 96 = .ok (.iload_n 1, 1) := by decide +kernel
theorem dX11_dates_97 : decode cX11_dates 97 = .ok (.iconst 1, 1) := by decide +kernel
theorem dX11_dates_98 : decode cX11_dates 98 = .ok (.if_icmp .ne 7, 3) := by decide +kernel
theorem dX11_dates_101 : decode cX11_dates 101 = .ok (.iload_n 3, 1) := by decide +kernel
theorem dX11_dates_102 : decode cX11_dates 102 = .ok (.goto 5, 3) := by decide +kernel
theorem dX11_dates_105 : decode cX11_dates 105 = .ok (.iload 4, 2) := by decide +kernel
theorem dX11_dates_107 : decode cX11_dates 107 = .ok (.ireturn, 1) := by decide +kernel
theorem dX11_busiest_0 : decode cX11_busiest 0 = .ok (.iload_n 1, 1) := by decide +kernel
theorem dX11_busiest_1 : decode cX11_busiest 1 = .ok (.ifCond .eq 10, 3) := by decide +kernel
theorem dX11_busiest_4 : decode cX11_busiest 4 = .ok (.iload_n 1, 1) := by decide +kernel
theorem dX11_busiest_5 : decode cX11_busiest 5 = .ok (.iconst 1, 1) := by decide +kernel
theorem dX11_busiest_6 : decode cX11_busiest 6 = .ok (.if_icmp .eq 5, 3) := by decide +kernel
theorem dX11_busiest_9 : decode cX11_busiest 9 = .ok (.iconst (-1), 1) := by decide +kernel
theorem dX11_busiest_10 : decode cX11_busiest 10 = .ok (.ireturn, 1) := by decide +kernel
theorem dX11_busiest_11 : decode cX11_busiest 11 = .ok (.bipush (-2), 2) := by decide +kernel
theorem dX11_busiest_13 : decode cX11_busiest 13 = .ok (.istore_n 2, 1) := by decide +kernel
theorem dX11_busiest_14 : decode cX11_busiest 14 = .ok (.iconst 0, 1) := by decide +kernel
theorem dX11_busiest_15 : decode cX11_busiest 15 = .ok (.istore_n 3, 1) := by decide +kernel
theorem dX11_busiest_16 : decode cX11_busiest 16 = .ok (.iconst 0, 1) := by decide +kernel
theorem dX11_busiest_17 : decode cX11_busiest 17 = .ok (.istore 4, 2) := by decide +kernel
theorem dX11_busiest_19 : decode cX11_busiest 19 = .ok (.iload 4, 2) := by decide +kernel
theorem dX11_busiest_21 : decode cX11_busiest 21 = .ok (.aload_n 0, 1) := by decide +kernel
theorem dX11_busiest_22 : decode cX11_busiest 22 = .ok (.getfield 19, 3) := by decide +kernel
theorem dX11_busiest_25 : decode cX11_busiest 25 = .ok (.getfield 155, 3) := by decide +kernel
theorem dX11_busiest_28 : decode cX11_busiest 28 = .ok (.if_icmp .ge 56, 3) := by decide +kernel
theorem dX11_busiest_31 : decode cX11_busiest 31 = .ok (.aload_n 0, 1) := by decide +kernel
theorem dX11_busiest_32 : decode cX11_busiest 32 = .ok (.getfield 19, 3) := by decide +kernel
theorem dX11_busiest_35 : decode cX11_busiest 35 = .ok (.getfield 114, 3) := by decide +kernel
theorem dX11_busiest_38 : decode cX11_busiest 38 = .ok (.iload 4, 2) := by decide +kernel
theorem dX11_busiest_40 : decode cX11_busiest 40 = .ok (.iaload, 1) := by decide +kernel
theorem dX11_busiest_41 : decode cX11_busiest 41 = .ok (.istore 5, 2) := by decide +kernel
theorem dX11_busiest_43 : decode cX11_busiest 43 = .ok (.aload_n 0, 1) := by decide +kernel
theorem dX11_busiest_44 : decode cX11_busiest 44 = .ok (.getfield 19, 3) := by decide +kernel
theorem dX11_busiest_47 : decode cX11_busiest 47 = .ok (.iload 5, 2) := by decide +kernel
theorem dX11_busiest_49 : decode cX11_busiest 49 = .ok (.invokevirtual 223, 3) := by decide +kernel
theorem dX11_busiest_52 : decode cX11_busiest 52 = .ok (.istore 6, 2) := by decide +kernel
theorem dX11_busiest_54 : decode cX11_busiest 54 = .ok (.iload 6, 2) := by decide +kernel
theorem dX11_busiest_56 : decode cX11_busiest 56 = .ok (.iload_n 3, 1) := by decide +kernel
theorem dX11_busiest_57 : decode cX11_busiest 57 = .ok (.if_icmp .gt 15, 3) := by decide +kernel
theorem dX11_busiest_60 : decode cX11_busiest 60 = .ok (.iload 6, 2) := by decide +kernel
theorem dX11_busiest_62 : decode cX11_busiest 62 = .ok (.iload_n 3, 1) := by decide +kernel
theorem dX11_busiest_63 : decode cX11_busiest 63 = .ok (.if_icmp .ne 15, 3) := by decide +kernel
theorem dX11_busiest_66 : decode cX11_busiest 66 = .ok (.iload 5, 2) := by decide +kernel
theorem dX11_busiest_68 : decode cX11_busiest 68 = .ok (.iload_n 2, 1) := by decide +kernel
theorem dX11_busiest_69 : decode cX11_busiest 69 = .ok (.if_icmp .ge 9, 3) := by decide +kernel
theorem dX11_busiest_72 : decode cX11_busiest 72 = .ok (.iload 5, 2) := by decide +kernel
theorem dX11_busiest_74 : decode cX11_busiest 74 = .ok (.istore_n 2, 1) := by decide +kernel
theorem dX11_busiest_75 : decode cX11_busiest 75 = .ok (.iload 6, 2) := by decide +kernel
theorem dX11_busiest_77 : decode cX11_busiest 77 = .ok (.istore_n 3, 1) := by decide +kernel
theorem dX11_busiest_78 : decode cX11_busiest 78 = .ok (.iinc 4 1, 3) := by decide +kernel
theorem dX11_busiest_81 : decode cX11_busiest 81 = .ok (.goto (-62), 3) := by decide +kernel
theorem dX11_busiest_84 : decode cX11_busiest 84 = .ok (.iload_n 1, 1) := by decide +kernel
theorem dX11_busiest_85 : decode cX11_busiest 85 = .ok (.ifCond .ne 7, 3) := by decide +kernel
theorem dX11_busiest_88 : decode cX11_busiest 88 = .ok (.iload_n 2, 1) := by decide +kernel
theorem dX11_busiest_89 : decode cX11_busiest 89 = .ok (.goto 4, 3) := by decide +kernel
