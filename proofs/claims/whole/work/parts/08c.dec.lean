/-! what stands at each place of the methods -/
theorem dX8_in_0 : decode cX8_in 0 = .ok (.lload_n 0, 1) := by decide +kernel
theorem dX8_in_1 : decode cX8_in 1 = .ok (.lload_n 2, 1) := by decide +kernel
theorem dX8_in_2 : decode cX8_in 2 = .ok (.lcmp, 1) := by decide +kernel
theorem dX8_in_3 : decode cX8_in 3 = .ok (.ifCond .lt 14, 3) := by decide +kernel
theorem dX8_in_6 : decode cX8_in 6 = .ok (.lload_n 0, 1) := by decide +kernel
theorem dX8_in_7 : decode cX8_in 7 = .ok (.lload 4, 2) := by decide +kernel
theorem dX8_in_9 : decode cX8_in 9 = .ok (.lcmp, 1) := by decide +kernel
theorem dX8_in_10 : decode cX8_in 10 = .ok (.ifCond .gt 7, 3) := by decide +kernel
theorem dX8_in_13 : decode cX8_in 13 = .ok (.iconst 1, 1) := by decide +kernel
theorem dX8_in_14 : decode cX8_in 14 = .ok (.goto 4, 3) := by decide +kernel
theorem dX8_in_17 : decode cX8_in 17 = .ok (.iconst 0, 1) := by decide +kernel
theorem dX8_in_18 : decode cX8_in 18 = .ok (.ireturn, 1) := by decide +kernel
theorem dX8_bits_0 : decode cX8_bits 0 = .ok (.iconst 0, 1) := by decide +kernel
theorem dX8_bits_1 : decode cX8_bits 1 = .ok (.istore_n 1, 1) := by decide +kernel
theorem dX8_bits_2 : decode cX8_bits 2 = .ok (.iconst 0, 1) := by decide +kernel
theorem dX8_bits_3 : decode cX8_bits 3 = .ok (.istore_n 2, 1) := by decide +kernel
theorem dX8_bits_4 : decode cX8_bits 4 = .ok (.iload_n 2, 1) := by decide +kernel
theorem dX8_bits_5 : decode cX8_bits 5 = .ok (.bipush 16, 2) := by decide +kernel
theorem dX8_bits_7 : decode cX8_bits 7 = .ok (.if_icmp .ge 17, 3) := by decide +kernel
theorem dX8_bits_10 : decode cX8_bits 10 = .ok (.iload_n 1, 1) := by decide +kernel
theorem dX8_bits_11 : decode cX8_bits 11 = .ok (.iload_n 0, 1) := by decide +kernel
theorem dX8_bits_12 : decode cX8_bits 12 = .ok (.iload_n 2, 1) := by decide +kernel
theorem dX8_bits_13 : decode cX8_bits 13 = .ok (.ishr, 1) := by decide +kernel
theorem dX8_bits_14 : decode cX8_bits 14 = .ok (.iconst 1, 1) := by decide +kernel
theorem dX8_bits_15 : decode cX8_bits 15 = .ok (.iand, 1) := by decide +kernel
theorem dX8_bits_16 : decode cX8_bits 16 = .ok (.iadd, 1) := by decide +kernel
theorem dX8_bits_17 : decode cX8_bits 17 = .ok (.istore_n 1, 1) := by decide +kernel
theorem dX8_bits_18 : decode cX8_bits 18 = .ok (.iinc 2 1, 3) := by decide +kernel
theorem dX8_bits_21 : decode cX8_bits 21 = .ok (.goto (-17), 3) := by decide +kernel
theorem dX8_bits_24 : decode cX8_bits 24 = .ok (.iload_n 1, 1) := by decide +kernel
theorem dX8_bits_25 : decode cX8_bits 25 = .ok (.ireturn, 1) := by decide +kernel
theorem dX8_has_0 : decode cX8_has 0 = .ok (.iload_n 0, 1) := by decide +kernel
theorem dX8_has_1 : decode cX8_has 1 = .ok (.iload_n 1, 1) := by decide +kernel
theorem dX8_has_2 : decode cX8_has 2 = .ok (.ishr, 1) := by decide +kernel
theorem dX8_has_3 : decode cX8_has 3 = .ok (.iconst 1, 1) := by decide +kernel
theorem dX8_has_4 : decode cX8_has 4 = .ok (.iand, 1) := by decide +kernel
theorem dX8_has_5 : decode cX8_has 5 = .ok (.iconst 1, 1) := by decide +kernel
theorem dX8_has_6 : decode cX8_has 6 = .ok (.if_icmp .ne 7, 3) := by decide +kernel
theorem dX8_has_9 : decode cX8_has 9 = .ok (.iconst 1, 1) := by decide +kernel
theorem dX8_has_10 : decode cX8_has 10 = .ok (.goto 4, 3) := by decide +kernel
theorem dX8_has_13 : decode cX8_has 13 = .ok (.iconst 0, 1) := by decide +kernel
theorem dX8_has_14 : decode cX8_has 14 = .ok (.ireturn, 1) := by decide +kernel
theorem dX8_isRoom_0 : decode cX8_isRoom 0 = .ok (.aload_n 0, 1) := by decide +kernel
theorem dX8_isRoom_1 : decode cX8_isRoom 1 = .ok (.getfield 9, 3) := by decide +kernel
theorem dX8_isRoom_4 : decode cX8_isRoom 4 = .ok (.iconst 0, 1) := by decide +kernel
theorem dX8_isRoom_5 : decode cX8_isRoom 5 = .ok (.iaload, 1) := by decide +kernel
theorem dX8_isRoom_6 : decode cX8_isRoom 6 = .ok (.ifCond .le 7, 3) := by decide +kernel
theorem dX8_isRoom_9 : decode cX8_isRoom 9 = .ok (.iconst 1, 1) := by decide +kernel
theorem dX8_isRoom_10 : decode cX8_isRoom 10 = .ok (.goto 4, 3) := by decide +kernel
theorem dX8_isRoom_13 : decode cX8_isRoom 13 = .ok (.iconst 0, 1) := by decide +kernel
theorem dX8_isRoom_14 : decode cX8_isRoom 14 = .ok (.ireturn, 1) := by decide +kernel
theorem dX8_isThing_0 : decode cX8_isThing 0 = .ok (.iload_n 1, 1) := by decide +kernel
theorem dX8_isThing_1 : decode cX8_isThing 1 = .ok (.i2l, 1) := by decide +kernel
theorem dX8_isThing_2 : decode cX8_isThing 2 = .ok (.lconst 0, 1) := by decide +kernel
theorem dX8_isThing_3 : decode cX8_isThing 3 = .ok (.aload_n 0, 1) := by decide +kernel
theorem dX8_isThing_4 : decode cX8_isThing 4 = .ok (.getfield 9, 3) := by decide +kernel
theorem dX8_isThing_7 : decode cX8_isThing 7 = .ok (.iconst 1, 1) := by decide +kernel
theorem dX8_isThing_8 : decode cX8_isThing 8 = .ok (.iaload, 1) := by decide +kernel
theorem dX8_isThing_9 : decode cX8_isThing 9 = .ok (.iconst 1, 1) := by decide +kernel
theorem dX8_isThing_10 : decode cX8_isThing 10 = .ok (.isub, 1) := by decide +kernel
theorem dX8_isThing_11 : decode cX8_isThing 11 = .ok (.i2l, 1) := by decide +kernel
theorem dX8_isThing_12 : decode cX8_isThing 12 = .ok (.invokestatic 161, 3) := by decide +kernel
theorem dX8_isThing_15 : decode cX8_isThing 15 = .ok (.ireturn, 1) := by decide +kernel
theorem dX8_isCat_0 : decode cX8_isCat 0 = .ok (.iload_n 1, 1) := by decide +kernel
theorem dX8_isCat_1 : decode cX8_isCat 1 = .ok (.i2l, 1) := by decide +kernel
theorem dX8_isCat_2 : decode cX8_isCat 2 = .ok (.lconst 0, 1) := by decide +kernel
theorem dX8_isCat_3 : decode cX8_isCat 3 = .ok (.aload_n 0, 1) := by decide +kernel
theorem dX8_isCat_4 : decode cX8_isCat 4 = .ok (.getfield 9, 3) := by decide +kernel
theorem dX8_isCat_7 : decode cX8_isCat 7 = .ok (.iconst 2, 1) := by decide +kernel
theorem dX8_isCat_8 : decode cX8_isCat 8 = .ok (.iaload, 1) := by decide +kernel
theorem dX8_isCat_9 : decode cX8_isCat 9 = .ok (.iconst 1, 1) := by decide +kernel
theorem dX8_isCat_10 : decode cX8_isCat 10 = .ok (.isub, 1) := by decide +kernel
theorem dX8_isCat_11 : decode cX8_isCat 11 = .ok (.i2l, 1) := by decide +kernel
theorem dX8_isCat_12 : decode cX8_isCat 12 = .ok (.invokestatic 161, 3) := by decide +kernel
theorem dX8_isCat_15 : decode cX8_isCat 15 = .ok (.ireturn, 1) := by decide +kernel
theorem dX8_isNeed_0 : decode cX8_isNeed 0 = .ok (.iload_n 1, 1) := by decide +kernel
theorem dX8_isNeed_1 : decode cX8_isNeed 1 = .ok (.i2l, 1) := by decide +kernel
theorem dX8_isNeed_2 : decode cX8_isNeed 2 = .ok (.lconst 0, 1) := by decide +kernel
theorem dX8_isNeed_3 : decode cX8_isNeed 3 = .ok (.aload_n 0, 1) := by decide +kernel
theorem dX8_isNeed_4 : decode cX8_isNeed 4 = .ok (.getfield 9, 3) := by decide +kernel
theorem dX8_isNeed_7 : decode cX8_isNeed 7 = .ok (.iconst 3, 1) := by decide +kernel
theorem dX8_isNeed_8 : decode cX8_isNeed 8 = .ok (.iaload, 1) := by decide +kernel
theorem dX8_isNeed_9 : decode cX8_isNeed 9 = .ok (.iconst 1, 1) := by decide +kernel
theorem dX8_isNeed_10 : decode cX8_isNeed 10 = .ok (.isub, 1) := by decide +kernel
theorem dX8_isNeed_11 : decode cX8_isNeed 11 = .ok (.i2l, 1) := by decide +kernel
theorem dX8_isNeed_12 : decode cX8_isNeed 12 = .ok (.invokestatic 161, 3) := by decide +kernel
theorem dX8_isNeed_15 : decode cX8_isNeed 15 = .ok (.ireturn, 1) := by decide +kernel
theorem dX8_feed_0 : decode cX8_feed 0 = .ok (.aload_n 0, 1) := by decide +kernel
theorem dX8_feed_1 : decode cX8_feed 1 = .ok (.getfield 165, 3) := by decide +kernel
theorem dX8_feed_4 : decode cX8_feed 4 = .ok (.bipush 20, 2) := by decide +kernel
theorem dX8_feed_6 : decode cX8_feed 6 = .ok (.iadd, 1) := by decide +kernel
theorem dX8_feed_7 : decode cX8_feed 7 = .ok (.sipush 400, 3) := by decide +kernel
theorem dX8_feed_10 : decode cX8_feed 10 = .ok (.if_icmp .le 5, 3) := by decide +kernel
theorem dX8_feed_13 : decode cX8_feed 13 = .ok (.iconst (-1), 1) := by decide +kernel
theorem dX8_feed_14 : decode cX8_feed 14 = .ok (.ireturn, 1) := by decide +kernel
theorem dX8_feed_15 : decode cX8_feed 15 = .ok (.aload_n 0, 1) := by decide +kernel
theorem dX8_feed_16 : decode cX8_feed 16 = .ok (.iload_n 1, 1) := by decide +kernel
theorem dX8_feed_17 : decode cX8_feed 17 = .ok (.invokevirtual 168, 3) := by decide +kernel
theorem dX8_feed_20 : decode cX8_feed 20 = .ok (.aload_n 0, 1) := by decide +kernel
theorem dX8_feed_21 : decode cX8_feed 21 = .ok (.iload_n 2, 1) := by decide +kernel
theorem dX8_feed_22 : decode cX8_feed 22 = .ok (.invokevirtual 168, 3) := by decide +kernel
theorem dX8_feed_25 : decode cX8_feed 25 = .ok (.aload_n 0, 1) := by decide +kernel
theorem dX8_feed_26 : decode cX8_feed 26 = .ok (.iload_n 3, 1) := by decide +kernel
theorem dX8_feed_27 : decode cX8_feed 27 = .ok (.invokevirtual 168, 3) := by decide +kernel
theorem dX8_feed_30 : decode cX8_feed 30 = .ok (.aload_n 0, 1) := by decide +kernel
theorem dX8_feed_31 : decode cX8_feed 31 = .ok (.iload 4, 2) := by decide +kernel
theorem dX8_feed_33 : decode cX8_feed 33 = .ok (.invokevirtual 168, 3) := by decide +kernel
theorem dX8_feed_36 : decode cX8_feed 36 = .ok (.aload_n 0, 1) := by decide +kernel
theorem dX8_feed_37 : decode cX8_feed 37 = .ok (.iload 5, 2) := by decide +kernel
theorem dX8_feed_39 : decode cX8_feed 39 = .ok (.invokevirtual 168, 3) := by decide +kernel
theorem dX8_feed_42 : decode cX8_feed 42 = .ok (.aload_n 0, 1) := by decide +kernel
theorem dX8_feed_43 : decode cX8_feed 43 = .ok (.getfield 165, 3) := by decide +kernel
theorem dX8_feed_46 : decode cX8_feed 46 = .ok (.ireturn, 1) := by decide +kernel
theorem dX8_put_0 : decode cX8_put 0 = .ok (.bipush 24, 2) := by decide +kernel
theorem dX8_put_2 : decode cX8_put 2 = .ok (.istore_n 2, 1) := by decide +kernel
theorem dX8_put_3 : decode cX8_put 3 = .ok (.iload_n 2, 1) := by decide +kernel
theorem dX8_put_4 : decode cX8_put 4 = .ok (.ifCond .lt 32, 3) := by decide +kernel
theorem dX8_put_7 : decode cX8_put 7 = .ok (.aload_n 0, 1) := by decide +kernel
theorem dX8_put_8 : decode cX8_put 8 = .ok (.getfield 95, 3) := by decide +kernel
theorem dX8_put_11 : decode cX8_put 11 = .ok (.aload_n 0, 1) := by decide +kernel
theorem dX8_put_12 : decode cX8_put 12 = .ok (.getfield 165, 3) := by decide +kernel
theorem dX8_put_15 : decode cX8_put 15 = .ok (.iload_n 1, 1) := by decide +kernel
theorem dX8_put_16 : decode cX8_put 16 = .ok (.iload_n 2, 1) := by decide +kernel
theorem dX8_put_17 : decode cX8_put 17 = .ok (.ishr, 1) := by decide +kernel
theorem dX8_put_18 : decode cX8_put 18 = .ok (.i2b, 1) := by decide +kernel
theorem dX8_put_19 : decode cX8_put 19 = .ok (.bastore, 1) := by decide +kernel
theorem dX8_put_20 : decode cX8_put 20 = .ok (.aload_n 0, 1) := by decide +kernel
theorem dX8_put_21 : decode cX8_put 21 = .ok (.dup, 1) := by decide +kernel
theorem dX8_put_22 : decode cX8_put 22 = .ok (.getfield 165, 3) := by decide +kernel
theorem dX8_put_25 : decode cX8_put 25 = .ok (.iconst 1, 1) := by decide +kernel
theorem dX8_put_26 : decode cX8_put 26 = .ok (.iadd, 1) := by decide +kernel
theorem dX8_put_27 : decode cX8_put 27 = .ok (.putfield 165, 3) := by decide +kernel
theorem dX8_put_30 : decode cX8_put 30 = .ok (.iinc 2 (-8), 3) := by decide +kernel
theorem dX8_put_33 : decode cX8_put 33 = .ok (.goto (-30), 3) := by decide +kernel
theorem dX8_put_36 : decode cX8_put 36 = .ok (.return_, 1) := by decide +kernel
theorem dX8_end_0 : decode cX8_end 0 = .ok (.iload_n 1, 1) := by decide +kernel
theorem dX8_end_1 : decode cX8_end 1 = .ok (.ifCond .lt 11, 3) := by decide +kernel
theorem dX8_end_4 : decode cX8_end 4 = .ok (.iload_n 1, 1) := by decide +kernel
theorem dX8_end_5 : decode cX8_end 5 = .ok (.aload_n 0, 1) := by decide +kernel
theorem dX8_end_6 : decode cX8_end 6 = .ok (.getfield 165, 3) := by decide +kernel
theorem dX8_end_9 : decode cX8_end 9 = .ok (.if_icmp .le 5, 3) := by decide +kernel
theorem dX8_end_12 : decode cX8_end 12 = .ok (.iconst (-1), 1) := by decide +kernel
theorem dX8_end_13 : decode cX8_end 13 = .ok (.ireturn, 1) := by decide +kernel
theorem dX8_end_14 : decode cX8_end 14 = .ok (.aload_n 0, 1) := by decide +kernel
theorem dX8_end_15 : decode cX8_end 15 = .ok (.iload_n 1, 1) := by decide +kernel
theorem dX8_end_16 : decode cX8_end 16 = .ok (.putfield 165, 3) := by decide +kernel
theorem dX8_end_19 : decode cX8_end 19 = .ok (.iload_n 1, 1) := by decide +kernel
theorem dX8_end_20 : decode cX8_end 20 = .ok (.ireturn, 1) := by decide +kernel
theorem dX8_wordOf_0 : decode cX8_wordOf 0 = .ok (.iload_n 0, 1) := by decide +kernel
theorem dX8_wordOf_1 : decode cX8_wordOf 1 = .ok (.tableswitch 85 0 9 #[55, 58, 61, 64, 67, 70, 73, 76, 79, 82], 55) := by decide +kernel
theorem dX8_wordOf_56 : decode cX8_wordOf 56 = .ok (.ldc 172, 2) := by decide +kernel
theorem dX8_wordOf_58 : decode cX8_wordOf 58 = .ok (.areturn, 1) := by decide +kernel
theorem dX8_wordOf_59 : decode cX8_wordOf 59 = .ok (.ldc 174, 2) := by decide +kernel
theorem dX8_wordOf_61 : decode cX8_wordOf 61 = .ok (.areturn, 1) := by decide +kernel
theorem dX8_wordOf_62 : decode cX8_wordOf 62 = .ok (.ldc 176, 2) := by decide +kernel
theorem dX8_wordOf_64 : decode cX8_wordOf 64 = .ok (.areturn, 1) := by decide +kernel
theorem dX8_wordOf_65 : decode cX8_wordOf 65 = .ok (.ldc 178, 2) := by decide +kernel
theorem dX8_wordOf_67 : decode cX8_wordOf 67 = .ok (.areturn, 1) := by decide +kernel
theorem dX8_wordOf_68 : decode cX8_wordOf 68 = .ok (.ldc 180, 2) := by decide +kernel
theorem dX8_wordOf_70 : decode cX8_wordOf 70 = .ok (.areturn, 1) := by decide +kernel
theorem dX8_wordOf_71 : decode cX8_wordOf 71 = .ok (.ldc 181, 2) := by decide +kernel
theorem dX8_wordOf_73 : decode cX8_wordOf 73 = .ok (.areturn, 1) := by decide +kernel
theorem dX8_wordOf_74 : decode cX8_wordOf 74 = .ok (.ldc 182, 2) := by decide +kernel
theorem dX8_wordOf_76 : decode cX8_wordOf 76 = .ok (.areturn, 1) := by decide +kernel
theorem dX8_wordOf_77 : decode cX8_wordOf 77 = .ok (.ldc 183, 2) := by decide +kernel
theorem dX8_wordOf_79 : decode cX8_wordOf 79 = .ok (.areturn, 1) := by decide +kernel
theorem dX8_wordOf_80 : decode cX8_wordOf 80 = .ok (.ldc 184, 2) := by decide +kernel
theorem dX8_wordOf_82 : decode cX8_wordOf 82 = .ok (.areturn, 1) := by decide +kernel
theorem dX8_wordOf_83 : decode cX8_wordOf 83 = .ok (.ldc 185, 2) := by decide +kernel
theorem dX8_wordOf_85 : decode cX8_wordOf 85 = .ok (.areturn, 1) := by decide +kernel
theorem dX8_wordOf_86 : decode cX8_wordOf 86 = .ok (.ldc 186, 2) := by decide +kernel
theorem dX8_wordOf_88 : decode cX8_wordOf 88 = .ok (.areturn, 1) := by decide +kernel
theorem dX8_fails_0 : decode cX8_fails 0 = .ok (.aload_n 0, 1) := by decide +kernel
theorem dX8_fails_1 : decode cX8_fails 1 = .ok (.aload_n 0, 1) := by decide +kernel
theorem dX8_fails_2 : decode cX8_fails 2 = .ok (.getfield 188, 3) := by decide +kernel
theorem dX8_fails_5 : decode cX8_fails 5 = .ok (.ifCond .ne 14, 3) := by decide +kernel
theorem dX8_fails_8 : decode cX8_fails 8 = .ok (.iconst 1, 1) := by decide +kernel
theorem dX8_fails_9 : decode cX8_fails 9 = .ok (.bipush 8, 2) := by decide +kernel
theorem dX8_fails_11 : decode cX8_fails 11 = .ok (.iload_n 2, 1) := by decide +kernel
theorem dX8_fails_12 : decode cX8_fails 12 = .ok (.imul, 1) := by decide +kernel
theorem dX8_fails_13 : decode cX8_fails 13 = .ok (.iadd, 1) := by decide +kernel
theorem dX8_fails_14 : decode cX8_fails 14 = .ok (.iload_n 1, 1) := by decide +kernel
theorem dX8_fails_15 : decode cX8_fails 15 = .ok (.iadd, 1) := by decide +kernel
theorem dX8_fails_16 : decode cX8_fails 16 = .ok (.goto 7, 3) := by decide +kernel
theorem dX8_fails_19 : decode cX8_fails 19 = .ok (.aload_n 0, 1) := by decide +kernel
theorem dX8_fails_20 : decode cX8_fails 20 = .ok (.getfield 188, 3) := by decide +kernel
theorem dX8_fails_23 : decode cX8_fails 23 = .ok (.putfield 188, 3) := by decide +kernel
theorem dX8_fails_26 : decode cX8_fails 26 = .ok (.return_, 1) := by decide +kernel
theorem dX8_sign_0 : decode cX8_sign 0 = .ok (.aload_n 0, 1) := by decide +kernel
theorem dX8_sign_1 : decode cX8_sign 1 = .ok (.getfield 191, 3) := by decide +kernel
theorem dX8_sign_4 : decode cX8_sign 4 = .ok (.aload_n 0, 1) := by decide +kernel
theorem dX8_sign_5 : decode cX8_sign 5 = .ok (.getfield 165, 3) := by decide +kernel
theorem dX8_sign_8 : decode cX8_sign 8 = .ok (.if_icmp .ge 19, 3) := by decide +kernel
theorem dX8_sign_11 : decode cX8_sign 11 = .ok (.aload_n 0, 1) := by decide +kernel
theorem dX8_sign_12 : decode cX8_sign 12 = .ok (.getfield 95, 3) := by decide +kernel
theorem dX8_sign_15 : decode cX8_sign 15 = .ok (.aload_n 0, 1) := by decide +kernel
theorem dX8_sign_16 : decode cX8_sign 16 = .ok (.getfield 191, 3) := by decide +kernel
theorem dX8_sign_19 : decode cX8_sign 19 = .ok (.baload, 1) := by decide +kernel
theorem dX8_sign_20 : decode cX8_sign 20 = .ok (.sipush 255, 3) := by decide +kernel
theorem dX8_sign_23 : decode cX8_sign 23 = .ok (.iand, 1) := by decide +kernel
theorem dX8_sign_24 : decode cX8_sign 24 = .ok (.goto 4, 3) := by decide +kernel
theorem dX8_sign_27 : decode cX8_sign 27 = .ok (.iconst (-1), 1) := by decide +kernel
theorem dX8_sign_28 : decode cX8_sign 28 = .ok (.ireturn, 1) := by decide +kernel
theorem dX8_blanks_0 : decode cX8_blanks 0 = .ok (.aload_n 0, 1) := by decide +kernel
theorem dX8_blanks_1 : decode cX8_blanks 1 = .ok (.invokevirtual 194, 3) := by decide +kernel
theorem dX8_blanks_4 : decode cX8_blanks 4 = .ok (.bipush 32, 2) := by decide +kernel
theorem dX8_blanks_6 : decode cX8_blanks 6 = .ok (.if_icmp .ne 16, 3) := by decide +kernel
theorem dX8_blanks_9 : decode cX8_blanks 9 = .ok (.aload_n 0, 1) := by decide +kernel
theorem dX8_blanks_10 : decode cX8_blanks 10 = .ok (.dup, 1) := by decide +kernel
theorem dX8_blanks_11 : decode cX8_blanks 11 = .ok (.getfield 191, 3) := by decide +kernel
theorem dX8_blanks_14 : decode cX8_blanks 14 = .ok (.iconst 1, 1) := by decide +kernel
theorem dX8_blanks_15 : decode cX8_blanks 15 = .ok (.iadd, 1) := by decide +kernel
theorem dX8_blanks_16 : decode cX8_blanks 16 = .ok (.putfield 191, 3) := by decide +kernel
theorem dX8_blanks_19 : decode cX8_blanks 19 = .ok (.goto (-19), 3) := by decide +kernel
theorem dX8_blanks_22 : decode cX8_blanks 22 = .ok (.return_, 1) := by decide +kernel
theorem dX8_isDigit_0 : decode cX8_isDigit 0 = .ok (.aload_n 0, 1) := by decide +kernel
theorem dX8_isDigit_1 : decode cX8_isDigit 1 = .ok (.invokevirtual 194, 3) := by decide +kernel
theorem dX8_isDigit_4 : decode cX8_isDigit 4 = .ok (.i2l, 1) := by decide +kernel
theorem dX8_isDigit_5 : decode cX8_isDigit 5 = .ok (.ldc2_w 198, 3) := by decide +kernel
theorem dX8_isDigit_8 : decode cX8_isDigit 8 = .ok (.ldc2_w 200, 3) := by decide +kernel
theorem dX8_isDigit_11 : decode cX8_isDigit 11 = .ok (.invokestatic 161, 3) := by decide +kernel
theorem dX8_isDigit_14 : decode cX8_isDigit 14 = .ok (.ireturn, 1) := by decide +kernel
theorem dX8_stood_0 : decode cX8_stood 0 = .ok (.aload_n 0, 1) := by decide +kernel
theorem dX8_stood_1 : decode cX8_stood 1 = .ok (.getfield 191, 3) := by decide +kernel
theorem dX8_stood_4 : decode cX8_stood 4 = .ok (.istore_n 2, 1) := by decide +kernel
theorem dX8_stood_5 : decode cX8_stood 5 = .ok (.iload_n 2, 1) := by decide +kernel
theorem dX8_stood_6 : decode cX8_stood 6 = .ok (.aload_n 0, 1) := by decide +kernel
theorem dX8_stood_7 : decode cX8_stood 7 = .ok (.getfield 165, 3) := by decide +kernel
theorem dX8_stood_10 : decode cX8_stood 10 = .ok (.if_icmp .ge 31, 3) := by decide +kernel
theorem dX8_stood_13 : decode cX8_stood 13 = .ok (.aload_n 0, 1) := by decide +kernel
theorem dX8_stood_14 : decode cX8_stood 14 = .ok (.getfield 95, 3) := by decide +kernel
theorem dX8_stood_17 : decode cX8_stood 17 = .ok (.iload_n 2, 1) := by decide +kernel
theorem dX8_stood_18 : decode cX8_stood 18 = .ok (.baload, 1) := by decide +kernel
theorem dX8_stood_19 : decode cX8_stood 19 = .ok (.bipush 97, 2) := by decide +kernel
theorem dX8_stood_21 : decode cX8_stood 21 = .ok (.if_icmp .lt 20, 3) := by decide +kernel
theorem dX8_stood_24 : decode cX8_stood 24 = .ok (.aload_n 0, 1) := by decide +kernel
theorem dX8_stood_25 : decode cX8_stood 25 = .ok (.getfield 95, 3) := by decide +kernel
theorem dX8_stood_28 : decode cX8_stood 28 = .ok (.iload_n 2, 1) := by decide +kernel
theorem dX8_stood_29 : decode cX8_stood 29 = .ok (.baload, 1) := by decide +kernel
theorem dX8_stood_30 : decode cX8_stood 30 = .ok (.bipush 122, 2) := by decide +kernel
theorem dX8_stood_32 : decode cX8_stood 32 = .ok (.if_icmp .gt 9, 3) := by decide +kernel
theorem dX8_stood_35 : decode cX8_stood 35 = .ok (.iinc 2 1, 3) := by decide +kernel
theorem dX8_stood_38 : decode cX8_stood 38 = .ok (.goto (-33), 3) := by decide +kernel
theorem dX8_stood_41 : decode cX8_stood 41 = .ok (.iload_n 2, 1) := by decide +kernel
theorem dX8_stood_42 : decode cX8_stood 42 = .ok (.aload_n 0, 1) := by decide +kernel
theorem dX8_stood_43 : decode cX8_stood 43 = .ok (.getfield 191, 3) := by decide +kernel
theorem dX8_stood_46 : decode cX8_stood 46 = .ok (.isub, 1) := by decide +kernel
theorem dX8_stood_47 : decode cX8_stood 47 = .ok (.aload_n 1, 1) := by decide +kernel
theorem dX8_stood_48 : decode cX8_stood 48 = .ok (.invokevirtual 202, 3) := by decide +kernel
theorem dX8_stood_51 : decode cX8_stood 51 = .ok (.if_icmp .ne 7, 3) := by decide +kernel
theorem dX8_stood_54 : decode cX8_stood 54 = .ok (.iconst 1, 1) := by decide +kernel
theorem dX8_stood_55 : decode cX8_stood 55 = .ok (.goto 4, 3) := by decide +kernel
theorem dX8_stood_58 : decode cX8_stood 58 = .ok (.iconst 0, 1) := by decide +kernel
theorem dX8_stood_59 : decode cX8_stood 59 = .ok (.istore_n 3, 1) := by decide +kernel
theorem dX8_stood_60 : decode cX8_stood 60 = .ok (.iconst 0, 1) := by decide +kernel
theorem dX8_stood_61 : decode cX8_stood 61 = .ok (.istore 4, 2) := by decide +kernel
theorem dX8_stood_63 : decode cX8_stood 63 = .ok (.iload 4, 2) := by decide +kernel
theorem dX8_stood_65 : decode cX8_stood 65 = .ok (.aload_n 1, 1) := by decide +kernel
theorem dX8_stood_66 : decode cX8_stood 66 = .ok (.invokevirtual 202, 3) := by decide +kernel
theorem dX8_stood_69 : decode cX8_stood 69 = .ok (.if_icmp .ge 40, 3) := by decide +kernel
theorem dX8_stood_72 : decode cX8_stood 72 = .ok (.iload_n 3, 1) := by decide +kernel
theorem dX8_stood_73 : decode cX8_stood 73 = .ok (.ifCond .eq 36, 3) := by decide +kernel
theorem dX8_stood_76 : decode cX8_stood 76 = .ok (.aload_n 0, 1) := by decide +kernel
theorem dX8_stood_77 : decode cX8_stood 77 = .ok (.getfield 95, 3) := by decide +kernel
theorem dX8_stood_80 : decode cX8_stood 80 = .ok (.aload_n 0, 1) := by decide +kernel
theorem dX8_stood_81 : decode cX8_stood 81 = .ok (.getfield 191, 3) := by decide +kernel
theorem dX8_stood_84 : decode cX8_stood 84 = .ok (.iload 4, 2) := by decide +kernel
theorem dX8_stood_86 : decode cX8_stood 86 = .ok (.iadd, 1) := by decide +kernel
theorem dX8_stood_87 : decode cX8_stood 87 = .ok (.baload, 1) := by decide +kernel
theorem dX8_stood_88 : decode cX8_stood 88 = .ok (.aload_n 1, 1) := by decide +kernel
theorem dX8_stood_89 : decode cX8_stood 89 = .ok (.iload 4, 2) := by decide +kernel
theorem dX8_stood_91 : decode cX8_stood 91 = .ok (.invokevirtual 207, 3) := by decide +kernel
theorem dX8_stood_94 : decode cX8_stood 94 = .ok (.if_icmp .ne 7, 3) := by decide +kernel
theorem dX8_stood_97 : decode cX8_stood 97 = .ok (.iconst 1, 1) := by decide +kernel
theorem dX8_stood_98 : decode cX8_stood 98 = .ok (.goto 4, 3) := by decide +kernel
theorem dX8_stood_101 : decode cX8_stood 101 = .ok (.iconst 0, 1) := by decide +kernel
theorem dX8_stood_102 : decode cX8_stood 102 = .ok (.istore_n 3, 1) := by decide +kernel
theorem dX8_stood_103 : decode cX8_stood 103 = .ok (.iinc 4 1, 3) := by decide +kernel
theorem dX8_stood_106 : decode cX8_stood 106 = .ok (.goto (-43), 3) := by decide +kernel
theorem dX8_stood_109 : decode cX8_stood 109 = .ok (.iload_n 3, 1) := by decide +kernel
theorem dX8_stood_110 : decode cX8_stood 110 = .ok (.ireturn, 1) := by decide +kernel
theorem dX8_takes_0 : decode cX8_takes 0 = .ok (.aload_n 0, 1) := by decide +kernel
theorem dX8_takes_1 : decode cX8_takes 1 = .ok (.invokevirtual 211, 3) := by decide +kernel
theorem dX8_takes_4 : decode cX8_takes 4 = .ok (.aload_n 0, 1) := by decide +kernel
theorem dX8_takes_5 : decode cX8_takes 5 = .ok (.aload_n 1, 1) := by decide +kernel
theorem dX8_takes_6 : decode cX8_takes 6 = .ok (.invokevirtual 214, 3) := by decide +kernel
theorem dX8_takes_9 : decode cX8_takes 9 = .ok (.istore_n 2, 1) := by decide +kernel
theorem dX8_takes_10 : decode cX8_takes 10 = .ok (.aload_n 0, 1) := by decide +kernel
theorem dX8_takes_11 : decode cX8_takes 11 = .ok (.dup, 1) := by decide +kernel
theorem dX8_takes_12 : decode cX8_takes 12 = .ok (.getfield 191, 3) := by decide +kernel
theorem dX8_takes_15 : decode cX8_takes 15 = .ok (.iload_n 2, 1) := by decide +kernel
theorem dX8_takes_16 : decode cX8_takes 16 = .ok (.ifCond .eq 10, 3) := by decide +kernel
theorem dX8_takes_19 : decode cX8_takes 19 = .ok (.aload_n 1, 1) := by decide +kernel
theorem dX8_takes_20 : decode cX8_takes 20 = .ok (.invokevirtual 202, 3) := by decide +kernel
theorem dX8_takes_23 : decode cX8_takes 23 = .ok (.goto 4, 3) := by decide +kernel
theorem dX8_takes_26 : decode cX8_takes 26 = .ok (.iconst 0, 1) := by decide +kernel
theorem dX8_takes_27 : decode cX8_takes 27 = .ok (.iadd, 1) := by decide +kernel
theorem dX8_takes_28 : decode cX8_takes 28 = .ok (.putfield 191, 3) := by decide +kernel
theorem dX8_takes_31 : decode cX8_takes 31 = .ok (.iload_n 2, 1) := by decide +kernel
theorem dX8_takes_32 : decode cX8_takes 32 = .ok (.ireturn, 1) := by decide +kernel
theorem dX8_entry_0 : decode cX8_entry 0 = .ok (.aload_n 0, 1) := by decide +kernel
theorem dX8_entry_1 : decode cX8_entry 1 = .ok (.getfield 188, 3) := by decide +kernel
theorem dX8_entry_4 : decode cX8_entry 4 = .ok (.ifCond .ne 51, 3) := by decide +kernel
theorem dX8_entry_7 : decode cX8_entry 7 = .ok (.aload_n 0, 1) := by decide +kernel
theorem dX8_entry_8 : decode cX8_entry 8 = .ok (.getfield 99, 3) := by decide +kernel
theorem dX8_entry_11 : decode cX8_entry 11 = .ok (.sipush 300, 3) := by decide +kernel
theorem dX8_entry_14 : decode cX8_entry 14 = .ok (.aload_n 0, 1) := by decide +kernel
theorem dX8_entry_15 : decode cX8_entry 15 = .ok (.getfield 218, 3) := by decide +kernel
theorem dX8_entry_18 : decode cX8_entry 18 = .ok (.imul, 1) := by decide +kernel
theorem dX8_entry_19 : decode cX8_entry 19 = .ok (.aload_n 0, 1) := by decide +kernel
theorem dX8_entry_20 : decode cX8_entry 20 = .ok (.getfield 221, 3) := by decide +kernel
theorem dX8_entry_23 : decode cX8_entry 23 = .ok (.iadd, 1) := by decide +kernel
theorem dX8_entry_24 : decode cX8_entry 24 = .ok (.iload_n 1, 1) := by decide +kernel
theorem dX8_entry_25 : decode cX8_entry 25 = .ok (.iastore, 1) := by decide +kernel
theorem dX8_entry_26 : decode cX8_entry 26 = .ok (.aload_n 0, 1) := by decide +kernel
theorem dX8_entry_27 : decode cX8_entry 27 = .ok (.getfield 102, 3) := by decide +kernel
theorem dX8_entry_30 : decode cX8_entry 30 = .ok (.sipush 300, 3) := by decide +kernel
theorem dX8_entry_33 : decode cX8_entry 33 = .ok (.aload_n 0, 1) := by decide +kernel
theorem dX8_entry_34 : decode cX8_entry 34 = .ok (.getfield 218, 3) := by decide +kernel
theorem dX8_entry_37 : decode cX8_entry 37 = .ok (.imul, 1) := by decide +kernel
theorem dX8_entry_38 : decode cX8_entry 38 = .ok (.aload_n 0, 1) := by decide +kernel
theorem dX8_entry_39 : decode cX8_entry 39 = .ok (.getfield 221, 3) := by decide +kernel
theorem dX8_entry_42 : decode cX8_entry 42 = .ok (.iadd, 1) := by decide +kernel
theorem dX8_entry_43 : decode cX8_entry 43 = .ok (.iload_n 2, 1) := by decide +kernel
theorem dX8_entry_44 : decode cX8_entry 44 = .ok (.iastore, 1) := by decide +kernel
theorem dX8_entry_45 : decode cX8_entry 45 = .ok (.aload_n 0, 1) := by decide +kernel
theorem dX8_entry_46 : decode cX8_entry 46 = .ok (.dup, 1) := by decide +kernel
theorem dX8_entry_47 : decode cX8_entry 47 = .ok (.getfield 221, 3) := by decide +kernel
theorem dX8_entry_50 : decode cX8_entry 50 = .ok (.iconst 1, 1) := by decide +kernel
theorem dX8_entry_51 : decode cX8_entry 51 = .ok (.iadd, 1) := by decide +kernel
theorem dX8_entry_52 : decode cX8_entry 52 = .ok (.putfield 221, 3) := by decide +kernel
theorem dX8_entry_55 : decode cX8_entry 55 = .ok (.return_, 1) := by decide +kernel
theorem dX8_isCounted_0 : decode cX8_isCounted 0 = .ok (.aload_n 0, 1) := by decide +kernel
theorem dX8_isCounted_1 : decode cX8_isCounted 1 = .ok (.getfield 224, 3) := by decide +kernel
theorem dX8_isCounted_4 : decode cX8_isCounted 4 = .ok (.bipush 60, 2) := by decide +kernel
theorem dX8_isCounted_6 : decode cX8_isCounted 6 = .ok (.if_icmp .ne 9, 3) := by decide +kernel
theorem dX8_isCounted_9 : decode cX8_isCounted 9 = .ok (.aload_n 0, 1) := by decide +kernel
theorem dX8_isCounted_10 : decode cX8_isCounted 10 = .ok (.iconst 3, 1) := by decide +kernel
theorem dX8_isCounted_11 : decode cX8_isCounted 11 = .ok (.iload_n 1, 1) := by decide +kernel
theorem dX8_isCounted_12 : decode cX8_isCounted 12 = .ok (.invokevirtual 227, 3) := by decide +kernel
theorem dX8_isCounted_15 : decode cX8_isCounted 15 = .ok (.aload_n 0, 1) := by decide +kernel
theorem dX8_isCounted_16 : decode cX8_isCounted 16 = .ok (.dup, 1) := by decide +kernel
theorem dX8_isCounted_17 : decode cX8_isCounted 17 = .ok (.getfield 224, 3) := by decide +kernel
theorem dX8_isCounted_20 : decode cX8_isCounted 20 = .ok (.iconst 1, 1) := by decide +kernel
theorem dX8_isCounted_21 : decode cX8_isCounted 21 = .ok (.iadd, 1) := by decide +kernel
theorem dX8_isCounted_22 : decode cX8_isCounted 22 = .ok (.putfield 224, 3) := by decide +kernel
theorem dX8_isCounted_25 : decode cX8_isCounted 25 = .ok (.return_, 1) := by decide +kernel
theorem dX8_digits_0 : decode cX8_digits 0 = .ok (.aload_n 0, 1) := by decide +kernel
theorem dX8_digits_1 : decode cX8_digits 1 = .ok (.invokevirtual 231, 3) := by decide +kernel
theorem dX8_digits_4 : decode cX8_digits 4 = .ok (.ifCond .ne 14, 3) := by decide +kernel
theorem dX8_digits_7 : decode cX8_digits 7 = .ok (.aload_n 0, 1) := by decide +kernel
theorem dX8_digits_8 : decode cX8_digits 8 = .ok (.iconst 0, 1) := by decide +kernel
theorem dX8_digits_9 : decode cX8_digits 9 = .ok (.aload_n 0, 1) := by decide +kernel
theorem dX8_digits_10 : decode cX8_digits 10 = .ok (.getfield 191, 3) := by decide +kernel
theorem dX8_digits_13 : decode cX8_digits 13 = .ok (.invokevirtual 227, 3) := by decide +kernel
theorem dX8_digits_16 : decode cX8_digits 16 = .ok (.iconst 0, 1) := by decide +kernel
theorem dX8_digits_17 : decode cX8_digits 17 = .ok (.ireturn, 1) := by decide +kernel
theorem dX8_digits_18 : decode cX8_digits 18 = .ok (.aload_n 0, 1) := by decide +kernel
theorem dX8_digits_19 : decode cX8_digits 19 = .ok (.getfield 191, 3) := by decide +kernel
theorem dX8_digits_22 : decode cX8_digits 22 = .ok (.istore_n 2, 1) := by decide +kernel
theorem dX8_digits_23 : decode cX8_digits 23 = .ok (.iconst 0, 1) := by decide +kernel
theorem dX8_digits_24 : decode cX8_digits 24 = .ok (.istore_n 3, 1) := by decide +kernel
theorem dX8_digits_25 : decode cX8_digits 25 = .ok (.aload_n 0, 1) := by decide +kernel
theorem dX8_digits_26 : decode cX8_digits 26 = .ok (.invokevirtual 231, 3) := by decide +kernel
theorem dX8_digits_29 : decode cX8_digits 29 = .ok (.ifCond .eq 43, 3) := by decide +kernel
theorem dX8_digits_32 : decode cX8_digits 32 = .ok (.aload_n 0, 1) := by decide +kernel
theorem dX8_digits_33 : decode cX8_digits 33 = .ok (.getfield 191, 3) := by decide +kernel
theorem dX8_digits_36 : decode cX8_digits 36 = .ok (.iload_n 2, 1) := by decide +kernel
theorem dX8_digits_37 : decode cX8_digits 37 = .ok (.isub, 1) := by decide +kernel
theorem dX8_digits_38 : decode cX8_digits 38 = .ok (.iconst 5, 1) := by decide +kernel
theorem dX8_digits_39 : decode cX8_digits 39 = .ok (.if_icmp .ge 18, 3) := by decide +kernel
theorem dX8_digits_42 : decode cX8_digits 42 = .ok (.bipush 10, 2) := by decide +kernel
theorem dX8_digits_44 : decode cX8_digits 44 = .ok (.iload_n 3, 1) := by decide +kernel
theorem dX8_digits_45 : decode cX8_digits 45 = .ok (.imul, 1) := by decide +kernel
theorem dX8_digits_46 : decode cX8_digits 46 = .ok (.aload_n 0, 1) := by decide +kernel
theorem dX8_digits_47 : decode cX8_digits 47 = .ok (.invokevirtual 194, 3) := by decide +kernel
theorem dX8_digits_50 : decode cX8_digits 50 = .ok (.iadd, 1) := by decide +kernel
theorem dX8_digits_51 : decode cX8_digits 51 = .ok (.bipush 48, 2) := by decide +kernel
theorem dX8_digits_53 : decode cX8_digits 53 = .ok (.isub, 1) := by decide +kernel
theorem dX8_digits_54 : decode cX8_digits 54 = .ok (.goto 4, 3) := by decide +kernel
theorem dX8_digits_57 : decode cX8_digits 57 = .ok (.iload_n 3, 1) := by decide +kernel
theorem dX8_digits_58 : decode cX8_digits 58 = .ok (.istore_n 3, 1) := by decide +kernel
theorem dX8_digits_59 : decode cX8_digits 59 = .ok (.aload_n 0, 1) := by decide +kernel
theorem dX8_digits_60 : decode cX8_digits 60 = .ok (.dup, 1) := by decide +kernel
theorem dX8_digits_61 : decode cX8_digits 61 = .ok (.getfield 191, 3) := by decide +kernel
theorem dX8_digits_64 : decode cX8_digits 64 = .ok (.iconst 1, 1) := by decide +kernel
theorem dX8_digits_65 : decode cX8_digits 65 = .ok (.iadd, 1) := by decide +kernel
theorem dX8_digits_66 : decode cX8_digits 66 = .ok (.putfield 191, 3) := by decide +kernel
theorem dX8_digits_69 : decode cX8_digits 69 = .ok (.goto (-44), 3) := by decide +kernel
theorem dX8_digits_72 : decode cX8_digits 72 = .ok (.aload_n 0, 1) := by decide +kernel
theorem dX8_digits_73 : decode cX8_digits 73 = .ok (.getfield 191, 3) := by decide +kernel
theorem dX8_digits_76 : decode cX8_digits 76 = .ok (.iload_n 2, 1) := by decide +kernel
theorem dX8_digits_77 : decode cX8_digits 77 = .ok (.isub, 1) := by decide +kernel
theorem dX8_digits_78 : decode cX8_digits 78 = .ok (.iconst 5, 1) := by decide +kernel
theorem dX8_digits_79 : decode cX8_digits 79 = .ok (.if_icmp .gt 8, 3) := by decide +kernel
theorem dX8_digits_82 : decode cX8_digits 82 = .ok (.iload_n 3, 1) := by decide +kernel
theorem dX8_digits_83 : decode cX8_digits 83 = .ok (.iload_n 1, 1) := by decide +kernel
theorem dX8_digits_84 : decode cX8_digits 84 = .ok (.if_icmp .le 9, 3) := by decide +kernel
theorem dX8_digits_87 : decode cX8_digits 87 = .ok (.aload_n 0, 1) := by decide +kernel
theorem dX8_digits_88 : decode cX8_digits 88 = .ok (.iconst 1, 1) := by decide +kernel
theorem dX8_digits_89 : decode cX8_digits 89 = .ok (.iload_n 2, 1) := by decide +kernel
theorem dX8_digits_90 : decode cX8_digits 90 = .ok (.invokevirtual 227, 3) := by decide +kernel
theorem dX8_digits_93 : decode cX8_digits 93 = .ok (.iload_n 3, 1) := by decide +kernel
theorem dX8_digits_94 : decode cX8_digits 94 = .ok (.ireturn, 1) := by decide +kernel
theorem dX8_value_0 : decode cX8_value 0 = .ok (.aload_n 0, 1) := by decide +kernel
theorem dX8_value_1 : decode cX8_value 1 = .ok (.invokevirtual 211, 3) := by decide +kernel
theorem dX8_value_4 : decode cX8_value 4 = .ok (.aload_n 0, 1) := by decide +kernel
theorem dX8_value_5 : decode cX8_value 5 = .ok (.getfield 191, 3) := by decide +kernel
theorem dX8_value_8 : decode cX8_value 8 = .ok (.istore_n 1, 1) := by decide +kernel
theorem dX8_value_9 : decode cX8_value 9 = .ok (.aload_n 0, 1) := by decide +kernel
theorem dX8_value_10 : decode cX8_value 10 = .ok (.invokevirtual 231, 3) := by decide +kernel
theorem dX8_value_13 : decode cX8_value 13 = .ok (.ifCond .eq 22, 3) := by decide +kernel
theorem dX8_value_16 : decode cX8_value 16 = .ok (.aload_n 0, 1) := by decide +kernel
theorem dX8_value_17 : decode cX8_value 17 = .ok (.ldc 235, 2) := by decide +kernel
theorem dX8_value_19 : decode cX8_value 19 = .ok (.invokevirtual 236, 3) := by decide +kernel
theorem dX8_value_22 : decode cX8_value 22 = .ok (.istore_n 2, 1) := by decide +kernel
theorem dX8_value_23 : decode cX8_value 23 = .ok (.aload_n 0, 1) := by decide +kernel
theorem dX8_value_24 : decode cX8_value 24 = .ok (.iload_n 1, 1) := by decide +kernel
theorem dX8_value_25 : decode cX8_value 25 = .ok (.invokevirtual 240, 3) := by decide +kernel
theorem dX8_value_28 : decode cX8_value 28 = .ok (.aload_n 0, 1) := by decide +kernel
theorem dX8_value_29 : decode cX8_value 29 = .ok (.iconst 0, 1) := by decide +kernel
theorem dX8_value_30 : decode cX8_value 30 = .ok (.iload_n 2, 1) := by decide +kernel
theorem dX8_value_31 : decode cX8_value 31 = .ok (.invokevirtual 243, 3) := by decide +kernel
theorem dX8_value_34 : decode cX8_value 34 = .ok (.return_, 1) := by decide +kernel
theorem dX8_value_35 : decode cX8_value 35 = .ok (.iconst 0, 1) := by decide +kernel
theorem dX8_value_36 : decode cX8_value 36 = .ok (.istore_n 2, 1) := by decide +kernel
theorem dX8_value_37 : decode cX8_value 37 = .ok (.iload_n 2, 1) := by decide +kernel
theorem dX8_value_38 : decode cX8_value 38 = .ok (.aload_n 0, 1) := by decide +kernel
theorem dX8_value_39 : decode cX8_value 39 = .ok (.getfield 91, 3) := by decide +kernel
theorem dX8_value_42 : decode cX8_value 42 = .ok (.if_icmp .ge 20, 3) := by decide +kernel
theorem dX8_value_45 : decode cX8_value 45 = .ok (.aload_n 0, 1) := by decide +kernel
theorem dX8_value_46 : decode cX8_value 46 = .ok (.iload_n 2, 1) := by decide +kernel
theorem dX8_value_47 : decode cX8_value 47 = .ok (.invokestatic 246, 3) := by decide +kernel
theorem dX8_value_50 : decode cX8_value 50 = .ok (.invokevirtual 214, 3) := by decide +kernel
theorem dX8_value_53 : decode cX8_value 53 = .ok (.ifCond .ne 9, 3) := by decide +kernel
theorem dX8_value_56 : decode cX8_value 56 = .ok (.iinc 2 1, 3) := by decide +kernel
theorem dX8_value_59 : decode cX8_value 59 = .ok (.goto (-22), 3) := by decide +kernel
theorem dX8_value_62 : decode cX8_value 62 = .ok (.iload_n 2, 1) := by decide +kernel
theorem dX8_value_63 : decode cX8_value 63 = .ok (.aload_n 0, 1) := by decide +kernel
theorem dX8_value_64 : decode cX8_value 64 = .ok (.getfield 91, 3) := by decide +kernel
theorem dX8_value_67 : decode cX8_value 67 = .ok (.if_icmp .ne 10, 3) := by decide +kernel
theorem dX8_value_70 : decode cX8_value 70 = .ok (.aload_n 0, 1) := by decide +kernel
theorem dX8_value_71 : decode cX8_value 71 = .ok (.iconst 0, 1) := by decide +kernel
theorem dX8_value_72 : decode cX8_value 72 = .ok (.iload_n 1, 1) := by decide +kernel
theorem dX8_value_73 : decode cX8_value 73 = .ok (.invokevirtual 227, 3) := by decide +kernel
theorem dX8_value_76 : decode cX8_value 76 = .ok (.return_, 1) := by decide +kernel
theorem dX8_value_77 : decode cX8_value 77 = .ok (.aload_n 0, 1) := by decide +kernel
theorem dX8_value_78 : decode cX8_value 78 = .ok (.iload_n 1, 1) := by decide +kernel
theorem dX8_value_79 : decode cX8_value 79 = .ok (.invokevirtual 240, 3) := by decide +kernel
theorem dX8_value_82 : decode cX8_value 82 = .ok (.aload_n 0, 1) := by decide +kernel
theorem dX8_value_83 : decode cX8_value 83 = .ok (.dup, 1) := by decide +kernel
theorem dX8_value_84 : decode cX8_value 84 = .ok (.getfield 191, 3) := by decide +kernel
theorem dX8_value_87 : decode cX8_value 87 = .ok (.iload_n 2, 1) := by decide +kernel
theorem dX8_value_88 : decode cX8_value 88 = .ok (.invokestatic 246, 3) := by decide +kernel
theorem dX8_value_91 : decode cX8_value 91 = .ok (.invokevirtual 202, 3) := by decide +kernel
theorem dX8_value_94 : decode cX8_value 94 = .ok (.iadd, 1) := by decide +kernel
theorem dX8_value_95 : decode cX8_value 95 = .ok (.putfield 191, 3) := by decide +kernel
theorem dX8_value_98 : decode cX8_value 98 = .ok (.aload_n 0, 1) := by decide +kernel
theorem dX8_value_99 : decode cX8_value 99 = .ok (.iconst 1, 1) := by decide +kernel
theorem dX8_value_100 : decode cX8_value 100 = .ok (.iload_n 2, 1) := by decide +kernel
theorem dX8_value_101 : decode cX8_value 101 = .ok (.invokevirtual 243, 3) := by decide +kernel
theorem dX8_value_104 : decode cX8_value 104 = .ok (.return_, 1) := by decide +kernel
theorem dX8_term_0 : decode cX8_term 0 = .ok (.aload_n 0, 1) := by decide +kernel
theorem dX8_term_1 : decode cX8_term 1 = .ok (.invokevirtual 250, 3) := by decide +kernel
theorem dX8_term_4 : decode cX8_term 4 = .ok (.aload_n 0, 1) := by decide +kernel
theorem dX8_term_5 : decode cX8_term 5 = .ok (.invokevirtual 211, 3) := by decide +kernel
theorem dX8_term_8 : decode cX8_term 8 = .ok (.aload_n 0, 1) := by decide +kernel
theorem dX8_term_9 : decode cX8_term 9 = .ok (.getfield 188, 3) := by decide +kernel
theorem dX8_term_12 : decode cX8_term 12 = .ok (.ifCond .ne 88, 3) := by decide +kernel
theorem dX8_term_15 : decode cX8_term 15 = .ok (.aload_n 0, 1) := by decide +kernel
theorem dX8_term_16 : decode cX8_term 16 = .ok (.invokevirtual 194, 3) := by decide +kernel
theorem dX8_term_19 : decode cX8_term 19 = .ok (.bipush 42, 2) := by decide +kernel
theorem dX8_term_21 : decode cX8_term 21 = .ok (.if_icmp .eq 21, 3) := by decide +kernel
theorem dX8_term_24 : decode cX8_term 24 = .ok (.aload_n 0, 1) := by decide +kernel
theorem dX8_term_25 : decode cX8_term 25 = .ok (.invokevirtual 194, 3) := by decide +kernel
theorem dX8_term_28 : decode cX8_term 28 = .ok (.bipush 47, 2) := by decide +kernel
theorem dX8_term_30 : decode cX8_term 30 = .ok (.if_icmp .eq 12, 3) := by decide +kernel
theorem dX8_term_33 : decode cX8_term 33 = .ok (.aload_n 0, 1) := by decide +kernel
theorem dX8_term_34 : decode cX8_term 34 = .ok (.invokevirtual 194, 3) := by decide +kernel
theorem dX8_term_37 : decode cX8_term 37 = .ok (.bipush 37, 2) := by decide +kernel
theorem dX8_term_39 : decode cX8_term 39 = .ok (.if_icmp .ne 61, 3) := by decide +kernel
theorem dX8_term_42 : decode cX8_term 42 = .ok (.aload_n 0, 1) := by decide +kernel
theorem dX8_term_43 : decode cX8_term 43 = .ok (.invokevirtual 194, 3) := by decide +kernel
theorem dX8_term_46 : decode cX8_term 46 = .ok (.bipush 42, 2) := by decide +kernel
theorem dX8_term_48 : decode cX8_term 48 = .ok (.if_icmp .ne 8, 3) := by decide +kernel
theorem dX8_term_51 : decode cX8_term 51 = .ok (.bipush 13, 2) := by decide +kernel
theorem dX8_term_53 : decode cX8_term 53 = .ok (.goto 19, 3) := by decide +kernel
theorem dX8_term_56 : decode cX8_term 56 = .ok (.aload_n 0, 1) := by decide +kernel
theorem dX8_term_57 : decode cX8_term 57 = .ok (.invokevirtual 194, 3) := by decide +kernel
theorem dX8_term_60 : decode cX8_term 60 = .ok (.bipush 47, 2) := by decide +kernel
theorem dX8_term_62 : decode cX8_term 62 = .ok (.if_icmp .ne 8, 3) := by decide +kernel
theorem dX8_term_65 : decode cX8_term 65 = .ok (.bipush 14, 2) := by decide +kernel
theorem dX8_term_67 : decode cX8_term 67 = .ok (.goto 5, 3) := by decide +kernel
theorem dX8_term_70 : decode cX8_term 70 = .ok (.bipush 15, 2) := by decide +kernel
theorem dX8_term_72 : decode cX8_term 72 = .ok (.istore_n 1, 1) := by decide +kernel
theorem dX8_term_73 : decode cX8_term 73 = .ok (.aload_n 0, 1) := by decide +kernel
theorem dX8_term_74 : decode cX8_term 74 = .ok (.dup, 1) := by decide +kernel
theorem dX8_term_75 : decode cX8_term 75 = .ok (.getfield 191, 3) := by decide +kernel
theorem dX8_term_78 : decode cX8_term 78 = .ok (.iconst 1, 1) := by decide +kernel
theorem dX8_term_79 : decode cX8_term 79 = .ok (.iadd, 1) := by decide +kernel
theorem dX8_term_80 : decode cX8_term 80 = .ok (.putfield 191, 3) := by decide +kernel
theorem dX8_term_83 : decode cX8_term 83 = .ok (.aload_n 0, 1) := by decide +kernel
theorem dX8_term_84 : decode cX8_term 84 = .ok (.invokevirtual 250, 3) := by decide +kernel
theorem dX8_term_87 : decode cX8_term 87 = .ok (.aload_n 0, 1) := by decide +kernel
theorem dX8_term_88 : decode cX8_term 88 = .ok (.iload_n 1, 1) := by decide +kernel
theorem dX8_term_89 : decode cX8_term 89 = .ok (.iconst 0, 1) := by decide +kernel
theorem dX8_term_90 : decode cX8_term 90 = .ok (.invokevirtual 243, 3) := by decide +kernel
theorem dX8_term_93 : decode cX8_term 93 = .ok (.aload_n 0, 1) := by decide +kernel
theorem dX8_term_94 : decode cX8_term 94 = .ok (.invokevirtual 211, 3) := by decide +kernel
theorem dX8_term_97 : decode cX8_term 97 = .ok (.goto (-89), 3) := by decide +kernel
theorem dX8_term_100 : decode cX8_term 100 = .ok (.return_, 1) := by decide +kernel
theorem dX8_sum_0 : decode cX8_sum 0 = .ok (.aload_n 0, 1) := by decide +kernel
theorem dX8_sum_1 : decode cX8_sum 1 = .ok (.invokevirtual 253, 3) := by decide +kernel
theorem dX8_sum_4 : decode cX8_sum 4 = .ok (.aload_n 0, 1) := by decide +kernel
theorem dX8_sum_5 : decode cX8_sum 5 = .ok (.getfield 188, 3) := by decide +kernel
theorem dX8_sum_8 : decode cX8_sum 8 = .ok (.ifCond .ne 59, 3) := by decide +kernel
theorem dX8_sum_11 : decode cX8_sum 11 = .ok (.aload_n 0, 1) := by decide +kernel
theorem dX8_sum_12 : decode cX8_sum 12 = .ok (.invokevirtual 194, 3) := by decide +kernel
theorem dX8_sum_15 : decode cX8_sum 15 = .ok (.bipush 43, 2) := by decide +kernel
theorem dX8_sum_17 : decode cX8_sum 17 = .ok (.if_icmp .eq 12, 3) := by decide +kernel
theorem dX8_sum_20 : decode cX8_sum 20 = .ok (.aload_n 0, 1) := by decide +kernel
theorem dX8_sum_21 : decode cX8_sum 21 = .ok (.invokevirtual 194, 3) := by decide +kernel
theorem dX8_sum_24 : decode cX8_sum 24 = .ok (.bipush 45, 2) := by decide +kernel
theorem dX8_sum_26 : decode cX8_sum 26 = .ok (.if_icmp .ne 41, 3) := by decide +kernel
theorem dX8_sum_29 : decode cX8_sum 29 = .ok (.aload_n 0, 1) := by decide +kernel
theorem dX8_sum_30 : decode cX8_sum 30 = .ok (.invokevirtual 194, 3) := by decide +kernel
theorem dX8_sum_33 : decode cX8_sum 33 = .ok (.bipush 43, 2) := by decide +kernel
theorem dX8_sum_35 : decode cX8_sum 35 = .ok (.if_icmp .ne 7, 3) := by decide +kernel
theorem dX8_sum_38 : decode cX8_sum 38 = .ok (.iconst 2, 1) := by decide +kernel
theorem dX8_sum_39 : decode cX8_sum 39 = .ok (.goto 4, 3) := by decide +kernel
theorem dX8_sum_42 : decode cX8_sum 42 = .ok (.iconst 3, 1) := by decide +kernel
theorem dX8_sum_43 : decode cX8_sum 43 = .ok (.istore_n 1, 1) := by decide +kernel
theorem dX8_sum_44 : decode cX8_sum 44 = .ok (.aload_n 0, 1) := by decide +kernel
theorem dX8_sum_45 : decode cX8_sum 45 = .ok (.dup, 1) := by decide +kernel
theorem dX8_sum_46 : decode cX8_sum 46 = .ok (.getfield 191, 3) := by decide +kernel
theorem dX8_sum_49 : decode cX8_sum 49 = .ok (.iconst 1, 1) := by decide +kernel
theorem dX8_sum_50 : decode cX8_sum 50 = .ok (.iadd, 1) := by decide +kernel
theorem dX8_sum_51 : decode cX8_sum 51 = .ok (.putfield 191, 3) := by decide +kernel
theorem dX8_sum_54 : decode cX8_sum 54 = .ok (.aload_n 0, 1) := by decide +kernel
theorem dX8_sum_55 : decode cX8_sum 55 = .ok (.invokevirtual 253, 3) := by decide +kernel
theorem dX8_sum_58 : decode cX8_sum 58 = .ok (.aload_n 0, 1) := by decide +kernel
theorem dX8_sum_59 : decode cX8_sum 59 = .ok (.iload_n 1, 1) := by decide +kernel
theorem dX8_sum_60 : decode cX8_sum 60 = .ok (.iconst 0, 1) := by decide +kernel
theorem dX8_sum_61 : decode cX8_sum 61 = .ok (.invokevirtual 243, 3) := by decide +kernel
theorem dX8_sum_64 : decode cX8_sum 64 = .ok (.goto (-60), 3) := by decide +kernel
theorem dX8_sum_67 : decode cX8_sum 67 = .ok (.return_, 1) := by decide +kernel
theorem dX8_compared_0 : decode cX8_compared 0 = .ok (.aload_n 0, 1) := by decide +kernel
theorem dX8_compared_1 : decode cX8_compared 1 = .ok (.invokevirtual 256, 3) := by decide +kernel
theorem dX8_compared_4 : decode cX8_compared 4 = .ok (.aload_n 0, 1) := by decide +kernel
theorem dX8_compared_5 : decode cX8_compared 5 = .ok (.invokevirtual 194, 3) := by decide +kernel
theorem dX8_compared_8 : decode cX8_compared 8 = .ok (.istore_n 1, 1) := by decide +kernel
theorem dX8_compared_9 : decode cX8_compared 9 = .ok (.iload_n 1, 1) := by decide +kernel
theorem dX8_compared_10 : decode cX8_compared 10 = .ok (.bipush 60, 2) := by decide +kernel
theorem dX8_compared_12 : decode cX8_compared 12 = .ok (.if_icmp .eq 25, 3) := by decide +kernel
theorem dX8_compared_15 : decode cX8_compared 15 = .ok (.iload_n 1, 1) := by decide +kernel
theorem dX8_compared_16 : decode cX8_compared 16 = .ok (.bipush 61, 2) := by decide +kernel
theorem dX8_compared_18 : decode cX8_compared 18 = .ok (.if_icmp .eq 19, 3) := by decide +kernel
theorem dX8_compared_21 : decode cX8_compared 21 = .ok (.iload_n 1, 1) := by decide +kernel
theorem dX8_compared_22 : decode cX8_compared 22 = .ok (.bipush 62, 2) := by decide +kernel
theorem dX8_compared_24 : decode cX8_compared 24 = .ok (.if_icmp .eq 13, 3) := by decide +kernel
theorem dX8_compared_27 : decode cX8_compared 27 = .ok (.aload_n 0, 1) := by decide +kernel
theorem dX8_compared_28 : decode cX8_compared 28 = .ok (.iconst 0, 1) := by decide +kernel
theorem dX8_compared_29 : decode cX8_compared 29 = .ok (.aload_n 0, 1) := by decide +kernel
theorem dX8_compared_30 : decode cX8_compared 30 = .ok (.getfield 191, 3) := by decide +kernel
theorem dX8_compared_33 : decode cX8_compared 33 = .ok (.invokevirtual 227, 3) := by decide +kernel
theorem dX8_compared_36 : decode cX8_compared 36 = .ok (.return_, 1) := by decide +kernel
theorem dX8_compared_37 : decode cX8_compared 37 = .ok (.aload_n 0, 1) := by decide +kernel
theorem dX8_compared_38 : decode cX8_compared 38 = .ok (.aload_n 0, 1) := by decide +kernel
theorem dX8_compared_39 : decode cX8_compared 39 = .ok (.getfield 191, 3) := by decide +kernel
theorem dX8_compared_42 : decode cX8_compared 42 = .ok (.invokevirtual 240, 3) := by decide +kernel
theorem dX8_compared_45 : decode cX8_compared 45 = .ok (.aload_n 0, 1) := by decide +kernel
theorem dX8_compared_46 : decode cX8_compared 46 = .ok (.dup, 1) := by decide +kernel
theorem dX8_compared_47 : decode cX8_compared 47 = .ok (.getfield 191, 3) := by decide +kernel
theorem dX8_compared_50 : decode cX8_compared 50 = .ok (.iconst 1, 1) := by decide +kernel
theorem dX8_compared_51 : decode cX8_compared 51 = .ok (.iadd, 1) := by decide +kernel
theorem dX8_compared_52 : decode cX8_compared 52 = .ok (.putfield 191, 3) := by decide +kernel
theorem dX8_compared_55 : decode cX8_compared 55 = .ok (.iload_n 1, 1) := by decide +kernel
theorem dX8_compared_56 : decode cX8_compared 56 = .ok (.bipush 61, 2) := by decide +kernel
theorem dX8_compared_58 : decode cX8_compared 58 = .ok (.if_icmp .eq 16, 3) := by decide +kernel
theorem dX8_compared_61 : decode cX8_compared 61 = .ok (.aload_n 0, 1) := by decide +kernel
theorem dX8_compared_62 : decode cX8_compared 62 = .ok (.invokevirtual 194, 3) := by decide +kernel
theorem dX8_compared_65 : decode cX8_compared 65 = .ok (.bipush 61, 2) := by decide +kernel
theorem dX8_compared_67 : decode cX8_compared 67 = .ok (.if_icmp .ne 7, 3) := by decide +kernel
theorem dX8_compared_70 : decode cX8_compared 70 = .ok (.iconst 1, 1) := by decide +kernel
theorem dX8_compared_71 : decode cX8_compared 71 = .ok (.goto 4, 3) := by decide +kernel
theorem dX8_compared_74 : decode cX8_compared 74 = .ok (.iconst 0, 1) := by decide +kernel
theorem dX8_compared_75 : decode cX8_compared 75 = .ok (.istore_n 2, 1) := by decide +kernel
theorem dX8_compared_76 : decode cX8_compared 76 = .ok (.aload_n 0, 1) := by decide +kernel
theorem dX8_compared_77 : decode cX8_compared 77 = .ok (.dup, 1) := by decide +kernel
theorem dX8_compared_78 : decode cX8_compared 78 = .ok (.getfield 191, 3) := by decide +kernel
theorem dX8_compared_81 : decode cX8_compared 81 = .ok (.iload_n 2, 1) := by decide +kernel
theorem dX8_compared_82 : decode cX8_compared 82 = .ok (.ifCond .eq 7, 3) := by decide +kernel
theorem dX8_compared_85 : decode cX8_compared 85 = .ok (.iconst 1, 1) := by decide +kernel
theorem dX8_compared_86 : decode cX8_compared 86 = .ok (.goto 4, 3) := by decide +kernel
theorem dX8_compared_89 : decode cX8_compared 89 = .ok (.iconst 0, 1) := by decide +kernel
theorem dX8_compared_90 : decode cX8_compared 90 = .ok (.iadd, 1) := by decide +kernel
theorem dX8_compared_91 : decode cX8_compared 91 = .ok (.putfield 191, 3) := by decide +kernel
theorem dX8_compared_94 : decode cX8_compared 94 = .ok (.aload_n 0, 1) := by decide +kernel
theorem dX8_compared_95 : decode cX8_compared 95 = .ok (.invokevirtual 256, 3) := by decide +kernel
theorem dX8_compared_98 : decode cX8_compared 98 = .ok (.aload_n 0, 1) := by decide +kernel
theorem dX8_compared_99 : decode cX8_compared 99 = .ok (.iload_n 1, 1) := by decide +kernel
theorem dX8_compared_100 : decode cX8_compared 100 = .ok (.bipush 61, 2) := by decide +kernel
theorem dX8_compared_102 : decode cX8_compared 102 = .ok (.if_icmp .ne 8, 3) := by decide +kernel
theorem dX8_compared_105 : decode cX8_compared 105 = .ok (.bipush 6, 2) := by decide +kernel
theorem dX8_compared_107 : decode cX8_compared 107 = .ok (.goto 32, 3) := by decide +kernel
theorem dX8_compared_110 : decode cX8_compared 110 = .ok (.iload_n 1, 1) := by decide +kernel
theorem dX8_compared_111 : decode cX8_compared 111 = .ok (.bipush 60, 2) := by decide +kernel
theorem dX8_compared_113 : decode cX8_compared 113 = .ok (.if_icmp .ne 15, 3) := by decide +kernel
theorem dX8_compared_116 : decode cX8_compared 116 = .ok (.iload_n 2, 1) := by decide +kernel
theorem dX8_compared_117 : decode cX8_compared 117 = .ok (.ifCond .eq 7, 3) := by decide +kernel
theorem dX8_compared_120 : decode cX8_compared 120 = .ok (.iconst 5, 1) := by decide +kernel
theorem dX8_compared_121 : decode cX8_compared 121 = .ok (.goto 18, 3) := by decide +kernel
theorem dX8_compared_124 : decode cX8_compared 124 = .ok (.iconst 4, 1) := by decide +kernel
theorem dX8_compared_125 : decode cX8_compared 125 = .ok (.goto 14, 3) := by decide +kernel
theorem dX8_compared_128 : decode cX8_compared 128 = .ok (.iload_n 2, 1) := by decide +kernel
theorem dX8_compared_129 : decode cX8_compared 129 = .ok (.ifCond .eq 8, 3) := by decide +kernel
theorem dX8_compared_132 : decode cX8_compared 132 = .ok (.bipush 7, 2) := by decide +kernel
theorem dX8_compared_134 : decode cX8_compared 134 = .ok (.goto 5, 3) := by decide +kernel
theorem dX8_compared_137 : decode cX8_compared 137 = .ok (.bipush 8, 2) := by decide +kernel
theorem dX8_compared_139 : decode cX8_compared 139 = .ok (.iconst 0, 1) := by decide +kernel
theorem dX8_compared_140 : decode cX8_compared 140 = .ok (.invokevirtual 243, 3) := by decide +kernel
theorem dX8_compared_143 : decode cX8_compared 143 = .ok (.return_, 1) := by decide +kernel
theorem dX8_top_0 : decode cX8_top 0 = .ok (.aload_n 0, 1) := by decide +kernel
theorem dX8_top_1 : decode cX8_top 1 = .ok (.getfield 259, 3) := by decide +kernel
theorem dX8_top_4 : decode cX8_top 4 = .ok (.ifCond .ne 7, 3) := by decide +kernel
theorem dX8_top_7 : decode cX8_top 7 = .ok (.iconst (-1), 1) := by decide +kernel
theorem dX8_top_8 : decode cX8_top 8 = .ok (.goto 14, 3) := by decide +kernel
theorem dX8_top_11 : decode cX8_top 11 = .ok (.aload_n 0, 1) := by decide +kernel
theorem dX8_top_12 : decode cX8_top 12 = .ok (.getfield 117, 3) := by decide +kernel
theorem dX8_top_15 : decode cX8_top 15 = .ok (.aload_n 0, 1) := by decide +kernel
theorem dX8_top_16 : decode cX8_top 16 = .ok (.getfield 259, 3) := by decide +kernel
theorem dX8_top_19 : decode cX8_top 19 = .ok (.iconst 1, 1) := by decide +kernel
theorem dX8_top_20 : decode cX8_top 20 = .ok (.isub, 1) := by decide +kernel
theorem dX8_top_21 : decode cX8_top 21 = .ok (.iaload, 1) := by decide +kernel
theorem dX8_top_22 : decode cX8_top 22 = .ok (.ireturn, 1) := by decide +kernel
theorem dX8_opens_0 : decode cX8_opens 0 = .ok (.iload_n 1, 1) := by decide +kernel
theorem dX8_opens_1 : decode cX8_opens 1 = .ok (.bipush 9, 2) := by decide +kernel
theorem dX8_opens_3 : decode cX8_opens 3 = .ok (.if_icmp .eq 9, 3) := by decide +kernel
theorem dX8_opens_6 : decode cX8_opens 6 = .ok (.iload_n 1, 1) := by decide +kernel
theorem dX8_opens_7 : decode cX8_opens 7 = .ok (.bipush 12, 2) := by decide +kernel
theorem dX8_opens_9 : decode cX8_opens 9 = .ok (.if_icmp .ne 31, 3) := by decide +kernel
theorem dX8_opens_12 : decode cX8_opens 12 = .ok (.aload_n 0, 1) := by decide +kernel
theorem dX8_opens_13 : decode cX8_opens 13 = .ok (.getfield 262, 3) := by decide +kernel
theorem dX8_opens_16 : decode cX8_opens 16 = .ok (.bipush 10, 2) := by decide +kernel
theorem dX8_opens_18 : decode cX8_opens 18 = .ok (.if_icmp .ne 12, 3) := by decide +kernel
theorem dX8_opens_21 : decode cX8_opens 21 = .ok (.aload_n 0, 1) := by decide +kernel
theorem dX8_opens_22 : decode cX8_opens 22 = .ok (.iconst 2, 1) := by decide +kernel
theorem dX8_opens_23 : decode cX8_opens 23 = .ok (.aload_n 0, 1) := by decide +kernel
theorem dX8_opens_24 : decode cX8_opens 24 = .ok (.getfield 191, 3) := by decide +kernel
theorem dX8_opens_27 : decode cX8_opens 27 = .ok (.invokevirtual 227, 3) := by decide +kernel
theorem dX8_opens_30 : decode cX8_opens 30 = .ok (.aload_n 0, 1) := by decide +kernel
theorem dX8_opens_31 : decode cX8_opens 31 = .ok (.dup, 1) := by decide +kernel
theorem dX8_opens_32 : decode cX8_opens 32 = .ok (.getfield 262, 3) := by decide +kernel
theorem dX8_opens_35 : decode cX8_opens 35 = .ok (.iconst 1, 1) := by decide +kernel
theorem dX8_opens_36 : decode cX8_opens 36 = .ok (.iadd, 1) := by decide +kernel
theorem dX8_opens_37 : decode cX8_opens 37 = .ok (.putfield 262, 3) := by decide +kernel
theorem dX8_opens_40 : decode cX8_opens 40 = .ok (.aload_n 0, 1) := by decide +kernel
theorem dX8_opens_41 : decode cX8_opens 41 = .ok (.getfield 117, 3) := by decide +kernel
theorem dX8_opens_44 : decode cX8_opens 44 = .ok (.aload_n 0, 1) := by decide +kernel
theorem dX8_opens_45 : decode cX8_opens 45 = .ok (.getfield 259, 3) := by decide +kernel
theorem dX8_opens_48 : decode cX8_opens 48 = .ok (.iload_n 1, 1) := by decide +kernel
theorem dX8_opens_49 : decode cX8_opens 49 = .ok (.iastore, 1) := by decide +kernel
theorem dX8_opens_50 : decode cX8_opens 50 = .ok (.aload_n 0, 1) := by decide +kernel
theorem dX8_opens_51 : decode cX8_opens 51 = .ok (.dup, 1) := by decide +kernel
theorem dX8_opens_52 : decode cX8_opens 52 = .ok (.getfield 259, 3) := by decide +kernel
theorem dX8_opens_55 : decode cX8_opens 55 = .ok (.iconst 1, 1) := by decide +kernel
theorem dX8_opens_56 : decode cX8_opens 56 = .ok (.iadd, 1) := by decide +kernel
theorem dX8_opens_57 : decode cX8_opens 57 = .ok (.putfield 259, 3) := by decide +kernel
theorem dX8_opens_60 : decode cX8_opens 60 = .ok (.return_, 1) := by decide +kernel
theorem dX8_answers_0 : decode cX8_answers 0 = .ok (.aload_n 0, 1) := by decide +kernel
theorem dX8_answers_1 : decode cX8_answers 1 = .ok (.invokevirtual 265, 3) := by decide +kernel
theorem dX8_answers_4 : decode cX8_answers 4 = .ok (.iload_n 1, 1) := by decide +kernel
theorem dX8_answers_5 : decode cX8_answers 5 = .ok (.if_icmp .ne 49, 3) := by decide +kernel
theorem dX8_answers_8 : decode cX8_answers 8 = .ok (.aload_n 0, 1) := by decide +kernel
theorem dX8_answers_9 : decode cX8_answers 9 = .ok (.getfield 188, 3) := by decide +kernel
theorem dX8_answers_12 : decode cX8_answers 12 = .ok (.ifCond .ne 42, 3) := by decide +kernel
theorem dX8_answers_15 : decode cX8_answers 15 = .ok (.aload_n 0, 1) := by decide +kernel
theorem dX8_answers_16 : decode cX8_answers 16 = .ok (.iload_n 1, 1) := by decide +kernel
theorem dX8_answers_17 : decode cX8_answers 17 = .ok (.iconst 0, 1) := by decide +kernel
theorem dX8_answers_18 : decode cX8_answers 18 = .ok (.invokevirtual 243, 3) := by decide +kernel
theorem dX8_answers_21 : decode cX8_answers 21 = .ok (.aload_n 0, 1) := by decide +kernel
theorem dX8_answers_22 : decode cX8_answers 22 = .ok (.dup, 1) := by decide +kernel
theorem dX8_answers_23 : decode cX8_answers 23 = .ok (.getfield 259, 3) := by decide +kernel
theorem dX8_answers_26 : decode cX8_answers 26 = .ok (.iconst 1, 1) := by decide +kernel
theorem dX8_answers_27 : decode cX8_answers 27 = .ok (.isub, 1) := by decide +kernel
theorem dX8_answers_28 : decode cX8_answers 28 = .ok (.putfield 259, 3) := by decide +kernel
theorem dX8_answers_31 : decode cX8_answers 31 = .ok (.aload_n 0, 1) := by decide +kernel
theorem dX8_answers_32 : decode cX8_answers 32 = .ok (.dup, 1) := by decide +kernel
theorem dX8_answers_33 : decode cX8_answers 33 = .ok (.getfield 262, 3) := by decide +kernel
theorem dX8_answers_36 : decode cX8_answers 36 = .ok (.iload_n 1, 1) := by decide +kernel
theorem dX8_answers_37 : decode cX8_answers 37 = .ok (.bipush 9, 2) := by decide +kernel
theorem dX8_answers_39 : decode cX8_answers 39 = .ok (.if_icmp .ne 7, 3) := by decide +kernel
theorem dX8_answers_42 : decode cX8_answers 42 = .ok (.iconst 1, 1) := by decide +kernel
theorem dX8_answers_43 : decode cX8_answers 43 = .ok (.goto 4, 3) := by decide +kernel
theorem dX8_answers_46 : decode cX8_answers 46 = .ok (.iconst 0, 1) := by decide +kernel
theorem dX8_answers_47 : decode cX8_answers 47 = .ok (.isub, 1) := by decide +kernel
theorem dX8_answers_48 : decode cX8_answers 48 = .ok (.putfield 262, 3) := by decide +kernel
theorem dX8_answers_51 : decode cX8_answers 51 = .ok (.goto (-51), 3) := by decide +kernel
theorem dX8_answers_54 : decode cX8_answers 54 = .ok (.return_, 1) := by decide +kernel
theorem dX8_fact_0 : decode cX8_fact 0 = .ok (.aload_n 0, 1) := by decide +kernel
theorem dX8_fact_1 : decode cX8_fact 1 = .ok (.invokevirtual 211, 3) := by decide +kernel
theorem dX8_fact_4 : decode cX8_fact 4 = .ok (.aload_n 0, 1) := by decide +kernel
theorem dX8_fact_5 : decode cX8_fact 5 = .ok (.ldc_w 268, 3) := by decide +kernel
theorem dX8_fact_8 : decode cX8_fact 8 = .ok (.invokevirtual 214, 3) := by decide +kernel
theorem dX8_fact_11 : decode cX8_fact 11 = .ok (.ifCond .eq 21, 3) := by decide +kernel
theorem dX8_fact_14 : decode cX8_fact 14 = .ok (.aload_n 0, 1) := by decide +kernel
theorem dX8_fact_15 : decode cX8_fact 15 = .ok (.bipush 9, 2) := by decide +kernel
theorem dX8_fact_17 : decode cX8_fact 17 = .ok (.invokevirtual 270, 3) := by decide +kernel
theorem dX8_fact_20 : decode cX8_fact 20 = .ok (.aload_n 0, 1) := by decide +kernel
theorem dX8_fact_21 : decode cX8_fact 21 = .ok (.dup, 1) := by decide +kernel
theorem dX8_fact_22 : decode cX8_fact 22 = .ok (.getfield 191, 3) := by decide +kernel
theorem dX8_fact_25 : decode cX8_fact 25 = .ok (.iconst 3, 1) := by decide +kernel
theorem dX8_fact_26 : decode cX8_fact 26 = .ok (.iadd, 1) := by decide +kernel
theorem dX8_fact_27 : decode cX8_fact 27 = .ok (.putfield 191, 3) := by decide +kernel
theorem dX8_fact_30 : decode cX8_fact 30 = .ok (.iconst 0, 1) := by decide +kernel
theorem dX8_fact_31 : decode cX8_fact 31 = .ok (.ireturn, 1) := by decide +kernel
theorem dX8_fact_32 : decode cX8_fact 32 = .ok (.aload_n 0, 1) := by decide +kernel
theorem dX8_fact_33 : decode cX8_fact 33 = .ok (.invokevirtual 194, 3) := by decide +kernel
theorem dX8_fact_36 : decode cX8_fact 36 = .ok (.bipush 91, 2) := by decide +kernel
theorem dX8_fact_38 : decode cX8_fact 38 = .ok (.if_icmp .ne 21, 3) := by decide +kernel
theorem dX8_fact_41 : decode cX8_fact 41 = .ok (.aload_n 0, 1) := by decide +kernel
theorem dX8_fact_42 : decode cX8_fact 42 = .ok (.bipush 12, 2) := by decide +kernel
theorem dX8_fact_44 : decode cX8_fact 44 = .ok (.invokevirtual 270, 3) := by decide +kernel
theorem dX8_fact_47 : decode cX8_fact 47 = .ok (.aload_n 0, 1) := by decide +kernel
theorem dX8_fact_48 : decode cX8_fact 48 = .ok (.dup, 1) := by decide +kernel
theorem dX8_fact_49 : decode cX8_fact 49 = .ok (.getfield 191, 3) := by decide +kernel
theorem dX8_fact_52 : decode cX8_fact 52 = .ok (.iconst 1, 1) := by decide +kernel
theorem dX8_fact_53 : decode cX8_fact 53 = .ok (.iadd, 1) := by decide +kernel
theorem dX8_fact_54 : decode cX8_fact 54 = .ok (.putfield 191, 3) := by decide +kernel
theorem dX8_fact_57 : decode cX8_fact 57 = .ok (.iconst 0, 1) := by decide +kernel
theorem dX8_fact_58 : decode cX8_fact 58 = .ok (.ireturn, 1) := by decide +kernel
theorem dX8_fact_59 : decode cX8_fact 59 = .ok (.aload_n 0, 1) := by decide +kernel
theorem dX8_fact_60 : decode cX8_fact 60 = .ok (.invokevirtual 273, 3) := by decide +kernel
theorem dX8_fact_63 : decode cX8_fact 63 = .ok (.iconst 1, 1) := by decide +kernel
theorem dX8_fact_64 : decode cX8_fact 64 = .ok (.ireturn, 1) := by decide +kernel
theorem dX8_test_0 : decode cX8_test 0 = .ok (.aload_n 0, 1) := by decide +kernel
theorem dX8_test_1 : decode cX8_test 1 = .ok (.iconst 0, 1) := by decide +kernel
theorem dX8_test_2 : decode cX8_test 2 = .ok (.putfield 259, 3) := by decide +kernel
theorem dX8_test_5 : decode cX8_test 5 = .ok (.iconst 1, 1) := by decide +kernel
theorem dX8_test_6 : decode cX8_test 6 = .ok (.istore_n 1, 1) := by decide +kernel
theorem dX8_test_7 : decode cX8_test 7 = .ok (.iconst 1, 1) := by decide +kernel
theorem dX8_test_8 : decode cX8_test 8 = .ok (.istore_n 2, 1) := by decide +kernel
theorem dX8_test_9 : decode cX8_test 9 = .ok (.iload_n 2, 1) := by decide +kernel
theorem dX8_test_10 : decode cX8_test 10 = .ok (.ifCond .eq 192, 3) := by decide +kernel
theorem dX8_test_13 : decode cX8_test 13 = .ok (.aload_n 0, 1) := by decide +kernel
theorem dX8_test_14 : decode cX8_test 14 = .ok (.getfield 188, 3) := by decide +kernel
theorem dX8_test_17 : decode cX8_test 17 = .ok (.ifCond .ne 185, 3) := by decide +kernel
theorem dX8_test_20 : decode cX8_test 20 = .ok (.iload_n 1, 1) := by decide +kernel
theorem dX8_test_21 : decode cX8_test 21 = .ok (.ifCond .eq 19, 3) := by decide +kernel
theorem dX8_test_24 : decode cX8_test 24 = .ok (.aload_n 0, 1) := by decide +kernel
theorem dX8_test_25 : decode cX8_test 25 = .ok (.invokevirtual 276, 3) := by decide +kernel
theorem dX8_test_28 : decode cX8_test 28 = .ok (.ifCond .ne 7, 3) := by decide +kernel
theorem dX8_test_31 : decode cX8_test 31 = .ok (.iconst 1, 1) := by decide +kernel
theorem dX8_test_32 : decode cX8_test 32 = .ok (.goto 4, 3) := by decide +kernel
theorem dX8_test_35 : decode cX8_test 35 = .ok (.iconst 0, 1) := by decide +kernel
theorem dX8_test_36 : decode cX8_test 36 = .ok (.istore_n 1, 1) := by decide +kernel
theorem dX8_test_37 : decode cX8_test 37 = .ok (.goto (-28), 3) := by decide +kernel
theorem dX8_test_40 : decode cX8_test 40 = .ok (.aload_n 0, 1) := by decide +kernel
theorem dX8_test_41 : decode cX8_test 41 = .ok (.bipush 9, 2) := by decide +kernel
theorem dX8_test_43 : decode cX8_test 43 = .ok (.invokevirtual 279, 3) := by decide +kernel
theorem dX8_test_46 : decode cX8_test 46 = .ok (.aload_n 0, 1) := by decide +kernel
theorem dX8_test_47 : decode cX8_test 47 = .ok (.invokevirtual 211, 3) := by decide +kernel
theorem dX8_test_50 : decode cX8_test 50 = .ok (.aload_n 0, 1) := by decide +kernel
theorem dX8_test_51 : decode cX8_test 51 = .ok (.ldc_w 282, 3) := by decide +kernel
theorem dX8_test_54 : decode cX8_test 54 = .ok (.invokevirtual 214, 3) := by decide +kernel
theorem dX8_test_57 : decode cX8_test 57 = .ok (.istore_n 3, 1) := by decide +kernel
theorem dX8_test_58 : decode cX8_test 58 = .ok (.aload_n 0, 1) := by decide +kernel
theorem dX8_test_59 : decode cX8_test 59 = .ok (.ldc_w 284, 3) := by decide +kernel
theorem dX8_test_62 : decode cX8_test 62 = .ok (.invokevirtual 214, 3) := by decide +kernel
theorem dX8_test_65 : decode cX8_test 65 = .ok (.istore 4, 2) := by decide +kernel
theorem dX8_test_67 : decode cX8_test 67 = .ok (.aload_n 0, 1) := by decide +kernel
theorem dX8_test_68 : decode cX8_test 68 = .ok (.bipush 10, 2) := by decide +kernel
theorem dX8_test_70 : decode cX8_test 70 = .ok (.invokevirtual 279, 3) := by decide +kernel
theorem dX8_test_73 : decode cX8_test 73 = .ok (.iload_n 3, 1) := by decide +kernel
theorem dX8_test_74 : decode cX8_test 74 = .ok (.ifCond .ne 8, 3) := by decide +kernel
theorem dX8_test_77 : decode cX8_test 77 = .ok (.iload 4, 2) := by decide +kernel
theorem dX8_test_79 : decode cX8_test 79 = .ok (.ifCond .eq 52, 3) := by decide +kernel
theorem dX8_test_82 : decode cX8_test 82 = .ok (.iload 4, 2) := by decide +kernel
theorem dX8_test_84 : decode cX8_test 84 = .ok (.ifCond .eq 9, 3) := by decide +kernel
theorem dX8_test_87 : decode cX8_test 87 = .ok (.aload_n 0, 1) := by decide +kernel
theorem dX8_test_88 : decode cX8_test 88 = .ok (.bipush 11, 2) := by decide +kernel
theorem dX8_test_90 : decode cX8_test 90 = .ok (.invokevirtual 279, 3) := by decide +kernel
theorem dX8_test_93 : decode cX8_test 93 = .ok (.aload_n 0, 1) := by decide +kernel
theorem dX8_test_94 : decode cX8_test 94 = .ok (.iload_n 3, 1) := by decide +kernel
theorem dX8_test_95 : decode cX8_test 95 = .ok (.ifCond .eq 8, 3) := by decide +kernel
theorem dX8_test_98 : decode cX8_test 98 = .ok (.bipush 10, 2) := by decide +kernel
theorem dX8_test_100 : decode cX8_test 100 = .ok (.goto 5, 3) := by decide +kernel
theorem dX8_test_103 : decode cX8_test 103 = .ok (.bipush 11, 2) := by decide +kernel
theorem dX8_test_105 : decode cX8_test 105 = .ok (.invokevirtual 270, 3) := by decide +kernel
theorem dX8_test_108 : decode cX8_test 108 = .ok (.aload_n 0, 1) := by decide +kernel
theorem dX8_test_109 : decode cX8_test 109 = .ok (.dup, 1) := by decide +kernel
theorem dX8_test_110 : decode cX8_test 110 = .ok (.getfield 191, 3) := by decide +kernel
theorem dX8_test_113 : decode cX8_test 113 = .ok (.iload_n 3, 1) := by decide +kernel
theorem dX8_test_114 : decode cX8_test 114 = .ok (.ifCond .eq 7, 3) := by decide +kernel
theorem dX8_test_117 : decode cX8_test 117 = .ok (.iconst 3, 1) := by decide +kernel
theorem dX8_test_118 : decode cX8_test 118 = .ok (.goto 4, 3) := by decide +kernel
theorem dX8_test_121 : decode cX8_test 121 = .ok (.iconst 2, 1) := by decide +kernel
theorem dX8_test_122 : decode cX8_test 122 = .ok (.iadd, 1) := by decide +kernel
theorem dX8_test_123 : decode cX8_test 123 = .ok (.putfield 191, 3) := by decide +kernel
theorem dX8_test_126 : decode cX8_test 126 = .ok (.iconst 1, 1) := by decide +kernel
theorem dX8_test_127 : decode cX8_test 127 = .ok (.istore_n 1, 1) := by decide +kernel
theorem dX8_test_128 : decode cX8_test 128 = .ok (.goto 71, 3) := by decide +kernel
theorem dX8_test_131 : decode cX8_test 131 = .ok (.aload_n 0, 1) := by decide +kernel
theorem dX8_test_132 : decode cX8_test 132 = .ok (.bipush 11, 2) := by decide +kernel
theorem dX8_test_134 : decode cX8_test 134 = .ok (.invokevirtual 279, 3) := by decide +kernel
theorem dX8_test_137 : decode cX8_test 137 = .ok (.aload_n 0, 1) := by decide +kernel
theorem dX8_test_138 : decode cX8_test 138 = .ok (.invokevirtual 265, 3) := by decide +kernel
theorem dX8_test_141 : decode cX8_test 141 = .ok (.bipush 12, 2) := by decide +kernel
theorem dX8_test_143 : decode cX8_test 143 = .ok (.if_icmp .ne 54, 3) := by decide +kernel
theorem dX8_test_146 : decode cX8_test 146 = .ok (.aload_n 0, 1) := by decide +kernel
theorem dX8_test_147 : decode cX8_test 147 = .ok (.invokevirtual 194, 3) := by decide +kernel
theorem dX8_test_150 : decode cX8_test 150 = .ok (.bipush 93, 2) := by decide +kernel
theorem dX8_test_152 : decode cX8_test 152 = .ok (.if_icmp .eq 12, 3) := by decide +kernel
theorem dX8_test_155 : decode cX8_test 155 = .ok (.aload_n 0, 1) := by decide +kernel
theorem dX8_test_156 : decode cX8_test 156 = .ok (.iconst 0, 1) := by decide +kernel
theorem dX8_test_157 : decode cX8_test 157 = .ok (.aload_n 0, 1) := by decide +kernel
theorem dX8_test_158 : decode cX8_test 158 = .ok (.getfield 191, 3) := by decide +kernel
theorem dX8_test_161 : decode cX8_test 161 = .ok (.invokevirtual 227, 3) := by decide +kernel
theorem dX8_test_164 : decode cX8_test 164 = .ok (.aload_n 0, 1) := by decide +kernel
theorem dX8_test_165 : decode cX8_test 165 = .ok (.dup, 1) := by decide +kernel
theorem dX8_test_166 : decode cX8_test 166 = .ok (.getfield 191, 3) := by decide +kernel
theorem dX8_test_169 : decode cX8_test 169 = .ok (.iconst 1, 1) := by decide +kernel
theorem dX8_test_170 : decode cX8_test 170 = .ok (.iadd, 1) := by decide +kernel
theorem dX8_test_171 : decode cX8_test 171 = .ok (.putfield 191, 3) := by decide +kernel
theorem dX8_test_174 : decode cX8_test 174 = .ok (.aload_n 0, 1) := by decide +kernel
theorem dX8_test_175 : decode cX8_test 175 = .ok (.dup, 1) := by decide +kernel
theorem dX8_test_176 : decode cX8_test 176 = .ok (.getfield 259, 3) := by decide +kernel
theorem dX8_test_179 : decode cX8_test 179 = .ok (.iconst 1, 1) := by decide +kernel
theorem dX8_test_180 : decode cX8_test 180 = .ok (.isub, 1) := by decide +kernel
theorem dX8_test_181 : decode cX8_test 181 = .ok (.putfield 259, 3) := by decide +kernel
theorem dX8_test_184 : decode cX8_test 184 = .ok (.aload_n 0, 1) := by decide +kernel
theorem dX8_test_185 : decode cX8_test 185 = .ok (.dup, 1) := by decide +kernel
theorem dX8_test_186 : decode cX8_test 186 = .ok (.getfield 262, 3) := by decide +kernel
theorem dX8_test_189 : decode cX8_test 189 = .ok (.iconst 1, 1) := by decide +kernel
theorem dX8_test_190 : decode cX8_test 190 = .ok (.isub, 1) := by decide +kernel
theorem dX8_test_191 : decode cX8_test 191 = .ok (.putfield 262, 3) := by decide +kernel
theorem dX8_test_194 : decode cX8_test 194 = .ok (.goto 5, 3) := by decide +kernel
theorem dX8_test_197 : decode cX8_test 197 = .ok (.iconst 0, 1) := by decide +kernel
theorem dX8_test_198 : decode cX8_test 198 = .ok (.istore_n 2, 1) := by decide +kernel
theorem dX8_test_199 : decode cX8_test 199 = .ok (.goto (-190), 3) := by decide +kernel
theorem dX8_test_202 : decode cX8_test 202 = .ok (.return_, 1) := by decide +kernel
theorem dX8_amount_0 : decode cX8_amount 0 = .ok (.aload_n 0, 1) := by decide +kernel
theorem dX8_amount_1 : decode cX8_amount 1 = .ok (.invokevirtual 211, 3) := by decide +kernel
theorem dX8_amount_4 : decode cX8_amount 4 = .ok (.aload_n 0, 1) := by decide +kernel
theorem dX8_amount_5 : decode cX8_amount 5 = .ok (.getfield 191, 3) := by decide +kernel
theorem dX8_amount_8 : decode cX8_amount 8 = .ok (.istore_n 3, 1) := by decide +kernel
theorem dX8_amount_9 : decode cX8_amount 9 = .ok (.aload_n 0, 1) := by decide +kernel
theorem dX8_amount_10 : decode cX8_amount 10 = .ok (.getfield 188, 3) := by decide +kernel
theorem dX8_amount_13 : decode cX8_amount 13 = .ok (.ifCond .ne 12, 3) := by decide +kernel
theorem dX8_amount_16 : decode cX8_amount 16 = .ok (.aload_n 0, 1) := by decide +kernel
theorem dX8_amount_17 : decode cX8_amount 17 = .ok (.ldc 235, 2) := by decide +kernel
theorem dX8_amount_19 : decode cX8_amount 19 = .ok (.invokevirtual 236, 3) := by decide +kernel
theorem dX8_amount_22 : decode cX8_amount 22 = .ok (.goto 4, 3) := by decide +kernel
theorem dX8_amount_25 : decode cX8_amount 25 = .ok (.iconst 0, 1) := by decide +kernel
theorem dX8_amount_26 : decode cX8_amount 26 = .ok (.istore 4, 2) := by decide +kernel
theorem dX8_amount_28 : decode cX8_amount 28 = .ok (.aload_n 0, 1) := by decide +kernel
theorem dX8_amount_29 : decode cX8_amount 29 = .ok (.getfield 188, 3) := by decide +kernel
theorem dX8_amount_32 : decode cX8_amount 32 = .ok (.ifCond .ne 22, 3) := by decide +kernel
theorem dX8_amount_35 : decode cX8_amount 35 = .ok (.iload 4, 2) := by decide +kernel
theorem dX8_amount_37 : decode cX8_amount 37 = .ok (.i2l, 1) := by decide +kernel
theorem dX8_amount_38 : decode cX8_amount 38 = .ok (.iload_n 1, 1) := by decide +kernel
theorem dX8_amount_39 : decode cX8_amount 39 = .ok (.i2l, 1) := by decide +kernel
theorem dX8_amount_40 : decode cX8_amount 40 = .ok (.iload_n 2, 1) := by decide +kernel
theorem dX8_amount_41 : decode cX8_amount 41 = .ok (.i2l, 1) := by decide +kernel
theorem dX8_amount_42 : decode cX8_amount 42 = .ok (.invokestatic 161, 3) := by decide +kernel
theorem dX8_amount_45 : decode cX8_amount 45 = .ok (.ifCond .ne 9, 3) := by decide +kernel
theorem dX8_amount_48 : decode cX8_amount 48 = .ok (.aload_n 0, 1) := by decide +kernel
theorem dX8_amount_49 : decode cX8_amount 49 = .ok (.iconst 1, 1) := by decide +kernel
theorem dX8_amount_50 : decode cX8_amount 50 = .ok (.iload_n 3, 1) := by decide +kernel
theorem dX8_amount_51 : decode cX8_amount 51 = .ok (.invokevirtual 227, 3) := by decide +kernel
theorem dX8_amount_54 : decode cX8_amount 54 = .ok (.iload 4, 2) := by decide +kernel
theorem dX8_amount_56 : decode cX8_amount 56 = .ok (.ireturn, 1) := by decide +kernel
theorem dX8_roomWord_0 : decode cX8_roomWord 0 = .ok (.iload_n 0, 1) := by decide +kernel
theorem dX8_roomWord_1 : decode cX8_roomWord 1 = .ok (.tableswitch 37 0 2 #[27, 31, 34], 27) := by decide +kernel
theorem dX8_roomWord_28 : decode cX8_roomWord 28 = .ok (.ldc_w 286, 3) := by decide +kernel
theorem dX8_roomWord_31 : decode cX8_roomWord 31 = .ok (.areturn, 1) := by decide +kernel
theorem dX8_roomWord_32 : decode cX8_roomWord 32 = .ok (.ldc 174, 2) := by decide +kernel
theorem dX8_roomWord_34 : decode cX8_roomWord 34 = .ok (.areturn, 1) := by decide +kernel
theorem dX8_roomWord_35 : decode cX8_roomWord 35 = .ok (.ldc 172, 2) := by decide +kernel
theorem dX8_roomWord_37 : decode cX8_roomWord 37 = .ok (.areturn, 1) := by decide +kernel
theorem dX8_roomWord_38 : decode cX8_roomWord 38 = .ok (.ldc_w 288, 3) := by decide +kernel
theorem dX8_roomWord_41 : decode cX8_roomWord 41 = .ok (.areturn, 1) := by decide +kernel
theorem dX8_roomPart_0 : decode cX8_roomPart 0 = .ok (.iload_n 1, 1) := by decide +kernel
theorem dX8_roomPart_1 : decode cX8_roomPart 1 = .ok (.tableswitch 160 0 2 #[27, 43, 95], 27) := by decide +kernel
theorem dX8_roomPart_28 : decode cX8_roomPart 28 = .ok (.aload_n 0, 1) := by decide +kernel
theorem dX8_roomPart_29 : decode cX8_roomPart 29 = .ok (.getfield 64, 3) := by decide +kernel
theorem dX8_roomPart_32 : decode cX8_roomPart 32 = .ok (.iconst 0, 1) := by decide +kernel
theorem dX8_roomPart_33 : decode cX8_roomPart 33 = .ok (.aload_n 0, 1) := by decide +kernel
theorem dX8_roomPart_34 : decode cX8_roomPart 34 = .ok (.iconst 2, 1) := by decide +kernel
theorem dX8_roomPart_35 : decode cX8_roomPart 35 = .ok (.bipush 30, 2) := by decide +kernel
theorem dX8_roomPart_37 : decode cX8_roomPart 37 = .ok (.invokevirtual 290, 3) := by decide +kernel
theorem dX8_roomPart_40 : decode cX8_roomPart 40 = .ok (.iastore, 1) := by decide +kernel
theorem dX8_roomPart_41 : decode cX8_roomPart 41 = .ok (.goto 188, 3) := by decide +kernel
theorem dX8_roomPart_44 : decode cX8_roomPart 44 = .ok (.aload_n 0, 1) := by decide +kernel
theorem dX8_roomPart_45 : decode cX8_roomPart 45 = .ok (.getfield 64, 3) := by decide +kernel
theorem dX8_roomPart_48 : decode cX8_roomPart 48 = .ok (.iconst 1, 1) := by decide +kernel
theorem dX8_roomPart_49 : decode cX8_roomPart 49 = .ok (.iaload, 1) := by decide +kernel
theorem dX8_roomPart_50 : decode cX8_roomPart 50 = .ok (.istore_n 2, 1) := by decide +kernel
theorem dX8_roomPart_51 : decode cX8_roomPart 51 = .ok (.aload_n 0, 1) := by decide +kernel
theorem dX8_roomPart_52 : decode cX8_roomPart 52 = .ok (.getfield 67, 3) := by decide +kernel
theorem dX8_roomPart_55 : decode cX8_roomPart 55 = .ok (.iload_n 2, 1) := by decide +kernel
theorem dX8_roomPart_56 : decode cX8_roomPart 56 = .ok (.aload_n 0, 1) := by decide +kernel
theorem dX8_roomPart_57 : decode cX8_roomPart 57 = .ok (.iconst 0, 1) := by decide +kernel
theorem dX8_roomPart_58 : decode cX8_roomPart 58 = .ok (.aload_n 0, 1) := by decide +kernel
theorem dX8_roomPart_59 : decode cX8_roomPart 59 = .ok (.getfield 64, 3) := by decide +kernel
theorem dX8_roomPart_62 : decode cX8_roomPart 62 = .ok (.iconst 0, 1) := by decide +kernel
theorem dX8_roomPart_63 : decode cX8_roomPart 63 = .ok (.iaload, 1) := by decide +kernel
theorem dX8_roomPart_64 : decode cX8_roomPart 64 = .ok (.iconst 1, 1) := by decide +kernel
theorem dX8_roomPart_65 : decode cX8_roomPart 65 = .ok (.isub, 1) := by decide +kernel
theorem dX8_roomPart_66 : decode cX8_roomPart 66 = .ok (.invokevirtual 290, 3) := by decide +kernel
theorem dX8_roomPart_69 : decode cX8_roomPart 69 = .ok (.iastore, 1) := by decide +kernel
theorem dX8_roomPart_70 : decode cX8_roomPart 70 = .ok (.aload_n 0, 1) := by decide +kernel
theorem dX8_roomPart_71 : decode cX8_roomPart 71 = .ok (.getfield 70, 3) := by decide +kernel
theorem dX8_roomPart_74 : decode cX8_roomPart 74 = .ok (.iload_n 2, 1) := by decide +kernel
theorem dX8_roomPart_75 : decode cX8_roomPart 75 = .ok (.aload_n 0, 1) := by decide +kernel
theorem dX8_roomPart_76 : decode cX8_roomPart 76 = .ok (.iconst 0, 1) := by decide +kernel
theorem dX8_roomPart_77 : decode cX8_roomPart 77 = .ok (.bipush 50, 2) := by decide +kernel
theorem dX8_roomPart_79 : decode cX8_roomPart 79 = .ok (.invokevirtual 290, 3) := by decide +kernel
theorem dX8_roomPart_82 : decode cX8_roomPart 82 = .ok (.iastore, 1) := by decide +kernel
theorem dX8_roomPart_83 : decode cX8_roomPart 83 = .ok (.aload_n 0, 1) := by decide +kernel
theorem dX8_roomPart_84 : decode cX8_roomPart 84 = .ok (.getfield 64, 3) := by decide +kernel
theorem dX8_roomPart_87 : decode cX8_roomPart 87 = .ok (.iconst 1, 1) := by decide +kernel
theorem dX8_roomPart_88 : decode cX8_roomPart 88 = .ok (.dup2, 1) := by decide +kernel
theorem dX8_roomPart_89 : decode cX8_roomPart 89 = .ok (.iaload, 1) := by decide +kernel
theorem dX8_roomPart_90 : decode cX8_roomPart 90 = .ok (.iconst 1, 1) := by decide +kernel
theorem dX8_roomPart_91 : decode cX8_roomPart 91 = .ok (.iadd, 1) := by decide +kernel
theorem dX8_roomPart_92 : decode cX8_roomPart 92 = .ok (.iastore, 1) := by decide +kernel
theorem dX8_roomPart_93 : decode cX8_roomPart 93 = .ok (.goto 136, 3) := by decide +kernel
theorem dX8_roomPart_96 : decode cX8_roomPart 96 = .ok (.aload_n 0, 1) := by decide +kernel
theorem dX8_roomPart_97 : decode cX8_roomPart 97 = .ok (.getfield 64, 3) := by decide +kernel
theorem dX8_roomPart_100 : decode cX8_roomPart 100 = .ok (.iconst 2, 1) := by decide +kernel
theorem dX8_roomPart_101 : decode cX8_roomPart 101 = .ok (.iaload, 1) := by decide +kernel
theorem dX8_roomPart_102 : decode cX8_roomPart 102 = .ok (.istore_n 2, 1) := by decide +kernel
theorem dX8_roomPart_103 : decode cX8_roomPart 103 = .ok (.aload_n 0, 1) := by decide +kernel
theorem dX8_roomPart_104 : decode cX8_roomPart 104 = .ok (.getfield 73, 3) := by decide +kernel
theorem dX8_roomPart_107 : decode cX8_roomPart 107 = .ok (.iload_n 2, 1) := by decide +kernel
theorem dX8_roomPart_108 : decode cX8_roomPart 108 = .ok (.aload_n 0, 1) := by decide +kernel
theorem dX8_roomPart_109 : decode cX8_roomPart 109 = .ok (.iconst 0, 1) := by decide +kernel
theorem dX8_roomPart_110 : decode cX8_roomPart 110 = .ok (.aload_n 0, 1) := by decide +kernel
theorem dX8_roomPart_111 : decode cX8_roomPart 111 = .ok (.getfield 64, 3) := by decide +kernel
theorem dX8_roomPart_114 : decode cX8_roomPart 114 = .ok (.iconst 0, 1) := by decide +kernel
theorem dX8_roomPart_115 : decode cX8_roomPart 115 = .ok (.iaload, 1) := by decide +kernel
theorem dX8_roomPart_116 : decode cX8_roomPart 116 = .ok (.iconst 1, 1) := by decide +kernel
theorem dX8_roomPart_117 : decode cX8_roomPart 117 = .ok (.isub, 1) := by decide +kernel
theorem dX8_roomPart_118 : decode cX8_roomPart 118 = .ok (.invokevirtual 290, 3) := by decide +kernel
theorem dX8_roomPart_121 : decode cX8_roomPart 121 = .ok (.iastore, 1) := by decide +kernel
theorem dX8_roomPart_122 : decode cX8_roomPart 122 = .ok (.aload_n 0, 1) := by decide +kernel
theorem dX8_roomPart_123 : decode cX8_roomPart 123 = .ok (.getfield 76, 3) := by decide +kernel
theorem dX8_roomPart_126 : decode cX8_roomPart 126 = .ok (.iload_n 2, 1) := by decide +kernel
theorem dX8_roomPart_127 : decode cX8_roomPart 127 = .ok (.aload_n 0, 1) := by decide +kernel
theorem dX8_roomPart_128 : decode cX8_roomPart 128 = .ok (.iconst 1, 1) := by decide +kernel
theorem dX8_roomPart_129 : decode cX8_roomPart 129 = .ok (.bipush 9, 2) := by decide +kernel
theorem dX8_roomPart_131 : decode cX8_roomPart 131 = .ok (.invokevirtual 290, 3) := by decide +kernel
theorem dX8_roomPart_134 : decode cX8_roomPart 134 = .ok (.iastore, 1) := by decide +kernel
theorem dX8_roomPart_135 : decode cX8_roomPart 135 = .ok (.aload_n 0, 1) := by decide +kernel
theorem dX8_roomPart_136 : decode cX8_roomPart 136 = .ok (.getfield 79, 3) := by decide +kernel
theorem dX8_roomPart_139 : decode cX8_roomPart 139 = .ok (.iload_n 2, 1) := by decide +kernel
theorem dX8_roomPart_140 : decode cX8_roomPart 140 = .ok (.aload_n 0, 1) := by decide +kernel
theorem dX8_roomPart_141 : decode cX8_roomPart 141 = .ok (.iconst 1, 1) := by decide +kernel
theorem dX8_roomPart_142 : decode cX8_roomPart 142 = .ok (.bipush 9, 2) := by decide +kernel
theorem dX8_roomPart_144 : decode cX8_roomPart 144 = .ok (.invokevirtual 290, 3) := by decide +kernel
theorem dX8_roomPart_147 : decode cX8_roomPart 147 = .ok (.iastore, 1) := by decide +kernel
theorem dX8_roomPart_148 : decode cX8_roomPart 148 = .ok (.aload_n 0, 1) := by decide +kernel
theorem dX8_roomPart_149 : decode cX8_roomPart 149 = .ok (.getfield 64, 3) := by decide +kernel
theorem dX8_roomPart_152 : decode cX8_roomPart 152 = .ok (.iconst 2, 1) := by decide +kernel
theorem dX8_roomPart_153 : decode cX8_roomPart 153 = .ok (.dup2, 1) := by decide +kernel
theorem dX8_roomPart_154 : decode cX8_roomPart 154 = .ok (.iaload, 1) := by decide +kernel
theorem dX8_roomPart_155 : decode cX8_roomPart 155 = .ok (.iconst 1, 1) := by decide +kernel
theorem dX8_roomPart_156 : decode cX8_roomPart 156 = .ok (.iadd, 1) := by decide +kernel
theorem dX8_roomPart_157 : decode cX8_roomPart 157 = .ok (.iastore, 1) := by decide +kernel
theorem dX8_roomPart_158 : decode cX8_roomPart 158 = .ok (.goto 71, 3) := by decide +kernel
theorem dX8_roomPart_161 : decode cX8_roomPart 161 = .ok (.aload_n 0, 1) := by decide +kernel
theorem dX8_roomPart_162 : decode cX8_roomPart 162 = .ok (.getfield 64, 3) := by decide +kernel
theorem dX8_roomPart_165 : decode cX8_roomPart 165 = .ok (.iconst 3, 1) := by decide +kernel
theorem dX8_roomPart_166 : decode cX8_roomPart 166 = .ok (.iaload, 1) := by decide +kernel
theorem dX8_roomPart_167 : decode cX8_roomPart 167 = .ok (.istore_n 2, 1) := by decide +kernel
theorem dX8_roomPart_168 : decode cX8_roomPart 168 = .ok (.aload_n 0, 1) := by decide +kernel
theorem dX8_roomPart_169 : decode cX8_roomPart 169 = .ok (.getfield 82, 3) := by decide +kernel
theorem dX8_roomPart_172 : decode cX8_roomPart 172 = .ok (.iload_n 2, 1) := by decide +kernel
theorem dX8_roomPart_173 : decode cX8_roomPart 173 = .ok (.aload_n 0, 1) := by decide +kernel
theorem dX8_roomPart_174 : decode cX8_roomPart 174 = .ok (.iconst 0, 1) := by decide +kernel
theorem dX8_roomPart_175 : decode cX8_roomPart 175 = .ok (.aload_n 0, 1) := by decide +kernel
theorem dX8_roomPart_176 : decode cX8_roomPart 176 = .ok (.getfield 64, 3) := by decide +kernel
theorem dX8_roomPart_179 : decode cX8_roomPart 179 = .ok (.iconst 1, 1) := by decide +kernel
theorem dX8_roomPart_180 : decode cX8_roomPart 180 = .ok (.iaload, 1) := by decide +kernel
theorem dX8_roomPart_181 : decode cX8_roomPart 181 = .ok (.iconst 1, 1) := by decide +kernel
theorem dX8_roomPart_182 : decode cX8_roomPart 182 = .ok (.isub, 1) := by decide +kernel
theorem dX8_roomPart_183 : decode cX8_roomPart 183 = .ok (.invokevirtual 290, 3) := by decide +kernel
theorem dX8_roomPart_186 : decode cX8_roomPart 186 = .ok (.iastore, 1) := by decide +kernel
theorem dX8_roomPart_187 : decode cX8_roomPart 187 = .ok (.aload_n 0, 1) := by decide +kernel
theorem dX8_roomPart_188 : decode cX8_roomPart 188 = .ok (.getfield 85, 3) := by decide +kernel
theorem dX8_roomPart_191 : decode cX8_roomPart 191 = .ok (.iload_n 2, 1) := by decide +kernel
theorem dX8_roomPart_192 : decode cX8_roomPart 192 = .ok (.aload_n 0, 1) := by decide +kernel
theorem dX8_roomPart_193 : decode cX8_roomPart 193 = .ok (.iconst 1, 1) := by decide +kernel
theorem dX8_roomPart_194 : decode cX8_roomPart 194 = .ok (.bipush 30, 2) := by decide +kernel
theorem dX8_roomPart_196 : decode cX8_roomPart 196 = .ok (.invokevirtual 290, 3) := by decide +kernel
theorem dX8_roomPart_199 : decode cX8_roomPart 199 = .ok (.iastore, 1) := by decide +kernel
theorem dX8_roomPart_200 : decode cX8_roomPart 200 = .ok (.aload_n 0, 1) := by decide +kernel
theorem dX8_roomPart_201 : decode cX8_roomPart 201 = .ok (.getfield 88, 3) := by decide +kernel
theorem dX8_roomPart_204 : decode cX8_roomPart 204 = .ok (.iload_n 2, 1) := by decide +kernel
theorem dX8_roomPart_205 : decode cX8_roomPart 205 = .ok (.aload_n 0, 1) := by decide +kernel
theorem dX8_roomPart_206 : decode cX8_roomPart 206 = .ok (.iconst 0, 1) := by decide +kernel
theorem dX8_roomPart_207 : decode cX8_roomPart 207 = .ok (.aload_n 0, 1) := by decide +kernel
theorem dX8_roomPart_208 : decode cX8_roomPart 208 = .ok (.getfield 85, 3) := by decide +kernel
theorem dX8_roomPart_211 : decode cX8_roomPart 211 = .ok (.iload_n 2, 1) := by decide +kernel
theorem dX8_roomPart_212 : decode cX8_roomPart 212 = .ok (.iaload, 1) := by decide +kernel
theorem dX8_roomPart_213 : decode cX8_roomPart 213 = .ok (.iconst 1, 1) := by decide +kernel
theorem dX8_roomPart_214 : decode cX8_roomPart 214 = .ok (.isub, 1) := by decide +kernel
theorem dX8_roomPart_215 : decode cX8_roomPart 215 = .ok (.invokevirtual 290, 3) := by decide +kernel
theorem dX8_roomPart_218 : decode cX8_roomPart 218 = .ok (.iastore, 1) := by decide +kernel
theorem dX8_roomPart_219 : decode cX8_roomPart 219 = .ok (.aload_n 0, 1) := by decide +kernel
theorem dX8_roomPart_220 : decode cX8_roomPart 220 = .ok (.getfield 64, 3) := by decide +kernel
theorem dX8_roomPart_223 : decode cX8_roomPart 223 = .ok (.iconst 3, 1) := by decide +kernel
theorem dX8_roomPart_224 : decode cX8_roomPart 224 = .ok (.dup2, 1) := by decide +kernel
theorem dX8_roomPart_225 : decode cX8_roomPart 225 = .ok (.iaload, 1) := by decide +kernel
theorem dX8_roomPart_226 : decode cX8_roomPart 226 = .ok (.iconst 1, 1) := by decide +kernel
theorem dX8_roomPart_227 : decode cX8_roomPart 227 = .ok (.iadd, 1) := by decide +kernel
theorem dX8_roomPart_228 : decode cX8_roomPart 228 = .ok (.iastore, 1) := by decide +kernel
theorem dX8_roomPart_229 : decode cX8_roomPart 229 = .ok (.return_, 1) := by decide +kernel
theorem dX8_isFull_0 : decode cX8_isFull 0 = .ok (.iload_n 2, 1) := by decide +kernel
theorem dX8_isFull_1 : decode cX8_isFull 1 = .ok (.bipush 40, 2) := by decide +kernel
theorem dX8_isFull_3 : decode cX8_isFull 3 = .ok (.if_icmp .eq 24, 3) := by decide +kernel
theorem dX8_isFull_6 : decode cX8_isFull 6 = .ok (.iload_n 1, 1) := by decide +kernel
theorem dX8_isFull_7 : decode cX8_isFull 7 = .ok (.ifCond .ne 7, 3) := by decide +kernel
theorem dX8_isFull_10 : decode cX8_isFull 10 = .ok (.iconst 1, 1) := by decide +kernel
theorem dX8_isFull_11 : decode cX8_isFull 11 = .ok (.goto 4, 3) := by decide +kernel
theorem dX8_isFull_14 : decode cX8_isFull 14 = .ok (.iconst 0, 1) := by decide +kernel
theorem dX8_isFull_15 : decode cX8_isFull 15 = .ok (.iload_n 2, 1) := by decide +kernel
theorem dX8_isFull_16 : decode cX8_isFull 16 = .ok (.ifCond .ne 7, 3) := by decide +kernel
theorem dX8_isFull_19 : decode cX8_isFull 19 = .ok (.iconst 1, 1) := by decide +kernel
theorem dX8_isFull_20 : decode cX8_isFull 20 = .ok (.goto 4, 3) := by decide +kernel
theorem dX8_isFull_23 : decode cX8_isFull 23 = .ok (.iconst 0, 1) := by decide +kernel
theorem dX8_isFull_24 : decode cX8_isFull 24 = .ok (.if_icmp .eq 5, 3) := by decide +kernel
theorem dX8_isFull_27 : decode cX8_isFull 27 = .ok (.iconst 1, 1) := by decide +kernel
theorem dX8_isFull_28 : decode cX8_isFull 28 = .ok (.ireturn, 1) := by decide +kernel
theorem dX8_isFull_29 : decode cX8_isFull 29 = .ok (.iload_n 1, 1) := by decide +kernel
theorem dX8_isFull_30 : decode cX8_isFull 30 = .ok (.iconst 1, 1) := by decide +kernel
theorem dX8_isFull_31 : decode cX8_isFull 31 = .ok (.if_icmp .ne 14, 3) := by decide +kernel
theorem dX8_isFull_34 : decode cX8_isFull 34 = .ok (.aload_n 0, 1) := by decide +kernel
theorem dX8_isFull_35 : decode cX8_isFull 35 = .ok (.getfield 64, 3) := by decide +kernel
theorem dX8_isFull_38 : decode cX8_isFull 38 = .ok (.iconst 1, 1) := by decide +kernel
theorem dX8_isFull_39 : decode cX8_isFull 39 = .ok (.iaload, 1) := by decide +kernel
theorem dX8_isFull_40 : decode cX8_isFull 40 = .ok (.bipush 6, 2) := by decide +kernel
theorem dX8_isFull_42 : decode cX8_isFull 42 = .ok (.if_icmp .eq 34, 3) := by decide +kernel
theorem dX8_isFull_45 : decode cX8_isFull 45 = .ok (.iload_n 1, 1) := by decide +kernel
theorem dX8_isFull_46 : decode cX8_isFull 46 = .ok (.iconst 2, 1) := by decide +kernel
theorem dX8_isFull_47 : decode cX8_isFull 47 = .ok (.if_icmp .ne 13, 3) := by decide +kernel
theorem dX8_isFull_50 : decode cX8_isFull 50 = .ok (.aload_n 0, 1) := by decide +kernel
theorem dX8_isFull_51 : decode cX8_isFull 51 = .ok (.getfield 64, 3) := by decide +kernel
theorem dX8_isFull_54 : decode cX8_isFull 54 = .ok (.iconst 2, 1) := by decide +kernel
theorem dX8_isFull_55 : decode cX8_isFull 55 = .ok (.iaload, 1) := by decide +kernel
theorem dX8_isFull_56 : decode cX8_isFull 56 = .ok (.iconst 3, 1) := by decide +kernel
theorem dX8_isFull_57 : decode cX8_isFull 57 = .ok (.if_icmp .eq 19, 3) := by decide +kernel
theorem dX8_isFull_60 : decode cX8_isFull 60 = .ok (.iload_n 1, 1) := by decide +kernel
theorem dX8_isFull_61 : decode cX8_isFull 61 = .ok (.iconst 3, 1) := by decide +kernel
theorem dX8_isFull_62 : decode cX8_isFull 62 = .ok (.if_icmp .ne 18, 3) := by decide +kernel
theorem dX8_isFull_65 : decode cX8_isFull 65 = .ok (.aload_n 0, 1) := by decide +kernel
theorem dX8_isFull_66 : decode cX8_isFull 66 = .ok (.getfield 64, 3) := by decide +kernel
theorem dX8_isFull_69 : decode cX8_isFull 69 = .ok (.iconst 3, 1) := by decide +kernel
theorem dX8_isFull_70 : decode cX8_isFull 70 = .ok (.iaload, 1) := by decide +kernel
theorem dX8_isFull_71 : decode cX8_isFull 71 = .ok (.bipush 8, 2) := by decide +kernel
theorem dX8_isFull_73 : decode cX8_isFull 73 = .ok (.if_icmp .ne 7, 3) := by decide +kernel
theorem dX8_isFull_76 : decode cX8_isFull 76 = .ok (.iconst 1, 1) := by decide +kernel
theorem dX8_isFull_77 : decode cX8_isFull 77 = .ok (.goto 4, 3) := by decide +kernel
theorem dX8_isFull_80 : decode cX8_isFull 80 = .ok (.iconst 0, 1) := by decide +kernel
theorem dX8_isFull_81 : decode cX8_isFull 81 = .ok (.ireturn, 1) := by decide +kernel
theorem dX8_roomClause_0 : decode cX8_roomClause 0 = .ok (.aload_n 0, 1) := by decide +kernel
theorem dX8_roomClause_1 : decode cX8_roomClause 1 = .ok (.invokevirtual 211, 3) := by decide +kernel
theorem dX8_roomClause_4 : decode cX8_roomClause 4 = .ok (.aload_n 0, 1) := by decide +kernel
theorem dX8_roomClause_5 : decode cX8_roomClause 5 = .ok (.getfield 191, 3) := by decide +kernel
theorem dX8_roomClause_8 : decode cX8_roomClause 8 = .ok (.istore_n 2, 1) := by decide +kernel
theorem dX8_roomClause_9 : decode cX8_roomClause 9 = .ok (.iconst 0, 1) := by decide +kernel
theorem dX8_roomClause_10 : decode cX8_roomClause 10 = .ok (.istore_n 3, 1) := by decide +kernel
theorem dX8_roomClause_11 : decode cX8_roomClause 11 = .ok (.iload_n 3, 1) := by decide +kernel
theorem dX8_roomClause_12 : decode cX8_roomClause 12 = .ok (.iconst 4, 1) := by decide +kernel
theorem dX8_roomClause_13 : decode cX8_roomClause 13 = .ok (.if_icmp .ge 20, 3) := by decide +kernel
theorem dX8_roomClause_16 : decode cX8_roomClause 16 = .ok (.aload_n 0, 1) := by decide +kernel
theorem dX8_roomClause_17 : decode cX8_roomClause 17 = .ok (.iload_n 3, 1) := by decide +kernel
theorem dX8_roomClause_18 : decode cX8_roomClause 18 = .ok (.invokestatic 294, 3) := by decide +kernel
theorem dX8_roomClause_21 : decode cX8_roomClause 21 = .ok (.invokevirtual 214, 3) := by decide +kernel
theorem dX8_roomClause_24 : decode cX8_roomClause 24 = .ok (.ifCond .ne 9, 3) := by decide +kernel
theorem dX8_roomClause_27 : decode cX8_roomClause 27 = .ok (.iinc 3 1, 3) := by decide +kernel
theorem dX8_roomClause_30 : decode cX8_roomClause 30 = .ok (.goto (-19), 3) := by decide +kernel
theorem dX8_roomClause_33 : decode cX8_roomClause 33 = .ok (.iload_n 3, 1) := by decide +kernel
theorem dX8_roomClause_34 : decode cX8_roomClause 34 = .ok (.iconst 4, 1) := by decide +kernel
theorem dX8_roomClause_35 : decode cX8_roomClause 35 = .ok (.if_icmp .ne 10, 3) := by decide +kernel
theorem dX8_roomClause_38 : decode cX8_roomClause 38 = .ok (.aload_n 0, 1) := by decide +kernel
theorem dX8_roomClause_39 : decode cX8_roomClause 39 = .ok (.iconst 0, 1) := by decide +kernel
theorem dX8_roomClause_40 : decode cX8_roomClause 40 = .ok (.iload_n 2, 1) := by decide +kernel
theorem dX8_roomClause_41 : decode cX8_roomClause 41 = .ok (.invokevirtual 227, 3) := by decide +kernel
theorem dX8_roomClause_44 : decode cX8_roomClause 44 = .ok (.return_, 1) := by decide +kernel
theorem dX8_roomClause_45 : decode cX8_roomClause 45 = .ok (.aload_n 0, 1) := by decide +kernel
theorem dX8_roomClause_46 : decode cX8_roomClause 46 = .ok (.iload_n 3, 1) := by decide +kernel
theorem dX8_roomClause_47 : decode cX8_roomClause 47 = .ok (.iload_n 1, 1) := by decide +kernel
theorem dX8_roomClause_48 : decode cX8_roomClause 48 = .ok (.invokevirtual 297, 3) := by decide +kernel
theorem dX8_roomClause_51 : decode cX8_roomClause 51 = .ok (.ifCond .eq 10, 3) := by decide +kernel
theorem dX8_roomClause_54 : decode cX8_roomClause 54 = .ok (.aload_n 0, 1) := by decide +kernel
theorem dX8_roomClause_55 : decode cX8_roomClause 55 = .ok (.iconst 4, 1) := by decide +kernel
theorem dX8_roomClause_56 : decode cX8_roomClause 56 = .ok (.iload_n 2, 1) := by decide +kernel
theorem dX8_roomClause_57 : decode cX8_roomClause 57 = .ok (.invokevirtual 227, 3) := by decide +kernel
theorem dX8_roomClause_60 : decode cX8_roomClause 60 = .ok (.return_, 1) := by decide +kernel
theorem dX8_roomClause_61 : decode cX8_roomClause 61 = .ok (.aload_n 0, 1) := by decide +kernel
theorem dX8_roomClause_62 : decode cX8_roomClause 62 = .ok (.dup, 1) := by decide +kernel
theorem dX8_roomClause_63 : decode cX8_roomClause 63 = .ok (.getfield 191, 3) := by decide +kernel
theorem dX8_roomClause_66 : decode cX8_roomClause 66 = .ok (.iload_n 3, 1) := by decide +kernel
theorem dX8_roomClause_67 : decode cX8_roomClause 67 = .ok (.invokestatic 294, 3) := by decide +kernel
theorem dX8_roomClause_70 : decode cX8_roomClause 70 = .ok (.invokevirtual 202, 3) := by decide +kernel
theorem dX8_roomClause_73 : decode cX8_roomClause 73 = .ok (.iadd, 1) := by decide +kernel
theorem dX8_roomClause_74 : decode cX8_roomClause 74 = .ok (.putfield 191, 3) := by decide +kernel
theorem dX8_roomClause_77 : decode cX8_roomClause 77 = .ok (.aload_n 0, 1) := by decide +kernel
theorem dX8_roomClause_78 : decode cX8_roomClause 78 = .ok (.iload_n 3, 1) := by decide +kernel
theorem dX8_roomClause_79 : decode cX8_roomClause 79 = .ok (.invokevirtual 301, 3) := by decide +kernel
theorem dX8_roomClause_82 : decode cX8_roomClause 82 = .ok (.return_, 1) := by decide +kernel
theorem dX8_copies_0 : decode cX8_copies 0 = .ok (.iconst 0, 1) := by decide +kernel
theorem dX8_copies_1 : decode cX8_copies 1 = .ok (.istore_n 2, 1) := by decide +kernel
theorem dX8_copies_2 : decode cX8_copies 2 = .ok (.iload_n 2, 1) := by decide +kernel
theorem dX8_copies_3 : decode cX8_copies 3 = .ok (.aload_n 0, 1) := by decide +kernel
theorem dX8_copies_4 : decode cX8_copies 4 = .ok (.arraylength, 1) := by decide +kernel
theorem dX8_copies_5 : decode cX8_copies 5 = .ok (.if_icmp .ge 15, 3) := by decide +kernel
theorem dX8_copies_8 : decode cX8_copies 8 = .ok (.aload_n 1, 1) := by decide +kernel
theorem dX8_copies_9 : decode cX8_copies 9 = .ok (.iload_n 2, 1) := by decide +kernel
theorem dX8_copies_10 : decode cX8_copies 10 = .ok (.aload_n 0, 1) := by decide +kernel
theorem dX8_copies_11 : decode cX8_copies 11 = .ok (.iload_n 2, 1) := by decide +kernel
theorem dX8_copies_12 : decode cX8_copies 12 = .ok (.iaload, 1) := by decide +kernel
theorem dX8_copies_13 : decode cX8_copies 13 = .ok (.iastore, 1) := by decide +kernel
theorem dX8_copies_14 : decode cX8_copies 14 = .ok (.iinc 2 1, 3) := by decide +kernel
theorem dX8_copies_17 : decode cX8_copies 17 = .ok (.goto (-15), 3) := by decide +kernel
theorem dX8_copies_20 : decode cX8_copies 20 = .ok (.return_, 1) := by decide +kernel
theorem dX8_goesOn_0 : decode cX8_goesOn 0 = .ok (.aload_n 0, 1) := by decide +kernel
theorem dX8_goesOn_1 : decode cX8_goesOn 1 = .ok (.invokevirtual 211, 3) := by decide +kernel
theorem dX8_goesOn_4 : decode cX8_goesOn 4 = .ok (.aload_n 0, 1) := by decide +kernel
theorem dX8_goesOn_5 : decode cX8_goesOn 5 = .ok (.getfield 188, 3) := by decide +kernel
theorem dX8_goesOn_8 : decode cX8_goesOn 8 = .ok (.ifCond .ne 32, 3) := by decide +kernel
theorem dX8_goesOn_11 : decode cX8_goesOn 11 = .ok (.aload_n 0, 1) := by decide +kernel
theorem dX8_goesOn_12 : decode cX8_goesOn 12 = .ok (.getfield 191, 3) := by decide +kernel
theorem dX8_goesOn_15 : decode cX8_goesOn 15 = .ok (.aload_n 0, 1) := by decide +kernel
theorem dX8_goesOn_16 : decode cX8_goesOn 16 = .ok (.getfield 165, 3) := by decide +kernel
theorem dX8_goesOn_19 : decode cX8_goesOn 19 = .ok (.if_icmp .ge 21, 3) := by decide +kernel
theorem dX8_goesOn_22 : decode cX8_goesOn 22 = .ok (.aload_n 0, 1) := by decide +kernel
theorem dX8_goesOn_23 : decode cX8_goesOn 23 = .ok (.invokevirtual 194, 3) := by decide +kernel
theorem dX8_goesOn_26 : decode cX8_goesOn 26 = .ok (.bipush 59, 2) := by decide +kernel
theorem dX8_goesOn_28 : decode cX8_goesOn 28 = .ok (.if_icmp .eq 12, 3) := by decide +kernel
theorem dX8_goesOn_31 : decode cX8_goesOn 31 = .ok (.aload_n 0, 1) := by decide +kernel
theorem dX8_goesOn_32 : decode cX8_goesOn 32 = .ok (.iconst 0, 1) := by decide +kernel
theorem dX8_goesOn_33 : decode cX8_goesOn 33 = .ok (.aload_n 0, 1) := by decide +kernel
theorem dX8_goesOn_34 : decode cX8_goesOn 34 = .ok (.getfield 191, 3) := by decide +kernel
theorem dX8_goesOn_37 : decode cX8_goesOn 37 = .ok (.invokevirtual 227, 3) := by decide +kernel
theorem dX8_goesOn_40 : decode cX8_goesOn 40 = .ok (.aload_n 0, 1) := by decide +kernel
theorem dX8_goesOn_41 : decode cX8_goesOn 41 = .ok (.getfield 188, 3) := by decide +kernel
theorem dX8_goesOn_44 : decode cX8_goesOn 44 = .ok (.ifCond .ne 18, 3) := by decide +kernel
theorem dX8_goesOn_47 : decode cX8_goesOn 47 = .ok (.aload_n 0, 1) := by decide +kernel
theorem dX8_goesOn_48 : decode cX8_goesOn 48 = .ok (.getfield 191, 3) := by decide +kernel
theorem dX8_goesOn_51 : decode cX8_goesOn 51 = .ok (.aload_n 0, 1) := by decide +kernel
theorem dX8_goesOn_52 : decode cX8_goesOn 52 = .ok (.getfield 165, 3) := by decide +kernel
theorem dX8_goesOn_55 : decode cX8_goesOn 55 = .ok (.if_icmp .ge 7, 3) := by decide +kernel
theorem dX8_goesOn_58 : decode cX8_goesOn 58 = .ok (.iconst 1, 1) := by decide +kernel
theorem dX8_goesOn_59 : decode cX8_goesOn 59 = .ok (.goto 4, 3) := by decide +kernel
theorem dX8_goesOn_62 : decode cX8_goesOn 62 = .ok (.iconst 0, 1) := by decide +kernel
theorem dX8_goesOn_63 : decode cX8_goesOn 63 = .ok (.istore_n 1, 1) := by decide +kernel
theorem dX8_goesOn_64 : decode cX8_goesOn 64 = .ok (.aload_n 0, 1) := by decide +kernel
theorem dX8_goesOn_65 : decode cX8_goesOn 65 = .ok (.dup, 1) := by decide +kernel
theorem dX8_goesOn_66 : decode cX8_goesOn 66 = .ok (.getfield 191, 3) := by decide +kernel
theorem dX8_goesOn_69 : decode cX8_goesOn 69 = .ok (.iconst 1, 1) := by decide +kernel
theorem dX8_goesOn_70 : decode cX8_goesOn 70 = .ok (.iadd, 1) := by decide +kernel
theorem dX8_goesOn_71 : decode cX8_goesOn 71 = .ok (.putfield 191, 3) := by decide +kernel
theorem dX8_goesOn_74 : decode cX8_goesOn 74 = .ok (.iload_n 1, 1) := by decide +kernel
theorem dX8_goesOn_75 : decode cX8_goesOn 75 = .ok (.ireturn, 1) := by decide +kernel
theorem dX8_starts_0 : decode cX8_starts 0 = .ok (.aload_n 0, 1) := by decide +kernel
theorem dX8_starts_1 : decode cX8_starts 1 = .ok (.iconst 0, 1) := by decide +kernel
theorem dX8_starts_2 : decode cX8_starts 2 = .ok (.putfield 191, 3) := by decide +kernel
theorem dX8_starts_5 : decode cX8_starts 5 = .ok (.aload_n 0, 1) := by decide +kernel
theorem dX8_starts_6 : decode cX8_starts 6 = .ok (.iconst 0, 1) := by decide +kernel
theorem dX8_starts_7 : decode cX8_starts 7 = .ok (.putfield 188, 3) := by decide +kernel
theorem dX8_starts_10 : decode cX8_starts 10 = .ok (.aload_n 0, 1) := by decide +kernel
theorem dX8_starts_11 : decode cX8_starts 11 = .ok (.iconst 0, 1) := by decide +kernel
theorem dX8_starts_12 : decode cX8_starts 12 = .ok (.putfield 221, 3) := by decide +kernel
theorem dX8_starts_15 : decode cX8_starts 15 = .ok (.aload_n 0, 1) := by decide +kernel
theorem dX8_starts_16 : decode cX8_starts 16 = .ok (.iconst 0, 1) := by decide +kernel
theorem dX8_starts_17 : decode cX8_starts 17 = .ok (.putfield 262, 3) := by decide +kernel
theorem dX8_starts_20 : decode cX8_starts 20 = .ok (.aload_n 0, 1) := by decide +kernel
theorem dX8_starts_21 : decode cX8_starts 21 = .ok (.iconst 0, 1) := by decide +kernel
theorem dX8_starts_22 : decode cX8_starts 22 = .ok (.putfield 224, 3) := by decide +kernel
theorem dX8_starts_25 : decode cX8_starts 25 = .ok (.return_, 1) := by decide +kernel
theorem dX8_readsAll_0 : decode cX8_readsAll 0 = .ok (.aload_n 0, 1) := by decide +kernel
theorem dX8_readsAll_1 : decode cX8_readsAll 1 = .ok (.invokevirtual 304, 3) := by decide +kernel
theorem dX8_readsAll_4 : decode cX8_readsAll 4 = .ok (.iconst 0, 1) := by decide +kernel
theorem dX8_readsAll_5 : decode cX8_readsAll 5 = .ok (.istore_n 1, 1) := by decide +kernel
theorem dX8_readsAll_6 : decode cX8_readsAll 6 = .ok (.iload_n 1, 1) := by decide +kernel
theorem dX8_readsAll_7 : decode cX8_readsAll 7 = .ok (.iconst 4, 1) := by decide +kernel
theorem dX8_readsAll_8 : decode cX8_readsAll 8 = .ok (.if_icmp .ge 16, 3) := by decide +kernel
theorem dX8_readsAll_11 : decode cX8_readsAll 11 = .ok (.aload_n 0, 1) := by decide +kernel
theorem dX8_readsAll_12 : decode cX8_readsAll 12 = .ok (.getfield 64, 3) := by decide +kernel
theorem dX8_readsAll_15 : decode cX8_readsAll 15 = .ok (.iload_n 1, 1) := by decide +kernel
theorem dX8_readsAll_16 : decode cX8_readsAll 16 = .ok (.iconst 0, 1) := by decide +kernel
theorem dX8_readsAll_17 : decode cX8_readsAll 17 = .ok (.iastore, 1) := by decide +kernel
theorem dX8_readsAll_18 : decode cX8_readsAll 18 = .ok (.iinc 1 1, 3) := by decide +kernel
theorem dX8_readsAll_21 : decode cX8_readsAll 21 = .ok (.goto (-15), 3) := by decide +kernel
theorem dX8_readsAll_24 : decode cX8_readsAll 24 = .ok (.iconst 0, 1) := by decide +kernel
theorem dX8_readsAll_25 : decode cX8_readsAll 25 = .ok (.istore_n 1, 1) := by decide +kernel
theorem dX8_readsAll_26 : decode cX8_readsAll 26 = .ok (.iconst 1, 1) := by decide +kernel
theorem dX8_readsAll_27 : decode cX8_readsAll 27 = .ok (.istore_n 2, 1) := by decide +kernel
theorem dX8_readsAll_28 : decode cX8_readsAll 28 = .ok (.iload_n 2, 1) := by decide +kernel
theorem dX8_readsAll_29 : decode cX8_readsAll 29 = .ok (.ifCond .eq 19, 3) := by decide +kernel
theorem dX8_readsAll_32 : decode cX8_readsAll 32 = .ok (.aload_n 0, 1) := by decide +kernel
theorem dX8_readsAll_33 : decode cX8_readsAll 33 = .ok (.iload_n 1, 1) := by decide +kernel
theorem dX8_readsAll_34 : decode cX8_readsAll 34 = .ok (.invokevirtual 307, 3) := by decide +kernel
theorem dX8_readsAll_37 : decode cX8_readsAll 37 = .ok (.iinc 1 1, 3) := by decide +kernel
theorem dX8_readsAll_40 : decode cX8_readsAll 40 = .ok (.aload_n 0, 1) := by decide +kernel
theorem dX8_readsAll_41 : decode cX8_readsAll 41 = .ok (.invokevirtual 310, 3) := by decide +kernel
theorem dX8_readsAll_44 : decode cX8_readsAll 44 = .ok (.istore_n 2, 1) := by decide +kernel
theorem dX8_readsAll_45 : decode cX8_readsAll 45 = .ok (.goto (-17), 3) := by decide +kernel
theorem dX8_readsAll_48 : decode cX8_readsAll 48 = .ok (.aload_n 0, 1) := by decide +kernel
theorem dX8_readsAll_49 : decode cX8_readsAll 49 = .ok (.iconst 0, 1) := by decide +kernel
theorem dX8_readsAll_50 : decode cX8_readsAll 50 = .ok (.putfield 165, 3) := by decide +kernel
theorem dX8_readsAll_53 : decode cX8_readsAll 53 = .ok (.return_, 1) := by decide +kernel
theorem dX8_begins_0 : decode cX8_begins 0 = .ok (.aload_n 0, 1) := by decide +kernel
theorem dX8_begins_1 : decode cX8_begins 1 = .ok (.getfield 55, 3) := by decide +kernel
theorem dX8_begins_4 : decode cX8_begins 4 = .ok (.aload_n 0, 1) := by decide +kernel
theorem dX8_begins_5 : decode cX8_begins 5 = .ok (.getfield 13, 3) := by decide +kernel
theorem dX8_begins_8 : decode cX8_begins 8 = .ok (.invokestatic 313, 3) := by decide +kernel
theorem dX8_begins_11 : decode cX8_begins 11 = .ok (.aload_n 0, 1) := by decide +kernel
theorem dX8_begins_12 : decode cX8_begins 12 = .ok (.getfield 58, 3) := by decide +kernel
theorem dX8_begins_15 : decode cX8_begins 15 = .ok (.aload_n 0, 1) := by decide +kernel
theorem dX8_begins_16 : decode cX8_begins 16 = .ok (.getfield 19, 3) := by decide +kernel
theorem dX8_begins_19 : decode cX8_begins 19 = .ok (.invokestatic 313, 3) := by decide +kernel
theorem dX8_begins_22 : decode cX8_begins 22 = .ok (.aload_n 0, 1) := by decide +kernel
theorem dX8_begins_23 : decode cX8_begins 23 = .ok (.getfield 61, 3) := by decide +kernel
theorem dX8_begins_26 : decode cX8_begins 26 = .ok (.aload_n 0, 1) := by decide +kernel
theorem dX8_begins_27 : decode cX8_begins 27 = .ok (.getfield 22, 3) := by decide +kernel
theorem dX8_begins_30 : decode cX8_begins 30 = .ok (.invokestatic 313, 3) := by decide +kernel
theorem dX8_begins_33 : decode cX8_begins 33 = .ok (.aload_n 0, 1) := by decide +kernel
theorem dX8_begins_34 : decode cX8_begins 34 = .ok (.getfield 9, 3) := by decide +kernel
theorem dX8_begins_37 : decode cX8_begins 37 = .ok (.iconst 4, 1) := by decide +kernel
theorem dX8_begins_38 : decode cX8_begins 38 = .ok (.iconst 0, 1) := by decide +kernel
theorem dX8_begins_39 : decode cX8_begins 39 = .ok (.iastore, 1) := by decide +kernel
theorem dX8_begins_40 : decode cX8_begins 40 = .ok (.aload_n 0, 1) := by decide +kernel
theorem dX8_begins_41 : decode cX8_begins 41 = .ok (.getfield 9, 3) := by decide +kernel
theorem dX8_begins_44 : decode cX8_begins 44 = .ok (.iconst 5, 1) := by decide +kernel
theorem dX8_begins_45 : decode cX8_begins 45 = .ok (.iconst 0, 1) := by decide +kernel
theorem dX8_begins_46 : decode cX8_begins 46 = .ok (.iastore, 1) := by decide +kernel
theorem dX8_begins_47 : decode cX8_begins 47 = .ok (.iconst 0, 1) := by decide +kernel
theorem dX8_begins_48 : decode cX8_begins 48 = .ok (.istore_n 1, 1) := by decide +kernel
theorem dX8_begins_49 : decode cX8_begins 49 = .ok (.iload_n 1, 1) := by decide +kernel
theorem dX8_begins_50 : decode cX8_begins 50 = .ok (.iconst 3, 1) := by decide +kernel
theorem dX8_begins_51 : decode cX8_begins 51 = .ok (.if_icmp .ge 16, 3) := by decide +kernel
theorem dX8_begins_54 : decode cX8_begins 54 = .ok (.aload_n 0, 1) := by decide +kernel
theorem dX8_begins_55 : decode cX8_begins 55 = .ok (.getfield 16, 3) := by decide +kernel
theorem dX8_begins_58 : decode cX8_begins 58 = .ok (.iload_n 1, 1) := by decide +kernel
theorem dX8_begins_59 : decode cX8_begins 59 = .ok (.iconst (-1), 1) := by decide +kernel
theorem dX8_begins_60 : decode cX8_begins 60 = .ok (.iastore, 1) := by decide +kernel
theorem dX8_begins_61 : decode cX8_begins 61 = .ok (.iinc 1 1, 3) := by decide +kernel
theorem dX8_begins_64 : decode cX8_begins 64 = .ok (.goto (-15), 3) := by decide +kernel
theorem dX8_begins_67 : decode cX8_begins 67 = .ok (.iconst 0, 1) := by decide +kernel
theorem dX8_begins_68 : decode cX8_begins 68 = .ok (.istore_n 1, 1) := by decide +kernel
theorem dX8_begins_69 : decode cX8_begins 69 = .ok (.iload_n 1, 1) := by decide +kernel
theorem dX8_begins_70 : decode cX8_begins 70 = .ok (.bipush 8, 2) := by decide +kernel
theorem dX8_begins_72 : decode cX8_begins 72 = .ok (.if_icmp .ge 23, 3) := by decide +kernel
theorem dX8_begins_75 : decode cX8_begins 75 = .ok (.aload_n 0, 1) := by decide +kernel
theorem dX8_begins_76 : decode cX8_begins 76 = .ok (.getfield 25, 3) := by decide +kernel
theorem dX8_begins_79 : decode cX8_begins 79 = .ok (.iload_n 1, 1) := by decide +kernel
theorem dX8_begins_80 : decode cX8_begins 80 = .ok (.iconst 0, 1) := by decide +kernel
theorem dX8_begins_81 : decode cX8_begins 81 = .ok (.iastore, 1) := by decide +kernel
theorem dX8_begins_82 : decode cX8_begins 82 = .ok (.aload_n 0, 1) := by decide +kernel
theorem dX8_begins_83 : decode cX8_begins 83 = .ok (.getfield 28, 3) := by decide +kernel
theorem dX8_begins_86 : decode cX8_begins 86 = .ok (.iload_n 1, 1) := by decide +kernel
theorem dX8_begins_87 : decode cX8_begins 87 = .ok (.iconst 0, 1) := by decide +kernel
theorem dX8_begins_88 : decode cX8_begins 88 = .ok (.iastore, 1) := by decide +kernel
theorem dX8_begins_89 : decode cX8_begins 89 = .ok (.iinc 1 1, 3) := by decide +kernel
theorem dX8_begins_92 : decode cX8_begins 92 = .ok (.goto (-23), 3) := by decide +kernel
theorem dX8_begins_95 : decode cX8_begins 95 = .ok (.return_, 1) := by decide +kernel
theorem dX8_room_0 : decode cX8_room 0 = .ok (.aload_n 0, 1) := by decide +kernel
theorem dX8_room_1 : decode cX8_room 1 = .ok (.invokevirtual 317, 3) := by decide +kernel
theorem dX8_room_4 : decode cX8_room 4 = .ok (.aload_n 0, 1) := by decide +kernel
theorem dX8_room_5 : decode cX8_room 5 = .ok (.getfield 188, 3) := by decide +kernel
theorem dX8_room_8 : decode cX8_room 8 = .ok (.ifCond .le 11, 3) := by decide +kernel
theorem dX8_room_11 : decode cX8_room 11 = .ok (.bipush (-2), 2) := by decide +kernel
theorem dX8_room_13 : decode cX8_room 13 = .ok (.aload_n 0, 1) := by decide +kernel
theorem dX8_room_14 : decode cX8_room 14 = .ok (.getfield 188, 3) := by decide +kernel
theorem dX8_room_17 : decode cX8_room 17 = .ok (.isub, 1) := by decide +kernel
theorem dX8_room_18 : decode cX8_room 18 = .ok (.ireturn, 1) := by decide +kernel
theorem dX8_room_19 : decode cX8_room 19 = .ok (.iconst 0, 1) := by decide +kernel
theorem dX8_room_20 : decode cX8_room 20 = .ok (.istore_n 1, 1) := by decide +kernel
theorem dX8_room_21 : decode cX8_room 21 = .ok (.iload_n 1, 1) := by decide +kernel
theorem dX8_room_22 : decode cX8_room 22 = .ok (.iconst 4, 1) := by decide +kernel
theorem dX8_room_23 : decode cX8_room 23 = .ok (.if_icmp .ge 21, 3) := by decide +kernel
theorem dX8_room_26 : decode cX8_room 26 = .ok (.aload_n 0, 1) := by decide +kernel
theorem dX8_room_27 : decode cX8_room 27 = .ok (.getfield 9, 3) := by decide +kernel
theorem dX8_room_30 : decode cX8_room 30 = .ok (.iload_n 1, 1) := by decide +kernel
theorem dX8_room_31 : decode cX8_room 31 = .ok (.aload_n 0, 1) := by decide +kernel
theorem dX8_room_32 : decode cX8_room 32 = .ok (.getfield 64, 3) := by decide +kernel
theorem dX8_room_35 : decode cX8_room 35 = .ok (.iload_n 1, 1) := by decide +kernel
theorem dX8_room_36 : decode cX8_room 36 = .ok (.iaload, 1) := by decide +kernel
theorem dX8_room_37 : decode cX8_room 37 = .ok (.iastore, 1) := by decide +kernel
theorem dX8_room_38 : decode cX8_room 38 = .ok (.iinc 1 1, 3) := by decide +kernel
theorem dX8_room_41 : decode cX8_room 41 = .ok (.goto (-20), 3) := by decide +kernel
theorem dX8_room_44 : decode cX8_room 44 = .ok (.aload_n 0, 1) := by decide +kernel
theorem dX8_room_45 : decode cX8_room 45 = .ok (.getfield 9, 3) := by decide +kernel
theorem dX8_room_48 : decode cX8_room 48 = .ok (.bipush 6, 2) := by decide +kernel
theorem dX8_room_50 : decode cX8_room 50 = .ok (.iconst 0, 1) := by decide +kernel
theorem dX8_room_51 : decode cX8_room 51 = .ok (.iastore, 1) := by decide +kernel
theorem dX8_room_52 : decode cX8_room 52 = .ok (.aload_n 0, 1) := by decide +kernel
theorem dX8_room_53 : decode cX8_room 53 = .ok (.getfield 67, 3) := by decide +kernel
theorem dX8_room_56 : decode cX8_room 56 = .ok (.aload_n 0, 1) := by decide +kernel
theorem dX8_room_57 : decode cX8_room 57 = .ok (.getfield 61, 3) := by decide +kernel
theorem dX8_room_60 : decode cX8_room 60 = .ok (.invokestatic 313, 3) := by decide +kernel
theorem dX8_room_63 : decode cX8_room 63 = .ok (.aload_n 0, 1) := by decide +kernel
theorem dX8_room_64 : decode cX8_room 64 = .ok (.getfield 70, 3) := by decide +kernel
theorem dX8_room_67 : decode cX8_room 67 = .ok (.aload_n 0, 1) := by decide +kernel
theorem dX8_room_68 : decode cX8_room 68 = .ok (.getfield 31, 3) := by decide +kernel
theorem dX8_room_71 : decode cX8_room 71 = .ok (.invokestatic 313, 3) := by decide +kernel
theorem dX8_room_74 : decode cX8_room 74 = .ok (.aload_n 0, 1) := by decide +kernel
theorem dX8_room_75 : decode cX8_room 75 = .ok (.getfield 73, 3) := by decide +kernel
theorem dX8_room_78 : decode cX8_room 78 = .ok (.aload_n 0, 1) := by decide +kernel
theorem dX8_room_79 : decode cX8_room 79 = .ok (.getfield 55, 3) := by decide +kernel
theorem dX8_room_82 : decode cX8_room 82 = .ok (.invokestatic 313, 3) := by decide +kernel
theorem dX8_room_85 : decode cX8_room 85 = .ok (.aload_n 0, 1) := by decide +kernel
theorem dX8_room_86 : decode cX8_room 86 = .ok (.getfield 76, 3) := by decide +kernel
theorem dX8_room_89 : decode cX8_room 89 = .ok (.aload_n 0, 1) := by decide +kernel
theorem dX8_room_90 : decode cX8_room 90 = .ok (.getfield 34, 3) := by decide +kernel
theorem dX8_room_93 : decode cX8_room 93 = .ok (.invokestatic 313, 3) := by decide +kernel
theorem dX8_room_96 : decode cX8_room 96 = .ok (.aload_n 0, 1) := by decide +kernel
theorem dX8_room_97 : decode cX8_room 97 = .ok (.getfield 79, 3) := by decide +kernel
theorem dX8_room_100 : decode cX8_room 100 = .ok (.aload_n 0, 1) := by decide +kernel
theorem dX8_room_101 : decode cX8_room 101 = .ok (.getfield 58, 3) := by decide +kernel
theorem dX8_room_104 : decode cX8_room 104 = .ok (.invokestatic 313, 3) := by decide +kernel
theorem dX8_room_107 : decode cX8_room 107 = .ok (.aload_n 0, 1) := by decide +kernel
theorem dX8_room_108 : decode cX8_room 108 = .ok (.getfield 82, 3) := by decide +kernel
theorem dX8_room_111 : decode cX8_room 111 = .ok (.aload_n 0, 1) := by decide +kernel
theorem dX8_room_112 : decode cX8_room 112 = .ok (.getfield 37, 3) := by decide +kernel
theorem dX8_room_115 : decode cX8_room 115 = .ok (.invokestatic 313, 3) := by decide +kernel
theorem dX8_room_118 : decode cX8_room 118 = .ok (.aload_n 0, 1) := by decide +kernel
theorem dX8_room_119 : decode cX8_room 119 = .ok (.getfield 85, 3) := by decide +kernel
theorem dX8_room_122 : decode cX8_room 122 = .ok (.aload_n 0, 1) := by decide +kernel
theorem dX8_room_123 : decode cX8_room 123 = .ok (.getfield 40, 3) := by decide +kernel
theorem dX8_room_126 : decode cX8_room 126 = .ok (.invokestatic 313, 3) := by decide +kernel
theorem dX8_room_129 : decode cX8_room 129 = .ok (.aload_n 0, 1) := by decide +kernel
theorem dX8_room_130 : decode cX8_room 130 = .ok (.getfield 88, 3) := by decide +kernel
theorem dX8_room_133 : decode cX8_room 133 = .ok (.aload_n 0, 1) := by decide +kernel
theorem dX8_room_134 : decode cX8_room 134 = .ok (.getfield 43, 3) := by decide +kernel
theorem dX8_room_137 : decode cX8_room 137 = .ok (.invokestatic 313, 3) := by decide +kernel
theorem dX8_room_140 : decode cX8_room 140 = .ok (.aload_n 0, 1) := by decide +kernel
theorem dX8_room_141 : decode cX8_room 141 = .ok (.invokevirtual 320, 3) := by decide +kernel
theorem dX8_room_144 : decode cX8_room 144 = .ok (.aload_n 0, 1) := by decide +kernel
theorem dX8_room_145 : decode cX8_room 145 = .ok (.iconst 0, 1) := by decide +kernel
theorem dX8_room_146 : decode cX8_room 146 = .ok (.putfield 323, 3) := by decide +kernel
theorem dX8_room_149 : decode cX8_room 149 = .ok (.aload_n 0, 1) := by decide +kernel
theorem dX8_room_150 : decode cX8_room 150 = .ok (.getfield 9, 3) := by decide +kernel
theorem dX8_room_153 : decode cX8_room 153 = .ok (.iconst 1, 1) := by decide +kernel
theorem dX8_room_154 : decode cX8_room 154 = .ok (.iaload, 1) := by decide +kernel
theorem dX8_room_155 : decode cX8_room 155 = .ok (.ireturn, 1) := by decide +kernel
theorem dX8_ruleClause_0 : decode cX8_ruleClause 0 = .ok (.aload_n 0, 1) := by decide +kernel
theorem dX8_ruleClause_1 : decode cX8_ruleClause 1 = .ok (.invokevirtual 211, 3) := by decide +kernel
theorem dX8_ruleClause_4 : decode cX8_ruleClause 4 = .ok (.aload_n 0, 1) := by decide +kernel
theorem dX8_ruleClause_5 : decode cX8_ruleClause 5 = .ok (.getfield 191, 3) := by decide +kernel
theorem dX8_ruleClause_8 : decode cX8_ruleClause 8 = .ok (.istore_n 2, 1) := by decide +kernel
theorem dX8_ruleClause_9 : decode cX8_ruleClause 9 = .ok (.aload_n 0, 1) := by decide +kernel
theorem dX8_ruleClause_10 : decode cX8_ruleClause 10 = .ok (.ldc_w 326, 3) := by decide +kernel
theorem dX8_ruleClause_13 : decode cX8_ruleClause 13 = .ok (.invokevirtual 214, 3) := by decide +kernel
theorem dX8_ruleClause_16 : decode cX8_ruleClause 16 = .ok (.ifCond .ne 10, 3) := by decide +kernel
theorem dX8_ruleClause_19 : decode cX8_ruleClause 19 = .ok (.aload_n 0, 1) := by decide +kernel
theorem dX8_ruleClause_20 : decode cX8_ruleClause 20 = .ok (.iconst 0, 1) := by decide +kernel
theorem dX8_ruleClause_21 : decode cX8_ruleClause 21 = .ok (.iload_n 2, 1) := by decide +kernel
theorem dX8_ruleClause_22 : decode cX8_ruleClause 22 = .ok (.invokevirtual 227, 3) := by decide +kernel
theorem dX8_ruleClause_25 : decode cX8_ruleClause 25 = .ok (.return_, 1) := by decide +kernel
theorem dX8_ruleClause_26 : decode cX8_ruleClause 26 = .ok (.iload_n 1, 1) := by decide +kernel
theorem dX8_ruleClause_27 : decode cX8_ruleClause 27 = .ok (.bipush 12, 2) := by decide +kernel
theorem dX8_ruleClause_29 : decode cX8_ruleClause 29 = .ok (.if_icmp .ne 10, 3) := by decide +kernel
theorem dX8_ruleClause_32 : decode cX8_ruleClause 32 = .ok (.aload_n 0, 1) := by decide +kernel
theorem dX8_ruleClause_33 : decode cX8_ruleClause 33 = .ok (.iconst 4, 1) := by decide +kernel
theorem dX8_ruleClause_34 : decode cX8_ruleClause 34 = .ok (.iload_n 2, 1) := by decide +kernel
theorem dX8_ruleClause_35 : decode cX8_ruleClause 35 = .ok (.invokevirtual 227, 3) := by decide +kernel
theorem dX8_ruleClause_38 : decode cX8_ruleClause 38 = .ok (.return_, 1) := by decide +kernel
theorem dX8_ruleClause_39 : decode cX8_ruleClause 39 = .ok (.aload_n 0, 1) := by decide +kernel
theorem dX8_ruleClause_40 : decode cX8_ruleClause 40 = .ok (.dup, 1) := by decide +kernel
theorem dX8_ruleClause_41 : decode cX8_ruleClause 41 = .ok (.getfield 191, 3) := by decide +kernel
theorem dX8_ruleClause_44 : decode cX8_ruleClause 44 = .ok (.iconst 3, 1) := by decide +kernel
theorem dX8_ruleClause_45 : decode cX8_ruleClause 45 = .ok (.iadd, 1) := by decide +kernel
theorem dX8_ruleClause_46 : decode cX8_ruleClause 46 = .ok (.putfield 191, 3) := by decide +kernel
theorem dX8_ruleClause_49 : decode cX8_ruleClause 49 = .ok (.bipush 12, 2) := by decide +kernel
theorem dX8_ruleClause_51 : decode cX8_ruleClause 51 = .ok (.aload_n 0, 1) := by decide +kernel
theorem dX8_ruleClause_52 : decode cX8_ruleClause 52 = .ok (.getfield 218, 3) := by decide +kernel
theorem dX8_ruleClause_55 : decode cX8_ruleClause 55 = .ok (.imul, 1) := by decide +kernel
theorem dX8_ruleClause_56 : decode cX8_ruleClause 56 = .ok (.iload_n 1, 1) := by decide +kernel
theorem dX8_ruleClause_57 : decode cX8_ruleClause 57 = .ok (.iadd, 1) := by decide +kernel
theorem dX8_ruleClause_58 : decode cX8_ruleClause 58 = .ok (.istore_n 3, 1) := by decide +kernel
theorem dX8_ruleClause_59 : decode cX8_ruleClause 59 = .ok (.aload_n 0, 1) := by decide +kernel
theorem dX8_ruleClause_60 : decode cX8_ruleClause 60 = .ok (.getfield 108, 3) := by decide +kernel
theorem dX8_ruleClause_63 : decode cX8_ruleClause 63 = .ok (.iload_n 3, 1) := by decide +kernel
theorem dX8_ruleClause_64 : decode cX8_ruleClause 64 = .ok (.aload_n 0, 1) := by decide +kernel
theorem dX8_ruleClause_65 : decode cX8_ruleClause 65 = .ok (.getfield 221, 3) := by decide +kernel
theorem dX8_ruleClause_68 : decode cX8_ruleClause 68 = .ok (.iastore, 1) := by decide +kernel
theorem dX8_ruleClause_69 : decode cX8_ruleClause 69 = .ok (.aload_n 0, 1) := by decide +kernel
theorem dX8_ruleClause_70 : decode cX8_ruleClause 70 = .ok (.invokevirtual 256, 3) := by decide +kernel
theorem dX8_ruleClause_73 : decode cX8_ruleClause 73 = .ok (.aload_n 0, 1) := by decide +kernel
theorem dX8_ruleClause_74 : decode cX8_ruleClause 74 = .ok (.getfield 111, 3) := by decide +kernel
theorem dX8_ruleClause_77 : decode cX8_ruleClause 77 = .ok (.iload_n 3, 1) := by decide +kernel
theorem dX8_ruleClause_78 : decode cX8_ruleClause 78 = .ok (.aload_n 0, 1) := by decide +kernel
theorem dX8_ruleClause_79 : decode cX8_ruleClause 79 = .ok (.getfield 221, 3) := by decide +kernel
theorem dX8_ruleClause_82 : decode cX8_ruleClause 82 = .ok (.iastore, 1) := by decide +kernel
theorem dX8_ruleClause_83 : decode cX8_ruleClause 83 = .ok (.aload_n 0, 1) := by decide +kernel
theorem dX8_ruleClause_84 : decode cX8_ruleClause 84 = .ok (.getfield 188, 3) := by decide +kernel
theorem dX8_ruleClause_87 : decode cX8_ruleClause 87 = .ok (.ifCond .ne 17, 3) := by decide +kernel
theorem dX8_ruleClause_90 : decode cX8_ruleClause 90 = .ok (.aload_n 0, 1) := by decide +kernel
theorem dX8_ruleClause_91 : decode cX8_ruleClause 91 = .ok (.ldc_w 328, 3) := by decide +kernel
theorem dX8_ruleClause_94 : decode cX8_ruleClause 94 = .ok (.invokevirtual 330, 3) := by decide +kernel
theorem dX8_ruleClause_97 : decode cX8_ruleClause 97 = .ok (.ifCond .eq 7, 3) := by decide +kernel
theorem dX8_ruleClause_100 : decode cX8_ruleClause 100 = .ok (.aload_n 0, 1) := by decide +kernel
theorem dX8_ruleClause_101 : decode cX8_ruleClause 101 = .ok (.invokevirtual 333, 3) := by decide +kernel
theorem dX8_ruleClause_104 : decode cX8_ruleClause 104 = .ok (.aload_n 0, 1) := by decide +kernel
theorem dX8_ruleClause_105 : decode cX8_ruleClause 105 = .ok (.getfield 114, 3) := by decide +kernel
theorem dX8_ruleClause_108 : decode cX8_ruleClause 108 = .ok (.iload_n 3, 1) := by decide +kernel
theorem dX8_ruleClause_109 : decode cX8_ruleClause 109 = .ok (.aload_n 0, 1) := by decide +kernel
theorem dX8_ruleClause_110 : decode cX8_ruleClause 110 = .ok (.getfield 221, 3) := by decide +kernel
theorem dX8_ruleClause_113 : decode cX8_ruleClause 113 = .ok (.iastore, 1) := by decide +kernel
theorem dX8_ruleClause_114 : decode cX8_ruleClause 114 = .ok (.return_, 1) := by decide +kernel
theorem dX8_rule_0 : decode cX8_rule 0 = .ok (.aload_n 0, 1) := by decide +kernel
theorem dX8_rule_1 : decode cX8_rule 1 = .ok (.getfield 336, 3) := by decide +kernel
theorem dX8_rule_4 : decode cX8_rule 4 = .ok (.bipush 6, 2) := by decide +kernel
theorem dX8_rule_6 : decode cX8_rule 6 = .ok (.if_icmp .ne 5, 3) := by decide +kernel
theorem dX8_rule_9 : decode cX8_rule 9 = .ok (.iconst (-1), 1) := by decide +kernel
theorem dX8_rule_10 : decode cX8_rule 10 = .ok (.ireturn, 1) := by decide +kernel
theorem dX8_rule_11 : decode cX8_rule 11 = .ok (.aload_n 0, 1) := by decide +kernel
theorem dX8_rule_12 : decode cX8_rule 12 = .ok (.aload_n 0, 1) := by decide +kernel
theorem dX8_rule_13 : decode cX8_rule 13 = .ok (.getfield 336, 3) := by decide +kernel
theorem dX8_rule_16 : decode cX8_rule 16 = .ok (.putfield 218, 3) := by decide +kernel
theorem dX8_rule_19 : decode cX8_rule 19 = .ok (.aload_n 0, 1) := by decide +kernel
theorem dX8_rule_20 : decode cX8_rule 20 = .ok (.invokevirtual 304, 3) := by decide +kernel
theorem dX8_rule_23 : decode cX8_rule 23 = .ok (.iconst 0, 1) := by decide +kernel
theorem dX8_rule_24 : decode cX8_rule 24 = .ok (.istore_n 1, 1) := by decide +kernel
theorem dX8_rule_25 : decode cX8_rule 25 = .ok (.iconst 1, 1) := by decide +kernel
theorem dX8_rule_26 : decode cX8_rule 26 = .ok (.istore_n 2, 1) := by decide +kernel
theorem dX8_rule_27 : decode cX8_rule 27 = .ok (.iload_n 2, 1) := by decide +kernel
theorem dX8_rule_28 : decode cX8_rule 28 = .ok (.ifCond .eq 19, 3) := by decide +kernel
theorem dX8_rule_31 : decode cX8_rule 31 = .ok (.aload_n 0, 1) := by decide +kernel
theorem dX8_rule_32 : decode cX8_rule 32 = .ok (.iload_n 1, 1) := by decide +kernel
theorem dX8_rule_33 : decode cX8_rule 33 = .ok (.invokevirtual 339, 3) := by decide +kernel
theorem dX8_rule_36 : decode cX8_rule 36 = .ok (.iinc 1 1, 3) := by decide +kernel
theorem dX8_rule_39 : decode cX8_rule 39 = .ok (.aload_n 0, 1) := by decide +kernel
theorem dX8_rule_40 : decode cX8_rule 40 = .ok (.invokevirtual 310, 3) := by decide +kernel
theorem dX8_rule_43 : decode cX8_rule 43 = .ok (.istore_n 2, 1) := by decide +kernel
theorem dX8_rule_44 : decode cX8_rule 44 = .ok (.goto (-17), 3) := by decide +kernel
theorem dX8_rule_47 : decode cX8_rule 47 = .ok (.aload_n 0, 1) := by decide +kernel
theorem dX8_rule_48 : decode cX8_rule 48 = .ok (.iconst 0, 1) := by decide +kernel
theorem dX8_rule_49 : decode cX8_rule 49 = .ok (.putfield 165, 3) := by decide +kernel
theorem dX8_rule_52 : decode cX8_rule 52 = .ok (.aload_n 0, 1) := by decide +kernel
theorem dX8_rule_53 : decode cX8_rule 53 = .ok (.getfield 105, 3) := by decide +kernel
theorem dX8_rule_56 : decode cX8_rule 56 = .ok (.aload_n 0, 1) := by decide +kernel
theorem dX8_rule_57 : decode cX8_rule 57 = .ok (.getfield 218, 3) := by decide +kernel
theorem dX8_rule_60 : decode cX8_rule 60 = .ok (.iload_n 1, 1) := by decide +kernel
theorem dX8_rule_61 : decode cX8_rule 61 = .ok (.iastore, 1) := by decide +kernel
theorem dX8_rule_62 : decode cX8_rule 62 = .ok (.aload_n 0, 1) := by decide +kernel
theorem dX8_rule_63 : decode cX8_rule 63 = .ok (.dup, 1) := by decide +kernel
theorem dX8_rule_64 : decode cX8_rule 64 = .ok (.getfield 336, 3) := by decide +kernel
theorem dX8_rule_67 : decode cX8_rule 67 = .ok (.aload_n 0, 1) := by decide +kernel
theorem dX8_rule_68 : decode cX8_rule 68 = .ok (.getfield 188, 3) := by decide +kernel
theorem dX8_rule_71 : decode cX8_rule 71 = .ok (.ifCond .ne 7, 3) := by decide +kernel
theorem dX8_rule_74 : decode cX8_rule 74 = .ok (.iconst 1, 1) := by decide +kernel
theorem dX8_rule_75 : decode cX8_rule 75 = .ok (.goto 4, 3) := by decide +kernel
theorem dX8_rule_78 : decode cX8_rule 78 = .ok (.iconst 0, 1) := by decide +kernel
theorem dX8_rule_79 : decode cX8_rule 79 = .ok (.iadd, 1) := by decide +kernel
theorem dX8_rule_80 : decode cX8_rule 80 = .ok (.putfield 336, 3) := by decide +kernel
theorem dX8_rule_83 : decode cX8_rule 83 = .ok (.aload_n 0, 1) := by decide +kernel
theorem dX8_rule_84 : decode cX8_rule 84 = .ok (.getfield 188, 3) := by decide +kernel
theorem dX8_rule_87 : decode cX8_rule 87 = .ok (.ifCond .le 13, 3) := by decide +kernel
theorem dX8_rule_90 : decode cX8_rule 90 = .ok (.bipush (-2), 2) := by decide +kernel
theorem dX8_rule_92 : decode cX8_rule 92 = .ok (.aload_n 0, 1) := by decide +kernel
theorem dX8_rule_93 : decode cX8_rule 93 = .ok (.getfield 188, 3) := by decide +kernel
theorem dX8_rule_96 : decode cX8_rule 96 = .ok (.isub, 1) := by decide +kernel
theorem dX8_rule_97 : decode cX8_rule 97 = .ok (.goto 9, 3) := by decide +kernel
theorem dX8_rule_100 : decode cX8_rule 100 = .ok (.aload_n 0, 1) := by decide +kernel
theorem dX8_rule_101 : decode cX8_rule 101 = .ok (.getfield 336, 3) := by decide +kernel
theorem dX8_rule_104 : decode cX8_rule 104 = .ok (.iconst 1, 1) := by decide +kernel
theorem dX8_rule_105 : decode cX8_rule 105 = .ok (.isub, 1) := by decide +kernel
theorem dX8_rule_106 : decode cX8_rule 106 = .ok (.ireturn, 1) := by decide +kernel
theorem dX8_force_0 : decode cX8_force 0 = .ok (.iload_n 1, 1) := by decide +kernel
theorem dX8_force_1 : decode cX8_force 1 = .ok (.i2l, 1) := by decide +kernel
theorem dX8_force_2 : decode cX8_force 2 = .ok (.ldc2_w 342, 3) := by decide +kernel
theorem dX8_force_5 : decode cX8_force 5 = .ok (.aload_n 0, 1) := by decide +kernel
theorem dX8_force_6 : decode cX8_force 6 = .ok (.getfield 336, 3) := by decide +kernel
theorem dX8_force_9 : decode cX8_force 9 = .ok (.iconst 1, 1) := by decide +kernel
theorem dX8_force_10 : decode cX8_force 10 = .ok (.isub, 1) := by decide +kernel
theorem dX8_force_11 : decode cX8_force 11 = .ok (.i2l, 1) := by decide +kernel
theorem dX8_force_12 : decode cX8_force 12 = .ok (.invokestatic 161, 3) := by decide +kernel
theorem dX8_force_15 : decode cX8_force 15 = .ok (.ifCond .ne 6, 3) := by decide +kernel
theorem dX8_force_18 : decode cX8_force 18 = .ok (.bipush (-2), 2) := by decide +kernel
theorem dX8_force_20 : decode cX8_force 20 = .ok (.ireturn, 1) := by decide +kernel
theorem dX8_force_21 : decode cX8_force 21 = .ok (.aload_n 0, 1) := by decide +kernel
theorem dX8_force_22 : decode cX8_force 22 = .ok (.getfield 9, 3) := by decide +kernel
theorem dX8_force_25 : decode cX8_force 25 = .ok (.bipush 8, 2) := by decide +kernel
theorem dX8_force_27 : decode cX8_force 27 = .ok (.iaload, 1) := by decide +kernel
theorem dX8_force_28 : decode cX8_force 28 = .ok (.istore_n 2, 1) := by decide +kernel
theorem dX8_force_29 : decode cX8_force 29 = .ok (.aload_n 0, 1) := by decide +kernel
theorem dX8_force_30 : decode cX8_force 30 = .ok (.getfield 9, 3) := by decide +kernel
theorem dX8_force_33 : decode cX8_force 33 = .ok (.bipush 8, 2) := by decide +kernel
theorem dX8_force_35 : decode cX8_force 35 = .ok (.iload_n 1, 1) := by decide +kernel
theorem dX8_force_36 : decode cX8_force 36 = .ok (.iastore, 1) := by decide +kernel
theorem dX8_force_37 : decode cX8_force 37 = .ok (.iload_n 2, 1) := by decide +kernel
theorem dX8_force_38 : decode cX8_force 38 = .ok (.ireturn, 1) := by decide +kernel
theorem dX8_wanted_0 : decode cX8_wanted 0 = .ok (.aload_n 0, 1) := by decide +kernel
theorem dX8_wanted_1 : decode cX8_wanted 1 = .ok (.getfield 9, 3) := by decide +kernel
theorem dX8_wanted_4 : decode cX8_wanted 4 = .ok (.bipush 8, 2) := by decide +kernel
theorem dX8_wanted_6 : decode cX8_wanted 6 = .ok (.iaload, 1) := by decide +kernel
theorem dX8_wanted_7 : decode cX8_wanted 7 = .ok (.istore_n 1, 1) := by decide +kernel
theorem dX8_wanted_8 : decode cX8_wanted 8 = .ok (.bipush 12, 2) := by decide +kernel
theorem dX8_wanted_10 : decode cX8_wanted 10 = .ok (.iload_n 1, 1) := by decide +kernel
theorem dX8_wanted_11 : decode cX8_wanted 11 = .ok (.imul, 1) := by decide +kernel
theorem dX8_wanted_12 : decode cX8_wanted 12 = .ok (.istore_n 2, 1) := by decide +kernel
theorem dX8_wanted_13 : decode cX8_wanted 13 = .ok (.iload_n 2, 1) := by decide +kernel
theorem dX8_wanted_14 : decode cX8_wanted 14 = .ok (.bipush 12, 2) := by decide +kernel
theorem dX8_wanted_16 : decode cX8_wanted 16 = .ok (.iload_n 1, 1) := by decide +kernel
theorem dX8_wanted_17 : decode cX8_wanted 17 = .ok (.imul, 1) := by decide +kernel
theorem dX8_wanted_18 : decode cX8_wanted 18 = .ok (.aload_n 0, 1) := by decide +kernel
theorem dX8_wanted_19 : decode cX8_wanted 19 = .ok (.getfield 105, 3) := by decide +kernel
theorem dX8_wanted_22 : decode cX8_wanted 22 = .ok (.iload_n 1, 1) := by decide +kernel
theorem dX8_wanted_23 : decode cX8_wanted 23 = .ok (.iaload, 1) := by decide +kernel
theorem dX8_wanted_24 : decode cX8_wanted 24 = .ok (.iadd, 1) := by decide +kernel
theorem dX8_wanted_25 : decode cX8_wanted 25 = .ok (.if_icmp .ge 64, 3) := by decide +kernel
theorem dX8_wanted_28 : decode cX8_wanted 28 = .ok (.aload_n 0, 1) := by decide +kernel
theorem dX8_wanted_29 : decode cX8_wanted 29 = .ok (.getfield 111, 3) := by decide +kernel
theorem dX8_wanted_32 : decode cX8_wanted 32 = .ok (.iload_n 2, 1) := by decide +kernel
theorem dX8_wanted_33 : decode cX8_wanted 33 = .ok (.iaload, 1) := by decide +kernel
theorem dX8_wanted_34 : decode cX8_wanted 34 = .ok (.aload_n 0, 1) := by decide +kernel
theorem dX8_wanted_35 : decode cX8_wanted 35 = .ok (.getfield 114, 3) := by decide +kernel
theorem dX8_wanted_38 : decode cX8_wanted 38 = .ok (.iload_n 2, 1) := by decide +kernel
theorem dX8_wanted_39 : decode cX8_wanted 39 = .ok (.iaload, 1) := by decide +kernel
theorem dX8_wanted_40 : decode cX8_wanted 40 = .ok (.if_icmp .eq 25, 3) := by decide +kernel
theorem dX8_wanted_43 : decode cX8_wanted 43 = .ok (.aload_n 0, 1) := by decide +kernel
theorem dX8_wanted_44 : decode cX8_wanted 44 = .ok (.iload_n 1, 1) := by decide +kernel
theorem dX8_wanted_45 : decode cX8_wanted 45 = .ok (.aload_n 0, 1) := by decide +kernel
theorem dX8_wanted_46 : decode cX8_wanted 46 = .ok (.getfield 111, 3) := by decide +kernel
theorem dX8_wanted_49 : decode cX8_wanted 49 = .ok (.iload_n 2, 1) := by decide +kernel
theorem dX8_wanted_50 : decode cX8_wanted 50 = .ok (.iaload, 1) := by decide +kernel
theorem dX8_wanted_51 : decode cX8_wanted 51 = .ok (.aload_n 0, 1) := by decide +kernel
theorem dX8_wanted_52 : decode cX8_wanted 52 = .ok (.getfield 114, 3) := by decide +kernel
theorem dX8_wanted_55 : decode cX8_wanted 55 = .ok (.iload_n 2, 1) := by decide +kernel
theorem dX8_wanted_56 : decode cX8_wanted 56 = .ok (.iaload, 1) := by decide +kernel
theorem dX8_wanted_57 : decode cX8_wanted 57 = .ok (.invokevirtual 344, 3) := by decide +kernel
theorem dX8_wanted_60 : decode cX8_wanted 60 = .ok (.lconst 1, 1) := by decide +kernel
theorem dX8_wanted_61 : decode cX8_wanted 61 = .ok (.lcmp, 1) := by decide +kernel
theorem dX8_wanted_62 : decode cX8_wanted 62 = .ok (.ifCond .ne 21, 3) := by decide +kernel
theorem dX8_wanted_65 : decode cX8_wanted 65 = .ok (.aload_n 0, 1) := by decide +kernel
theorem dX8_wanted_66 : decode cX8_wanted 66 = .ok (.iload_n 1, 1) := by decide +kernel
theorem dX8_wanted_67 : decode cX8_wanted 67 = .ok (.aload_n 0, 1) := by decide +kernel
theorem dX8_wanted_68 : decode cX8_wanted 68 = .ok (.getfield 108, 3) := by decide +kernel
theorem dX8_wanted_71 : decode cX8_wanted 71 = .ok (.iload_n 2, 1) := by decide +kernel
theorem dX8_wanted_72 : decode cX8_wanted 72 = .ok (.iaload, 1) := by decide +kernel
theorem dX8_wanted_73 : decode cX8_wanted 73 = .ok (.aload_n 0, 1) := by decide +kernel
theorem dX8_wanted_74 : decode cX8_wanted 74 = .ok (.getfield 111, 3) := by decide +kernel
theorem dX8_wanted_77 : decode cX8_wanted 77 = .ok (.iload_n 2, 1) := by decide +kernel
theorem dX8_wanted_78 : decode cX8_wanted 78 = .ok (.iaload, 1) := by decide +kernel
theorem dX8_wanted_79 : decode cX8_wanted 79 = .ok (.invokevirtual 344, 3) := by decide +kernel
theorem dX8_wanted_82 : decode cX8_wanted 82 = .ok (.lreturn, 1) := by decide +kernel
theorem dX8_wanted_83 : decode cX8_wanted 83 = .ok (.iinc 2 1, 3) := by decide +kernel
theorem dX8_wanted_86 : decode cX8_wanted 86 = .ok (.goto (-73), 3) := by decide +kernel
theorem dX8_wanted_89 : decode cX8_wanted 89 = .ok (.lconst 0, 1) := by decide +kernel
theorem dX8_wanted_90 : decode cX8_wanted 90 = .ok (.lreturn, 1) := by decide +kernel
theorem dX8_truth_0 : decode cX8_truth 0 = .ok (.iload_n 0, 1) := by decide +kernel
theorem dX8_truth_1 : decode cX8_truth 1 = .ok (.ifCond .eq 7, 3) := by decide +kernel
theorem dX8_truth_4 : decode cX8_truth 4 = .ok (.lconst 1, 1) := by decide +kernel
theorem dX8_truth_5 : decode cX8_truth 5 = .ok (.goto 4, 3) := by decide +kernel
theorem dX8_truth_8 : decode cX8_truth 8 = .ok (.lconst 0, 1) := by decide +kernel
theorem dX8_truth_9 : decode cX8_truth 9 = .ok (.lreturn, 1) := by decide +kernel
theorem dX8_both_0 : decode cX8_both 0 = .ok (.iload_n 0, 1) := by decide +kernel
theorem dX8_both_1 : decode cX8_both 1 = .ok (.tableswitch 190 2 15 #[71, 75, 111, 126, 141, 156, 171, 190, 186, 190, 190, 79, 83, 97], 71) := by decide +kernel
theorem dX8_both_72 : decode cX8_both 72 = .ok (.lload_n 1, 1) := by decide +kernel
theorem dX8_both_73 : decode cX8_both 73 = .ok (.lload_n 3, 1) := by decide +kernel
theorem dX8_both_74 : decode cX8_both 74 = .ok (.ladd, 1) := by decide +kernel
theorem dX8_both_75 : decode cX8_both 75 = .ok (.lreturn, 1) := by decide +kernel
theorem dX8_both_76 : decode cX8_both 76 = .ok (.lload_n 1, 1) := by decide +kernel
theorem dX8_both_77 : decode cX8_both 77 = .ok (.lload_n 3, 1) := by decide +kernel
theorem dX8_both_78 : decode cX8_both 78 = .ok (.lsub, 1) := by decide +kernel
theorem dX8_both_79 : decode cX8_both 79 = .ok (.lreturn, 1) := by decide +kernel
theorem dX8_both_80 : decode cX8_both 80 = .ok (.lload_n 1, 1) := by decide +kernel
theorem dX8_both_81 : decode cX8_both 81 = .ok (.lload_n 3, 1) := by decide +kernel
theorem dX8_both_82 : decode cX8_both 82 = .ok (.lmul, 1) := by decide +kernel
theorem dX8_both_83 : decode cX8_both 83 = .ok (.lreturn, 1) := by decide +kernel
theorem dX8_both_84 : decode cX8_both 84 = .ok (.lload_n 3, 1) := by decide +kernel
theorem dX8_both_85 : decode cX8_both 85 = .ok (.lconst 0, 1) := by decide +kernel
theorem dX8_both_86 : decode cX8_both 86 = .ok (.lcmp, 1) := by decide +kernel
theorem dX8_both_87 : decode cX8_both 87 = .ok (.ifCond .ne 7, 3) := by decide +kernel
theorem dX8_both_90 : decode cX8_both 90 = .ok (.lconst 0, 1) := by decide +kernel
theorem dX8_both_91 : decode cX8_both 91 = .ok (.goto 6, 3) := by decide +kernel
theorem dX8_both_94 : decode cX8_both 94 = .ok (.lload_n 1, 1) := by decide +kernel
theorem dX8_both_95 : decode cX8_both 95 = .ok (.lload_n 3, 1) := by decide +kernel
theorem dX8_both_96 : decode cX8_both 96 = .ok (.ldiv, 1) := by decide +kernel
theorem dX8_both_97 : decode cX8_both 97 = .ok (.lreturn, 1) := by decide +kernel
theorem dX8_both_98 : decode cX8_both 98 = .ok (.lload_n 3, 1) := by decide +kernel
theorem dX8_both_99 : decode cX8_both 99 = .ok (.lconst 0, 1) := by decide +kernel
theorem dX8_both_100 : decode cX8_both 100 = .ok (.lcmp, 1) := by decide +kernel
theorem dX8_both_101 : decode cX8_both 101 = .ok (.ifCond .ne 7, 3) := by decide +kernel
theorem dX8_both_104 : decode cX8_both 104 = .ok (.lconst 0, 1) := by decide +kernel
theorem dX8_both_105 : decode cX8_both 105 = .ok (.goto 6, 3) := by decide +kernel
theorem dX8_both_108 : decode cX8_both 108 = .ok (.lload_n 1, 1) := by decide +kernel
theorem dX8_both_109 : decode cX8_both 109 = .ok (.lload_n 3, 1) := by decide +kernel
theorem dX8_both_110 : decode cX8_both 110 = .ok (.lrem, 1) := by decide +kernel
theorem dX8_both_111 : decode cX8_both 111 = .ok (.lreturn, 1) := by decide +kernel
theorem dX8_both_112 : decode cX8_both 112 = .ok (.lload_n 1, 1) := by decide +kernel
theorem dX8_both_113 : decode cX8_both 113 = .ok (.lload_n 3, 1) := by decide +kernel
theorem dX8_both_114 : decode cX8_both 114 = .ok (.lcmp, 1) := by decide +kernel
theorem dX8_both_115 : decode cX8_both 115 = .ok (.ifCond .ge 7, 3) := by decide +kernel
theorem dX8_both_118 : decode cX8_both 118 = .ok (.iconst 1, 1) := by decide +kernel
theorem dX8_both_119 : decode cX8_both 119 = .ok (.goto 4, 3) := by decide +kernel
theorem dX8_both_122 : decode cX8_both 122 = .ok (.iconst 0, 1) := by decide +kernel
theorem dX8_both_123 : decode cX8_both 123 = .ok (.invokestatic 348, 3) := by decide +kernel
theorem dX8_both_126 : decode cX8_both 126 = .ok (.lreturn, 1) := by decide +kernel
theorem dX8_both_127 : decode cX8_both 127 = .ok (.lload_n 1, 1) := by decide +kernel
theorem dX8_both_128 : decode cX8_both 128 = .ok (.lload_n 3, 1) := by decide +kernel
theorem dX8_both_129 : decode cX8_both 129 = .ok (.lcmp, 1) := by decide +kernel
theorem dX8_both_130 : decode cX8_both 130 = .ok (.ifCond .gt 7, 3) := by decide +kernel
theorem dX8_both_133 : decode cX8_both 133 = .ok (.iconst 1, 1) := by decide +kernel
theorem dX8_both_134 : decode cX8_both 134 = .ok (.goto 4, 3) := by decide +kernel
theorem dX8_both_137 : decode cX8_both 137 = .ok (.iconst 0, 1) := by decide +kernel
theorem dX8_both_138 : decode cX8_both 138 = .ok (.invokestatic 348, 3) := by decide +kernel
theorem dX8_both_141 : decode cX8_both 141 = .ok (.lreturn, 1) := by decide +kernel
theorem dX8_both_142 : decode cX8_both 142 = .ok (.lload_n 1, 1) := by decide +kernel
theorem dX8_both_143 : decode cX8_both 143 = .ok (.lload_n 3, 1) := by decide +kernel
theorem dX8_both_144 : decode cX8_both 144 = .ok (.lcmp, 1) := by decide +kernel
theorem dX8_both_145 : decode cX8_both 145 = .ok (.ifCond .ne 7, 3) := by decide +kernel
theorem dX8_both_148 : decode cX8_both 148 = .ok (.iconst 1, 1) := by decide +kernel
theorem dX8_both_149 : decode cX8_both 149 = .ok (.goto 4, 3) := by decide +kernel
theorem dX8_both_152 : decode cX8_both 152 = .ok (.iconst 0, 1) := by decide +kernel
theorem dX8_both_153 : decode cX8_both 153 = .ok (.invokestatic 348, 3) := by decide +kernel
theorem dX8_both_156 : decode cX8_both 156 = .ok (.lreturn, 1) := by decide +kernel
theorem dX8_both_157 : decode cX8_both 157 = .ok (.lload_n 1, 1) := by decide +kernel
theorem dX8_both_158 : decode cX8_both 158 = .ok (.lload_n 3, 1) := by decide +kernel
theorem dX8_both_159 : decode cX8_both 159 = .ok (.lcmp, 1) := by decide +kernel
theorem dX8_both_160 : decode cX8_both 160 = .ok (.ifCond .lt 7, 3) := by decide +kernel
theorem dX8_both_163 : decode cX8_both 163 = .ok (.iconst 1, 1) := by decide +kernel
theorem dX8_both_164 : decode cX8_both 164 = .ok (.goto 4, 3) := by decide +kernel
theorem dX8_both_167 : decode cX8_both 167 = .ok (.iconst 0, 1) := by decide +kernel
theorem dX8_both_168 : decode cX8_both 168 = .ok (.invokestatic 348, 3) := by decide +kernel
theorem dX8_both_171 : decode cX8_both 171 = .ok (.lreturn, 1) := by decide +kernel
theorem dX8_both_172 : decode cX8_both 172 = .ok (.lload_n 1, 1) := by decide +kernel
theorem dX8_both_173 : decode cX8_both 173 = .ok (.lload_n 3, 1) := by decide +kernel
theorem dX8_both_174 : decode cX8_both 174 = .ok (.lcmp, 1) := by decide +kernel
theorem dX8_both_175 : decode cX8_both 175 = .ok (.ifCond .le 7, 3) := by decide +kernel
theorem dX8_both_178 : decode cX8_both 178 = .ok (.iconst 1, 1) := by decide +kernel
theorem dX8_both_179 : decode cX8_both 179 = .ok (.goto 4, 3) := by decide +kernel
theorem dX8_both_182 : decode cX8_both 182 = .ok (.iconst 0, 1) := by decide +kernel
theorem dX8_both_183 : decode cX8_both 183 = .ok (.invokestatic 348, 3) := by decide +kernel
theorem dX8_both_186 : decode cX8_both 186 = .ok (.lreturn, 1) := by decide +kernel
theorem dX8_both_187 : decode cX8_both 187 = .ok (.lload_n 1, 1) := by decide +kernel
theorem dX8_both_188 : decode cX8_both 188 = .ok (.lload_n 3, 1) := by decide +kernel
theorem dX8_both_189 : decode cX8_both 189 = .ok (.land, 1) := by decide +kernel
theorem dX8_both_190 : decode cX8_both 190 = .ok (.lreturn, 1) := by decide +kernel
theorem dX8_both_191 : decode cX8_both 191 = .ok (.lload_n 1, 1) := by decide +kernel
theorem dX8_both_192 : decode cX8_both 192 = .ok (.lload_n 3, 1) := by decide +kernel
theorem dX8_both_193 : decode cX8_both 193 = .ok (.lor, 1) := by decide +kernel
theorem dX8_both_194 : decode cX8_both 194 = .ok (.lreturn, 1) := by decide +kernel
theorem dX8_answer_0 : decode cX8_answer 0 = .ok (.iconst 0, 1) := by decide +kernel
theorem dX8_answer_1 : decode cX8_answer 1 = .ok (.istore 4, 2) := by decide +kernel
theorem dX8_answer_3 : decode cX8_answer 3 = .ok (.iload_n 2, 1) := by decide +kernel
theorem dX8_answer_4 : decode cX8_answer 4 = .ok (.istore 5, 2) := by decide +kernel
theorem dX8_answer_6 : decode cX8_answer 6 = .ok (.iload 5, 2) := by decide +kernel
theorem dX8_answer_8 : decode cX8_answer 8 = .ok (.iload_n 3, 1) := by decide +kernel
theorem dX8_answer_9 : decode cX8_answer 9 = .ok (.if_icmp .ge 144, 3) := by decide +kernel
theorem dX8_answer_12 : decode cX8_answer 12 = .ok (.aload_n 0, 1) := by decide +kernel
theorem dX8_answer_13 : decode cX8_answer 13 = .ok (.getfield 99, 3) := by decide +kernel
theorem dX8_answer_16 : decode cX8_answer 16 = .ok (.sipush 300, 3) := by decide +kernel
theorem dX8_answer_19 : decode cX8_answer 19 = .ok (.iload_n 1, 1) := by decide +kernel
theorem dX8_answer_20 : decode cX8_answer 20 = .ok (.imul, 1) := by decide +kernel
theorem dX8_answer_21 : decode cX8_answer 21 = .ok (.iload 5, 2) := by decide +kernel
theorem dX8_answer_23 : decode cX8_answer 23 = .ok (.iadd, 1) := by decide +kernel
theorem dX8_answer_24 : decode cX8_answer 24 = .ok (.iaload, 1) := by decide +kernel
theorem dX8_answer_25 : decode cX8_answer 25 = .ok (.istore 6, 2) := by decide +kernel
theorem dX8_answer_27 : decode cX8_answer 27 = .ok (.aload_n 0, 1) := by decide +kernel
theorem dX8_answer_28 : decode cX8_answer 28 = .ok (.getfield 102, 3) := by decide +kernel
theorem dX8_answer_31 : decode cX8_answer 31 = .ok (.sipush 300, 3) := by decide +kernel
theorem dX8_answer_34 : decode cX8_answer 34 = .ok (.iload_n 1, 1) := by decide +kernel
theorem dX8_answer_35 : decode cX8_answer 35 = .ok (.imul, 1) := by decide +kernel
theorem dX8_answer_36 : decode cX8_answer 36 = .ok (.iload 5, 2) := by decide +kernel
theorem dX8_answer_38 : decode cX8_answer 38 = .ok (.iadd, 1) := by decide +kernel
theorem dX8_answer_39 : decode cX8_answer 39 = .ok (.iaload, 1) := by decide +kernel
theorem dX8_answer_40 : decode cX8_answer 40 = .ok (.istore 7, 2) := by decide +kernel
theorem dX8_answer_42 : decode cX8_answer 42 = .ok (.iload 6, 2) := by decide +kernel
theorem dX8_answer_44 : decode cX8_answer 44 = .ok (.ifCond .eq 9, 3) := by decide +kernel
theorem dX8_answer_47 : decode cX8_answer 47 = .ok (.iload 6, 2) := by decide +kernel
theorem dX8_answer_49 : decode cX8_answer 49 = .ok (.iconst 1, 1) := by decide +kernel
theorem dX8_answer_50 : decode cX8_answer 50 = .ok (.if_icmp .ne 34, 3) := by decide +kernel
theorem dX8_answer_53 : decode cX8_answer 53 = .ok (.aload_n 0, 1) := by decide +kernel
theorem dX8_answer_54 : decode cX8_answer 54 = .ok (.getfield 124, 3) := by decide +kernel
theorem dX8_answer_57 : decode cX8_answer 57 = .ok (.iload 4, 2) := by decide +kernel
theorem dX8_answer_59 : decode cX8_answer 59 = .ok (.iload 6, 2) := by decide +kernel
theorem dX8_answer_61 : decode cX8_answer 61 = .ok (.ifCond .ne 9, 3) := by decide +kernel
theorem dX8_answer_64 : decode cX8_answer 64 = .ok (.iload 7, 2) := by decide +kernel
theorem dX8_answer_66 : decode cX8_answer 66 = .ok (.i2l, 1) := by decide +kernel
theorem dX8_answer_67 : decode cX8_answer 67 = .ok (.goto 10, 3) := by decide +kernel
theorem dX8_answer_70 : decode cX8_answer 70 = .ok (.aload_n 0, 1) := by decide +kernel
theorem dX8_answer_71 : decode cX8_answer 71 = .ok (.getfield 120, 3) := by decide +kernel
theorem dX8_answer_74 : decode cX8_answer 74 = .ok (.iload 7, 2) := by decide +kernel
theorem dX8_answer_76 : decode cX8_answer 76 = .ok (.laload, 1) := by decide +kernel
theorem dX8_answer_77 : decode cX8_answer 77 = .ok (.lastore, 1) := by decide +kernel
theorem dX8_answer_78 : decode cX8_answer 78 = .ok (.iinc 4 1, 3) := by decide +kernel
theorem dX8_answer_81 : decode cX8_answer 81 = .ok (.goto 66, 3) := by decide +kernel
theorem dX8_answer_84 : decode cX8_answer 84 = .ok (.iload 6, 2) := by decide +kernel
theorem dX8_answer_86 : decode cX8_answer 86 = .ok (.bipush 9, 2) := by decide +kernel
theorem dX8_answer_88 : decode cX8_answer 88 = .ok (.if_icmp .ne 26, 3) := by decide +kernel
theorem dX8_answer_91 : decode cX8_answer 91 = .ok (.aload_n 0, 1) := by decide +kernel
theorem dX8_answer_92 : decode cX8_answer 92 = .ok (.getfield 124, 3) := by decide +kernel
theorem dX8_answer_95 : decode cX8_answer 95 = .ok (.iload 4, 2) := by decide +kernel
theorem dX8_answer_97 : decode cX8_answer 97 = .ok (.iconst 1, 1) := by decide +kernel
theorem dX8_answer_98 : decode cX8_answer 98 = .ok (.isub, 1) := by decide +kernel
theorem dX8_answer_99 : decode cX8_answer 99 = .ok (.lconst 1, 1) := by decide +kernel
theorem dX8_answer_100 : decode cX8_answer 100 = .ok (.aload_n 0, 1) := by decide +kernel
theorem dX8_answer_101 : decode cX8_answer 101 = .ok (.getfield 124, 3) := by decide +kernel
theorem dX8_answer_104 : decode cX8_answer 104 = .ok (.iload 4, 2) := by decide +kernel
theorem dX8_answer_106 : decode cX8_answer 106 = .ok (.iconst 1, 1) := by decide +kernel
theorem dX8_answer_107 : decode cX8_answer 107 = .ok (.isub, 1) := by decide +kernel
theorem dX8_answer_108 : decode cX8_answer 108 = .ok (.laload, 1) := by decide +kernel
theorem dX8_answer_109 : decode cX8_answer 109 = .ok (.lsub, 1) := by decide +kernel
theorem dX8_answer_110 : decode cX8_answer 110 = .ok (.lastore, 1) := by decide +kernel
theorem dX8_answer_111 : decode cX8_answer 111 = .ok (.goto 36, 3) := by decide +kernel
theorem dX8_answer_114 : decode cX8_answer 114 = .ok (.iinc 4 (-1), 3) := by decide +kernel
theorem dX8_answer_117 : decode cX8_answer 117 = .ok (.aload_n 0, 1) := by decide +kernel
theorem dX8_answer_118 : decode cX8_answer 118 = .ok (.getfield 124, 3) := by decide +kernel
theorem dX8_answer_121 : decode cX8_answer 121 = .ok (.iload 4, 2) := by decide +kernel
theorem dX8_answer_123 : decode cX8_answer 123 = .ok (.iconst 1, 1) := by decide +kernel
theorem dX8_answer_124 : decode cX8_answer 124 = .ok (.isub, 1) := by decide +kernel
theorem dX8_answer_125 : decode cX8_answer 125 = .ok (.iload 6, 2) := by decide +kernel
theorem dX8_answer_127 : decode cX8_answer 127 = .ok (.aload_n 0, 1) := by decide +kernel
theorem dX8_answer_128 : decode cX8_answer 128 = .ok (.getfield 124, 3) := by decide +kernel
theorem dX8_answer_131 : decode cX8_answer 131 = .ok (.iload 4, 2) := by decide +kernel
theorem dX8_answer_133 : decode cX8_answer 133 = .ok (.iconst 1, 1) := by decide +kernel
theorem dX8_answer_134 : decode cX8_answer 134 = .ok (.isub, 1) := by decide +kernel
theorem dX8_answer_135 : decode cX8_answer 135 = .ok (.laload, 1) := by decide +kernel
theorem dX8_answer_136 : decode cX8_answer 136 = .ok (.aload_n 0, 1) := by decide +kernel
theorem dX8_answer_137 : decode cX8_answer 137 = .ok (.getfield 124, 3) := by decide +kernel
theorem dX8_answer_140 : decode cX8_answer 140 = .ok (.iload 4, 2) := by decide +kernel
theorem dX8_answer_142 : decode cX8_answer 142 = .ok (.laload, 1) := by decide +kernel
theorem dX8_answer_143 : decode cX8_answer 143 = .ok (.invokestatic 352, 3) := by decide +kernel
theorem dX8_answer_146 : decode cX8_answer 146 = .ok (.lastore, 1) := by decide +kernel
theorem dX8_answer_147 : decode cX8_answer 147 = .ok (.iinc 5 1, 3) := by decide +kernel
theorem dX8_answer_150 : decode cX8_answer 150 = .ok (.goto (-144), 3) := by decide +kernel
theorem dX8_answer_153 : decode cX8_answer 153 = .ok (.aload_n 0, 1) := by decide +kernel
theorem dX8_answer_154 : decode cX8_answer 154 = .ok (.getfield 124, 3) := by decide +kernel
theorem dX8_answer_157 : decode cX8_answer 157 = .ok (.iconst 0, 1) := by decide +kernel
theorem dX8_answer_158 : decode cX8_answer 158 = .ok (.laload, 1) := by decide +kernel
theorem dX8_answer_159 : decode cX8_answer 159 = .ok (.lreturn, 1) := by decide +kernel
theorem dX8_isDue_0 : decode cX8_isDue 0 = .ok (.aload_n 0, 1) := by decide +kernel
theorem dX8_isDue_1 : decode cX8_isDue 1 = .ok (.getfield 9, 3) := by decide +kernel
theorem dX8_isDue_4 : decode cX8_isDue 4 = .ok (.iconst 5, 1) := by decide +kernel
theorem dX8_isDue_5 : decode cX8_isDue 5 = .ok (.iaload, 1) := by decide +kernel
theorem dX8_isDue_6 : decode cX8_isDue 6 = .ok (.iload_n 1, 1) := by decide +kernel
theorem dX8_isDue_7 : decode cX8_isDue 7 = .ok (.invokestatic 356, 3) := by decide +kernel
theorem dX8_isDue_10 : decode cX8_isDue 10 = .ok (.ifCond .ne 24, 3) := by decide +kernel
theorem dX8_isDue_13 : decode cX8_isDue 13 = .ok (.iload_n 2, 1) := by decide +kernel
theorem dX8_isDue_14 : decode cX8_isDue 14 = .ok (.aload_n 0, 1) := by decide +kernel
theorem dX8_isDue_15 : decode cX8_isDue 15 = .ok (.getfield 40, 3) := by decide +kernel
theorem dX8_isDue_18 : decode cX8_isDue 18 = .ok (.iload_n 1, 1) := by decide +kernel
theorem dX8_isDue_19 : decode cX8_isDue 19 = .ok (.iaload, 1) := by decide +kernel
theorem dX8_isDue_20 : decode cX8_isDue 20 = .ok (.irem, 1) := by decide +kernel
theorem dX8_isDue_21 : decode cX8_isDue 21 = .ok (.aload_n 0, 1) := by decide +kernel
theorem dX8_isDue_22 : decode cX8_isDue 22 = .ok (.getfield 43, 3) := by decide +kernel
theorem dX8_isDue_25 : decode cX8_isDue 25 = .ok (.iload_n 1, 1) := by decide +kernel
theorem dX8_isDue_26 : decode cX8_isDue 26 = .ok (.iaload, 1) := by decide +kernel
theorem dX8_isDue_27 : decode cX8_isDue 27 = .ok (.if_icmp .ne 7, 3) := by decide +kernel
theorem dX8_isDue_30 : decode cX8_isDue 30 = .ok (.iconst 1, 1) := by decide +kernel
theorem dX8_isDue_31 : decode cX8_isDue 31 = .ok (.goto 4, 3) := by decide +kernel
theorem dX8_isDue_34 : decode cX8_isDue 34 = .ok (.iconst 0, 1) := by decide +kernel
theorem dX8_isDue_35 : decode cX8_isDue 35 = .ok (.ireturn, 1) := by decide +kernel
theorem dX8_catsOn_0 : decode cX8_catsOn 0 = .ok (.iconst 0, 1) := by decide +kernel
theorem dX8_catsOn_1 : decode cX8_catsOn 1 = .ok (.istore_n 2, 1) := by decide +kernel
theorem dX8_catsOn_2 : decode cX8_catsOn 2 = .ok (.iconst 0, 1) := by decide +kernel
theorem dX8_catsOn_3 : decode cX8_catsOn 3 = .ok (.istore_n 3, 1) := by decide +kernel
theorem dX8_catsOn_4 : decode cX8_catsOn 4 = .ok (.iload_n 3, 1) := by decide +kernel
theorem dX8_catsOn_5 : decode cX8_catsOn 5 = .ok (.aload_n 0, 1) := by decide +kernel
theorem dX8_catsOn_6 : decode cX8_catsOn 6 = .ok (.getfield 9, 3) := by decide +kernel
theorem dX8_catsOn_9 : decode cX8_catsOn 9 = .ok (.iconst 2, 1) := by decide +kernel
theorem dX8_catsOn_10 : decode cX8_catsOn 10 = .ok (.iaload, 1) := by decide +kernel
theorem dX8_catsOn_11 : decode cX8_catsOn 11 = .ok (.if_icmp .ge 29, 3) := by decide +kernel
theorem dX8_catsOn_14 : decode cX8_catsOn 14 = .ok (.iload_n 2, 1) := by decide +kernel
theorem dX8_catsOn_15 : decode cX8_catsOn 15 = .ok (.aload_n 0, 1) := by decide +kernel
theorem dX8_catsOn_16 : decode cX8_catsOn 16 = .ok (.getfield 16, 3) := by decide +kernel
theorem dX8_catsOn_19 : decode cX8_catsOn 19 = .ok (.iload_n 3, 1) := by decide +kernel
theorem dX8_catsOn_20 : decode cX8_catsOn 20 = .ok (.iaload, 1) := by decide +kernel
theorem dX8_catsOn_21 : decode cX8_catsOn 21 = .ok (.iload_n 1, 1) := by decide +kernel
theorem dX8_catsOn_22 : decode cX8_catsOn 22 = .ok (.if_icmp .ne 9, 3) := by decide +kernel
theorem dX8_catsOn_25 : decode cX8_catsOn 25 = .ok (.iconst 1, 1) := by decide +kernel
theorem dX8_catsOn_26 : decode cX8_catsOn 26 = .ok (.iload_n 3, 1) := by decide +kernel
theorem dX8_catsOn_27 : decode cX8_catsOn 27 = .ok (.ishl, 1) := by decide +kernel
theorem dX8_catsOn_28 : decode cX8_catsOn 28 = .ok (.goto 4, 3) := by decide +kernel
theorem dX8_catsOn_31 : decode cX8_catsOn 31 = .ok (.iconst 0, 1) := by decide +kernel
theorem dX8_catsOn_32 : decode cX8_catsOn 32 = .ok (.ior, 1) := by decide +kernel
theorem dX8_catsOn_33 : decode cX8_catsOn 33 = .ok (.istore_n 2, 1) := by decide +kernel
theorem dX8_catsOn_34 : decode cX8_catsOn 34 = .ok (.iinc 3 1, 3) := by decide +kernel
theorem dX8_catsOn_37 : decode cX8_catsOn 37 = .ok (.goto (-33), 3) := by decide +kernel
theorem dX8_catsOn_40 : decode cX8_catsOn 40 = .ok (.iload_n 2, 1) := by decide +kernel
theorem dX8_catsOn_41 : decode cX8_catsOn 41 = .ok (.ireturn, 1) := by decide +kernel
theorem dX8_metOf_0 : decode cX8_metOf 0 = .ok (.iconst 0, 1) := by decide +kernel
theorem dX8_metOf_1 : decode cX8_metOf 1 = .ok (.istore_n 2, 1) := by decide +kernel
theorem dX8_metOf_2 : decode cX8_metOf 2 = .ok (.iconst 0, 1) := by decide +kernel
theorem dX8_metOf_3 : decode cX8_metOf 3 = .ok (.istore_n 3, 1) := by decide +kernel
theorem dX8_metOf_4 : decode cX8_metOf 4 = .ok (.iload_n 3, 1) := by decide +kernel
theorem dX8_metOf_5 : decode cX8_metOf 5 = .ok (.aload_n 0, 1) := by decide +kernel
theorem dX8_metOf_6 : decode cX8_metOf 6 = .ok (.getfield 9, 3) := by decide +kernel
theorem dX8_metOf_9 : decode cX8_metOf 9 = .ok (.iconst 3, 1) := by decide +kernel
theorem dX8_metOf_10 : decode cX8_metOf 10 = .ok (.iaload, 1) := by decide +kernel
theorem dX8_metOf_11 : decode cX8_metOf 11 = .ok (.if_icmp .ge 32, 3) := by decide +kernel
theorem dX8_metOf_14 : decode cX8_metOf 14 = .ok (.iload_n 2, 1) := by decide +kernel
theorem dX8_metOf_15 : decode cX8_metOf 15 = .ok (.aload_n 0, 1) := by decide +kernel
theorem dX8_metOf_16 : decode cX8_metOf 16 = .ok (.getfield 37, 3) := by decide +kernel
theorem dX8_metOf_19 : decode cX8_metOf 19 = .ok (.iload_n 3, 1) := by decide +kernel
theorem dX8_metOf_20 : decode cX8_metOf 20 = .ok (.iaload, 1) := by decide +kernel
theorem dX8_metOf_21 : decode cX8_metOf 21 = .ok (.iload_n 1, 1) := by decide +kernel
theorem dX8_metOf_22 : decode cX8_metOf 22 = .ok (.if_icmp .ne 12, 3) := by decide +kernel
theorem dX8_metOf_25 : decode cX8_metOf 25 = .ok (.aload_n 0, 1) := by decide +kernel
theorem dX8_metOf_26 : decode cX8_metOf 26 = .ok (.getfield 25, 3) := by decide +kernel
theorem dX8_metOf_29 : decode cX8_metOf 29 = .ok (.iload_n 3, 1) := by decide +kernel
theorem dX8_metOf_30 : decode cX8_metOf 30 = .ok (.iaload, 1) := by decide +kernel
theorem dX8_metOf_31 : decode cX8_metOf 31 = .ok (.goto 4, 3) := by decide +kernel
theorem dX8_metOf_34 : decode cX8_metOf 34 = .ok (.iconst 0, 1) := by decide +kernel
theorem dX8_metOf_35 : decode cX8_metOf 35 = .ok (.iadd, 1) := by decide +kernel
theorem dX8_metOf_36 : decode cX8_metOf 36 = .ok (.istore_n 2, 1) := by decide +kernel
theorem dX8_metOf_37 : decode cX8_metOf 37 = .ok (.iinc 3 1, 3) := by decide +kernel
theorem dX8_metOf_40 : decode cX8_metOf 40 = .ok (.goto (-36), 3) := by decide +kernel
theorem dX8_metOf_43 : decode cX8_metOf 43 = .ok (.iload_n 2, 1) := by decide +kernel
theorem dX8_metOf_44 : decode cX8_metOf 44 = .ok (.ireturn, 1) := by decide +kernel
theorem dX8_lostOf_0 : decode cX8_lostOf 0 = .ok (.iconst 0, 1) := by decide +kernel
theorem dX8_lostOf_1 : decode cX8_lostOf 1 = .ok (.istore_n 2, 1) := by decide +kernel
theorem dX8_lostOf_2 : decode cX8_lostOf 2 = .ok (.iconst 0, 1) := by decide +kernel
theorem dX8_lostOf_3 : decode cX8_lostOf 3 = .ok (.istore_n 3, 1) := by decide +kernel
theorem dX8_lostOf_4 : decode cX8_lostOf 4 = .ok (.iload_n 3, 1) := by decide +kernel
theorem dX8_lostOf_5 : decode cX8_lostOf 5 = .ok (.aload_n 0, 1) := by decide +kernel
theorem dX8_lostOf_6 : decode cX8_lostOf 6 = .ok (.getfield 9, 3) := by decide +kernel
theorem dX8_lostOf_9 : decode cX8_lostOf 9 = .ok (.iconst 3, 1) := by decide +kernel
theorem dX8_lostOf_10 : decode cX8_lostOf 10 = .ok (.iaload, 1) := by decide +kernel
theorem dX8_lostOf_11 : decode cX8_lostOf 11 = .ok (.if_icmp .ge 32, 3) := by decide +kernel
theorem dX8_lostOf_14 : decode cX8_lostOf 14 = .ok (.iload_n 2, 1) := by decide +kernel
theorem dX8_lostOf_15 : decode cX8_lostOf 15 = .ok (.aload_n 0, 1) := by decide +kernel
theorem dX8_lostOf_16 : decode cX8_lostOf 16 = .ok (.getfield 37, 3) := by decide +kernel
theorem dX8_lostOf_19 : decode cX8_lostOf 19 = .ok (.iload_n 3, 1) := by decide +kernel
theorem dX8_lostOf_20 : decode cX8_lostOf 20 = .ok (.iaload, 1) := by decide +kernel
theorem dX8_lostOf_21 : decode cX8_lostOf 21 = .ok (.iload_n 1, 1) := by decide +kernel
theorem dX8_lostOf_22 : decode cX8_lostOf 22 = .ok (.if_icmp .ne 12, 3) := by decide +kernel
theorem dX8_lostOf_25 : decode cX8_lostOf 25 = .ok (.aload_n 0, 1) := by decide +kernel
theorem dX8_lostOf_26 : decode cX8_lostOf 26 = .ok (.getfield 28, 3) := by decide +kernel
theorem dX8_lostOf_29 : decode cX8_lostOf 29 = .ok (.iload_n 3, 1) := by decide +kernel
theorem dX8_lostOf_30 : decode cX8_lostOf 30 = .ok (.iaload, 1) := by decide +kernel
theorem dX8_lostOf_31 : decode cX8_lostOf 31 = .ok (.goto 4, 3) := by decide +kernel
theorem dX8_lostOf_34 : decode cX8_lostOf 34 = .ok (.iconst 0, 1) := by decide +kernel
theorem dX8_lostOf_35 : decode cX8_lostOf 35 = .ok (.iadd, 1) := by decide +kernel
theorem dX8_lostOf_36 : decode cX8_lostOf 36 = .ok (.istore_n 2, 1) := by decide +kernel
theorem dX8_lostOf_37 : decode cX8_lostOf 37 = .ok (.iinc 3 1, 3) := by decide +kernel
theorem dX8_lostOf_40 : decode cX8_lostOf 40 = .ok (.goto (-36), 3) := by decide +kernel
theorem dX8_lostOf_43 : decode cX8_lostOf 43 = .ok (.iload_n 2, 1) := by decide +kernel
theorem dX8_lostOf_44 : decode cX8_lostOf 44 = .ok (.ireturn, 1) := by decide +kernel
theorem dX8_thing_0 : decode cX8_thing 0 = .ok (.aload_n 0, 1) := by decide +kernel
theorem dX8_thing_1 : decode cX8_thing 1 = .ok (.iload_n 1, 1) := by decide +kernel
theorem dX8_thing_2 : decode cX8_thing 2 = .ok (.invokevirtual 359, 3) := by decide +kernel
theorem dX8_thing_5 : decode cX8_thing 5 = .ok (.ifCond .ne 5, 3) := by decide +kernel
theorem dX8_thing_8 : decode cX8_thing 8 = .ok (.iconst (-1), 1) := by decide +kernel
theorem dX8_thing_9 : decode cX8_thing 9 = .ok (.ireturn, 1) := by decide +kernel
theorem dX8_thing_10 : decode cX8_thing 10 = .ok (.iload_n 2, 1) := by decide +kernel
theorem dX8_thing_11 : decode cX8_thing 11 = .ok (.tableswitch 65 0 4 #[33, 40, 47, 53, 59], 33) := by decide +kernel
theorem dX8_thing_44 : decode cX8_thing 44 = .ok (.aload_n 0, 1) := by decide +kernel
theorem dX8_thing_45 : decode cX8_thing 45 = .ok (.getfield 22, 3) := by decide +kernel
theorem dX8_thing_48 : decode cX8_thing 48 = .ok (.iload_n 1, 1) := by decide +kernel
theorem dX8_thing_49 : decode cX8_thing 49 = .ok (.iaload, 1) := by decide +kernel
theorem dX8_thing_50 : decode cX8_thing 50 = .ok (.ireturn, 1) := by decide +kernel
theorem dX8_thing_51 : decode cX8_thing 51 = .ok (.aload_n 0, 1) := by decide +kernel
theorem dX8_thing_52 : decode cX8_thing 52 = .ok (.getfield 31, 3) := by decide +kernel
theorem dX8_thing_55 : decode cX8_thing 55 = .ok (.iload_n 1, 1) := by decide +kernel
theorem dX8_thing_56 : decode cX8_thing 56 = .ok (.iaload, 1) := by decide +kernel
theorem dX8_thing_57 : decode cX8_thing 57 = .ok (.ireturn, 1) := by decide +kernel
theorem dX8_thing_58 : decode cX8_thing 58 = .ok (.aload_n 0, 1) := by decide +kernel
theorem dX8_thing_59 : decode cX8_thing 59 = .ok (.iload_n 1, 1) := by decide +kernel
theorem dX8_thing_60 : decode cX8_thing 60 = .ok (.invokevirtual 363, 3) := by decide +kernel
theorem dX8_thing_63 : decode cX8_thing 63 = .ok (.ireturn, 1) := by decide +kernel
theorem dX8_thing_64 : decode cX8_thing 64 = .ok (.aload_n 0, 1) := by decide +kernel
theorem dX8_thing_65 : decode cX8_thing 65 = .ok (.iload_n 1, 1) := by decide +kernel
theorem dX8_thing_66 : decode cX8_thing 66 = .ok (.invokevirtual 366, 3) := by decide +kernel
theorem dX8_thing_69 : decode cX8_thing 69 = .ok (.ireturn, 1) := by decide +kernel
theorem dX8_thing_70 : decode cX8_thing 70 = .ok (.aload_n 0, 1) := by decide +kernel
theorem dX8_thing_71 : decode cX8_thing 71 = .ok (.iload_n 1, 1) := by decide +kernel
theorem dX8_thing_72 : decode cX8_thing 72 = .ok (.invokevirtual 369, 3) := by decide +kernel
theorem dX8_thing_75 : decode cX8_thing 75 = .ok (.ireturn, 1) := by decide +kernel
theorem dX8_thing_76 : decode cX8_thing 76 = .ok (.iconst (-1), 1) := by decide +kernel
theorem dX8_thing_77 : decode cX8_thing 77 = .ok (.ireturn, 1) := by decide +kernel
theorem dX8_cat_0 : decode cX8_cat 0 = .ok (.aload_n 0, 1) := by decide +kernel
theorem dX8_cat_1 : decode cX8_cat 1 = .ok (.iload_n 1, 1) := by decide +kernel
theorem dX8_cat_2 : decode cX8_cat 2 = .ok (.invokevirtual 372, 3) := by decide +kernel
theorem dX8_cat_5 : decode cX8_cat 5 = .ok (.ifCond .ne 6, 3) := by decide +kernel
theorem dX8_cat_8 : decode cX8_cat 8 = .ok (.bipush (-2), 2) := by decide +kernel
theorem dX8_cat_10 : decode cX8_cat 10 = .ok (.ireturn, 1) := by decide +kernel
theorem dX8_cat_11 : decode cX8_cat 11 = .ok (.iload_n 2, 1) := by decide +kernel
theorem dX8_cat_12 : decode cX8_cat 12 = .ok (.tableswitch 60 0 3 #[32, 39, 46, 53], 32) := by decide +kernel
theorem dX8_cat_44 : decode cX8_cat 44 = .ok (.aload_n 0, 1) := by decide +kernel
theorem dX8_cat_45 : decode cX8_cat 45 = .ok (.getfield 13, 3) := by decide +kernel
theorem dX8_cat_48 : decode cX8_cat 48 = .ok (.iload_n 1, 1) := by decide +kernel
theorem dX8_cat_49 : decode cX8_cat 49 = .ok (.iaload, 1) := by decide +kernel
theorem dX8_cat_50 : decode cX8_cat 50 = .ok (.ireturn, 1) := by decide +kernel
theorem dX8_cat_51 : decode cX8_cat 51 = .ok (.aload_n 0, 1) := by decide +kernel
theorem dX8_cat_52 : decode cX8_cat 52 = .ok (.getfield 34, 3) := by decide +kernel
theorem dX8_cat_55 : decode cX8_cat 55 = .ok (.iload_n 1, 1) := by decide +kernel
theorem dX8_cat_56 : decode cX8_cat 56 = .ok (.iaload, 1) := by decide +kernel
theorem dX8_cat_57 : decode cX8_cat 57 = .ok (.ireturn, 1) := by decide +kernel
theorem dX8_cat_58 : decode cX8_cat 58 = .ok (.aload_n 0, 1) := by decide +kernel
theorem dX8_cat_59 : decode cX8_cat 59 = .ok (.getfield 19, 3) := by decide +kernel
theorem dX8_cat_62 : decode cX8_cat 62 = .ok (.iload_n 1, 1) := by decide +kernel
theorem dX8_cat_63 : decode cX8_cat 63 = .ok (.iaload, 1) := by decide +kernel
theorem dX8_cat_64 : decode cX8_cat 64 = .ok (.ireturn, 1) := by decide +kernel
theorem dX8_cat_65 : decode cX8_cat 65 = .ok (.aload_n 0, 1) := by decide +kernel
theorem dX8_cat_66 : decode cX8_cat 66 = .ok (.getfield 16, 3) := by decide +kernel
theorem dX8_cat_69 : decode cX8_cat 69 = .ok (.iload_n 1, 1) := by decide +kernel
theorem dX8_cat_70 : decode cX8_cat 70 = .ok (.iaload, 1) := by decide +kernel
theorem dX8_cat_71 : decode cX8_cat 71 = .ok (.ireturn, 1) := by decide +kernel
theorem dX8_cat_72 : decode cX8_cat 72 = .ok (.bipush (-2), 2) := by decide +kernel
theorem dX8_cat_74 : decode cX8_cat 74 = .ok (.ireturn, 1) := by decide +kernel
theorem dX8_need_0 : decode cX8_need 0 = .ok (.aload_n 0, 1) := by decide +kernel
theorem dX8_need_1 : decode cX8_need 1 = .ok (.iload_n 1, 1) := by decide +kernel
theorem dX8_need_2 : decode cX8_need 2 = .ok (.invokevirtual 375, 3) := by decide +kernel
theorem dX8_need_5 : decode cX8_need 5 = .ok (.ifCond .ne 5, 3) := by decide +kernel
theorem dX8_need_8 : decode cX8_need 8 = .ok (.iconst (-1), 1) := by decide +kernel
theorem dX8_need_9 : decode cX8_need 9 = .ok (.ireturn, 1) := by decide +kernel
theorem dX8_need_10 : decode cX8_need 10 = .ok (.iload_n 2, 1) := by decide +kernel
theorem dX8_need_11 : decode cX8_need 11 = .ok (.tableswitch 91 0 5 #[37, 44, 51, 58, 77, 84], 37) := by decide +kernel
theorem dX8_need_48 : decode cX8_need 48 = .ok (.aload_n 0, 1) := by decide +kernel
theorem dX8_need_49 : decode cX8_need 49 = .ok (.getfield 37, 3) := by decide +kernel
theorem dX8_need_52 : decode cX8_need 52 = .ok (.iload_n 1, 1) := by decide +kernel
theorem dX8_need_53 : decode cX8_need 53 = .ok (.iaload, 1) := by decide +kernel
theorem dX8_need_54 : decode cX8_need 54 = .ok (.ireturn, 1) := by decide +kernel
theorem dX8_need_55 : decode cX8_need 55 = .ok (.aload_n 0, 1) := by decide +kernel
theorem dX8_need_56 : decode cX8_need 56 = .ok (.getfield 40, 3) := by decide +kernel
theorem dX8_need_59 : decode cX8_need 59 = .ok (.iload_n 1, 1) := by decide +kernel
theorem dX8_need_60 : decode cX8_need 60 = .ok (.iaload, 1) := by decide +kernel
theorem dX8_need_61 : decode cX8_need 61 = .ok (.ireturn, 1) := by decide +kernel
theorem dX8_need_62 : decode cX8_need 62 = .ok (.aload_n 0, 1) := by decide +kernel
theorem dX8_need_63 : decode cX8_need 63 = .ok (.getfield 43, 3) := by decide +kernel
theorem dX8_need_66 : decode cX8_need 66 = .ok (.iload_n 1, 1) := by decide +kernel
theorem dX8_need_67 : decode cX8_need 67 = .ok (.iaload, 1) := by decide +kernel
theorem dX8_need_68 : decode cX8_need 68 = .ok (.ireturn, 1) := by decide +kernel
theorem dX8_need_69 : decode cX8_need 69 = .ok (.aload_n 0, 1) := by decide +kernel
theorem dX8_need_70 : decode cX8_need 70 = .ok (.getfield 9, 3) := by decide +kernel
theorem dX8_need_73 : decode cX8_need 73 = .ok (.iconst 5, 1) := by decide +kernel
theorem dX8_need_74 : decode cX8_need 74 = .ok (.iaload, 1) := by decide +kernel
theorem dX8_need_75 : decode cX8_need 75 = .ok (.iload_n 1, 1) := by decide +kernel
theorem dX8_need_76 : decode cX8_need 76 = .ok (.invokestatic 356, 3) := by decide +kernel
theorem dX8_need_79 : decode cX8_need 79 = .ok (.ifCond .eq 7, 3) := by decide +kernel
theorem dX8_need_82 : decode cX8_need 82 = .ok (.iconst 1, 1) := by decide +kernel
theorem dX8_need_83 : decode cX8_need 83 = .ok (.goto 4, 3) := by decide +kernel
theorem dX8_need_86 : decode cX8_need 86 = .ok (.iconst 0, 1) := by decide +kernel
theorem dX8_need_87 : decode cX8_need 87 = .ok (.ireturn, 1) := by decide +kernel
theorem dX8_need_88 : decode cX8_need 88 = .ok (.aload_n 0, 1) := by decide +kernel
theorem dX8_need_89 : decode cX8_need 89 = .ok (.getfield 25, 3) := by decide +kernel
theorem dX8_need_92 : decode cX8_need 92 = .ok (.iload_n 1, 1) := by decide +kernel
theorem dX8_need_93 : decode cX8_need 93 = .ok (.iaload, 1) := by decide +kernel
theorem dX8_need_94 : decode cX8_need 94 = .ok (.ireturn, 1) := by decide +kernel
theorem dX8_need_95 : decode cX8_need 95 = .ok (.aload_n 0, 1) := by decide +kernel
theorem dX8_need_96 : decode cX8_need 96 = .ok (.getfield 28, 3) := by decide +kernel
theorem dX8_need_99 : decode cX8_need 99 = .ok (.iload_n 1, 1) := by decide +kernel
theorem dX8_need_100 : decode cX8_need 100 = .ok (.iaload, 1) := by decide +kernel
theorem dX8_need_101 : decode cX8_need 101 = .ok (.ireturn, 1) := by decide +kernel
theorem dX8_need_102 : decode cX8_need 102 = .ok (.iconst (-1), 1) := by decide +kernel
theorem dX8_need_103 : decode cX8_need 103 = .ok (.ireturn, 1) := by decide +kernel
theorem dX8_dueIn_0 : decode cX8_dueIn 0 = .ok (.bipush 99, 2) := by decide +kernel
theorem dX8_dueIn_2 : decode cX8_dueIn 2 = .ok (.istore_n 2, 1) := by decide +kernel
theorem dX8_dueIn_3 : decode cX8_dueIn 3 = .ok (.iconst 0, 1) := by decide +kernel
theorem dX8_dueIn_4 : decode cX8_dueIn 4 = .ok (.istore_n 3, 1) := by decide +kernel
theorem dX8_dueIn_5 : decode cX8_dueIn 5 = .ok (.iload_n 3, 1) := by decide +kernel
theorem dX8_dueIn_6 : decode cX8_dueIn 6 = .ok (.aload_n 0, 1) := by decide +kernel
theorem dX8_dueIn_7 : decode cX8_dueIn 7 = .ok (.getfield 9, 3) := by decide +kernel
theorem dX8_dueIn_10 : decode cX8_dueIn 10 = .ok (.iconst 3, 1) := by decide +kernel
theorem dX8_dueIn_11 : decode cX8_dueIn 11 = .ok (.iaload, 1) := by decide +kernel
theorem dX8_dueIn_12 : decode cX8_dueIn 12 = .ok (.if_icmp .ge 81, 3) := by decide +kernel
theorem dX8_dueIn_15 : decode cX8_dueIn 15 = .ok (.aload_n 0, 1) := by decide +kernel
theorem dX8_dueIn_16 : decode cX8_dueIn 16 = .ok (.getfield 37, 3) := by decide +kernel
theorem dX8_dueIn_19 : decode cX8_dueIn 19 = .ok (.iload_n 3, 1) := by decide +kernel
theorem dX8_dueIn_20 : decode cX8_dueIn 20 = .ok (.iaload, 1) := by decide +kernel
theorem dX8_dueIn_21 : decode cX8_dueIn 21 = .ok (.iload_n 1, 1) := by decide +kernel
theorem dX8_dueIn_22 : decode cX8_dueIn 22 = .ok (.if_icmp .ne 65, 3) := by decide +kernel
theorem dX8_dueIn_25 : decode cX8_dueIn 25 = .ok (.aload_n 0, 1) := by decide +kernel
theorem dX8_dueIn_26 : decode cX8_dueIn 26 = .ok (.getfield 9, 3) := by decide +kernel
theorem dX8_dueIn_29 : decode cX8_dueIn 29 = .ok (.iconst 5, 1) := by decide +kernel
theorem dX8_dueIn_30 : decode cX8_dueIn 30 = .ok (.iaload, 1) := by decide +kernel
theorem dX8_dueIn_31 : decode cX8_dueIn 31 = .ok (.iload_n 3, 1) := by decide +kernel
theorem dX8_dueIn_32 : decode cX8_dueIn 32 = .ok (.invokestatic 356, 3) := by decide +kernel
theorem dX8_dueIn_35 : decode cX8_dueIn 35 = .ok (.ifCond .ne 52, 3) := by decide +kernel
theorem dX8_dueIn_38 : decode cX8_dueIn 38 = .ok (.aload_n 0, 1) := by decide +kernel
theorem dX8_dueIn_39 : decode cX8_dueIn 39 = .ok (.getfield 43, 3) := by decide +kernel
theorem dX8_dueIn_42 : decode cX8_dueIn 42 = .ok (.iload_n 3, 1) := by decide +kernel
theorem dX8_dueIn_43 : decode cX8_dueIn 43 = .ok (.iaload, 1) := by decide +kernel
theorem dX8_dueIn_44 : decode cX8_dueIn 44 = .ok (.aload_n 0, 1) := by decide +kernel
theorem dX8_dueIn_45 : decode cX8_dueIn 45 = .ok (.getfield 9, 3) := by decide +kernel
theorem dX8_dueIn_48 : decode cX8_dueIn 48 = .ok (.iconst 4, 1) := by decide +kernel
theorem dX8_dueIn_49 : decode cX8_dueIn 49 = .ok (.iaload, 1) := by decide +kernel
theorem dX8_dueIn_50 : decode cX8_dueIn 50 = .ok (.aload_n 0, 1) := by decide +kernel
theorem dX8_dueIn_51 : decode cX8_dueIn 51 = .ok (.getfield 40, 3) := by decide +kernel
theorem dX8_dueIn_54 : decode cX8_dueIn 54 = .ok (.iload_n 3, 1) := by decide +kernel
theorem dX8_dueIn_55 : decode cX8_dueIn 55 = .ok (.iaload, 1) := by decide +kernel
theorem dX8_dueIn_56 : decode cX8_dueIn 56 = .ok (.irem, 1) := by decide +kernel
theorem dX8_dueIn_57 : decode cX8_dueIn 57 = .ok (.isub, 1) := by decide +kernel
theorem dX8_dueIn_58 : decode cX8_dueIn 58 = .ok (.aload_n 0, 1) := by decide +kernel
theorem dX8_dueIn_59 : decode cX8_dueIn 59 = .ok (.getfield 40, 3) := by decide +kernel
theorem dX8_dueIn_62 : decode cX8_dueIn 62 = .ok (.iload_n 3, 1) := by decide +kernel
theorem dX8_dueIn_63 : decode cX8_dueIn 63 = .ok (.iaload, 1) := by decide +kernel
theorem dX8_dueIn_64 : decode cX8_dueIn 64 = .ok (.iadd, 1) := by decide +kernel
theorem dX8_dueIn_65 : decode cX8_dueIn 65 = .ok (.aload_n 0, 1) := by decide +kernel
theorem dX8_dueIn_66 : decode cX8_dueIn 66 = .ok (.getfield 40, 3) := by decide +kernel
theorem dX8_dueIn_69 : decode cX8_dueIn 69 = .ok (.iload_n 3, 1) := by decide +kernel
theorem dX8_dueIn_70 : decode cX8_dueIn 70 = .ok (.iaload, 1) := by decide +kernel
theorem dX8_dueIn_71 : decode cX8_dueIn 71 = .ok (.irem, 1) := by decide +kernel
theorem dX8_dueIn_72 : decode cX8_dueIn 72 = .ok (.istore 4, 2) := by decide +kernel
theorem dX8_dueIn_74 : decode cX8_dueIn 74 = .ok (.iload 4, 2) := by decide +kernel
theorem dX8_dueIn_76 : decode cX8_dueIn 76 = .ok (.iload_n 2, 1) := by decide +kernel
theorem dX8_dueIn_77 : decode cX8_dueIn 77 = .ok (.if_icmp .ge 8, 3) := by decide +kernel
theorem dX8_dueIn_80 : decode cX8_dueIn 80 = .ok (.iload 4, 2) := by decide +kernel
theorem dX8_dueIn_82 : decode cX8_dueIn 82 = .ok (.goto 4, 3) := by decide +kernel
theorem dX8_dueIn_85 : decode cX8_dueIn 85 = .ok (.iload_n 2, 1) := by decide +kernel
theorem dX8_dueIn_86 : decode cX8_dueIn 86 = .ok (.istore_n 2, 1) := by decide +kernel
theorem dX8_dueIn_87 : decode cX8_dueIn 87 = .ok (.iinc 3 1, 3) := by decide +kernel
theorem dX8_dueIn_90 : decode cX8_dueIn 90 = .ok (.goto (-85), 3) := by decide +kernel
theorem dX8_dueIn_93 : decode cX8_dueIn 93 = .ok (.iload_n 2, 1) := by decide +kernel
theorem dX8_dueIn_94 : decode cX8_dueIn 94 = .ok (.ireturn, 1) := by decide +kernel
theorem dX8_likes_0 : decode cX8_likes 0 = .ok (.aload_n 0, 1) := by decide +kernel
theorem dX8_likes_1 : decode cX8_likes 1 = .ok (.getfield 120, 3) := by decide +kernel
theorem dX8_likes_4 : decode cX8_likes 4 = .ok (.iconst 0, 1) := by decide +kernel
theorem dX8_likes_5 : decode cX8_likes 5 = .ok (.iload_n 1, 1) := by decide +kernel
theorem dX8_likes_6 : decode cX8_likes 6 = .ok (.i2l, 1) := by decide +kernel
theorem dX8_likes_7 : decode cX8_likes 7 = .ok (.lastore, 1) := by decide +kernel
theorem dX8_likes_8 : decode cX8_likes 8 = .ok (.aload_n 0, 1) := by decide +kernel
theorem dX8_likes_9 : decode cX8_likes 9 = .ok (.getfield 120, 3) := by decide +kernel
theorem dX8_likes_12 : decode cX8_likes 12 = .ok (.iconst 1, 1) := by decide +kernel
theorem dX8_likes_13 : decode cX8_likes 13 = .ok (.iload_n 2, 1) := by decide +kernel
theorem dX8_likes_14 : decode cX8_likes 14 = .ok (.i2l, 1) := by decide +kernel
theorem dX8_likes_15 : decode cX8_likes 15 = .ok (.lastore, 1) := by decide +kernel
theorem dX8_likes_16 : decode cX8_likes 16 = .ok (.aload_n 0, 1) := by decide +kernel
theorem dX8_likes_17 : decode cX8_likes 17 = .ok (.getfield 120, 3) := by decide +kernel
theorem dX8_likes_20 : decode cX8_likes 20 = .ok (.iconst 2, 1) := by decide +kernel
theorem dX8_likes_21 : decode cX8_likes 21 = .ok (.aload_n 0, 1) := by decide +kernel
theorem dX8_likes_22 : decode cX8_likes 22 = .ok (.getfield 22, 3) := by decide +kernel
theorem dX8_likes_25 : decode cX8_likes 25 = .ok (.iload_n 2, 1) := by decide +kernel
theorem dX8_likes_26 : decode cX8_likes 26 = .ok (.iaload, 1) := by decide +kernel
theorem dX8_likes_27 : decode cX8_likes 27 = .ok (.aload_n 0, 1) := by decide +kernel
theorem dX8_likes_28 : decode cX8_likes 28 = .ok (.getfield 13, 3) := by decide +kernel
theorem dX8_likes_31 : decode cX8_likes 31 = .ok (.iload_n 1, 1) := by decide +kernel
theorem dX8_likes_32 : decode cX8_likes 32 = .ok (.iaload, 1) := by decide +kernel
theorem dX8_likes_33 : decode cX8_likes 33 = .ok (.if_icmp .le 20, 3) := by decide +kernel
theorem dX8_likes_36 : decode cX8_likes 36 = .ok (.aload_n 0, 1) := by decide +kernel
theorem dX8_likes_37 : decode cX8_likes 37 = .ok (.getfield 22, 3) := by decide +kernel
theorem dX8_likes_40 : decode cX8_likes 40 = .ok (.iload_n 2, 1) := by decide +kernel
theorem dX8_likes_41 : decode cX8_likes 41 = .ok (.iaload, 1) := by decide +kernel
theorem dX8_likes_42 : decode cX8_likes 42 = .ok (.aload_n 0, 1) := by decide +kernel
theorem dX8_likes_43 : decode cX8_likes 43 = .ok (.getfield 13, 3) := by decide +kernel
theorem dX8_likes_46 : decode cX8_likes 46 = .ok (.iload_n 1, 1) := by decide +kernel
theorem dX8_likes_47 : decode cX8_likes 47 = .ok (.iaload, 1) := by decide +kernel
theorem dX8_likes_48 : decode cX8_likes 48 = .ok (.isub, 1) := by decide +kernel
theorem dX8_likes_49 : decode cX8_likes 49 = .ok (.i2l, 1) := by decide +kernel
theorem dX8_likes_50 : decode cX8_likes 50 = .ok (.goto 17, 3) := by decide +kernel
theorem dX8_likes_53 : decode cX8_likes 53 = .ok (.aload_n 0, 1) := by decide +kernel
theorem dX8_likes_54 : decode cX8_likes 54 = .ok (.getfield 13, 3) := by decide +kernel
theorem dX8_likes_57 : decode cX8_likes 57 = .ok (.iload_n 1, 1) := by decide +kernel
theorem dX8_likes_58 : decode cX8_likes 58 = .ok (.iaload, 1) := by decide +kernel
theorem dX8_likes_59 : decode cX8_likes 59 = .ok (.aload_n 0, 1) := by decide +kernel
theorem dX8_likes_60 : decode cX8_likes 60 = .ok (.getfield 22, 3) := by decide +kernel
theorem dX8_likes_63 : decode cX8_likes 63 = .ok (.iload_n 2, 1) := by decide +kernel
theorem dX8_likes_64 : decode cX8_likes 64 = .ok (.iaload, 1) := by decide +kernel
theorem dX8_likes_65 : decode cX8_likes 65 = .ok (.isub, 1) := by decide +kernel
theorem dX8_likes_66 : decode cX8_likes 66 = .ok (.i2l, 1) := by decide +kernel
theorem dX8_likes_67 : decode cX8_likes 67 = .ok (.lastore, 1) := by decide +kernel
theorem dX8_likes_68 : decode cX8_likes 68 = .ok (.aload_n 0, 1) := by decide +kernel
theorem dX8_likes_69 : decode cX8_likes 69 = .ok (.getfield 120, 3) := by decide +kernel
theorem dX8_likes_72 : decode cX8_likes 72 = .ok (.iconst 3, 1) := by decide +kernel
theorem dX8_likes_73 : decode cX8_likes 73 = .ok (.aload_n 0, 1) := by decide +kernel
theorem dX8_likes_74 : decode cX8_likes 74 = .ok (.iload_n 2, 1) := by decide +kernel
theorem dX8_likes_75 : decode cX8_likes 75 = .ok (.invokevirtual 378, 3) := by decide +kernel
theorem dX8_likes_78 : decode cX8_likes 78 = .ok (.i2l, 1) := by decide +kernel
theorem dX8_likes_79 : decode cX8_likes 79 = .ok (.lastore, 1) := by decide +kernel
theorem dX8_likes_80 : decode cX8_likes 80 = .ok (.aload_n 0, 1) := by decide +kernel
theorem dX8_likes_81 : decode cX8_likes 81 = .ok (.getfield 120, 3) := by decide +kernel
theorem dX8_likes_84 : decode cX8_likes 84 = .ok (.iconst 4, 1) := by decide +kernel
theorem dX8_likes_85 : decode cX8_likes 85 = .ok (.aload_n 0, 1) := by decide +kernel
theorem dX8_likes_86 : decode cX8_likes 86 = .ok (.getfield 19, 3) := by decide +kernel
theorem dX8_likes_89 : decode cX8_likes 89 = .ok (.iload_n 1, 1) := by decide +kernel
theorem dX8_likes_90 : decode cX8_likes 90 = .ok (.iaload, 1) := by decide +kernel
theorem dX8_likes_91 : decode cX8_likes 91 = .ok (.i2l, 1) := by decide +kernel
theorem dX8_likes_92 : decode cX8_likes 92 = .ok (.lastore, 1) := by decide +kernel
theorem dX8_likes_93 : decode cX8_likes 93 = .ok (.aload_n 0, 1) := by decide +kernel
theorem dX8_likes_94 : decode cX8_likes 94 = .ok (.getfield 120, 3) := by decide +kernel
theorem dX8_likes_97 : decode cX8_likes 97 = .ok (.iconst 5, 1) := by decide +kernel
theorem dX8_likes_98 : decode cX8_likes 98 = .ok (.aload_n 0, 1) := by decide +kernel
theorem dX8_likes_99 : decode cX8_likes 99 = .ok (.getfield 34, 3) := by decide +kernel
theorem dX8_likes_102 : decode cX8_likes 102 = .ok (.iload_n 1, 1) := by decide +kernel
theorem dX8_likes_103 : decode cX8_likes 103 = .ok (.iaload, 1) := by decide +kernel
theorem dX8_likes_104 : decode cX8_likes 104 = .ok (.i2l, 1) := by decide +kernel
theorem dX8_likes_105 : decode cX8_likes 105 = .ok (.lastore, 1) := by decide +kernel
theorem dX8_likes_106 : decode cX8_likes 106 = .ok (.aload_n 0, 1) := by decide +kernel
theorem dX8_likes_107 : decode cX8_likes 107 = .ok (.getfield 120, 3) := by decide +kernel
theorem dX8_likes_110 : decode cX8_likes 110 = .ok (.bipush 6, 2) := by decide +kernel
theorem dX8_likes_112 : decode cX8_likes 112 = .ok (.aload_n 0, 1) := by decide +kernel
theorem dX8_likes_113 : decode cX8_likes 113 = .ok (.getfield 31, 3) := by decide +kernel
theorem dX8_likes_116 : decode cX8_likes 116 = .ok (.iload_n 2, 1) := by decide +kernel
theorem dX8_likes_117 : decode cX8_likes 117 = .ok (.iaload, 1) := by decide +kernel
theorem dX8_likes_118 : decode cX8_likes 118 = .ok (.i2l, 1) := by decide +kernel
theorem dX8_likes_119 : decode cX8_likes 119 = .ok (.lastore, 1) := by decide +kernel
theorem dX8_likes_120 : decode cX8_likes 120 = .ok (.aload_n 0, 1) := by decide +kernel
theorem dX8_likes_121 : decode cX8_likes 121 = .ok (.getfield 120, 3) := by decide +kernel
theorem dX8_likes_124 : decode cX8_likes 124 = .ok (.bipush 7, 2) := by decide +kernel
theorem dX8_likes_126 : decode cX8_likes 126 = .ok (.aload_n 0, 1) := by decide +kernel
theorem dX8_likes_127 : decode cX8_likes 127 = .ok (.iload_n 2, 1) := by decide +kernel
theorem dX8_likes_128 : decode cX8_likes 128 = .ok (.invokevirtual 369, 3) := by decide +kernel
theorem dX8_likes_131 : decode cX8_likes 131 = .ok (.iconst 1, 1) := by decide +kernel
theorem dX8_likes_132 : decode cX8_likes 132 = .ok (.iload_n 1, 1) := by decide +kernel
theorem dX8_likes_133 : decode cX8_likes 133 = .ok (.ishl, 1) := by decide +kernel
theorem dX8_likes_134 : decode cX8_likes 134 = .ok (.iconst (-1), 1) := by decide +kernel
theorem dX8_likes_135 : decode cX8_likes 135 = .ok (.ixor, 1) := by decide +kernel
theorem dX8_likes_136 : decode cX8_likes 136 = .ok (.iand, 1) := by decide +kernel
theorem dX8_likes_137 : decode cX8_likes 137 = .ok (.invokestatic 381, 3) := by decide +kernel
theorem dX8_likes_140 : decode cX8_likes 140 = .ok (.i2l, 1) := by decide +kernel
theorem dX8_likes_141 : decode cX8_likes 141 = .ok (.lastore, 1) := by decide +kernel
theorem dX8_likes_142 : decode cX8_likes 142 = .ok (.aload_n 0, 1) := by decide +kernel
theorem dX8_likes_143 : decode cX8_likes 143 = .ok (.getfield 120, 3) := by decide +kernel
theorem dX8_likes_146 : decode cX8_likes 146 = .ok (.bipush 8, 2) := by decide +kernel
theorem dX8_likes_148 : decode cX8_likes 148 = .ok (.aload_n 0, 1) := by decide +kernel
theorem dX8_likes_149 : decode cX8_likes 149 = .ok (.iload_n 2, 1) := by decide +kernel
theorem dX8_likes_150 : decode cX8_likes 150 = .ok (.invokevirtual 363, 3) := by decide +kernel
theorem dX8_likes_153 : decode cX8_likes 153 = .ok (.i2l, 1) := by decide +kernel
theorem dX8_likes_154 : decode cX8_likes 154 = .ok (.lastore, 1) := by decide +kernel
theorem dX8_likes_155 : decode cX8_likes 155 = .ok (.aload_n 0, 1) := by decide +kernel
theorem dX8_likes_156 : decode cX8_likes 156 = .ok (.getfield 120, 3) := by decide +kernel
theorem dX8_likes_159 : decode cX8_likes 159 = .ok (.bipush 9, 2) := by decide +kernel
theorem dX8_likes_161 : decode cX8_likes 161 = .ok (.aload_n 0, 1) := by decide +kernel
theorem dX8_likes_162 : decode cX8_likes 162 = .ok (.iload_n 2, 1) := by decide +kernel
theorem dX8_likes_163 : decode cX8_likes 163 = .ok (.invokevirtual 366, 3) := by decide +kernel
theorem dX8_likes_166 : decode cX8_likes 166 = .ok (.i2l, 1) := by decide +kernel
theorem dX8_likes_167 : decode cX8_likes 167 = .ok (.lastore, 1) := by decide +kernel
theorem dX8_likes_168 : decode cX8_likes 168 = .ok (.aload_n 0, 1) := by decide +kernel
theorem dX8_likes_169 : decode cX8_likes 169 = .ok (.getfield 120, 3) := by decide +kernel
theorem dX8_likes_172 : decode cX8_likes 172 = .ok (.bipush 10, 2) := by decide +kernel
theorem dX8_likes_174 : decode cX8_likes 174 = .ok (.aload_n 0, 1) := by decide +kernel
theorem dX8_likes_175 : decode cX8_likes 175 = .ok (.getfield 9, 3) := by decide +kernel
theorem dX8_likes_178 : decode cX8_likes 178 = .ok (.iconst 4, 1) := by decide +kernel
theorem dX8_likes_179 : decode cX8_likes 179 = .ok (.iaload, 1) := by decide +kernel
theorem dX8_likes_180 : decode cX8_likes 180 = .ok (.i2l, 1) := by decide +kernel
theorem dX8_likes_181 : decode cX8_likes 181 = .ok (.lastore, 1) := by decide +kernel
theorem dX8_likes_182 : decode cX8_likes 182 = .ok (.aload_n 0, 1) := by decide +kernel
theorem dX8_likes_183 : decode cX8_likes 183 = .ok (.invokevirtual 384, 3) := by decide +kernel
theorem dX8_likes_186 : decode cX8_likes 186 = .ok (.lreturn, 1) := by decide +kernel
theorem dX8_choice_0 : decode cX8_choice 0 = .ok (.iconst (-1), 1) := by decide +kernel
theorem dX8_choice_1 : decode cX8_choice 1 = .ok (.istore_n 2, 1) := by decide +kernel
theorem dX8_choice_2 : decode cX8_choice 2 = .ok (.aload_n 0, 1) := by decide +kernel
theorem dX8_choice_3 : decode cX8_choice 3 = .ok (.getfield 9, 3) := by decide +kernel
theorem dX8_choice_6 : decode cX8_choice 6 = .ok (.bipush 8, 2) := by decide +kernel
theorem dX8_choice_8 : decode cX8_choice 8 = .ok (.iaload, 1) := by decide +kernel
theorem dX8_choice_9 : decode cX8_choice 9 = .ok (.iconst (-1), 1) := by decide +kernel
theorem dX8_choice_10 : decode cX8_choice 10 = .ok (.if_icmp .ne 56, 3) := by decide +kernel
theorem dX8_choice_13 : decode cX8_choice 13 = .ok (.aload_n 0, 1) := by decide +kernel
theorem dX8_choice_14 : decode cX8_choice 14 = .ok (.getfield 9, 3) := by decide +kernel
theorem dX8_choice_17 : decode cX8_choice 17 = .ok (.iconst 3, 1) := by decide +kernel
theorem dX8_choice_18 : decode cX8_choice 18 = .ok (.iaload, 1) := by decide +kernel
theorem dX8_choice_19 : decode cX8_choice 19 = .ok (.iconst 1, 1) := by decide +kernel
theorem dX8_choice_20 : decode cX8_choice 20 = .ok (.isub, 1) := by decide +kernel
theorem dX8_choice_21 : decode cX8_choice 21 = .ok (.istore_n 3, 1) := by decide +kernel
theorem dX8_choice_22 : decode cX8_choice 22 = .ok (.iload_n 3, 1) := by decide +kernel
theorem dX8_choice_23 : decode cX8_choice 23 = .ok (.ifCond .lt 41, 3) := by decide +kernel
theorem dX8_choice_26 : decode cX8_choice 26 = .ok (.aload_n 0, 1) := by decide +kernel
theorem dX8_choice_27 : decode cX8_choice 27 = .ok (.iload_n 3, 1) := by decide +kernel
theorem dX8_choice_28 : decode cX8_choice 28 = .ok (.aload_n 0, 1) := by decide +kernel
theorem dX8_choice_29 : decode cX8_choice 29 = .ok (.getfield 9, 3) := by decide +kernel
theorem dX8_choice_32 : decode cX8_choice 32 = .ok (.iconst 4, 1) := by decide +kernel
theorem dX8_choice_33 : decode cX8_choice 33 = .ok (.iaload, 1) := by decide +kernel
theorem dX8_choice_34 : decode cX8_choice 34 = .ok (.aload_n 0, 1) := by decide +kernel
theorem dX8_choice_35 : decode cX8_choice 35 = .ok (.getfield 19, 3) := by decide +kernel
theorem dX8_choice_38 : decode cX8_choice 38 = .ok (.iload_n 1, 1) := by decide +kernel
theorem dX8_choice_39 : decode cX8_choice 39 = .ok (.iaload, 1) := by decide +kernel
theorem dX8_choice_40 : decode cX8_choice 40 = .ok (.iadd, 1) := by decide +kernel
theorem dX8_choice_41 : decode cX8_choice 41 = .ok (.invokevirtual 388, 3) := by decide +kernel
theorem dX8_choice_44 : decode cX8_choice 44 = .ok (.ifCond .eq 12, 3) := by decide +kernel
theorem dX8_choice_47 : decode cX8_choice 47 = .ok (.aload_n 0, 1) := by decide +kernel
theorem dX8_choice_48 : decode cX8_choice 48 = .ok (.getfield 37, 3) := by decide +kernel
theorem dX8_choice_51 : decode cX8_choice 51 = .ok (.iload_n 3, 1) := by decide +kernel
theorem dX8_choice_52 : decode cX8_choice 52 = .ok (.iaload, 1) := by decide +kernel
theorem dX8_choice_53 : decode cX8_choice 53 = .ok (.goto 4, 3) := by decide +kernel
theorem dX8_choice_56 : decode cX8_choice 56 = .ok (.iload_n 2, 1) := by decide +kernel
theorem dX8_choice_57 : decode cX8_choice 57 = .ok (.istore_n 2, 1) := by decide +kernel
theorem dX8_choice_58 : decode cX8_choice 58 = .ok (.iinc 3 (-1), 3) := by decide +kernel
theorem dX8_choice_61 : decode cX8_choice 61 = .ok (.goto (-39), 3) := by decide +kernel
theorem dX8_choice_64 : decode cX8_choice 64 = .ok (.iload_n 2, 1) := by decide +kernel
theorem dX8_choice_65 : decode cX8_choice 65 = .ok (.ireturn, 1) := by decide +kernel
theorem dX8_choice_66 : decode cX8_choice 66 = .ok (.lconst 0, 1) := by decide +kernel
theorem dX8_choice_67 : decode cX8_choice 67 = .ok (.lstore_n 3, 1) := by decide +kernel
theorem dX8_choice_68 : decode cX8_choice 68 = .ok (.iconst 0, 1) := by decide +kernel
theorem dX8_choice_69 : decode cX8_choice 69 = .ok (.istore 5, 2) := by decide +kernel
theorem dX8_choice_71 : decode cX8_choice 71 = .ok (.iload 5, 2) := by decide +kernel
theorem dX8_choice_73 : decode cX8_choice 73 = .ok (.aload_n 0, 1) := by decide +kernel
theorem dX8_choice_74 : decode cX8_choice 74 = .ok (.getfield 9, 3) := by decide +kernel
theorem dX8_choice_77 : decode cX8_choice 77 = .ok (.iconst 1, 1) := by decide +kernel
theorem dX8_choice_78 : decode cX8_choice 78 = .ok (.iaload, 1) := by decide +kernel
theorem dX8_choice_79 : decode cX8_choice 79 = .ok (.if_icmp .ge 31, 3) := by decide +kernel
theorem dX8_choice_82 : decode cX8_choice 82 = .ok (.aload_n 0, 1) := by decide +kernel
theorem dX8_choice_83 : decode cX8_choice 83 = .ok (.iload_n 1, 1) := by decide +kernel
theorem dX8_choice_84 : decode cX8_choice 84 = .ok (.iload 5, 2) := by decide +kernel
theorem dX8_choice_86 : decode cX8_choice 86 = .ok (.invokevirtual 391, 3) := by decide +kernel
theorem dX8_choice_89 : decode cX8_choice 89 = .ok (.lstore 6, 2) := by decide +kernel
theorem dX8_choice_91 : decode cX8_choice 91 = .ok (.lload 6, 2) := by decide +kernel
theorem dX8_choice_93 : decode cX8_choice 93 = .ok (.lload_n 3, 1) := by decide +kernel
theorem dX8_choice_94 : decode cX8_choice 94 = .ok (.lcmp, 1) := by decide +kernel
theorem dX8_choice_95 : decode cX8_choice 95 = .ok (.ifCond .le 9, 3) := by decide +kernel
theorem dX8_choice_98 : decode cX8_choice 98 = .ok (.iload 5, 2) := by decide +kernel
theorem dX8_choice_100 : decode cX8_choice 100 = .ok (.istore_n 2, 1) := by decide +kernel
theorem dX8_choice_101 : decode cX8_choice 101 = .ok (.lload 6, 2) := by decide +kernel
theorem dX8_choice_103 : decode cX8_choice 103 = .ok (.lstore_n 3, 1) := by decide +kernel
theorem dX8_choice_104 : decode cX8_choice 104 = .ok (.iinc 5 1, 3) := by decide +kernel
theorem dX8_choice_107 : decode cX8_choice 107 = .ok (.goto (-36), 3) := by decide +kernel
theorem dX8_choice_110 : decode cX8_choice 110 = .ok (.iload_n 2, 1) := by decide +kernel
theorem dX8_choice_111 : decode cX8_choice 111 = .ok (.ireturn, 1) := by decide +kernel
theorem dX8_walks_0 : decode cX8_walks 0 = .ok (.aload_n 0, 1) := by decide +kernel
theorem dX8_walks_1 : decode cX8_walks 1 = .ok (.getfield 22, 3) := by decide +kernel
theorem dX8_walks_4 : decode cX8_walks 4 = .ok (.iload_n 2, 1) := by decide +kernel
theorem dX8_walks_5 : decode cX8_walks 5 = .ok (.iaload, 1) := by decide +kernel
theorem dX8_walks_6 : decode cX8_walks 6 = .ok (.aload_n 0, 1) := by decide +kernel
theorem dX8_walks_7 : decode cX8_walks 7 = .ok (.getfield 13, 3) := by decide +kernel
theorem dX8_walks_10 : decode cX8_walks 10 = .ok (.iload_n 1, 1) := by decide +kernel
theorem dX8_walks_11 : decode cX8_walks 11 = .ok (.iaload, 1) := by decide +kernel
theorem dX8_walks_12 : decode cX8_walks 12 = .ok (.isub, 1) := by decide +kernel
theorem dX8_walks_13 : decode cX8_walks 13 = .ok (.istore_n 3, 1) := by decide +kernel
theorem dX8_walks_14 : decode cX8_walks 14 = .ok (.iload_n 3, 1) := by decide +kernel
theorem dX8_walks_15 : decode cX8_walks 15 = .ok (.ifCond .ge 8, 3) := by decide +kernel
theorem dX8_walks_18 : decode cX8_walks 18 = .ok (.iload_n 3, 1) := by decide +kernel
theorem dX8_walks_19 : decode cX8_walks 19 = .ok (.ineg, 1) := by decide +kernel
theorem dX8_walks_20 : decode cX8_walks 20 = .ok (.goto 4, 3) := by decide +kernel
theorem dX8_walks_23 : decode cX8_walks 23 = .ok (.iload_n 3, 1) := by decide +kernel
theorem dX8_walks_24 : decode cX8_walks 24 = .ok (.istore 4, 2) := by decide +kernel
theorem dX8_walks_26 : decode cX8_walks 26 = .ok (.iload 4, 2) := by decide +kernel
theorem dX8_walks_28 : decode cX8_walks 28 = .ok (.aload_n 0, 1) := by decide +kernel
theorem dX8_walks_29 : decode cX8_walks 29 = .ok (.getfield 34, 3) := by decide +kernel
theorem dX8_walks_32 : decode cX8_walks 32 = .ok (.iload_n 1, 1) := by decide +kernel
theorem dX8_walks_33 : decode cX8_walks 33 = .ok (.iaload, 1) := by decide +kernel
theorem dX8_walks_34 : decode cX8_walks 34 = .ok (.if_icmp .ge 8, 3) := by decide +kernel
theorem dX8_walks_37 : decode cX8_walks 37 = .ok (.iload 4, 2) := by decide +kernel
theorem dX8_walks_39 : decode cX8_walks 39 = .ok (.goto 9, 3) := by decide +kernel
theorem dX8_walks_42 : decode cX8_walks 42 = .ok (.aload_n 0, 1) := by decide +kernel
theorem dX8_walks_43 : decode cX8_walks 43 = .ok (.getfield 34, 3) := by decide +kernel
theorem dX8_walks_46 : decode cX8_walks 46 = .ok (.iload_n 1, 1) := by decide +kernel
theorem dX8_walks_47 : decode cX8_walks 47 = .ok (.iaload, 1) := by decide +kernel
theorem dX8_walks_48 : decode cX8_walks 48 = .ok (.istore 5, 2) := by decide +kernel
theorem dX8_walks_50 : decode cX8_walks 50 = .ok (.aload_n 0, 1) := by decide +kernel
theorem dX8_walks_51 : decode cX8_walks 51 = .ok (.getfield 13, 3) := by decide +kernel
theorem dX8_walks_54 : decode cX8_walks 54 = .ok (.iload_n 1, 1) := by decide +kernel
theorem dX8_walks_55 : decode cX8_walks 55 = .ok (.dup2, 1) := by decide +kernel
theorem dX8_walks_56 : decode cX8_walks 56 = .ok (.iaload, 1) := by decide +kernel
theorem dX8_walks_57 : decode cX8_walks 57 = .ok (.iload_n 3, 1) := by decide +kernel
theorem dX8_walks_58 : decode cX8_walks 58 = .ok (.ifCond .ge 9, 3) := by decide +kernel
theorem dX8_walks_61 : decode cX8_walks 61 = .ok (.iload 5, 2) := by decide +kernel
theorem dX8_walks_63 : decode cX8_walks 63 = .ok (.ineg, 1) := by decide +kernel
theorem dX8_walks_64 : decode cX8_walks 64 = .ok (.goto 5, 3) := by decide +kernel
theorem dX8_walks_67 : decode cX8_walks 67 = .ok (.iload 5, 2) := by decide +kernel
theorem dX8_walks_69 : decode cX8_walks 69 = .ok (.iadd, 1) := by decide +kernel
theorem dX8_walks_70 : decode cX8_walks 70 = .ok (.iastore, 1) := by decide +kernel
theorem dX8_walks_71 : decode cX8_walks 71 = .ok (.aload_n 0, 1) := by decide +kernel
theorem dX8_walks_72 : decode cX8_walks 72 = .ok (.getfield 16, 3) := by decide +kernel
theorem dX8_walks_75 : decode cX8_walks 75 = .ok (.iload_n 1, 1) := by decide +kernel
theorem dX8_walks_76 : decode cX8_walks 76 = .ok (.aload_n 0, 1) := by decide +kernel
theorem dX8_walks_77 : decode cX8_walks 77 = .ok (.getfield 13, 3) := by decide +kernel
theorem dX8_walks_80 : decode cX8_walks 80 = .ok (.iload_n 1, 1) := by decide +kernel
theorem dX8_walks_81 : decode cX8_walks 81 = .ok (.iaload, 1) := by decide +kernel
theorem dX8_walks_82 : decode cX8_walks 82 = .ok (.aload_n 0, 1) := by decide +kernel
theorem dX8_walks_83 : decode cX8_walks 83 = .ok (.getfield 22, 3) := by decide +kernel
theorem dX8_walks_86 : decode cX8_walks 86 = .ok (.iload_n 2, 1) := by decide +kernel
theorem dX8_walks_87 : decode cX8_walks 87 = .ok (.iaload, 1) := by decide +kernel
theorem dX8_walks_88 : decode cX8_walks 88 = .ok (.if_icmp .ne 7, 3) := by decide +kernel
theorem dX8_walks_91 : decode cX8_walks 91 = .ok (.iload_n 2, 1) := by decide +kernel
theorem dX8_walks_92 : decode cX8_walks 92 = .ok (.goto 4, 3) := by decide +kernel
theorem dX8_walks_95 : decode cX8_walks 95 = .ok (.iconst (-1), 1) := by decide +kernel
theorem dX8_walks_96 : decode cX8_walks 96 = .ok (.iastore, 1) := by decide +kernel
theorem dX8_walks_97 : decode cX8_walks 97 = .ok (.return_, 1) := by decide +kernel
theorem dX8_goes_0 : decode cX8_goes 0 = .ok (.iconst 0, 1) := by decide +kernel
theorem dX8_goes_1 : decode cX8_goes 1 = .ok (.istore_n 1, 1) := by decide +kernel
theorem dX8_goes_2 : decode cX8_goes 2 = .ok (.iload_n 1, 1) := by decide +kernel
theorem dX8_goes_3 : decode cX8_goes 3 = .ok (.aload_n 0, 1) := by decide +kernel
theorem dX8_goes_4 : decode cX8_goes 4 = .ok (.getfield 9, 3) := by decide +kernel
theorem dX8_goes_7 : decode cX8_goes 7 = .ok (.iconst 2, 1) := by decide +kernel
theorem dX8_goes_8 : decode cX8_goes 8 = .ok (.iaload, 1) := by decide +kernel
theorem dX8_goes_9 : decode cX8_goes 9 = .ok (.if_icmp .ge 38, 3) := by decide +kernel
theorem dX8_goes_12 : decode cX8_goes 12 = .ok (.iload_n 1, 1) := by decide +kernel
theorem dX8_goes_13 : decode cX8_goes 13 = .ok (.aload_n 0, 1) := by decide +kernel
theorem dX8_goes_14 : decode cX8_goes 14 = .ok (.getfield 127, 3) := by decide +kernel
theorem dX8_goes_17 : decode cX8_goes 17 = .ok (.if_icmp .ne 7, 3) := by decide +kernel
theorem dX8_goes_20 : decode cX8_goes 20 = .ok (.iconst (-1), 1) := by decide +kernel
theorem dX8_goes_21 : decode cX8_goes 21 = .ok (.goto 8, 3) := by decide +kernel
theorem dX8_goes_24 : decode cX8_goes 24 = .ok (.aload_n 0, 1) := by decide +kernel
theorem dX8_goes_25 : decode cX8_goes 25 = .ok (.iload_n 1, 1) := by decide +kernel
theorem dX8_goes_26 : decode cX8_goes 26 = .ok (.invokevirtual 395, 3) := by decide +kernel
theorem dX8_goes_29 : decode cX8_goes 29 = .ok (.istore_n 2, 1) := by decide +kernel
theorem dX8_goes_30 : decode cX8_goes 30 = .ok (.iload_n 2, 1) := by decide +kernel
theorem dX8_goes_31 : decode cX8_goes 31 = .ok (.iconst (-1), 1) := by decide +kernel
theorem dX8_goes_32 : decode cX8_goes 32 = .ok (.if_icmp .eq 9, 3) := by decide +kernel
theorem dX8_goes_35 : decode cX8_goes 35 = .ok (.aload_n 0, 1) := by decide +kernel
theorem dX8_goes_36 : decode cX8_goes 36 = .ok (.iload_n 1, 1) := by decide +kernel
theorem dX8_goes_37 : decode cX8_goes 37 = .ok (.iload_n 2, 1) := by decide +kernel
theorem dX8_goes_38 : decode cX8_goes 38 = .ok (.invokevirtual 398, 3) := by decide +kernel
theorem dX8_goes_41 : decode cX8_goes 41 = .ok (.iinc 1 1, 3) := by decide +kernel
theorem dX8_goes_44 : decode cX8_goes 44 = .ok (.goto (-42), 3) := by decide +kernel
theorem dX8_goes_47 : decode cX8_goes 47 = .ok (.aload_n 0, 1) := by decide +kernel
theorem dX8_goes_48 : decode cX8_goes 48 = .ok (.getfield 130, 3) := by decide +kernel
theorem dX8_goes_51 : decode cX8_goes 51 = .ok (.iconst (-1), 1) := by decide +kernel
theorem dX8_goes_52 : decode cX8_goes 52 = .ok (.if_icmp .eq 23, 3) := by decide +kernel
theorem dX8_goes_55 : decode cX8_goes 55 = .ok (.aload_n 0, 1) := by decide +kernel
theorem dX8_goes_56 : decode cX8_goes 56 = .ok (.aload_n 0, 1) := by decide +kernel
theorem dX8_goes_57 : decode cX8_goes 57 = .ok (.aload_n 0, 1) := by decide +kernel
theorem dX8_goes_58 : decode cX8_goes 58 = .ok (.getfield 130, 3) := by decide +kernel
theorem dX8_goes_61 : decode cX8_goes 61 = .ok (.invokevirtual 369, 3) := by decide +kernel
theorem dX8_goes_64 : decode cX8_goes 64 = .ok (.ifCond .ne 7, 3) := by decide +kernel
theorem dX8_goes_67 : decode cX8_goes 67 = .ok (.iconst 1, 1) := by decide +kernel
theorem dX8_goes_68 : decode cX8_goes 68 = .ok (.goto 4, 3) := by decide +kernel
theorem dX8_goes_71 : decode cX8_goes 71 = .ok (.iconst 0, 1) := by decide +kernel
theorem dX8_goes_72 : decode cX8_goes 72 = .ok (.putfield 401, 3) := by decide +kernel
theorem dX8_goes_75 : decode cX8_goes 75 = .ok (.aload_n 0, 1) := by decide +kernel
theorem dX8_goes_76 : decode cX8_goes 76 = .ok (.iconst 0, 1) := by decide +kernel
theorem dX8_goes_77 : decode cX8_goes 77 = .ok (.putfield 404, 3) := by decide +kernel
theorem dX8_goes_80 : decode cX8_goes 80 = .ok (.aload_n 0, 1) := by decide +kernel
theorem dX8_goes_81 : decode cX8_goes 81 = .ok (.iconst 0, 1) := by decide +kernel
theorem dX8_goes_82 : decode cX8_goes 82 = .ok (.putfield 407, 3) := by decide +kernel
theorem dX8_goes_85 : decode cX8_goes 85 = .ok (.iconst 0, 1) := by decide +kernel
theorem dX8_goes_86 : decode cX8_goes 86 = .ok (.istore_n 1, 1) := by decide +kernel
theorem dX8_goes_87 : decode cX8_goes 87 = .ok (.iload_n 1, 1) := by decide +kernel
theorem dX8_goes_88 : decode cX8_goes 88 = .ok (.aload_n 0, 1) := by decide +kernel
theorem dX8_goes_89 : decode cX8_goes 89 = .ok (.getfield 9, 3) := by decide +kernel
theorem dX8_goes_92 : decode cX8_goes 92 = .ok (.iconst 3, 1) := by decide +kernel
theorem dX8_goes_93 : decode cX8_goes 93 = .ok (.iaload, 1) := by decide +kernel
theorem dX8_goes_94 : decode cX8_goes 94 = .ok (.if_icmp .ge 133, 3) := by decide +kernel
theorem dX8_goes_97 : decode cX8_goes 97 = .ok (.aload_n 0, 1) := by decide +kernel
theorem dX8_goes_98 : decode cX8_goes 98 = .ok (.iload_n 1, 1) := by decide +kernel
theorem dX8_goes_99 : decode cX8_goes 99 = .ok (.aload_n 0, 1) := by decide +kernel
theorem dX8_goes_100 : decode cX8_goes 100 = .ok (.getfield 9, 3) := by decide +kernel
theorem dX8_goes_103 : decode cX8_goes 103 = .ok (.iconst 4, 1) := by decide +kernel
theorem dX8_goes_104 : decode cX8_goes 104 = .ok (.iaload, 1) := by decide +kernel
theorem dX8_goes_105 : decode cX8_goes 105 = .ok (.invokevirtual 388, 3) := by decide +kernel
theorem dX8_goes_108 : decode cX8_goes 108 = .ok (.ifCond .eq 113, 3) := by decide +kernel
theorem dX8_goes_111 : decode cX8_goes 111 = .ok (.aload_n 0, 1) := by decide +kernel
theorem dX8_goes_112 : decode cX8_goes 112 = .ok (.aload_n 0, 1) := by decide +kernel
theorem dX8_goes_113 : decode cX8_goes 113 = .ok (.getfield 37, 3) := by decide +kernel
theorem dX8_goes_116 : decode cX8_goes 116 = .ok (.iload_n 1, 1) := by decide +kernel
theorem dX8_goes_117 : decode cX8_goes 117 = .ok (.iaload, 1) := by decide +kernel
theorem dX8_goes_118 : decode cX8_goes 118 = .ok (.invokevirtual 369, 3) := by decide +kernel
theorem dX8_goes_121 : decode cX8_goes 121 = .ok (.ifCond .ne 53, 3) := by decide +kernel
theorem dX8_goes_124 : decode cX8_goes 124 = .ok (.aload_n 0, 1) := by decide +kernel
theorem dX8_goes_125 : decode cX8_goes 125 = .ok (.dup, 1) := by decide +kernel
theorem dX8_goes_126 : decode cX8_goes 126 = .ok (.getfield 404, 3) := by decide +kernel
theorem dX8_goes_129 : decode cX8_goes 129 = .ok (.iconst 1, 1) := by decide +kernel
theorem dX8_goes_130 : decode cX8_goes 130 = .ok (.iload_n 1, 1) := by decide +kernel
theorem dX8_goes_131 : decode cX8_goes 131 = .ok (.ishl, 1) := by decide +kernel
theorem dX8_goes_132 : decode cX8_goes 132 = .ok (.ior, 1) := by decide +kernel
theorem dX8_goes_133 : decode cX8_goes 133 = .ok (.putfield 404, 3) := by decide +kernel
theorem dX8_goes_136 : decode cX8_goes 136 = .ok (.aload_n 0, 1) := by decide +kernel
theorem dX8_goes_137 : decode cX8_goes 137 = .ok (.getfield 25, 3) := by decide +kernel
theorem dX8_goes_140 : decode cX8_goes 140 = .ok (.iload_n 1, 1) := by decide +kernel
theorem dX8_goes_141 : decode cX8_goes 141 = .ok (.aload_n 0, 1) := by decide +kernel
theorem dX8_goes_142 : decode cX8_goes 142 = .ok (.getfield 25, 3) := by decide +kernel
theorem dX8_goes_145 : decode cX8_goes 145 = .ok (.iload_n 1, 1) := by decide +kernel
theorem dX8_goes_146 : decode cX8_goes 146 = .ok (.iaload, 1) := by decide +kernel
theorem dX8_goes_147 : decode cX8_goes 147 = .ok (.sipush 999, 3) := by decide +kernel
theorem dX8_goes_150 : decode cX8_goes 150 = .ok (.if_icmp .ge 14, 3) := by decide +kernel
theorem dX8_goes_153 : decode cX8_goes 153 = .ok (.aload_n 0, 1) := by decide +kernel
theorem dX8_goes_154 : decode cX8_goes 154 = .ok (.getfield 25, 3) := by decide +kernel
theorem dX8_goes_157 : decode cX8_goes 157 = .ok (.iload_n 1, 1) := by decide +kernel
theorem dX8_goes_158 : decode cX8_goes 158 = .ok (.iaload, 1) := by decide +kernel
theorem dX8_goes_159 : decode cX8_goes 159 = .ok (.iconst 1, 1) := by decide +kernel
theorem dX8_goes_160 : decode cX8_goes 160 = .ok (.iadd, 1) := by decide +kernel
theorem dX8_goes_161 : decode cX8_goes 161 = .ok (.goto 9, 3) := by decide +kernel
theorem dX8_goes_164 : decode cX8_goes 164 = .ok (.aload_n 0, 1) := by decide +kernel
theorem dX8_goes_165 : decode cX8_goes 165 = .ok (.getfield 25, 3) := by decide +kernel
theorem dX8_goes_168 : decode cX8_goes 168 = .ok (.iload_n 1, 1) := by decide +kernel
theorem dX8_goes_169 : decode cX8_goes 169 = .ok (.iaload, 1) := by decide +kernel
theorem dX8_goes_170 : decode cX8_goes 170 = .ok (.iastore, 1) := by decide +kernel
theorem dX8_goes_171 : decode cX8_goes 171 = .ok (.goto 50, 3) := by decide +kernel
theorem dX8_goes_174 : decode cX8_goes 174 = .ok (.aload_n 0, 1) := by decide +kernel
theorem dX8_goes_175 : decode cX8_goes 175 = .ok (.dup, 1) := by decide +kernel
theorem dX8_goes_176 : decode cX8_goes 176 = .ok (.getfield 407, 3) := by decide +kernel
theorem dX8_goes_179 : decode cX8_goes 179 = .ok (.iconst 1, 1) := by decide +kernel
theorem dX8_goes_180 : decode cX8_goes 180 = .ok (.iload_n 1, 1) := by decide +kernel
theorem dX8_goes_181 : decode cX8_goes 181 = .ok (.ishl, 1) := by decide +kernel
theorem dX8_goes_182 : decode cX8_goes 182 = .ok (.ior, 1) := by decide +kernel
theorem dX8_goes_183 : decode cX8_goes 183 = .ok (.putfield 407, 3) := by decide +kernel
theorem dX8_goes_186 : decode cX8_goes 186 = .ok (.aload_n 0, 1) := by decide +kernel
theorem dX8_goes_187 : decode cX8_goes 187 = .ok (.getfield 28, 3) := by decide +kernel
theorem dX8_goes_190 : decode cX8_goes 190 = .ok (.iload_n 1, 1) := by decide +kernel
theorem dX8_goes_191 : decode cX8_goes 191 = .ok (.aload_n 0, 1) := by decide +kernel
theorem dX8_goes_192 : decode cX8_goes 192 = .ok (.getfield 28, 3) := by decide +kernel
theorem dX8_goes_195 : decode cX8_goes 195 = .ok (.iload_n 1, 1) := by decide +kernel
theorem dX8_goes_196 : decode cX8_goes 196 = .ok (.iaload, 1) := by decide +kernel
theorem dX8_goes_197 : decode cX8_goes 197 = .ok (.sipush 999, 3) := by decide +kernel
theorem dX8_goes_200 : decode cX8_goes 200 = .ok (.if_icmp .ge 14, 3) := by decide +kernel
theorem dX8_goes_203 : decode cX8_goes 203 = .ok (.aload_n 0, 1) := by decide +kernel
theorem dX8_goes_204 : decode cX8_goes 204 = .ok (.getfield 28, 3) := by decide +kernel
theorem dX8_goes_207 : decode cX8_goes 207 = .ok (.iload_n 1, 1) := by decide +kernel
theorem dX8_goes_208 : decode cX8_goes 208 = .ok (.iaload, 1) := by decide +kernel
theorem dX8_goes_209 : decode cX8_goes 209 = .ok (.iconst 1, 1) := by decide +kernel
theorem dX8_goes_210 : decode cX8_goes 210 = .ok (.iadd, 1) := by decide +kernel
theorem dX8_goes_211 : decode cX8_goes 211 = .ok (.goto 9, 3) := by decide +kernel
theorem dX8_goes_214 : decode cX8_goes 214 = .ok (.aload_n 0, 1) := by decide +kernel
theorem dX8_goes_215 : decode cX8_goes 215 = .ok (.getfield 28, 3) := by decide +kernel
theorem dX8_goes_218 : decode cX8_goes 218 = .ok (.iload_n 1, 1) := by decide +kernel
theorem dX8_goes_219 : decode cX8_goes 219 = .ok (.iaload, 1) := by decide +kernel
theorem dX8_goes_220 : decode cX8_goes 220 = .ok (.iastore, 1) := by decide +kernel
theorem dX8_goes_221 : decode cX8_goes 221 = .ok (.iinc 1 1, 3) := by decide +kernel
theorem dX8_goes_224 : decode cX8_goes 224 = .ok (.goto (-137), 3) := by decide +kernel
theorem dX8_goes_227 : decode cX8_goes 227 = .ok (.aload_n 0, 1) := by decide +kernel
theorem dX8_goes_228 : decode cX8_goes 228 = .ok (.getfield 9, 3) := by decide +kernel
theorem dX8_goes_231 : decode cX8_goes 231 = .ok (.iconst 4, 1) := by decide +kernel
theorem dX8_goes_232 : decode cX8_goes 232 = .ok (.dup2, 1) := by decide +kernel
theorem dX8_goes_233 : decode cX8_goes 233 = .ok (.iaload, 1) := by decide +kernel
theorem dX8_goes_234 : decode cX8_goes 234 = .ok (.iconst 1, 1) := by decide +kernel
theorem dX8_goes_235 : decode cX8_goes 235 = .ok (.iadd, 1) := by decide +kernel
theorem dX8_goes_236 : decode cX8_goes 236 = .ok (.iastore, 1) := by decide +kernel
theorem dX8_goes_237 : decode cX8_goes 237 = .ok (.aload_n 0, 1) := by decide +kernel
theorem dX8_goes_238 : decode cX8_goes 238 = .ok (.getfield 407, 3) := by decide +kernel
theorem dX8_goes_241 : decode cX8_goes 241 = .ok (.ireturn, 1) := by decide +kernel
theorem dX8_goFor_0 : decode cX8_goFor 0 = .ok (.iconst 0, 1) := by decide +kernel
theorem dX8_goFor_1 : decode cX8_goFor 1 = .ok (.istore_n 2, 1) := by decide +kernel
theorem dX8_goFor_2 : decode cX8_goFor 2 = .ok (.iload_n 2, 1) := by decide +kernel
theorem dX8_goFor_3 : decode cX8_goFor 3 = .ok (.iload_n 1, 1) := by decide +kernel
theorem dX8_goFor_4 : decode cX8_goFor 4 = .ok (.if_icmp .ge 14, 3) := by decide +kernel
theorem dX8_goFor_7 : decode cX8_goFor 7 = .ok (.aload_n 0, 1) := by decide +kernel
theorem dX8_goFor_8 : decode cX8_goFor 8 = .ok (.invokevirtual 410, 3) := by decide +kernel
theorem dX8_goFor_11 : decode cX8_goFor 11 = .ok (.pop, 1) := by decide +kernel
theorem dX8_goFor_12 : decode cX8_goFor 12 = .ok (.iinc 2 1, 3) := by decide +kernel
theorem dX8_goFor_15 : decode cX8_goFor 15 = .ok (.goto (-13), 3) := by decide +kernel
theorem dX8_goFor_18 : decode cX8_goFor 18 = .ok (.return_, 1) := by decide +kernel
theorem dX8_sumOf_0 : decode cX8_sumOf 0 = .ok (.iconst 0, 1) := by decide +kernel
theorem dX8_sumOf_1 : decode cX8_sumOf 1 = .ok (.istore_n 2, 1) := by decide +kernel
theorem dX8_sumOf_2 : decode cX8_sumOf 2 = .ok (.iconst 0, 1) := by decide +kernel
theorem dX8_sumOf_3 : decode cX8_sumOf 3 = .ok (.istore_n 3, 1) := by decide +kernel
theorem dX8_sumOf_4 : decode cX8_sumOf 4 = .ok (.iload_n 3, 1) := by decide +kernel
theorem dX8_sumOf_5 : decode cX8_sumOf 5 = .ok (.aload_n 0, 1) := by decide +kernel
theorem dX8_sumOf_6 : decode cX8_sumOf 6 = .ok (.getfield 9, 3) := by decide +kernel
theorem dX8_sumOf_9 : decode cX8_sumOf 9 = .ok (.iconst 3, 1) := by decide +kernel
theorem dX8_sumOf_10 : decode cX8_sumOf 10 = .ok (.iaload, 1) := by decide +kernel
theorem dX8_sumOf_11 : decode cX8_sumOf 11 = .ok (.if_icmp .ge 15, 3) := by decide +kernel
theorem dX8_sumOf_14 : decode cX8_sumOf 14 = .ok (.iload_n 2, 1) := by decide +kernel
theorem dX8_sumOf_15 : decode cX8_sumOf 15 = .ok (.aload_n 1, 1) := by decide +kernel
theorem dX8_sumOf_16 : decode cX8_sumOf 16 = .ok (.iload_n 3, 1) := by decide +kernel
theorem dX8_sumOf_17 : decode cX8_sumOf 17 = .ok (.iaload, 1) := by decide +kernel
theorem dX8_sumOf_18 : decode cX8_sumOf 18 = .ok (.iadd, 1) := by decide +kernel
theorem dX8_sumOf_19 : decode cX8_sumOf 19 = .ok (.istore_n 2, 1) := by decide +kernel
theorem dX8_sumOf_20 : decode cX8_sumOf 20 = .ok (.iinc 3 1, 3) := by decide +kernel
theorem dX8_sumOf_23 : decode cX8_sumOf 23 = .ok (.goto (-19), 3) := by decide +kernel
theorem dX8_sumOf_26 : decode cX8_sumOf 26 = .ok (.iload_n 2, 1) := by decide +kernel
theorem dX8_sumOf_27 : decode cX8_sumOf 27 = .ok (.ireturn, 1) := by decide +kernel
theorem dX8_moves_0 : decode cX8_moves 0 = .ok (.aload_n 0, 1) := by decide +kernel
theorem dX8_moves_1 : decode cX8_moves 1 = .ok (.getfield 413, 3) := by decide +kernel
theorem dX8_moves_4 : decode cX8_moves 4 = .ok (.ifCond .eq 15, 3) := by decide +kernel
theorem dX8_moves_7 : decode cX8_moves 7 = .ok (.aload_n 0, 1) := by decide +kernel
theorem dX8_moves_8 : decode cX8_moves 8 = .ok (.getfield 133, 3) := by decide +kernel
theorem dX8_moves_11 : decode cX8_moves 11 = .ok (.aload_n 0, 1) := by decide +kernel
theorem dX8_moves_12 : decode cX8_moves 12 = .ok (.getfield 417, 3) := by decide +kernel
theorem dX8_moves_15 : decode cX8_moves 15 = .ok (.iaload, 1) := by decide +kernel
theorem dX8_moves_16 : decode cX8_moves 16 = .ok (.goto 4, 3) := by decide +kernel
theorem dX8_moves_19 : decode cX8_moves 19 = .ok (.iload_n 1, 1) := by decide +kernel
theorem dX8_moves_20 : decode cX8_moves 20 = .ok (.istore_n 2, 1) := by decide +kernel
theorem dX8_moves_21 : decode cX8_moves 21 = .ok (.aload_n 0, 1) := by decide +kernel
theorem dX8_moves_22 : decode cX8_moves 22 = .ok (.getfield 133, 3) := by decide +kernel
theorem dX8_moves_25 : decode cX8_moves 25 = .ok (.aload_n 0, 1) := by decide +kernel
theorem dX8_moves_26 : decode cX8_moves 26 = .ok (.getfield 417, 3) := by decide +kernel
theorem dX8_moves_29 : decode cX8_moves 29 = .ok (.iload_n 2, 1) := by decide +kernel
theorem dX8_moves_30 : decode cX8_moves 30 = .ok (.iastore, 1) := by decide +kernel
theorem dX8_moves_31 : decode cX8_moves 31 = .ok (.aload_n 0, 1) := by decide +kernel
theorem dX8_moves_32 : decode cX8_moves 32 = .ok (.dup, 1) := by decide +kernel
theorem dX8_moves_33 : decode cX8_moves 33 = .ok (.getfield 417, 3) := by decide +kernel
theorem dX8_moves_36 : decode cX8_moves 36 = .ok (.iconst 1, 1) := by decide +kernel
theorem dX8_moves_37 : decode cX8_moves 37 = .ok (.iadd, 1) := by decide +kernel
theorem dX8_moves_38 : decode cX8_moves 38 = .ok (.putfield 417, 3) := by decide +kernel
theorem dX8_moves_41 : decode cX8_moves 41 = .ok (.iload_n 2, 1) := by decide +kernel
theorem dX8_moves_42 : decode cX8_moves 42 = .ok (.ireturn, 1) := by decide +kernel
theorem dX8_movesRow_0 : decode cX8_movesRow 0 = .ok (.iconst 0, 1) := by decide +kernel
theorem dX8_movesRow_1 : decode cX8_movesRow 1 = .ok (.istore_n 2, 1) := by decide +kernel
theorem dX8_movesRow_2 : decode cX8_movesRow 2 = .ok (.iload_n 2, 1) := by decide +kernel
theorem dX8_movesRow_3 : decode cX8_movesRow 3 = .ok (.aload_n 1, 1) := by decide +kernel
theorem dX8_movesRow_4 : decode cX8_movesRow 4 = .ok (.arraylength, 1) := by decide +kernel
theorem dX8_movesRow_5 : decode cX8_movesRow 5 = .ok (.if_icmp .ge 19, 3) := by decide +kernel
theorem dX8_movesRow_8 : decode cX8_movesRow 8 = .ok (.aload_n 1, 1) := by decide +kernel
theorem dX8_movesRow_9 : decode cX8_movesRow 9 = .ok (.iload_n 2, 1) := by decide +kernel
theorem dX8_movesRow_10 : decode cX8_movesRow 10 = .ok (.aload_n 0, 1) := by decide +kernel
theorem dX8_movesRow_11 : decode cX8_movesRow 11 = .ok (.aload_n 1, 1) := by decide +kernel
theorem dX8_movesRow_12 : decode cX8_movesRow 12 = .ok (.iload_n 2, 1) := by decide +kernel
theorem dX8_movesRow_13 : decode cX8_movesRow 13 = .ok (.iaload, 1) := by decide +kernel
theorem dX8_movesRow_14 : decode cX8_movesRow 14 = .ok (.invokevirtual 420, 3) := by decide +kernel
theorem dX8_movesRow_17 : decode cX8_movesRow 17 = .ok (.iastore, 1) := by decide +kernel
theorem dX8_movesRow_18 : decode cX8_movesRow 18 = .ok (.iinc 2 1, 3) := by decide +kernel
theorem dX8_movesRow_21 : decode cX8_movesRow 21 = .ok (.goto (-19), 3) := by decide +kernel
theorem dX8_movesRow_24 : decode cX8_movesRow 24 = .ok (.return_, 1) := by decide +kernel
theorem dX8_movesAll_0 : decode cX8_movesAll 0 = .ok (.aload_n 0, 1) := by decide +kernel
theorem dX8_movesAll_1 : decode cX8_movesAll 1 = .ok (.bipush 33, 2) := by decide +kernel
theorem dX8_movesAll_3 : decode cX8_movesAll 3 = .ok (.iload_n 1, 1) := by decide +kernel
theorem dX8_movesAll_4 : decode cX8_movesAll 4 = .ok (.imul, 1) := by decide +kernel
theorem dX8_movesAll_5 : decode cX8_movesAll 5 = .ok (.putfield 417, 3) := by decide +kernel
theorem dX8_movesAll_8 : decode cX8_movesAll 8 = .ok (.aload_n 0, 1) := by decide +kernel
theorem dX8_movesAll_9 : decode cX8_movesAll 9 = .ok (.iload_n 2, 1) := by decide +kernel
theorem dX8_movesAll_10 : decode cX8_movesAll 10 = .ok (.putfield 413, 3) := by decide +kernel
theorem dX8_movesAll_13 : decode cX8_movesAll 13 = .ok (.aload_n 0, 1) := by decide +kernel
theorem dX8_movesAll_14 : decode cX8_movesAll 14 = .ok (.getfield 9, 3) := by decide +kernel
theorem dX8_movesAll_17 : decode cX8_movesAll 17 = .ok (.iconst 4, 1) := by decide +kernel
theorem dX8_movesAll_18 : decode cX8_movesAll 18 = .ok (.aload_n 0, 1) := by decide +kernel
theorem dX8_movesAll_19 : decode cX8_movesAll 19 = .ok (.aload_n 0, 1) := by decide +kernel
theorem dX8_movesAll_20 : decode cX8_movesAll 20 = .ok (.getfield 9, 3) := by decide +kernel
theorem dX8_movesAll_23 : decode cX8_movesAll 23 = .ok (.iconst 4, 1) := by decide +kernel
theorem dX8_movesAll_24 : decode cX8_movesAll 24 = .ok (.iaload, 1) := by decide +kernel
theorem dX8_movesAll_25 : decode cX8_movesAll 25 = .ok (.invokevirtual 420, 3) := by decide +kernel
theorem dX8_movesAll_28 : decode cX8_movesAll 28 = .ok (.iastore, 1) := by decide +kernel
theorem dX8_movesAll_29 : decode cX8_movesAll 29 = .ok (.aload_n 0, 1) := by decide +kernel
theorem dX8_movesAll_30 : decode cX8_movesAll 30 = .ok (.getfield 9, 3) := by decide +kernel
theorem dX8_movesAll_33 : decode cX8_movesAll 33 = .ok (.iconst 5, 1) := by decide +kernel
theorem dX8_movesAll_34 : decode cX8_movesAll 34 = .ok (.aload_n 0, 1) := by decide +kernel
theorem dX8_movesAll_35 : decode cX8_movesAll 35 = .ok (.aload_n 0, 1) := by decide +kernel
theorem dX8_movesAll_36 : decode cX8_movesAll 36 = .ok (.getfield 9, 3) := by decide +kernel
theorem dX8_movesAll_39 : decode cX8_movesAll 39 = .ok (.iconst 5, 1) := by decide +kernel
theorem dX8_movesAll_40 : decode cX8_movesAll 40 = .ok (.iaload, 1) := by decide +kernel
theorem dX8_movesAll_41 : decode cX8_movesAll 41 = .ok (.invokevirtual 420, 3) := by decide +kernel
theorem dX8_movesAll_44 : decode cX8_movesAll 44 = .ok (.iastore, 1) := by decide +kernel
theorem dX8_movesAll_45 : decode cX8_movesAll 45 = .ok (.aload_n 0, 1) := by decide +kernel
theorem dX8_movesAll_46 : decode cX8_movesAll 46 = .ok (.aload_n 0, 1) := by decide +kernel
theorem dX8_movesAll_47 : decode cX8_movesAll 47 = .ok (.getfield 13, 3) := by decide +kernel
theorem dX8_movesAll_50 : decode cX8_movesAll 50 = .ok (.invokevirtual 423, 3) := by decide +kernel
theorem dX8_movesAll_53 : decode cX8_movesAll 53 = .ok (.aload_n 0, 1) := by decide +kernel
theorem dX8_movesAll_54 : decode cX8_movesAll 54 = .ok (.aload_n 0, 1) := by decide +kernel
theorem dX8_movesAll_55 : decode cX8_movesAll 55 = .ok (.getfield 16, 3) := by decide +kernel
theorem dX8_movesAll_58 : decode cX8_movesAll 58 = .ok (.invokevirtual 423, 3) := by decide +kernel
theorem dX8_movesAll_61 : decode cX8_movesAll 61 = .ok (.aload_n 0, 1) := by decide +kernel
theorem dX8_movesAll_62 : decode cX8_movesAll 62 = .ok (.aload_n 0, 1) := by decide +kernel
theorem dX8_movesAll_63 : decode cX8_movesAll 63 = .ok (.getfield 19, 3) := by decide +kernel
theorem dX8_movesAll_66 : decode cX8_movesAll 66 = .ok (.invokevirtual 423, 3) := by decide +kernel
theorem dX8_movesAll_69 : decode cX8_movesAll 69 = .ok (.aload_n 0, 1) := by decide +kernel
theorem dX8_movesAll_70 : decode cX8_movesAll 70 = .ok (.aload_n 0, 1) := by decide +kernel
theorem dX8_movesAll_71 : decode cX8_movesAll 71 = .ok (.getfield 22, 3) := by decide +kernel
theorem dX8_movesAll_74 : decode cX8_movesAll 74 = .ok (.invokevirtual 423, 3) := by decide +kernel
theorem dX8_movesAll_77 : decode cX8_movesAll 77 = .ok (.aload_n 0, 1) := by decide +kernel
theorem dX8_movesAll_78 : decode cX8_movesAll 78 = .ok (.aload_n 0, 1) := by decide +kernel
theorem dX8_movesAll_79 : decode cX8_movesAll 79 = .ok (.getfield 25, 3) := by decide +kernel
theorem dX8_movesAll_82 : decode cX8_movesAll 82 = .ok (.invokevirtual 423, 3) := by decide +kernel
theorem dX8_movesAll_85 : decode cX8_movesAll 85 = .ok (.aload_n 0, 1) := by decide +kernel
theorem dX8_movesAll_86 : decode cX8_movesAll 86 = .ok (.aload_n 0, 1) := by decide +kernel
theorem dX8_movesAll_87 : decode cX8_movesAll 87 = .ok (.getfield 28, 3) := by decide +kernel
theorem dX8_movesAll_90 : decode cX8_movesAll 90 = .ok (.invokevirtual 423, 3) := by decide +kernel
theorem dX8_movesAll_93 : decode cX8_movesAll 93 = .ok (.return_, 1) := by decide +kernel
theorem dX8_keepsAct_0 : decode cX8_keepsAct 0 = .ok (.aload_n 0, 1) := by decide +kernel
theorem dX8_keepsAct_1 : decode cX8_keepsAct 1 = .ok (.getfield 323, 3) := by decide +kernel
theorem dX8_keepsAct_4 : decode cX8_keepsAct 4 = .ok (.bipush 20, 2) := by decide +kernel
theorem dX8_keepsAct_6 : decode cX8_keepsAct 6 = .ok (.if_icmp .ne 44, 3) := by decide +kernel
theorem dX8_keepsAct_9 : decode cX8_keepsAct 9 = .ok (.bipush 33, 2) := by decide +kernel
theorem dX8_keepsAct_11 : decode cX8_keepsAct 11 = .ok (.istore_n 1, 1) := by decide +kernel
theorem dX8_keepsAct_12 : decode cX8_keepsAct 12 = .ok (.iload_n 1, 1) := by decide +kernel
theorem dX8_keepsAct_13 : decode cX8_keepsAct 13 = .ok (.sipush 660, 3) := by decide +kernel
theorem dX8_keepsAct_16 : decode cX8_keepsAct 16 = .ok (.if_icmp .ge 24, 3) := by decide +kernel
theorem dX8_keepsAct_19 : decode cX8_keepsAct 19 = .ok (.aload_n 0, 1) := by decide +kernel
theorem dX8_keepsAct_20 : decode cX8_keepsAct 20 = .ok (.getfield 133, 3) := by decide +kernel
theorem dX8_keepsAct_23 : decode cX8_keepsAct 23 = .ok (.iload_n 1, 1) := by decide +kernel
theorem dX8_keepsAct_24 : decode cX8_keepsAct 24 = .ok (.bipush 33, 2) := by decide +kernel
theorem dX8_keepsAct_26 : decode cX8_keepsAct 26 = .ok (.isub, 1) := by decide +kernel
theorem dX8_keepsAct_27 : decode cX8_keepsAct 27 = .ok (.aload_n 0, 1) := by decide +kernel
theorem dX8_keepsAct_28 : decode cX8_keepsAct 28 = .ok (.getfield 133, 3) := by decide +kernel
theorem dX8_keepsAct_31 : decode cX8_keepsAct 31 = .ok (.iload_n 1, 1) := by decide +kernel
theorem dX8_keepsAct_32 : decode cX8_keepsAct 32 = .ok (.iaload, 1) := by decide +kernel
theorem dX8_keepsAct_33 : decode cX8_keepsAct 33 = .ok (.iastore, 1) := by decide +kernel
theorem dX8_keepsAct_34 : decode cX8_keepsAct 34 = .ok (.iinc 1 1, 3) := by decide +kernel
theorem dX8_keepsAct_37 : decode cX8_keepsAct 37 = .ok (.goto (-25), 3) := by decide +kernel
theorem dX8_keepsAct_40 : decode cX8_keepsAct 40 = .ok (.aload_n 0, 1) := by decide +kernel
theorem dX8_keepsAct_41 : decode cX8_keepsAct 41 = .ok (.dup, 1) := by decide +kernel
theorem dX8_keepsAct_42 : decode cX8_keepsAct 42 = .ok (.getfield 323, 3) := by decide +kernel
theorem dX8_keepsAct_45 : decode cX8_keepsAct 45 = .ok (.iconst 1, 1) := by decide +kernel
theorem dX8_keepsAct_46 : decode cX8_keepsAct 46 = .ok (.isub, 1) := by decide +kernel
theorem dX8_keepsAct_47 : decode cX8_keepsAct 47 = .ok (.putfield 323, 3) := by decide +kernel
theorem dX8_keepsAct_50 : decode cX8_keepsAct 50 = .ok (.aload_n 0, 1) := by decide +kernel
theorem dX8_keepsAct_51 : decode cX8_keepsAct 51 = .ok (.aload_n 0, 1) := by decide +kernel
theorem dX8_keepsAct_52 : decode cX8_keepsAct 52 = .ok (.getfield 323, 3) := by decide +kernel
theorem dX8_keepsAct_55 : decode cX8_keepsAct 55 = .ok (.iconst 0, 1) := by decide +kernel
theorem dX8_keepsAct_56 : decode cX8_keepsAct 56 = .ok (.invokevirtual 427, 3) := by decide +kernel
theorem dX8_keepsAct_59 : decode cX8_keepsAct 59 = .ok (.aload_n 0, 1) := by decide +kernel
theorem dX8_keepsAct_60 : decode cX8_keepsAct 60 = .ok (.dup, 1) := by decide +kernel
theorem dX8_keepsAct_61 : decode cX8_keepsAct 61 = .ok (.getfield 323, 3) := by decide +kernel
theorem dX8_keepsAct_64 : decode cX8_keepsAct 64 = .ok (.iconst 1, 1) := by decide +kernel
theorem dX8_keepsAct_65 : decode cX8_keepsAct 65 = .ok (.iadd, 1) := by decide +kernel
theorem dX8_keepsAct_66 : decode cX8_keepsAct 66 = .ok (.putfield 323, 3) := by decide +kernel
theorem dX8_keepsAct_69 : decode cX8_keepsAct 69 = .ok (.return_, 1) := by decide +kernel
theorem dX8_undo_0 : decode cX8_undo 0 = .ok (.aload_n 0, 1) := by decide +kernel
theorem dX8_undo_1 : decode cX8_undo 1 = .ok (.getfield 323, 3) := by decide +kernel
theorem dX8_undo_4 : decode cX8_undo 4 = .ok (.ifCond .ne 6, 3) := by decide +kernel
theorem dX8_undo_7 : decode cX8_undo 7 = .ok (.bipush (-2), 2) := by decide +kernel
theorem dX8_undo_9 : decode cX8_undo 9 = .ok (.ireturn, 1) := by decide +kernel
theorem dX8_undo_10 : decode cX8_undo 10 = .ok (.aload_n 0, 1) := by decide +kernel
theorem dX8_undo_11 : decode cX8_undo 11 = .ok (.dup, 1) := by decide +kernel
theorem dX8_undo_12 : decode cX8_undo 12 = .ok (.getfield 323, 3) := by decide +kernel
theorem dX8_undo_15 : decode cX8_undo 15 = .ok (.iconst 1, 1) := by decide +kernel
theorem dX8_undo_16 : decode cX8_undo 16 = .ok (.isub, 1) := by decide +kernel
theorem dX8_undo_17 : decode cX8_undo 17 = .ok (.putfield 323, 3) := by decide +kernel
theorem dX8_undo_20 : decode cX8_undo 20 = .ok (.aload_n 0, 1) := by decide +kernel
theorem dX8_undo_21 : decode cX8_undo 21 = .ok (.aload_n 0, 1) := by decide +kernel
theorem dX8_undo_22 : decode cX8_undo 22 = .ok (.getfield 323, 3) := by decide +kernel
theorem dX8_undo_25 : decode cX8_undo 25 = .ok (.iconst 1, 1) := by decide +kernel
theorem dX8_undo_26 : decode cX8_undo 26 = .ok (.invokevirtual 427, 3) := by decide +kernel
theorem dX8_undo_29 : decode cX8_undo 29 = .ok (.aload_n 0, 1) := by decide +kernel
theorem dX8_undo_30 : decode cX8_undo 30 = .ok (.getfield 323, 3) := by decide +kernel
theorem dX8_undo_33 : decode cX8_undo 33 = .ok (.ireturn, 1) := by decide +kernel
theorem dX8_minute_0 : decode cX8_minute 0 = .ok (.aload_n 0, 1) := by decide +kernel
theorem dX8_minute_1 : decode cX8_minute 1 = .ok (.invokevirtual 431, 3) := by decide +kernel
theorem dX8_minute_4 : decode cX8_minute 4 = .ok (.ifCond .eq 15, 3) := by decide +kernel
theorem dX8_minute_7 : decode cX8_minute 7 = .ok (.aload_n 0, 1) := by decide +kernel
theorem dX8_minute_8 : decode cX8_minute 8 = .ok (.getfield 9, 3) := by decide +kernel
theorem dX8_minute_11 : decode cX8_minute 11 = .ok (.iconst 4, 1) := by decide +kernel
theorem dX8_minute_12 : decode cX8_minute 12 = .ok (.iaload, 1) := by decide +kernel
theorem dX8_minute_13 : decode cX8_minute 13 = .ok (.sipush 999, 3) := by decide +kernel
theorem dX8_minute_16 : decode cX8_minute 16 = .ok (.if_icmp .ne 5, 3) := by decide +kernel
theorem dX8_minute_19 : decode cX8_minute 19 = .ok (.iconst (-1), 1) := by decide +kernel
theorem dX8_minute_20 : decode cX8_minute 20 = .ok (.ireturn, 1) := by decide +kernel
theorem dX8_minute_21 : decode cX8_minute 21 = .ok (.aload_n 0, 1) := by decide +kernel
theorem dX8_minute_22 : decode cX8_minute 22 = .ok (.invokevirtual 434, 3) := by decide +kernel
theorem dX8_minute_25 : decode cX8_minute 25 = .ok (.aload_n 0, 1) := by decide +kernel
theorem dX8_minute_26 : decode cX8_minute 26 = .ok (.invokevirtual 410, 3) := by decide +kernel
theorem dX8_minute_29 : decode cX8_minute 29 = .ok (.ireturn, 1) := by decide +kernel
theorem dX8_lift_0 : decode cX8_lift 0 = .ok (.aload_n 0, 1) := by decide +kernel
theorem dX8_lift_1 : decode cX8_lift 1 = .ok (.iload_n 1, 1) := by decide +kernel
theorem dX8_lift_2 : decode cX8_lift 2 = .ok (.invokevirtual 372, 3) := by decide +kernel
theorem dX8_lift_5 : decode cX8_lift 5 = .ok (.ifCond .eq 13, 3) := by decide +kernel
theorem dX8_lift_8 : decode cX8_lift 8 = .ok (.aload_n 0, 1) := by decide +kernel
theorem dX8_lift_9 : decode cX8_lift 9 = .ok (.getfield 16, 3) := by decide +kernel
theorem dX8_lift_12 : decode cX8_lift 12 = .ok (.iload_n 1, 1) := by decide +kernel
theorem dX8_lift_13 : decode cX8_lift 13 = .ok (.iaload, 1) := by decide +kernel
theorem dX8_lift_14 : decode cX8_lift 14 = .ok (.iconst (-1), 1) := by decide +kernel
theorem dX8_lift_15 : decode cX8_lift 15 = .ok (.if_icmp .ne 5, 3) := by decide +kernel
theorem dX8_lift_18 : decode cX8_lift 18 = .ok (.iconst (-1), 1) := by decide +kernel
theorem dX8_lift_19 : decode cX8_lift 19 = .ok (.ireturn, 1) := by decide +kernel
theorem dX8_lift_20 : decode cX8_lift 20 = .ok (.aload_n 0, 1) := by decide +kernel
theorem dX8_lift_21 : decode cX8_lift 21 = .ok (.invokevirtual 434, 3) := by decide +kernel
theorem dX8_lift_24 : decode cX8_lift 24 = .ok (.aload_n 0, 1) := by decide +kernel
theorem dX8_lift_25 : decode cX8_lift 25 = .ok (.getfield 16, 3) := by decide +kernel
theorem dX8_lift_28 : decode cX8_lift 28 = .ok (.iload_n 1, 1) := by decide +kernel
theorem dX8_lift_29 : decode cX8_lift 29 = .ok (.iaload, 1) := by decide +kernel
theorem dX8_lift_30 : decode cX8_lift 30 = .ok (.istore_n 2, 1) := by decide +kernel
theorem dX8_lift_31 : decode cX8_lift 31 = .ok (.aload_n 0, 1) := by decide +kernel
theorem dX8_lift_32 : decode cX8_lift 32 = .ok (.getfield 16, 3) := by decide +kernel
theorem dX8_lift_35 : decode cX8_lift 35 = .ok (.iload_n 1, 1) := by decide +kernel
theorem dX8_lift_36 : decode cX8_lift 36 = .ok (.iconst (-1), 1) := by decide +kernel
theorem dX8_lift_37 : decode cX8_lift 37 = .ok (.iastore, 1) := by decide +kernel
theorem dX8_lift_38 : decode cX8_lift 38 = .ok (.aload_n 0, 1) := by decide +kernel
theorem dX8_lift_39 : decode cX8_lift 39 = .ok (.getfield 13, 3) := by decide +kernel
theorem dX8_lift_42 : decode cX8_lift 42 = .ok (.iload_n 1, 1) := by decide +kernel
theorem dX8_lift_43 : decode cX8_lift 43 = .ok (.iconst 0, 1) := by decide +kernel
theorem dX8_lift_44 : decode cX8_lift 44 = .ok (.iastore, 1) := by decide +kernel
theorem dX8_lift_45 : decode cX8_lift 45 = .ok (.iload_n 2, 1) := by decide +kernel
theorem dX8_lift_46 : decode cX8_lift 46 = .ok (.ireturn, 1) := by decide +kernel
theorem dX8_move_0 : decode cX8_move 0 = .ok (.aload_n 0, 1) := by decide +kernel
theorem dX8_move_1 : decode cX8_move 1 = .ok (.iload_n 1, 1) := by decide +kernel
theorem dX8_move_2 : decode cX8_move 2 = .ok (.invokevirtual 359, 3) := by decide +kernel
theorem dX8_move_5 : decode cX8_move 5 = .ok (.ifCond .eq 39, 3) := by decide +kernel
theorem dX8_move_8 : decode cX8_move 8 = .ok (.iload_n 2, 1) := by decide +kernel
theorem dX8_move_9 : decode cX8_move 9 = .ok (.i2l, 1) := by decide +kernel
theorem dX8_move_10 : decode cX8_move 10 = .ok (.lconst 0, 1) := by decide +kernel
theorem dX8_move_11 : decode cX8_move 11 = .ok (.aload_n 0, 1) := by decide +kernel
theorem dX8_move_12 : decode cX8_move 12 = .ok (.getfield 9, 3) := by decide +kernel
theorem dX8_move_15 : decode cX8_move 15 = .ok (.iconst 0, 1) := by decide +kernel
theorem dX8_move_16 : decode cX8_move 16 = .ok (.iaload, 1) := by decide +kernel
theorem dX8_move_17 : decode cX8_move 17 = .ok (.iconst 1, 1) := by decide +kernel
theorem dX8_move_18 : decode cX8_move 18 = .ok (.isub, 1) := by decide +kernel
theorem dX8_move_19 : decode cX8_move 19 = .ok (.i2l, 1) := by decide +kernel
theorem dX8_move_20 : decode cX8_move 20 = .ok (.invokestatic 161, 3) := by decide +kernel
theorem dX8_move_23 : decode cX8_move 23 = .ok (.ifCond .eq 21, 3) := by decide +kernel
theorem dX8_move_26 : decode cX8_move 26 = .ok (.aload_n 0, 1) := by decide +kernel
theorem dX8_move_27 : decode cX8_move 27 = .ok (.getfield 22, 3) := by decide +kernel
theorem dX8_move_30 : decode cX8_move 30 = .ok (.iload_n 1, 1) := by decide +kernel
theorem dX8_move_31 : decode cX8_move 31 = .ok (.iaload, 1) := by decide +kernel
theorem dX8_move_32 : decode cX8_move 32 = .ok (.iload_n 2, 1) := by decide +kernel
theorem dX8_move_33 : decode cX8_move 33 = .ok (.if_icmp .eq 11, 3) := by decide +kernel
theorem dX8_move_36 : decode cX8_move 36 = .ok (.aload_n 0, 1) := by decide +kernel
theorem dX8_move_37 : decode cX8_move 37 = .ok (.iload_n 1, 1) := by decide +kernel
theorem dX8_move_38 : decode cX8_move 38 = .ok (.invokevirtual 369, 3) := by decide +kernel
theorem dX8_move_41 : decode cX8_move 41 = .ok (.ifCond .eq 5, 3) := by decide +kernel
theorem dX8_move_44 : decode cX8_move 44 = .ok (.iconst (-1), 1) := by decide +kernel
theorem dX8_move_45 : decode cX8_move 45 = .ok (.ireturn, 1) := by decide +kernel
theorem dX8_move_46 : decode cX8_move 46 = .ok (.aload_n 0, 1) := by decide +kernel
theorem dX8_move_47 : decode cX8_move 47 = .ok (.invokevirtual 434, 3) := by decide +kernel
theorem dX8_move_50 : decode cX8_move 50 = .ok (.aload_n 0, 1) := by decide +kernel
theorem dX8_move_51 : decode cX8_move 51 = .ok (.getfield 22, 3) := by decide +kernel
theorem dX8_move_54 : decode cX8_move 54 = .ok (.iload_n 1, 1) := by decide +kernel
theorem dX8_move_55 : decode cX8_move 55 = .ok (.iaload, 1) := by decide +kernel
theorem dX8_move_56 : decode cX8_move 56 = .ok (.istore_n 3, 1) := by decide +kernel
theorem dX8_move_57 : decode cX8_move 57 = .ok (.aload_n 0, 1) := by decide +kernel
theorem dX8_move_58 : decode cX8_move 58 = .ok (.getfield 22, 3) := by decide +kernel
theorem dX8_move_61 : decode cX8_move 61 = .ok (.iload_n 1, 1) := by decide +kernel
theorem dX8_move_62 : decode cX8_move 62 = .ok (.iload_n 2, 1) := by decide +kernel
theorem dX8_move_63 : decode cX8_move 63 = .ok (.iastore, 1) := by decide +kernel
theorem dX8_move_64 : decode cX8_move 64 = .ok (.iload_n 3, 1) := by decide +kernel
theorem dX8_move_65 : decode cX8_move 65 = .ok (.ireturn, 1) := by decide +kernel
theorem dX8_strike_0 : decode cX8_strike 0 = .ok (.aload_n 0, 1) := by decide +kernel
theorem dX8_strike_1 : decode cX8_strike 1 = .ok (.iload_n 1, 1) := by decide +kernel
theorem dX8_strike_2 : decode cX8_strike 2 = .ok (.invokevirtual 375, 3) := by decide +kernel
theorem dX8_strike_5 : decode cX8_strike 5 = .ok (.ifCond .ne 5, 3) := by decide +kernel
theorem dX8_strike_8 : decode cX8_strike 8 = .ok (.iconst (-1), 1) := by decide +kernel
theorem dX8_strike_9 : decode cX8_strike 9 = .ok (.ireturn, 1) := by decide +kernel
theorem dX8_strike_10 : decode cX8_strike 10 = .ok (.aload_n 0, 1) := by decide +kernel
theorem dX8_strike_11 : decode cX8_strike 11 = .ok (.invokevirtual 434, 3) := by decide +kernel
theorem dX8_strike_14 : decode cX8_strike 14 = .ok (.aload_n 0, 1) := by decide +kernel
theorem dX8_strike_15 : decode cX8_strike 15 = .ok (.getfield 9, 3) := by decide +kernel
theorem dX8_strike_18 : decode cX8_strike 18 = .ok (.iconst 5, 1) := by decide +kernel
theorem dX8_strike_19 : decode cX8_strike 19 = .ok (.dup2, 1) := by decide +kernel
theorem dX8_strike_20 : decode cX8_strike 20 = .ok (.iaload, 1) := by decide +kernel
theorem dX8_strike_21 : decode cX8_strike 21 = .ok (.iconst 1, 1) := by decide +kernel
theorem dX8_strike_22 : decode cX8_strike 22 = .ok (.iload_n 1, 1) := by decide +kernel
theorem dX8_strike_23 : decode cX8_strike 23 = .ok (.ishl, 1) := by decide +kernel
theorem dX8_strike_24 : decode cX8_strike 24 = .ok (.ixor, 1) := by decide +kernel
theorem dX8_strike_25 : decode cX8_strike 25 = .ok (.iastore, 1) := by decide +kernel
theorem dX8_strike_26 : decode cX8_strike 26 = .ok (.aload_n 0, 1) := by decide +kernel
theorem dX8_strike_27 : decode cX8_strike 27 = .ok (.getfield 9, 3) := by decide +kernel
theorem dX8_strike_30 : decode cX8_strike 30 = .ok (.iconst 5, 1) := by decide +kernel
theorem dX8_strike_31 : decode cX8_strike 31 = .ok (.iaload, 1) := by decide +kernel
theorem dX8_strike_32 : decode cX8_strike 32 = .ok (.iload_n 1, 1) := by decide +kernel
theorem dX8_strike_33 : decode cX8_strike 33 = .ok (.ishr, 1) := by decide +kernel
theorem dX8_strike_34 : decode cX8_strike 34 = .ok (.iconst 1, 1) := by decide +kernel
theorem dX8_strike_35 : decode cX8_strike 35 = .ok (.iand, 1) := by decide +kernel
theorem dX8_strike_36 : decode cX8_strike 36 = .ok (.ireturn, 1) := by decide +kernel
theorem dX8_teach_0 : decode cX8_teach 0 = .ok (.aload_n 0, 1) := by decide +kernel
theorem dX8_teach_1 : decode cX8_teach 1 = .ok (.iload_n 1, 1) := by decide +kernel
theorem dX8_teach_2 : decode cX8_teach 2 = .ok (.invokevirtual 372, 3) := by decide +kernel
theorem dX8_teach_5 : decode cX8_teach 5 = .ok (.ifCond .eq 25, 3) := by decide +kernel
theorem dX8_teach_8 : decode cX8_teach 8 = .ok (.iload_n 2, 1) := by decide +kernel
theorem dX8_teach_9 : decode cX8_teach 9 = .ok (.i2l, 1) := by decide +kernel
theorem dX8_teach_10 : decode cX8_teach 10 = .ok (.lconst 1, 1) := by decide +kernel
theorem dX8_teach_11 : decode cX8_teach 11 = .ok (.ldc2_w 437, 3) := by decide +kernel
theorem dX8_teach_14 : decode cX8_teach 14 = .ok (.invokestatic 161, 3) := by decide +kernel
theorem dX8_teach_17 : decode cX8_teach 17 = .ok (.ifCond .eq 13, 3) := by decide +kernel
theorem dX8_teach_20 : decode cX8_teach 20 = .ok (.aload_n 0, 1) := by decide +kernel
theorem dX8_teach_21 : decode cX8_teach 21 = .ok (.getfield 19, 3) := by decide +kernel
theorem dX8_teach_24 : decode cX8_teach 24 = .ok (.iload_n 1, 1) := by decide +kernel
theorem dX8_teach_25 : decode cX8_teach 25 = .ok (.iaload, 1) := by decide +kernel
theorem dX8_teach_26 : decode cX8_teach 26 = .ok (.iload_n 2, 1) := by decide +kernel
theorem dX8_teach_27 : decode cX8_teach 27 = .ok (.if_icmp .ne 5, 3) := by decide +kernel
theorem dX8_teach_30 : decode cX8_teach 30 = .ok (.iconst (-1), 1) := by decide +kernel
theorem dX8_teach_31 : decode cX8_teach 31 = .ok (.ireturn, 1) := by decide +kernel
theorem dX8_teach_32 : decode cX8_teach 32 = .ok (.aload_n 0, 1) := by decide +kernel
theorem dX8_teach_33 : decode cX8_teach 33 = .ok (.invokevirtual 434, 3) := by decide +kernel
theorem dX8_teach_36 : decode cX8_teach 36 = .ok (.aload_n 0, 1) := by decide +kernel
theorem dX8_teach_37 : decode cX8_teach 37 = .ok (.getfield 19, 3) := by decide +kernel
theorem dX8_teach_40 : decode cX8_teach 40 = .ok (.iload_n 1, 1) := by decide +kernel
theorem dX8_teach_41 : decode cX8_teach 41 = .ok (.iaload, 1) := by decide +kernel
theorem dX8_teach_42 : decode cX8_teach 42 = .ok (.istore_n 3, 1) := by decide +kernel
theorem dX8_teach_43 : decode cX8_teach 43 = .ok (.aload_n 0, 1) := by decide +kernel
theorem dX8_teach_44 : decode cX8_teach 44 = .ok (.getfield 19, 3) := by decide +kernel
theorem dX8_teach_47 : decode cX8_teach 47 = .ok (.iload_n 1, 1) := by decide +kernel
theorem dX8_teach_48 : decode cX8_teach 48 = .ok (.iload_n 2, 1) := by decide +kernel
theorem dX8_teach_49 : decode cX8_teach 49 = .ok (.iastore, 1) := by decide +kernel
theorem dX8_teach_50 : decode cX8_teach 50 = .ok (.iload_n 3, 1) := by decide +kernel
theorem dX8_teach_51 : decode cX8_teach 51 = .ok (.ireturn, 1) := by decide +kernel
theorem dX8_keepsAll_0 : decode cX8_keepsAll 0 = .ok (.aload_n 0, 1) := by decide +kernel
theorem dX8_keepsAll_1 : decode cX8_keepsAll 1 = .ok (.iconst 4, 1) := by decide +kernel
theorem dX8_keepsAll_2 : decode cX8_keepsAll 2 = .ok (.iconst 0, 1) := by decide +kernel
theorem dX8_keepsAll_3 : decode cX8_keepsAll 3 = .ok (.invokevirtual 439, 3) := by decide +kernel
theorem dX8_keepsAll_6 : decode cX8_keepsAll 6 = .ok (.return_, 1) := by decide +kernel
theorem dX8_laysBack_0 : decode cX8_laysBack 0 = .ok (.aload_n 0, 1) := by decide +kernel
theorem dX8_laysBack_1 : decode cX8_laysBack 1 = .ok (.iconst 4, 1) := by decide +kernel
theorem dX8_laysBack_2 : decode cX8_laysBack 2 = .ok (.iconst 1, 1) := by decide +kernel
theorem dX8_laysBack_3 : decode cX8_laysBack 3 = .ok (.invokevirtual 439, 3) := by decide +kernel
theorem dX8_laysBack_6 : decode cX8_laysBack 6 = .ok (.return_, 1) := by decide +kernel
theorem dX8_ahead_0 : decode cX8_ahead 0 = .ok (.aload_n 0, 1) := by decide +kernel
theorem dX8_ahead_1 : decode cX8_ahead 1 = .ok (.invokevirtual 431, 3) := by decide +kernel
theorem dX8_ahead_4 : decode cX8_ahead 4 = .ok (.ifCond .eq 40, 3) := by decide +kernel
theorem dX8_ahead_7 : decode cX8_ahead 7 = .ok (.iload_n 3, 1) := by decide +kernel
theorem dX8_ahead_8 : decode cX8_ahead 8 = .ok (.i2l, 1) := by decide +kernel
theorem dX8_ahead_9 : decode cX8_ahead 9 = .ok (.lconst 0, 1) := by decide +kernel
theorem dX8_ahead_10 : decode cX8_ahead 10 = .ok (.ldc2_w 442, 3) := by decide +kernel
theorem dX8_ahead_13 : decode cX8_ahead 13 = .ok (.invokestatic 161, 3) := by decide +kernel
theorem dX8_ahead_16 : decode cX8_ahead 16 = .ok (.ifCond .eq 28, 3) := by decide +kernel
theorem dX8_ahead_19 : decode cX8_ahead 19 = .ok (.iload_n 3, 1) := by decide +kernel
theorem dX8_ahead_20 : decode cX8_ahead 20 = .ok (.iconst 2, 1) := by decide +kernel
theorem dX8_ahead_21 : decode cX8_ahead 21 = .ok (.if_icmp .ge 11, 3) := by decide +kernel
theorem dX8_ahead_24 : decode cX8_ahead 24 = .ok (.aload_n 0, 1) := by decide +kernel
theorem dX8_ahead_25 : decode cX8_ahead 25 = .ok (.iload_n 1, 1) := by decide +kernel
theorem dX8_ahead_26 : decode cX8_ahead 26 = .ok (.invokevirtual 372, 3) := by decide +kernel
theorem dX8_ahead_29 : decode cX8_ahead 29 = .ok (.ifCond .eq 15, 3) := by decide +kernel
theorem dX8_ahead_32 : decode cX8_ahead 32 = .ok (.iload_n 2, 1) := by decide +kernel
theorem dX8_ahead_33 : decode cX8_ahead 33 = .ok (.i2l, 1) := by decide +kernel
theorem dX8_ahead_34 : decode cX8_ahead 34 = .ok (.lconst 0, 1) := by decide +kernel
theorem dX8_ahead_35 : decode cX8_ahead 35 = .ok (.ldc2_w 444, 3) := by decide +kernel
theorem dX8_ahead_38 : decode cX8_ahead 38 = .ok (.invokestatic 161, 3) := by decide +kernel
theorem dX8_ahead_41 : decode cX8_ahead 41 = .ok (.ifCond .ne 6, 3) := by decide +kernel
theorem dX8_ahead_44 : decode cX8_ahead 44 = .ok (.bipush (-2), 2) := by decide +kernel
theorem dX8_ahead_46 : decode cX8_ahead 46 = .ok (.ireturn, 1) := by decide +kernel
theorem dX8_ahead_47 : decode cX8_ahead 47 = .ok (.aload_n 0, 1) := by decide +kernel
theorem dX8_ahead_48 : decode cX8_ahead 48 = .ok (.invokevirtual 446, 3) := by decide +kernel
theorem dX8_ahead_51 : decode cX8_ahead 51 = .ok (.aload_n 0, 1) := by decide +kernel
theorem dX8_ahead_52 : decode cX8_ahead 52 = .ok (.iload_n 2, 1) := by decide +kernel
theorem dX8_ahead_53 : decode cX8_ahead 53 = .ok (.invokevirtual 449, 3) := by decide +kernel
theorem dX8_ahead_56 : decode cX8_ahead 56 = .ok (.iload_n 3, 1) := by decide +kernel
theorem dX8_ahead_57 : decode cX8_ahead 57 = .ok (.ifCond .ne 12, 3) := by decide +kernel
theorem dX8_ahead_60 : decode cX8_ahead 60 = .ok (.aload_n 0, 1) := by decide +kernel
theorem dX8_ahead_61 : decode cX8_ahead 61 = .ok (.getfield 13, 3) := by decide +kernel
theorem dX8_ahead_64 : decode cX8_ahead 64 = .ok (.iload_n 1, 1) := by decide +kernel
theorem dX8_ahead_65 : decode cX8_ahead 65 = .ok (.iaload, 1) := by decide +kernel
theorem dX8_ahead_66 : decode cX8_ahead 66 = .ok (.goto 41, 3) := by decide +kernel
theorem dX8_ahead_69 : decode cX8_ahead 69 = .ok (.iload_n 3, 1) := by decide +kernel
theorem dX8_ahead_70 : decode cX8_ahead 70 = .ok (.iconst 1, 1) := by decide +kernel
theorem dX8_ahead_71 : decode cX8_ahead 71 = .ok (.if_icmp .ne 12, 3) := by decide +kernel
theorem dX8_ahead_74 : decode cX8_ahead 74 = .ok (.aload_n 0, 1) := by decide +kernel
theorem dX8_ahead_75 : decode cX8_ahead 75 = .ok (.getfield 16, 3) := by decide +kernel
theorem dX8_ahead_78 : decode cX8_ahead 78 = .ok (.iload_n 1, 1) := by decide +kernel
theorem dX8_ahead_79 : decode cX8_ahead 79 = .ok (.iaload, 1) := by decide +kernel
theorem dX8_ahead_80 : decode cX8_ahead 80 = .ok (.goto 27, 3) := by decide +kernel
theorem dX8_ahead_83 : decode cX8_ahead 83 = .ok (.iload_n 3, 1) := by decide +kernel
theorem dX8_ahead_84 : decode cX8_ahead 84 = .ok (.iconst 2, 1) := by decide +kernel
theorem dX8_ahead_85 : decode cX8_ahead 85 = .ok (.if_icmp .ne 14, 3) := by decide +kernel
theorem dX8_ahead_88 : decode cX8_ahead 88 = .ok (.aload_n 0, 1) := by decide +kernel
theorem dX8_ahead_89 : decode cX8_ahead 89 = .ok (.aload_n 0, 1) := by decide +kernel
theorem dX8_ahead_90 : decode cX8_ahead 90 = .ok (.getfield 25, 3) := by decide +kernel
theorem dX8_ahead_93 : decode cX8_ahead 93 = .ok (.invokevirtual 452, 3) := by decide +kernel
theorem dX8_ahead_96 : decode cX8_ahead 96 = .ok (.goto 11, 3) := by decide +kernel
theorem dX8_ahead_99 : decode cX8_ahead 99 = .ok (.aload_n 0, 1) := by decide +kernel
theorem dX8_ahead_100 : decode cX8_ahead 100 = .ok (.aload_n 0, 1) := by decide +kernel
theorem dX8_ahead_101 : decode cX8_ahead 101 = .ok (.getfield 28, 3) := by decide +kernel
theorem dX8_ahead_104 : decode cX8_ahead 104 = .ok (.invokevirtual 452, 3) := by decide +kernel
theorem dX8_ahead_107 : decode cX8_ahead 107 = .ok (.istore 4, 2) := by decide +kernel
theorem dX8_ahead_109 : decode cX8_ahead 109 = .ok (.aload_n 0, 1) := by decide +kernel
theorem dX8_ahead_110 : decode cX8_ahead 110 = .ok (.invokevirtual 456, 3) := by decide +kernel
theorem dX8_ahead_113 : decode cX8_ahead 113 = .ok (.iload 4, 2) := by decide +kernel
theorem dX8_ahead_115 : decode cX8_ahead 115 = .ok (.ireturn, 1) := by decide +kernel
theorem dX8_due_0 : decode cX8_due 0 = .ok (.aload_n 0, 1) := by decide +kernel
theorem dX8_due_1 : decode cX8_due 1 = .ok (.iload_n 1, 1) := by decide +kernel
theorem dX8_due_2 : decode cX8_due 2 = .ok (.invokevirtual 359, 3) := by decide +kernel
theorem dX8_due_5 : decode cX8_due 5 = .ok (.ifCond .ne 5, 3) := by decide +kernel
theorem dX8_due_8 : decode cX8_due 8 = .ok (.iconst (-1), 1) := by decide +kernel
theorem dX8_due_9 : decode cX8_due 9 = .ok (.ireturn, 1) := by decide +kernel
theorem dX8_due_10 : decode cX8_due 10 = .ok (.aload_n 0, 1) := by decide +kernel
theorem dX8_due_11 : decode cX8_due 11 = .ok (.iload_n 1, 1) := by decide +kernel
theorem dX8_due_12 : decode cX8_due 12 = .ok (.invokevirtual 378, 3) := by decide +kernel
theorem dX8_due_15 : decode cX8_due 15 = .ok (.bipush 99, 2) := by decide +kernel
theorem dX8_due_17 : decode cX8_due 17 = .ok (.if_icmp .ne 8, 3) := by decide +kernel
theorem dX8_due_20 : decode cX8_due 20 = .ok (.bipush (-2), 2) := by decide +kernel
theorem dX8_due_22 : decode cX8_due 22 = .ok (.goto 15, 3) := by decide +kernel
theorem dX8_due_25 : decode cX8_due 25 = .ok (.aload_n 0, 1) := by decide +kernel
theorem dX8_due_26 : decode cX8_due 26 = .ok (.getfield 9, 3) := by decide +kernel
theorem dX8_due_29 : decode cX8_due 29 = .ok (.iconst 4, 1) := by decide +kernel
theorem dX8_due_30 : decode cX8_due 30 = .ok (.iaload, 1) := by decide +kernel
theorem dX8_due_31 : decode cX8_due 31 = .ok (.aload_n 0, 1) := by decide +kernel
theorem dX8_due_32 : decode cX8_due 32 = .ok (.iload_n 1, 1) := by decide +kernel
theorem dX8_due_33 : decode cX8_due 33 = .ok (.invokevirtual 378, 3) := by decide +kernel
theorem dX8_due_36 : decode cX8_due 36 = .ok (.iadd, 1) := by decide +kernel
theorem dX8_due_37 : decode cX8_due 37 = .ok (.ireturn, 1) := by decide +kernel
theorem dX8_served_0 : decode cX8_served 0 = .ok (.aload_n 0, 1) := by decide +kernel
theorem dX8_served_1 : decode cX8_served 1 = .ok (.iload_n 1, 1) := by decide +kernel
theorem dX8_served_2 : decode cX8_served 2 = .ok (.invokevirtual 375, 3) := by decide +kernel
theorem dX8_served_5 : decode cX8_served 5 = .ok (.ifCond .ne 5, 3) := by decide +kernel
theorem dX8_served_8 : decode cX8_served 8 = .ok (.iconst (-1), 1) := by decide +kernel
theorem dX8_served_9 : decode cX8_served 9 = .ok (.ireturn, 1) := by decide +kernel
theorem dX8_served_10 : decode cX8_served 10 = .ok (.aload_n 0, 1) := by decide +kernel
theorem dX8_served_11 : decode cX8_served 11 = .ok (.invokevirtual 446, 3) := by decide +kernel
theorem dX8_served_14 : decode cX8_served 14 = .ok (.bipush (-2), 2) := by decide +kernel
theorem dX8_served_16 : decode cX8_served 16 = .ok (.istore_n 2, 1) := by decide +kernel
theorem dX8_served_17 : decode cX8_served 17 = .ok (.iconst 0, 1) := by decide +kernel
theorem dX8_served_18 : decode cX8_served 18 = .ok (.istore_n 3, 1) := by decide +kernel
theorem dX8_served_19 : decode cX8_served 19 = .ok (.iload_n 3, 1) := by decide +kernel
theorem dX8_served_20 : decode cX8_served 20 = .ok (.bipush 100, 2) := by decide +kernel
theorem dX8_served_22 : decode cX8_served 22 = .ok (.if_icmp .ge 45, 3) := by decide +kernel
theorem dX8_served_25 : decode cX8_served 25 = .ok (.iload_n 2, 1) := by decide +kernel
theorem dX8_served_26 : decode cX8_served 26 = .ok (.bipush (-2), 2) := by decide +kernel
theorem dX8_served_28 : decode cX8_served 28 = .ok (.if_icmp .ne 39, 3) := by decide +kernel
theorem dX8_served_31 : decode cX8_served 31 = .ok (.aload_n 0, 1) := by decide +kernel
theorem dX8_served_32 : decode cX8_served 32 = .ok (.invokevirtual 410, 3) := by decide +kernel
theorem dX8_served_35 : decode cX8_served 35 = .ok (.pop, 1) := by decide +kernel
theorem dX8_served_36 : decode cX8_served 36 = .ok (.aload_n 0, 1) := by decide +kernel
theorem dX8_served_37 : decode cX8_served 37 = .ok (.getfield 404, 3) := by decide +kernel
theorem dX8_served_40 : decode cX8_served 40 = .ok (.iload_n 1, 1) := by decide +kernel
theorem dX8_served_41 : decode cX8_served 41 = .ok (.invokestatic 356, 3) := by decide +kernel
theorem dX8_served_44 : decode cX8_served 44 = .ok (.ifCond .eq 14, 3) := by decide +kernel
theorem dX8_served_47 : decode cX8_served 47 = .ok (.aload_n 0, 1) := by decide +kernel
theorem dX8_served_48 : decode cX8_served 48 = .ok (.getfield 9, 3) := by decide +kernel
theorem dX8_served_51 : decode cX8_served 51 = .ok (.iconst 4, 1) := by decide +kernel
theorem dX8_served_52 : decode cX8_served 52 = .ok (.iaload, 1) := by decide +kernel
theorem dX8_served_53 : decode cX8_served 53 = .ok (.iconst 1, 1) := by decide +kernel
theorem dX8_served_54 : decode cX8_served 54 = .ok (.isub, 1) := by decide +kernel
theorem dX8_served_55 : decode cX8_served 55 = .ok (.goto 5, 3) := by decide +kernel
theorem dX8_served_58 : decode cX8_served 58 = .ok (.bipush (-2), 2) := by decide +kernel
theorem dX8_served_60 : decode cX8_served 60 = .ok (.istore_n 2, 1) := by decide +kernel
theorem dX8_served_61 : decode cX8_served 61 = .ok (.iinc 3 1, 3) := by decide +kernel
theorem dX8_served_64 : decode cX8_served 64 = .ok (.goto (-45), 3) := by decide +kernel
theorem dX8_served_67 : decode cX8_served 67 = .ok (.aload_n 0, 1) := by decide +kernel
theorem dX8_served_68 : decode cX8_served 68 = .ok (.invokevirtual 456, 3) := by decide +kernel
theorem dX8_served_71 : decode cX8_served 71 = .ok (.iload_n 2, 1) := by decide +kernel
theorem dX8_served_72 : decode cX8_served 72 = .ok (.ireturn, 1) := by decide +kernel
theorem dX8_worthMet_0 : decode cX8_worthMet 0 = .ok (.iconst 0, 1) := by decide +kernel
theorem dX8_worthMet_1 : decode cX8_worthMet 1 = .ok (.istore_n 2, 1) := by decide +kernel
theorem dX8_worthMet_2 : decode cX8_worthMet 2 = .ok (.iconst 0, 1) := by decide +kernel
theorem dX8_worthMet_3 : decode cX8_worthMet 3 = .ok (.istore_n 3, 1) := by decide +kernel
theorem dX8_worthMet_4 : decode cX8_worthMet 4 = .ok (.iload_n 3, 1) := by decide +kernel
theorem dX8_worthMet_5 : decode cX8_worthMet 5 = .ok (.iload_n 1, 1) := by decide +kernel
theorem dX8_worthMet_6 : decode cX8_worthMet 6 = .ok (.if_icmp .ge 65, 3) := by decide +kernel
theorem dX8_worthMet_9 : decode cX8_worthMet 9 = .ok (.aload_n 0, 1) := by decide +kernel
theorem dX8_worthMet_10 : decode cX8_worthMet 10 = .ok (.invokevirtual 410, 3) := by decide +kernel
theorem dX8_worthMet_13 : decode cX8_worthMet 13 = .ok (.pop, 1) := by decide +kernel
theorem dX8_worthMet_14 : decode cX8_worthMet 14 = .ok (.iconst 0, 1) := by decide +kernel
theorem dX8_worthMet_15 : decode cX8_worthMet 15 = .ok (.istore 4, 2) := by decide +kernel
theorem dX8_worthMet_17 : decode cX8_worthMet 17 = .ok (.iload 4, 2) := by decide +kernel
theorem dX8_worthMet_19 : decode cX8_worthMet 19 = .ok (.aload_n 0, 1) := by decide +kernel
theorem dX8_worthMet_20 : decode cX8_worthMet 20 = .ok (.getfield 9, 3) := by decide +kernel
theorem dX8_worthMet_23 : decode cX8_worthMet 23 = .ok (.iconst 3, 1) := by decide +kernel
theorem dX8_worthMet_24 : decode cX8_worthMet 24 = .ok (.iaload, 1) := by decide +kernel
theorem dX8_worthMet_25 : decode cX8_worthMet 25 = .ok (.if_icmp .ge 40, 3) := by decide +kernel
theorem dX8_worthMet_28 : decode cX8_worthMet 28 = .ok (.iload_n 2, 1) := by decide +kernel
theorem dX8_worthMet_29 : decode cX8_worthMet 29 = .ok (.aload_n 0, 1) := by decide +kernel
theorem dX8_worthMet_30 : decode cX8_worthMet 30 = .ok (.getfield 404, 3) := by decide +kernel
theorem dX8_worthMet_33 : decode cX8_worthMet 33 = .ok (.iload 4, 2) := by decide +kernel
theorem dX8_worthMet_35 : decode cX8_worthMet 35 = .ok (.invokestatic 356, 3) := by decide +kernel
theorem dX8_worthMet_38 : decode cX8_worthMet 38 = .ok (.ifCond .eq 18, 3) := by decide +kernel
theorem dX8_worthMet_41 : decode cX8_worthMet 41 = .ok (.aload_n 0, 1) := by decide +kernel
theorem dX8_worthMet_42 : decode cX8_worthMet 42 = .ok (.getfield 31, 3) := by decide +kernel
theorem dX8_worthMet_45 : decode cX8_worthMet 45 = .ok (.aload_n 0, 1) := by decide +kernel
theorem dX8_worthMet_46 : decode cX8_worthMet 46 = .ok (.getfield 37, 3) := by decide +kernel
theorem dX8_worthMet_49 : decode cX8_worthMet 49 = .ok (.iload 4, 2) := by decide +kernel
theorem dX8_worthMet_51 : decode cX8_worthMet 51 = .ok (.iaload, 1) := by decide +kernel
theorem dX8_worthMet_52 : decode cX8_worthMet 52 = .ok (.iaload, 1) := by decide +kernel
theorem dX8_worthMet_53 : decode cX8_worthMet 53 = .ok (.goto 4, 3) := by decide +kernel
theorem dX8_worthMet_56 : decode cX8_worthMet 56 = .ok (.iconst 0, 1) := by decide +kernel
theorem dX8_worthMet_57 : decode cX8_worthMet 57 = .ok (.iadd, 1) := by decide +kernel
theorem dX8_worthMet_58 : decode cX8_worthMet 58 = .ok (.istore_n 2, 1) := by decide +kernel
theorem dX8_worthMet_59 : decode cX8_worthMet 59 = .ok (.iinc 4 1, 3) := by decide +kernel
theorem dX8_worthMet_62 : decode cX8_worthMet 62 = .ok (.goto (-45), 3) := by decide +kernel
theorem dX8_worthMet_65 : decode cX8_worthMet 65 = .ok (.iinc 3 1, 3) := by decide +kernel
theorem dX8_worthMet_68 : decode cX8_worthMet 68 = .ok (.goto (-64), 3) := by decide +kernel
theorem dX8_worthMet_71 : decode cX8_worthMet 71 = .ok (.aload_n 0, 1) := by decide +kernel
theorem dX8_worthMet_72 : decode cX8_worthMet 72 = .ok (.invokevirtual 456, 3) := by decide +kernel
theorem dX8_worthMet_75 : decode cX8_worthMet 75 = .ok (.iload_n 2, 1) := by decide +kernel
theorem dX8_worthMet_76 : decode cX8_worthMet 76 = .ok (.ireturn, 1) := by decide +kernel
theorem dX8_shut_0 : decode cX8_shut 0 = .ok (.aload_n 0, 1) := by decide +kernel
theorem dX8_shut_1 : decode cX8_shut 1 = .ok (.invokevirtual 431, 3) := by decide +kernel
theorem dX8_shut_4 : decode cX8_shut 4 = .ok (.ifCond .eq 25, 3) := by decide +kernel
theorem dX8_shut_7 : decode cX8_shut 7 = .ok (.iload_n 1, 1) := by decide +kernel
theorem dX8_shut_8 : decode cX8_shut 8 = .ok (.i2l, 1) := by decide +kernel
theorem dX8_shut_9 : decode cX8_shut 9 = .ok (.lconst 1, 1) := by decide +kernel
theorem dX8_shut_10 : decode cX8_shut 10 = .ok (.ldc2_w 459, 3) := by decide +kernel
theorem dX8_shut_13 : decode cX8_shut 13 = .ok (.invokestatic 161, 3) := by decide +kernel
theorem dX8_shut_16 : decode cX8_shut 16 = .ok (.ifCond .eq 13, 3) := by decide +kernel
theorem dX8_shut_19 : decode cX8_shut 19 = .ok (.iload_n 2, 1) := by decide +kernel
theorem dX8_shut_20 : decode cX8_shut 20 = .ok (.i2l, 1) := by decide +kernel
theorem dX8_shut_21 : decode cX8_shut 21 = .ok (.lconst 0, 1) := by decide +kernel
theorem dX8_shut_22 : decode cX8_shut 22 = .ok (.lconst 1, 1) := by decide +kernel
theorem dX8_shut_23 : decode cX8_shut 23 = .ok (.invokestatic 161, 3) := by decide +kernel
theorem dX8_shut_26 : decode cX8_shut 26 = .ok (.ifCond .ne 6, 3) := by decide +kernel
theorem dX8_shut_29 : decode cX8_shut 29 = .ok (.bipush (-2), 2) := by decide +kernel
theorem dX8_shut_31 : decode cX8_shut 31 = .ok (.ireturn, 1) := by decide +kernel
theorem dX8_shut_32 : decode cX8_shut 32 = .ok (.aload_n 0, 1) := by decide +kernel
theorem dX8_shut_33 : decode cX8_shut 33 = .ok (.invokevirtual 446, 3) := by decide +kernel
theorem dX8_shut_36 : decode cX8_shut 36 = .ok (.iconst (-1), 1) := by decide +kernel
theorem dX8_shut_37 : decode cX8_shut 37 = .ok (.istore_n 3, 1) := by decide +kernel
theorem dX8_shut_38 : decode cX8_shut 38 = .ok (.aload_n 0, 1) := by decide +kernel
theorem dX8_shut_39 : decode cX8_shut 39 = .ok (.iload_n 1, 1) := by decide +kernel
theorem dX8_shut_40 : decode cX8_shut 40 = .ok (.invokevirtual 461, 3) := by decide +kernel
theorem dX8_shut_43 : decode cX8_shut 43 = .ok (.istore 4, 2) := by decide +kernel
theorem dX8_shut_45 : decode cX8_shut 45 = .ok (.iconst 0, 1) := by decide +kernel
theorem dX8_shut_46 : decode cX8_shut 46 = .ok (.istore 5, 2) := by decide +kernel
theorem dX8_shut_48 : decode cX8_shut 48 = .ok (.iload 5, 2) := by decide +kernel
theorem dX8_shut_50 : decode cX8_shut 50 = .ok (.aload_n 0, 1) := by decide +kernel
theorem dX8_shut_51 : decode cX8_shut 51 = .ok (.getfield 9, 3) := by decide +kernel
theorem dX8_shut_54 : decode cX8_shut 54 = .ok (.iconst 2, 1) := by decide +kernel
theorem dX8_shut_55 : decode cX8_shut 55 = .ok (.iaload, 1) := by decide +kernel
theorem dX8_shut_56 : decode cX8_shut 56 = .ok (.if_icmp .ge 44, 3) := by decide +kernel
theorem dX8_shut_59 : decode cX8_shut 59 = .ok (.aload_n 0, 1) := by decide +kernel
theorem dX8_shut_60 : decode cX8_shut 60 = .ok (.getfield 16, 3) := by decide +kernel
theorem dX8_shut_63 : decode cX8_shut 63 = .ok (.iload 5, 2) := by decide +kernel
theorem dX8_shut_65 : decode cX8_shut 65 = .ok (.iconst (-1), 1) := by decide +kernel
theorem dX8_shut_66 : decode cX8_shut 66 = .ok (.iastore, 1) := by decide +kernel
theorem dX8_shut_67 : decode cX8_shut 67 = .ok (.aload_n 0, 1) := by decide +kernel
theorem dX8_shut_68 : decode cX8_shut 68 = .ok (.iload 5, 2) := by decide +kernel
theorem dX8_shut_70 : decode cX8_shut 70 = .ok (.putfield 127, 3) := by decide +kernel
theorem dX8_shut_73 : decode cX8_shut 73 = .ok (.aload_n 0, 1) := by decide +kernel
theorem dX8_shut_74 : decode cX8_shut 74 = .ok (.iload_n 1, 1) := by decide +kernel
theorem dX8_shut_75 : decode cX8_shut 75 = .ok (.invokevirtual 461, 3) := by decide +kernel
theorem dX8_shut_78 : decode cX8_shut 78 = .ok (.istore 6, 2) := by decide +kernel
theorem dX8_shut_80 : decode cX8_shut 80 = .ok (.iload 6, 2) := by decide +kernel
theorem dX8_shut_82 : decode cX8_shut 82 = .ok (.iload 4, 2) := by decide +kernel
theorem dX8_shut_84 : decode cX8_shut 84 = .ok (.if_icmp .le 10, 3) := by decide +kernel
theorem dX8_shut_87 : decode cX8_shut 87 = .ok (.iload 5, 2) := by decide +kernel
theorem dX8_shut_89 : decode cX8_shut 89 = .ok (.istore_n 3, 1) := by decide +kernel
theorem dX8_shut_90 : decode cX8_shut 90 = .ok (.iload 6, 2) := by decide +kernel
theorem dX8_shut_92 : decode cX8_shut 92 = .ok (.istore 4, 2) := by decide +kernel
theorem dX8_shut_94 : decode cX8_shut 94 = .ok (.iinc 5 1, 3) := by decide +kernel
theorem dX8_shut_97 : decode cX8_shut 97 = .ok (.goto (-49), 3) := by decide +kernel
theorem dX8_shut_100 : decode cX8_shut 100 = .ok (.aload_n 0, 1) := by decide +kernel
theorem dX8_shut_101 : decode cX8_shut 101 = .ok (.iconst (-1), 1) := by decide +kernel
theorem dX8_shut_102 : decode cX8_shut 102 = .ok (.putfield 127, 3) := by decide +kernel
theorem dX8_shut_105 : decode cX8_shut 105 = .ok (.iload_n 2, 1) := by decide +kernel
theorem dX8_shut_106 : decode cX8_shut 106 = .ok (.ifCond .ne 7, 3) := by decide +kernel
theorem dX8_shut_109 : decode cX8_shut 109 = .ok (.iload_n 3, 1) := by decide +kernel
theorem dX8_shut_110 : decode cX8_shut 110 = .ok (.goto 5, 3) := by decide +kernel
theorem dX8_shut_113 : decode cX8_shut 113 = .ok (.iload 4, 2) := by decide +kernel
theorem dX8_shut_115 : decode cX8_shut 115 = .ok (.ireturn, 1) := by decide +kernel
theorem dX8_moved_0 : decode cX8_moved 0 = .ok (.aload_n 0, 1) := by decide +kernel
theorem dX8_moved_1 : decode cX8_moved 1 = .ok (.iload_n 1, 1) := by decide +kernel
theorem dX8_moved_2 : decode cX8_moved 2 = .ok (.invokevirtual 359, 3) := by decide +kernel
theorem dX8_moved_5 : decode cX8_moved 5 = .ok (.ifCond .eq 25, 3) := by decide +kernel
theorem dX8_moved_8 : decode cX8_moved 8 = .ok (.iload_n 2, 1) := by decide +kernel
theorem dX8_moved_9 : decode cX8_moved 9 = .ok (.i2l, 1) := by decide +kernel
theorem dX8_moved_10 : decode cX8_moved 10 = .ok (.lconst 1, 1) := by decide +kernel
theorem dX8_moved_11 : decode cX8_moved 11 = .ok (.ldc2_w 459, 3) := by decide +kernel
theorem dX8_moved_14 : decode cX8_moved 14 = .ok (.invokestatic 161, 3) := by decide +kernel
theorem dX8_moved_17 : decode cX8_moved 17 = .ok (.ifCond .eq 13, 3) := by decide +kernel
theorem dX8_moved_20 : decode cX8_moved 20 = .ok (.iload_n 3, 1) := by decide +kernel
theorem dX8_moved_21 : decode cX8_moved 21 = .ok (.i2l, 1) := by decide +kernel
theorem dX8_moved_22 : decode cX8_moved 22 = .ok (.lconst 0, 1) := by decide +kernel
theorem dX8_moved_23 : decode cX8_moved 23 = .ok (.lconst 1, 1) := by decide +kernel
theorem dX8_moved_24 : decode cX8_moved 24 = .ok (.invokestatic 161, 3) := by decide +kernel
theorem dX8_moved_27 : decode cX8_moved 27 = .ok (.ifCond .ne 5, 3) := by decide +kernel
theorem dX8_moved_30 : decode cX8_moved 30 = .ok (.iconst (-1), 1) := by decide +kernel
theorem dX8_moved_31 : decode cX8_moved 31 = .ok (.ireturn, 1) := by decide +kernel
theorem dX8_moved_32 : decode cX8_moved 32 = .ok (.aload_n 0, 1) := by decide +kernel
theorem dX8_moved_33 : decode cX8_moved 33 = .ok (.invokevirtual 446, 3) := by decide +kernel
theorem dX8_moved_36 : decode cX8_moved 36 = .ok (.aload_n 0, 1) := by decide +kernel
theorem dX8_moved_37 : decode cX8_moved 37 = .ok (.getfield 22, 3) := by decide +kernel
theorem dX8_moved_40 : decode cX8_moved 40 = .ok (.iload_n 1, 1) := by decide +kernel
theorem dX8_moved_41 : decode cX8_moved 41 = .ok (.iaload, 1) := by decide +kernel
theorem dX8_moved_42 : decode cX8_moved 42 = .ok (.istore 4, 2) := by decide +kernel
theorem dX8_moved_44 : decode cX8_moved 44 = .ok (.aload_n 0, 1) := by decide +kernel
theorem dX8_moved_45 : decode cX8_moved 45 = .ok (.iload_n 2, 1) := by decide +kernel
theorem dX8_moved_46 : decode cX8_moved 46 = .ok (.invokevirtual 461, 3) := by decide +kernel
theorem dX8_moved_49 : decode cX8_moved 49 = .ok (.istore 5, 2) := by decide +kernel
theorem dX8_moved_51 : decode cX8_moved 51 = .ok (.iconst 0, 1) := by decide +kernel
theorem dX8_moved_52 : decode cX8_moved 52 = .ok (.istore 6, 2) := by decide +kernel
theorem dX8_moved_54 : decode cX8_moved 54 = .ok (.iload 6, 2) := by decide +kernel
theorem dX8_moved_56 : decode cX8_moved 56 = .ok (.aload_n 0, 1) := by decide +kernel
theorem dX8_moved_57 : decode cX8_moved 57 = .ok (.getfield 9, 3) := by decide +kernel
theorem dX8_moved_60 : decode cX8_moved 60 = .ok (.iconst 0, 1) := by decide +kernel
theorem dX8_moved_61 : decode cX8_moved 61 = .ok (.iaload, 1) := by decide +kernel
theorem dX8_moved_62 : decode cX8_moved 62 = .ok (.if_icmp .ge 94, 3) := by decide +kernel
theorem dX8_moved_65 : decode cX8_moved 65 = .ok (.iload 6, 2) := by decide +kernel
theorem dX8_moved_67 : decode cX8_moved 67 = .ok (.aload_n 0, 1) := by decide +kernel
theorem dX8_moved_68 : decode cX8_moved 68 = .ok (.getfield 22, 3) := by decide +kernel
theorem dX8_moved_71 : decode cX8_moved 71 = .ok (.iload_n 1, 1) := by decide +kernel
theorem dX8_moved_72 : decode cX8_moved 72 = .ok (.iaload, 1) := by decide +kernel
theorem dX8_moved_73 : decode cX8_moved 73 = .ok (.if_icmp .eq 77, 3) := by decide +kernel
theorem dX8_moved_76 : decode cX8_moved 76 = .ok (.aload_n 0, 1) := by decide +kernel
theorem dX8_moved_77 : decode cX8_moved 77 = .ok (.getfield 22, 3) := by decide +kernel
theorem dX8_moved_80 : decode cX8_moved 80 = .ok (.iload_n 1, 1) := by decide +kernel
theorem dX8_moved_81 : decode cX8_moved 81 = .ok (.iload 6, 2) := by decide +kernel
theorem dX8_moved_83 : decode cX8_moved 83 = .ok (.iastore, 1) := by decide +kernel
theorem dX8_moved_84 : decode cX8_moved 84 = .ok (.iconst 0, 1) := by decide +kernel
theorem dX8_moved_85 : decode cX8_moved 85 = .ok (.istore 7, 2) := by decide +kernel
theorem dX8_moved_87 : decode cX8_moved 87 = .ok (.iload 7, 2) := by decide +kernel
theorem dX8_moved_89 : decode cX8_moved 89 = .ok (.iconst 3, 1) := by decide +kernel
theorem dX8_moved_90 : decode cX8_moved 90 = .ok (.if_icmp .ge 38, 3) := by decide +kernel
theorem dX8_moved_93 : decode cX8_moved 93 = .ok (.aload_n 0, 1) := by decide +kernel
theorem dX8_moved_94 : decode cX8_moved 94 = .ok (.getfield 16, 3) := by decide +kernel
theorem dX8_moved_97 : decode cX8_moved 97 = .ok (.iload 7, 2) := by decide +kernel
theorem dX8_moved_99 : decode cX8_moved 99 = .ok (.aload_n 0, 1) := by decide +kernel
theorem dX8_moved_100 : decode cX8_moved 100 = .ok (.getfield 16, 3) := by decide +kernel
theorem dX8_moved_103 : decode cX8_moved 103 = .ok (.iload 7, 2) := by decide +kernel
theorem dX8_moved_105 : decode cX8_moved 105 = .ok (.iaload, 1) := by decide +kernel
theorem dX8_moved_106 : decode cX8_moved 106 = .ok (.iload_n 1, 1) := by decide +kernel
theorem dX8_moved_107 : decode cX8_moved 107 = .ok (.if_icmp .ne 7, 3) := by decide +kernel
theorem dX8_moved_110 : decode cX8_moved 110 = .ok (.iconst (-1), 1) := by decide +kernel
theorem dX8_moved_111 : decode cX8_moved 111 = .ok (.goto 10, 3) := by decide +kernel
theorem dX8_moved_114 : decode cX8_moved 114 = .ok (.aload_n 0, 1) := by decide +kernel
theorem dX8_moved_115 : decode cX8_moved 115 = .ok (.getfield 16, 3) := by decide +kernel
theorem dX8_moved_118 : decode cX8_moved 118 = .ok (.iload 7, 2) := by decide +kernel
theorem dX8_moved_120 : decode cX8_moved 120 = .ok (.iaload, 1) := by decide +kernel
theorem dX8_moved_121 : decode cX8_moved 121 = .ok (.iastore, 1) := by decide +kernel
theorem dX8_moved_122 : decode cX8_moved 122 = .ok (.iinc 7 1, 3) := by decide +kernel
theorem dX8_moved_125 : decode cX8_moved 125 = .ok (.goto (-38), 3) := by decide +kernel
theorem dX8_moved_128 : decode cX8_moved 128 = .ok (.aload_n 0, 1) := by decide +kernel
theorem dX8_moved_129 : decode cX8_moved 129 = .ok (.iload_n 2, 1) := by decide +kernel
theorem dX8_moved_130 : decode cX8_moved 130 = .ok (.invokevirtual 461, 3) := by decide +kernel
theorem dX8_moved_133 : decode cX8_moved 133 = .ok (.istore 7, 2) := by decide +kernel
theorem dX8_moved_135 : decode cX8_moved 135 = .ok (.iload 7, 2) := by decide +kernel
theorem dX8_moved_137 : decode cX8_moved 137 = .ok (.iload 5, 2) := by decide +kernel
theorem dX8_moved_139 : decode cX8_moved 139 = .ok (.if_icmp .le 11, 3) := by decide +kernel
theorem dX8_moved_142 : decode cX8_moved 142 = .ok (.iload 6, 2) := by decide +kernel
theorem dX8_moved_144 : decode cX8_moved 144 = .ok (.istore 4, 2) := by decide +kernel
theorem dX8_moved_146 : decode cX8_moved 146 = .ok (.iload 7, 2) := by decide +kernel
theorem dX8_moved_148 : decode cX8_moved 148 = .ok (.istore 5, 2) := by decide +kernel
theorem dX8_moved_150 : decode cX8_moved 150 = .ok (.iinc 6 1, 3) := by decide +kernel
theorem dX8_moved_153 : decode cX8_moved 153 = .ok (.goto (-99), 3) := by decide +kernel
theorem dX8_moved_156 : decode cX8_moved 156 = .ok (.iload_n 3, 1) := by decide +kernel
theorem dX8_moved_157 : decode cX8_moved 157 = .ok (.ifCond .ne 8, 3) := by decide +kernel
theorem dX8_moved_160 : decode cX8_moved 160 = .ok (.iload 4, 2) := by decide +kernel
theorem dX8_moved_162 : decode cX8_moved 162 = .ok (.goto 5, 3) := by decide +kernel
theorem dX8_moved_165 : decode cX8_moved 165 = .ok (.iload 5, 2) := by decide +kernel
theorem dX8_moved_167 : decode cX8_moved 167 = .ok (.ireturn, 1) := by decide +kernel
theorem dX8_isNoneLost_0 : decode cX8_isNoneLost 0 = .ok (.aload_n 0, 1) := by decide +kernel
theorem dX8_isNoneLost_1 : decode cX8_isNoneLost 1 = .ok (.getfield 9, 3) := by decide +kernel
theorem dX8_isNoneLost_4 : decode cX8_isNoneLost 4 = .ok (.iconst 5, 1) := by decide +kernel
theorem dX8_isNoneLost_5 : decode cX8_isNoneLost 5 = .ok (.dup2, 1) := by decide +kernel
theorem dX8_isNoneLost_6 : decode cX8_isNoneLost 6 = .ok (.iaload, 1) := by decide +kernel
theorem dX8_isNoneLost_7 : decode cX8_isNoneLost 7 = .ok (.iload_n 1, 1) := by decide +kernel
theorem dX8_isNoneLost_8 : decode cX8_isNoneLost 8 = .ok (.ior, 1) := by decide +kernel
theorem dX8_isNoneLost_9 : decode cX8_isNoneLost 9 = .ok (.iastore, 1) := by decide +kernel
theorem dX8_isNoneLost_10 : decode cX8_isNoneLost 10 = .ok (.iconst 1, 1) := by decide +kernel
theorem dX8_isNoneLost_11 : decode cX8_isNoneLost 11 = .ok (.istore_n 3, 1) := by decide +kernel
theorem dX8_isNoneLost_12 : decode cX8_isNoneLost 12 = .ok (.iconst 0, 1) := by decide +kernel
theorem dX8_isNoneLost_13 : decode cX8_isNoneLost 13 = .ok (.istore 4, 2) := by decide +kernel
theorem dX8_isNoneLost_15 : decode cX8_isNoneLost 15 = .ok (.iload 4, 2) := by decide +kernel
theorem dX8_isNoneLost_17 : decode cX8_isNoneLost 17 = .ok (.iload_n 2, 1) := by decide +kernel
theorem dX8_isNoneLost_18 : decode cX8_isNoneLost 18 = .ok (.if_icmp .ge 26, 3) := by decide +kernel
theorem dX8_isNoneLost_21 : decode cX8_isNoneLost 21 = .ok (.iload_n 3, 1) := by decide +kernel
theorem dX8_isNoneLost_22 : decode cX8_isNoneLost 22 = .ok (.ifCond .eq 22, 3) := by decide +kernel
theorem dX8_isNoneLost_25 : decode cX8_isNoneLost 25 = .ok (.aload_n 0, 1) := by decide +kernel
theorem dX8_isNoneLost_26 : decode cX8_isNoneLost 26 = .ok (.invokevirtual 410, 3) := by decide +kernel
theorem dX8_isNoneLost_29 : decode cX8_isNoneLost 29 = .ok (.ifCond .ne 7, 3) := by decide +kernel
theorem dX8_isNoneLost_32 : decode cX8_isNoneLost 32 = .ok (.iconst 1, 1) := by decide +kernel
theorem dX8_isNoneLost_33 : decode cX8_isNoneLost 33 = .ok (.goto 4, 3) := by decide +kernel
theorem dX8_isNoneLost_36 : decode cX8_isNoneLost 36 = .ok (.iconst 0, 1) := by decide +kernel
theorem dX8_isNoneLost_37 : decode cX8_isNoneLost 37 = .ok (.istore_n 3, 1) := by decide +kernel
theorem dX8_isNoneLost_38 : decode cX8_isNoneLost 38 = .ok (.iinc 4 1, 3) := by decide +kernel
theorem dX8_isNoneLost_41 : decode cX8_isNoneLost 41 = .ok (.goto (-26), 3) := by decide +kernel
theorem dX8_isNoneLost_44 : decode cX8_isNoneLost 44 = .ok (.aload_n 0, 1) := by decide +kernel
theorem dX8_isNoneLost_45 : decode cX8_isNoneLost 45 = .ok (.invokevirtual 456, 3) := by decide +kernel
theorem dX8_isNoneLost_48 : decode cX8_isNoneLost 48 = .ok (.iload_n 3, 1) := by decide +kernel
theorem dX8_isNoneLost_49 : decode cX8_isNoneLost 49 = .ok (.ireturn, 1) := by decide +kernel
theorem dX8_tray_0 : decode cX8_tray 0 = .ok (.aload_n 0, 1) := by decide +kernel
theorem dX8_tray_1 : decode cX8_tray 1 = .ok (.invokevirtual 431, 3) := by decide +kernel
theorem dX8_tray_4 : decode cX8_tray 4 = .ok (.ifCond .eq 25, 3) := by decide +kernel
theorem dX8_tray_7 : decode cX8_tray 7 = .ok (.iload_n 1, 1) := by decide +kernel
theorem dX8_tray_8 : decode cX8_tray 8 = .ok (.i2l, 1) := by decide +kernel
theorem dX8_tray_9 : decode cX8_tray 9 = .ok (.lconst 1, 1) := by decide +kernel
theorem dX8_tray_10 : decode cX8_tray 10 = .ok (.ldc2_w 464, 3) := by decide +kernel
theorem dX8_tray_13 : decode cX8_tray 13 = .ok (.invokestatic 161, 3) := by decide +kernel
theorem dX8_tray_16 : decode cX8_tray 16 = .ok (.ifCond .eq 13, 3) := by decide +kernel
theorem dX8_tray_19 : decode cX8_tray 19 = .ok (.iload_n 2, 1) := by decide +kernel
theorem dX8_tray_20 : decode cX8_tray 20 = .ok (.i2l, 1) := by decide +kernel
theorem dX8_tray_21 : decode cX8_tray 21 = .ok (.lconst 0, 1) := by decide +kernel
theorem dX8_tray_22 : decode cX8_tray 22 = .ok (.lconst 1, 1) := by decide +kernel
theorem dX8_tray_23 : decode cX8_tray 23 = .ok (.invokestatic 161, 3) := by decide +kernel
theorem dX8_tray_26 : decode cX8_tray 26 = .ok (.ifCond .ne 5, 3) := by decide +kernel
theorem dX8_tray_29 : decode cX8_tray 29 = .ok (.iconst (-1), 1) := by decide +kernel
theorem dX8_tray_30 : decode cX8_tray 30 = .ok (.ireturn, 1) := by decide +kernel
theorem dX8_tray_31 : decode cX8_tray 31 = .ok (.aload_n 0, 1) := by decide +kernel
theorem dX8_tray_32 : decode cX8_tray 32 = .ok (.invokevirtual 446, 3) := by decide +kernel
theorem dX8_tray_35 : decode cX8_tray 35 = .ok (.iconst 1, 1) := by decide +kernel
theorem dX8_tray_36 : decode cX8_tray 36 = .ok (.aload_n 0, 1) := by decide +kernel
theorem dX8_tray_37 : decode cX8_tray 37 = .ok (.getfield 9, 3) := by decide +kernel
theorem dX8_tray_40 : decode cX8_tray 40 = .ok (.iconst 3, 1) := by decide +kernel
theorem dX8_tray_41 : decode cX8_tray 41 = .ok (.iaload, 1) := by decide +kernel
theorem dX8_tray_42 : decode cX8_tray 42 = .ok (.ishl, 1) := by decide +kernel
theorem dX8_tray_43 : decode cX8_tray 43 = .ok (.iconst 1, 1) := by decide +kernel
theorem dX8_tray_44 : decode cX8_tray 44 = .ok (.isub, 1) := by decide +kernel
theorem dX8_tray_45 : decode cX8_tray 45 = .ok (.aload_n 0, 1) := by decide +kernel
theorem dX8_tray_46 : decode cX8_tray 46 = .ok (.getfield 9, 3) := by decide +kernel
theorem dX8_tray_49 : decode cX8_tray 49 = .ok (.iconst 5, 1) := by decide +kernel
theorem dX8_tray_50 : decode cX8_tray 50 = .ok (.iaload, 1) := by decide +kernel
theorem dX8_tray_51 : decode cX8_tray 51 = .ok (.iconst (-1), 1) := by decide +kernel
theorem dX8_tray_52 : decode cX8_tray 52 = .ok (.ixor, 1) := by decide +kernel
theorem dX8_tray_53 : decode cX8_tray 53 = .ok (.iand, 1) := by decide +kernel
theorem dX8_tray_54 : decode cX8_tray 54 = .ok (.istore_n 3, 1) := by decide +kernel
theorem dX8_tray_55 : decode cX8_tray 55 = .ok (.iload_n 3, 1) := by decide +kernel
theorem dX8_tray_56 : decode cX8_tray 56 = .ok (.istore 4, 2) := by decide +kernel
theorem dX8_tray_58 : decode cX8_tray 58 = .ok (.iconst 0, 1) := by decide +kernel
theorem dX8_tray_59 : decode cX8_tray 59 = .ok (.istore 5, 2) := by decide +kernel
theorem dX8_tray_61 : decode cX8_tray 61 = .ok (.iload 5, 2) := by decide +kernel
theorem dX8_tray_63 : decode cX8_tray 63 = .ok (.iload_n 3, 1) := by decide +kernel
theorem dX8_tray_64 : decode cX8_tray 64 = .ok (.if_icmp .ge 45, 3) := by decide +kernel
theorem dX8_tray_67 : decode cX8_tray 67 = .ok (.iload 5, 2) := by decide +kernel
theorem dX8_tray_69 : decode cX8_tray 69 = .ok (.iload_n 3, 1) := by decide +kernel
theorem dX8_tray_70 : decode cX8_tray 70 = .ok (.iconst (-1), 1) := by decide +kernel
theorem dX8_tray_71 : decode cX8_tray 71 = .ok (.ixor, 1) := by decide +kernel
theorem dX8_tray_72 : decode cX8_tray 72 = .ok (.iand, 1) := by decide +kernel
theorem dX8_tray_73 : decode cX8_tray 73 = .ok (.ifCond .ne 30, 3) := by decide +kernel
theorem dX8_tray_76 : decode cX8_tray 76 = .ok (.iload 5, 2) := by decide +kernel
theorem dX8_tray_78 : decode cX8_tray 78 = .ok (.invokestatic 381, 3) := by decide +kernel
theorem dX8_tray_81 : decode cX8_tray 81 = .ok (.iload 4, 2) := by decide +kernel
theorem dX8_tray_83 : decode cX8_tray 83 = .ok (.invokestatic 381, 3) := by decide +kernel
theorem dX8_tray_86 : decode cX8_tray 86 = .ok (.if_icmp .ge 17, 3) := by decide +kernel
theorem dX8_tray_89 : decode cX8_tray 89 = .ok (.aload_n 0, 1) := by decide +kernel
theorem dX8_tray_90 : decode cX8_tray 90 = .ok (.iload 5, 2) := by decide +kernel
theorem dX8_tray_92 : decode cX8_tray 92 = .ok (.iload_n 1, 1) := by decide +kernel
theorem dX8_tray_93 : decode cX8_tray 93 = .ok (.invokevirtual 466, 3) := by decide +kernel
theorem dX8_tray_96 : decode cX8_tray 96 = .ok (.ifCond .eq 7, 3) := by decide +kernel
theorem dX8_tray_99 : decode cX8_tray 99 = .ok (.iload 5, 2) := by decide +kernel
theorem dX8_tray_101 : decode cX8_tray 101 = .ok (.istore 4, 2) := by decide +kernel
theorem dX8_tray_103 : decode cX8_tray 103 = .ok (.iinc 5 1, 3) := by decide +kernel
theorem dX8_tray_106 : decode cX8_tray 106 = .ok (.goto (-45), 3) := by decide +kernel
theorem dX8_tray_109 : decode cX8_tray 109 = .ok (.iload_n 2, 1) := by decide +kernel
theorem dX8_tray_110 : decode cX8_tray 110 = .ok (.ifCond .ne 11, 3) := by decide +kernel
theorem dX8_tray_113 : decode cX8_tray 113 = .ok (.iload 4, 2) := by decide +kernel
theorem dX8_tray_115 : decode cX8_tray 115 = .ok (.invokestatic 381, 3) := by decide +kernel
theorem dX8_tray_118 : decode cX8_tray 118 = .ok (.goto 5, 3) := by decide +kernel
theorem dX8_tray_121 : decode cX8_tray 121 = .ok (.iload 4, 2) := by decide +kernel
theorem dX8_tray_123 : decode cX8_tray 123 = .ok (.ireturn, 1) := by decide +kernel
theorem dX8_earns_0 : decode cX8_earns 0 = .ok (.iconst 0, 1) := by decide +kernel
theorem dX8_earns_1 : decode cX8_earns 1 = .ok (.istore_n 2, 1) := by decide +kernel
theorem dX8_earns_2 : decode cX8_earns 2 = .ok (.iconst 0, 1) := by decide +kernel
theorem dX8_earns_3 : decode cX8_earns 3 = .ok (.istore_n 3, 1) := by decide +kernel
theorem dX8_earns_4 : decode cX8_earns 4 = .ok (.iload_n 3, 1) := by decide +kernel
theorem dX8_earns_5 : decode cX8_earns 5 = .ok (.aload_n 0, 1) := by decide +kernel
theorem dX8_earns_6 : decode cX8_earns 6 = .ok (.getfield 9, 3) := by decide +kernel
theorem dX8_earns_9 : decode cX8_earns 9 = .ok (.iconst 3, 1) := by decide +kernel
theorem dX8_earns_10 : decode cX8_earns 10 = .ok (.iaload, 1) := by decide +kernel
theorem dX8_earns_11 : decode cX8_earns 11 = .ok (.if_icmp .ge 43, 3) := by decide +kernel
theorem dX8_earns_14 : decode cX8_earns 14 = .ok (.iload_n 2, 1) := by decide +kernel
theorem dX8_earns_15 : decode cX8_earns 15 = .ok (.aload_n 0, 1) := by decide +kernel
theorem dX8_earns_16 : decode cX8_earns 16 = .ok (.getfield 407, 3) := by decide +kernel
theorem dX8_earns_19 : decode cX8_earns 19 = .ok (.iload_n 3, 1) := by decide +kernel
theorem dX8_earns_20 : decode cX8_earns 20 = .ok (.invokestatic 356, 3) := by decide +kernel
theorem dX8_earns_23 : decode cX8_earns 23 = .ok (.ifCond .eq 22, 3) := by decide +kernel
theorem dX8_earns_26 : decode cX8_earns 26 = .ok (.aload_n 0, 1) := by decide +kernel
theorem dX8_earns_27 : decode cX8_earns 27 = .ok (.getfield 37, 3) := by decide +kernel
theorem dX8_earns_30 : decode cX8_earns 30 = .ok (.iload_n 3, 1) := by decide +kernel
theorem dX8_earns_31 : decode cX8_earns 31 = .ok (.iaload, 1) := by decide +kernel
theorem dX8_earns_32 : decode cX8_earns 32 = .ok (.aload_n 0, 1) := by decide +kernel
theorem dX8_earns_33 : decode cX8_earns 33 = .ok (.getfield 16, 3) := by decide +kernel
theorem dX8_earns_36 : decode cX8_earns 36 = .ok (.iload_n 1, 1) := by decide +kernel
theorem dX8_earns_37 : decode cX8_earns 37 = .ok (.iaload, 1) := by decide +kernel
theorem dX8_earns_38 : decode cX8_earns 38 = .ok (.if_icmp .ne 7, 3) := by decide +kernel
theorem dX8_earns_41 : decode cX8_earns 41 = .ok (.iconst 1, 1) := by decide +kernel
theorem dX8_earns_42 : decode cX8_earns 42 = .ok (.goto 4, 3) := by decide +kernel
theorem dX8_earns_45 : decode cX8_earns 45 = .ok (.iconst 0, 1) := by decide +kernel
theorem dX8_earns_46 : decode cX8_earns 46 = .ok (.iadd, 1) := by decide +kernel
theorem dX8_earns_47 : decode cX8_earns 47 = .ok (.istore_n 2, 1) := by decide +kernel
theorem dX8_earns_48 : decode cX8_earns 48 = .ok (.iinc 3 1, 3) := by decide +kernel
theorem dX8_earns_51 : decode cX8_earns 51 = .ok (.goto (-47), 3) := by decide +kernel
theorem dX8_earns_54 : decode cX8_earns 54 = .ok (.aload_n 0, 1) := by decide +kernel
theorem dX8_earns_55 : decode cX8_earns 55 = .ok (.getfield 16, 3) := by decide +kernel
theorem dX8_earns_58 : decode cX8_earns 58 = .ok (.iload_n 1, 1) := by decide +kernel
theorem dX8_earns_59 : decode cX8_earns 59 = .ok (.iaload, 1) := by decide +kernel
theorem dX8_earns_60 : decode cX8_earns 60 = .ok (.iconst (-1), 1) := by decide +kernel
theorem dX8_earns_61 : decode cX8_earns 61 = .ok (.if_icmp .ne 7, 3) := by decide +kernel
theorem dX8_earns_64 : decode cX8_earns 64 = .ok (.iconst 0, 1) := by decide +kernel
theorem dX8_earns_65 : decode cX8_earns 65 = .ok (.goto 8, 3) := by decide +kernel
theorem dX8_earns_68 : decode cX8_earns 68 = .ok (.iconst 1, 1) := by decide +kernel
theorem dX8_earns_69 : decode cX8_earns 69 = .ok (.iconst 2, 1) := by decide +kernel
theorem dX8_earns_70 : decode cX8_earns 70 = .ok (.iload_n 2, 1) := by decide +kernel
theorem dX8_earns_71 : decode cX8_earns 71 = .ok (.imul, 1) := by decide +kernel
theorem dX8_earns_72 : decode cX8_earns 72 = .ok (.iadd, 1) := by decide +kernel
theorem dX8_earns_73 : decode cX8_earns 73 = .ok (.ireturn, 1) := by decide +kernel
theorem dX8_laysKnown_0 : decode cX8_laysKnown 0 = .ok (.aload_n 0, 1) := by decide +kernel
theorem dX8_laysKnown_1 : decode cX8_laysKnown 1 = .ok (.invokevirtual 446, 3) := by decide +kernel
theorem dX8_laysKnown_4 : decode cX8_laysKnown 4 = .ok (.iconst 0, 1) := by decide +kernel
theorem dX8_laysKnown_5 : decode cX8_laysKnown 5 = .ok (.istore 4, 2) := by decide +kernel
theorem dX8_laysKnown_7 : decode cX8_laysKnown 7 = .ok (.iload 4, 2) := by decide +kernel
theorem dX8_laysKnown_9 : decode cX8_laysKnown 9 = .ok (.bipush 25, 2) := by decide +kernel
theorem dX8_laysKnown_11 : decode cX8_laysKnown 11 = .ok (.if_icmp .ge 107, 3) := by decide +kernel
theorem dX8_laysKnown_14 : decode cX8_laysKnown 14 = .ok (.aload_n 0, 1) := by decide +kernel
theorem dX8_laysKnown_15 : decode cX8_laysKnown 15 = .ok (.getfield 19, 3) := by decide +kernel
theorem dX8_laysKnown_18 : decode cX8_laysKnown 18 = .ok (.iload_n 1, 1) := by decide +kernel
theorem dX8_laysKnown_19 : decode cX8_laysKnown 19 = .ok (.iconst 1, 1) := by decide +kernel
theorem dX8_laysKnown_20 : decode cX8_laysKnown 20 = .ok (.iconst 2, 1) := by decide +kernel
theorem dX8_laysKnown_21 : decode cX8_laysKnown 21 = .ok (.iload 4, 2) := by decide +kernel
theorem dX8_laysKnown_23 : decode cX8_laysKnown 23 = .ok (.iconst 5, 1) := by decide +kernel
theorem dX8_laysKnown_24 : decode cX8_laysKnown 24 = .ok (.idiv, 1) := by decide +kernel
theorem dX8_laysKnown_25 : decode cX8_laysKnown 25 = .ok (.imul, 1) := by decide +kernel
theorem dX8_laysKnown_26 : decode cX8_laysKnown 26 = .ok (.iadd, 1) := by decide +kernel
theorem dX8_laysKnown_27 : decode cX8_laysKnown 27 = .ok (.iastore, 1) := by decide +kernel
theorem dX8_laysKnown_28 : decode cX8_laysKnown 28 = .ok (.aload_n 0, 1) := by decide +kernel
theorem dX8_laysKnown_29 : decode cX8_laysKnown 29 = .ok (.getfield 19, 3) := by decide +kernel
theorem dX8_laysKnown_32 : decode cX8_laysKnown 32 = .ok (.iload_n 2, 1) := by decide +kernel
theorem dX8_laysKnown_33 : decode cX8_laysKnown 33 = .ok (.iconst 1, 1) := by decide +kernel
theorem dX8_laysKnown_34 : decode cX8_laysKnown 34 = .ok (.iconst 2, 1) := by decide +kernel
theorem dX8_laysKnown_35 : decode cX8_laysKnown 35 = .ok (.iload 4, 2) := by decide +kernel
theorem dX8_laysKnown_37 : decode cX8_laysKnown 37 = .ok (.iconst 5, 1) := by decide +kernel
theorem dX8_laysKnown_38 : decode cX8_laysKnown 38 = .ok (.irem, 1) := by decide +kernel
theorem dX8_laysKnown_39 : decode cX8_laysKnown 39 = .ok (.imul, 1) := by decide +kernel
theorem dX8_laysKnown_40 : decode cX8_laysKnown 40 = .ok (.iadd, 1) := by decide +kernel
theorem dX8_laysKnown_41 : decode cX8_laysKnown 41 = .ok (.iastore, 1) := by decide +kernel
theorem dX8_laysKnown_42 : decode cX8_laysKnown 42 = .ok (.aload_n 0, 1) := by decide +kernel
theorem dX8_laysKnown_43 : decode cX8_laysKnown 43 = .ok (.getfield 139, 3) := by decide +kernel
theorem dX8_laysKnown_46 : decode cX8_laysKnown 46 = .ok (.iload 4, 2) := by decide +kernel
theorem dX8_laysKnown_48 : decode cX8_laysKnown 48 = .ok (.iconst 0, 1) := by decide +kernel
theorem dX8_laysKnown_49 : decode cX8_laysKnown 49 = .ok (.iastore, 1) := by decide +kernel
theorem dX8_laysKnown_50 : decode cX8_laysKnown 50 = .ok (.aload_n 0, 1) := by decide +kernel
theorem dX8_laysKnown_51 : decode cX8_laysKnown 51 = .ok (.getfield 142, 3) := by decide +kernel
theorem dX8_laysKnown_54 : decode cX8_laysKnown 54 = .ok (.iload 4, 2) := by decide +kernel
theorem dX8_laysKnown_56 : decode cX8_laysKnown 56 = .ok (.iconst 0, 1) := by decide +kernel
theorem dX8_laysKnown_57 : decode cX8_laysKnown 57 = .ok (.iastore, 1) := by decide +kernel
theorem dX8_laysKnown_58 : decode cX8_laysKnown 58 = .ok (.iconst 0, 1) := by decide +kernel
theorem dX8_laysKnown_59 : decode cX8_laysKnown 59 = .ok (.istore 5, 2) := by decide +kernel
theorem dX8_laysKnown_61 : decode cX8_laysKnown 61 = .ok (.iload 5, 2) := by decide +kernel
theorem dX8_laysKnown_63 : decode cX8_laysKnown 63 = .ok (.iload_n 3, 1) := by decide +kernel
theorem dX8_laysKnown_64 : decode cX8_laysKnown 64 = .ok (.if_icmp .ge 44, 3) := by decide +kernel
theorem dX8_laysKnown_67 : decode cX8_laysKnown 67 = .ok (.aload_n 0, 1) := by decide +kernel
theorem dX8_laysKnown_68 : decode cX8_laysKnown 68 = .ok (.invokevirtual 410, 3) := by decide +kernel
theorem dX8_laysKnown_71 : decode cX8_laysKnown 71 = .ok (.pop, 1) := by decide +kernel
theorem dX8_laysKnown_72 : decode cX8_laysKnown 72 = .ok (.aload_n 0, 1) := by decide +kernel
theorem dX8_laysKnown_73 : decode cX8_laysKnown 73 = .ok (.getfield 139, 3) := by decide +kernel
theorem dX8_laysKnown_76 : decode cX8_laysKnown 76 = .ok (.iload 4, 2) := by decide +kernel
theorem dX8_laysKnown_78 : decode cX8_laysKnown 78 = .ok (.dup2, 1) := by decide +kernel
theorem dX8_laysKnown_79 : decode cX8_laysKnown 79 = .ok (.iaload, 1) := by decide +kernel
theorem dX8_laysKnown_80 : decode cX8_laysKnown 80 = .ok (.aload_n 0, 1) := by decide +kernel
theorem dX8_laysKnown_81 : decode cX8_laysKnown 81 = .ok (.iload_n 1, 1) := by decide +kernel
theorem dX8_laysKnown_82 : decode cX8_laysKnown 82 = .ok (.invokevirtual 469, 3) := by decide +kernel
theorem dX8_laysKnown_85 : decode cX8_laysKnown 85 = .ok (.iadd, 1) := by decide +kernel
theorem dX8_laysKnown_86 : decode cX8_laysKnown 86 = .ok (.iastore, 1) := by decide +kernel
theorem dX8_laysKnown_87 : decode cX8_laysKnown 87 = .ok (.aload_n 0, 1) := by decide +kernel
theorem dX8_laysKnown_88 : decode cX8_laysKnown 88 = .ok (.getfield 142, 3) := by decide +kernel
theorem dX8_laysKnown_91 : decode cX8_laysKnown 91 = .ok (.iload 4, 2) := by decide +kernel
theorem dX8_laysKnown_93 : decode cX8_laysKnown 93 = .ok (.dup2, 1) := by decide +kernel
theorem dX8_laysKnown_94 : decode cX8_laysKnown 94 = .ok (.iaload, 1) := by decide +kernel
theorem dX8_laysKnown_95 : decode cX8_laysKnown 95 = .ok (.aload_n 0, 1) := by decide +kernel
theorem dX8_laysKnown_96 : decode cX8_laysKnown 96 = .ok (.iload_n 2, 1) := by decide +kernel
theorem dX8_laysKnown_97 : decode cX8_laysKnown 97 = .ok (.invokevirtual 469, 3) := by decide +kernel
theorem dX8_laysKnown_100 : decode cX8_laysKnown 100 = .ok (.iadd, 1) := by decide +kernel
theorem dX8_laysKnown_101 : decode cX8_laysKnown 101 = .ok (.iastore, 1) := by decide +kernel
theorem dX8_laysKnown_102 : decode cX8_laysKnown 102 = .ok (.iinc 5 1, 3) := by decide +kernel
theorem dX8_laysKnown_105 : decode cX8_laysKnown 105 = .ok (.goto (-44), 3) := by decide +kernel
theorem dX8_laysKnown_108 : decode cX8_laysKnown 108 = .ok (.aload_n 0, 1) := by decide +kernel
theorem dX8_laysKnown_109 : decode cX8_laysKnown 109 = .ok (.invokevirtual 456, 3) := by decide +kernel
theorem dX8_laysKnown_112 : decode cX8_laysKnown 112 = .ok (.iinc 4 1, 3) := by decide +kernel
theorem dX8_laysKnown_115 : decode cX8_laysKnown 115 = .ok (.goto (-108), 3) := by decide +kernel
theorem dX8_laysKnown_118 : decode cX8_laysKnown 118 = .ok (.return_, 1) := by decide +kernel
theorem dX8_isRest_0 : decode cX8_isRest 0 = .ok (.iconst 0, 1) := by decide +kernel
theorem dX8_isRest_1 : decode cX8_isRest 1 = .ok (.istore_n 2, 1) := by decide +kernel
theorem dX8_isRest_2 : decode cX8_isRest 2 = .ok (.iload_n 2, 1) := by decide +kernel
theorem dX8_isRest_3 : decode cX8_isRest 3 = .ok (.iconst 5, 1) := by decide +kernel
theorem dX8_isRest_4 : decode cX8_isRest 4 = .ok (.if_icmp .ge 53, 3) := by decide +kernel
theorem dX8_isRest_7 : decode cX8_isRest 7 = .ok (.aload_n 0, 1) := by decide +kernel
theorem dX8_isRest_8 : decode cX8_isRest 8 = .ok (.getfield 139, 3) := by decide +kernel
theorem dX8_isRest_11 : decode cX8_isRest 11 = .ok (.iconst 5, 1) := by decide +kernel
theorem dX8_isRest_12 : decode cX8_isRest 12 = .ok (.iload_n 2, 1) := by decide +kernel
theorem dX8_isRest_13 : decode cX8_isRest 13 = .ok (.imul, 1) := by decide +kernel
theorem dX8_isRest_14 : decode cX8_isRest 14 = .ok (.iload_n 1, 1) := by decide +kernel
theorem dX8_isRest_15 : decode cX8_isRest 15 = .ok (.iconst 5, 1) := by decide +kernel
theorem dX8_isRest_16 : decode cX8_isRest 16 = .ok (.irem, 1) := by decide +kernel
theorem dX8_isRest_17 : decode cX8_isRest 17 = .ok (.iadd, 1) := by decide +kernel
theorem dX8_isRest_18 : decode cX8_isRest 18 = .ok (.iaload, 1) := by decide +kernel
theorem dX8_isRest_19 : decode cX8_isRest 19 = .ok (.aload_n 0, 1) := by decide +kernel
theorem dX8_isRest_20 : decode cX8_isRest 20 = .ok (.getfield 139, 3) := by decide +kernel
theorem dX8_isRest_23 : decode cX8_isRest 23 = .ok (.iload_n 1, 1) := by decide +kernel
theorem dX8_isRest_24 : decode cX8_isRest 24 = .ok (.iaload, 1) := by decide +kernel
theorem dX8_isRest_25 : decode cX8_isRest 25 = .ok (.if_icmp .gt 24, 3) := by decide +kernel
theorem dX8_isRest_28 : decode cX8_isRest 28 = .ok (.aload_n 0, 1) := by decide +kernel
theorem dX8_isRest_29 : decode cX8_isRest 29 = .ok (.getfield 142, 3) := by decide +kernel
theorem dX8_isRest_32 : decode cX8_isRest 32 = .ok (.iload_n 1, 1) := by decide +kernel
theorem dX8_isRest_33 : decode cX8_isRest 33 = .ok (.iload_n 1, 1) := by decide +kernel
theorem dX8_isRest_34 : decode cX8_isRest 34 = .ok (.iconst 5, 1) := by decide +kernel
theorem dX8_isRest_35 : decode cX8_isRest 35 = .ok (.irem, 1) := by decide +kernel
theorem dX8_isRest_36 : decode cX8_isRest 36 = .ok (.isub, 1) := by decide +kernel
theorem dX8_isRest_37 : decode cX8_isRest 37 = .ok (.iload_n 2, 1) := by decide +kernel
theorem dX8_isRest_38 : decode cX8_isRest 38 = .ok (.iadd, 1) := by decide +kernel
theorem dX8_isRest_39 : decode cX8_isRest 39 = .ok (.iaload, 1) := by decide +kernel
theorem dX8_isRest_40 : decode cX8_isRest 40 = .ok (.aload_n 0, 1) := by decide +kernel
theorem dX8_isRest_41 : decode cX8_isRest 41 = .ok (.getfield 142, 3) := by decide +kernel
theorem dX8_isRest_44 : decode cX8_isRest 44 = .ok (.iload_n 1, 1) := by decide +kernel
theorem dX8_isRest_45 : decode cX8_isRest 45 = .ok (.iaload, 1) := by decide +kernel
theorem dX8_isRest_46 : decode cX8_isRest 46 = .ok (.if_icmp .le 5, 3) := by decide +kernel
theorem dX8_isRest_49 : decode cX8_isRest 49 = .ok (.iconst 0, 1) := by decide +kernel
theorem dX8_isRest_50 : decode cX8_isRest 50 = .ok (.ireturn, 1) := by decide +kernel
theorem dX8_isRest_51 : decode cX8_isRest 51 = .ok (.iinc 2 1, 3) := by decide +kernel
theorem dX8_isRest_54 : decode cX8_isRest 54 = .ok (.goto (-52), 3) := by decide +kernel
theorem dX8_isRest_57 : decode cX8_isRest 57 = .ok (.iconst 1, 1) := by decide +kernel
theorem dX8_isRest_58 : decode cX8_isRest 58 = .ok (.ireturn, 1) := by decide +kernel
theorem dX8_rests_0 : decode cX8_rests 0 = .ok (.aload_n 0, 1) := by decide +kernel
theorem dX8_rests_1 : decode cX8_rests 1 = .ok (.iload_n 1, 1) := by decide +kernel
theorem dX8_rests_2 : decode cX8_rests 2 = .ok (.invokevirtual 372, 3) := by decide +kernel
theorem dX8_rests_5 : decode cX8_rests 5 = .ok (.ifCond .eq 41, 3) := by decide +kernel
theorem dX8_rests_8 : decode cX8_rests 8 = .ok (.aload_n 0, 1) := by decide +kernel
theorem dX8_rests_9 : decode cX8_rests 9 = .ok (.iload_n 2, 1) := by decide +kernel
theorem dX8_rests_10 : decode cX8_rests 10 = .ok (.invokevirtual 372, 3) := by decide +kernel
theorem dX8_rests_13 : decode cX8_rests 13 = .ok (.ifCond .eq 33, 3) := by decide +kernel
theorem dX8_rests_16 : decode cX8_rests 16 = .ok (.iload_n 1, 1) := by decide +kernel
theorem dX8_rests_17 : decode cX8_rests 17 = .ok (.iload_n 2, 1) := by decide +kernel
theorem dX8_rests_18 : decode cX8_rests 18 = .ok (.if_icmp .eq 28, 3) := by decide +kernel
theorem dX8_rests_21 : decode cX8_rests 21 = .ok (.iload_n 3, 1) := by decide +kernel
theorem dX8_rests_22 : decode cX8_rests 22 = .ok (.i2l, 1) := by decide +kernel
theorem dX8_rests_23 : decode cX8_rests 23 = .ok (.lconst 1, 1) := by decide +kernel
theorem dX8_rests_24 : decode cX8_rests 24 = .ok (.ldc2_w 472, 3) := by decide +kernel
theorem dX8_rests_27 : decode cX8_rests 27 = .ok (.invokestatic 161, 3) := by decide +kernel
theorem dX8_rests_30 : decode cX8_rests 30 = .ok (.ifCond .eq 16, 3) := by decide +kernel
theorem dX8_rests_33 : decode cX8_rests 33 = .ok (.iload 4, 2) := by decide +kernel
theorem dX8_rests_35 : decode cX8_rests 35 = .ok (.i2l, 1) := by decide +kernel
theorem dX8_rests_36 : decode cX8_rests 36 = .ok (.lconst 0, 1) := by decide +kernel
theorem dX8_rests_37 : decode cX8_rests 37 = .ok (.ldc2_w 474, 3) := by decide +kernel
theorem dX8_rests_40 : decode cX8_rests 40 = .ok (.invokestatic 161, 3) := by decide +kernel
theorem dX8_rests_43 : decode cX8_rests 43 = .ok (.ifCond .ne 5, 3) := by decide +kernel
theorem dX8_rests_46 : decode cX8_rests 46 = .ok (.iconst (-1), 1) := by decide +kernel
theorem dX8_rests_47 : decode cX8_rests 47 = .ok (.ireturn, 1) := by decide +kernel
theorem dX8_rests_48 : decode cX8_rests 48 = .ok (.aload_n 0, 1) := by decide +kernel
theorem dX8_rests_49 : decode cX8_rests 49 = .ok (.iload_n 1, 1) := by decide +kernel
theorem dX8_rests_50 : decode cX8_rests 50 = .ok (.iload_n 2, 1) := by decide +kernel
theorem dX8_rests_51 : decode cX8_rests 51 = .ok (.iload_n 3, 1) := by decide +kernel
theorem dX8_rests_52 : decode cX8_rests 52 = .ok (.invokevirtual 476, 3) := by decide +kernel
theorem dX8_rests_55 : decode cX8_rests 55 = .ok (.iconst 0, 1) := by decide +kernel
theorem dX8_rests_56 : decode cX8_rests 56 = .ok (.istore 5, 2) := by decide +kernel
theorem dX8_rests_58 : decode cX8_rests 58 = .ok (.iconst (-1), 1) := by decide +kernel
theorem dX8_rests_59 : decode cX8_rests 59 = .ok (.istore 6, 2) := by decide +kernel
theorem dX8_rests_61 : decode cX8_rests 61 = .ok (.iconst 0, 1) := by decide +kernel
theorem dX8_rests_62 : decode cX8_rests 62 = .ok (.istore 7, 2) := by decide +kernel
theorem dX8_rests_64 : decode cX8_rests 64 = .ok (.iload 7, 2) := by decide +kernel
theorem dX8_rests_66 : decode cX8_rests 66 = .ok (.bipush 25, 2) := by decide +kernel
theorem dX8_rests_68 : decode cX8_rests 68 = .ok (.if_icmp .ge 35, 3) := by decide +kernel
theorem dX8_rests_71 : decode cX8_rests 71 = .ok (.aload_n 0, 1) := by decide +kernel
theorem dX8_rests_72 : decode cX8_rests 72 = .ok (.iload 7, 2) := by decide +kernel
theorem dX8_rests_74 : decode cX8_rests 74 = .ok (.invokevirtual 480, 3) := by decide +kernel
theorem dX8_rests_77 : decode cX8_rests 77 = .ok (.ifCond .eq 20, 3) := by decide +kernel
theorem dX8_rests_80 : decode cX8_rests 80 = .ok (.iload 5, 2) := by decide +kernel
theorem dX8_rests_82 : decode cX8_rests 82 = .ok (.ifCond .ne 8, 3) := by decide +kernel
theorem dX8_rests_85 : decode cX8_rests 85 = .ok (.iload 7, 2) := by decide +kernel
theorem dX8_rests_87 : decode cX8_rests 87 = .ok (.goto 5, 3) := by decide +kernel
theorem dX8_rests_90 : decode cX8_rests 90 = .ok (.iload 6, 2) := by decide +kernel
theorem dX8_rests_92 : decode cX8_rests 92 = .ok (.istore 6, 2) := by decide +kernel
theorem dX8_rests_94 : decode cX8_rests 94 = .ok (.iinc 5 1, 3) := by decide +kernel
theorem dX8_rests_97 : decode cX8_rests 97 = .ok (.iinc 7 1, 3) := by decide +kernel
theorem dX8_rests_100 : decode cX8_rests 100 = .ok (.goto (-36), 3) := by decide +kernel
theorem dX8_rests_103 : decode cX8_rests 103 = .ok (.iload 4, 2) := by decide +kernel
theorem dX8_rests_105 : decode cX8_rests 105 = .ok (.ifCond .ne 6, 3) := by decide +kernel
theorem dX8_rests_108 : decode cX8_rests 108 = .ok (.iload 5, 2) := by decide +kernel
theorem dX8_rests_110 : decode cX8_rests 110 = .ok (.ireturn, 1) := by decide +kernel
theorem dX8_rests_111 : decode cX8_rests 111 = .ok (.iload 6, 2) := by decide +kernel
theorem dX8_rests_113 : decode cX8_rests 113 = .ok (.iconst (-1), 1) := by decide +kernel
theorem dX8_rests_114 : decode cX8_rests 114 = .ok (.if_icmp .ne 8, 3) := by decide +kernel
theorem dX8_rests_117 : decode cX8_rests 117 = .ok (.bipush (-2), 2) := by decide +kernel
theorem dX8_rests_119 : decode cX8_rests 119 = .ok (.goto 24, 3) := by decide +kernel
theorem dX8_rests_122 : decode cX8_rests 122 = .ok (.iconst 1, 1) := by decide +kernel
theorem dX8_rests_123 : decode cX8_rests 123 = .ok (.iconst 2, 1) := by decide +kernel
theorem dX8_rests_124 : decode cX8_rests 124 = .ok (.iload 4, 2) := by decide +kernel
theorem dX8_rests_126 : decode cX8_rests 126 = .ok (.iconst 1, 1) := by decide +kernel
theorem dX8_rests_127 : decode cX8_rests 127 = .ok (.if_icmp .ne 10, 3) := by decide +kernel
theorem dX8_rests_130 : decode cX8_rests 130 = .ok (.iload 6, 2) := by decide +kernel
theorem dX8_rests_132 : decode cX8_rests 132 = .ok (.iconst 5, 1) := by decide +kernel
theorem dX8_rests_133 : decode cX8_rests 133 = .ok (.idiv, 1) := by decide +kernel
theorem dX8_rests_134 : decode cX8_rests 134 = .ok (.goto 7, 3) := by decide +kernel
theorem dX8_rests_137 : decode cX8_rests 137 = .ok (.iload 6, 2) := by decide +kernel
theorem dX8_rests_139 : decode cX8_rests 139 = .ok (.iconst 5, 1) := by decide +kernel
theorem dX8_rests_140 : decode cX8_rests 140 = .ok (.irem, 1) := by decide +kernel
theorem dX8_rests_141 : decode cX8_rests 141 = .ok (.imul, 1) := by decide +kernel
theorem dX8_rests_142 : decode cX8_rests 142 = .ok (.iadd, 1) := by decide +kernel
theorem dX8_rests_143 : decode cX8_rests 143 = .ok (.ireturn, 1) := by decide +kernel
theorem dX8_laysAll_0 : decode cX8_laysAll 0 = .ok (.iconst 0, 1) := by decide +kernel
theorem dX8_laysAll_1 : decode cX8_laysAll 1 = .ok (.istore_n 1, 1) := by decide +kernel
theorem dX8_laysAll_2 : decode cX8_laysAll 2 = .ok (.iload_n 1, 1) := by decide +kernel
theorem dX8_laysAll_3 : decode cX8_laysAll 3 = .ok (.bipush 60, 2) := by decide +kernel
theorem dX8_laysAll_5 : decode cX8_laysAll 5 = .ok (.if_icmp .gt 63, 3) := by decide +kernel
theorem dX8_laysAll_8 : decode cX8_laysAll 8 = .ok (.iconst 0, 1) := by decide +kernel
theorem dX8_laysAll_9 : decode cX8_laysAll 9 = .ok (.istore_n 2, 1) := by decide +kernel
theorem dX8_laysAll_10 : decode cX8_laysAll 10 = .ok (.iload_n 2, 1) := by decide +kernel
theorem dX8_laysAll_11 : decode cX8_laysAll 11 = .ok (.iconst 3, 1) := by decide +kernel
theorem dX8_laysAll_12 : decode cX8_laysAll 12 = .ok (.if_icmp .ge 45, 3) := by decide +kernel
theorem dX8_laysAll_15 : decode cX8_laysAll 15 = .ok (.aload_n 0, 1) := by decide +kernel
theorem dX8_laysAll_16 : decode cX8_laysAll 16 = .ok (.getfield 145, 3) := by decide +kernel
theorem dX8_laysAll_19 : decode cX8_laysAll 19 = .ok (.bipush 6, 2) := by decide +kernel
theorem dX8_laysAll_21 : decode cX8_laysAll 21 = .ok (.iload_n 1, 1) := by decide +kernel
theorem dX8_laysAll_22 : decode cX8_laysAll 22 = .ok (.imul, 1) := by decide +kernel
theorem dX8_laysAll_23 : decode cX8_laysAll 23 = .ok (.iload_n 2, 1) := by decide +kernel
theorem dX8_laysAll_24 : decode cX8_laysAll 24 = .ok (.iadd, 1) := by decide +kernel
theorem dX8_laysAll_25 : decode cX8_laysAll 25 = .ok (.aload_n 0, 1) := by decide +kernel
theorem dX8_laysAll_26 : decode cX8_laysAll 26 = .ok (.getfield 16, 3) := by decide +kernel
theorem dX8_laysAll_29 : decode cX8_laysAll 29 = .ok (.iload_n 2, 1) := by decide +kernel
theorem dX8_laysAll_30 : decode cX8_laysAll 30 = .ok (.iaload, 1) := by decide +kernel
theorem dX8_laysAll_31 : decode cX8_laysAll 31 = .ok (.iastore, 1) := by decide +kernel
theorem dX8_laysAll_32 : decode cX8_laysAll 32 = .ok (.aload_n 0, 1) := by decide +kernel
theorem dX8_laysAll_33 : decode cX8_laysAll 33 = .ok (.getfield 145, 3) := by decide +kernel
theorem dX8_laysAll_36 : decode cX8_laysAll 36 = .ok (.bipush 6, 2) := by decide +kernel
theorem dX8_laysAll_38 : decode cX8_laysAll 38 = .ok (.iload_n 1, 1) := by decide +kernel
theorem dX8_laysAll_39 : decode cX8_laysAll 39 = .ok (.imul, 1) := by decide +kernel
theorem dX8_laysAll_40 : decode cX8_laysAll 40 = .ok (.iconst 3, 1) := by decide +kernel
theorem dX8_laysAll_41 : decode cX8_laysAll 41 = .ok (.iadd, 1) := by decide +kernel
theorem dX8_laysAll_42 : decode cX8_laysAll 42 = .ok (.iload_n 2, 1) := by decide +kernel
theorem dX8_laysAll_43 : decode cX8_laysAll 43 = .ok (.iadd, 1) := by decide +kernel
theorem dX8_laysAll_44 : decode cX8_laysAll 44 = .ok (.aload_n 0, 1) := by decide +kernel
theorem dX8_laysAll_45 : decode cX8_laysAll 45 = .ok (.getfield 13, 3) := by decide +kernel
theorem dX8_laysAll_48 : decode cX8_laysAll 48 = .ok (.iload_n 2, 1) := by decide +kernel
theorem dX8_laysAll_49 : decode cX8_laysAll 49 = .ok (.iaload, 1) := by decide +kernel
theorem dX8_laysAll_50 : decode cX8_laysAll 50 = .ok (.iastore, 1) := by decide +kernel
theorem dX8_laysAll_51 : decode cX8_laysAll 51 = .ok (.iinc 2 1, 3) := by decide +kernel
theorem dX8_laysAll_54 : decode cX8_laysAll 54 = .ok (.goto (-44), 3) := by decide +kernel
theorem dX8_laysAll_57 : decode cX8_laysAll 57 = .ok (.aload_n 0, 1) := by decide +kernel
theorem dX8_laysAll_58 : decode cX8_laysAll 58 = .ok (.invokevirtual 410, 3) := by decide +kernel
theorem dX8_laysAll_61 : decode cX8_laysAll 61 = .ok (.pop, 1) := by decide +kernel
theorem dX8_laysAll_62 : decode cX8_laysAll 62 = .ok (.iinc 1 1, 3) := by decide +kernel
theorem dX8_laysAll_65 : decode cX8_laysAll 65 = .ok (.goto (-63), 3) := by decide +kernel
theorem dX8_laysAll_68 : decode cX8_laysAll 68 = .ok (.return_, 1) := by decide +kernel
theorem dX8_isAlike_0 : decode cX8_isAlike 0 = .ok (.iconst 0, 1) := by decide +kernel
theorem dX8_isAlike_1 : decode cX8_isAlike 1 = .ok (.istore_n 3, 1) := by decide +kernel
theorem dX8_isAlike_2 : decode cX8_isAlike 2 = .ok (.iload_n 3, 1) := by decide +kernel
theorem dX8_isAlike_3 : decode cX8_isAlike 3 = .ok (.aload_n 0, 1) := by decide +kernel
theorem dX8_isAlike_4 : decode cX8_isAlike 4 = .ok (.getfield 9, 3) := by decide +kernel
theorem dX8_isAlike_7 : decode cX8_isAlike 7 = .ok (.iconst 3, 1) := by decide +kernel
theorem dX8_isAlike_8 : decode cX8_isAlike 8 = .ok (.iaload, 1) := by decide +kernel
theorem dX8_isAlike_9 : decode cX8_isAlike 9 = .ok (.if_icmp .ge 37, 3) := by decide +kernel
theorem dX8_isAlike_12 : decode cX8_isAlike 12 = .ok (.aload_n 0, 1) := by decide +kernel
theorem dX8_isAlike_13 : decode cX8_isAlike 13 = .ok (.getfield 9, 3) := by decide +kernel
theorem dX8_isAlike_16 : decode cX8_isAlike 16 = .ok (.iconst 5, 1) := by decide +kernel
theorem dX8_isAlike_17 : decode cX8_isAlike 17 = .ok (.iaload, 1) := by decide +kernel
theorem dX8_isAlike_18 : decode cX8_isAlike 18 = .ok (.iload_n 3, 1) := by decide +kernel
theorem dX8_isAlike_19 : decode cX8_isAlike 19 = .ok (.invokestatic 356, 3) := by decide +kernel
theorem dX8_isAlike_22 : decode cX8_isAlike 22 = .ok (.ifCond .ne 18, 3) := by decide +kernel
theorem dX8_isAlike_25 : decode cX8_isAlike 25 = .ok (.iload_n 2, 1) := by decide +kernel
theorem dX8_isAlike_26 : decode cX8_isAlike 26 = .ok (.iload_n 1, 1) := by decide +kernel
theorem dX8_isAlike_27 : decode cX8_isAlike 27 = .ok (.isub, 1) := by decide +kernel
theorem dX8_isAlike_28 : decode cX8_isAlike 28 = .ok (.aload_n 0, 1) := by decide +kernel
theorem dX8_isAlike_29 : decode cX8_isAlike 29 = .ok (.getfield 40, 3) := by decide +kernel
theorem dX8_isAlike_32 : decode cX8_isAlike 32 = .ok (.iload_n 3, 1) := by decide +kernel
theorem dX8_isAlike_33 : decode cX8_isAlike 33 = .ok (.iaload, 1) := by decide +kernel
theorem dX8_isAlike_34 : decode cX8_isAlike 34 = .ok (.irem, 1) := by decide +kernel
theorem dX8_isAlike_35 : decode cX8_isAlike 35 = .ok (.ifCond .eq 5, 3) := by decide +kernel
theorem dX8_isAlike_38 : decode cX8_isAlike 38 = .ok (.iconst 0, 1) := by decide +kernel
theorem dX8_isAlike_39 : decode cX8_isAlike 39 = .ok (.ireturn, 1) := by decide +kernel
theorem dX8_isAlike_40 : decode cX8_isAlike 40 = .ok (.iinc 3 1, 3) := by decide +kernel
theorem dX8_isAlike_43 : decode cX8_isAlike 43 = .ok (.goto (-41), 3) := by decide +kernel
theorem dX8_isAlike_46 : decode cX8_isAlike 46 = .ok (.iconst 0, 1) := by decide +kernel
theorem dX8_isAlike_47 : decode cX8_isAlike 47 = .ok (.istore_n 3, 1) := by decide +kernel
theorem dX8_isAlike_48 : decode cX8_isAlike 48 = .ok (.iload_n 3, 1) := by decide +kernel
theorem dX8_isAlike_49 : decode cX8_isAlike 49 = .ok (.aload_n 0, 1) := by decide +kernel
theorem dX8_isAlike_50 : decode cX8_isAlike 50 = .ok (.getfield 9, 3) := by decide +kernel
theorem dX8_isAlike_53 : decode cX8_isAlike 53 = .ok (.iconst 2, 1) := by decide +kernel
theorem dX8_isAlike_54 : decode cX8_isAlike 54 = .ok (.iaload, 1) := by decide +kernel
theorem dX8_isAlike_55 : decode cX8_isAlike 55 = .ok (.if_icmp .ge 65, 3) := by decide +kernel
theorem dX8_isAlike_58 : decode cX8_isAlike 58 = .ok (.aload_n 0, 1) := by decide +kernel
theorem dX8_isAlike_59 : decode cX8_isAlike 59 = .ok (.getfield 145, 3) := by decide +kernel
theorem dX8_isAlike_62 : decode cX8_isAlike 62 = .ok (.bipush 6, 2) := by decide +kernel
theorem dX8_isAlike_64 : decode cX8_isAlike 64 = .ok (.iload_n 1, 1) := by decide +kernel
theorem dX8_isAlike_65 : decode cX8_isAlike 65 = .ok (.imul, 1) := by decide +kernel
theorem dX8_isAlike_66 : decode cX8_isAlike 66 = .ok (.iload_n 3, 1) := by decide +kernel
theorem dX8_isAlike_67 : decode cX8_isAlike 67 = .ok (.iadd, 1) := by decide +kernel
theorem dX8_isAlike_68 : decode cX8_isAlike 68 = .ok (.iaload, 1) := by decide +kernel
theorem dX8_isAlike_69 : decode cX8_isAlike 69 = .ok (.aload_n 0, 1) := by decide +kernel
theorem dX8_isAlike_70 : decode cX8_isAlike 70 = .ok (.getfield 145, 3) := by decide +kernel
theorem dX8_isAlike_73 : decode cX8_isAlike 73 = .ok (.bipush 6, 2) := by decide +kernel
theorem dX8_isAlike_75 : decode cX8_isAlike 75 = .ok (.iload_n 2, 1) := by decide +kernel
theorem dX8_isAlike_76 : decode cX8_isAlike 76 = .ok (.imul, 1) := by decide +kernel
theorem dX8_isAlike_77 : decode cX8_isAlike 77 = .ok (.iload_n 3, 1) := by decide +kernel
theorem dX8_isAlike_78 : decode cX8_isAlike 78 = .ok (.iadd, 1) := by decide +kernel
theorem dX8_isAlike_79 : decode cX8_isAlike 79 = .ok (.iaload, 1) := by decide +kernel
theorem dX8_isAlike_80 : decode cX8_isAlike 80 = .ok (.if_icmp .ne 32, 3) := by decide +kernel
theorem dX8_isAlike_83 : decode cX8_isAlike 83 = .ok (.aload_n 0, 1) := by decide +kernel
theorem dX8_isAlike_84 : decode cX8_isAlike 84 = .ok (.getfield 145, 3) := by decide +kernel
theorem dX8_isAlike_87 : decode cX8_isAlike 87 = .ok (.bipush 6, 2) := by decide +kernel
theorem dX8_isAlike_89 : decode cX8_isAlike 89 = .ok (.iload_n 1, 1) := by decide +kernel
theorem dX8_isAlike_90 : decode cX8_isAlike 90 = .ok (.imul, 1) := by decide +kernel
theorem dX8_isAlike_91 : decode cX8_isAlike 91 = .ok (.iconst 3, 1) := by decide +kernel
theorem dX8_isAlike_92 : decode cX8_isAlike 92 = .ok (.iadd, 1) := by decide +kernel
theorem dX8_isAlike_93 : decode cX8_isAlike 93 = .ok (.iload_n 3, 1) := by decide +kernel
theorem dX8_isAlike_94 : decode cX8_isAlike 94 = .ok (.iadd, 1) := by decide +kernel
theorem dX8_isAlike_95 : decode cX8_isAlike 95 = .ok (.iaload, 1) := by decide +kernel
theorem dX8_isAlike_96 : decode cX8_isAlike 96 = .ok (.aload_n 0, 1) := by decide +kernel
theorem dX8_isAlike_97 : decode cX8_isAlike 97 = .ok (.getfield 145, 3) := by decide +kernel
theorem dX8_isAlike_100 : decode cX8_isAlike 100 = .ok (.bipush 6, 2) := by decide +kernel
theorem dX8_isAlike_102 : decode cX8_isAlike 102 = .ok (.iload_n 2, 1) := by decide +kernel
theorem dX8_isAlike_103 : decode cX8_isAlike 103 = .ok (.imul, 1) := by decide +kernel
theorem dX8_isAlike_104 : decode cX8_isAlike 104 = .ok (.iconst 3, 1) := by decide +kernel
theorem dX8_isAlike_105 : decode cX8_isAlike 105 = .ok (.iadd, 1) := by decide +kernel
theorem dX8_isAlike_106 : decode cX8_isAlike 106 = .ok (.iload_n 3, 1) := by decide +kernel
theorem dX8_isAlike_107 : decode cX8_isAlike 107 = .ok (.iadd, 1) := by decide +kernel
theorem dX8_isAlike_108 : decode cX8_isAlike 108 = .ok (.iaload, 1) := by decide +kernel
theorem dX8_isAlike_109 : decode cX8_isAlike 109 = .ok (.if_icmp .eq 5, 3) := by decide +kernel
theorem dX8_isAlike_112 : decode cX8_isAlike 112 = .ok (.iconst 0, 1) := by decide +kernel
theorem dX8_isAlike_113 : decode cX8_isAlike 113 = .ok (.ireturn, 1) := by decide +kernel
theorem dX8_isAlike_114 : decode cX8_isAlike 114 = .ok (.iinc 3 1, 3) := by decide +kernel
theorem dX8_isAlike_117 : decode cX8_isAlike 117 = .ok (.goto (-69), 3) := by decide +kernel
theorem dX8_isAlike_120 : decode cX8_isAlike 120 = .ok (.iconst 1, 1) := by decide +kernel
theorem dX8_isAlike_121 : decode cX8_isAlike 121 = .ok (.ireturn, 1) := by decide +kernel
theorem dX8_ring_0 : decode cX8_ring 0 = .ok (.aload_n 0, 1) := by decide +kernel
theorem dX8_ring_1 : decode cX8_ring 1 = .ok (.invokevirtual 431, 3) := by decide +kernel
theorem dX8_ring_4 : decode cX8_ring 4 = .ok (.ifCond .eq 13, 3) := by decide +kernel
theorem dX8_ring_7 : decode cX8_ring 7 = .ok (.iload_n 1, 1) := by decide +kernel
theorem dX8_ring_8 : decode cX8_ring 8 = .ok (.i2l, 1) := by decide +kernel
theorem dX8_ring_9 : decode cX8_ring 9 = .ok (.lconst 0, 1) := by decide +kernel
theorem dX8_ring_10 : decode cX8_ring 10 = .ok (.lconst 1, 1) := by decide +kernel
theorem dX8_ring_11 : decode cX8_ring 11 = .ok (.invokestatic 161, 3) := by decide +kernel
theorem dX8_ring_14 : decode cX8_ring 14 = .ok (.ifCond .ne 5, 3) := by decide +kernel
theorem dX8_ring_17 : decode cX8_ring 17 = .ok (.iconst (-1), 1) := by decide +kernel
theorem dX8_ring_18 : decode cX8_ring 18 = .ok (.ireturn, 1) := by decide +kernel
theorem dX8_ring_19 : decode cX8_ring 19 = .ok (.aload_n 0, 1) := by decide +kernel
theorem dX8_ring_20 : decode cX8_ring 20 = .ok (.invokevirtual 446, 3) := by decide +kernel
theorem dX8_ring_23 : decode cX8_ring 23 = .ok (.aload_n 0, 1) := by decide +kernel
theorem dX8_ring_24 : decode cX8_ring 24 = .ok (.invokevirtual 483, 3) := by decide +kernel
theorem dX8_ring_27 : decode cX8_ring 27 = .ok (.aload_n 0, 1) := by decide +kernel
theorem dX8_ring_28 : decode cX8_ring 28 = .ok (.invokevirtual 456, 3) := by decide +kernel
theorem dX8_ring_31 : decode cX8_ring 31 = .ok (.iconst 0, 1) := by decide +kernel
theorem dX8_ring_32 : decode cX8_ring 32 = .ok (.istore_n 2, 1) := by decide +kernel
theorem dX8_ring_33 : decode cX8_ring 33 = .ok (.iload_n 2, 1) := by decide +kernel
theorem dX8_ring_34 : decode cX8_ring 34 = .ok (.bipush 60, 2) := by decide +kernel
theorem dX8_ring_36 : decode cX8_ring 36 = .ok (.if_icmp .ge 53, 3) := by decide +kernel
theorem dX8_ring_39 : decode cX8_ring 39 = .ok (.iload_n 2, 1) := by decide +kernel
theorem dX8_ring_40 : decode cX8_ring 40 = .ok (.iconst 1, 1) := by decide +kernel
theorem dX8_ring_41 : decode cX8_ring 41 = .ok (.iadd, 1) := by decide +kernel
theorem dX8_ring_42 : decode cX8_ring 42 = .ok (.istore_n 3, 1) := by decide +kernel
theorem dX8_ring_43 : decode cX8_ring 43 = .ok (.iload_n 3, 1) := by decide +kernel
theorem dX8_ring_44 : decode cX8_ring 44 = .ok (.bipush 60, 2) := by decide +kernel
theorem dX8_ring_46 : decode cX8_ring 46 = .ok (.if_icmp .gt 37, 3) := by decide +kernel
theorem dX8_ring_49 : decode cX8_ring 49 = .ok (.aload_n 0, 1) := by decide +kernel
theorem dX8_ring_50 : decode cX8_ring 50 = .ok (.iload_n 2, 1) := by decide +kernel
theorem dX8_ring_51 : decode cX8_ring 51 = .ok (.iload_n 3, 1) := by decide +kernel
theorem dX8_ring_52 : decode cX8_ring 52 = .ok (.invokevirtual 486, 3) := by decide +kernel
theorem dX8_ring_55 : decode cX8_ring 55 = .ok (.ifCond .eq 22, 3) := by decide +kernel
theorem dX8_ring_58 : decode cX8_ring 58 = .ok (.iload_n 1, 1) := by decide +kernel
theorem dX8_ring_59 : decode cX8_ring 59 = .ok (.ifCond .ne 14, 3) := by decide +kernel
theorem dX8_ring_62 : decode cX8_ring 62 = .ok (.aload_n 0, 1) := by decide +kernel
theorem dX8_ring_63 : decode cX8_ring 63 = .ok (.getfield 9, 3) := by decide +kernel
theorem dX8_ring_66 : decode cX8_ring 66 = .ok (.iconst 4, 1) := by decide +kernel
theorem dX8_ring_67 : decode cX8_ring 67 = .ok (.iaload, 1) := by decide +kernel
theorem dX8_ring_68 : decode cX8_ring 68 = .ok (.iload_n 2, 1) := by decide +kernel
theorem dX8_ring_69 : decode cX8_ring 69 = .ok (.iadd, 1) := by decide +kernel
theorem dX8_ring_70 : decode cX8_ring 70 = .ok (.goto 6, 3) := by decide +kernel
theorem dX8_ring_73 : decode cX8_ring 73 = .ok (.iload_n 3, 1) := by decide +kernel
theorem dX8_ring_74 : decode cX8_ring 74 = .ok (.iload_n 2, 1) := by decide +kernel
theorem dX8_ring_75 : decode cX8_ring 75 = .ok (.isub, 1) := by decide +kernel
theorem dX8_ring_76 : decode cX8_ring 76 = .ok (.ireturn, 1) := by decide +kernel
theorem dX8_ring_77 : decode cX8_ring 77 = .ok (.iinc 3 1, 3) := by decide +kernel
theorem dX8_ring_80 : decode cX8_ring 80 = .ok (.goto (-37), 3) := by decide +kernel
theorem dX8_ring_83 : decode cX8_ring 83 = .ok (.iinc 2 1, 3) := by decide +kernel
theorem dX8_ring_86 : decode cX8_ring 86 = .ok (.goto (-53), 3) := by decide +kernel
theorem dX8_ring_89 : decode cX8_ring 89 = .ok (.bipush (-2), 2) := by decide +kernel
theorem dX8_ring_91 : decode cX8_ring 91 = .ok (.ireturn, 1) := by decide +kernel
theorem dX8_worthOf_0 : decode cX8_worthOf 0 = .ok (.aload_n 0, 1) := by decide +kernel
theorem dX8_worthOf_1 : decode cX8_worthOf 1 = .ok (.getfield 31, 3) := by decide +kernel
theorem dX8_worthOf_4 : decode cX8_worthOf 4 = .ok (.iload_n 1, 1) := by decide +kernel
theorem dX8_worthOf_5 : decode cX8_worthOf 5 = .ok (.iaload, 1) := by decide +kernel
theorem dX8_worthOf_6 : decode cX8_worthOf 6 = .ok (.i2l, 1) := by decide +kernel
theorem dX8_worthOf_7 : decode cX8_worthOf 7 = .ok (.aload_n 0, 1) := by decide +kernel
theorem dX8_worthOf_8 : decode cX8_worthOf 8 = .ok (.iload_n 1, 1) := by decide +kernel
theorem dX8_worthOf_9 : decode cX8_worthOf 9 = .ok (.invokevirtual 363, 3) := by decide +kernel
theorem dX8_worthOf_12 : decode cX8_worthOf 12 = .ok (.i2l, 1) := by decide +kernel
theorem dX8_worthOf_13 : decode cX8_worthOf 13 = .ok (.lmul, 1) := by decide +kernel
theorem dX8_worthOf_14 : decode cX8_worthOf 14 = .ok (.lreturn, 1) := by decide +kernel
theorem dX8_pence_0 : decode cX8_pence 0 = .ok (.aload_n 0, 1) := by decide +kernel
theorem dX8_pence_1 : decode cX8_pence 1 = .ok (.iload_n 2, 1) := by decide +kernel
theorem dX8_pence_2 : decode cX8_pence 2 = .ok (.invokevirtual 359, 3) := by decide +kernel
theorem dX8_pence_5 : decode cX8_pence 5 = .ok (.ifCond .eq 15, 3) := by decide +kernel
theorem dX8_pence_8 : decode cX8_pence 8 = .ok (.iload_n 1, 1) := by decide +kernel
theorem dX8_pence_9 : decode cX8_pence 9 = .ok (.i2l, 1) := by decide +kernel
theorem dX8_pence_10 : decode cX8_pence 10 = .ok (.lconst 0, 1) := by decide +kernel
theorem dX8_pence_11 : decode cX8_pence 11 = .ok (.ldc2_w 489, 3) := by decide +kernel
theorem dX8_pence_14 : decode cX8_pence 14 = .ok (.invokestatic 161, 3) := by decide +kernel
theorem dX8_pence_17 : decode cX8_pence 17 = .ok (.ifCond .ne 5, 3) := by decide +kernel
theorem dX8_pence_20 : decode cX8_pence 20 = .ok (.iconst (-1), 1) := by decide +kernel
theorem dX8_pence_21 : decode cX8_pence 21 = .ok (.ireturn, 1) := by decide +kernel
theorem dX8_pence_22 : decode cX8_pence 22 = .ok (.lconst 0, 1) := by decide +kernel
theorem dX8_pence_23 : decode cX8_pence 23 = .ok (.lstore_n 3, 1) := by decide +kernel
theorem dX8_pence_24 : decode cX8_pence 24 = .ok (.iconst 0, 1) := by decide +kernel
theorem dX8_pence_25 : decode cX8_pence 25 = .ok (.istore 5, 2) := by decide +kernel
theorem dX8_pence_27 : decode cX8_pence 27 = .ok (.iload 5, 2) := by decide +kernel
theorem dX8_pence_29 : decode cX8_pence 29 = .ok (.aload_n 0, 1) := by decide +kernel
theorem dX8_pence_30 : decode cX8_pence 30 = .ok (.getfield 9, 3) := by decide +kernel
theorem dX8_pence_33 : decode cX8_pence 33 = .ok (.iconst 1, 1) := by decide +kernel
theorem dX8_pence_34 : decode cX8_pence 34 = .ok (.iaload, 1) := by decide +kernel
theorem dX8_pence_35 : decode cX8_pence 35 = .ok (.if_icmp .ge 18, 3) := by decide +kernel
theorem dX8_pence_38 : decode cX8_pence 38 = .ok (.lload_n 3, 1) := by decide +kernel
theorem dX8_pence_39 : decode cX8_pence 39 = .ok (.aload_n 0, 1) := by decide +kernel
theorem dX8_pence_40 : decode cX8_pence 40 = .ok (.iload 5, 2) := by decide +kernel
theorem dX8_pence_42 : decode cX8_pence 42 = .ok (.invokevirtual 491, 3) := by decide +kernel
theorem dX8_pence_45 : decode cX8_pence 45 = .ok (.ladd, 1) := by decide +kernel
theorem dX8_pence_46 : decode cX8_pence 46 = .ok (.lstore_n 3, 1) := by decide +kernel
theorem dX8_pence_47 : decode cX8_pence 47 = .ok (.iinc 5 1, 3) := by decide +kernel
theorem dX8_pence_50 : decode cX8_pence 50 = .ok (.goto (-23), 3) := by decide +kernel
theorem dX8_pence_53 : decode cX8_pence 53 = .ok (.lload_n 3, 1) := by decide +kernel
theorem dX8_pence_54 : decode cX8_pence 54 = .ok (.lconst 0, 1) := by decide +kernel
theorem dX8_pence_55 : decode cX8_pence 55 = .ok (.lcmp, 1) := by decide +kernel
theorem dX8_pence_56 : decode cX8_pence 56 = .ok (.ifCond .ne 5, 3) := by decide +kernel
theorem dX8_pence_59 : decode cX8_pence 59 = .ok (.iconst 0, 1) := by decide +kernel
theorem dX8_pence_60 : decode cX8_pence 60 = .ok (.ireturn, 1) := by decide +kernel
theorem dX8_pence_61 : decode cX8_pence 61 = .ok (.iload_n 1, 1) := by decide +kernel
theorem dX8_pence_62 : decode cX8_pence 62 = .ok (.i2l, 1) := by decide +kernel
theorem dX8_pence_63 : decode cX8_pence 63 = .ok (.lstore 5, 2) := by decide +kernel
theorem dX8_pence_65 : decode cX8_pence 65 = .ok (.iconst 0, 1) := by decide +kernel
theorem dX8_pence_66 : decode cX8_pence 66 = .ok (.istore 7, 2) := by decide +kernel
theorem dX8_pence_68 : decode cX8_pence 68 = .ok (.iload_n 1, 1) := by decide +kernel
theorem dX8_pence_69 : decode cX8_pence 69 = .ok (.i2l, 1) := by decide +kernel
theorem dX8_pence_70 : decode cX8_pence 70 = .ok (.aload_n 0, 1) := by decide +kernel
theorem dX8_pence_71 : decode cX8_pence 71 = .ok (.iload_n 2, 1) := by decide +kernel
theorem dX8_pence_72 : decode cX8_pence 72 = .ok (.invokevirtual 491, 3) := by decide +kernel
theorem dX8_pence_75 : decode cX8_pence 75 = .ok (.lmul, 1) := by decide +kernel
theorem dX8_pence_76 : decode cX8_pence 76 = .ok (.lstore 8, 2) := by decide +kernel
theorem dX8_pence_78 : decode cX8_pence 78 = .ok (.iconst 0, 1) := by decide +kernel
theorem dX8_pence_79 : decode cX8_pence 79 = .ok (.istore 10, 2) := by decide +kernel
theorem dX8_pence_81 : decode cX8_pence 81 = .ok (.iload 10, 2) := by decide +kernel
theorem dX8_pence_83 : decode cX8_pence 83 = .ok (.aload_n 0, 1) := by decide +kernel
theorem dX8_pence_84 : decode cX8_pence 84 = .ok (.getfield 9, 3) := by decide +kernel
theorem dX8_pence_87 : decode cX8_pence 87 = .ok (.iconst 1, 1) := by decide +kernel
theorem dX8_pence_88 : decode cX8_pence 88 = .ok (.iaload, 1) := by decide +kernel
theorem dX8_pence_89 : decode cX8_pence 89 = .ok (.if_icmp .ge 70, 3) := by decide +kernel
theorem dX8_pence_92 : decode cX8_pence 92 = .ok (.iload_n 1, 1) := by decide +kernel
theorem dX8_pence_93 : decode cX8_pence 93 = .ok (.i2l, 1) := by decide +kernel
theorem dX8_pence_94 : decode cX8_pence 94 = .ok (.aload_n 0, 1) := by decide +kernel
theorem dX8_pence_95 : decode cX8_pence 95 = .ok (.iload 10, 2) := by decide +kernel
theorem dX8_pence_97 : decode cX8_pence 97 = .ok (.invokevirtual 491, 3) := by decide +kernel
theorem dX8_pence_100 : decode cX8_pence 100 = .ok (.lmul, 1) := by decide +kernel
theorem dX8_pence_101 : decode cX8_pence 101 = .ok (.lstore 11, 2) := by decide +kernel
theorem dX8_pence_103 : decode cX8_pence 103 = .ok (.lload 5, 2) := by decide +kernel
theorem dX8_pence_105 : decode cX8_pence 105 = .ok (.lload 11, 2) := by decide +kernel
theorem dX8_pence_107 : decode cX8_pence 107 = .ok (.lload_n 3, 1) := by decide +kernel
theorem dX8_pence_108 : decode cX8_pence 108 = .ok (.ldiv, 1) := by decide +kernel
theorem dX8_pence_109 : decode cX8_pence 109 = .ok (.lsub, 1) := by decide +kernel
theorem dX8_pence_110 : decode cX8_pence 110 = .ok (.lstore 5, 2) := by decide +kernel
theorem dX8_pence_112 : decode cX8_pence 112 = .ok (.lload 11, 2) := by decide +kernel
theorem dX8_pence_114 : decode cX8_pence 114 = .ok (.lload_n 3, 1) := by decide +kernel
theorem dX8_pence_115 : decode cX8_pence 115 = .ok (.lrem, 1) := by decide +kernel
theorem dX8_pence_116 : decode cX8_pence 116 = .ok (.lload 8, 2) := by decide +kernel
theorem dX8_pence_118 : decode cX8_pence 118 = .ok (.lload_n 3, 1) := by decide +kernel
theorem dX8_pence_119 : decode cX8_pence 119 = .ok (.lrem, 1) := by decide +kernel
theorem dX8_pence_120 : decode cX8_pence 120 = .ok (.lsub, 1) := by decide +kernel
theorem dX8_pence_121 : decode cX8_pence 121 = .ok (.lstore 13, 2) := by decide +kernel
theorem dX8_pence_123 : decode cX8_pence 123 = .ok (.iload 7, 2) := by decide +kernel
theorem dX8_pence_125 : decode cX8_pence 125 = .ok (.lload 13, 2) := by decide +kernel
theorem dX8_pence_127 : decode cX8_pence 127 = .ok (.lconst 0, 1) := by decide +kernel
theorem dX8_pence_128 : decode cX8_pence 128 = .ok (.lcmp, 1) := by decide +kernel
theorem dX8_pence_129 : decode cX8_pence 129 = .ok (.ifCond .gt 16, 3) := by decide +kernel
theorem dX8_pence_132 : decode cX8_pence 132 = .ok (.lload 13, 2) := by decide +kernel
theorem dX8_pence_134 : decode cX8_pence 134 = .ok (.lconst 0, 1) := by decide +kernel
theorem dX8_pence_135 : decode cX8_pence 135 = .ok (.lcmp, 1) := by decide +kernel
theorem dX8_pence_136 : decode cX8_pence 136 = .ok (.ifCond .ne 13, 3) := by decide +kernel
theorem dX8_pence_139 : decode cX8_pence 139 = .ok (.iload 10, 2) := by decide +kernel
theorem dX8_pence_141 : decode cX8_pence 141 = .ok (.iload_n 2, 1) := by decide +kernel
theorem dX8_pence_142 : decode cX8_pence 142 = .ok (.if_icmp .ge 7, 3) := by decide +kernel
theorem dX8_pence_145 : decode cX8_pence 145 = .ok (.iconst 1, 1) := by decide +kernel
theorem dX8_pence_146 : decode cX8_pence 146 = .ok (.goto 4, 3) := by decide +kernel
theorem dX8_pence_149 : decode cX8_pence 149 = .ok (.iconst 0, 1) := by decide +kernel
theorem dX8_pence_150 : decode cX8_pence 150 = .ok (.iadd, 1) := by decide +kernel
theorem dX8_pence_151 : decode cX8_pence 151 = .ok (.istore 7, 2) := by decide +kernel
theorem dX8_pence_153 : decode cX8_pence 153 = .ok (.iinc 10 1, 3) := by decide +kernel
theorem dX8_pence_156 : decode cX8_pence 156 = .ok (.goto (-75), 3) := by decide +kernel
theorem dX8_pence_159 : decode cX8_pence 159 = .ok (.lload 8, 2) := by decide +kernel
theorem dX8_pence_161 : decode cX8_pence 161 = .ok (.lload_n 3, 1) := by decide +kernel
theorem dX8_pence_162 : decode cX8_pence 162 = .ok (.ldiv, 1) := by decide +kernel
theorem dX8_pence_163 : decode cX8_pence 163 = .ok (.l2i, 1) := by decide +kernel
theorem dX8_pence_164 : decode cX8_pence 164 = .ok (.iload 7, 2) := by decide +kernel
theorem dX8_pence_166 : decode cX8_pence 166 = .ok (.i2l, 1) := by decide +kernel
theorem dX8_pence_167 : decode cX8_pence 167 = .ok (.lload 5, 2) := by decide +kernel
theorem dX8_pence_169 : decode cX8_pence 169 = .ok (.lcmp, 1) := by decide +kernel
theorem dX8_pence_170 : decode cX8_pence 170 = .ok (.ifCond .ge 7, 3) := by decide +kernel
theorem dX8_pence_173 : decode cX8_pence 173 = .ok (.iconst 1, 1) := by decide +kernel
theorem dX8_pence_174 : decode cX8_pence 174 = .ok (.goto 4, 3) := by decide +kernel
theorem dX8_pence_177 : decode cX8_pence 177 = .ok (.iconst 0, 1) := by decide +kernel
theorem dX8_pence_178 : decode cX8_pence 178 = .ok (.iadd, 1) := by decide +kernel
theorem dX8_pence_179 : decode cX8_pence 179 = .ok (.ireturn, 1) := by decide +kernel
theorem dX8_note_0 : decode cX8_note 0 = .ok (.iload_n 1, 1) := by decide +kernel
theorem dX8_note_1 : decode cX8_note 1 = .ok (.iconst (-1), 1) := by decide +kernel
theorem dX8_note_2 : decode cX8_note 2 = .ok (.if_icmp .ne 13, 3) := by decide +kernel
theorem dX8_note_5 : decode cX8_note 5 = .ok (.aload_n 0, 1) := by decide +kernel
theorem dX8_note_6 : decode cX8_note 6 = .ok (.getfield 9, 3) := by decide +kernel
theorem dX8_note_9 : decode cX8_note 9 = .ok (.bipush 6, 2) := by decide +kernel
theorem dX8_note_11 : decode cX8_note 11 = .ok (.iconst 0, 1) := by decide +kernel
theorem dX8_note_12 : decode cX8_note 12 = .ok (.iastore, 1) := by decide +kernel
theorem dX8_note_13 : decode cX8_note 13 = .ok (.iconst 0, 1) := by decide +kernel
theorem dX8_note_14 : decode cX8_note 14 = .ok (.ireturn, 1) := by decide +kernel
theorem dX8_note_15 : decode cX8_note 15 = .ok (.aload_n 0, 1) := by decide +kernel
theorem dX8_note_16 : decode cX8_note 16 = .ok (.getfield 9, 3) := by decide +kernel
theorem dX8_note_19 : decode cX8_note 19 = .ok (.bipush 6, 2) := by decide +kernel
theorem dX8_note_21 : decode cX8_note 21 = .ok (.iaload, 1) := by decide +kernel
theorem dX8_note_22 : decode cX8_note 22 = .ok (.istore 4, 2) := by decide +kernel
theorem dX8_note_24 : decode cX8_note 24 = .ok (.iload_n 1, 1) := by decide +kernel
theorem dX8_note_25 : decode cX8_note 25 = .ok (.i2l, 1) := by decide +kernel
theorem dX8_note_26 : decode cX8_note 26 = .ok (.lconst 0, 1) := by decide +kernel
theorem dX8_note_27 : decode cX8_note 27 = .ok (.ldc2_w 459, 3) := by decide +kernel
theorem dX8_note_30 : decode cX8_note 30 = .ok (.invokestatic 161, 3) := by decide +kernel
theorem dX8_note_33 : decode cX8_note 33 = .ok (.ifCond .eq 31, 3) := by decide +kernel
theorem dX8_note_36 : decode cX8_note 36 = .ok (.aload_n 0, 1) := by decide +kernel
theorem dX8_note_37 : decode cX8_note 37 = .ok (.iload_n 2, 1) := by decide +kernel
theorem dX8_note_38 : decode cX8_note 38 = .ok (.invokevirtual 372, 3) := by decide +kernel
theorem dX8_note_41 : decode cX8_note 41 = .ok (.ifCond .eq 23, 3) := by decide +kernel
theorem dX8_note_44 : decode cX8_note 44 = .ok (.iload_n 3, 1) := by decide +kernel
theorem dX8_note_45 : decode cX8_note 45 = .ok (.iconst (-1), 1) := by decide +kernel
theorem dX8_note_46 : decode cX8_note 46 = .ok (.if_icmp .eq 11, 3) := by decide +kernel
theorem dX8_note_49 : decode cX8_note 49 = .ok (.aload_n 0, 1) := by decide +kernel
theorem dX8_note_50 : decode cX8_note 50 = .ok (.iload_n 3, 1) := by decide +kernel
theorem dX8_note_51 : decode cX8_note 51 = .ok (.invokevirtual 359, 3) := by decide +kernel
theorem dX8_note_54 : decode cX8_note 54 = .ok (.ifCond .eq 10, 3) := by decide +kernel
theorem dX8_note_57 : decode cX8_note 57 = .ok (.iload 4, 2) := by decide +kernel
theorem dX8_note_59 : decode cX8_note 59 = .ok (.bipush 10, 2) := by decide +kernel
theorem dX8_note_61 : decode cX8_note 61 = .ok (.if_icmp .ne 6, 3) := by decide +kernel
theorem dX8_note_64 : decode cX8_note 64 = .ok (.bipush (-2), 2) := by decide +kernel
theorem dX8_note_66 : decode cX8_note 66 = .ok (.ireturn, 1) := by decide +kernel
theorem dX8_note_67 : decode cX8_note 67 = .ok (.aload_n 0, 1) := by decide +kernel
theorem dX8_note_68 : decode cX8_note 68 = .ok (.getfield 46, 3) := by decide +kernel
theorem dX8_note_71 : decode cX8_note 71 = .ok (.iload 4, 2) := by decide +kernel
theorem dX8_note_73 : decode cX8_note 73 = .ok (.iload_n 1, 1) := by decide +kernel
theorem dX8_note_74 : decode cX8_note 74 = .ok (.iastore, 1) := by decide +kernel
theorem dX8_note_75 : decode cX8_note 75 = .ok (.aload_n 0, 1) := by decide +kernel
theorem dX8_note_76 : decode cX8_note 76 = .ok (.getfield 49, 3) := by decide +kernel
theorem dX8_note_79 : decode cX8_note 79 = .ok (.iload 4, 2) := by decide +kernel
theorem dX8_note_81 : decode cX8_note 81 = .ok (.iload_n 2, 1) := by decide +kernel
theorem dX8_note_82 : decode cX8_note 82 = .ok (.iastore, 1) := by decide +kernel
theorem dX8_note_83 : decode cX8_note 83 = .ok (.aload_n 0, 1) := by decide +kernel
theorem dX8_note_84 : decode cX8_note 84 = .ok (.getfield 52, 3) := by decide +kernel
theorem dX8_note_87 : decode cX8_note 87 = .ok (.iload 4, 2) := by decide +kernel
theorem dX8_note_89 : decode cX8_note 89 = .ok (.iload_n 3, 1) := by decide +kernel
theorem dX8_note_90 : decode cX8_note 90 = .ok (.iastore, 1) := by decide +kernel
theorem dX8_note_91 : decode cX8_note 91 = .ok (.aload_n 0, 1) := by decide +kernel
theorem dX8_note_92 : decode cX8_note 92 = .ok (.getfield 9, 3) := by decide +kernel
theorem dX8_note_95 : decode cX8_note 95 = .ok (.bipush 6, 2) := by decide +kernel
theorem dX8_note_97 : decode cX8_note 97 = .ok (.dup2, 1) := by decide +kernel
theorem dX8_note_98 : decode cX8_note 98 = .ok (.iaload, 1) := by decide +kernel
theorem dX8_note_99 : decode cX8_note 99 = .ok (.iconst 1, 1) := by decide +kernel
theorem dX8_note_100 : decode cX8_note 100 = .ok (.iadd, 1) := by decide +kernel
theorem dX8_note_101 : decode cX8_note 101 = .ok (.iastore, 1) := by decide +kernel
theorem dX8_note_102 : decode cX8_note 102 = .ok (.iload 4, 2) := by decide +kernel
theorem dX8_note_104 : decode cX8_note 104 = .ok (.iconst 1, 1) := by decide +kernel
theorem dX8_note_105 : decode cX8_note 105 = .ok (.iadd, 1) := by decide +kernel
theorem dX8_note_106 : decode cX8_note 106 = .ok (.ireturn, 1) := by decide +kernel
theorem dX8_doNotesFit_0 : decode cX8_doNotesFit 0 = .ok (.aload_n 0, 1) := by decide +kernel
theorem dX8_doNotesFit_1 : decode cX8_doNotesFit 1 = .ok (.invokevirtual 483, 3) := by decide +kernel
theorem dX8_doNotesFit_4 : decode cX8_doNotesFit 4 = .ok (.aload_n 0, 1) := by decide +kernel
theorem dX8_doNotesFit_5 : decode cX8_doNotesFit 5 = .ok (.invokevirtual 456, 3) := by decide +kernel
theorem dX8_doNotesFit_8 : decode cX8_doNotesFit 8 = .ok (.iconst 0, 1) := by decide +kernel
theorem dX8_doNotesFit_9 : decode cX8_doNotesFit 9 = .ok (.istore_n 1, 1) := by decide +kernel
theorem dX8_doNotesFit_10 : decode cX8_doNotesFit 10 = .ok (.iload_n 1, 1) := by decide +kernel
theorem dX8_doNotesFit_11 : decode cX8_doNotesFit 11 = .ok (.aload_n 0, 1) := by decide +kernel
theorem dX8_doNotesFit_12 : decode cX8_doNotesFit 12 = .ok (.getfield 9, 3) := by decide +kernel
theorem dX8_doNotesFit_15 : decode cX8_doNotesFit 15 = .ok (.bipush 6, 2) := by decide +kernel
theorem dX8_doNotesFit_17 : decode cX8_doNotesFit 17 = .ok (.iaload, 1) := by decide +kernel
theorem dX8_doNotesFit_18 : decode cX8_doNotesFit 18 = .ok (.if_icmp .ge 41, 3) := by decide +kernel
theorem dX8_doNotesFit_21 : decode cX8_doNotesFit 21 = .ok (.aload_n 0, 1) := by decide +kernel
theorem dX8_doNotesFit_22 : decode cX8_doNotesFit 22 = .ok (.getfield 145, 3) := by decide +kernel
theorem dX8_doNotesFit_25 : decode cX8_doNotesFit 25 = .ok (.bipush 6, 2) := by decide +kernel
theorem dX8_doNotesFit_27 : decode cX8_doNotesFit 27 = .ok (.aload_n 0, 1) := by decide +kernel
theorem dX8_doNotesFit_28 : decode cX8_doNotesFit 28 = .ok (.getfield 46, 3) := by decide +kernel
theorem dX8_doNotesFit_31 : decode cX8_doNotesFit 31 = .ok (.iload_n 1, 1) := by decide +kernel
theorem dX8_doNotesFit_32 : decode cX8_doNotesFit 32 = .ok (.iaload, 1) := by decide +kernel
theorem dX8_doNotesFit_33 : decode cX8_doNotesFit 33 = .ok (.imul, 1) := by decide +kernel
theorem dX8_doNotesFit_34 : decode cX8_doNotesFit 34 = .ok (.aload_n 0, 1) := by decide +kernel
theorem dX8_doNotesFit_35 : decode cX8_doNotesFit 35 = .ok (.getfield 49, 3) := by decide +kernel
theorem dX8_doNotesFit_38 : decode cX8_doNotesFit 38 = .ok (.iload_n 1, 1) := by decide +kernel
theorem dX8_doNotesFit_39 : decode cX8_doNotesFit 39 = .ok (.iaload, 1) := by decide +kernel
theorem dX8_doNotesFit_40 : decode cX8_doNotesFit 40 = .ok (.iadd, 1) := by decide +kernel
theorem dX8_doNotesFit_41 : decode cX8_doNotesFit 41 = .ok (.iaload, 1) := by decide +kernel
theorem dX8_doNotesFit_42 : decode cX8_doNotesFit 42 = .ok (.aload_n 0, 1) := by decide +kernel
theorem dX8_doNotesFit_43 : decode cX8_doNotesFit 43 = .ok (.getfield 52, 3) := by decide +kernel
theorem dX8_doNotesFit_46 : decode cX8_doNotesFit 46 = .ok (.iload_n 1, 1) := by decide +kernel
theorem dX8_doNotesFit_47 : decode cX8_doNotesFit 47 = .ok (.iaload, 1) := by decide +kernel
theorem dX8_doNotesFit_48 : decode cX8_doNotesFit 48 = .ok (.if_icmp .eq 5, 3) := by decide +kernel
theorem dX8_doNotesFit_51 : decode cX8_doNotesFit 51 = .ok (.iconst 0, 1) := by decide +kernel
theorem dX8_doNotesFit_52 : decode cX8_doNotesFit 52 = .ok (.ireturn, 1) := by decide +kernel
theorem dX8_doNotesFit_53 : decode cX8_doNotesFit 53 = .ok (.iinc 1 1, 3) := by decide +kernel
theorem dX8_doNotesFit_56 : decode cX8_doNotesFit 56 = .ok (.goto (-46), 3) := by decide +kernel
theorem dX8_doNotesFit_59 : decode cX8_doNotesFit 59 = .ok (.iconst 1, 1) := by decide +kernel
theorem dX8_doNotesFit_60 : decode cX8_doNotesFit 60 = .ok (.ireturn, 1) := by decide +kernel
theorem dX8_couldRule_0 : decode cX8_couldRule 0 = .ok (.aload_n 0, 1) := by decide +kernel
theorem dX8_couldRule_1 : decode cX8_couldRule 1 = .ok (.getfield 9, 3) := by decide +kernel
theorem dX8_couldRule_4 : decode cX8_couldRule 4 = .ok (.bipush 8, 2) := by decide +kernel
theorem dX8_couldRule_6 : decode cX8_couldRule 6 = .ok (.iload_n 1, 1) := by decide +kernel
theorem dX8_couldRule_7 : decode cX8_couldRule 7 = .ok (.iastore, 1) := by decide +kernel
theorem dX8_couldRule_8 : decode cX8_couldRule 8 = .ok (.aload_n 0, 1) := by decide +kernel
theorem dX8_couldRule_9 : decode cX8_couldRule 9 = .ok (.invokevirtual 320, 3) := by decide +kernel
theorem dX8_couldRule_12 : decode cX8_couldRule 12 = .ok (.aload_n 0, 1) := by decide +kernel
theorem dX8_couldRule_13 : decode cX8_couldRule 13 = .ok (.invokevirtual 495, 3) := by decide +kernel
theorem dX8_couldRule_16 : decode cX8_couldRule 16 = .ok (.ireturn, 1) := by decide +kernel
theorem dX8_ruled_0 : decode cX8_ruled 0 = .ok (.aload_n 0, 1) := by decide +kernel
theorem dX8_ruled_1 : decode cX8_ruled 1 = .ok (.invokevirtual 431, 3) := by decide +kernel
theorem dX8_ruled_4 : decode cX8_ruled 4 = .ok (.ifCond .eq 13, 3) := by decide +kernel
theorem dX8_ruled_7 : decode cX8_ruled 7 = .ok (.iload_n 1, 1) := by decide +kernel
theorem dX8_ruled_8 : decode cX8_ruled 8 = .ok (.i2l, 1) := by decide +kernel
theorem dX8_ruled_9 : decode cX8_ruled 9 = .ok (.lconst 0, 1) := by decide +kernel
theorem dX8_ruled_10 : decode cX8_ruled 10 = .ok (.lconst 1, 1) := by decide +kernel
theorem dX8_ruled_11 : decode cX8_ruled 11 = .ok (.invokestatic 161, 3) := by decide +kernel
theorem dX8_ruled_14 : decode cX8_ruled 14 = .ok (.ifCond .ne 6, 3) := by decide +kernel
theorem dX8_ruled_17 : decode cX8_ruled 17 = .ok (.bipush (-3), 2) := by decide +kernel
theorem dX8_ruled_19 : decode cX8_ruled 19 = .ok (.ireturn, 1) := by decide +kernel
theorem dX8_ruled_20 : decode cX8_ruled 20 = .ok (.aload_n 0, 1) := by decide +kernel
theorem dX8_ruled_21 : decode cX8_ruled 21 = .ok (.invokevirtual 446, 3) := by decide +kernel
theorem dX8_ruled_24 : decode cX8_ruled 24 = .ok (.iconst 0, 1) := by decide +kernel
theorem dX8_ruled_25 : decode cX8_ruled 25 = .ok (.istore_n 2, 1) := by decide +kernel
theorem dX8_ruled_26 : decode cX8_ruled 26 = .ok (.bipush (-2), 2) := by decide +kernel
theorem dX8_ruled_28 : decode cX8_ruled 28 = .ok (.istore_n 3, 1) := by decide +kernel
theorem dX8_ruled_29 : decode cX8_ruled 29 = .ok (.iconst (-1), 1) := by decide +kernel
theorem dX8_ruled_30 : decode cX8_ruled 30 = .ok (.istore 4, 2) := by decide +kernel
theorem dX8_ruled_32 : decode cX8_ruled 32 = .ok (.iload 4, 2) := by decide +kernel
theorem dX8_ruled_34 : decode cX8_ruled 34 = .ok (.aload_n 0, 1) := by decide +kernel
theorem dX8_ruled_35 : decode cX8_ruled 35 = .ok (.getfield 336, 3) := by decide +kernel
theorem dX8_ruled_38 : decode cX8_ruled 38 = .ok (.if_icmp .ge 32, 3) := by decide +kernel
theorem dX8_ruled_41 : decode cX8_ruled 41 = .ok (.aload_n 0, 1) := by decide +kernel
theorem dX8_ruled_42 : decode cX8_ruled 42 = .ok (.iload 4, 2) := by decide +kernel
theorem dX8_ruled_44 : decode cX8_ruled 44 = .ok (.invokevirtual 498, 3) := by decide +kernel
theorem dX8_ruled_47 : decode cX8_ruled 47 = .ok (.ifCond .eq 17, 3) := by decide +kernel
theorem dX8_ruled_50 : decode cX8_ruled 50 = .ok (.iload_n 2, 1) := by decide +kernel
theorem dX8_ruled_51 : decode cX8_ruled 51 = .ok (.ifCond .ne 8, 3) := by decide +kernel
theorem dX8_ruled_54 : decode cX8_ruled 54 = .ok (.iload 4, 2) := by decide +kernel
theorem dX8_ruled_56 : decode cX8_ruled 56 = .ok (.goto 4, 3) := by decide +kernel
theorem dX8_ruled_59 : decode cX8_ruled 59 = .ok (.iload_n 3, 1) := by decide +kernel
theorem dX8_ruled_60 : decode cX8_ruled 60 = .ok (.istore_n 3, 1) := by decide +kernel
theorem dX8_ruled_61 : decode cX8_ruled 61 = .ok (.iinc 2 1, 3) := by decide +kernel
theorem dX8_ruled_64 : decode cX8_ruled 64 = .ok (.iinc 4 1, 3) := by decide +kernel
theorem dX8_ruled_67 : decode cX8_ruled 67 = .ok (.goto (-35), 3) := by decide +kernel
theorem dX8_ruled_70 : decode cX8_ruled 70 = .ok (.iload_n 1, 1) := by decide +kernel
theorem dX8_ruled_71 : decode cX8_ruled 71 = .ok (.ifCond .ne 7, 3) := by decide +kernel
theorem dX8_ruled_74 : decode cX8_ruled 74 = .ok (.iload_n 2, 1) := by decide +kernel
theorem dX8_ruled_75 : decode cX8_ruled 75 = .ok (.goto 4, 3) := by decide +kernel
theorem dX8_ruled_78 : decode cX8_ruled 78 = .ok (.iload_n 3, 1) := by decide +kernel
theorem dX8_ruled_79 : decode cX8_ruled 79 = .ok (.ireturn, 1) := by decide +kernel
theorem dX8_knowing_0 : decode cX8_knowing 0 = .ok (.aload_n 0, 1) := by decide +kernel
theorem dX8_knowing_1 : decode cX8_knowing 1 = .ok (.iload_n 1, 1) := by decide +kernel
theorem dX8_knowing_2 : decode cX8_knowing 2 = .ok (.invokevirtual 372, 3) := by decide +kernel
theorem dX8_knowing_5 : decode cX8_knowing 5 = .ok (.ifCond .eq 13, 3) := by decide +kernel
theorem dX8_knowing_8 : decode cX8_knowing 8 = .ok (.iload_n 2, 1) := by decide +kernel
theorem dX8_knowing_9 : decode cX8_knowing 9 = .ok (.i2l, 1) := by decide +kernel
theorem dX8_knowing_10 : decode cX8_knowing 10 = .ok (.lconst 0, 1) := by decide +kernel
theorem dX8_knowing_11 : decode cX8_knowing 11 = .ok (.lconst 1, 1) := by decide +kernel
theorem dX8_knowing_12 : decode cX8_knowing 12 = .ok (.invokestatic 161, 3) := by decide +kernel
theorem dX8_knowing_15 : decode cX8_knowing 15 = .ok (.ifCond .ne 5, 3) := by decide +kernel
theorem dX8_knowing_18 : decode cX8_knowing 18 = .ok (.iconst (-1), 1) := by decide +kernel
theorem dX8_knowing_19 : decode cX8_knowing 19 = .ok (.ireturn, 1) := by decide +kernel
theorem dX8_knowing_20 : decode cX8_knowing 20 = .ok (.aload_n 0, 1) := by decide +kernel
theorem dX8_knowing_21 : decode cX8_knowing 21 = .ok (.invokevirtual 446, 3) := by decide +kernel
theorem dX8_knowing_24 : decode cX8_knowing 24 = .ok (.iconst 0, 1) := by decide +kernel
theorem dX8_knowing_25 : decode cX8_knowing 25 = .ok (.istore_n 3, 1) := by decide +kernel
theorem dX8_knowing_26 : decode cX8_knowing 26 = .ok (.bipush (-2), 2) := by decide +kernel
theorem dX8_knowing_28 : decode cX8_knowing 28 = .ok (.istore 4, 2) := by decide +kernel
theorem dX8_knowing_30 : decode cX8_knowing 30 = .ok (.iconst 1, 1) := by decide +kernel
theorem dX8_knowing_31 : decode cX8_knowing 31 = .ok (.istore 5, 2) := by decide +kernel
theorem dX8_knowing_33 : decode cX8_knowing 33 = .ok (.iload 5, 2) := by decide +kernel
theorem dX8_knowing_35 : decode cX8_knowing 35 = .ok (.bipush 9, 2) := by decide +kernel
theorem dX8_knowing_37 : decode cX8_knowing 37 = .ok (.if_icmp .gt 44, 3) := by decide +kernel
theorem dX8_knowing_40 : decode cX8_knowing 40 = .ok (.aload_n 0, 1) := by decide +kernel
theorem dX8_knowing_41 : decode cX8_knowing 41 = .ok (.invokevirtual 320, 3) := by decide +kernel
theorem dX8_knowing_44 : decode cX8_knowing 44 = .ok (.aload_n 0, 1) := by decide +kernel
theorem dX8_knowing_45 : decode cX8_knowing 45 = .ok (.getfield 19, 3) := by decide +kernel
theorem dX8_knowing_48 : decode cX8_knowing 48 = .ok (.iload_n 1, 1) := by decide +kernel
theorem dX8_knowing_49 : decode cX8_knowing 49 = .ok (.iload 5, 2) := by decide +kernel
theorem dX8_knowing_51 : decode cX8_knowing 51 = .ok (.iastore, 1) := by decide +kernel
theorem dX8_knowing_52 : decode cX8_knowing 52 = .ok (.aload_n 0, 1) := by decide +kernel
theorem dX8_knowing_53 : decode cX8_knowing 53 = .ok (.invokevirtual 495, 3) := by decide +kernel
theorem dX8_knowing_56 : decode cX8_knowing 56 = .ok (.ifCond .eq 19, 3) := by decide +kernel
theorem dX8_knowing_59 : decode cX8_knowing 59 = .ok (.iload_n 3, 1) := by decide +kernel
theorem dX8_knowing_60 : decode cX8_knowing 60 = .ok (.ifCond .ne 8, 3) := by decide +kernel
theorem dX8_knowing_63 : decode cX8_knowing 63 = .ok (.iload 5, 2) := by decide +kernel
theorem dX8_knowing_65 : decode cX8_knowing 65 = .ok (.goto 5, 3) := by decide +kernel
theorem dX8_knowing_68 : decode cX8_knowing 68 = .ok (.iload 4, 2) := by decide +kernel
theorem dX8_knowing_70 : decode cX8_knowing 70 = .ok (.istore 4, 2) := by decide +kernel
theorem dX8_knowing_72 : decode cX8_knowing 72 = .ok (.iinc 3 1, 3) := by decide +kernel
theorem dX8_knowing_75 : decode cX8_knowing 75 = .ok (.iinc 5 1, 3) := by decide +kernel
theorem dX8_knowing_78 : decode cX8_knowing 78 = .ok (.goto (-45), 3) := by decide +kernel
theorem dX8_knowing_81 : decode cX8_knowing 81 = .ok (.iload_n 2, 1) := by decide +kernel
theorem dX8_knowing_82 : decode cX8_knowing 82 = .ok (.ifCond .ne 7, 3) := by decide +kernel
theorem dX8_knowing_85 : decode cX8_knowing 85 = .ok (.iload_n 3, 1) := by decide +kernel
theorem dX8_knowing_86 : decode cX8_knowing 86 = .ok (.goto 5, 3) := by decide +kernel
theorem dX8_knowing_89 : decode cX8_knowing 89 = .ok (.iload 4, 2) := by decide +kernel
theorem dX8_knowing_91 : decode cX8_knowing 91 = .ok (.ireturn, 1) := by decide +kernel
theorem dX8_mostAlike_0 : decode cX8_mostAlike 0 = .ok (.iconst 0, 1) := by decide +kernel
theorem dX8_mostAlike_1 : decode cX8_mostAlike 1 = .ok (.istore_n 3, 1) := by decide +kernel
theorem dX8_mostAlike_2 : decode cX8_mostAlike 2 = .ok (.iconst 0, 1) := by decide +kernel
theorem dX8_mostAlike_3 : decode cX8_mostAlike 3 = .ok (.istore 4, 2) := by decide +kernel
theorem dX8_mostAlike_5 : decode cX8_mostAlike 5 = .ok (.iload 4, 2) := by decide +kernel
theorem dX8_mostAlike_7 : decode cX8_mostAlike 7 = .ok (.iload_n 2, 1) := by decide +kernel
theorem dX8_mostAlike_8 : decode cX8_mostAlike 8 = .ok (.if_icmp .ge 75, 3) := by decide +kernel
theorem dX8_mostAlike_11 : decode cX8_mostAlike 11 = .ok (.iconst 0, 1) := by decide +kernel
theorem dX8_mostAlike_12 : decode cX8_mostAlike 12 = .ok (.istore 5, 2) := by decide +kernel
theorem dX8_mostAlike_14 : decode cX8_mostAlike 14 = .ok (.iconst 0, 1) := by decide +kernel
theorem dX8_mostAlike_15 : decode cX8_mostAlike 15 = .ok (.istore 6, 2) := by decide +kernel
theorem dX8_mostAlike_17 : decode cX8_mostAlike 17 = .ok (.iload 6, 2) := by decide +kernel
theorem dX8_mostAlike_19 : decode cX8_mostAlike 19 = .ok (.iload_n 2, 1) := by decide +kernel
theorem dX8_mostAlike_20 : decode cX8_mostAlike 20 = .ok (.if_icmp .ge 44, 3) := by decide +kernel
theorem dX8_mostAlike_23 : decode cX8_mostAlike 23 = .ok (.iload 5, 2) := by decide +kernel
theorem dX8_mostAlike_25 : decode cX8_mostAlike 25 = .ok (.aload_n 0, 1) := by decide +kernel
theorem dX8_mostAlike_26 : decode cX8_mostAlike 26 = .ok (.getfield 148, 3) := by decide +kernel
theorem dX8_mostAlike_29 : decode cX8_mostAlike 29 = .ok (.iconst 3, 1) := by decide +kernel
theorem dX8_mostAlike_30 : decode cX8_mostAlike 30 = .ok (.iload 6, 2) := by decide +kernel
theorem dX8_mostAlike_32 : decode cX8_mostAlike 32 = .ok (.imul, 1) := by decide +kernel
theorem dX8_mostAlike_33 : decode cX8_mostAlike 33 = .ok (.iload_n 1, 1) := by decide +kernel
theorem dX8_mostAlike_34 : decode cX8_mostAlike 34 = .ok (.iadd, 1) := by decide +kernel
theorem dX8_mostAlike_35 : decode cX8_mostAlike 35 = .ok (.iaload, 1) := by decide +kernel
theorem dX8_mostAlike_36 : decode cX8_mostAlike 36 = .ok (.aload_n 0, 1) := by decide +kernel
theorem dX8_mostAlike_37 : decode cX8_mostAlike 37 = .ok (.getfield 148, 3) := by decide +kernel
theorem dX8_mostAlike_40 : decode cX8_mostAlike 40 = .ok (.iconst 3, 1) := by decide +kernel
theorem dX8_mostAlike_41 : decode cX8_mostAlike 41 = .ok (.iload 4, 2) := by decide +kernel
theorem dX8_mostAlike_43 : decode cX8_mostAlike 43 = .ok (.imul, 1) := by decide +kernel
theorem dX8_mostAlike_44 : decode cX8_mostAlike 44 = .ok (.iload_n 1, 1) := by decide +kernel
theorem dX8_mostAlike_45 : decode cX8_mostAlike 45 = .ok (.iadd, 1) := by decide +kernel
theorem dX8_mostAlike_46 : decode cX8_mostAlike 46 = .ok (.iaload, 1) := by decide +kernel
theorem dX8_mostAlike_47 : decode cX8_mostAlike 47 = .ok (.if_icmp .ne 7, 3) := by decide +kernel
theorem dX8_mostAlike_50 : decode cX8_mostAlike 50 = .ok (.iconst 1, 1) := by decide +kernel
theorem dX8_mostAlike_51 : decode cX8_mostAlike 51 = .ok (.goto 4, 3) := by decide +kernel
theorem dX8_mostAlike_54 : decode cX8_mostAlike 54 = .ok (.iconst 0, 1) := by decide +kernel
theorem dX8_mostAlike_55 : decode cX8_mostAlike 55 = .ok (.iadd, 1) := by decide +kernel
theorem dX8_mostAlike_56 : decode cX8_mostAlike 56 = .ok (.istore 5, 2) := by decide +kernel
theorem dX8_mostAlike_58 : decode cX8_mostAlike 58 = .ok (.iinc 6 1, 3) := by decide +kernel
theorem dX8_mostAlike_61 : decode cX8_mostAlike 61 = .ok (.goto (-44), 3) := by decide +kernel
theorem dX8_mostAlike_64 : decode cX8_mostAlike 64 = .ok (.iload 5, 2) := by decide +kernel
theorem dX8_mostAlike_66 : decode cX8_mostAlike 66 = .ok (.iload_n 3, 1) := by decide +kernel
theorem dX8_mostAlike_67 : decode cX8_mostAlike 67 = .ok (.if_icmp .le 8, 3) := by decide +kernel
theorem dX8_mostAlike_70 : decode cX8_mostAlike 70 = .ok (.iload 5, 2) := by decide +kernel
theorem dX8_mostAlike_72 : decode cX8_mostAlike 72 = .ok (.goto 4, 3) := by decide +kernel
theorem dX8_mostAlike_75 : decode cX8_mostAlike 75 = .ok (.iload_n 3, 1) := by decide +kernel
theorem dX8_mostAlike_76 : decode cX8_mostAlike 76 = .ok (.istore_n 3, 1) := by decide +kernel
theorem dX8_mostAlike_77 : decode cX8_mostAlike 77 = .ok (.iinc 4 1, 3) := by decide +kernel
theorem dX8_mostAlike_80 : decode cX8_mostAlike 80 = .ok (.goto (-75), 3) := by decide +kernel
theorem dX8_mostAlike_83 : decode cX8_mostAlike 83 = .ok (.iload_n 3, 1) := by decide +kernel
theorem dX8_mostAlike_84 : decode cX8_mostAlike 84 = .ok (.ireturn, 1) := by decide +kernel
theorem dX8_look_0 : decode cX8_look 0 = .ok (.aload_n 0, 1) := by decide +kernel
theorem dX8_look_1 : decode cX8_look 1 = .ok (.invokevirtual 431, 3) := by decide +kernel
theorem dX8_look_4 : decode cX8_look 4 = .ok (.ifCond .eq 25, 3) := by decide +kernel
theorem dX8_look_7 : decode cX8_look 7 = .ok (.iload_n 1, 1) := by decide +kernel
theorem dX8_look_8 : decode cX8_look 8 = .ok (.i2l, 1) := by decide +kernel
theorem dX8_look_9 : decode cX8_look 9 = .ok (.lconst 0, 1) := by decide +kernel
theorem dX8_look_10 : decode cX8_look 10 = .ok (.ldc2_w 459, 3) := by decide +kernel
theorem dX8_look_13 : decode cX8_look 13 = .ok (.invokestatic 161, 3) := by decide +kernel
theorem dX8_look_16 : decode cX8_look 16 = .ok (.ifCond .eq 13, 3) := by decide +kernel
theorem dX8_look_19 : decode cX8_look 19 = .ok (.iload_n 2, 1) := by decide +kernel
theorem dX8_look_20 : decode cX8_look 20 = .ok (.i2l, 1) := by decide +kernel
theorem dX8_look_21 : decode cX8_look 21 = .ok (.lconst 0, 1) := by decide +kernel
theorem dX8_look_22 : decode cX8_look 22 = .ok (.lconst 1, 1) := by decide +kernel
theorem dX8_look_23 : decode cX8_look 23 = .ok (.invokestatic 161, 3) := by decide +kernel
theorem dX8_look_26 : decode cX8_look 26 = .ok (.ifCond .ne 5, 3) := by decide +kernel
theorem dX8_look_29 : decode cX8_look 29 = .ok (.iconst (-1), 1) := by decide +kernel
theorem dX8_look_30 : decode cX8_look 30 = .ok (.ireturn, 1) := by decide +kernel
theorem dX8_look_31 : decode cX8_look 31 = .ok (.aload_n 0, 1) := by decide +kernel
theorem dX8_look_32 : decode cX8_look 32 = .ok (.invokevirtual 446, 3) := by decide +kernel
theorem dX8_look_35 : decode cX8_look 35 = .ok (.iconst 0, 1) := by decide +kernel
theorem dX8_look_36 : decode cX8_look 36 = .ok (.istore_n 3, 1) := by decide +kernel
theorem dX8_look_37 : decode cX8_look 37 = .ok (.iconst (-1), 1) := by decide +kernel
theorem dX8_look_38 : decode cX8_look 38 = .ok (.istore 4, 2) := by decide +kernel
theorem dX8_look_40 : decode cX8_look 40 = .ok (.iload 4, 2) := by decide +kernel
theorem dX8_look_42 : decode cX8_look 42 = .ok (.aload_n 0, 1) := by decide +kernel
theorem dX8_look_43 : decode cX8_look 43 = .ok (.getfield 336, 3) := by decide +kernel
theorem dX8_look_46 : decode cX8_look 46 = .ok (.if_icmp .ge 59, 3) := by decide +kernel
theorem dX8_look_49 : decode cX8_look 49 = .ok (.aload_n 0, 1) := by decide +kernel
theorem dX8_look_50 : decode cX8_look 50 = .ok (.iload 4, 2) := by decide +kernel
theorem dX8_look_52 : decode cX8_look 52 = .ok (.invokevirtual 498, 3) := by decide +kernel
theorem dX8_look_55 : decode cX8_look 55 = .ok (.ifCond .eq 44, 3) := by decide +kernel
theorem dX8_look_58 : decode cX8_look 58 = .ok (.iconst 0, 1) := by decide +kernel
theorem dX8_look_59 : decode cX8_look 59 = .ok (.istore 5, 2) := by decide +kernel
theorem dX8_look_61 : decode cX8_look 61 = .ok (.iload 5, 2) := by decide +kernel
theorem dX8_look_63 : decode cX8_look 63 = .ok (.iconst 3, 1) := by decide +kernel
theorem dX8_look_64 : decode cX8_look 64 = .ok (.if_icmp .ge 32, 3) := by decide +kernel
theorem dX8_look_67 : decode cX8_look 67 = .ok (.aload_n 0, 1) := by decide +kernel
theorem dX8_look_68 : decode cX8_look 68 = .ok (.getfield 148, 3) := by decide +kernel
theorem dX8_look_71 : decode cX8_look 71 = .ok (.iconst 3, 1) := by decide +kernel
theorem dX8_look_72 : decode cX8_look 72 = .ok (.iload_n 3, 1) := by decide +kernel
theorem dX8_look_73 : decode cX8_look 73 = .ok (.imul, 1) := by decide +kernel
theorem dX8_look_74 : decode cX8_look 74 = .ok (.iload 5, 2) := by decide +kernel
theorem dX8_look_76 : decode cX8_look 76 = .ok (.iadd, 1) := by decide +kernel
theorem dX8_look_77 : decode cX8_look 77 = .ok (.aload_n 0, 1) := by decide +kernel
theorem dX8_look_78 : decode cX8_look 78 = .ok (.getfield 145, 3) := by decide +kernel
theorem dX8_look_81 : decode cX8_look 81 = .ok (.bipush 6, 2) := by decide +kernel
theorem dX8_look_83 : decode cX8_look 83 = .ok (.iload_n 1, 1) := by decide +kernel
theorem dX8_look_84 : decode cX8_look 84 = .ok (.imul, 1) := by decide +kernel
theorem dX8_look_85 : decode cX8_look 85 = .ok (.iload 5, 2) := by decide +kernel
theorem dX8_look_87 : decode cX8_look 87 = .ok (.iadd, 1) := by decide +kernel
theorem dX8_look_88 : decode cX8_look 88 = .ok (.iaload, 1) := by decide +kernel
theorem dX8_look_89 : decode cX8_look 89 = .ok (.iastore, 1) := by decide +kernel
theorem dX8_look_90 : decode cX8_look 90 = .ok (.iinc 5 1, 3) := by decide +kernel
theorem dX8_look_93 : decode cX8_look 93 = .ok (.goto (-32), 3) := by decide +kernel
theorem dX8_look_96 : decode cX8_look 96 = .ok (.iinc 3 1, 3) := by decide +kernel
theorem dX8_look_99 : decode cX8_look 99 = .ok (.iinc 4 1, 3) := by decide +kernel
theorem dX8_look_102 : decode cX8_look 102 = .ok (.goto (-62), 3) := by decide +kernel
theorem dX8_look_105 : decode cX8_look 105 = .ok (.iload_n 3, 1) := by decide +kernel
theorem dX8_look_106 : decode cX8_look 106 = .ok (.ifCond .eq 12, 3) := by decide +kernel
theorem dX8_look_109 : decode cX8_look 109 = .ok (.aload_n 0, 1) := by decide +kernel
theorem dX8_look_110 : decode cX8_look 110 = .ok (.getfield 9, 3) := by decide +kernel
theorem dX8_look_113 : decode cX8_look 113 = .ok (.iconst 2, 1) := by decide +kernel
theorem dX8_look_114 : decode cX8_look 114 = .ok (.iaload, 1) := by decide +kernel
theorem dX8_look_115 : decode cX8_look 115 = .ok (.ifCond .ne 6, 3) := by decide +kernel
theorem dX8_look_118 : decode cX8_look 118 = .ok (.bipush (-2), 2) := by decide +kernel
theorem dX8_look_120 : decode cX8_look 120 = .ok (.ireturn, 1) := by decide +kernel
theorem dX8_look_121 : decode cX8_look 121 = .ok (.iconst 0, 1) := by decide +kernel
theorem dX8_look_122 : decode cX8_look 122 = .ok (.istore 4, 2) := by decide +kernel
theorem dX8_look_124 : decode cX8_look 124 = .ok (.iconst 1, 1) := by decide +kernel
theorem dX8_look_125 : decode cX8_look 125 = .ok (.istore 5, 2) := by decide +kernel
theorem dX8_look_127 : decode cX8_look 127 = .ok (.iload 5, 2) := by decide +kernel
theorem dX8_look_129 : decode cX8_look 129 = .ok (.aload_n 0, 1) := by decide +kernel
theorem dX8_look_130 : decode cX8_look 130 = .ok (.getfield 9, 3) := by decide +kernel
theorem dX8_look_133 : decode cX8_look 133 = .ok (.iconst 2, 1) := by decide +kernel
theorem dX8_look_134 : decode cX8_look 134 = .ok (.iaload, 1) := by decide +kernel
theorem dX8_look_135 : decode cX8_look 135 = .ok (.if_icmp .ge 35, 3) := by decide +kernel
theorem dX8_look_138 : decode cX8_look 138 = .ok (.aload_n 0, 1) := by decide +kernel
theorem dX8_look_139 : decode cX8_look 139 = .ok (.iload 5, 2) := by decide +kernel
theorem dX8_look_141 : decode cX8_look 141 = .ok (.iload_n 3, 1) := by decide +kernel
theorem dX8_look_142 : decode cX8_look 142 = .ok (.invokevirtual 501, 3) := by decide +kernel
theorem dX8_look_145 : decode cX8_look 145 = .ok (.aload_n 0, 1) := by decide +kernel
theorem dX8_look_146 : decode cX8_look 146 = .ok (.iload 4, 2) := by decide +kernel
theorem dX8_look_148 : decode cX8_look 148 = .ok (.iload_n 3, 1) := by decide +kernel
theorem dX8_look_149 : decode cX8_look 149 = .ok (.invokevirtual 501, 3) := by decide +kernel
theorem dX8_look_152 : decode cX8_look 152 = .ok (.if_icmp .ge 8, 3) := by decide +kernel
theorem dX8_look_155 : decode cX8_look 155 = .ok (.iload 5, 2) := by decide +kernel
theorem dX8_look_157 : decode cX8_look 157 = .ok (.goto 5, 3) := by decide +kernel
theorem dX8_look_160 : decode cX8_look 160 = .ok (.iload 4, 2) := by decide +kernel
theorem dX8_look_162 : decode cX8_look 162 = .ok (.istore 4, 2) := by decide +kernel
theorem dX8_look_164 : decode cX8_look 164 = .ok (.iinc 5 1, 3) := by decide +kernel
theorem dX8_look_167 : decode cX8_look 167 = .ok (.goto (-40), 3) := by decide +kernel
theorem dX8_look_170 : decode cX8_look 170 = .ok (.iload_n 2, 1) := by decide +kernel
theorem dX8_look_171 : decode cX8_look 171 = .ok (.ifCond .ne 8, 3) := by decide +kernel
theorem dX8_look_174 : decode cX8_look 174 = .ok (.iload 4, 2) := by decide +kernel
theorem dX8_look_176 : decode cX8_look 176 = .ok (.goto 10, 3) := by decide +kernel
theorem dX8_look_179 : decode cX8_look 179 = .ok (.aload_n 0, 1) := by decide +kernel
theorem dX8_look_180 : decode cX8_look 180 = .ok (.iload 4, 2) := by decide +kernel
theorem dX8_look_182 : decode cX8_look 182 = .ok (.iload_n 3, 1) := by decide +kernel
theorem dX8_look_183 : decode cX8_look 183 = .ok (.invokevirtual 501, 3) := by decide +kernel
theorem dX8_look_186 : decode cX8_look 186 = .ok (.ireturn, 1) := by decide +kernel
theorem dX8_seed_0 : decode cX8_seed 0 = .ok (.iload_n 1, 1) := by decide +kernel
theorem dX8_seed_1 : decode cX8_seed 1 = .ok (.ifCond .ge 5, 3) := by decide +kernel
theorem dX8_seed_4 : decode cX8_seed 4 = .ok (.iconst (-1), 1) := by decide +kernel
theorem dX8_seed_5 : decode cX8_seed 5 = .ok (.ireturn, 1) := by decide +kernel
theorem dX8_seed_6 : decode cX8_seed 6 = .ok (.aload_n 0, 1) := by decide +kernel
theorem dX8_seed_7 : decode cX8_seed 7 = .ok (.getfield 9, 3) := by decide +kernel
theorem dX8_seed_10 : decode cX8_seed 10 = .ok (.bipush 7, 2) := by decide +kernel
theorem dX8_seed_12 : decode cX8_seed 12 = .ok (.iaload, 1) := by decide +kernel
theorem dX8_seed_13 : decode cX8_seed 13 = .ok (.istore_n 2, 1) := by decide +kernel
theorem dX8_seed_14 : decode cX8_seed 14 = .ok (.aload_n 0, 1) := by decide +kernel
theorem dX8_seed_15 : decode cX8_seed 15 = .ok (.getfield 9, 3) := by decide +kernel
theorem dX8_seed_18 : decode cX8_seed 18 = .ok (.bipush 7, 2) := by decide +kernel
theorem dX8_seed_20 : decode cX8_seed 20 = .ok (.iload_n 1, 1) := by decide +kernel
theorem dX8_seed_21 : decode cX8_seed 21 = .ok (.iastore, 1) := by decide +kernel
theorem dX8_seed_22 : decode cX8_seed 22 = .ok (.iload_n 2, 1) := by decide +kernel
theorem dX8_seed_23 : decode cX8_seed 23 = .ok (.ireturn, 1) := by decide +kernel
theorem dX8_draws_0 : decode cX8_draws 0 = .ok (.aload_n 0, 1) := by decide +kernel
theorem dX8_draws_1 : decode cX8_draws 1 = .ok (.getfield 9, 3) := by decide +kernel
theorem dX8_draws_4 : decode cX8_draws 4 = .ok (.bipush 7, 2) := by decide +kernel
theorem dX8_draws_6 : decode cX8_draws 6 = .ok (.aload_n 0, 1) := by decide +kernel
theorem dX8_draws_7 : decode cX8_draws 7 = .ok (.getfield 9, 3) := by decide +kernel
theorem dX8_draws_10 : decode cX8_draws 10 = .ok (.bipush 7, 2) := by decide +kernel
theorem dX8_draws_12 : decode cX8_draws 12 = .ok (.iaload, 1) := by decide +kernel
theorem dX8_draws_13 : decode cX8_draws 13 = .ok (.i2l, 1) := by decide +kernel
theorem dX8_draws_14 : decode cX8_draws 14 = .ok (.ldc2_w 504, 3) := by decide +kernel
theorem dX8_draws_17 : decode cX8_draws 17 = .ok (.lmul, 1) := by decide +kernel
theorem dX8_draws_18 : decode cX8_draws 18 = .ok (.ldc2_w 506, 3) := by decide +kernel
theorem dX8_draws_21 : decode cX8_draws 21 = .ok (.ladd, 1) := by decide +kernel
theorem dX8_draws_22 : decode cX8_draws 22 = .ok (.ldc2_w 508, 3) := by decide +kernel
theorem dX8_draws_25 : decode cX8_draws 25 = .ok (.lrem, 1) := by decide +kernel
theorem dX8_draws_26 : decode cX8_draws 26 = .ok (.l2i, 1) := by decide +kernel
theorem dX8_draws_27 : decode cX8_draws 27 = .ok (.iastore, 1) := by decide +kernel
theorem dX8_draws_28 : decode cX8_draws 28 = .ok (.aload_n 0, 1) := by decide +kernel
theorem dX8_draws_29 : decode cX8_draws 29 = .ok (.getfield 9, 3) := by decide +kernel
theorem dX8_draws_32 : decode cX8_draws 32 = .ok (.bipush 7, 2) := by decide +kernel
theorem dX8_draws_34 : decode cX8_draws 34 = .ok (.iaload, 1) := by decide +kernel
theorem dX8_draws_35 : decode cX8_draws 35 = .ok (.ldc_w 510, 3) := by decide +kernel
theorem dX8_draws_38 : decode cX8_draws 38 = .ok (.idiv, 1) := by decide +kernel
theorem dX8_draws_39 : decode cX8_draws 39 = .ok (.iload_n 1, 1) := by decide +kernel
theorem dX8_draws_40 : decode cX8_draws 40 = .ok (.irem, 1) := by decide +kernel
theorem dX8_draws_41 : decode cX8_draws 41 = .ok (.ireturn, 1) := by decide +kernel
theorem dX8_visits_0 : decode cX8_visits 0 = .ok (.aload_n 0, 1) := by decide +kernel
theorem dX8_visits_1 : decode cX8_visits 1 = .ok (.invokevirtual 431, 3) := by decide +kernel
theorem dX8_visits_4 : decode cX8_visits 4 = .ok (.ifCond .eq 50, 3) := by decide +kernel
theorem dX8_visits_7 : decode cX8_visits 7 = .ok (.iload_n 1, 1) := by decide +kernel
theorem dX8_visits_8 : decode cX8_visits 8 = .ok (.i2l, 1) := by decide +kernel
theorem dX8_visits_9 : decode cX8_visits 9 = .ok (.lconst 1, 1) := by decide +kernel
theorem dX8_visits_10 : decode cX8_visits 10 = .ok (.ldc2_w 511, 3) := by decide +kernel
theorem dX8_visits_13 : decode cX8_visits 13 = .ok (.invokestatic 161, 3) := by decide +kernel
theorem dX8_visits_16 : decode cX8_visits 16 = .ok (.ifCond .eq 38, 3) := by decide +kernel
theorem dX8_visits_19 : decode cX8_visits 19 = .ok (.iload_n 2, 1) := by decide +kernel
theorem dX8_visits_20 : decode cX8_visits 20 = .ok (.i2l, 1) := by decide +kernel
theorem dX8_visits_21 : decode cX8_visits 21 = .ok (.lconst 1, 1) := by decide +kernel
theorem dX8_visits_22 : decode cX8_visits 22 = .ok (.ldc2_w 459, 3) := by decide +kernel
theorem dX8_visits_25 : decode cX8_visits 25 = .ok (.invokestatic 161, 3) := by decide +kernel
theorem dX8_visits_28 : decode cX8_visits 28 = .ok (.ifCond .eq 26, 3) := by decide +kernel
theorem dX8_visits_31 : decode cX8_visits 31 = .ok (.iload_n 3, 1) := by decide +kernel
theorem dX8_visits_32 : decode cX8_visits 32 = .ok (.i2l, 1) := by decide +kernel
theorem dX8_visits_33 : decode cX8_visits 33 = .ok (.lconst 0, 1) := by decide +kernel
theorem dX8_visits_34 : decode cX8_visits 34 = .ok (.ldc2_w 444, 3) := by decide +kernel
theorem dX8_visits_37 : decode cX8_visits 37 = .ok (.invokestatic 161, 3) := by decide +kernel
theorem dX8_visits_40 : decode cX8_visits 40 = .ok (.ifCond .eq 14, 3) := by decide +kernel
theorem dX8_visits_43 : decode cX8_visits 43 = .ok (.iload 4, 2) := by decide +kernel
theorem dX8_visits_45 : decode cX8_visits 45 = .ok (.i2l, 1) := by decide +kernel
theorem dX8_visits_46 : decode cX8_visits 46 = .ok (.lconst 0, 1) := by decide +kernel
theorem dX8_visits_47 : decode cX8_visits 47 = .ok (.lconst 1, 1) := by decide +kernel
theorem dX8_visits_48 : decode cX8_visits 48 = .ok (.invokestatic 161, 3) := by decide +kernel
theorem dX8_visits_51 : decode cX8_visits 51 = .ok (.ifCond .ne 5, 3) := by decide +kernel
theorem dX8_visits_54 : decode cX8_visits 54 = .ok (.iconst (-1), 1) := by decide +kernel
theorem dX8_visits_55 : decode cX8_visits 55 = .ok (.ireturn, 1) := by decide +kernel
theorem dX8_visits_56 : decode cX8_visits 56 = .ok (.aload_n 0, 1) := by decide +kernel
theorem dX8_visits_57 : decode cX8_visits 57 = .ok (.getfield 9, 3) := by decide +kernel
theorem dX8_visits_60 : decode cX8_visits 60 = .ok (.bipush 7, 2) := by decide +kernel
theorem dX8_visits_62 : decode cX8_visits 62 = .ok (.iaload, 1) := by decide +kernel
theorem dX8_visits_63 : decode cX8_visits 63 = .ok (.istore 5, 2) := by decide +kernel
theorem dX8_visits_65 : decode cX8_visits 65 = .ok (.iload 5, 2) := by decide +kernel
theorem dX8_visits_67 : decode cX8_visits 67 = .ok (.istore 6, 2) := by decide +kernel
theorem dX8_visits_69 : decode cX8_visits 69 = .ok (.iconst 0, 1) := by decide +kernel
theorem dX8_visits_70 : decode cX8_visits 70 = .ok (.istore 7, 2) := by decide +kernel
theorem dX8_visits_72 : decode cX8_visits 72 = .ok (.iconst 0, 1) := by decide +kernel
theorem dX8_visits_73 : decode cX8_visits 73 = .ok (.istore 8, 2) := by decide +kernel
theorem dX8_visits_75 : decode cX8_visits 75 = .ok (.aload_n 0, 1) := by decide +kernel
theorem dX8_visits_76 : decode cX8_visits 76 = .ok (.invokevirtual 446, 3) := by decide +kernel
theorem dX8_visits_79 : decode cX8_visits 79 = .ok (.iconst 0, 1) := by decide +kernel
theorem dX8_visits_80 : decode cX8_visits 80 = .ok (.istore 9, 2) := by decide +kernel
theorem dX8_visits_82 : decode cX8_visits 82 = .ok (.iload 9, 2) := by decide +kernel
theorem dX8_visits_84 : decode cX8_visits 84 = .ok (.iload_n 1, 1) := by decide +kernel
theorem dX8_visits_85 : decode cX8_visits 85 = .ok (.if_icmp .ge 120, 3) := by decide +kernel
theorem dX8_visits_88 : decode cX8_visits 88 = .ok (.aload_n 0, 1) := by decide +kernel
theorem dX8_visits_89 : decode cX8_visits 89 = .ok (.getfield 9, 3) := by decide +kernel
theorem dX8_visits_92 : decode cX8_visits 92 = .ok (.bipush 7, 2) := by decide +kernel
theorem dX8_visits_94 : decode cX8_visits 94 = .ok (.iload 6, 2) := by decide +kernel
theorem dX8_visits_96 : decode cX8_visits 96 = .ok (.iastore, 1) := by decide +kernel
theorem dX8_visits_97 : decode cX8_visits 97 = .ok (.iconst 0, 1) := by decide +kernel
theorem dX8_visits_98 : decode cX8_visits 98 = .ok (.istore 10, 2) := by decide +kernel
theorem dX8_visits_100 : decode cX8_visits 100 = .ok (.iload 10, 2) := by decide +kernel
theorem dX8_visits_102 : decode cX8_visits 102 = .ok (.iload_n 2, 1) := by decide +kernel
theorem dX8_visits_103 : decode cX8_visits 103 = .ok (.if_icmp .ge 83, 3) := by decide +kernel
theorem dX8_visits_106 : decode cX8_visits 106 = .ok (.aload_n 0, 1) := by decide +kernel
theorem dX8_visits_107 : decode cX8_visits 107 = .ok (.aload_n 0, 1) := by decide +kernel
theorem dX8_visits_108 : decode cX8_visits 108 = .ok (.bipush 100, 2) := by decide +kernel
theorem dX8_visits_110 : decode cX8_visits 110 = .ok (.invokevirtual 513, 3) := by decide +kernel
theorem dX8_visits_113 : decode cX8_visits 113 = .ok (.iload_n 3, 1) := by decide +kernel
theorem dX8_visits_114 : decode cX8_visits 114 = .ok (.if_icmp .ge 25, 3) := by decide +kernel
theorem dX8_visits_117 : decode cX8_visits 117 = .ok (.aload_n 0, 1) := by decide +kernel
theorem dX8_visits_118 : decode cX8_visits 118 = .ok (.getfield 9, 3) := by decide +kernel
theorem dX8_visits_121 : decode cX8_visits 121 = .ok (.iconst 1, 1) := by decide +kernel
theorem dX8_visits_122 : decode cX8_visits 122 = .ok (.iaload, 1) := by decide +kernel
theorem dX8_visits_123 : decode cX8_visits 123 = .ok (.ifCond .le 16, 3) := by decide +kernel
theorem dX8_visits_126 : decode cX8_visits 126 = .ok (.aload_n 0, 1) := by decide +kernel
theorem dX8_visits_127 : decode cX8_visits 127 = .ok (.aload_n 0, 1) := by decide +kernel
theorem dX8_visits_128 : decode cX8_visits 128 = .ok (.getfield 9, 3) := by decide +kernel
theorem dX8_visits_131 : decode cX8_visits 131 = .ok (.iconst 1, 1) := by decide +kernel
theorem dX8_visits_132 : decode cX8_visits 132 = .ok (.iaload, 1) := by decide +kernel
theorem dX8_visits_133 : decode cX8_visits 133 = .ok (.invokevirtual 513, 3) := by decide +kernel
theorem dX8_visits_136 : decode cX8_visits 136 = .ok (.goto 4, 3) := by decide +kernel
theorem dX8_visits_139 : decode cX8_visits 139 = .ok (.iconst (-1), 1) := by decide +kernel
theorem dX8_visits_140 : decode cX8_visits 140 = .ok (.putfield 130, 3) := by decide +kernel
theorem dX8_visits_143 : decode cX8_visits 143 = .ok (.aload_n 0, 1) := by decide +kernel
theorem dX8_visits_144 : decode cX8_visits 144 = .ok (.iconst 0, 1) := by decide +kernel
theorem dX8_visits_145 : decode cX8_visits 145 = .ok (.putfield 401, 3) := by decide +kernel
theorem dX8_visits_148 : decode cX8_visits 148 = .ok (.aload_n 0, 1) := by decide +kernel
theorem dX8_visits_149 : decode cX8_visits 149 = .ok (.invokevirtual 410, 3) := by decide +kernel
theorem dX8_visits_152 : decode cX8_visits 152 = .ok (.pop, 1) := by decide +kernel
theorem dX8_visits_153 : decode cX8_visits 153 = .ok (.iload 7, 2) := by decide +kernel
theorem dX8_visits_155 : decode cX8_visits 155 = .ok (.aload_n 0, 1) := by decide +kernel
theorem dX8_visits_156 : decode cX8_visits 156 = .ok (.getfield 401, 3) := by decide +kernel
theorem dX8_visits_159 : decode cX8_visits 159 = .ok (.iadd, 1) := by decide +kernel
theorem dX8_visits_160 : decode cX8_visits 160 = .ok (.istore 7, 2) := by decide +kernel
theorem dX8_visits_162 : decode cX8_visits 162 = .ok (.iload 8, 2) := by decide +kernel
theorem dX8_visits_164 : decode cX8_visits 164 = .ok (.aload_n 0, 1) := by decide +kernel
theorem dX8_visits_165 : decode cX8_visits 165 = .ok (.getfield 130, 3) := by decide +kernel
theorem dX8_visits_168 : decode cX8_visits 168 = .ok (.iconst (-1), 1) := by decide +kernel
theorem dX8_visits_169 : decode cX8_visits 169 = .ok (.if_icmp .eq 7, 3) := by decide +kernel
theorem dX8_visits_172 : decode cX8_visits 172 = .ok (.iconst 1, 1) := by decide +kernel
theorem dX8_visits_173 : decode cX8_visits 173 = .ok (.goto 4, 3) := by decide +kernel
theorem dX8_visits_176 : decode cX8_visits 176 = .ok (.iconst 0, 1) := by decide +kernel
theorem dX8_visits_177 : decode cX8_visits 177 = .ok (.iadd, 1) := by decide +kernel
theorem dX8_visits_178 : decode cX8_visits 178 = .ok (.istore 8, 2) := by decide +kernel
theorem dX8_visits_180 : decode cX8_visits 180 = .ok (.iinc 10 1, 3) := by decide +kernel
theorem dX8_visits_183 : decode cX8_visits 183 = .ok (.goto (-83), 3) := by decide +kernel
theorem dX8_visits_186 : decode cX8_visits 186 = .ok (.aload_n 0, 1) := by decide +kernel
theorem dX8_visits_187 : decode cX8_visits 187 = .ok (.getfield 9, 3) := by decide +kernel
theorem dX8_visits_190 : decode cX8_visits 190 = .ok (.bipush 7, 2) := by decide +kernel
theorem dX8_visits_192 : decode cX8_visits 192 = .ok (.iaload, 1) := by decide +kernel
theorem dX8_visits_193 : decode cX8_visits 193 = .ok (.istore 6, 2) := by decide +kernel
theorem dX8_visits_195 : decode cX8_visits 195 = .ok (.aload_n 0, 1) := by decide +kernel
theorem dX8_visits_196 : decode cX8_visits 196 = .ok (.invokevirtual 456, 3) := by decide +kernel
theorem dX8_visits_199 : decode cX8_visits 199 = .ok (.iinc 9 1, 3) := by decide +kernel
theorem dX8_visits_202 : decode cX8_visits 202 = .ok (.goto (-120), 3) := by decide +kernel
theorem dX8_visits_205 : decode cX8_visits 205 = .ok (.aload_n 0, 1) := by decide +kernel
theorem dX8_visits_206 : decode cX8_visits 206 = .ok (.iconst (-1), 1) := by decide +kernel
theorem dX8_visits_207 : decode cX8_visits 207 = .ok (.putfield 130, 3) := by decide +kernel
theorem dX8_visits_210 : decode cX8_visits 210 = .ok (.aload_n 0, 1) := by decide +kernel
theorem dX8_visits_211 : decode cX8_visits 211 = .ok (.getfield 9, 3) := by decide +kernel
theorem dX8_visits_214 : decode cX8_visits 214 = .ok (.bipush 7, 2) := by decide +kernel
theorem dX8_visits_216 : decode cX8_visits 216 = .ok (.iload 5, 2) := by decide +kernel
theorem dX8_visits_218 : decode cX8_visits 218 = .ok (.iastore, 1) := by decide +kernel
theorem dX8_visits_219 : decode cX8_visits 219 = .ok (.iload 4, 2) := by decide +kernel
theorem dX8_visits_221 : decode cX8_visits 221 = .ok (.ifCond .ne 8, 3) := by decide +kernel
theorem dX8_visits_224 : decode cX8_visits 224 = .ok (.iload 7, 2) := by decide +kernel
theorem dX8_visits_226 : decode cX8_visits 226 = .ok (.goto 8, 3) := by decide +kernel
theorem dX8_visits_229 : decode cX8_visits 229 = .ok (.iload 8, 2) := by decide +kernel
theorem dX8_visits_231 : decode cX8_visits 231 = .ok (.iload 7, 2) := by decide +kernel
theorem dX8_visits_233 : decode cX8_visits 233 = .ok (.isub, 1) := by decide +kernel
theorem dX8_visits_234 : decode cX8_visits 234 = .ok (.ireturn, 1) := by decide +kernel
theorem dX8_allDue_0 : decode cX8_allDue 0 = .ok (.iconst 0, 1) := by decide +kernel
theorem dX8_allDue_1 : decode cX8_allDue 1 = .ok (.istore_n 1, 1) := by decide +kernel
theorem dX8_allDue_2 : decode cX8_allDue 2 = .ok (.iconst 0, 1) := by decide +kernel
theorem dX8_allDue_3 : decode cX8_allDue 3 = .ok (.istore_n 2, 1) := by decide +kernel
theorem dX8_allDue_4 : decode cX8_allDue 4 = .ok (.iload_n 2, 1) := by decide +kernel
theorem dX8_allDue_5 : decode cX8_allDue 5 = .ok (.aload_n 0, 1) := by decide +kernel
theorem dX8_allDue_6 : decode cX8_allDue 6 = .ok (.getfield 9, 3) := by decide +kernel
theorem dX8_allDue_9 : decode cX8_allDue 9 = .ok (.iconst 3, 1) := by decide +kernel
theorem dX8_allDue_10 : decode cX8_allDue 10 = .ok (.iaload, 1) := by decide +kernel
theorem dX8_allDue_11 : decode cX8_allDue 11 = .ok (.if_icmp .ge 33, 3) := by decide +kernel
theorem dX8_allDue_14 : decode cX8_allDue 14 = .ok (.iload_n 1, 1) := by decide +kernel
theorem dX8_allDue_15 : decode cX8_allDue 15 = .ok (.aload_n 0, 1) := by decide +kernel
theorem dX8_allDue_16 : decode cX8_allDue 16 = .ok (.iload_n 2, 1) := by decide +kernel
theorem dX8_allDue_17 : decode cX8_allDue 17 = .ok (.aload_n 0, 1) := by decide +kernel
theorem dX8_allDue_18 : decode cX8_allDue 18 = .ok (.getfield 9, 3) := by decide +kernel
theorem dX8_allDue_21 : decode cX8_allDue 21 = .ok (.iconst 4, 1) := by decide +kernel
theorem dX8_allDue_22 : decode cX8_allDue 22 = .ok (.iaload, 1) := by decide +kernel
theorem dX8_allDue_23 : decode cX8_allDue 23 = .ok (.invokevirtual 388, 3) := by decide +kernel
theorem dX8_allDue_26 : decode cX8_allDue 26 = .ok (.ifCond .eq 9, 3) := by decide +kernel
theorem dX8_allDue_29 : decode cX8_allDue 29 = .ok (.iconst 1, 1) := by decide +kernel
theorem dX8_allDue_30 : decode cX8_allDue 30 = .ok (.iload_n 2, 1) := by decide +kernel
theorem dX8_allDue_31 : decode cX8_allDue 31 = .ok (.ishl, 1) := by decide +kernel
theorem dX8_allDue_32 : decode cX8_allDue 32 = .ok (.goto 4, 3) := by decide +kernel
theorem dX8_allDue_35 : decode cX8_allDue 35 = .ok (.iconst 0, 1) := by decide +kernel
theorem dX8_allDue_36 : decode cX8_allDue 36 = .ok (.ior, 1) := by decide +kernel
theorem dX8_allDue_37 : decode cX8_allDue 37 = .ok (.istore_n 1, 1) := by decide +kernel
theorem dX8_allDue_38 : decode cX8_allDue 38 = .ok (.iinc 2 1, 3) := by decide +kernel
theorem dX8_allDue_41 : decode cX8_allDue 41 = .ok (.goto (-37), 3) := by decide +kernel
theorem dX8_allDue_44 : decode cX8_allDue 44 = .ok (.iload_n 1, 1) := by decide +kernel
theorem dX8_allDue_45 : decode cX8_allDue 45 = .ok (.ireturn, 1) := by decide +kernel
theorem dX8_count_0 : decode cX8_count 0 = .ok (.iload_n 1, 1) := by decide +kernel
theorem dX8_count_1 : decode cX8_count 1 = .ok (.tableswitch 168 0 13 #[71, 78, 85, 92, 99, 104, 112, 119, 124, 133, 142, 150, 155, 163], 71) := by decide +kernel
theorem dX8_count_72 : decode cX8_count 72 = .ok (.aload_n 0, 1) := by decide +kernel
theorem dX8_count_73 : decode cX8_count 73 = .ok (.getfield 9, 3) := by decide +kernel
theorem dX8_count_76 : decode cX8_count 76 = .ok (.iconst 0, 1) := by decide +kernel
theorem dX8_count_77 : decode cX8_count 77 = .ok (.iaload, 1) := by decide +kernel
theorem dX8_count_78 : decode cX8_count 78 = .ok (.ireturn, 1) := by decide +kernel
theorem dX8_count_79 : decode cX8_count 79 = .ok (.aload_n 0, 1) := by decide +kernel
theorem dX8_count_80 : decode cX8_count 80 = .ok (.getfield 9, 3) := by decide +kernel
theorem dX8_count_83 : decode cX8_count 83 = .ok (.iconst 1, 1) := by decide +kernel
theorem dX8_count_84 : decode cX8_count 84 = .ok (.iaload, 1) := by decide +kernel
theorem dX8_count_85 : decode cX8_count 85 = .ok (.ireturn, 1) := by decide +kernel
theorem dX8_count_86 : decode cX8_count 86 = .ok (.aload_n 0, 1) := by decide +kernel
theorem dX8_count_87 : decode cX8_count 87 = .ok (.getfield 9, 3) := by decide +kernel
theorem dX8_count_90 : decode cX8_count 90 = .ok (.iconst 2, 1) := by decide +kernel
theorem dX8_count_91 : decode cX8_count 91 = .ok (.iaload, 1) := by decide +kernel
theorem dX8_count_92 : decode cX8_count 92 = .ok (.ireturn, 1) := by decide +kernel
theorem dX8_count_93 : decode cX8_count 93 = .ok (.aload_n 0, 1) := by decide +kernel
theorem dX8_count_94 : decode cX8_count 94 = .ok (.getfield 9, 3) := by decide +kernel
theorem dX8_count_97 : decode cX8_count 97 = .ok (.iconst 3, 1) := by decide +kernel
theorem dX8_count_98 : decode cX8_count 98 = .ok (.iaload, 1) := by decide +kernel
theorem dX8_count_99 : decode cX8_count 99 = .ok (.ireturn, 1) := by decide +kernel
theorem dX8_count_100 : decode cX8_count 100 = .ok (.aload_n 0, 1) := by decide +kernel
theorem dX8_count_101 : decode cX8_count 101 = .ok (.getfield 336, 3) := by decide +kernel
theorem dX8_count_104 : decode cX8_count 104 = .ok (.ireturn, 1) := by decide +kernel
theorem dX8_count_105 : decode cX8_count 105 = .ok (.aload_n 0, 1) := by decide +kernel
theorem dX8_count_106 : decode cX8_count 106 = .ok (.getfield 9, 3) := by decide +kernel
theorem dX8_count_109 : decode cX8_count 109 = .ok (.bipush 8, 2) := by decide +kernel
theorem dX8_count_111 : decode cX8_count 111 = .ok (.iaload, 1) := by decide +kernel
theorem dX8_count_112 : decode cX8_count 112 = .ok (.ireturn, 1) := by decide +kernel
theorem dX8_count_113 : decode cX8_count 113 = .ok (.aload_n 0, 1) := by decide +kernel
theorem dX8_count_114 : decode cX8_count 114 = .ok (.getfield 9, 3) := by decide +kernel
theorem dX8_count_117 : decode cX8_count 117 = .ok (.iconst 4, 1) := by decide +kernel
theorem dX8_count_118 : decode cX8_count 118 = .ok (.iaload, 1) := by decide +kernel
theorem dX8_count_119 : decode cX8_count 119 = .ok (.ireturn, 1) := by decide +kernel
theorem dX8_count_120 : decode cX8_count 120 = .ok (.aload_n 0, 1) := by decide +kernel
theorem dX8_count_121 : decode cX8_count 121 = .ok (.invokevirtual 516, 3) := by decide +kernel
theorem dX8_count_124 : decode cX8_count 124 = .ok (.ireturn, 1) := by decide +kernel
theorem dX8_count_125 : decode cX8_count 125 = .ok (.aload_n 0, 1) := by decide +kernel
theorem dX8_count_126 : decode cX8_count 126 = .ok (.aload_n 0, 1) := by decide +kernel
theorem dX8_count_127 : decode cX8_count 127 = .ok (.getfield 25, 3) := by decide +kernel
theorem dX8_count_130 : decode cX8_count 130 = .ok (.invokevirtual 452, 3) := by decide +kernel
theorem dX8_count_133 : decode cX8_count 133 = .ok (.ireturn, 1) := by decide +kernel
theorem dX8_count_134 : decode cX8_count 134 = .ok (.aload_n 0, 1) := by decide +kernel
theorem dX8_count_135 : decode cX8_count 135 = .ok (.aload_n 0, 1) := by decide +kernel
theorem dX8_count_136 : decode cX8_count 136 = .ok (.getfield 28, 3) := by decide +kernel
theorem dX8_count_139 : decode cX8_count 139 = .ok (.invokevirtual 452, 3) := by decide +kernel
theorem dX8_count_142 : decode cX8_count 142 = .ok (.ireturn, 1) := by decide +kernel
theorem dX8_count_143 : decode cX8_count 143 = .ok (.aload_n 0, 1) := by decide +kernel
theorem dX8_count_144 : decode cX8_count 144 = .ok (.getfield 9, 3) := by decide +kernel
theorem dX8_count_147 : decode cX8_count 147 = .ok (.bipush 6, 2) := by decide +kernel
theorem dX8_count_149 : decode cX8_count 149 = .ok (.iaload, 1) := by decide +kernel
theorem dX8_count_150 : decode cX8_count 150 = .ok (.ireturn, 1) := by decide +kernel
theorem dX8_count_151 : decode cX8_count 151 = .ok (.aload_n 0, 1) := by decide +kernel
theorem dX8_count_152 : decode cX8_count 152 = .ok (.getfield 323, 3) := by decide +kernel
theorem dX8_count_155 : decode cX8_count 155 = .ok (.ireturn, 1) := by decide +kernel
theorem dX8_count_156 : decode cX8_count 156 = .ok (.aload_n 0, 1) := by decide +kernel
theorem dX8_count_157 : decode cX8_count 157 = .ok (.getfield 9, 3) := by decide +kernel
theorem dX8_count_160 : decode cX8_count 160 = .ok (.bipush 7, 2) := by decide +kernel
theorem dX8_count_162 : decode cX8_count 162 = .ok (.iaload, 1) := by decide +kernel
theorem dX8_count_163 : decode cX8_count 163 = .ok (.ireturn, 1) := by decide +kernel
theorem dX8_count_164 : decode cX8_count 164 = .ok (.aload_n 0, 1) := by decide +kernel
theorem dX8_count_165 : decode cX8_count 165 = .ok (.getfield 165, 3) := by decide +kernel
theorem dX8_count_168 : decode cX8_count 168 = .ok (.ireturn, 1) := by decide +kernel
theorem dX8_count_169 : decode cX8_count 169 = .ok (.iconst (-1), 1) := by decide +kernel
theorem dX8_count_170 : decode cX8_count 170 = .ok (.ireturn, 1) := by decide +kernel
theorem dX8_carryRow_0 : decode cX8_carryRow 0 = .ok (.iconst 0, 1) := by decide +kernel
theorem dX8_carryRow_1 : decode cX8_carryRow 1 = .ok (.istore_n 2, 1) := by decide +kernel
theorem dX8_carryRow_2 : decode cX8_carryRow 2 = .ok (.iload_n 2, 1) := by decide +kernel
theorem dX8_carryRow_3 : decode cX8_carryRow 3 = .ok (.aload_n 1, 1) := by decide +kernel
theorem dX8_carryRow_4 : decode cX8_carryRow 4 = .ok (.arraylength, 1) := by decide +kernel
theorem dX8_carryRow_5 : decode cX8_carryRow 5 = .ok (.if_icmp .ge 53, 3) := by decide +kernel
theorem dX8_carryRow_8 : decode cX8_carryRow 8 = .ok (.aload_n 0, 1) := by decide +kernel
theorem dX8_carryRow_9 : decode cX8_carryRow 9 = .ok (.getfield 519, 3) := by decide +kernel
theorem dX8_carryRow_12 : decode cX8_carryRow 12 = .ok (.ifCond .eq 18, 3) := by decide +kernel
theorem dX8_carryRow_15 : decode cX8_carryRow 15 = .ok (.aload_n 1, 1) := by decide +kernel
theorem dX8_carryRow_16 : decode cX8_carryRow 16 = .ok (.iload_n 2, 1) := by decide +kernel
theorem dX8_carryRow_17 : decode cX8_carryRow 17 = .ok (.aload_n 0, 1) := by decide +kernel
theorem dX8_carryRow_18 : decode cX8_carryRow 18 = .ok (.getfield 151, 3) := by decide +kernel
theorem dX8_carryRow_21 : decode cX8_carryRow 21 = .ok (.aload_n 0, 1) := by decide +kernel
theorem dX8_carryRow_22 : decode cX8_carryRow 22 = .ok (.getfield 522, 3) := by decide +kernel
theorem dX8_carryRow_25 : decode cX8_carryRow 25 = .ok (.iaload, 1) := by decide +kernel
theorem dX8_carryRow_26 : decode cX8_carryRow 26 = .ok (.iastore, 1) := by decide +kernel
theorem dX8_carryRow_27 : decode cX8_carryRow 27 = .ok (.goto 15, 3) := by decide +kernel
theorem dX8_carryRow_30 : decode cX8_carryRow 30 = .ok (.aload_n 0, 1) := by decide +kernel
theorem dX8_carryRow_31 : decode cX8_carryRow 31 = .ok (.getfield 151, 3) := by decide +kernel
theorem dX8_carryRow_34 : decode cX8_carryRow 34 = .ok (.aload_n 0, 1) := by decide +kernel
theorem dX8_carryRow_35 : decode cX8_carryRow 35 = .ok (.getfield 522, 3) := by decide +kernel
theorem dX8_carryRow_38 : decode cX8_carryRow 38 = .ok (.aload_n 1, 1) := by decide +kernel
theorem dX8_carryRow_39 : decode cX8_carryRow 39 = .ok (.iload_n 2, 1) := by decide +kernel
theorem dX8_carryRow_40 : decode cX8_carryRow 40 = .ok (.iaload, 1) := by decide +kernel
theorem dX8_carryRow_41 : decode cX8_carryRow 41 = .ok (.iastore, 1) := by decide +kernel
theorem dX8_carryRow_42 : decode cX8_carryRow 42 = .ok (.aload_n 0, 1) := by decide +kernel
theorem dX8_carryRow_43 : decode cX8_carryRow 43 = .ok (.dup, 1) := by decide +kernel
theorem dX8_carryRow_44 : decode cX8_carryRow 44 = .ok (.getfield 522, 3) := by decide +kernel
theorem dX8_carryRow_47 : decode cX8_carryRow 47 = .ok (.iconst 1, 1) := by decide +kernel
theorem dX8_carryRow_48 : decode cX8_carryRow 48 = .ok (.iadd, 1) := by decide +kernel
theorem dX8_carryRow_49 : decode cX8_carryRow 49 = .ok (.putfield 522, 3) := by decide +kernel
theorem dX8_carryRow_52 : decode cX8_carryRow 52 = .ok (.iinc 2 1, 3) := by decide +kernel
theorem dX8_carryRow_55 : decode cX8_carryRow 55 = .ok (.goto (-53), 3) := by decide +kernel
theorem dX8_carryRow_58 : decode cX8_carryRow 58 = .ok (.return_, 1) := by decide +kernel
theorem dX8_carriesAll_0 : decode cX8_carriesAll 0 = .ok (.aload_n 0, 1) := by decide +kernel
theorem dX8_carriesAll_1 : decode cX8_carriesAll 1 = .ok (.sipush 800, 3) := by decide +kernel
theorem dX8_carriesAll_4 : decode cX8_carriesAll 4 = .ok (.iload_n 1, 1) := by decide +kernel
theorem dX8_carriesAll_5 : decode cX8_carriesAll 5 = .ok (.imul, 1) := by decide +kernel
theorem dX8_carriesAll_6 : decode cX8_carriesAll 6 = .ok (.putfield 522, 3) := by decide +kernel
theorem dX8_carriesAll_9 : decode cX8_carriesAll 9 = .ok (.aload_n 0, 1) := by decide +kernel
theorem dX8_carriesAll_10 : decode cX8_carriesAll 10 = .ok (.iload_n 2, 1) := by decide +kernel
theorem dX8_carriesAll_11 : decode cX8_carriesAll 11 = .ok (.putfield 519, 3) := by decide +kernel
theorem dX8_carriesAll_14 : decode cX8_carriesAll 14 = .ok (.aload_n 0, 1) := by decide +kernel
theorem dX8_carriesAll_15 : decode cX8_carriesAll 15 = .ok (.aload_n 0, 1) := by decide +kernel
theorem dX8_carriesAll_16 : decode cX8_carriesAll 16 = .ok (.getfield 9, 3) := by decide +kernel
theorem dX8_carriesAll_19 : decode cX8_carriesAll 19 = .ok (.invokevirtual 525, 3) := by decide +kernel
theorem dX8_carriesAll_22 : decode cX8_carriesAll 22 = .ok (.aload_n 0, 1) := by decide +kernel
theorem dX8_carriesAll_23 : decode cX8_carriesAll 23 = .ok (.aload_n 0, 1) := by decide +kernel
theorem dX8_carriesAll_24 : decode cX8_carriesAll 24 = .ok (.getfield 13, 3) := by decide +kernel
theorem dX8_carriesAll_27 : decode cX8_carriesAll 27 = .ok (.invokevirtual 525, 3) := by decide +kernel
theorem dX8_carriesAll_30 : decode cX8_carriesAll 30 = .ok (.aload_n 0, 1) := by decide +kernel
theorem dX8_carriesAll_31 : decode cX8_carriesAll 31 = .ok (.aload_n 0, 1) := by decide +kernel
theorem dX8_carriesAll_32 : decode cX8_carriesAll 32 = .ok (.getfield 16, 3) := by decide +kernel
theorem dX8_carriesAll_35 : decode cX8_carriesAll 35 = .ok (.invokevirtual 525, 3) := by decide +kernel
theorem dX8_carriesAll_38 : decode cX8_carriesAll 38 = .ok (.aload_n 0, 1) := by decide +kernel
theorem dX8_carriesAll_39 : decode cX8_carriesAll 39 = .ok (.aload_n 0, 1) := by decide +kernel
theorem dX8_carriesAll_40 : decode cX8_carriesAll 40 = .ok (.getfield 19, 3) := by decide +kernel
theorem dX8_carriesAll_43 : decode cX8_carriesAll 43 = .ok (.invokevirtual 525, 3) := by decide +kernel
theorem dX8_carriesAll_46 : decode cX8_carriesAll 46 = .ok (.aload_n 0, 1) := by decide +kernel
theorem dX8_carriesAll_47 : decode cX8_carriesAll 47 = .ok (.aload_n 0, 1) := by decide +kernel
theorem dX8_carriesAll_48 : decode cX8_carriesAll 48 = .ok (.getfield 22, 3) := by decide +kernel
theorem dX8_carriesAll_51 : decode cX8_carriesAll 51 = .ok (.invokevirtual 525, 3) := by decide +kernel
theorem dX8_carriesAll_54 : decode cX8_carriesAll 54 = .ok (.aload_n 0, 1) := by decide +kernel
theorem dX8_carriesAll_55 : decode cX8_carriesAll 55 = .ok (.aload_n 0, 1) := by decide +kernel
theorem dX8_carriesAll_56 : decode cX8_carriesAll 56 = .ok (.getfield 25, 3) := by decide +kernel
theorem dX8_carriesAll_59 : decode cX8_carriesAll 59 = .ok (.invokevirtual 525, 3) := by decide +kernel
theorem dX8_carriesAll_62 : decode cX8_carriesAll 62 = .ok (.aload_n 0, 1) := by decide +kernel
theorem dX8_carriesAll_63 : decode cX8_carriesAll 63 = .ok (.aload_n 0, 1) := by decide +kernel
theorem dX8_carriesAll_64 : decode cX8_carriesAll 64 = .ok (.getfield 28, 3) := by decide +kernel
theorem dX8_carriesAll_67 : decode cX8_carriesAll 67 = .ok (.invokevirtual 525, 3) := by decide +kernel
theorem dX8_carriesAll_70 : decode cX8_carriesAll 70 = .ok (.iload_n 1, 1) := by decide +kernel
theorem dX8_carriesAll_71 : decode cX8_carriesAll 71 = .ok (.iconst 4, 1) := by decide +kernel
theorem dX8_carriesAll_72 : decode cX8_carriesAll 72 = .ok (.if_icmp .ne 4, 3) := by decide +kernel
theorem dX8_carriesAll_75 : decode cX8_carriesAll 75 = .ok (.return_, 1) := by decide +kernel
theorem dX8_carriesAll_76 : decode cX8_carriesAll 76 = .ok (.aload_n 0, 1) := by decide +kernel
theorem dX8_carriesAll_77 : decode cX8_carriesAll 77 = .ok (.getfield 136, 3) := by decide +kernel
theorem dX8_carriesAll_80 : decode cX8_carriesAll 80 = .ok (.iconst 0, 1) := by decide +kernel
theorem dX8_carriesAll_81 : decode cX8_carriesAll 81 = .ok (.aload_n 0, 1) := by decide +kernel
theorem dX8_carriesAll_82 : decode cX8_carriesAll 82 = .ok (.getfield 323, 3) := by decide +kernel
theorem dX8_carriesAll_85 : decode cX8_carriesAll 85 = .ok (.iastore, 1) := by decide +kernel
theorem dX8_carriesAll_86 : decode cX8_carriesAll 86 = .ok (.aload_n 0, 1) := by decide +kernel
theorem dX8_carriesAll_87 : decode cX8_carriesAll 87 = .ok (.aload_n 0, 1) := by decide +kernel
theorem dX8_carriesAll_88 : decode cX8_carriesAll 88 = .ok (.getfield 136, 3) := by decide +kernel
theorem dX8_carriesAll_91 : decode cX8_carriesAll 91 = .ok (.invokevirtual 525, 3) := by decide +kernel
theorem dX8_carriesAll_94 : decode cX8_carriesAll 94 = .ok (.aload_n 0, 1) := by decide +kernel
theorem dX8_carriesAll_95 : decode cX8_carriesAll 95 = .ok (.aload_n 0, 1) := by decide +kernel
theorem dX8_carriesAll_96 : decode cX8_carriesAll 96 = .ok (.getfield 136, 3) := by decide +kernel
theorem dX8_carriesAll_99 : decode cX8_carriesAll 99 = .ok (.iconst 0, 1) := by decide +kernel
theorem dX8_carriesAll_100 : decode cX8_carriesAll 100 = .ok (.iaload, 1) := by decide +kernel
theorem dX8_carriesAll_101 : decode cX8_carriesAll 101 = .ok (.putfield 323, 3) := by decide +kernel
theorem dX8_carriesAll_104 : decode cX8_carriesAll 104 = .ok (.aload_n 0, 1) := by decide +kernel
theorem dX8_carriesAll_105 : decode cX8_carriesAll 105 = .ok (.aload_n 0, 1) := by decide +kernel
theorem dX8_carriesAll_106 : decode cX8_carriesAll 106 = .ok (.getfield 31, 3) := by decide +kernel
theorem dX8_carriesAll_109 : decode cX8_carriesAll 109 = .ok (.invokevirtual 525, 3) := by decide +kernel
theorem dX8_carriesAll_112 : decode cX8_carriesAll 112 = .ok (.aload_n 0, 1) := by decide +kernel
theorem dX8_carriesAll_113 : decode cX8_carriesAll 113 = .ok (.aload_n 0, 1) := by decide +kernel
theorem dX8_carriesAll_114 : decode cX8_carriesAll 114 = .ok (.getfield 34, 3) := by decide +kernel
theorem dX8_carriesAll_117 : decode cX8_carriesAll 117 = .ok (.invokevirtual 525, 3) := by decide +kernel
theorem dX8_carriesAll_120 : decode cX8_carriesAll 120 = .ok (.aload_n 0, 1) := by decide +kernel
theorem dX8_carriesAll_121 : decode cX8_carriesAll 121 = .ok (.aload_n 0, 1) := by decide +kernel
theorem dX8_carriesAll_122 : decode cX8_carriesAll 122 = .ok (.getfield 37, 3) := by decide +kernel
theorem dX8_carriesAll_125 : decode cX8_carriesAll 125 = .ok (.invokevirtual 525, 3) := by decide +kernel
theorem dX8_carriesAll_128 : decode cX8_carriesAll 128 = .ok (.aload_n 0, 1) := by decide +kernel
theorem dX8_carriesAll_129 : decode cX8_carriesAll 129 = .ok (.aload_n 0, 1) := by decide +kernel
theorem dX8_carriesAll_130 : decode cX8_carriesAll 130 = .ok (.getfield 40, 3) := by decide +kernel
theorem dX8_carriesAll_133 : decode cX8_carriesAll 133 = .ok (.invokevirtual 525, 3) := by decide +kernel
theorem dX8_carriesAll_136 : decode cX8_carriesAll 136 = .ok (.aload_n 0, 1) := by decide +kernel
theorem dX8_carriesAll_137 : decode cX8_carriesAll 137 = .ok (.aload_n 0, 1) := by decide +kernel
theorem dX8_carriesAll_138 : decode cX8_carriesAll 138 = .ok (.getfield 43, 3) := by decide +kernel
theorem dX8_carriesAll_141 : decode cX8_carriesAll 141 = .ok (.invokevirtual 525, 3) := by decide +kernel
theorem dX8_carriesAll_144 : decode cX8_carriesAll 144 = .ok (.aload_n 0, 1) := by decide +kernel
theorem dX8_carriesAll_145 : decode cX8_carriesAll 145 = .ok (.aload_n 0, 1) := by decide +kernel
theorem dX8_carriesAll_146 : decode cX8_carriesAll 146 = .ok (.getfield 46, 3) := by decide +kernel
theorem dX8_carriesAll_149 : decode cX8_carriesAll 149 = .ok (.invokevirtual 525, 3) := by decide +kernel
theorem dX8_carriesAll_152 : decode cX8_carriesAll 152 = .ok (.aload_n 0, 1) := by decide +kernel
theorem dX8_carriesAll_153 : decode cX8_carriesAll 153 = .ok (.aload_n 0, 1) := by decide +kernel
theorem dX8_carriesAll_154 : decode cX8_carriesAll 154 = .ok (.getfield 49, 3) := by decide +kernel
theorem dX8_carriesAll_157 : decode cX8_carriesAll 157 = .ok (.invokevirtual 525, 3) := by decide +kernel
theorem dX8_carriesAll_160 : decode cX8_carriesAll 160 = .ok (.aload_n 0, 1) := by decide +kernel
theorem dX8_carriesAll_161 : decode cX8_carriesAll 161 = .ok (.aload_n 0, 1) := by decide +kernel
theorem dX8_carriesAll_162 : decode cX8_carriesAll 162 = .ok (.getfield 52, 3) := by decide +kernel
theorem dX8_carriesAll_165 : decode cX8_carriesAll 165 = .ok (.invokevirtual 525, 3) := by decide +kernel
theorem dX8_carriesAll_168 : decode cX8_carriesAll 168 = .ok (.aload_n 0, 1) := by decide +kernel
theorem dX8_carriesAll_169 : decode cX8_carriesAll 169 = .ok (.aload_n 0, 1) := by decide +kernel
theorem dX8_carriesAll_170 : decode cX8_carriesAll 170 = .ok (.getfield 55, 3) := by decide +kernel
theorem dX8_carriesAll_173 : decode cX8_carriesAll 173 = .ok (.invokevirtual 525, 3) := by decide +kernel
theorem dX8_carriesAll_176 : decode cX8_carriesAll 176 = .ok (.aload_n 0, 1) := by decide +kernel
theorem dX8_carriesAll_177 : decode cX8_carriesAll 177 = .ok (.aload_n 0, 1) := by decide +kernel
theorem dX8_carriesAll_178 : decode cX8_carriesAll 178 = .ok (.getfield 58, 3) := by decide +kernel
theorem dX8_carriesAll_181 : decode cX8_carriesAll 181 = .ok (.invokevirtual 525, 3) := by decide +kernel
theorem dX8_carriesAll_184 : decode cX8_carriesAll 184 = .ok (.aload_n 0, 1) := by decide +kernel
theorem dX8_carriesAll_185 : decode cX8_carriesAll 185 = .ok (.aload_n 0, 1) := by decide +kernel
theorem dX8_carriesAll_186 : decode cX8_carriesAll 186 = .ok (.getfield 61, 3) := by decide +kernel
theorem dX8_carriesAll_189 : decode cX8_carriesAll 189 = .ok (.invokevirtual 525, 3) := by decide +kernel
theorem dX8_carriesAll_192 : decode cX8_carriesAll 192 = .ok (.aload_n 0, 1) := by decide +kernel
theorem dX8_carriesAll_193 : decode cX8_carriesAll 193 = .ok (.aload_n 0, 1) := by decide +kernel
theorem dX8_carriesAll_194 : decode cX8_carriesAll 194 = .ok (.getfield 133, 3) := by decide +kernel
theorem dX8_carriesAll_197 : decode cX8_carriesAll 197 = .ok (.invokevirtual 525, 3) := by decide +kernel
theorem dX8_carriesAll_200 : decode cX8_carriesAll 200 = .ok (.return_, 1) := by decide +kernel
theorem dX8_image_0 : decode cX8_image 0 = .ok (.iload_n 1, 1) := by decide +kernel
theorem dX8_image_1 : decode cX8_image 1 = .ok (.i2l, 1) := by decide +kernel
theorem dX8_image_2 : decode cX8_image 2 = .ok (.lconst 0, 1) := by decide +kernel
theorem dX8_image_3 : decode cX8_image 3 = .ok (.ldc2_w 442, 3) := by decide +kernel
theorem dX8_image_6 : decode cX8_image 6 = .ok (.invokestatic 161, 3) := by decide +kernel
theorem dX8_image_9 : decode cX8_image 9 = .ok (.ifCond .ne 5, 3) := by decide +kernel
theorem dX8_image_12 : decode cX8_image 12 = .ok (.iconst (-1), 1) := by decide +kernel
theorem dX8_image_13 : decode cX8_image 13 = .ok (.ireturn, 1) := by decide +kernel
theorem dX8_image_14 : decode cX8_image 14 = .ok (.aload_n 0, 1) := by decide +kernel
theorem dX8_image_15 : decode cX8_image 15 = .ok (.getfield 154, 3) := by decide +kernel
theorem dX8_image_18 : decode cX8_image 18 = .ok (.iload_n 1, 1) := by decide +kernel
theorem dX8_image_19 : decode cX8_image 19 = .ok (.iconst 1, 1) := by decide +kernel
theorem dX8_image_20 : decode cX8_image 20 = .ok (.bastore, 1) := by decide +kernel
theorem dX8_image_21 : decode cX8_image 21 = .ok (.aload_n 0, 1) := by decide +kernel
theorem dX8_image_22 : decode cX8_image 22 = .ok (.iload_n 1, 1) := by decide +kernel
theorem dX8_image_23 : decode cX8_image 23 = .ok (.iconst 0, 1) := by decide +kernel
theorem dX8_image_24 : decode cX8_image 24 = .ok (.invokevirtual 439, 3) := by decide +kernel
theorem dX8_image_27 : decode cX8_image 27 = .ok (.aload_n 0, 1) := by decide +kernel
theorem dX8_image_28 : decode cX8_image 28 = .ok (.getfield 9, 3) := by decide +kernel
theorem dX8_image_31 : decode cX8_image 31 = .ok (.iconst 4, 1) := by decide +kernel
theorem dX8_image_32 : decode cX8_image 32 = .ok (.iaload, 1) := by decide +kernel
theorem dX8_image_33 : decode cX8_image 33 = .ok (.ireturn, 1) := by decide +kernel
theorem dX8_back_0 : decode cX8_back 0 = .ok (.iload_n 1, 1) := by decide +kernel
theorem dX8_back_1 : decode cX8_back 1 = .ok (.i2l, 1) := by decide +kernel
theorem dX8_back_2 : decode cX8_back 2 = .ok (.lconst 0, 1) := by decide +kernel
theorem dX8_back_3 : decode cX8_back 3 = .ok (.ldc2_w 442, 3) := by decide +kernel
theorem dX8_back_6 : decode cX8_back 6 = .ok (.invokestatic 161, 3) := by decide +kernel
theorem dX8_back_9 : decode cX8_back 9 = .ok (.ifCond .eq 12, 3) := by decide +kernel
theorem dX8_back_12 : decode cX8_back 12 = .ok (.aload_n 0, 1) := by decide +kernel
theorem dX8_back_13 : decode cX8_back 13 = .ok (.getfield 154, 3) := by decide +kernel
theorem dX8_back_16 : decode cX8_back 16 = .ok (.iload_n 1, 1) := by decide +kernel
theorem dX8_back_17 : decode cX8_back 17 = .ok (.baload, 1) := by decide +kernel
theorem dX8_back_18 : decode cX8_back 18 = .ok (.ifCond .ne 5, 3) := by decide +kernel
theorem dX8_back_21 : decode cX8_back 21 = .ok (.iconst (-1), 1) := by decide +kernel
theorem dX8_back_22 : decode cX8_back 22 = .ok (.ireturn, 1) := by decide +kernel
theorem dX8_back_23 : decode cX8_back 23 = .ok (.aload_n 0, 1) := by decide +kernel
theorem dX8_back_24 : decode cX8_back 24 = .ok (.iload_n 1, 1) := by decide +kernel
theorem dX8_back_25 : decode cX8_back 25 = .ok (.iconst 1, 1) := by decide +kernel
theorem dX8_back_26 : decode cX8_back 26 = .ok (.invokevirtual 439, 3) := by decide +kernel
theorem dX8_back_29 : decode cX8_back 29 = .ok (.aload_n 0, 1) := by decide +kernel
theorem dX8_back_30 : decode cX8_back 30 = .ok (.getfield 9, 3) := by decide +kernel
theorem dX8_back_33 : decode cX8_back 33 = .ok (.iconst 4, 1) := by decide +kernel
theorem dX8_back_34 : decode cX8_back 34 = .ok (.iaload, 1) := by decide +kernel
theorem dX8_back_35 : decode cX8_back 35 = .ok (.ireturn, 1) := by decide +kernel
