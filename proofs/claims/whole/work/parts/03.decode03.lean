theorem dJx00060_init_a7421_0 : decode cJx00060_init_a7421 0 = .ok (.aload_n 0, 1) := by decide +kernel
theorem dJx00060_init_a7421_1 : decode cJx00060_init_a7421 1 = .ok (.aload_n 1, 1) := by decide +kernel
theorem dJx00060_init_a7421_2 : decode cJx00060_init_a7421 2 = .ok (.invokespecial 7, 3) := by decide +kernel
theorem dJx00060_init_a7421_5 : decode cJx00060_init_a7421 5 = .ok (.return_, 1) := by decide +kernel
theorem dJ6_numberOfLeadingZeros_0f7a4_0 : decode cJ6_numberOfLeadingZeros_0f7a4 0 = .ok (.iload_n 0, 1) := by decide +kernel
theorem dJ6_numberOfLeadingZeros_0f7a4_1 : decode cJ6_numberOfLeadingZeros_0f7a4 1 = .ok (.ifCond .gt 14, 3) := by decide +kernel
theorem dJ6_numberOfLeadingZeros_0f7a4_4 : decode cJ6_numberOfLeadingZeros_0f7a4 4 = .ok (.iload_n 0, 1) := by decide +kernel
theorem dJ6_numberOfLeadingZeros_0f7a4_5 : decode cJ6_numberOfLeadingZeros_0f7a4 5 = .ok (.ifCond .ne 8, 3) := by decide +kernel
theorem dJ6_numberOfLeadingZeros_0f7a4_8 : decode cJ6_numberOfLeadingZeros_0f7a4 8 = .ok (.bipush 32, 2) := by decide +kernel
theorem dJ6_numberOfLeadingZeros_0f7a4_10 : decode cJ6_numberOfLeadingZeros_0f7a4 10 = .ok (.goto 4, 3) := by decide +kernel
theorem dJ6_numberOfLeadingZeros_0f7a4_13 : decode cJ6_numberOfLeadingZeros_0f7a4 13 = .ok (.iconst 0, 1) := by decide +kernel
theorem dJ6_numberOfLeadingZeros_0f7a4_14 : decode cJ6_numberOfLeadingZeros_0f7a4 14 = .ok (.ireturn, 1) := by decide +kernel
theorem dJ6_numberOfLeadingZeros_0f7a4_15 : decode cJ6_numberOfLeadingZeros_0f7a4 15 = .ok (.bipush 31, 2) := by decide +kernel
theorem dJ6_numberOfLeadingZeros_0f7a4_17 : decode cJ6_numberOfLeadingZeros_0f7a4 17 = .ok (.istore_n 1, 1) := by decide +kernel
theorem dJ6_numberOfLeadingZeros_0f7a4_18 : decode cJ6_numberOfLeadingZeros_0f7a4 18 = .ok (.iload_n 0, 1) := by decide +kernel
theorem dJ6_numberOfLeadingZeros_0f7a4_19 : decode cJ6_numberOfLeadingZeros_0f7a4 19 = .ok (.ldc_w 264, 3) := by decide +kernel
theorem dJ6_numberOfLeadingZeros_0f7a4_22 : decode cJ6_numberOfLeadingZeros_0f7a4 22 = .ok (.if_icmp .lt 11, 3) := by decide +kernel
theorem dJ6_numberOfLeadingZeros_0f7a4_25 : decode cJ6_numberOfLeadingZeros_0f7a4 25 = .ok (.iinc 1 (-16), 3) := by decide +kernel
theorem dJ6_numberOfLeadingZeros_0f7a4_28 : decode cJ6_numberOfLeadingZeros_0f7a4 28 = .ok (.iload_n 0, 1) := by decide +kernel
theorem dJ6_numberOfLeadingZeros_0f7a4_29 : decode cJ6_numberOfLeadingZeros_0f7a4 29 = .ok (.bipush 16, 2) := by decide +kernel
theorem dJ6_numberOfLeadingZeros_0f7a4_31 : decode cJ6_numberOfLeadingZeros_0f7a4 31 = .ok (.iushr, 1) := by decide +kernel
theorem dJ6_numberOfLeadingZeros_0f7a4_32 : decode cJ6_numberOfLeadingZeros_0f7a4 32 = .ok (.istore_n 0, 1) := by decide +kernel
theorem dJ6_numberOfLeadingZeros_0f7a4_33 : decode cJ6_numberOfLeadingZeros_0f7a4 33 = .ok (.iload_n 0, 1) := by decide +kernel
theorem dJ6_numberOfLeadingZeros_0f7a4_34 : decode cJ6_numberOfLeadingZeros_0f7a4 34 = .ok (.sipush 256, 3) := by decide +kernel
theorem dJ6_numberOfLeadingZeros_0f7a4_37 : decode cJ6_numberOfLeadingZeros_0f7a4 37 = .ok (.if_icmp .lt 11, 3) := by decide +kernel
theorem dJ6_numberOfLeadingZeros_0f7a4_40 : decode cJ6_numberOfLeadingZeros_0f7a4 40 = .ok (.iinc 1 (-8), 3) := by decide +kernel
theorem dJ6_numberOfLeadingZeros_0f7a4_43 : decode cJ6_numberOfLeadingZeros_0f7a4 43 = .ok (.iload_n 0, 1) := by decide +kernel
theorem dJ6_numberOfLeadingZeros_0f7a4_44 : decode cJ6_numberOfLeadingZeros_0f7a4 44 = .ok (.bipush 8, 2) := by decide +kernel
theorem dJ6_numberOfLeadingZeros_0f7a4_46 : decode cJ6_numberOfLeadingZeros_0f7a4 46 = .ok (.iushr, 1) := by decide +kernel
theorem dJ6_numberOfLeadingZeros_0f7a4_47 : decode cJ6_numberOfLeadingZeros_0f7a4 47 = .ok (.istore_n 0, 1) := by decide +kernel
theorem dJ6_numberOfLeadingZeros_0f7a4_48 : decode cJ6_numberOfLeadingZeros_0f7a4 48 = .ok (.iload_n 0, 1) := by decide +kernel
theorem dJ6_numberOfLeadingZeros_0f7a4_49 : decode cJ6_numberOfLeadingZeros_0f7a4 49 = .ok (.bipush 16, 2) := by decide +kernel
theorem dJ6_numberOfLeadingZeros_0f7a4_51 : decode cJ6_numberOfLeadingZeros_0f7a4 51 = .ok (.if_icmp .lt 10, 3) := by decide +kernel
theorem dJ6_numberOfLeadingZeros_0f7a4_54 : decode cJ6_numberOfLeadingZeros_0f7a4 54 = .ok (.iinc 1 (-4), 3) := by decide +kernel
theorem dJ6_numberOfLeadingZeros_0f7a4_57 : decode cJ6_numberOfLeadingZeros_0f7a4 57 = .ok (.iload_n 0, 1) := by decide +kernel
theorem dJ6_numberOfLeadingZeros_0f7a4_58 : decode cJ6_numberOfLeadingZeros_0f7a4 58 = .ok (.iconst 4, 1) := by decide +kernel
theorem dJ6_numberOfLeadingZeros_0f7a4_59 : decode cJ6_numberOfLeadingZeros_0f7a4 59 = .ok (.iushr, 1) := by decide +kernel
theorem dJ6_numberOfLeadingZeros_0f7a4_60 : decode cJ6_numberOfLeadingZeros_0f7a4 60 = .ok (.istore_n 0, 1) := by decide +kernel
theorem dJ6_numberOfLeadingZeros_0f7a4_61 : decode cJ6_numberOfLeadingZeros_0f7a4 61 = .ok (.iload_n 0, 1) := by decide +kernel
theorem dJ6_numberOfLeadingZeros_0f7a4_62 : decode cJ6_numberOfLeadingZeros_0f7a4 62 = .ok (.iconst 4, 1) := by decide +kernel
theorem dJ6_numberOfLeadingZeros_0f7a4_63 : decode cJ6_numberOfLeadingZeros_0f7a4 63 = .ok (.if_icmp .lt 10, 3) := by decide +kernel
theorem dJ6_numberOfLeadingZeros_0f7a4_66 : decode cJ6_numberOfLeadingZeros_0f7a4 66 = .ok (.iinc 1 (-2), 3) := by decide +kernel
theorem dJ6_numberOfLeadingZeros_0f7a4_69 : decode cJ6_numberOfLeadingZeros_0f7a4 69 = .ok (.iload_n 0, 1) := by decide +kernel
theorem dJ6_numberOfLeadingZeros_0f7a4_70 : decode cJ6_numberOfLeadingZeros_0f7a4 70 = .ok (.iconst 2, 1) := by decide +kernel
theorem dJ6_numberOfLeadingZeros_0f7a4_71 : decode cJ6_numberOfLeadingZeros_0f7a4 71 = .ok (.iushr, 1) := by decide +kernel
theorem dJ6_numberOfLeadingZeros_0f7a4_72 : decode cJ6_numberOfLeadingZeros_0f7a4 72 = .ok (.istore_n 0, 1) := by decide +kernel
theorem dJ6_numberOfLeadingZeros_0f7a4_73 : decode cJ6_numberOfLeadingZeros_0f7a4 73 = .ok (.iload_n 1, 1) := by decide +kernel
theorem dJ6_numberOfLeadingZeros_0f7a4_74 : decode cJ6_numberOfLeadingZeros_0f7a4 74 = .ok (.iload_n 0, 1) := by decide +kernel
theorem dJ6_numberOfLeadingZeros_0f7a4_75 : decode cJ6_numberOfLeadingZeros_0f7a4 75 = .ok (.iconst 1, 1) := by decide +kernel
theorem dJ6_numberOfLeadingZeros_0f7a4_76 : decode cJ6_numberOfLeadingZeros_0f7a4 76 = .ok (.iushr, 1) := by decide +kernel
theorem dJ6_numberOfLeadingZeros_0f7a4_77 : decode cJ6_numberOfLeadingZeros_0f7a4 77 = .ok (.isub, 1) := by decide +kernel
theorem dJ6_numberOfLeadingZeros_0f7a4_78 : decode cJ6_numberOfLeadingZeros_0f7a4 78 = .ok (.ireturn, 1) := by decide +kernel
theorem dJ13_numberOfLeadingZeros_95d88_0 : decode cJ13_numberOfLeadingZeros_95d88 0 = .ok (.lload_n 0, 1) := by decide +kernel
theorem dJ13_numberOfLeadingZeros_95d88_1 : decode cJ13_numberOfLeadingZeros_95d88 1 = .ok (.bipush 32, 2) := by decide +kernel
theorem dJ13_numberOfLeadingZeros_95d88_3 : decode cJ13_numberOfLeadingZeros_95d88 3 = .ok (.lushr, 1) := by decide +kernel
theorem dJ13_numberOfLeadingZeros_95d88_4 : decode cJ13_numberOfLeadingZeros_95d88 4 = .ok (.l2i, 1) := by decide +kernel
theorem dJ13_numberOfLeadingZeros_95d88_5 : decode cJ13_numberOfLeadingZeros_95d88 5 = .ok (.istore_n 2, 1) := by decide +kernel
theorem dJ13_numberOfLeadingZeros_95d88_6 : decode cJ13_numberOfLeadingZeros_95d88 6 = .ok (.iload_n 2, 1) := by decide +kernel
theorem dJ13_numberOfLeadingZeros_95d88_7 : decode cJ13_numberOfLeadingZeros_95d88 7 = .ok (.ifCond .ne 14, 3) := by decide +kernel
theorem dJ13_numberOfLeadingZeros_95d88_10 : decode cJ13_numberOfLeadingZeros_95d88 10 = .ok (.bipush 32, 2) := by decide +kernel
theorem dJ13_numberOfLeadingZeros_95d88_12 : decode cJ13_numberOfLeadingZeros_95d88 12 = .ok (.lload_n 0, 1) := by decide +kernel
theorem dJ13_numberOfLeadingZeros_95d88_13 : decode cJ13_numberOfLeadingZeros_95d88 13 = .ok (.l2i, 1) := by decide +kernel
theorem dJ13_numberOfLeadingZeros_95d88_14 : decode cJ13_numberOfLeadingZeros_95d88 14 = .ok (.invokestatic 308, 3) := by decide +kernel
theorem dJ13_numberOfLeadingZeros_95d88_17 : decode cJ13_numberOfLeadingZeros_95d88 17 = .ok (.iadd, 1) := by decide +kernel
theorem dJ13_numberOfLeadingZeros_95d88_18 : decode cJ13_numberOfLeadingZeros_95d88 18 = .ok (.goto 7, 3) := by decide +kernel
theorem dJ13_numberOfLeadingZeros_95d88_21 : decode cJ13_numberOfLeadingZeros_95d88 21 = .ok (.iload_n 2, 1) := by decide +kernel
theorem dJ13_numberOfLeadingZeros_95d88_22 : decode cJ13_numberOfLeadingZeros_95d88 22 = .ok (.invokestatic 308, 3) := by decide +kernel
theorem dJ13_numberOfLeadingZeros_95d88_25 : decode cJ13_numberOfLeadingZeros_95d88 25 = .ok (.ireturn, 1) := by decide +kernel
theorem dJ9_abs_067f4_0 : decode cJ9_abs_067f4 0 = .ok (.lload_n 0, 1) := by decide +kernel
theorem dJ9_abs_067f4_1 : decode cJ9_abs_067f4 1 = .ok (.lconst 0, 1) := by decide +kernel
theorem dJ9_abs_067f4_2 : decode cJ9_abs_067f4 2 = .ok (.lcmp, 1) := by decide +kernel
theorem dJ9_abs_067f4_3 : decode cJ9_abs_067f4 3 = .ok (.ifCond .ge 8, 3) := by decide +kernel
theorem dJ9_abs_067f4_6 : decode cJ9_abs_067f4 6 = .ok (.lload_n 0, 1) := by decide +kernel
theorem dJ9_abs_067f4_7 : decode cJ9_abs_067f4 7 = .ok (.lneg, 1) := by decide +kernel
theorem dJ9_abs_067f4_8 : decode cJ9_abs_067f4 8 = .ok (.goto 4, 3) := by decide +kernel
theorem dJ9_abs_067f4_11 : decode cJ9_abs_067f4 11 = .ok (.lload_n 0, 1) := by decide +kernel
theorem dJ9_abs_067f4_12 : decode cJ9_abs_067f4 12 = .ok (.lreturn, 1) := by decide +kernel
theorem dJ9_max_7cf53_0 : decode cJ9_max_7cf53 0 = .ok (.iload_n 0, 1) := by decide +kernel
theorem dJ9_max_7cf53_1 : decode cJ9_max_7cf53 1 = .ok (.iload_n 1, 1) := by decide +kernel
theorem dJ9_max_7cf53_2 : decode cJ9_max_7cf53 2 = .ok (.if_icmp .lt 7, 3) := by decide +kernel
theorem dJ9_max_7cf53_5 : decode cJ9_max_7cf53 5 = .ok (.iload_n 0, 1) := by decide +kernel
theorem dJ9_max_7cf53_6 : decode cJ9_max_7cf53 6 = .ok (.goto 4, 3) := by decide +kernel
theorem dJ9_max_7cf53_9 : decode cJ9_max_7cf53 9 = .ok (.iload_n 1, 1) := by decide +kernel
theorem dJ9_max_7cf53_10 : decode cJ9_max_7cf53 10 = .ok (.ireturn, 1) := by decide +kernel
theorem dJ9_max_f86c9_0 : decode cJ9_max_f86c9 0 = .ok (.lload_n 0, 1) := by decide +kernel
theorem dJ9_max_f86c9_1 : decode cJ9_max_f86c9 1 = .ok (.lload_n 2, 1) := by decide +kernel
theorem dJ9_max_f86c9_2 : decode cJ9_max_f86c9 2 = .ok (.lcmp, 1) := by decide +kernel
theorem dJ9_max_f86c9_3 : decode cJ9_max_f86c9 3 = .ok (.ifCond .lt 7, 3) := by decide +kernel
theorem dJ9_max_f86c9_6 : decode cJ9_max_f86c9 6 = .ok (.lload_n 0, 1) := by decide +kernel
theorem dJ9_max_f86c9_7 : decode cJ9_max_f86c9 7 = .ok (.goto 4, 3) := by decide +kernel
theorem dJ9_max_f86c9_10 : decode cJ9_max_f86c9 10 = .ok (.lload_n 2, 1) := by decide +kernel
theorem dJ9_max_f86c9_11 : decode cJ9_max_f86c9 11 = .ok (.lreturn, 1) := by decide +kernel
theorem dJ9_min_7cf53_0 : decode cJ9_min_7cf53 0 = .ok (.iload_n 0, 1) := by decide +kernel
theorem dJ9_min_7cf53_1 : decode cJ9_min_7cf53 1 = .ok (.iload_n 1, 1) := by decide +kernel
theorem dJ9_min_7cf53_2 : decode cJ9_min_7cf53 2 = .ok (.if_icmp .gt 7, 3) := by decide +kernel
theorem dJ9_min_7cf53_5 : decode cJ9_min_7cf53 5 = .ok (.iload_n 0, 1) := by decide +kernel
theorem dJ9_min_7cf53_6 : decode cJ9_min_7cf53 6 = .ok (.goto 4, 3) := by decide +kernel
theorem dJ9_min_7cf53_9 : decode cJ9_min_7cf53 9 = .ok (.iload_n 1, 1) := by decide +kernel
theorem dJ9_min_7cf53_10 : decode cJ9_min_7cf53 10 = .ok (.ireturn, 1) := by decide +kernel
theorem dX3_init_0 : decode cX3_init 0 = .ok (.aload_n 0, 1) := by decide +kernel
theorem dX3_init_1 : decode cX3_init 1 = .ok (.invokespecial 3, 3) := by decide +kernel
theorem dX3_init_4 : decode cX3_init 4 = .ok (.aload_n 0, 1) := by decide +kernel
theorem dX3_init_5 : decode cX3_init 5 = .ok (.iload_n 1, 1) := by decide +kernel
theorem dX3_init_6 : decode cX3_init 6 = .ok (.iconst 0, 1) := by decide +kernel
theorem dX3_init_7 : decode cX3_init 7 = .ok (.invokestatic 9, 3) := by decide +kernel
theorem dX3_init_10 : decode cX3_init 10 = .ok (.newarray .long, 2) := by decide +kernel
theorem dX3_init_12 : decode cX3_init 12 = .ok (.putfield 15, 3) := by decide +kernel
theorem dX3_init_15 : decode cX3_init 15 = .ok (.return_, 1) := by decide +kernel
theorem dX3_of_0 : decode cX3_of 0 = .ok (.new 1, 3) := by decide +kernel
theorem dX3_of_3 : decode cX3_of 3 = .ok (.dup, 1) := by decide +kernel
theorem dX3_of_4 : decode cX3_of 4 = .ok (.iconst 3, 1) := by decide +kernel
theorem dX3_of_5 : decode cX3_of 5 = .ok (.invokespecial 19, 3) := by decide +kernel
theorem dX3_of_8 : decode cX3_of 8 = .ok (.astore_n 2, 1) := by decide +kernel
theorem dX3_of_9 : decode cX3_of 9 = .ok (.aload_n 2, 1) := by decide +kernel
theorem dX3_of_10 : decode cX3_of 10 = .ok (.lload_n 0, 1) := by decide +kernel
theorem dX3_of_11 : decode cX3_of 11 = .ok (.invokevirtual 22, 3) := by decide +kernel
theorem dX3_of_14 : decode cX3_of 14 = .ok (.aload_n 2, 1) := by decide +kernel
theorem dX3_of_15 : decode cX3_of 15 = .ok (.areturn, 1) := by decide +kernel
theorem dX3_copyOf_0 : decode cX3_copyOf 0 = .ok (.new 1, 3) := by decide +kernel
theorem dX3_copyOf_3 : decode cX3_copyOf 3 = .ok (.dup, 1) := by decide +kernel
theorem dX3_copyOf_4 : decode cX3_copyOf 4 = .ok (.aload_n 0, 1) := by decide +kernel
theorem dX3_copyOf_5 : decode cX3_copyOf 5 = .ok (.getfield 26, 3) := by decide +kernel
theorem dX3_copyOf_8 : decode cX3_copyOf 8 = .ok (.invokespecial 19, 3) := by decide +kernel
theorem dX3_copyOf_11 : decode cX3_copyOf 11 = .ok (.astore_n 1, 1) := by decide +kernel
theorem dX3_copyOf_12 : decode cX3_copyOf 12 = .ok (.aload_n 1, 1) := by decide +kernel
theorem dX3_copyOf_13 : decode cX3_copyOf 13 = .ok (.aload_n 0, 1) := by decide +kernel
theorem dX3_copyOf_14 : decode cX3_copyOf 14 = .ok (.invokevirtual 30, 3) := by decide +kernel
theorem dX3_copyOf_17 : decode cX3_copyOf 17 = .ok (.aload_n 1, 1) := by decide +kernel
theorem dX3_copyOf_18 : decode cX3_copyOf 18 = .ok (.areturn, 1) := by decide +kernel
theorem dX3_limb_0 : decode cX3_limb 0 = .ok (.iload_n 1, 1) := by decide +kernel
theorem dX3_limb_1 : decode cX3_limb 1 = .ok (.ifCond .lt 29, 3) := by decide +kernel
theorem dX3_limb_4 : decode cX3_limb 4 = .ok (.iload_n 1, 1) := by decide +kernel
theorem dX3_limb_5 : decode cX3_limb 5 = .ok (.aload_n 0, 1) := by decide +kernel
theorem dX3_limb_6 : decode cX3_limb 6 = .ok (.getfield 26, 3) := by decide +kernel
theorem dX3_limb_9 : decode cX3_limb 9 = .ok (.if_icmp .ge 21, 3) := by decide +kernel
theorem dX3_limb_12 : decode cX3_limb 12 = .ok (.iload_n 1, 1) := by decide +kernel
theorem dX3_limb_13 : decode cX3_limb 13 = .ok (.aload_n 0, 1) := by decide +kernel
theorem dX3_limb_14 : decode cX3_limb 14 = .ok (.getfield 15, 3) := by decide +kernel
theorem dX3_limb_17 : decode cX3_limb 17 = .ok (.arraylength, 1) := by decide +kernel
theorem dX3_limb_18 : decode cX3_limb 18 = .ok (.if_icmp .ge 12, 3) := by decide +kernel
theorem dX3_limb_21 : decode cX3_limb 21 = .ok (.aload_n 0, 1) := by decide +kernel
theorem dX3_limb_22 : decode cX3_limb 22 = .ok (.getfield 15, 3) := by decide +kernel
theorem dX3_limb_25 : decode cX3_limb 25 = .ok (.iload_n 1, 1) := by decide +kernel
theorem dX3_limb_26 : decode cX3_limb 26 = .ok (.laload, 1) := by decide +kernel
theorem dX3_limb_27 : decode cX3_limb 27 = .ok (.goto 4, 3) := by decide +kernel
theorem dX3_limb_30 : decode cX3_limb 30 = .ok (.lconst 0, 1) := by decide +kernel
theorem dX3_limb_31 : decode cX3_limb 31 = .ok (.lreturn, 1) := by decide +kernel
theorem dX3_setLimb_0 : decode cX3_setLimb 0 = .ok (.iload_n 1, 1) := by decide +kernel
theorem dX3_setLimb_1 : decode cX3_setLimb 1 = .ok (.ifCond .lt 19, 3) := by decide +kernel
theorem dX3_setLimb_4 : decode cX3_setLimb 4 = .ok (.iload_n 1, 1) := by decide +kernel
theorem dX3_setLimb_5 : decode cX3_setLimb 5 = .ok (.aload_n 0, 1) := by decide +kernel
theorem dX3_setLimb_6 : decode cX3_setLimb 6 = .ok (.getfield 15, 3) := by decide +kernel
theorem dX3_setLimb_9 : decode cX3_setLimb 9 = .ok (.arraylength, 1) := by decide +kernel
theorem dX3_setLimb_10 : decode cX3_setLimb 10 = .ok (.if_icmp .ge 10, 3) := by decide +kernel
theorem dX3_setLimb_13 : decode cX3_setLimb 13 = .ok (.aload_n 0, 1) := by decide +kernel
theorem dX3_setLimb_14 : decode cX3_setLimb 14 = .ok (.getfield 15, 3) := by decide +kernel
theorem dX3_setLimb_17 : decode cX3_setLimb 17 = .ok (.iload_n 1, 1) := by decide +kernel
theorem dX3_setLimb_18 : decode cX3_setLimb 18 = .ok (.lload_n 2, 1) := by decide +kernel
theorem dX3_setLimb_19 : decode cX3_setLimb 19 = .ok (.lastore, 1) := by decide +kernel
theorem dX3_setLimb_20 : decode cX3_setLimb 20 = .ok (.return_, 1) := by decide +kernel
theorem dX3_settle_0 : decode cX3_settle 0 = .ok (.iload_n 1, 1) := by decide +kernel
theorem dX3_settle_1 : decode cX3_settle 1 = .ok (.aload_n 0, 1) := by decide +kernel
theorem dX3_settle_2 : decode cX3_settle 2 = .ok (.getfield 15, 3) := by decide +kernel
theorem dX3_settle_5 : decode cX3_settle 5 = .ok (.arraylength, 1) := by decide +kernel
theorem dX3_settle_6 : decode cX3_settle 6 = .ok (.invokestatic 34, 3) := by decide +kernel
theorem dX3_settle_9 : decode cX3_settle 9 = .ok (.istore_n 2, 1) := by decide +kernel
theorem dX3_settle_10 : decode cX3_settle 10 = .ok (.iload_n 2, 1) := by decide +kernel
theorem dX3_settle_11 : decode cX3_settle 11 = .ok (.ifCond .le 31, 3) := by decide +kernel
theorem dX3_settle_14 : decode cX3_settle 14 = .ok (.iload_n 2, 1) := by decide +kernel
theorem dX3_settle_15 : decode cX3_settle 15 = .ok (.aload_n 0, 1) := by decide +kernel
theorem dX3_settle_16 : decode cX3_settle 16 = .ok (.getfield 15, 3) := by decide +kernel
theorem dX3_settle_19 : decode cX3_settle 19 = .ok (.arraylength, 1) := by decide +kernel
theorem dX3_settle_20 : decode cX3_settle 20 = .ok (.if_icmp .gt 22, 3) := by decide +kernel
theorem dX3_settle_23 : decode cX3_settle 23 = .ok (.aload_n 0, 1) := by decide +kernel
theorem dX3_settle_24 : decode cX3_settle 24 = .ok (.getfield 15, 3) := by decide +kernel
theorem dX3_settle_27 : decode cX3_settle 27 = .ok (.iload_n 2, 1) := by decide +kernel
theorem dX3_settle_28 : decode cX3_settle 28 = .ok (.iconst 1, 1) := by decide +kernel
theorem dX3_settle_29 : decode cX3_settle 29 = .ok (.isub, 1) := by decide +kernel
theorem dX3_settle_30 : decode cX3_settle 30 = .ok (.laload, 1) := by decide +kernel
theorem dX3_settle_31 : decode cX3_settle 31 = .ok (.lconst 0, 1) := by decide +kernel
theorem dX3_settle_32 : decode cX3_settle 32 = .ok (.lcmp, 1) := by decide +kernel
theorem dX3_settle_33 : decode cX3_settle 33 = .ok (.ifCond .ne 9, 3) := by decide +kernel
theorem dX3_settle_36 : decode cX3_settle 36 = .ok (.iinc 2 (-1), 3) := by decide +kernel
theorem dX3_settle_39 : decode cX3_settle 39 = .ok (.goto (-29), 3) := by decide +kernel
theorem dX3_settle_42 : decode cX3_settle 42 = .ok (.aload_n 0, 1) := by decide +kernel
theorem dX3_settle_43 : decode cX3_settle 43 = .ok (.iload_n 2, 1) := by decide +kernel
theorem dX3_settle_44 : decode cX3_settle 44 = .ok (.iconst 0, 1) := by decide +kernel
theorem dX3_settle_45 : decode cX3_settle 45 = .ok (.invokestatic 9, 3) := by decide +kernel
theorem dX3_settle_48 : decode cX3_settle 48 = .ok (.putfield 26, 3) := by decide +kernel
theorem dX3_settle_51 : decode cX3_settle 51 = .ok (.return_, 1) := by decide +kernel
theorem dX3_isZero_0 : decode cX3_isZero 0 = .ok (.aload_n 0, 1) := by decide +kernel
theorem dX3_isZero_1 : decode cX3_isZero 1 = .ok (.getfield 26, 3) := by decide +kernel
theorem dX3_isZero_4 : decode cX3_isZero 4 = .ok (.ifCond .ne 7, 3) := by decide +kernel
theorem dX3_isZero_7 : decode cX3_isZero 7 = .ok (.iconst 1, 1) := by decide +kernel
theorem dX3_isZero_8 : decode cX3_isZero 8 = .ok (.goto 4, 3) := by decide +kernel
theorem dX3_isZero_11 : decode cX3_isZero 11 = .ok (.iconst 0, 1) := by decide +kernel
theorem dX3_isZero_12 : decode cX3_isZero 12 = .ok (.ireturn, 1) := by decide +kernel
theorem dX3_isOdd_0 : decode cX3_isOdd 0 = .ok (.aload_n 0, 1) := by decide +kernel
theorem dX3_isOdd_1 : decode cX3_isOdd 1 = .ok (.iconst 0, 1) := by decide +kernel
theorem dX3_isOdd_2 : decode cX3_isOdd 2 = .ok (.invokevirtual 37, 3) := by decide +kernel
theorem dX3_isOdd_5 : decode cX3_isOdd 5 = .ok (.lconst 1, 1) := by decide +kernel
theorem dX3_isOdd_6 : decode cX3_isOdd 6 = .ok (.land, 1) := by decide +kernel
theorem dX3_isOdd_7 : decode cX3_isOdd 7 = .ok (.lconst 0, 1) := by decide +kernel
theorem dX3_isOdd_8 : decode cX3_isOdd 8 = .ok (.lcmp, 1) := by decide +kernel
theorem dX3_isOdd_9 : decode cX3_isOdd 9 = .ok (.ifCond .eq 7, 3) := by decide +kernel
theorem dX3_isOdd_12 : decode cX3_isOdd 12 = .ok (.iconst 1, 1) := by decide +kernel
theorem dX3_isOdd_13 : decode cX3_isOdd 13 = .ok (.goto 4, 3) := by decide +kernel
theorem dX3_isOdd_16 : decode cX3_isOdd 16 = .ok (.iconst 0, 1) := by decide +kernel
theorem dX3_isOdd_17 : decode cX3_isOdd 17 = .ok (.ireturn, 1) := by decide +kernel
theorem dX3_width_0 : decode cX3_width 0 = .ok (.aload_n 0, 1) := by decide +kernel
theorem dX3_width_1 : decode cX3_width 1 = .ok (.getfield 26, 3) := by decide +kernel
theorem dX3_width_4 : decode cX3_width 4 = .ok (.ifCond .ne 7, 3) := by decide +kernel
theorem dX3_width_7 : decode cX3_width 7 = .ok (.iconst 0, 1) := by decide +kernel
theorem dX3_width_8 : decode cX3_width 8 = .ok (.goto 29, 3) := by decide +kernel
theorem dX3_width_11 : decode cX3_width 11 = .ok (.bipush 31, 2) := by decide +kernel
theorem dX3_width_13 : decode cX3_width 13 = .ok (.aload_n 0, 1) := by decide +kernel
theorem dX3_width_14 : decode cX3_width 14 = .ok (.getfield 26, 3) := by decide +kernel
theorem dX3_width_17 : decode cX3_width 17 = .ok (.iconst 1, 1) := by decide +kernel
theorem dX3_width_18 : decode cX3_width 18 = .ok (.isub, 1) := by decide +kernel
theorem dX3_width_19 : decode cX3_width 19 = .ok (.imul, 1) := by decide +kernel
theorem dX3_width_20 : decode cX3_width 20 = .ok (.bipush 64, 2) := by decide +kernel
theorem dX3_width_22 : decode cX3_width 22 = .ok (.iadd, 1) := by decide +kernel
theorem dX3_width_23 : decode cX3_width 23 = .ok (.aload_n 0, 1) := by decide +kernel
theorem dX3_width_24 : decode cX3_width 24 = .ok (.aload_n 0, 1) := by decide +kernel
theorem dX3_width_25 : decode cX3_width 25 = .ok (.getfield 26, 3) := by decide +kernel
theorem dX3_width_28 : decode cX3_width 28 = .ok (.iconst 1, 1) := by decide +kernel
theorem dX3_width_29 : decode cX3_width 29 = .ok (.isub, 1) := by decide +kernel
theorem dX3_width_30 : decode cX3_width 30 = .ok (.invokevirtual 37, 3) := by decide +kernel
theorem dX3_width_33 : decode cX3_width 33 = .ok (.invokestatic 41, 3) := by decide +kernel
theorem dX3_width_36 : decode cX3_width 36 = .ok (.isub, 1) := by decide +kernel
theorem dX3_width_37 : decode cX3_width 37 = .ok (.ireturn, 1) := by decide +kernel
theorem dX3_window_0 : decode cX3_window 0 = .ok (.iload_n 1, 1) := by decide +kernel
theorem dX3_window_1 : decode cX3_window 1 = .ok (.bipush 31, 2) := by decide +kernel
theorem dX3_window_3 : decode cX3_window 3 = .ok (.idiv, 1) := by decide +kernel
theorem dX3_window_4 : decode cX3_window 4 = .ok (.istore_n 2, 1) := by decide +kernel
theorem dX3_window_5 : decode cX3_window 5 = .ok (.iload_n 1, 1) := by decide +kernel
theorem dX3_window_6 : decode cX3_window 6 = .ok (.bipush 31, 2) := by decide +kernel
theorem dX3_window_8 : decode cX3_window 8 = .ok (.irem, 1) := by decide +kernel
theorem dX3_window_9 : decode cX3_window 9 = .ok (.istore_n 3, 1) := by decide +kernel
theorem dX3_window_10 : decode cX3_window 10 = .ok (.aload_n 0, 1) := by decide +kernel
theorem dX3_window_11 : decode cX3_window 11 = .ok (.iload_n 2, 1) := by decide +kernel
theorem dX3_window_12 : decode cX3_window 12 = .ok (.invokevirtual 37, 3) := by decide +kernel
theorem dX3_window_15 : decode cX3_window 15 = .ok (.iload_n 3, 1) := by decide +kernel
theorem dX3_window_16 : decode cX3_window 16 = .ok (.lshr, 1) := by decide +kernel
theorem dX3_window_17 : decode cX3_window 17 = .ok (.aload_n 0, 1) := by decide +kernel
theorem dX3_window_18 : decode cX3_window 18 = .ok (.iload_n 2, 1) := by decide +kernel
theorem dX3_window_19 : decode cX3_window 19 = .ok (.iconst 1, 1) := by decide +kernel
theorem dX3_window_20 : decode cX3_window 20 = .ok (.iadd, 1) := by decide +kernel
theorem dX3_window_21 : decode cX3_window 21 = .ok (.invokevirtual 37, 3) := by decide +kernel
theorem dX3_window_24 : decode cX3_window 24 = .ok (.bipush 31, 2) := by decide +kernel
theorem dX3_window_26 : decode cX3_window 26 = .ok (.iload_n 3, 1) := by decide +kernel
theorem dX3_window_27 : decode cX3_window 27 = .ok (.isub, 1) := by decide +kernel
theorem dX3_window_28 : decode cX3_window 28 = .ok (.lshl, 1) := by decide +kernel
theorem dX3_window_29 : decode cX3_window 29 = .ok (.lor, 1) := by decide +kernel
theorem dX3_window_30 : decode cX3_window 30 = .ok (.aload_n 0, 1) := by decide +kernel
theorem dX3_window_31 : decode cX3_window 31 = .ok (.iload_n 2, 1) := by decide +kernel
theorem dX3_window_32 : decode cX3_window 32 = .ok (.iconst 2, 1) := by decide +kernel
theorem dX3_window_33 : decode cX3_window 33 = .ok (.iadd, 1) := by decide +kernel
theorem dX3_window_34 : decode cX3_window 34 = .ok (.invokevirtual 37, 3) := by decide +kernel
theorem dX3_window_37 : decode cX3_window 37 = .ok (.bipush 62, 2) := by decide +kernel
theorem dX3_window_39 : decode cX3_window 39 = .ok (.iload_n 3, 1) := by decide +kernel
theorem dX3_window_40 : decode cX3_window 40 = .ok (.isub, 1) := by decide +kernel
theorem dX3_window_41 : decode cX3_window 41 = .ok (.lshl, 1) := by decide +kernel
theorem dX3_window_42 : decode cX3_window 42 = .ok (.lor, 1) := by decide +kernel
theorem dX3_window_43 : decode cX3_window 43 = .ok (.lstore 4, 2) := by decide +kernel
theorem dX3_window_45 : decode cX3_window 45 = .ok (.lload 4, 2) := by decide +kernel
theorem dX3_window_47 : decode cX3_window 47 = .ok (.ldc2_w 47, 3) := by decide +kernel
theorem dX3_window_50 : decode cX3_window 50 = .ok (.land, 1) := by decide +kernel
theorem dX3_window_51 : decode cX3_window 51 = .ok (.lreturn, 1) := by decide +kernel
theorem dX3_compareWith_0 : decode cX3_compareWith 0 = .ok (.aload_n 0, 1) := by decide +kernel
theorem dX3_compareWith_1 : decode cX3_compareWith 1 = .ok (.getfield 26, 3) := by decide +kernel
theorem dX3_compareWith_4 : decode cX3_compareWith 4 = .ok (.aload_n 1, 1) := by decide +kernel
theorem dX3_compareWith_5 : decode cX3_compareWith 5 = .ok (.getfield 26, 3) := by decide +kernel
theorem dX3_compareWith_8 : decode cX3_compareWith 8 = .ok (.if_icmp .eq 20, 3) := by decide +kernel
theorem dX3_compareWith_11 : decode cX3_compareWith 11 = .ok (.aload_n 0, 1) := by decide +kernel
theorem dX3_compareWith_12 : decode cX3_compareWith 12 = .ok (.getfield 26, 3) := by decide +kernel
theorem dX3_compareWith_15 : decode cX3_compareWith 15 = .ok (.aload_n 1, 1) := by decide +kernel
theorem dX3_compareWith_16 : decode cX3_compareWith 16 = .ok (.getfield 26, 3) := by decide +kernel
theorem dX3_compareWith_19 : decode cX3_compareWith 19 = .ok (.if_icmp .ge 7, 3) := by decide +kernel
theorem dX3_compareWith_22 : decode cX3_compareWith 22 = .ok (.iconst (-1), 1) := by decide +kernel
theorem dX3_compareWith_23 : decode cX3_compareWith 23 = .ok (.goto 4, 3) := by decide +kernel
theorem dX3_compareWith_26 : decode cX3_compareWith 26 = .ok (.iconst 1, 1) := by decide +kernel
theorem dX3_compareWith_27 : decode cX3_compareWith 27 = .ok (.ireturn, 1) := by decide +kernel
theorem dX3_compareWith_28 : decode cX3_compareWith 28 = .ok (.aload_n 0, 1) := by decide +kernel
theorem dX3_compareWith_29 : decode cX3_compareWith 29 = .ok (.getfield 26, 3) := by decide +kernel
theorem dX3_compareWith_32 : decode cX3_compareWith 32 = .ok (.iconst 1, 1) := by decide +kernel
theorem dX3_compareWith_33 : decode cX3_compareWith 33 = .ok (.isub, 1) := by decide +kernel
theorem dX3_compareWith_34 : decode cX3_compareWith 34 = .ok (.istore_n 2, 1) := by decide +kernel
theorem dX3_compareWith_35 : decode cX3_compareWith 35 = .ok (.iload_n 2, 1) := by decide +kernel
theorem dX3_compareWith_36 : decode cX3_compareWith 36 = .ok (.ifCond .lt 43, 3) := by decide +kernel
theorem dX3_compareWith_39 : decode cX3_compareWith 39 = .ok (.aload_n 0, 1) := by decide +kernel
theorem dX3_compareWith_40 : decode cX3_compareWith 40 = .ok (.iload_n 2, 1) := by decide +kernel
theorem dX3_compareWith_41 : decode cX3_compareWith 41 = .ok (.invokevirtual 37, 3) := by decide +kernel
theorem dX3_compareWith_44 : decode cX3_compareWith 44 = .ok (.aload_n 1, 1) := by decide +kernel
theorem dX3_compareWith_45 : decode cX3_compareWith 45 = .ok (.iload_n 2, 1) := by decide +kernel
theorem dX3_compareWith_46 : decode cX3_compareWith 46 = .ok (.invokevirtual 37, 3) := by decide +kernel
theorem dX3_compareWith_49 : decode cX3_compareWith 49 = .ok (.lcmp, 1) := by decide +kernel
theorem dX3_compareWith_50 : decode cX3_compareWith 50 = .ok (.ifCond .eq 23, 3) := by decide +kernel
theorem dX3_compareWith_53 : decode cX3_compareWith 53 = .ok (.aload_n 0, 1) := by decide +kernel
theorem dX3_compareWith_54 : decode cX3_compareWith 54 = .ok (.iload_n 2, 1) := by decide +kernel
theorem dX3_compareWith_55 : decode cX3_compareWith 55 = .ok (.invokevirtual 37, 3) := by decide +kernel
theorem dX3_compareWith_58 : decode cX3_compareWith 58 = .ok (.aload_n 1, 1) := by decide +kernel
theorem dX3_compareWith_59 : decode cX3_compareWith 59 = .ok (.iload_n 2, 1) := by decide +kernel
theorem dX3_compareWith_60 : decode cX3_compareWith 60 = .ok (.invokevirtual 37, 3) := by decide +kernel
theorem dX3_compareWith_63 : decode cX3_compareWith 63 = .ok (.lcmp, 1) := by decide +kernel
theorem dX3_compareWith_64 : decode cX3_compareWith 64 = .ok (.ifCond .ge 7, 3) := by decide +kernel
theorem dX3_compareWith_67 : decode cX3_compareWith 67 = .ok (.iconst (-1), 1) := by decide +kernel
theorem dX3_compareWith_68 : decode cX3_compareWith 68 = .ok (.goto 4, 3) := by decide +kernel
theorem dX3_compareWith_71 : decode cX3_compareWith 71 = .ok (.iconst 1, 1) := by decide +kernel
theorem dX3_compareWith_72 : decode cX3_compareWith 72 = .ok (.ireturn, 1) := by decide +kernel
theorem dX3_compareWith_73 : decode cX3_compareWith 73 = .ok (.iinc 2 (-1), 3) := by decide +kernel
theorem dX3_compareWith_76 : decode cX3_compareWith 76 = .ok (.goto (-41), 3) := by decide +kernel
theorem dX3_compareWith_79 : decode cX3_compareWith 79 = .ok (.iconst 0, 1) := by decide +kernel
theorem dX3_compareWith_80 : decode cX3_compareWith 80 = .ok (.ireturn, 1) := by decide +kernel
theorem dX3_become_0 : decode cX3_become 0 = .ok (.aload_n 1, 1) := by decide +kernel
theorem dX3_become_1 : decode cX3_become 1 = .ok (.getfield 26, 3) := by decide +kernel
theorem dX3_become_4 : decode cX3_become 4 = .ok (.istore_n 2, 1) := by decide +kernel
theorem dX3_become_5 : decode cX3_become 5 = .ok (.iconst 0, 1) := by decide +kernel
theorem dX3_become_6 : decode cX3_become 6 = .ok (.istore_n 3, 1) := by decide +kernel
theorem dX3_become_7 : decode cX3_become 7 = .ok (.iload_n 3, 1) := by decide +kernel
theorem dX3_become_8 : decode cX3_become 8 = .ok (.iload_n 2, 1) := by decide +kernel
theorem dX3_become_9 : decode cX3_become 9 = .ok (.if_icmp .ge 19, 3) := by decide +kernel
theorem dX3_become_12 : decode cX3_become 12 = .ok (.aload_n 0, 1) := by decide +kernel
theorem dX3_become_13 : decode cX3_become 13 = .ok (.iload_n 3, 1) := by decide +kernel
theorem dX3_become_14 : decode cX3_become 14 = .ok (.aload_n 1, 1) := by decide +kernel
theorem dX3_become_15 : decode cX3_become 15 = .ok (.iload_n 3, 1) := by decide +kernel
theorem dX3_become_16 : decode cX3_become 16 = .ok (.invokevirtual 37, 3) := by decide +kernel
theorem dX3_become_19 : decode cX3_become 19 = .ok (.invokevirtual 49, 3) := by decide +kernel
theorem dX3_become_22 : decode cX3_become 22 = .ok (.iinc 3 1, 3) := by decide +kernel
theorem dX3_become_25 : decode cX3_become 25 = .ok (.goto (-18), 3) := by decide +kernel
theorem dX3_become_28 : decode cX3_become 28 = .ok (.aload_n 0, 1) := by decide +kernel
theorem dX3_become_29 : decode cX3_become 29 = .ok (.iload_n 2, 1) := by decide +kernel
theorem dX3_become_30 : decode cX3_become 30 = .ok (.invokevirtual 53, 3) := by decide +kernel
theorem dX3_become_33 : decode cX3_become 33 = .ok (.return_, 1) := by decide +kernel
theorem dX3_setMagnitude_0 : decode cX3_setMagnitude 0 = .ok (.lload_n 1, 1) := by decide +kernel
theorem dX3_setMagnitude_1 : decode cX3_setMagnitude 1 = .ok (.lconst 0, 1) := by decide +kernel
theorem dX3_setMagnitude_2 : decode cX3_setMagnitude 2 = .ok (.lcmp, 1) := by decide +kernel
theorem dX3_setMagnitude_3 : decode cX3_setMagnitude 3 = .ok (.ifCond .ge 8, 3) := by decide +kernel
theorem dX3_setMagnitude_6 : decode cX3_setMagnitude 6 = .ok (.lload_n 1, 1) := by decide +kernel
theorem dX3_setMagnitude_7 : decode cX3_setMagnitude 7 = .ok (.lneg, 1) := by decide +kernel
theorem dX3_setMagnitude_8 : decode cX3_setMagnitude 8 = .ok (.goto 4, 3) := by decide +kernel
theorem dX3_setMagnitude_11 : decode cX3_setMagnitude 11 = .ok (.lload_n 1, 1) := by decide +kernel
theorem dX3_setMagnitude_12 : decode cX3_setMagnitude 12 = .ok (.lstore_n 3, 1) := by decide +kernel
theorem dX3_setMagnitude_13 : decode cX3_setMagnitude 13 = .ok (.iconst 0, 1) := by decide +kernel
theorem dX3_setMagnitude_14 : decode cX3_setMagnitude 14 = .ok (.istore 5, 2) := by decide +kernel
theorem dX3_setMagnitude_16 : decode cX3_setMagnitude 16 = .ok (.iload 5, 2) := by decide +kernel
theorem dX3_setMagnitude_18 : decode cX3_setMagnitude 18 = .ok (.iconst 3, 1) := by decide +kernel
theorem dX3_setMagnitude_19 : decode cX3_setMagnitude 19 = .ok (.if_icmp .ge 25, 3) := by decide +kernel
theorem dX3_setMagnitude_22 : decode cX3_setMagnitude 22 = .ok (.aload_n 0, 1) := by decide +kernel
theorem dX3_setMagnitude_23 : decode cX3_setMagnitude 23 = .ok (.iload 5, 2) := by decide +kernel
theorem dX3_setMagnitude_25 : decode cX3_setMagnitude 25 = .ok (.lload_n 3, 1) := by decide +kernel
theorem dX3_setMagnitude_26 : decode cX3_setMagnitude 26 = .ok (.ldc2_w 56, 3) := by decide +kernel
theorem dX3_setMagnitude_29 : decode cX3_setMagnitude 29 = .ok (.land, 1) := by decide +kernel
theorem dX3_setMagnitude_30 : decode cX3_setMagnitude 30 = .ok (.invokevirtual 49, 3) := by decide +kernel
theorem dX3_setMagnitude_33 : decode cX3_setMagnitude 33 = .ok (.lload_n 3, 1) := by decide +kernel
theorem dX3_setMagnitude_34 : decode cX3_setMagnitude 34 = .ok (.bipush 31, 2) := by decide +kernel
theorem dX3_setMagnitude_36 : decode cX3_setMagnitude 36 = .ok (.lushr, 1) := by decide +kernel
theorem dX3_setMagnitude_37 : decode cX3_setMagnitude 37 = .ok (.lstore_n 3, 1) := by decide +kernel
theorem dX3_setMagnitude_38 : decode cX3_setMagnitude 38 = .ok (.iinc 5 1, 3) := by decide +kernel
theorem dX3_setMagnitude_41 : decode cX3_setMagnitude 41 = .ok (.goto (-25), 3) := by decide +kernel
theorem dX3_setMagnitude_44 : decode cX3_setMagnitude 44 = .ok (.aload_n 0, 1) := by decide +kernel
theorem dX3_setMagnitude_45 : decode cX3_setMagnitude 45 = .ok (.iconst 3, 1) := by decide +kernel
theorem dX3_setMagnitude_46 : decode cX3_setMagnitude 46 = .ok (.invokevirtual 53, 3) := by decide +kernel
theorem dX3_setMagnitude_49 : decode cX3_setMagnitude 49 = .ok (.return_, 1) := by decide +kernel
theorem dX3_setSum_0 : decode cX3_setSum 0 = .ok (.aload_n 1, 1) := by decide +kernel
theorem dX3_setSum_1 : decode cX3_setSum 1 = .ok (.getfield 26, 3) := by decide +kernel
theorem dX3_setSum_4 : decode cX3_setSum 4 = .ok (.aload_n 2, 1) := by decide +kernel
theorem dX3_setSum_5 : decode cX3_setSum 5 = .ok (.getfield 26, 3) := by decide +kernel
theorem dX3_setSum_8 : decode cX3_setSum 8 = .ok (.invokestatic 9, 3) := by decide +kernel
theorem dX3_setSum_11 : decode cX3_setSum 11 = .ok (.iconst 1, 1) := by decide +kernel
theorem dX3_setSum_12 : decode cX3_setSum 12 = .ok (.iadd, 1) := by decide +kernel
theorem dX3_setSum_13 : decode cX3_setSum 13 = .ok (.istore_n 3, 1) := by decide +kernel
theorem dX3_setSum_14 : decode cX3_setSum 14 = .ok (.lconst 0, 1) := by decide +kernel
theorem dX3_setSum_15 : decode cX3_setSum 15 = .ok (.lstore 4, 2) := by decide +kernel
theorem dX3_setSum_17 : decode cX3_setSum 17 = .ok (.iconst 0, 1) := by decide +kernel
theorem dX3_setSum_18 : decode cX3_setSum 18 = .ok (.istore 6, 2) := by decide +kernel
theorem dX3_setSum_20 : decode cX3_setSum 20 = .ok (.iload 6, 2) := by decide +kernel
theorem dX3_setSum_22 : decode cX3_setSum 22 = .ok (.iload_n 3, 1) := by decide +kernel
theorem dX3_setSum_23 : decode cX3_setSum 23 = .ok (.if_icmp .ge 46, 3) := by decide +kernel
theorem dX3_setSum_26 : decode cX3_setSum 26 = .ok (.lload 4, 2) := by decide +kernel
theorem dX3_setSum_28 : decode cX3_setSum 28 = .ok (.aload_n 1, 1) := by decide +kernel
theorem dX3_setSum_29 : decode cX3_setSum 29 = .ok (.iload 6, 2) := by decide +kernel
theorem dX3_setSum_31 : decode cX3_setSum 31 = .ok (.invokevirtual 37, 3) := by decide +kernel
theorem dX3_setSum_34 : decode cX3_setSum 34 = .ok (.aload_n 2, 1) := by decide +kernel
theorem dX3_setSum_35 : decode cX3_setSum 35 = .ok (.iload 6, 2) := by decide +kernel
theorem dX3_setSum_37 : decode cX3_setSum 37 = .ok (.invokevirtual 37, 3) := by decide +kernel
theorem dX3_setSum_40 : decode cX3_setSum 40 = .ok (.ladd, 1) := by decide +kernel
theorem dX3_setSum_41 : decode cX3_setSum 41 = .ok (.ladd, 1) := by decide +kernel
theorem dX3_setSum_42 : decode cX3_setSum 42 = .ok (.lstore 4, 2) := by decide +kernel
theorem dX3_setSum_44 : decode cX3_setSum 44 = .ok (.aload_n 0, 1) := by decide +kernel
theorem dX3_setSum_45 : decode cX3_setSum 45 = .ok (.iload 6, 2) := by decide +kernel
theorem dX3_setSum_47 : decode cX3_setSum 47 = .ok (.lload 4, 2) := by decide +kernel
theorem dX3_setSum_49 : decode cX3_setSum 49 = .ok (.ldc2_w 56, 3) := by decide +kernel
theorem dX3_setSum_52 : decode cX3_setSum 52 = .ok (.land, 1) := by decide +kernel
theorem dX3_setSum_53 : decode cX3_setSum 53 = .ok (.invokevirtual 49, 3) := by decide +kernel
theorem dX3_setSum_56 : decode cX3_setSum 56 = .ok (.lload 4, 2) := by decide +kernel
theorem dX3_setSum_58 : decode cX3_setSum 58 = .ok (.bipush 31, 2) := by decide +kernel
theorem dX3_setSum_60 : decode cX3_setSum 60 = .ok (.lshr, 1) := by decide +kernel
theorem dX3_setSum_61 : decode cX3_setSum 61 = .ok (.lstore 4, 2) := by decide +kernel
theorem dX3_setSum_63 : decode cX3_setSum 63 = .ok (.iinc 6 1, 3) := by decide +kernel
theorem dX3_setSum_66 : decode cX3_setSum 66 = .ok (.goto (-46), 3) := by decide +kernel
theorem dX3_setSum_69 : decode cX3_setSum 69 = .ok (.aload_n 0, 1) := by decide +kernel
theorem dX3_setSum_70 : decode cX3_setSum 70 = .ok (.iload_n 3, 1) := by decide +kernel
theorem dX3_setSum_71 : decode cX3_setSum 71 = .ok (.invokevirtual 53, 3) := by decide +kernel
theorem dX3_setSum_74 : decode cX3_setSum 74 = .ok (.return_, 1) := by decide +kernel
theorem dX3_setDifference_0 : decode cX3_setDifference 0 = .ok (.aload_n 1, 1) := by decide +kernel
theorem dX3_setDifference_1 : decode cX3_setDifference 1 = .ok (.getfield 26, 3) := by decide +kernel
theorem dX3_setDifference_4 : decode cX3_setDifference 4 = .ok (.istore_n 3, 1) := by decide +kernel
theorem dX3_setDifference_5 : decode cX3_setDifference 5 = .ok (.lconst 0, 1) := by decide +kernel
theorem dX3_setDifference_6 : decode cX3_setDifference 6 = .ok (.lstore 4, 2) := by decide +kernel
theorem dX3_setDifference_8 : decode cX3_setDifference 8 = .ok (.iconst 0, 1) := by decide +kernel
theorem dX3_setDifference_9 : decode cX3_setDifference 9 = .ok (.istore 6, 2) := by decide +kernel
theorem dX3_setDifference_11 : decode cX3_setDifference 11 = .ok (.iload 6, 2) := by decide +kernel
theorem dX3_setDifference_13 : decode cX3_setDifference 13 = .ok (.iload_n 3, 1) := by decide +kernel
theorem dX3_setDifference_14 : decode cX3_setDifference 14 = .ok (.if_icmp .ge 46, 3) := by decide +kernel
theorem dX3_setDifference_17 : decode cX3_setDifference 17 = .ok (.lload 4, 2) := by decide +kernel
theorem dX3_setDifference_19 : decode cX3_setDifference 19 = .ok (.aload_n 1, 1) := by decide +kernel
theorem dX3_setDifference_20 : decode cX3_setDifference 20 = .ok (.iload 6, 2) := by decide +kernel
theorem dX3_setDifference_22 : decode cX3_setDifference 22 = .ok (.invokevirtual 37, 3) := by decide +kernel
theorem dX3_setDifference_25 : decode cX3_setDifference 25 = .ok (.aload_n 2, 1) := by decide +kernel
theorem dX3_setDifference_26 : decode cX3_setDifference 26 = .ok (.iload 6, 2) := by decide +kernel
theorem dX3_setDifference_28 : decode cX3_setDifference 28 = .ok (.invokevirtual 37, 3) := by decide +kernel
theorem dX3_setDifference_31 : decode cX3_setDifference 31 = .ok (.lsub, 1) := by decide +kernel
theorem dX3_setDifference_32 : decode cX3_setDifference 32 = .ok (.ladd, 1) := by decide +kernel
theorem dX3_setDifference_33 : decode cX3_setDifference 33 = .ok (.lstore 4, 2) := by decide +kernel
theorem dX3_setDifference_35 : decode cX3_setDifference 35 = .ok (.aload_n 0, 1) := by decide +kernel
theorem dX3_setDifference_36 : decode cX3_setDifference 36 = .ok (.iload 6, 2) := by decide +kernel
theorem dX3_setDifference_38 : decode cX3_setDifference 38 = .ok (.lload 4, 2) := by decide +kernel
theorem dX3_setDifference_40 : decode cX3_setDifference 40 = .ok (.ldc2_w 56, 3) := by decide +kernel
theorem dX3_setDifference_43 : decode cX3_setDifference 43 = .ok (.land, 1) := by decide +kernel
theorem dX3_setDifference_44 : decode cX3_setDifference 44 = .ok (.invokevirtual 49, 3) := by decide +kernel
theorem dX3_setDifference_47 : decode cX3_setDifference 47 = .ok (.lload 4, 2) := by decide +kernel
theorem dX3_setDifference_49 : decode cX3_setDifference 49 = .ok (.bipush 31, 2) := by decide +kernel
theorem dX3_setDifference_51 : decode cX3_setDifference 51 = .ok (.lshr, 1) := by decide +kernel
theorem dX3_setDifference_52 : decode cX3_setDifference 52 = .ok (.lstore 4, 2) := by decide +kernel
theorem dX3_setDifference_54 : decode cX3_setDifference 54 = .ok (.iinc 6 1, 3) := by decide +kernel
theorem dX3_setDifference_57 : decode cX3_setDifference 57 = .ok (.goto (-46), 3) := by decide +kernel
theorem dX3_setDifference_60 : decode cX3_setDifference 60 = .ok (.aload_n 0, 1) := by decide +kernel
theorem dX3_setDifference_61 : decode cX3_setDifference 61 = .ok (.iload_n 3, 1) := by decide +kernel
theorem dX3_setDifference_62 : decode cX3_setDifference 62 = .ok (.invokevirtual 53, 3) := by decide +kernel
theorem dX3_setDifference_65 : decode cX3_setDifference 65 = .ok (.return_, 1) := by decide +kernel
theorem dX3_setProduct_0 : decode cX3_setProduct 0 = .ok (.aload_n 1, 1) := by decide +kernel
theorem dX3_setProduct_1 : decode cX3_setProduct 1 = .ok (.getfield 26, 3) := by decide +kernel
theorem dX3_setProduct_4 : decode cX3_setProduct 4 = .ok (.aload_n 2, 1) := by decide +kernel
theorem dX3_setProduct_5 : decode cX3_setProduct 5 = .ok (.getfield 26, 3) := by decide +kernel
theorem dX3_setProduct_8 : decode cX3_setProduct 8 = .ok (.iadd, 1) := by decide +kernel
theorem dX3_setProduct_9 : decode cX3_setProduct 9 = .ok (.istore_n 3, 1) := by decide +kernel
theorem dX3_setProduct_10 : decode cX3_setProduct 10 = .ok (.iconst 0, 1) := by decide +kernel
theorem dX3_setProduct_11 : decode cX3_setProduct 11 = .ok (.istore 4, 2) := by decide +kernel
theorem dX3_setProduct_13 : decode cX3_setProduct 13 = .ok (.iload 4, 2) := by decide +kernel
theorem dX3_setProduct_15 : decode cX3_setProduct 15 = .ok (.iload_n 3, 1) := by decide +kernel
theorem dX3_setProduct_16 : decode cX3_setProduct 16 = .ok (.if_icmp .ge 16, 3) := by decide +kernel
theorem dX3_setProduct_19 : decode cX3_setProduct 19 = .ok (.aload_n 0, 1) := by decide +kernel
theorem dX3_setProduct_20 : decode cX3_setProduct 20 = .ok (.iload 4, 2) := by decide +kernel
theorem dX3_setProduct_22 : decode cX3_setProduct 22 = .ok (.lconst 0, 1) := by decide +kernel
theorem dX3_setProduct_23 : decode cX3_setProduct 23 = .ok (.invokevirtual 49, 3) := by decide +kernel
theorem dX3_setProduct_26 : decode cX3_setProduct 26 = .ok (.iinc 4 1, 3) := by decide +kernel
theorem dX3_setProduct_29 : decode cX3_setProduct 29 = .ok (.goto (-16), 3) := by decide +kernel
theorem dX3_setProduct_32 : decode cX3_setProduct 32 = .ok (.aload_n 0, 1) := by decide +kernel
theorem dX3_setProduct_33 : decode cX3_setProduct 33 = .ok (.iload_n 3, 1) := by decide +kernel
theorem dX3_setProduct_34 : decode cX3_setProduct 34 = .ok (.putfield 26, 3) := by decide +kernel
theorem dX3_setProduct_37 : decode cX3_setProduct 37 = .ok (.iconst 0, 1) := by decide +kernel
theorem dX3_setProduct_38 : decode cX3_setProduct 38 = .ok (.istore 4, 2) := by decide +kernel
theorem dX3_setProduct_40 : decode cX3_setProduct 40 = .ok (.iload 4, 2) := by decide +kernel
theorem dX3_setProduct_42 : decode cX3_setProduct 42 = .ok (.aload_n 1, 1) := by decide +kernel
theorem dX3_setProduct_43 : decode cX3_setProduct 43 = .ok (.getfield 26, 3) := by decide +kernel
theorem dX3_setProduct_46 : decode cX3_setProduct 46 = .ok (.if_icmp .ge 97, 3) := by decide +kernel
theorem dX3_setProduct_49 : decode cX3_setProduct 49 = .ok (.aload_n 1, 1) := by decide +kernel
theorem dX3_setProduct_50 : decode cX3_setProduct 50 = .ok (.iload 4, 2) := by decide +kernel
theorem dX3_setProduct_52 : decode cX3_setProduct 52 = .ok (.invokevirtual 37, 3) := by decide +kernel
theorem dX3_setProduct_55 : decode cX3_setProduct 55 = .ok (.lstore 5, 2) := by decide +kernel
theorem dX3_setProduct_57 : decode cX3_setProduct 57 = .ok (.lconst 0, 1) := by decide +kernel
theorem dX3_setProduct_58 : decode cX3_setProduct 58 = .ok (.lstore 7, 2) := by decide +kernel
theorem dX3_setProduct_60 : decode cX3_setProduct 60 = .ok (.iconst 0, 1) := by decide +kernel
theorem dX3_setProduct_61 : decode cX3_setProduct 61 = .ok (.istore 9, 2) := by decide +kernel
theorem dX3_setProduct_63 : decode cX3_setProduct 63 = .ok (.iload 9, 2) := by decide +kernel
theorem dX3_setProduct_65 : decode cX3_setProduct 65 = .ok (.aload_n 2, 1) := by decide +kernel
theorem dX3_setProduct_66 : decode cX3_setProduct 66 = .ok (.getfield 26, 3) := by decide +kernel
theorem dX3_setProduct_69 : decode cX3_setProduct 69 = .ok (.if_icmp .ge 55, 3) := by decide +kernel
theorem dX3_setProduct_72 : decode cX3_setProduct 72 = .ok (.lload 7, 2) := by decide +kernel
theorem dX3_setProduct_74 : decode cX3_setProduct 74 = .ok (.lload 5, 2) := by decide +kernel
theorem dX3_setProduct_76 : decode cX3_setProduct 76 = .ok (.aload_n 2, 1) := by decide +kernel
theorem dX3_setProduct_77 : decode cX3_setProduct 77 = .ok (.iload 9, 2) := by decide +kernel
theorem dX3_setProduct_79 : decode cX3_setProduct 79 = .ok (.invokevirtual 37, 3) := by decide +kernel
theorem dX3_setProduct_82 : decode cX3_setProduct 82 = .ok (.lmul, 1) := by decide +kernel
theorem dX3_setProduct_83 : decode cX3_setProduct 83 = .ok (.aload_n 0, 1) := by decide +kernel
theorem dX3_setProduct_84 : decode cX3_setProduct 84 = .ok (.iload 4, 2) := by decide +kernel
theorem dX3_setProduct_86 : decode cX3_setProduct 86 = .ok (.iload 9, 2) := by decide +kernel
theorem dX3_setProduct_88 : decode cX3_setProduct 88 = .ok (.iadd, 1) := by decide +kernel
theorem dX3_setProduct_89 : decode cX3_setProduct 89 = .ok (.invokevirtual 37, 3) := by decide +kernel
theorem dX3_setProduct_92 : decode cX3_setProduct 92 = .ok (.ladd, 1) := by decide +kernel
theorem dX3_setProduct_93 : decode cX3_setProduct 93 = .ok (.ladd, 1) := by decide +kernel
theorem dX3_setProduct_94 : decode cX3_setProduct 94 = .ok (.lstore 7, 2) := by decide +kernel
theorem dX3_setProduct_96 : decode cX3_setProduct 96 = .ok (.aload_n 0, 1) := by decide +kernel
theorem dX3_setProduct_97 : decode cX3_setProduct 97 = .ok (.iload 4, 2) := by decide +kernel
theorem dX3_setProduct_99 : decode cX3_setProduct 99 = .ok (.iload 9, 2) := by decide +kernel
theorem dX3_setProduct_101 : decode cX3_setProduct 101 = .ok (.iadd, 1) := by decide +kernel
theorem dX3_setProduct_102 : decode cX3_setProduct 102 = .ok (.lload 7, 2) := by decide +kernel
theorem dX3_setProduct_104 : decode cX3_setProduct 104 = .ok (.ldc2_w 56, 3) := by decide +kernel
theorem dX3_setProduct_107 : decode cX3_setProduct 107 = .ok (.land, 1) := by decide +kernel
theorem dX3_setProduct_108 : decode cX3_setProduct 108 = .ok (.invokevirtual 49, 3) := by decide +kernel
theorem dX3_setProduct_111 : decode cX3_setProduct 111 = .ok (.lload 7, 2) := by decide +kernel
theorem dX3_setProduct_113 : decode cX3_setProduct 113 = .ok (.bipush 31, 2) := by decide +kernel
theorem dX3_setProduct_115 : decode cX3_setProduct 115 = .ok (.lshr, 1) := by decide +kernel
theorem dX3_setProduct_116 : decode cX3_setProduct 116 = .ok (.lstore 7, 2) := by decide +kernel
theorem dX3_setProduct_118 : decode cX3_setProduct 118 = .ok (.iinc 9 1, 3) := by decide +kernel
theorem dX3_setProduct_121 : decode cX3_setProduct 121 = .ok (.goto (-58), 3) := by decide +kernel
theorem dX3_setProduct_124 : decode cX3_setProduct 124 = .ok (.aload_n 0, 1) := by decide +kernel
theorem dX3_setProduct_125 : decode cX3_setProduct 125 = .ok (.iload 4, 2) := by decide +kernel
theorem dX3_setProduct_127 : decode cX3_setProduct 127 = .ok (.aload_n 2, 1) := by decide +kernel
theorem dX3_setProduct_128 : decode cX3_setProduct 128 = .ok (.getfield 26, 3) := by decide +kernel
theorem dX3_setProduct_131 : decode cX3_setProduct 131 = .ok (.iadd, 1) := by decide +kernel
theorem dX3_setProduct_132 : decode cX3_setProduct 132 = .ok (.lload 7, 2) := by decide +kernel
theorem dX3_setProduct_134 : decode cX3_setProduct 134 = .ok (.invokevirtual 49, 3) := by decide +kernel
theorem dX3_setProduct_137 : decode cX3_setProduct 137 = .ok (.iinc 4 1, 3) := by decide +kernel
theorem dX3_setProduct_140 : decode cX3_setProduct 140 = .ok (.goto (-100), 3) := by decide +kernel
theorem dX3_setProduct_143 : decode cX3_setProduct 143 = .ok (.aload_n 0, 1) := by decide +kernel
theorem dX3_setProduct_144 : decode cX3_setProduct 144 = .ok (.iload_n 3, 1) := by decide +kernel
theorem dX3_setProduct_145 : decode cX3_setProduct 145 = .ok (.invokevirtual 53, 3) := by decide +kernel
theorem dX3_setProduct_148 : decode cX3_setProduct 148 = .ok (.return_, 1) := by decide +kernel
theorem dX3_setShifted_0 : decode cX3_setShifted 0 = .ok (.iload_n 2, 1) := by decide +kernel
theorem dX3_setShifted_1 : decode cX3_setShifted 1 = .ok (.bipush 31, 2) := by decide +kernel
theorem dX3_setShifted_3 : decode cX3_setShifted 3 = .ok (.idiv, 1) := by decide +kernel
theorem dX3_setShifted_4 : decode cX3_setShifted 4 = .ok (.istore_n 3, 1) := by decide +kernel
theorem dX3_setShifted_5 : decode cX3_setShifted 5 = .ok (.iload_n 2, 1) := by decide +kernel
theorem dX3_setShifted_6 : decode cX3_setShifted 6 = .ok (.bipush 31, 2) := by decide +kernel
theorem dX3_setShifted_8 : decode cX3_setShifted 8 = .ok (.irem, 1) := by decide +kernel
theorem dX3_setShifted_9 : decode cX3_setShifted 9 = .ok (.istore 4, 2) := by decide +kernel
theorem dX3_setShifted_11 : decode cX3_setShifted 11 = .ok (.aload_n 1, 1) := by decide +kernel
theorem dX3_setShifted_12 : decode cX3_setShifted 12 = .ok (.getfield 26, 3) := by decide +kernel
theorem dX3_setShifted_15 : decode cX3_setShifted 15 = .ok (.iload_n 3, 1) := by decide +kernel
theorem dX3_setShifted_16 : decode cX3_setShifted 16 = .ok (.iadd, 1) := by decide +kernel
theorem dX3_setShifted_17 : decode cX3_setShifted 17 = .ok (.iconst 1, 1) := by decide +kernel
theorem dX3_setShifted_18 : decode cX3_setShifted 18 = .ok (.iadd, 1) := by decide +kernel
theorem dX3_setShifted_19 : decode cX3_setShifted 19 = .ok (.istore 5, 2) := by decide +kernel
theorem dX3_setShifted_21 : decode cX3_setShifted 21 = .ok (.iload 5, 2) := by decide +kernel
theorem dX3_setShifted_23 : decode cX3_setShifted 23 = .ok (.iconst 1, 1) := by decide +kernel
theorem dX3_setShifted_24 : decode cX3_setShifted 24 = .ok (.isub, 1) := by decide +kernel
theorem dX3_setShifted_25 : decode cX3_setShifted 25 = .ok (.istore 6, 2) := by decide +kernel
theorem dX3_setShifted_27 : decode cX3_setShifted 27 = .ok (.iload 6, 2) := by decide +kernel
theorem dX3_setShifted_29 : decode cX3_setShifted 29 = .ok (.ifCond .lt 51, 3) := by decide +kernel
theorem dX3_setShifted_32 : decode cX3_setShifted 32 = .ok (.aload_n 1, 1) := by decide +kernel
theorem dX3_setShifted_33 : decode cX3_setShifted 33 = .ok (.iload 6, 2) := by decide +kernel
theorem dX3_setShifted_35 : decode cX3_setShifted 35 = .ok (.iload_n 3, 1) := by decide +kernel
theorem dX3_setShifted_36 : decode cX3_setShifted 36 = .ok (.isub, 1) := by decide +kernel
theorem dX3_setShifted_37 : decode cX3_setShifted 37 = .ok (.invokevirtual 37, 3) := by decide +kernel
theorem dX3_setShifted_40 : decode cX3_setShifted 40 = .ok (.iload 4, 2) := by decide +kernel
theorem dX3_setShifted_42 : decode cX3_setShifted 42 = .ok (.lshl, 1) := by decide +kernel
theorem dX3_setShifted_43 : decode cX3_setShifted 43 = .ok (.aload_n 1, 1) := by decide +kernel
theorem dX3_setShifted_44 : decode cX3_setShifted 44 = .ok (.iload 6, 2) := by decide +kernel
theorem dX3_setShifted_46 : decode cX3_setShifted 46 = .ok (.iload_n 3, 1) := by decide +kernel
theorem dX3_setShifted_47 : decode cX3_setShifted 47 = .ok (.isub, 1) := by decide +kernel
theorem dX3_setShifted_48 : decode cX3_setShifted 48 = .ok (.iconst 1, 1) := by decide +kernel
theorem dX3_setShifted_49 : decode cX3_setShifted 49 = .ok (.isub, 1) := by decide +kernel
theorem dX3_setShifted_50 : decode cX3_setShifted 50 = .ok (.invokevirtual 37, 3) := by decide +kernel
theorem dX3_setShifted_53 : decode cX3_setShifted 53 = .ok (.bipush 31, 2) := by decide +kernel
theorem dX3_setShifted_55 : decode cX3_setShifted 55 = .ok (.iload 4, 2) := by decide +kernel
theorem dX3_setShifted_57 : decode cX3_setShifted 57 = .ok (.isub, 1) := by decide +kernel
theorem dX3_setShifted_58 : decode cX3_setShifted 58 = .ok (.lshr, 1) := by decide +kernel
theorem dX3_setShifted_59 : decode cX3_setShifted 59 = .ok (.lor, 1) := by decide +kernel
theorem dX3_setShifted_60 : decode cX3_setShifted 60 = .ok (.lstore 7, 2) := by decide +kernel
theorem dX3_setShifted_62 : decode cX3_setShifted 62 = .ok (.aload_n 0, 1) := by decide +kernel
theorem dX3_setShifted_63 : decode cX3_setShifted 63 = .ok (.iload 6, 2) := by decide +kernel
theorem dX3_setShifted_65 : decode cX3_setShifted 65 = .ok (.lload 7, 2) := by decide +kernel
theorem dX3_setShifted_67 : decode cX3_setShifted 67 = .ok (.ldc2_w 56, 3) := by decide +kernel
theorem dX3_setShifted_70 : decode cX3_setShifted 70 = .ok (.land, 1) := by decide +kernel
theorem dX3_setShifted_71 : decode cX3_setShifted 71 = .ok (.invokevirtual 49, 3) := by decide +kernel
theorem dX3_setShifted_74 : decode cX3_setShifted 74 = .ok (.iinc 6 (-1), 3) := by decide +kernel
theorem dX3_setShifted_77 : decode cX3_setShifted 77 = .ok (.goto (-50), 3) := by decide +kernel
theorem dX3_setShifted_80 : decode cX3_setShifted 80 = .ok (.aload_n 0, 1) := by decide +kernel
theorem dX3_setShifted_81 : decode cX3_setShifted 81 = .ok (.iload 5, 2) := by decide +kernel
theorem dX3_setShifted_83 : decode cX3_setShifted 83 = .ok (.invokevirtual 53, 3) := by decide +kernel
theorem dX3_setShifted_86 : decode cX3_setShifted 86 = .ok (.return_, 1) := by decide +kernel
theorem dX3_lower_0 : decode cX3_lower 0 = .ok (.iconst 0, 1) := by decide +kernel
theorem dX3_lower_1 : decode cX3_lower 1 = .ok (.istore_n 2, 1) := by decide +kernel
theorem dX3_lower_2 : decode cX3_lower 2 = .ok (.iload_n 2, 1) := by decide +kernel
theorem dX3_lower_3 : decode cX3_lower 3 = .ok (.aload_n 0, 1) := by decide +kernel
theorem dX3_lower_4 : decode cX3_lower 4 = .ok (.getfield 26, 3) := by decide +kernel
theorem dX3_lower_7 : decode cX3_lower 7 = .ok (.if_icmp .ge 40, 3) := by decide +kernel
theorem dX3_lower_10 : decode cX3_lower 10 = .ok (.aload_n 0, 1) := by decide +kernel
theorem dX3_lower_11 : decode cX3_lower 11 = .ok (.iload_n 2, 1) := by decide +kernel
theorem dX3_lower_12 : decode cX3_lower 12 = .ok (.invokevirtual 37, 3) := by decide +kernel
theorem dX3_lower_15 : decode cX3_lower 15 = .ok (.iload_n 1, 1) := by decide +kernel
theorem dX3_lower_16 : decode cX3_lower 16 = .ok (.lshr, 1) := by decide +kernel
theorem dX3_lower_17 : decode cX3_lower 17 = .ok (.aload_n 0, 1) := by decide +kernel
theorem dX3_lower_18 : decode cX3_lower 18 = .ok (.iload_n 2, 1) := by decide +kernel
theorem dX3_lower_19 : decode cX3_lower 19 = .ok (.iconst 1, 1) := by decide +kernel
theorem dX3_lower_20 : decode cX3_lower 20 = .ok (.iadd, 1) := by decide +kernel
theorem dX3_lower_21 : decode cX3_lower 21 = .ok (.invokevirtual 37, 3) := by decide +kernel
theorem dX3_lower_24 : decode cX3_lower 24 = .ok (.bipush 31, 2) := by decide +kernel
theorem dX3_lower_26 : decode cX3_lower 26 = .ok (.iload_n 1, 1) := by decide +kernel
theorem dX3_lower_27 : decode cX3_lower 27 = .ok (.isub, 1) := by decide +kernel
theorem dX3_lower_28 : decode cX3_lower 28 = .ok (.lshl, 1) := by decide +kernel
theorem dX3_lower_29 : decode cX3_lower 29 = .ok (.lor, 1) := by decide +kernel
theorem dX3_lower_30 : decode cX3_lower 30 = .ok (.lstore_n 3, 1) := by decide +kernel
theorem dX3_lower_31 : decode cX3_lower 31 = .ok (.aload_n 0, 1) := by decide +kernel
theorem dX3_lower_32 : decode cX3_lower 32 = .ok (.iload_n 2, 1) := by decide +kernel
theorem dX3_lower_33 : decode cX3_lower 33 = .ok (.lload_n 3, 1) := by decide +kernel
theorem dX3_lower_34 : decode cX3_lower 34 = .ok (.ldc2_w 56, 3) := by decide +kernel
theorem dX3_lower_37 : decode cX3_lower 37 = .ok (.land, 1) := by decide +kernel
theorem dX3_lower_38 : decode cX3_lower 38 = .ok (.invokevirtual 49, 3) := by decide +kernel
theorem dX3_lower_41 : decode cX3_lower 41 = .ok (.iinc 2 1, 3) := by decide +kernel
theorem dX3_lower_44 : decode cX3_lower 44 = .ok (.goto (-42), 3) := by decide +kernel
theorem dX3_lower_47 : decode cX3_lower 47 = .ok (.aload_n 0, 1) := by decide +kernel
theorem dX3_lower_48 : decode cX3_lower 48 = .ok (.aload_n 0, 1) := by decide +kernel
theorem dX3_lower_49 : decode cX3_lower 49 = .ok (.getfield 26, 3) := by decide +kernel
theorem dX3_lower_52 : decode cX3_lower 52 = .ok (.invokevirtual 53, 3) := by decide +kernel
theorem dX3_lower_55 : decode cX3_lower 55 = .ok (.return_, 1) := by decide +kernel
theorem dX3_takeQuotient_0 : decode cX3_takeQuotient 0 = .ok (.lload_n 1, 1) := by decide +kernel
theorem dX3_takeQuotient_1 : decode cX3_takeQuotient 1 = .ok (.lconst 0, 1) := by decide +kernel
theorem dX3_takeQuotient_2 : decode cX3_takeQuotient 2 = .ok (.lcmp, 1) := by decide +kernel
theorem dX3_takeQuotient_3 : decode cX3_takeQuotient 3 = .ok (.ifCond .gt 5, 3) := by decide +kernel
theorem dX3_takeQuotient_6 : decode cX3_takeQuotient 6 = .ok (.lconst 0, 1) := by decide +kernel
theorem dX3_takeQuotient_7 : decode cX3_takeQuotient 7 = .ok (.lreturn, 1) := by decide +kernel
theorem dX3_takeQuotient_8 : decode cX3_takeQuotient 8 = .ok (.lconst 0, 1) := by decide +kernel
theorem dX3_takeQuotient_9 : decode cX3_takeQuotient 9 = .ok (.lstore_n 3, 1) := by decide +kernel
theorem dX3_takeQuotient_10 : decode cX3_takeQuotient 10 = .ok (.aload_n 0, 1) := by decide +kernel
theorem dX3_takeQuotient_11 : decode cX3_takeQuotient 11 = .ok (.getfield 26, 3) := by decide +kernel
theorem dX3_takeQuotient_14 : decode cX3_takeQuotient 14 = .ok (.iconst 1, 1) := by decide +kernel
theorem dX3_takeQuotient_15 : decode cX3_takeQuotient 15 = .ok (.isub, 1) := by decide +kernel
theorem dX3_takeQuotient_16 : decode cX3_takeQuotient 16 = .ok (.istore 5, 2) := by decide +kernel
theorem dX3_takeQuotient_18 : decode cX3_takeQuotient 18 = .ok (.iload 5, 2) := by decide +kernel
theorem dX3_takeQuotient_20 : decode cX3_takeQuotient 20 = .ok (.ifCond .lt 34, 3) := by decide +kernel
theorem dX3_takeQuotient_23 : decode cX3_takeQuotient 23 = .ok (.lload_n 3, 1) := by decide +kernel
theorem dX3_takeQuotient_24 : decode cX3_takeQuotient 24 = .ok (.bipush 31, 2) := by decide +kernel
theorem dX3_takeQuotient_26 : decode cX3_takeQuotient 26 = .ok (.lshl, 1) := by decide +kernel
theorem dX3_takeQuotient_27 : decode cX3_takeQuotient 27 = .ok (.aload_n 0, 1) := by decide +kernel
theorem dX3_takeQuotient_28 : decode cX3_takeQuotient 28 = .ok (.iload 5, 2) := by decide +kernel
theorem dX3_takeQuotient_30 : decode cX3_takeQuotient 30 = .ok (.invokevirtual 37, 3) := by decide +kernel
theorem dX3_takeQuotient_33 : decode cX3_takeQuotient 33 = .ok (.lor, 1) := by decide +kernel
theorem dX3_takeQuotient_34 : decode cX3_takeQuotient 34 = .ok (.lstore_n 3, 1) := by decide +kernel
theorem dX3_takeQuotient_35 : decode cX3_takeQuotient 35 = .ok (.aload_n 0, 1) := by decide +kernel
theorem dX3_takeQuotient_36 : decode cX3_takeQuotient 36 = .ok (.iload 5, 2) := by decide +kernel
theorem dX3_takeQuotient_38 : decode cX3_takeQuotient 38 = .ok (.lload_n 3, 1) := by decide +kernel
theorem dX3_takeQuotient_39 : decode cX3_takeQuotient 39 = .ok (.lload_n 1, 1) := by decide +kernel
theorem dX3_takeQuotient_40 : decode cX3_takeQuotient 40 = .ok (.ldiv, 1) := by decide +kernel
theorem dX3_takeQuotient_41 : decode cX3_takeQuotient 41 = .ok (.invokevirtual 49, 3) := by decide +kernel
theorem dX3_takeQuotient_44 : decode cX3_takeQuotient 44 = .ok (.lload_n 3, 1) := by decide +kernel
theorem dX3_takeQuotient_45 : decode cX3_takeQuotient 45 = .ok (.lload_n 1, 1) := by decide +kernel
theorem dX3_takeQuotient_46 : decode cX3_takeQuotient 46 = .ok (.lrem, 1) := by decide +kernel
theorem dX3_takeQuotient_47 : decode cX3_takeQuotient 47 = .ok (.lstore_n 3, 1) := by decide +kernel
theorem dX3_takeQuotient_48 : decode cX3_takeQuotient 48 = .ok (.iinc 5 (-1), 3) := by decide +kernel
theorem dX3_takeQuotient_51 : decode cX3_takeQuotient 51 = .ok (.goto (-33), 3) := by decide +kernel
theorem dX3_takeQuotient_54 : decode cX3_takeQuotient 54 = .ok (.aload_n 0, 1) := by decide +kernel
theorem dX3_takeQuotient_55 : decode cX3_takeQuotient 55 = .ok (.aload_n 0, 1) := by decide +kernel
theorem dX3_takeQuotient_56 : decode cX3_takeQuotient 56 = .ok (.getfield 26, 3) := by decide +kernel
theorem dX3_takeQuotient_59 : decode cX3_takeQuotient 59 = .ok (.invokevirtual 53, 3) := by decide +kernel
theorem dX3_takeQuotient_62 : decode cX3_takeQuotient 62 = .ok (.lload_n 3, 1) := by decide +kernel
theorem dX3_takeQuotient_63 : decode cX3_takeQuotient 63 = .ok (.lreturn, 1) := by decide +kernel
theorem dX0_init_0 : decode cX0_init 0 = .ok (.aload_n 0, 1) := by decide +kernel
theorem dX0_init_1 : decode cX0_init 1 = .ok (.invokespecial 1, 3) := by decide +kernel
theorem dX0_init_4 : decode cX0_init 4 = .ok (.aload_n 0, 1) := by decide +kernel
theorem dX0_init_5 : decode cX0_init 5 = .ok (.new 7, 3) := by decide +kernel
theorem dX0_init_8 : decode cX0_init 8 = .ok (.dup, 1) := by decide +kernel
theorem dX0_init_9 : decode cX0_init 9 = .ok (.bipush 56, 2) := by decide +kernel
theorem dX0_init_11 : decode cX0_init 11 = .ok (.invokespecial 9, 3) := by decide +kernel
theorem dX0_init_14 : decode cX0_init 14 = .ok (.putfield 12, 3) := by decide +kernel
theorem dX0_init_17 : decode cX0_init 17 = .ok (.aload_n 0, 1) := by decide +kernel
theorem dX0_init_18 : decode cX0_init 18 = .ok (.new 7, 3) := by decide +kernel
theorem dX0_init_21 : decode cX0_init 21 = .ok (.dup, 1) := by decide +kernel
theorem dX0_init_22 : decode cX0_init 22 = .ok (.bipush 56, 2) := by decide +kernel
theorem dX0_init_24 : decode cX0_init 24 = .ok (.invokespecial 9, 3) := by decide +kernel
theorem dX0_init_27 : decode cX0_init 27 = .ok (.putfield 18, 3) := by decide +kernel
theorem dX0_init_30 : decode cX0_init 30 = .ok (.aload_n 0, 1) := by decide +kernel
theorem dX0_init_31 : decode cX0_init 31 = .ok (.new 7, 3) := by decide +kernel
theorem dX0_init_34 : decode cX0_init 34 = .ok (.dup, 1) := by decide +kernel
theorem dX0_init_35 : decode cX0_init 35 = .ok (.bipush 56, 2) := by decide +kernel
theorem dX0_init_37 : decode cX0_init 37 = .ok (.invokespecial 9, 3) := by decide +kernel
theorem dX0_init_40 : decode cX0_init 40 = .ok (.putfield 21, 3) := by decide +kernel
theorem dX0_init_43 : decode cX0_init 43 = .ok (.return_, 1) := by decide +kernel
theorem dX0_divide_0 : decode cX0_divide 0 = .ok (.aload_n 2, 1) := by decide +kernel
theorem dX0_divide_1 : decode cX0_divide 1 = .ok (.getfield 24, 3) := by decide +kernel
theorem dX0_divide_4 : decode cX0_divide 4 = .ok (.iconst 1, 1) := by decide +kernel
theorem dX0_divide_5 : decode cX0_divide 5 = .ok (.if_icmp .ne 31, 3) := by decide +kernel
theorem dX0_divide_8 : decode cX0_divide 8 = .ok (.aload_n 0, 1) := by decide +kernel
theorem dX0_divide_9 : decode cX0_divide 9 = .ok (.getfield 12, 3) := by decide +kernel
theorem dX0_divide_12 : decode cX0_divide 12 = .ok (.aload_n 1, 1) := by decide +kernel
theorem dX0_divide_13 : decode cX0_divide 13 = .ok (.invokevirtual 28, 3) := by decide +kernel
theorem dX0_divide_16 : decode cX0_divide 16 = .ok (.aload_n 0, 1) := by decide +kernel
theorem dX0_divide_17 : decode cX0_divide 17 = .ok (.getfield 18, 3) := by decide +kernel
theorem dX0_divide_20 : decode cX0_divide 20 = .ok (.aload_n 0, 1) := by decide +kernel
theorem dX0_divide_21 : decode cX0_divide 21 = .ok (.getfield 12, 3) := by decide +kernel
theorem dX0_divide_24 : decode cX0_divide 24 = .ok (.aload_n 2, 1) := by decide +kernel
theorem dX0_divide_25 : decode cX0_divide 25 = .ok (.iconst 0, 1) := by decide +kernel
theorem dX0_divide_26 : decode cX0_divide 26 = .ok (.invokevirtual 32, 3) := by decide +kernel
theorem dX0_divide_29 : decode cX0_divide 29 = .ok (.invokevirtual 36, 3) := by decide +kernel
theorem dX0_divide_32 : decode cX0_divide 32 = .ok (.invokevirtual 40, 3) := by decide +kernel
theorem dX0_divide_35 : decode cX0_divide 35 = .ok (.return_, 1) := by decide +kernel
theorem dX0_divide_36 : decode cX0_divide 36 = .ok (.aload_n 2, 1) := by decide +kernel
theorem dX0_divide_37 : decode cX0_divide 37 = .ok (.invokevirtual 44, 3) := by decide +kernel
theorem dX0_divide_40 : decode cX0_divide 40 = .ok (.ifCond .ne 11, 3) := by decide +kernel
theorem dX0_divide_43 : decode cX0_divide 43 = .ok (.aload_n 1, 1) := by decide +kernel
theorem dX0_divide_44 : decode cX0_divide 44 = .ok (.aload_n 2, 1) := by decide +kernel
theorem dX0_divide_45 : decode cX0_divide 45 = .ok (.invokevirtual 48, 3) := by decide +kernel
theorem dX0_divide_48 : decode cX0_divide 48 = .ok (.ifCond .ge 20, 3) := by decide +kernel
theorem dX0_divide_51 : decode cX0_divide 51 = .ok (.aload_n 0, 1) := by decide +kernel
theorem dX0_divide_52 : decode cX0_divide 52 = .ok (.getfield 12, 3) := by decide +kernel
theorem dX0_divide_55 : decode cX0_divide 55 = .ok (.iconst 0, 1) := by decide +kernel
theorem dX0_divide_56 : decode cX0_divide 56 = .ok (.invokevirtual 52, 3) := by decide +kernel
theorem dX0_divide_59 : decode cX0_divide 59 = .ok (.aload_n 0, 1) := by decide +kernel
theorem dX0_divide_60 : decode cX0_divide 60 = .ok (.getfield 18, 3) := by decide +kernel
theorem dX0_divide_63 : decode cX0_divide 63 = .ok (.aload_n 1, 1) := by decide +kernel
theorem dX0_divide_64 : decode cX0_divide 64 = .ok (.invokevirtual 28, 3) := by decide +kernel
theorem dX0_divide_67 : decode cX0_divide 67 = .ok (.return_, 1) := by decide +kernel
theorem dX0_divide_68 : decode cX0_divide 68 = .ok (.bipush 31, 2) := by decide +kernel
theorem dX0_divide_70 : decode cX0_divide 70 = .ok (.aload_n 2, 1) := by decide +kernel
theorem dX0_divide_71 : decode cX0_divide 71 = .ok (.getfield 24, 3) := by decide +kernel
theorem dX0_divide_74 : decode cX0_divide 74 = .ok (.imul, 1) := by decide +kernel
theorem dX0_divide_75 : decode cX0_divide 75 = .ok (.aload_n 2, 1) := by decide +kernel
theorem dX0_divide_76 : decode cX0_divide 76 = .ok (.invokevirtual 55, 3) := by decide +kernel
theorem dX0_divide_79 : decode cX0_divide 79 = .ok (.isub, 1) := by decide +kernel
theorem dX0_divide_80 : decode cX0_divide 80 = .ok (.istore_n 3, 1) := by decide +kernel
theorem dX0_divide_81 : decode cX0_divide 81 = .ok (.aload_n 0, 1) := by decide +kernel
theorem dX0_divide_82 : decode cX0_divide 82 = .ok (.getfield 21, 3) := by decide +kernel
theorem dX0_divide_85 : decode cX0_divide 85 = .ok (.aload_n 2, 1) := by decide +kernel
theorem dX0_divide_86 : decode cX0_divide 86 = .ok (.iload_n 3, 1) := by decide +kernel
theorem dX0_divide_87 : decode cX0_divide 87 = .ok (.invokevirtual 59, 3) := by decide +kernel
theorem dX0_divide_90 : decode cX0_divide 90 = .ok (.aload_n 0, 1) := by decide +kernel
theorem dX0_divide_91 : decode cX0_divide 91 = .ok (.getfield 18, 3) := by decide +kernel
theorem dX0_divide_94 : decode cX0_divide 94 = .ok (.aload_n 1, 1) := by decide +kernel
theorem dX0_divide_95 : decode cX0_divide 95 = .ok (.iload_n 3, 1) := by decide +kernel
theorem dX0_divide_96 : decode cX0_divide 96 = .ok (.invokevirtual 59, 3) := by decide +kernel
theorem dX0_divide_99 : decode cX0_divide 99 = .ok (.aload_n 0, 1) := by decide +kernel
theorem dX0_divide_100 : decode cX0_divide 100 = .ok (.getfield 18, 3) := by decide +kernel
theorem dX0_divide_103 : decode cX0_divide 103 = .ok (.getfield 24, 3) := by decide +kernel
theorem dX0_divide_106 : decode cX0_divide 106 = .ok (.aload_n 0, 1) := by decide +kernel
theorem dX0_divide_107 : decode cX0_divide 107 = .ok (.getfield 21, 3) := by decide +kernel
theorem dX0_divide_110 : decode cX0_divide 110 = .ok (.getfield 24, 3) := by decide +kernel
theorem dX0_divide_113 : decode cX0_divide 113 = .ok (.isub, 1) := by decide +kernel
theorem dX0_divide_114 : decode cX0_divide 114 = .ok (.istore 4, 2) := by decide +kernel
theorem dX0_divide_116 : decode cX0_divide 116 = .ok (.iload 4, 2) := by decide +kernel
theorem dX0_divide_118 : decode cX0_divide 118 = .ok (.istore 5, 2) := by decide +kernel
theorem dX0_divide_120 : decode cX0_divide 120 = .ok (.iload 5, 2) := by decide +kernel
theorem dX0_divide_122 : decode cX0_divide 122 = .ok (.ifCond .lt 24, 3) := by decide +kernel
theorem dX0_divide_125 : decode cX0_divide 125 = .ok (.aload_n 0, 1) := by decide +kernel
theorem dX0_divide_126 : decode cX0_divide 126 = .ok (.getfield 12, 3) := by decide +kernel
theorem dX0_divide_129 : decode cX0_divide 129 = .ok (.iload 5, 2) := by decide +kernel
theorem dX0_divide_131 : decode cX0_divide 131 = .ok (.aload_n 0, 1) := by decide +kernel
theorem dX0_divide_132 : decode cX0_divide 132 = .ok (.iload 5, 2) := by decide +kernel
theorem dX0_divide_134 : decode cX0_divide 134 = .ok (.invokevirtual 63, 3) := by decide +kernel
theorem dX0_divide_137 : decode cX0_divide 137 = .ok (.invokevirtual 66, 3) := by decide +kernel
theorem dX0_divide_140 : decode cX0_divide 140 = .ok (.iinc 5 (-1), 3) := by decide +kernel
theorem dX0_divide_143 : decode cX0_divide 143 = .ok (.goto (-23), 3) := by decide +kernel
theorem dX0_divide_146 : decode cX0_divide 146 = .ok (.aload_n 0, 1) := by decide +kernel
theorem dX0_divide_147 : decode cX0_divide 147 = .ok (.getfield 12, 3) := by decide +kernel
theorem dX0_divide_150 : decode cX0_divide 150 = .ok (.iload 4, 2) := by decide +kernel
theorem dX0_divide_152 : decode cX0_divide 152 = .ok (.iconst 1, 1) := by decide +kernel
theorem dX0_divide_153 : decode cX0_divide 153 = .ok (.iadd, 1) := by decide +kernel
theorem dX0_divide_154 : decode cX0_divide 154 = .ok (.invokevirtual 52, 3) := by decide +kernel
theorem dX0_divide_157 : decode cX0_divide 157 = .ok (.aload_n 0, 1) := by decide +kernel
theorem dX0_divide_158 : decode cX0_divide 158 = .ok (.getfield 18, 3) := by decide +kernel
theorem dX0_divide_161 : decode cX0_divide 161 = .ok (.iload_n 3, 1) := by decide +kernel
theorem dX0_divide_162 : decode cX0_divide 162 = .ok (.invokevirtual 70, 3) := by decide +kernel
theorem dX0_divide_165 : decode cX0_divide 165 = .ok (.return_, 1) := by decide +kernel
theorem dX0_takeOut_0 : decode cX0_takeOut 0 = .ok (.aload_n 0, 1) := by decide +kernel
theorem dX0_takeOut_1 : decode cX0_takeOut 1 = .ok (.getfield 21, 3) := by decide +kernel
theorem dX0_takeOut_4 : decode cX0_takeOut 4 = .ok (.getfield 24, 3) := by decide +kernel
theorem dX0_takeOut_7 : decode cX0_takeOut 7 = .ok (.istore_n 2, 1) := by decide +kernel
theorem dX0_takeOut_8 : decode cX0_takeOut 8 = .ok (.aload_n 0, 1) := by decide +kernel
theorem dX0_takeOut_9 : decode cX0_takeOut 9 = .ok (.getfield 21, 3) := by decide +kernel
theorem dX0_takeOut_12 : decode cX0_takeOut 12 = .ok (.iload_n 2, 1) := by decide +kernel
theorem dX0_takeOut_13 : decode cX0_takeOut 13 = .ok (.iconst 1, 1) := by decide +kernel
theorem dX0_takeOut_14 : decode cX0_takeOut 14 = .ok (.isub, 1) := by decide +kernel
theorem dX0_takeOut_15 : decode cX0_takeOut 15 = .ok (.invokevirtual 32, 3) := by decide +kernel
theorem dX0_takeOut_18 : decode cX0_takeOut 18 = .ok (.lstore_n 3, 1) := by decide +kernel
theorem dX0_takeOut_19 : decode cX0_takeOut 19 = .ok (.lload_n 3, 1) := by decide +kernel
theorem dX0_takeOut_20 : decode cX0_takeOut 20 = .ok (.lconst 0, 1) := by decide +kernel
theorem dX0_takeOut_21 : decode cX0_takeOut 21 = .ok (.lcmp, 1) := by decide +kernel
theorem dX0_takeOut_22 : decode cX0_takeOut 22 = .ok (.ifCond .gt 5, 3) := by decide +kernel
theorem dX0_takeOut_25 : decode cX0_takeOut 25 = .ok (.lconst 0, 1) := by decide +kernel
theorem dX0_takeOut_26 : decode cX0_takeOut 26 = .ok (.lreturn, 1) := by decide +kernel
theorem dX0_takeOut_27 : decode cX0_takeOut 27 = .ok (.aload_n 0, 1) := by decide +kernel
theorem dX0_takeOut_28 : decode cX0_takeOut 28 = .ok (.getfield 18, 3) := by decide +kernel
theorem dX0_takeOut_31 : decode cX0_takeOut 31 = .ok (.iload_n 1, 1) := by decide +kernel
theorem dX0_takeOut_32 : decode cX0_takeOut 32 = .ok (.iload_n 2, 1) := by decide +kernel
theorem dX0_takeOut_33 : decode cX0_takeOut 33 = .ok (.iadd, 1) := by decide +kernel
theorem dX0_takeOut_34 : decode cX0_takeOut 34 = .ok (.invokevirtual 32, 3) := by decide +kernel
theorem dX0_takeOut_37 : decode cX0_takeOut 37 = .ok (.bipush 31, 2) := by decide +kernel
theorem dX0_takeOut_39 : decode cX0_takeOut 39 = .ok (.lshl, 1) := by decide +kernel
theorem dX0_takeOut_40 : decode cX0_takeOut 40 = .ok (.aload_n 0, 1) := by decide +kernel
theorem dX0_takeOut_41 : decode cX0_takeOut 41 = .ok (.getfield 18, 3) := by decide +kernel
theorem dX0_takeOut_44 : decode cX0_takeOut 44 = .ok (.iload_n 1, 1) := by decide +kernel
theorem dX0_takeOut_45 : decode cX0_takeOut 45 = .ok (.iload_n 2, 1) := by decide +kernel
theorem dX0_takeOut_46 : decode cX0_takeOut 46 = .ok (.iadd, 1) := by decide +kernel
theorem dX0_takeOut_47 : decode cX0_takeOut 47 = .ok (.iconst 1, 1) := by decide +kernel
theorem dX0_takeOut_48 : decode cX0_takeOut 48 = .ok (.isub, 1) := by decide +kernel
theorem dX0_takeOut_49 : decode cX0_takeOut 49 = .ok (.invokevirtual 32, 3) := by decide +kernel
theorem dX0_takeOut_52 : decode cX0_takeOut 52 = .ok (.lor, 1) := by decide +kernel
theorem dX0_takeOut_53 : decode cX0_takeOut 53 = .ok (.lstore 5, 2) := by decide +kernel
theorem dX0_takeOut_55 : decode cX0_takeOut 55 = .ok (.lload 5, 2) := by decide +kernel
theorem dX0_takeOut_57 : decode cX0_takeOut 57 = .ok (.lload_n 3, 1) := by decide +kernel
theorem dX0_takeOut_58 : decode cX0_takeOut 58 = .ok (.ldiv, 1) := by decide +kernel
theorem dX0_takeOut_59 : decode cX0_takeOut 59 = .ok (.lstore 7, 2) := by decide +kernel
theorem dX0_takeOut_61 : decode cX0_takeOut 61 = .ok (.lload 5, 2) := by decide +kernel
theorem dX0_takeOut_63 : decode cX0_takeOut 63 = .ok (.lload_n 3, 1) := by decide +kernel
theorem dX0_takeOut_64 : decode cX0_takeOut 64 = .ok (.lrem, 1) := by decide +kernel
theorem dX0_takeOut_65 : decode cX0_takeOut 65 = .ok (.lstore 9, 2) := by decide +kernel
theorem dX0_takeOut_67 : decode cX0_takeOut 67 = .ok (.iconst 0, 1) := by decide +kernel
theorem dX0_takeOut_68 : decode cX0_takeOut 68 = .ok (.istore 11, 2) := by decide +kernel
theorem dX0_takeOut_70 : decode cX0_takeOut 70 = .ok (.iload 11, 2) := by decide +kernel
theorem dX0_takeOut_72 : decode cX0_takeOut 72 = .ok (.iconst 2, 1) := by decide +kernel
theorem dX0_takeOut_73 : decode cX0_takeOut 73 = .ok (.if_icmp .ge 42, 3) := by decide +kernel
theorem dX0_takeOut_76 : decode cX0_takeOut 76 = .ok (.lload 9, 2) := by decide +kernel
theorem dX0_takeOut_78 : decode cX0_takeOut 78 = .ok (.ldc2_w 73, 3) := by decide +kernel
theorem dX0_takeOut_81 : decode cX0_takeOut 81 = .ok (.lcmp, 1) := by decide +kernel
theorem dX0_takeOut_82 : decode cX0_takeOut 82 = .ok (.ifCond .gt 33, 3) := by decide +kernel
theorem dX0_takeOut_85 : decode cX0_takeOut 85 = .ok (.aload_n 0, 1) := by decide +kernel
theorem dX0_takeOut_86 : decode cX0_takeOut 86 = .ok (.lload 7, 2) := by decide +kernel
theorem dX0_takeOut_88 : decode cX0_takeOut 88 = .ok (.lload 9, 2) := by decide +kernel
theorem dX0_takeOut_90 : decode cX0_takeOut 90 = .ok (.iload_n 1, 1) := by decide +kernel
theorem dX0_takeOut_91 : decode cX0_takeOut 91 = .ok (.invokevirtual 75, 3) := by decide +kernel
theorem dX0_takeOut_94 : decode cX0_takeOut 94 = .ok (.ifCond .eq 21, 3) := by decide +kernel
theorem dX0_takeOut_97 : decode cX0_takeOut 97 = .ok (.lload 7, 2) := by decide +kernel
theorem dX0_takeOut_99 : decode cX0_takeOut 99 = .ok (.lconst 1, 1) := by decide +kernel
theorem dX0_takeOut_100 : decode cX0_takeOut 100 = .ok (.lsub, 1) := by decide +kernel
theorem dX0_takeOut_101 : decode cX0_takeOut 101 = .ok (.lstore 7, 2) := by decide +kernel
theorem dX0_takeOut_103 : decode cX0_takeOut 103 = .ok (.lload 9, 2) := by decide +kernel
theorem dX0_takeOut_105 : decode cX0_takeOut 105 = .ok (.lload_n 3, 1) := by decide +kernel
theorem dX0_takeOut_106 : decode cX0_takeOut 106 = .ok (.ladd, 1) := by decide +kernel
theorem dX0_takeOut_107 : decode cX0_takeOut 107 = .ok (.lstore 9, 2) := by decide +kernel
theorem dX0_takeOut_109 : decode cX0_takeOut 109 = .ok (.iinc 11 1, 3) := by decide +kernel
theorem dX0_takeOut_112 : decode cX0_takeOut 112 = .ok (.goto (-42), 3) := by decide +kernel
theorem dX0_takeOut_115 : decode cX0_takeOut 115 = .ok (.aload_n 0, 1) := by decide +kernel
theorem dX0_takeOut_116 : decode cX0_takeOut 116 = .ok (.iload_n 1, 1) := by decide +kernel
theorem dX0_takeOut_117 : decode cX0_takeOut 117 = .ok (.lload 7, 2) := by decide +kernel
theorem dX0_takeOut_119 : decode cX0_takeOut 119 = .ok (.lneg, 1) := by decide +kernel
theorem dX0_takeOut_120 : decode cX0_takeOut 120 = .ok (.invokevirtual 79, 3) := by decide +kernel
theorem dX0_takeOut_123 : decode cX0_takeOut 123 = .ok (.lconst 0, 1) := by decide +kernel
theorem dX0_takeOut_124 : decode cX0_takeOut 124 = .ok (.lcmp, 1) := by decide +kernel
theorem dX0_takeOut_125 : decode cX0_takeOut 125 = .ok (.ifCond .ge 16, 3) := by decide +kernel
theorem dX0_takeOut_128 : decode cX0_takeOut 128 = .ok (.lload 7, 2) := by decide +kernel
theorem dX0_takeOut_130 : decode cX0_takeOut 130 = .ok (.lconst 1, 1) := by decide +kernel
theorem dX0_takeOut_131 : decode cX0_takeOut 131 = .ok (.lsub, 1) := by decide +kernel
theorem dX0_takeOut_132 : decode cX0_takeOut 132 = .ok (.lstore 7, 2) := by decide +kernel
theorem dX0_takeOut_134 : decode cX0_takeOut 134 = .ok (.aload_n 0, 1) := by decide +kernel
theorem dX0_takeOut_135 : decode cX0_takeOut 135 = .ok (.iload_n 1, 1) := by decide +kernel
theorem dX0_takeOut_136 : decode cX0_takeOut 136 = .ok (.lconst 1, 1) := by decide +kernel
theorem dX0_takeOut_137 : decode cX0_takeOut 137 = .ok (.invokevirtual 79, 3) := by decide +kernel
theorem dX0_takeOut_140 : decode cX0_takeOut 140 = .ok (.pop2, 1) := by decide +kernel
theorem dX0_takeOut_141 : decode cX0_takeOut 141 = .ok (.aload_n 0, 1) := by decide +kernel
theorem dX0_takeOut_142 : decode cX0_takeOut 142 = .ok (.getfield 18, 3) := by decide +kernel
theorem dX0_takeOut_145 : decode cX0_takeOut 145 = .ok (.iload_n 1, 1) := by decide +kernel
theorem dX0_takeOut_146 : decode cX0_takeOut 146 = .ok (.iload_n 2, 1) := by decide +kernel
theorem dX0_takeOut_147 : decode cX0_takeOut 147 = .ok (.iadd, 1) := by decide +kernel
theorem dX0_takeOut_148 : decode cX0_takeOut 148 = .ok (.lconst 0, 1) := by decide +kernel
theorem dX0_takeOut_149 : decode cX0_takeOut 149 = .ok (.invokevirtual 66, 3) := by decide +kernel
theorem dX0_takeOut_152 : decode cX0_takeOut 152 = .ok (.lload 7, 2) := by decide +kernel
theorem dX0_takeOut_154 : decode cX0_takeOut 154 = .ok (.lreturn, 1) := by decide +kernel
theorem dX0_isTooOften_0 : decode cX0_isTooOften 0 = .ok (.aload_n 0, 1) := by decide +kernel
theorem dX0_isTooOften_1 : decode cX0_isTooOften 1 = .ok (.getfield 21, 3) := by decide +kernel
theorem dX0_isTooOften_4 : decode cX0_isTooOften 4 = .ok (.getfield 24, 3) := by decide +kernel
theorem dX0_isTooOften_7 : decode cX0_isTooOften 7 = .ok (.istore 6, 2) := by decide +kernel
theorem dX0_isTooOften_9 : decode cX0_isTooOften 9 = .ok (.lload_n 1, 1) := by decide +kernel
theorem dX0_isTooOften_10 : decode cX0_isTooOften 10 = .ok (.ldc2_w 73, 3) := by decide +kernel
theorem dX0_isTooOften_13 : decode cX0_isTooOften 13 = .ok (.lcmp, 1) := by decide +kernel
theorem dX0_isTooOften_14 : decode cX0_isTooOften 14 = .ok (.ifCond .gt 39, 3) := by decide +kernel
theorem dX0_isTooOften_17 : decode cX0_isTooOften 17 = .ok (.lload_n 1, 1) := by decide +kernel
theorem dX0_isTooOften_18 : decode cX0_isTooOften 18 = .ok (.aload_n 0, 1) := by decide +kernel
theorem dX0_isTooOften_19 : decode cX0_isTooOften 19 = .ok (.getfield 21, 3) := by decide +kernel
theorem dX0_isTooOften_22 : decode cX0_isTooOften 22 = .ok (.iload 6, 2) := by decide +kernel
theorem dX0_isTooOften_24 : decode cX0_isTooOften 24 = .ok (.iconst 2, 1) := by decide +kernel
theorem dX0_isTooOften_25 : decode cX0_isTooOften 25 = .ok (.isub, 1) := by decide +kernel
theorem dX0_isTooOften_26 : decode cX0_isTooOften 26 = .ok (.invokevirtual 32, 3) := by decide +kernel
theorem dX0_isTooOften_29 : decode cX0_isTooOften 29 = .ok (.lmul, 1) := by decide +kernel
theorem dX0_isTooOften_30 : decode cX0_isTooOften 30 = .ok (.lload_n 3, 1) := by decide +kernel
theorem dX0_isTooOften_31 : decode cX0_isTooOften 31 = .ok (.bipush 31, 2) := by decide +kernel
theorem dX0_isTooOften_33 : decode cX0_isTooOften 33 = .ok (.lshl, 1) := by decide +kernel
theorem dX0_isTooOften_34 : decode cX0_isTooOften 34 = .ok (.aload_n 0, 1) := by decide +kernel
theorem dX0_isTooOften_35 : decode cX0_isTooOften 35 = .ok (.getfield 18, 3) := by decide +kernel
theorem dX0_isTooOften_38 : decode cX0_isTooOften 38 = .ok (.iload 5, 2) := by decide +kernel
theorem dX0_isTooOften_40 : decode cX0_isTooOften 40 = .ok (.iload 6, 2) := by decide +kernel
theorem dX0_isTooOften_42 : decode cX0_isTooOften 42 = .ok (.iadd, 1) := by decide +kernel
theorem dX0_isTooOften_43 : decode cX0_isTooOften 43 = .ok (.iconst 2, 1) := by decide +kernel
theorem dX0_isTooOften_44 : decode cX0_isTooOften 44 = .ok (.isub, 1) := by decide +kernel
theorem dX0_isTooOften_45 : decode cX0_isTooOften 45 = .ok (.invokevirtual 32, 3) := by decide +kernel
theorem dX0_isTooOften_48 : decode cX0_isTooOften 48 = .ok (.lor, 1) := by decide +kernel
theorem dX0_isTooOften_49 : decode cX0_isTooOften 49 = .ok (.lcmp, 1) := by decide +kernel
theorem dX0_isTooOften_50 : decode cX0_isTooOften 50 = .ok (.ifCond .le 7, 3) := by decide +kernel
theorem dX0_isTooOften_53 : decode cX0_isTooOften 53 = .ok (.iconst 1, 1) := by decide +kernel
theorem dX0_isTooOften_54 : decode cX0_isTooOften 54 = .ok (.goto 4, 3) := by decide +kernel
theorem dX0_isTooOften_57 : decode cX0_isTooOften 57 = .ok (.iconst 0, 1) := by decide +kernel
theorem dX0_isTooOften_58 : decode cX0_isTooOften 58 = .ok (.ireturn, 1) := by decide +kernel
theorem dX0_changeRest_0 : decode cX0_changeRest 0 = .ok (.lconst 0, 1) := by decide +kernel
theorem dX0_changeRest_1 : decode cX0_changeRest 1 = .ok (.lstore 4, 2) := by decide +kernel
theorem dX0_changeRest_3 : decode cX0_changeRest 3 = .ok (.iconst 0, 1) := by decide +kernel
theorem dX0_changeRest_4 : decode cX0_changeRest 4 = .ok (.istore 6, 2) := by decide +kernel
theorem dX0_changeRest_6 : decode cX0_changeRest 6 = .ok (.iload 6, 2) := by decide +kernel
theorem dX0_changeRest_8 : decode cX0_changeRest 8 = .ok (.aload_n 0, 1) := by decide +kernel
theorem dX0_changeRest_9 : decode cX0_changeRest 9 = .ok (.getfield 21, 3) := by decide +kernel
theorem dX0_changeRest_12 : decode cX0_changeRest 12 = .ok (.getfield 24, 3) := by decide +kernel
theorem dX0_changeRest_15 : decode cX0_changeRest 15 = .ok (.if_icmp .ge 61, 3) := by decide +kernel
theorem dX0_changeRest_18 : decode cX0_changeRest 18 = .ok (.lload 4, 2) := by decide +kernel
theorem dX0_changeRest_20 : decode cX0_changeRest 20 = .ok (.aload_n 0, 1) := by decide +kernel
theorem dX0_changeRest_21 : decode cX0_changeRest 21 = .ok (.getfield 18, 3) := by decide +kernel
theorem dX0_changeRest_24 : decode cX0_changeRest 24 = .ok (.iload_n 1, 1) := by decide +kernel
theorem dX0_changeRest_25 : decode cX0_changeRest 25 = .ok (.iload 6, 2) := by decide +kernel
theorem dX0_changeRest_27 : decode cX0_changeRest 27 = .ok (.iadd, 1) := by decide +kernel
theorem dX0_changeRest_28 : decode cX0_changeRest 28 = .ok (.invokevirtual 32, 3) := by decide +kernel
theorem dX0_changeRest_31 : decode cX0_changeRest 31 = .ok (.lload_n 2, 1) := by decide +kernel
theorem dX0_changeRest_32 : decode cX0_changeRest 32 = .ok (.aload_n 0, 1) := by decide +kernel
theorem dX0_changeRest_33 : decode cX0_changeRest 33 = .ok (.getfield 21, 3) := by decide +kernel
theorem dX0_changeRest_36 : decode cX0_changeRest 36 = .ok (.iload 6, 2) := by decide +kernel
theorem dX0_changeRest_38 : decode cX0_changeRest 38 = .ok (.invokevirtual 32, 3) := by decide +kernel
theorem dX0_changeRest_41 : decode cX0_changeRest 41 = .ok (.lmul, 1) := by decide +kernel
theorem dX0_changeRest_42 : decode cX0_changeRest 42 = .ok (.ladd, 1) := by decide +kernel
theorem dX0_changeRest_43 : decode cX0_changeRest 43 = .ok (.ladd, 1) := by decide +kernel
theorem dX0_changeRest_44 : decode cX0_changeRest 44 = .ok (.lstore 4, 2) := by decide +kernel
theorem dX0_changeRest_46 : decode cX0_changeRest 46 = .ok (.aload_n 0, 1) := by decide +kernel
theorem dX0_changeRest_47 : decode cX0_changeRest 47 = .ok (.getfield 18, 3) := by decide +kernel
theorem dX0_changeRest_50 : decode cX0_changeRest 50 = .ok (.iload_n 1, 1) := by decide +kernel
theorem dX0_changeRest_51 : decode cX0_changeRest 51 = .ok (.iload 6, 2) := by decide +kernel
theorem dX0_changeRest_53 : decode cX0_changeRest 53 = .ok (.iadd, 1) := by decide +kernel
theorem dX0_changeRest_54 : decode cX0_changeRest 54 = .ok (.lload 4, 2) := by decide +kernel
theorem dX0_changeRest_56 : decode cX0_changeRest 56 = .ok (.ldc2_w 73, 3) := by decide +kernel
theorem dX0_changeRest_59 : decode cX0_changeRest 59 = .ok (.land, 1) := by decide +kernel
theorem dX0_changeRest_60 : decode cX0_changeRest 60 = .ok (.invokevirtual 66, 3) := by decide +kernel
theorem dX0_changeRest_63 : decode cX0_changeRest 63 = .ok (.lload 4, 2) := by decide +kernel
theorem dX0_changeRest_65 : decode cX0_changeRest 65 = .ok (.bipush 31, 2) := by decide +kernel
theorem dX0_changeRest_67 : decode cX0_changeRest 67 = .ok (.lshr, 1) := by decide +kernel
theorem dX0_changeRest_68 : decode cX0_changeRest 68 = .ok (.lstore 4, 2) := by decide +kernel
theorem dX0_changeRest_70 : decode cX0_changeRest 70 = .ok (.iinc 6 1, 3) := by decide +kernel
theorem dX0_changeRest_73 : decode cX0_changeRest 73 = .ok (.goto (-67), 3) := by decide +kernel
theorem dX0_changeRest_76 : decode cX0_changeRest 76 = .ok (.lload 4, 2) := by decide +kernel
theorem dX0_changeRest_78 : decode cX0_changeRest 78 = .ok (.aload_n 0, 1) := by decide +kernel
theorem dX0_changeRest_79 : decode cX0_changeRest 79 = .ok (.getfield 18, 3) := by decide +kernel
theorem dX0_changeRest_82 : decode cX0_changeRest 82 = .ok (.iload_n 1, 1) := by decide +kernel
theorem dX0_changeRest_83 : decode cX0_changeRest 83 = .ok (.aload_n 0, 1) := by decide +kernel
theorem dX0_changeRest_84 : decode cX0_changeRest 84 = .ok (.getfield 21, 3) := by decide +kernel
theorem dX0_changeRest_87 : decode cX0_changeRest 87 = .ok (.getfield 24, 3) := by decide +kernel
theorem dX0_changeRest_90 : decode cX0_changeRest 90 = .ok (.iadd, 1) := by decide +kernel
theorem dX0_changeRest_91 : decode cX0_changeRest 91 = .ok (.invokevirtual 32, 3) := by decide +kernel
theorem dX0_changeRest_94 : decode cX0_changeRest 94 = .ok (.ladd, 1) := by decide +kernel
theorem dX0_changeRest_95 : decode cX0_changeRest 95 = .ok (.lreturn, 1) := by decide +kernel
theorem dX1_init_0 : decode cX1_init 0 = .ok (.aload_n 0, 1) := by decide +kernel
theorem dX1_init_1 : decode cX1_init 1 = .ok (.invokespecial 1, 3) := by decide +kernel
theorem dX1_init_4 : decode cX1_init 4 = .ok (.aload_n 0, 1) := by decide +kernel
theorem dX1_init_5 : decode cX1_init 5 = .ok (.iload_n 1, 1) := by decide +kernel
theorem dX1_init_6 : decode cX1_init 6 = .ok (.putfield 7, 3) := by decide +kernel
theorem dX1_init_9 : decode cX1_init 9 = .ok (.aload_n 0, 1) := by decide +kernel
theorem dX1_init_10 : decode cX1_init 10 = .ok (.aload_n 2, 1) := by decide +kernel
theorem dX1_init_11 : decode cX1_init 11 = .ok (.invokestatic 13, 3) := by decide +kernel
theorem dX1_init_14 : decode cX1_init 14 = .ok (.putfield 19, 3) := by decide +kernel
theorem dX1_init_17 : decode cX1_init 17 = .ok (.aload_n 0, 1) := by decide +kernel
theorem dX1_init_18 : decode cX1_init 18 = .ok (.aload_n 3, 1) := by decide +kernel
theorem dX1_init_19 : decode cX1_init 19 = .ok (.invokestatic 13, 3) := by decide +kernel
theorem dX1_init_22 : decode cX1_init 22 = .ok (.putfield 23, 3) := by decide +kernel
theorem dX1_init_25 : decode cX1_init 25 = .ok (.return_, 1) := by decide +kernel
theorem dX2_init_0 : decode cX2_init 0 = .ok (.aload_n 0, 1) := by decide +kernel
theorem dX2_init_1 : decode cX2_init 1 = .ok (.invokespecial 3, 3) := by decide +kernel
theorem dX2_init_4 : decode cX2_init 4 = .ok (.aload_n 0, 1) := by decide +kernel
theorem dX2_init_5 : decode cX2_init 5 = .ok (.new 9, 3) := by decide +kernel
theorem dX2_init_8 : decode cX2_init 8 = .ok (.dup, 1) := by decide +kernel
theorem dX2_init_9 : decode cX2_init 9 = .ok (.invokespecial 11, 3) := by decide +kernel
theorem dX2_init_12 : decode cX2_init 12 = .ok (.putfield 12, 3) := by decide +kernel
theorem dX2_init_15 : decode cX2_init 15 = .ok (.aload_n 0, 1) := by decide +kernel
theorem dX2_init_16 : decode cX2_init 16 = .ok (.new 1, 3) := by decide +kernel
theorem dX2_init_19 : decode cX2_init 19 = .ok (.dup, 1) := by decide +kernel
theorem dX2_init_20 : decode cX2_init 20 = .ok (.bipush 56, 2) := by decide +kernel
theorem dX2_init_22 : decode cX2_init 22 = .ok (.invokespecial 18, 3) := by decide +kernel
theorem dX2_init_25 : decode cX2_init 25 = .ok (.putfield 21, 3) := by decide +kernel
theorem dX2_init_28 : decode cX2_init 28 = .ok (.aload_n 0, 1) := by decide +kernel
theorem dX2_init_29 : decode cX2_init 29 = .ok (.new 1, 3) := by decide +kernel
theorem dX2_init_32 : decode cX2_init 32 = .ok (.dup, 1) := by decide +kernel
theorem dX2_init_33 : decode cX2_init 33 = .ok (.bipush 56, 2) := by decide +kernel
theorem dX2_init_35 : decode cX2_init 35 = .ok (.invokespecial 18, 3) := by decide +kernel
theorem dX2_init_38 : decode cX2_init 38 = .ok (.putfield 25, 3) := by decide +kernel
theorem dX2_init_41 : decode cX2_init 41 = .ok (.return_, 1) := by decide +kernel
theorem dX2_commonDivisor_0 : decode cX2_commonDivisor 0 = .ok (.aload_n 1, 1) := by decide +kernel
theorem dX2_commonDivisor_1 : decode cX2_commonDivisor 1 = .ok (.aload_n 2, 1) := by decide +kernel
theorem dX2_commonDivisor_2 : decode cX2_commonDivisor 2 = .ok (.invokevirtual 28, 3) := by decide +kernel
theorem dX2_commonDivisor_5 : decode cX2_commonDivisor 5 = .ok (.ifCond .lt 7, 3) := by decide +kernel
theorem dX2_commonDivisor_8 : decode cX2_commonDivisor 8 = .ok (.iconst 1, 1) := by decide +kernel
theorem dX2_commonDivisor_9 : decode cX2_commonDivisor 9 = .ok (.goto 4, 3) := by decide +kernel
theorem dX2_commonDivisor_12 : decode cX2_commonDivisor 12 = .ok (.iconst 0, 1) := by decide +kernel
theorem dX2_commonDivisor_13 : decode cX2_commonDivisor 13 = .ok (.istore_n 3, 1) := by decide +kernel
theorem dX2_commonDivisor_14 : decode cX2_commonDivisor 14 = .ok (.aload_n 0, 1) := by decide +kernel
theorem dX2_commonDivisor_15 : decode cX2_commonDivisor 15 = .ok (.getfield 21, 3) := by decide +kernel
theorem dX2_commonDivisor_18 : decode cX2_commonDivisor 18 = .ok (.iload_n 3, 1) := by decide +kernel
theorem dX2_commonDivisor_19 : decode cX2_commonDivisor 19 = .ok (.ifCond .eq 7, 3) := by decide +kernel
theorem dX2_commonDivisor_22 : decode cX2_commonDivisor 22 = .ok (.aload_n 1, 1) := by decide +kernel
theorem dX2_commonDivisor_23 : decode cX2_commonDivisor 23 = .ok (.goto 4, 3) := by decide +kernel
theorem dX2_commonDivisor_26 : decode cX2_commonDivisor 26 = .ok (.aload_n 2, 1) := by decide +kernel
theorem dX2_commonDivisor_27 : decode cX2_commonDivisor 27 = .ok (.invokevirtual 32, 3) := by decide +kernel
theorem dX2_commonDivisor_30 : decode cX2_commonDivisor 30 = .ok (.aload_n 0, 1) := by decide +kernel
theorem dX2_commonDivisor_31 : decode cX2_commonDivisor 31 = .ok (.getfield 25, 3) := by decide +kernel
theorem dX2_commonDivisor_34 : decode cX2_commonDivisor 34 = .ok (.iload_n 3, 1) := by decide +kernel
theorem dX2_commonDivisor_35 : decode cX2_commonDivisor 35 = .ok (.ifCond .eq 7, 3) := by decide +kernel
theorem dX2_commonDivisor_38 : decode cX2_commonDivisor 38 = .ok (.aload_n 2, 1) := by decide +kernel
theorem dX2_commonDivisor_39 : decode cX2_commonDivisor 39 = .ok (.goto 4, 3) := by decide +kernel
theorem dX2_commonDivisor_42 : decode cX2_commonDivisor 42 = .ok (.aload_n 1, 1) := by decide +kernel
theorem dX2_commonDivisor_43 : decode cX2_commonDivisor 43 = .ok (.invokevirtual 32, 3) := by decide +kernel
theorem dX2_commonDivisor_46 : decode cX2_commonDivisor 46 = .ok (.iconst 0, 1) := by decide +kernel
theorem dX2_commonDivisor_47 : decode cX2_commonDivisor 47 = .ok (.istore 4, 2) := by decide +kernel
theorem dX2_commonDivisor_49 : decode cX2_commonDivisor 49 = .ok (.iload 4, 2) := by decide +kernel
theorem dX2_commonDivisor_51 : decode cX2_commonDivisor 51 = .ok (.sipush 10000, 3) := by decide +kernel
theorem dX2_commonDivisor_54 : decode cX2_commonDivisor 54 = .ok (.if_icmp .ge 92, 3) := by decide +kernel
theorem dX2_commonDivisor_57 : decode cX2_commonDivisor 57 = .ok (.aload_n 0, 1) := by decide +kernel
theorem dX2_commonDivisor_58 : decode cX2_commonDivisor 58 = .ok (.getfield 25, 3) := by decide +kernel
theorem dX2_commonDivisor_61 : decode cX2_commonDivisor 61 = .ok (.invokevirtual 36, 3) := by decide +kernel
theorem dX2_commonDivisor_64 : decode cX2_commonDivisor 64 = .ok (.ifCond .ne 82, 3) := by decide +kernel
theorem dX2_commonDivisor_67 : decode cX2_commonDivisor 67 = .ok (.aload_n 0, 1) := by decide +kernel
theorem dX2_commonDivisor_68 : decode cX2_commonDivisor 68 = .ok (.getfield 21, 3) := by decide +kernel
theorem dX2_commonDivisor_71 : decode cX2_commonDivisor 71 = .ok (.invokevirtual 40, 3) := by decide +kernel
theorem dX2_commonDivisor_74 : decode cX2_commonDivisor 74 = .ok (.bipush 62, 2) := by decide +kernel
theorem dX2_commonDivisor_76 : decode cX2_commonDivisor 76 = .ok (.if_icmp .gt 10, 3) := by decide +kernel
theorem dX2_commonDivisor_79 : decode cX2_commonDivisor 79 = .ok (.aload_n 0, 1) := by decide +kernel
theorem dX2_commonDivisor_80 : decode cX2_commonDivisor 80 = .ok (.invokevirtual 44, 3) := by decide +kernel
theorem dX2_commonDivisor_83 : decode cX2_commonDivisor 83 = .ok (.goto 57, 3) := by decide +kernel
theorem dX2_commonDivisor_86 : decode cX2_commonDivisor 86 = .ok (.aload_n 0, 1) := by decide +kernel
theorem dX2_commonDivisor_87 : decode cX2_commonDivisor 87 = .ok (.invokevirtual 47, 3) := by decide +kernel
theorem dX2_commonDivisor_90 : decode cX2_commonDivisor 90 = .ok (.ifCond .eq 10, 3) := by decide +kernel
theorem dX2_commonDivisor_93 : decode cX2_commonDivisor 93 = .ok (.aload_n 0, 1) := by decide +kernel
theorem dX2_commonDivisor_94 : decode cX2_commonDivisor 94 = .ok (.invokevirtual 50, 3) := by decide +kernel
theorem dX2_commonDivisor_97 : decode cX2_commonDivisor 97 = .ok (.goto 43, 3) := by decide +kernel
theorem dX2_commonDivisor_100 : decode cX2_commonDivisor 100 = .ok (.aload_n 0, 1) := by decide +kernel
theorem dX2_commonDivisor_101 : decode cX2_commonDivisor 101 = .ok (.getfield 12, 3) := by decide +kernel
theorem dX2_commonDivisor_104 : decode cX2_commonDivisor 104 = .ok (.aload_n 0, 1) := by decide +kernel
theorem dX2_commonDivisor_105 : decode cX2_commonDivisor 105 = .ok (.getfield 21, 3) := by decide +kernel
theorem dX2_commonDivisor_108 : decode cX2_commonDivisor 108 = .ok (.aload_n 0, 1) := by decide +kernel
theorem dX2_commonDivisor_109 : decode cX2_commonDivisor 109 = .ok (.getfield 25, 3) := by decide +kernel
theorem dX2_commonDivisor_112 : decode cX2_commonDivisor 112 = .ok (.invokevirtual 53, 3) := by decide +kernel
theorem dX2_commonDivisor_115 : decode cX2_commonDivisor 115 = .ok (.aload_n 0, 1) := by decide +kernel
theorem dX2_commonDivisor_116 : decode cX2_commonDivisor 116 = .ok (.getfield 21, 3) := by decide +kernel
theorem dX2_commonDivisor_119 : decode cX2_commonDivisor 119 = .ok (.aload_n 0, 1) := by decide +kernel
theorem dX2_commonDivisor_120 : decode cX2_commonDivisor 120 = .ok (.getfield 25, 3) := by decide +kernel
theorem dX2_commonDivisor_123 : decode cX2_commonDivisor 123 = .ok (.invokevirtual 32, 3) := by decide +kernel
theorem dX2_commonDivisor_126 : decode cX2_commonDivisor 126 = .ok (.aload_n 0, 1) := by decide +kernel
theorem dX2_commonDivisor_127 : decode cX2_commonDivisor 127 = .ok (.getfield 25, 3) := by decide +kernel
theorem dX2_commonDivisor_130 : decode cX2_commonDivisor 130 = .ok (.aload_n 0, 1) := by decide +kernel
theorem dX2_commonDivisor_131 : decode cX2_commonDivisor 131 = .ok (.getfield 12, 3) := by decide +kernel
theorem dX2_commonDivisor_134 : decode cX2_commonDivisor 134 = .ok (.getfield 57, 3) := by decide +kernel
theorem dX2_commonDivisor_137 : decode cX2_commonDivisor 137 = .ok (.invokevirtual 32, 3) := by decide +kernel
theorem dX2_commonDivisor_140 : decode cX2_commonDivisor 140 = .ok (.iinc 4 1, 3) := by decide +kernel
theorem dX2_commonDivisor_143 : decode cX2_commonDivisor 143 = .ok (.goto (-94), 3) := by decide +kernel
theorem dX2_commonDivisor_146 : decode cX2_commonDivisor 146 = .ok (.aload_n 0, 1) := by decide +kernel
theorem dX2_commonDivisor_147 : decode cX2_commonDivisor 147 = .ok (.getfield 21, 3) := by decide +kernel
theorem dX2_commonDivisor_150 : decode cX2_commonDivisor 150 = .ok (.areturn, 1) := by decide +kernel
theorem dX2_finishInLongs_0 : decode cX2_finishInLongs 0 = .ok (.aload_n 0, 1) := by decide +kernel
theorem dX2_finishInLongs_1 : decode cX2_finishInLongs 1 = .ok (.getfield 21, 3) := by decide +kernel
theorem dX2_finishInLongs_4 : decode cX2_finishInLongs 4 = .ok (.iconst 0, 1) := by decide +kernel
theorem dX2_finishInLongs_5 : decode cX2_finishInLongs 5 = .ok (.invokevirtual 60, 3) := by decide +kernel
theorem dX2_finishInLongs_8 : decode cX2_finishInLongs 8 = .ok (.lstore_n 1, 1) := by decide +kernel
theorem dX2_finishInLongs_9 : decode cX2_finishInLongs 9 = .ok (.aload_n 0, 1) := by decide +kernel
theorem dX2_finishInLongs_10 : decode cX2_finishInLongs 10 = .ok (.getfield 25, 3) := by decide +kernel
theorem dX2_finishInLongs_13 : decode cX2_finishInLongs 13 = .ok (.iconst 0, 1) := by decide +kernel
theorem dX2_finishInLongs_14 : decode cX2_finishInLongs 14 = .ok (.invokevirtual 60, 3) := by decide +kernel
theorem dX2_finishInLongs_17 : decode cX2_finishInLongs 17 = .ok (.lstore_n 3, 1) := by decide +kernel
theorem dX2_finishInLongs_18 : decode cX2_finishInLongs 18 = .ok (.iconst 0, 1) := by decide +kernel
theorem dX2_finishInLongs_19 : decode cX2_finishInLongs 19 = .ok (.istore 5, 2) := by decide +kernel
theorem dX2_finishInLongs_21 : decode cX2_finishInLongs 21 = .ok (.iload 5, 2) := by decide +kernel
theorem dX2_finishInLongs_23 : decode cX2_finishInLongs 23 = .ok (.bipush 100, 2) := by decide +kernel
theorem dX2_finishInLongs_25 : decode cX2_finishInLongs 25 = .ok (.if_icmp .ge 25, 3) := by decide +kernel
theorem dX2_finishInLongs_28 : decode cX2_finishInLongs 28 = .ok (.lload_n 3, 1) := by decide +kernel
theorem dX2_finishInLongs_29 : decode cX2_finishInLongs 29 = .ok (.lconst 0, 1) := by decide +kernel
theorem dX2_finishInLongs_30 : decode cX2_finishInLongs 30 = .ok (.lcmp, 1) := by decide +kernel
theorem dX2_finishInLongs_31 : decode cX2_finishInLongs 31 = .ok (.ifCond .le 19, 3) := by decide +kernel
theorem dX2_finishInLongs_34 : decode cX2_finishInLongs 34 = .ok (.lload_n 1, 1) := by decide +kernel
theorem dX2_finishInLongs_35 : decode cX2_finishInLongs 35 = .ok (.lload_n 3, 1) := by decide +kernel
theorem dX2_finishInLongs_36 : decode cX2_finishInLongs 36 = .ok (.lrem, 1) := by decide +kernel
theorem dX2_finishInLongs_37 : decode cX2_finishInLongs 37 = .ok (.lstore 6, 2) := by decide +kernel
theorem dX2_finishInLongs_39 : decode cX2_finishInLongs 39 = .ok (.lload_n 3, 1) := by decide +kernel
theorem dX2_finishInLongs_40 : decode cX2_finishInLongs 40 = .ok (.lstore_n 1, 1) := by decide +kernel
theorem dX2_finishInLongs_41 : decode cX2_finishInLongs 41 = .ok (.lload 6, 2) := by decide +kernel
theorem dX2_finishInLongs_43 : decode cX2_finishInLongs 43 = .ok (.lstore_n 3, 1) := by decide +kernel
theorem dX2_finishInLongs_44 : decode cX2_finishInLongs 44 = .ok (.iinc 5 1, 3) := by decide +kernel
theorem dX2_finishInLongs_47 : decode cX2_finishInLongs 47 = .ok (.goto (-26), 3) := by decide +kernel
theorem dX2_finishInLongs_50 : decode cX2_finishInLongs 50 = .ok (.aload_n 0, 1) := by decide +kernel
theorem dX2_finishInLongs_51 : decode cX2_finishInLongs 51 = .ok (.getfield 21, 3) := by decide +kernel
theorem dX2_finishInLongs_54 : decode cX2_finishInLongs 54 = .ok (.lload_n 1, 1) := by decide +kernel
theorem dX2_finishInLongs_55 : decode cX2_finishInLongs 55 = .ok (.invokevirtual 64, 3) := by decide +kernel
theorem dX2_finishInLongs_58 : decode cX2_finishInLongs 58 = .ok (.aload_n 0, 1) := by decide +kernel
theorem dX2_finishInLongs_59 : decode cX2_finishInLongs 59 = .ok (.getfield 25, 3) := by decide +kernel
theorem dX2_finishInLongs_62 : decode cX2_finishInLongs 62 = .ok (.lload_n 3, 1) := by decide +kernel
theorem dX2_finishInLongs_63 : decode cX2_finishInLongs 63 = .ok (.invokevirtual 64, 3) := by decide +kernel
theorem dX2_finishInLongs_66 : decode cX2_finishInLongs 66 = .ok (.return_, 1) := by decide +kernel
theorem dX2_foreseeSteps_0 : decode cX2_foreseeSteps 0 = .ok (.aload_n 0, 1) := by decide +kernel
theorem dX2_foreseeSteps_1 : decode cX2_foreseeSteps 1 = .ok (.getfield 21, 3) := by decide +kernel
theorem dX2_foreseeSteps_4 : decode cX2_foreseeSteps 4 = .ok (.invokevirtual 40, 3) := by decide +kernel
theorem dX2_foreseeSteps_7 : decode cX2_foreseeSteps 7 = .ok (.bipush 62, 2) := by decide +kernel
theorem dX2_foreseeSteps_9 : decode cX2_foreseeSteps 9 = .ok (.isub, 1) := by decide +kernel
theorem dX2_foreseeSteps_10 : decode cX2_foreseeSteps 10 = .ok (.iconst 0, 1) := by decide +kernel
theorem dX2_foreseeSteps_11 : decode cX2_foreseeSteps 11 = .ok (.invokestatic 68, 3) := by decide +kernel
theorem dX2_foreseeSteps_14 : decode cX2_foreseeSteps 14 = .ok (.istore_n 1, 1) := by decide +kernel
theorem dX2_foreseeSteps_15 : decode cX2_foreseeSteps 15 = .ok (.aload_n 0, 1) := by decide +kernel
theorem dX2_foreseeSteps_16 : decode cX2_foreseeSteps 16 = .ok (.getfield 21, 3) := by decide +kernel
theorem dX2_foreseeSteps_19 : decode cX2_foreseeSteps 19 = .ok (.iload_n 1, 1) := by decide +kernel
theorem dX2_foreseeSteps_20 : decode cX2_foreseeSteps 20 = .ok (.invokevirtual 60, 3) := by decide +kernel
theorem dX2_foreseeSteps_23 : decode cX2_foreseeSteps 23 = .ok (.lstore_n 2, 1) := by decide +kernel
theorem dX2_foreseeSteps_24 : decode cX2_foreseeSteps 24 = .ok (.aload_n 0, 1) := by decide +kernel
theorem dX2_foreseeSteps_25 : decode cX2_foreseeSteps 25 = .ok (.getfield 25, 3) := by decide +kernel
theorem dX2_foreseeSteps_28 : decode cX2_foreseeSteps 28 = .ok (.iload_n 1, 1) := by decide +kernel
theorem dX2_foreseeSteps_29 : decode cX2_foreseeSteps 29 = .ok (.invokevirtual 60, 3) := by decide +kernel
theorem dX2_foreseeSteps_32 : decode cX2_foreseeSteps 32 = .ok (.lstore 4, 2) := by decide +kernel
theorem dX2_foreseeSteps_34 : decode cX2_foreseeSteps 34 = .ok (.aload_n 0, 1) := by decide +kernel
theorem dX2_foreseeSteps_35 : decode cX2_foreseeSteps 35 = .ok (.lconst 1, 1) := by decide +kernel
theorem dX2_foreseeSteps_36 : decode cX2_foreseeSteps 36 = .ok (.putfield 74, 3) := by decide +kernel
theorem dX2_foreseeSteps_39 : decode cX2_foreseeSteps 39 = .ok (.aload_n 0, 1) := by decide +kernel
theorem dX2_foreseeSteps_40 : decode cX2_foreseeSteps 40 = .ok (.lconst 0, 1) := by decide +kernel
theorem dX2_foreseeSteps_41 : decode cX2_foreseeSteps 41 = .ok (.putfield 78, 3) := by decide +kernel
theorem dX2_foreseeSteps_44 : decode cX2_foreseeSteps 44 = .ok (.aload_n 0, 1) := by decide +kernel
theorem dX2_foreseeSteps_45 : decode cX2_foreseeSteps 45 = .ok (.lconst 0, 1) := by decide +kernel
theorem dX2_foreseeSteps_46 : decode cX2_foreseeSteps 46 = .ok (.putfield 81, 3) := by decide +kernel
theorem dX2_foreseeSteps_49 : decode cX2_foreseeSteps 49 = .ok (.aload_n 0, 1) := by decide +kernel
theorem dX2_foreseeSteps_50 : decode cX2_foreseeSteps 50 = .ok (.lconst 1, 1) := by decide +kernel
theorem dX2_foreseeSteps_51 : decode cX2_foreseeSteps 51 = .ok (.putfield 84, 3) := by decide +kernel
theorem dX2_foreseeSteps_54 : decode cX2_foreseeSteps 54 = .ok (.iconst 0, 1) := by decide +kernel
theorem dX2_foreseeSteps_55 : decode cX2_foreseeSteps 55 = .ok (.istore 6, 2) := by decide +kernel
theorem dX2_foreseeSteps_57 : decode cX2_foreseeSteps 57 = .ok (.iload 6, 2) := by decide +kernel
theorem dX2_foreseeSteps_59 : decode cX2_foreseeSteps 59 = .ok (.bipush 100, 2) := by decide +kernel
theorem dX2_foreseeSteps_61 : decode cX2_foreseeSteps 61 = .ok (.if_icmp .ge 179, 3) := by decide +kernel
theorem dX2_foreseeSteps_64 : decode cX2_foreseeSteps 64 = .ok (.lload 4, 2) := by decide +kernel
theorem dX2_foreseeSteps_66 : decode cX2_foreseeSteps 66 = .ok (.aload_n 0, 1) := by decide +kernel
theorem dX2_foreseeSteps_67 : decode cX2_foreseeSteps 67 = .ok (.getfield 81, 3) := by decide +kernel
theorem dX2_foreseeSteps_70 : decode cX2_foreseeSteps 70 = .ok (.ladd, 1) := by decide +kernel
theorem dX2_foreseeSteps_71 : decode cX2_foreseeSteps 71 = .ok (.lconst 0, 1) := by decide +kernel
theorem dX2_foreseeSteps_72 : decode cX2_foreseeSteps 72 = .ok (.lcmp, 1) := by decide +kernel
theorem dX2_foreseeSteps_73 : decode cX2_foreseeSteps 73 = .ok (.ifCond .le 167, 3) := by decide +kernel
theorem dX2_foreseeSteps_76 : decode cX2_foreseeSteps 76 = .ok (.lload 4, 2) := by decide +kernel
theorem dX2_foreseeSteps_78 : decode cX2_foreseeSteps 78 = .ok (.aload_n 0, 1) := by decide +kernel
theorem dX2_foreseeSteps_79 : decode cX2_foreseeSteps 79 = .ok (.getfield 84, 3) := by decide +kernel
theorem dX2_foreseeSteps_82 : decode cX2_foreseeSteps 82 = .ok (.ladd, 1) := by decide +kernel
theorem dX2_foreseeSteps_83 : decode cX2_foreseeSteps 83 = .ok (.lconst 0, 1) := by decide +kernel
theorem dX2_foreseeSteps_84 : decode cX2_foreseeSteps 84 = .ok (.lcmp, 1) := by decide +kernel
theorem dX2_foreseeSteps_85 : decode cX2_foreseeSteps 85 = .ok (.ifCond .gt 6, 3) := by decide +kernel
theorem dX2_foreseeSteps_88 : decode cX2_foreseeSteps 88 = .ok (.goto 152, 3) := by decide +kernel
theorem dX2_foreseeSteps_91 : decode cX2_foreseeSteps 91 = .ok (.lload_n 2, 1) := by decide +kernel
theorem dX2_foreseeSteps_92 : decode cX2_foreseeSteps 92 = .ok (.aload_n 0, 1) := by decide +kernel
theorem dX2_foreseeSteps_93 : decode cX2_foreseeSteps 93 = .ok (.getfield 74, 3) := by decide +kernel
theorem dX2_foreseeSteps_96 : decode cX2_foreseeSteps 96 = .ok (.ladd, 1) := by decide +kernel
theorem dX2_foreseeSteps_97 : decode cX2_foreseeSteps 97 = .ok (.lload 4, 2) := by decide +kernel
theorem dX2_foreseeSteps_99 : decode cX2_foreseeSteps 99 = .ok (.aload_n 0, 1) := by decide +kernel
theorem dX2_foreseeSteps_100 : decode cX2_foreseeSteps 100 = .ok (.getfield 81, 3) := by decide +kernel
theorem dX2_foreseeSteps_103 : decode cX2_foreseeSteps 103 = .ok (.ladd, 1) := by decide +kernel
theorem dX2_foreseeSteps_104 : decode cX2_foreseeSteps 104 = .ok (.ldiv, 1) := by decide +kernel
theorem dX2_foreseeSteps_105 : decode cX2_foreseeSteps 105 = .ok (.lstore 7, 2) := by decide +kernel
theorem dX2_foreseeSteps_107 : decode cX2_foreseeSteps 107 = .ok (.lload 7, 2) := by decide +kernel
theorem dX2_foreseeSteps_109 : decode cX2_foreseeSteps 109 = .ok (.ldc2_w 87, 3) := by decide +kernel
theorem dX2_foreseeSteps_112 : decode cX2_foreseeSteps 112 = .ok (.lcmp, 1) := by decide +kernel
theorem dX2_foreseeSteps_113 : decode cX2_foreseeSteps 113 = .ok (.ifCond .gt 127, 3) := by decide +kernel
theorem dX2_foreseeSteps_116 : decode cX2_foreseeSteps 116 = .ok (.lload 7, 2) := by decide +kernel
theorem dX2_foreseeSteps_118 : decode cX2_foreseeSteps 118 = .ok (.lload_n 2, 1) := by decide +kernel
theorem dX2_foreseeSteps_119 : decode cX2_foreseeSteps 119 = .ok (.aload_n 0, 1) := by decide +kernel
theorem dX2_foreseeSteps_120 : decode cX2_foreseeSteps 120 = .ok (.getfield 78, 3) := by decide +kernel
theorem dX2_foreseeSteps_123 : decode cX2_foreseeSteps 123 = .ok (.ladd, 1) := by decide +kernel
theorem dX2_foreseeSteps_124 : decode cX2_foreseeSteps 124 = .ok (.lload 4, 2) := by decide +kernel
theorem dX2_foreseeSteps_126 : decode cX2_foreseeSteps 126 = .ok (.aload_n 0, 1) := by decide +kernel
theorem dX2_foreseeSteps_127 : decode cX2_foreseeSteps 127 = .ok (.getfield 84, 3) := by decide +kernel
theorem dX2_foreseeSteps_130 : decode cX2_foreseeSteps 130 = .ok (.ladd, 1) := by decide +kernel
theorem dX2_foreseeSteps_131 : decode cX2_foreseeSteps 131 = .ok (.ldiv, 1) := by decide +kernel
theorem dX2_foreseeSteps_132 : decode cX2_foreseeSteps 132 = .ok (.lcmp, 1) := by decide +kernel
theorem dX2_foreseeSteps_133 : decode cX2_foreseeSteps 133 = .ok (.ifCond .eq 6, 3) := by decide +kernel
theorem dX2_foreseeSteps_136 : decode cX2_foreseeSteps 136 = .ok (.goto 104, 3) := by decide +kernel
theorem dX2_foreseeSteps_139 : decode cX2_foreseeSteps 139 = .ok (.aload_n 0, 1) := by decide +kernel
theorem dX2_foreseeSteps_140 : decode cX2_foreseeSteps 140 = .ok (.getfield 74, 3) := by decide +kernel
theorem dX2_foreseeSteps_143 : decode cX2_foreseeSteps 143 = .ok (.lload 7, 2) := by decide +kernel
theorem dX2_foreseeSteps_145 : decode cX2_foreseeSteps 145 = .ok (.aload_n 0, 1) := by decide +kernel
theorem dX2_foreseeSteps_146 : decode cX2_foreseeSteps 146 = .ok (.getfield 81, 3) := by decide +kernel
theorem dX2_foreseeSteps_149 : decode cX2_foreseeSteps 149 = .ok (.lmul, 1) := by decide +kernel
theorem dX2_foreseeSteps_150 : decode cX2_foreseeSteps 150 = .ok (.lsub, 1) := by decide +kernel
theorem dX2_foreseeSteps_151 : decode cX2_foreseeSteps 151 = .ok (.lstore 9, 2) := by decide +kernel
theorem dX2_foreseeSteps_153 : decode cX2_foreseeSteps 153 = .ok (.aload_n 0, 1) := by decide +kernel
theorem dX2_foreseeSteps_154 : decode cX2_foreseeSteps 154 = .ok (.getfield 78, 3) := by decide +kernel
theorem dX2_foreseeSteps_157 : decode cX2_foreseeSteps 157 = .ok (.lload 7, 2) := by decide +kernel
theorem dX2_foreseeSteps_159 : decode cX2_foreseeSteps 159 = .ok (.aload_n 0, 1) := by decide +kernel
theorem dX2_foreseeSteps_160 : decode cX2_foreseeSteps 160 = .ok (.getfield 84, 3) := by decide +kernel
theorem dX2_foreseeSteps_163 : decode cX2_foreseeSteps 163 = .ok (.lmul, 1) := by decide +kernel
theorem dX2_foreseeSteps_164 : decode cX2_foreseeSteps 164 = .ok (.lsub, 1) := by decide +kernel
theorem dX2_foreseeSteps_165 : decode cX2_foreseeSteps 165 = .ok (.lstore 11, 2) := by decide +kernel
theorem dX2_foreseeSteps_167 : decode cX2_foreseeSteps 167 = .ok (.lload 9, 2) := by decide +kernel
theorem dX2_foreseeSteps_169 : decode cX2_foreseeSteps 169 = .ok (.invokestatic 89, 3) := by decide +kernel
theorem dX2_foreseeSteps_172 : decode cX2_foreseeSteps 172 = .ok (.lload 11, 2) := by decide +kernel
theorem dX2_foreseeSteps_174 : decode cX2_foreseeSteps 174 = .ok (.invokestatic 89, 3) := by decide +kernel
theorem dX2_foreseeSteps_177 : decode cX2_foreseeSteps 177 = .ok (.invokestatic 93, 3) := by decide +kernel
theorem dX2_foreseeSteps_180 : decode cX2_foreseeSteps 180 = .ok (.ldc2_w 87, 3) := by decide +kernel
theorem dX2_foreseeSteps_183 : decode cX2_foreseeSteps 183 = .ok (.lcmp, 1) := by decide +kernel
theorem dX2_foreseeSteps_184 : decode cX2_foreseeSteps 184 = .ok (.ifCond .le 6, 3) := by decide +kernel
theorem dX2_foreseeSteps_187 : decode cX2_foreseeSteps 187 = .ok (.goto 53, 3) := by decide +kernel
theorem dX2_foreseeSteps_190 : decode cX2_foreseeSteps 190 = .ok (.aload_n 0, 1) := by decide +kernel
theorem dX2_foreseeSteps_191 : decode cX2_foreseeSteps 191 = .ok (.aload_n 0, 1) := by decide +kernel
theorem dX2_foreseeSteps_192 : decode cX2_foreseeSteps 192 = .ok (.getfield 81, 3) := by decide +kernel
theorem dX2_foreseeSteps_195 : decode cX2_foreseeSteps 195 = .ok (.putfield 74, 3) := by decide +kernel
theorem dX2_foreseeSteps_198 : decode cX2_foreseeSteps 198 = .ok (.aload_n 0, 1) := by decide +kernel
theorem dX2_foreseeSteps_199 : decode cX2_foreseeSteps 199 = .ok (.aload_n 0, 1) := by decide +kernel
theorem dX2_foreseeSteps_200 : decode cX2_foreseeSteps 200 = .ok (.getfield 84, 3) := by decide +kernel
theorem dX2_foreseeSteps_203 : decode cX2_foreseeSteps 203 = .ok (.putfield 78, 3) := by decide +kernel
theorem dX2_foreseeSteps_206 : decode cX2_foreseeSteps 206 = .ok (.aload_n 0, 1) := by decide +kernel
theorem dX2_foreseeSteps_207 : decode cX2_foreseeSteps 207 = .ok (.lload 9, 2) := by decide +kernel
theorem dX2_foreseeSteps_209 : decode cX2_foreseeSteps 209 = .ok (.putfield 81, 3) := by decide +kernel
theorem dX2_foreseeSteps_212 : decode cX2_foreseeSteps 212 = .ok (.aload_n 0, 1) := by decide +kernel
theorem dX2_foreseeSteps_213 : decode cX2_foreseeSteps 213 = .ok (.lload 11, 2) := by decide +kernel
theorem dX2_foreseeSteps_215 : decode cX2_foreseeSteps 215 = .ok (.putfield 84, 3) := by decide +kernel
theorem dX2_foreseeSteps_218 : decode cX2_foreseeSteps 218 = .ok (.lload_n 2, 1) := by decide +kernel
theorem dX2_foreseeSteps_219 : decode cX2_foreseeSteps 219 = .ok (.lload 7, 2) := by decide +kernel
theorem dX2_foreseeSteps_221 : decode cX2_foreseeSteps 221 = .ok (.lload 4, 2) := by decide +kernel
theorem dX2_foreseeSteps_223 : decode cX2_foreseeSteps 223 = .ok (.lmul, 1) := by decide +kernel
theorem dX2_foreseeSteps_224 : decode cX2_foreseeSteps 224 = .ok (.lsub, 1) := by decide +kernel
theorem dX2_foreseeSteps_225 : decode cX2_foreseeSteps 225 = .ok (.lstore 13, 2) := by decide +kernel
theorem dX2_foreseeSteps_227 : decode cX2_foreseeSteps 227 = .ok (.lload 4, 2) := by decide +kernel
theorem dX2_foreseeSteps_229 : decode cX2_foreseeSteps 229 = .ok (.lstore_n 2, 1) := by decide +kernel
theorem dX2_foreseeSteps_230 : decode cX2_foreseeSteps 230 = .ok (.lload 13, 2) := by decide +kernel
theorem dX2_foreseeSteps_232 : decode cX2_foreseeSteps 232 = .ok (.lstore 4, 2) := by decide +kernel
theorem dX2_foreseeSteps_234 : decode cX2_foreseeSteps 234 = .ok (.iinc 6 1, 3) := by decide +kernel
theorem dX2_foreseeSteps_237 : decode cX2_foreseeSteps 237 = .ok (.goto (-180), 3) := by decide +kernel
theorem dX2_foreseeSteps_240 : decode cX2_foreseeSteps 240 = .ok (.aload_n 0, 1) := by decide +kernel
theorem dX2_foreseeSteps_241 : decode cX2_foreseeSteps 241 = .ok (.getfield 78, 3) := by decide +kernel
theorem dX2_foreseeSteps_244 : decode cX2_foreseeSteps 244 = .ok (.lconst 0, 1) := by decide +kernel
theorem dX2_foreseeSteps_245 : decode cX2_foreseeSteps 245 = .ok (.lcmp, 1) := by decide +kernel
theorem dX2_foreseeSteps_246 : decode cX2_foreseeSteps 246 = .ok (.ifCond .eq 7, 3) := by decide +kernel
theorem dX2_foreseeSteps_249 : decode cX2_foreseeSteps 249 = .ok (.iconst 1, 1) := by decide +kernel
theorem dX2_foreseeSteps_250 : decode cX2_foreseeSteps 250 = .ok (.goto 4, 3) := by decide +kernel
theorem dX2_foreseeSteps_253 : decode cX2_foreseeSteps 253 = .ok (.iconst 0, 1) := by decide +kernel
theorem dX2_foreseeSteps_254 : decode cX2_foreseeSteps 254 = .ok (.ireturn, 1) := by decide +kernel
theorem dX2_mix_0 : decode cX2_mix 0 = .ok (.aload_n 0, 1) := by decide +kernel
theorem dX2_mix_1 : decode cX2_mix 1 = .ok (.getfield 21, 3) := by decide +kernel
theorem dX2_mix_4 : decode cX2_mix 4 = .ok (.getfield 96, 3) := by decide +kernel
theorem dX2_mix_7 : decode cX2_mix 7 = .ok (.istore_n 1, 1) := by decide +kernel
theorem dX2_mix_8 : decode cX2_mix 8 = .ok (.lconst 0, 1) := by decide +kernel
theorem dX2_mix_9 : decode cX2_mix 9 = .ok (.lstore_n 2, 1) := by decide +kernel
theorem dX2_mix_10 : decode cX2_mix 10 = .ok (.lconst 0, 1) := by decide +kernel
theorem dX2_mix_11 : decode cX2_mix 11 = .ok (.lstore 4, 2) := by decide +kernel
theorem dX2_mix_13 : decode cX2_mix 13 = .ok (.iconst 0, 1) := by decide +kernel
theorem dX2_mix_14 : decode cX2_mix 14 = .ok (.istore 6, 2) := by decide +kernel
theorem dX2_mix_16 : decode cX2_mix 16 = .ok (.iload 6, 2) := by decide +kernel
theorem dX2_mix_18 : decode cX2_mix 18 = .ok (.iload_n 1, 1) := by decide +kernel
theorem dX2_mix_19 : decode cX2_mix 19 = .ok (.if_icmp .ge 110, 3) := by decide +kernel
theorem dX2_mix_22 : decode cX2_mix 22 = .ok (.aload_n 0, 1) := by decide +kernel
theorem dX2_mix_23 : decode cX2_mix 23 = .ok (.getfield 21, 3) := by decide +kernel
theorem dX2_mix_26 : decode cX2_mix 26 = .ok (.iload 6, 2) := by decide +kernel
theorem dX2_mix_28 : decode cX2_mix 28 = .ok (.invokevirtual 100, 3) := by decide +kernel
theorem dX2_mix_31 : decode cX2_mix 31 = .ok (.lstore 7, 2) := by decide +kernel
theorem dX2_mix_33 : decode cX2_mix 33 = .ok (.aload_n 0, 1) := by decide +kernel
theorem dX2_mix_34 : decode cX2_mix 34 = .ok (.getfield 25, 3) := by decide +kernel
theorem dX2_mix_37 : decode cX2_mix 37 = .ok (.iload 6, 2) := by decide +kernel
theorem dX2_mix_39 : decode cX2_mix 39 = .ok (.invokevirtual 100, 3) := by decide +kernel
theorem dX2_mix_42 : decode cX2_mix 42 = .ok (.lstore 9, 2) := by decide +kernel
theorem dX2_mix_44 : decode cX2_mix 44 = .ok (.lload_n 2, 1) := by decide +kernel
theorem dX2_mix_45 : decode cX2_mix 45 = .ok (.aload_n 0, 1) := by decide +kernel
theorem dX2_mix_46 : decode cX2_mix 46 = .ok (.getfield 74, 3) := by decide +kernel
theorem dX2_mix_49 : decode cX2_mix 49 = .ok (.lload 7, 2) := by decide +kernel
theorem dX2_mix_51 : decode cX2_mix 51 = .ok (.lmul, 1) := by decide +kernel
theorem dX2_mix_52 : decode cX2_mix 52 = .ok (.aload_n 0, 1) := by decide +kernel
theorem dX2_mix_53 : decode cX2_mix 53 = .ok (.getfield 78, 3) := by decide +kernel
theorem dX2_mix_56 : decode cX2_mix 56 = .ok (.lload 9, 2) := by decide +kernel
theorem dX2_mix_58 : decode cX2_mix 58 = .ok (.lmul, 1) := by decide +kernel
theorem dX2_mix_59 : decode cX2_mix 59 = .ok (.ladd, 1) := by decide +kernel
theorem dX2_mix_60 : decode cX2_mix 60 = .ok (.ladd, 1) := by decide +kernel
theorem dX2_mix_61 : decode cX2_mix 61 = .ok (.lstore_n 2, 1) := by decide +kernel
theorem dX2_mix_62 : decode cX2_mix 62 = .ok (.lload 4, 2) := by decide +kernel
theorem dX2_mix_64 : decode cX2_mix 64 = .ok (.aload_n 0, 1) := by decide +kernel
theorem dX2_mix_65 : decode cX2_mix 65 = .ok (.getfield 81, 3) := by decide +kernel
theorem dX2_mix_68 : decode cX2_mix 68 = .ok (.lload 7, 2) := by decide +kernel
theorem dX2_mix_70 : decode cX2_mix 70 = .ok (.lmul, 1) := by decide +kernel
theorem dX2_mix_71 : decode cX2_mix 71 = .ok (.aload_n 0, 1) := by decide +kernel
theorem dX2_mix_72 : decode cX2_mix 72 = .ok (.getfield 84, 3) := by decide +kernel
theorem dX2_mix_75 : decode cX2_mix 75 = .ok (.lload 9, 2) := by decide +kernel
theorem dX2_mix_77 : decode cX2_mix 77 = .ok (.lmul, 1) := by decide +kernel
theorem dX2_mix_78 : decode cX2_mix 78 = .ok (.ladd, 1) := by decide +kernel
theorem dX2_mix_79 : decode cX2_mix 79 = .ok (.ladd, 1) := by decide +kernel
theorem dX2_mix_80 : decode cX2_mix 80 = .ok (.lstore 4, 2) := by decide +kernel
theorem dX2_mix_82 : decode cX2_mix 82 = .ok (.aload_n 0, 1) := by decide +kernel
theorem dX2_mix_83 : decode cX2_mix 83 = .ok (.getfield 21, 3) := by decide +kernel
theorem dX2_mix_86 : decode cX2_mix 86 = .ok (.iload 6, 2) := by decide +kernel
theorem dX2_mix_88 : decode cX2_mix 88 = .ok (.lload_n 2, 1) := by decide +kernel
theorem dX2_mix_89 : decode cX2_mix 89 = .ok (.ldc2_w 87, 3) := by decide +kernel
theorem dX2_mix_92 : decode cX2_mix 92 = .ok (.land, 1) := by decide +kernel
theorem dX2_mix_93 : decode cX2_mix 93 = .ok (.invokevirtual 103, 3) := by decide +kernel
theorem dX2_mix_96 : decode cX2_mix 96 = .ok (.aload_n 0, 1) := by decide +kernel
theorem dX2_mix_97 : decode cX2_mix 97 = .ok (.getfield 25, 3) := by decide +kernel
theorem dX2_mix_100 : decode cX2_mix 100 = .ok (.iload 6, 2) := by decide +kernel
theorem dX2_mix_102 : decode cX2_mix 102 = .ok (.lload 4, 2) := by decide +kernel
theorem dX2_mix_104 : decode cX2_mix 104 = .ok (.ldc2_w 87, 3) := by decide +kernel
theorem dX2_mix_107 : decode cX2_mix 107 = .ok (.land, 1) := by decide +kernel
theorem dX2_mix_108 : decode cX2_mix 108 = .ok (.invokevirtual 103, 3) := by decide +kernel
theorem dX2_mix_111 : decode cX2_mix 111 = .ok (.lload_n 2, 1) := by decide +kernel
theorem dX2_mix_112 : decode cX2_mix 112 = .ok (.bipush 31, 2) := by decide +kernel
theorem dX2_mix_114 : decode cX2_mix 114 = .ok (.lshr, 1) := by decide +kernel
theorem dX2_mix_115 : decode cX2_mix 115 = .ok (.lstore_n 2, 1) := by decide +kernel
theorem dX2_mix_116 : decode cX2_mix 116 = .ok (.lload 4, 2) := by decide +kernel
theorem dX2_mix_118 : decode cX2_mix 118 = .ok (.bipush 31, 2) := by decide +kernel
theorem dX2_mix_120 : decode cX2_mix 120 = .ok (.lshr, 1) := by decide +kernel
theorem dX2_mix_121 : decode cX2_mix 121 = .ok (.lstore 4, 2) := by decide +kernel
theorem dX2_mix_123 : decode cX2_mix 123 = .ok (.iinc 6 1, 3) := by decide +kernel
theorem dX2_mix_126 : decode cX2_mix 126 = .ok (.goto (-110), 3) := by decide +kernel
theorem dX2_mix_129 : decode cX2_mix 129 = .ok (.aload_n 0, 1) := by decide +kernel
theorem dX2_mix_130 : decode cX2_mix 130 = .ok (.getfield 21, 3) := by decide +kernel
theorem dX2_mix_133 : decode cX2_mix 133 = .ok (.iload_n 1, 1) := by decide +kernel
theorem dX2_mix_134 : decode cX2_mix 134 = .ok (.invokevirtual 107, 3) := by decide +kernel
theorem dX2_mix_137 : decode cX2_mix 137 = .ok (.aload_n 0, 1) := by decide +kernel
theorem dX2_mix_138 : decode cX2_mix 138 = .ok (.getfield 25, 3) := by decide +kernel
theorem dX2_mix_141 : decode cX2_mix 141 = .ok (.iload_n 1, 1) := by decide +kernel
theorem dX2_mix_142 : decode cX2_mix 142 = .ok (.invokevirtual 107, 3) := by decide +kernel
theorem dX2_mix_145 : decode cX2_mix 145 = .ok (.return_, 1) := by decide +kernel
