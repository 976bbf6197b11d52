theorem dX5_init_0 : decode cX5_init 0 = .ok (.aload_n 0, 1) := by decide +kernel
theorem dX5_init_1 : decode cX5_init 1 = .ok (.invokespecial 1, 3) := by decide +kernel
theorem dX5_init_4 : decode cX5_init 4 = .ok (.aload_n 0, 1) := by decide +kernel
theorem dX5_init_5 : decode cX5_init 5 = .ok (.sipush 160, 3) := by decide +kernel
theorem dX5_init_8 : decode cX5_init 8 = .ok (.putfield 9, 3) := by decide +kernel
theorem dX5_init_11 : decode cX5_init 11 = .ok (.aload_n 0, 1) := by decide +kernel
theorem dX5_init_12 : decode cX5_init 12 = .ok (.sipush 1920, 3) := by decide +kernel
theorem dX5_init_15 : decode cX5_init 15 = .ok (.newarray .int, 2) := by decide +kernel
theorem dX5_init_17 : decode cX5_init 17 = .ok (.putfield 13, 3) := by decide +kernel
theorem dX5_init_20 : decode cX5_init 20 = .ok (.aload_n 0, 1) := by decide +kernel
theorem dX5_init_21 : decode cX5_init 21 = .ok (.sipush 150, 3) := by decide +kernel
theorem dX5_init_24 : decode cX5_init 24 = .ok (.newarray .int, 2) := by decide +kernel
theorem dX5_init_26 : decode cX5_init 26 = .ok (.putfield 17, 3) := by decide +kernel
theorem dX5_init_29 : decode cX5_init 29 = .ok (.aload_n 0, 1) := by decide +kernel
theorem dX5_init_30 : decode cX5_init 30 = .ok (.sipush 8100, 3) := by decide +kernel
theorem dX5_init_33 : decode cX5_init 33 = .ok (.newarray .int, 2) := by decide +kernel
theorem dX5_init_35 : decode cX5_init 35 = .ok (.putfield 20, 3) := by decide +kernel
theorem dX5_init_38 : decode cX5_init 38 = .ok (.aload_n 0, 1) := by decide +kernel
theorem dX5_init_39 : decode cX5_init 39 = .ok (.sipush 8100, 3) := by decide +kernel
theorem dX5_init_42 : decode cX5_init 42 = .ok (.newarray .int, 2) := by decide +kernel
theorem dX5_init_44 : decode cX5_init 44 = .ok (.putfield 23, 3) := by decide +kernel
theorem dX5_init_47 : decode cX5_init 47 = .ok (.aload_n 0, 1) := by decide +kernel
theorem dX5_init_48 : decode cX5_init 48 = .ok (.bipush 80, 2) := by decide +kernel
theorem dX5_init_50 : decode cX5_init 50 = .ok (.newarray .int, 2) := by decide +kernel
theorem dX5_init_52 : decode cX5_init 52 = .ok (.putfield 26, 3) := by decide +kernel
theorem dX5_init_55 : decode cX5_init 55 = .ok (.aload_n 0, 1) := by decide +kernel
theorem dX5_init_56 : decode cX5_init 56 = .ok (.bipush 32, 2) := by decide +kernel
theorem dX5_init_58 : decode cX5_init 58 = .ok (.newarray .long, 2) := by decide +kernel
theorem dX5_init_60 : decode cX5_init 60 = .ok (.putfield 29, 3) := by decide +kernel
theorem dX5_init_63 : decode cX5_init 63 = .ok (.iconst 0, 1) := by decide +kernel
theorem dX5_init_64 : decode cX5_init 64 = .ok (.istore_n 1, 1) := by decide +kernel
theorem dX5_init_65 : decode cX5_init 65 = .ok (.iload_n 1, 1) := by decide +kernel
theorem dX5_init_66 : decode cX5_init 66 = .ok (.sipush 150, 3) := by decide +kernel
theorem dX5_init_69 : decode cX5_init 69 = .ok (.if_icmp .ge 19, 3) := by decide +kernel
theorem dX5_init_72 : decode cX5_init 72 = .ok (.aload_n 0, 1) := by decide +kernel
theorem dX5_init_73 : decode cX5_init 73 = .ok (.getfield 23, 3) := by decide +kernel
theorem dX5_init_76 : decode cX5_init 76 = .ok (.bipush 54, 2) := by decide +kernel
theorem dX5_init_78 : decode cX5_init 78 = .ok (.iload_n 1, 1) := by decide +kernel
theorem dX5_init_79 : decode cX5_init 79 = .ok (.imul, 1) := by decide +kernel
theorem dX5_init_80 : decode cX5_init 80 = .ok (.iconst 1, 1) := by decide +kernel
theorem dX5_init_81 : decode cX5_init 81 = .ok (.iastore, 1) := by decide +kernel
theorem dX5_init_82 : decode cX5_init 82 = .ok (.iinc 1 1, 3) := by decide +kernel
theorem dX5_init_85 : decode cX5_init 85 = .ok (.goto (-20), 3) := by decide +kernel
theorem dX5_init_88 : decode cX5_init 88 = .ok (.return_, 1) := by decide +kernel
theorem dX5_thrown_0 : decode cX5_thrown 0 = .ok (.aload_n 0, 1) := by decide +kernel
theorem dX5_thrown_1 : decode cX5_thrown 1 = .ok (.getfield 33, 3) := by decide +kernel
theorem dX5_thrown_4 : decode cX5_thrown 4 = .ok (.ireturn, 1) := by decide +kernel
theorem dX5_set_0 : decode cX5_set 0 = .ok (.iconst 0, 1) := by decide +kernel
theorem dX5_set_1 : decode cX5_set 1 = .ok (.istore 4, 2) := by decide +kernel
theorem dX5_set_3 : decode cX5_set 3 = .ok (.iload 4, 2) := by decide +kernel
theorem dX5_set_5 : decode cX5_set 5 = .ok (.sipush 160, 3) := by decide +kernel
theorem dX5_set_8 : decode cX5_set 8 = .ok (.if_icmp .ge 44, 3) := by decide +kernel
theorem dX5_set_11 : decode cX5_set 11 = .ok (.aload_n 0, 1) := by decide +kernel
theorem dX5_set_12 : decode cX5_set 12 = .ok (.getfield 13, 3) := by decide +kernel
theorem dX5_set_15 : decode cX5_set 15 = .ok (.sipush 160, 3) := by decide +kernel
theorem dX5_set_18 : decode cX5_set 18 = .ok (.iload_n 1, 1) := by decide +kernel
theorem dX5_set_19 : decode cX5_set 19 = .ok (.imul, 1) := by decide +kernel
theorem dX5_set_20 : decode cX5_set 20 = .ok (.iload 4, 2) := by decide +kernel
theorem dX5_set_22 : decode cX5_set 22 = .ok (.iadd, 1) := by decide +kernel
theorem dX5_set_23 : decode cX5_set 23 = .ok (.iload 4, 2) := by decide +kernel
theorem dX5_set_25 : decode cX5_set 25 = .ok (.iconst 5, 1) := by decide +kernel
theorem dX5_set_26 : decode cX5_set 26 = .ok (.if_icmp .ge 18, 3) := by decide +kernel
theorem dX5_set_29 : decode cX5_set 29 = .ok (.lload_n 2, 1) := by decide +kernel
theorem dX5_set_30 : decode cX5_set 30 = .ok (.bipush 15, 2) := by decide +kernel
theorem dX5_set_32 : decode cX5_set 32 = .ok (.iload 4, 2) := by decide +kernel
theorem dX5_set_34 : decode cX5_set 34 = .ok (.imul, 1) := by decide +kernel
theorem dX5_set_35 : decode cX5_set 35 = .ok (.lushr, 1) := by decide +kernel
theorem dX5_set_36 : decode cX5_set 36 = .ok (.l2i, 1) := by decide +kernel
theorem dX5_set_37 : decode cX5_set 37 = .ok (.sipush 32767, 3) := by decide +kernel
theorem dX5_set_40 : decode cX5_set 40 = .ok (.iand, 1) := by decide +kernel
theorem dX5_set_41 : decode cX5_set 41 = .ok (.goto 4, 3) := by decide +kernel
theorem dX5_set_44 : decode cX5_set 44 = .ok (.iconst 0, 1) := by decide +kernel
theorem dX5_set_45 : decode cX5_set 45 = .ok (.iastore, 1) := by decide +kernel
theorem dX5_set_46 : decode cX5_set 46 = .ok (.iinc 4 1, 3) := by decide +kernel
theorem dX5_set_49 : decode cX5_set 49 = .ok (.goto (-46), 3) := by decide +kernel
theorem dX5_set_52 : decode cX5_set 52 = .ok (.return_, 1) := by decide +kernel
theorem dX5_copy_0 : decode cX5_copy 0 = .ok (.iconst 0, 1) := by decide +kernel
theorem dX5_copy_1 : decode cX5_copy 1 = .ok (.istore_n 3, 1) := by decide +kernel
theorem dX5_copy_2 : decode cX5_copy 2 = .ok (.iload_n 3, 1) := by decide +kernel
theorem dX5_copy_3 : decode cX5_copy 3 = .ok (.sipush 160, 3) := by decide +kernel
theorem dX5_copy_6 : decode cX5_copy 6 = .ok (.if_icmp .ge 33, 3) := by decide +kernel
theorem dX5_copy_9 : decode cX5_copy 9 = .ok (.aload_n 0, 1) := by decide +kernel
theorem dX5_copy_10 : decode cX5_copy 10 = .ok (.getfield 13, 3) := by decide +kernel
theorem dX5_copy_13 : decode cX5_copy 13 = .ok (.sipush 160, 3) := by decide +kernel
theorem dX5_copy_16 : decode cX5_copy 16 = .ok (.iload_n 1, 1) := by decide +kernel
theorem dX5_copy_17 : decode cX5_copy 17 = .ok (.imul, 1) := by decide +kernel
theorem dX5_copy_18 : decode cX5_copy 18 = .ok (.iload_n 3, 1) := by decide +kernel
theorem dX5_copy_19 : decode cX5_copy 19 = .ok (.iadd, 1) := by decide +kernel
theorem dX5_copy_20 : decode cX5_copy 20 = .ok (.aload_n 0, 1) := by decide +kernel
theorem dX5_copy_21 : decode cX5_copy 21 = .ok (.getfield 13, 3) := by decide +kernel
theorem dX5_copy_24 : decode cX5_copy 24 = .ok (.sipush 160, 3) := by decide +kernel
theorem dX5_copy_27 : decode cX5_copy 27 = .ok (.iload_n 2, 1) := by decide +kernel
theorem dX5_copy_28 : decode cX5_copy 28 = .ok (.imul, 1) := by decide +kernel
theorem dX5_copy_29 : decode cX5_copy 29 = .ok (.iload_n 3, 1) := by decide +kernel
theorem dX5_copy_30 : decode cX5_copy 30 = .ok (.iadd, 1) := by decide +kernel
theorem dX5_copy_31 : decode cX5_copy 31 = .ok (.iaload, 1) := by decide +kernel
theorem dX5_copy_32 : decode cX5_copy 32 = .ok (.iastore, 1) := by decide +kernel
theorem dX5_copy_33 : decode cX5_copy 33 = .ok (.iinc 3 1, 3) := by decide +kernel
theorem dX5_copy_36 : decode cX5_copy 36 = .ok (.goto (-34), 3) := by decide +kernel
theorem dX5_copy_39 : decode cX5_copy 39 = .ok (.return_, 1) := by decide +kernel
theorem dX5_compare_0 : decode cX5_compare 0 = .ok (.aload_n 0, 1) := by decide +kernel
theorem dX5_compare_1 : decode cX5_compare 1 = .ok (.getfield 9, 3) := by decide +kernel
theorem dX5_compare_4 : decode cX5_compare 4 = .ok (.iconst 1, 1) := by decide +kernel
theorem dX5_compare_5 : decode cX5_compare 5 = .ok (.isub, 1) := by decide +kernel
theorem dX5_compare_6 : decode cX5_compare 6 = .ok (.istore_n 3, 1) := by decide +kernel
theorem dX5_compare_7 : decode cX5_compare 7 = .ok (.iload_n 3, 1) := by decide +kernel
theorem dX5_compare_8 : decode cX5_compare 8 = .ok (.ifCond .lt 52, 3) := by decide +kernel
theorem dX5_compare_11 : decode cX5_compare 11 = .ok (.aload_n 0, 1) := by decide +kernel
theorem dX5_compare_12 : decode cX5_compare 12 = .ok (.getfield 13, 3) := by decide +kernel
theorem dX5_compare_15 : decode cX5_compare 15 = .ok (.sipush 160, 3) := by decide +kernel
theorem dX5_compare_18 : decode cX5_compare 18 = .ok (.iload_n 1, 1) := by decide +kernel
theorem dX5_compare_19 : decode cX5_compare 19 = .ok (.imul, 1) := by decide +kernel
theorem dX5_compare_20 : decode cX5_compare 20 = .ok (.iload_n 3, 1) := by decide +kernel
theorem dX5_compare_21 : decode cX5_compare 21 = .ok (.iadd, 1) := by decide +kernel
theorem dX5_compare_22 : decode cX5_compare 22 = .ok (.iaload, 1) := by decide +kernel
theorem dX5_compare_23 : decode cX5_compare 23 = .ok (.aload_n 0, 1) := by decide +kernel
theorem dX5_compare_24 : decode cX5_compare 24 = .ok (.getfield 13, 3) := by decide +kernel
theorem dX5_compare_27 : decode cX5_compare 27 = .ok (.sipush 160, 3) := by decide +kernel
theorem dX5_compare_30 : decode cX5_compare 30 = .ok (.iload_n 2, 1) := by decide +kernel
theorem dX5_compare_31 : decode cX5_compare 31 = .ok (.imul, 1) := by decide +kernel
theorem dX5_compare_32 : decode cX5_compare 32 = .ok (.iload_n 3, 1) := by decide +kernel
theorem dX5_compare_33 : decode cX5_compare 33 = .ok (.iadd, 1) := by decide +kernel
theorem dX5_compare_34 : decode cX5_compare 34 = .ok (.iaload, 1) := by decide +kernel
theorem dX5_compare_35 : decode cX5_compare 35 = .ok (.isub, 1) := by decide +kernel
theorem dX5_compare_36 : decode cX5_compare 36 = .ok (.istore 4, 2) := by decide +kernel
theorem dX5_compare_38 : decode cX5_compare 38 = .ok (.iload 4, 2) := by decide +kernel
theorem dX5_compare_40 : decode cX5_compare 40 = .ok (.ifCond .eq 14, 3) := by decide +kernel
theorem dX5_compare_43 : decode cX5_compare 43 = .ok (.iload 4, 2) := by decide +kernel
theorem dX5_compare_45 : decode cX5_compare 45 = .ok (.ifCond .ge 7, 3) := by decide +kernel
theorem dX5_compare_48 : decode cX5_compare 48 = .ok (.iconst (-1), 1) := by decide +kernel
theorem dX5_compare_49 : decode cX5_compare 49 = .ok (.goto 4, 3) := by decide +kernel
theorem dX5_compare_52 : decode cX5_compare 52 = .ok (.iconst 1, 1) := by decide +kernel
theorem dX5_compare_53 : decode cX5_compare 53 = .ok (.ireturn, 1) := by decide +kernel
theorem dX5_compare_54 : decode cX5_compare 54 = .ok (.iinc 3 (-1), 3) := by decide +kernel
theorem dX5_compare_57 : decode cX5_compare 57 = .ok (.goto (-50), 3) := by decide +kernel
theorem dX5_compare_60 : decode cX5_compare 60 = .ok (.iconst 0, 1) := by decide +kernel
theorem dX5_compare_61 : decode cX5_compare 61 = .ok (.ireturn, 1) := by decide +kernel
theorem dX5_isZero_0 : decode cX5_isZero 0 = .ok (.iconst 1, 1) := by decide +kernel
theorem dX5_isZero_1 : decode cX5_isZero 1 = .ok (.istore_n 2, 1) := by decide +kernel
theorem dX5_isZero_2 : decode cX5_isZero 2 = .ok (.iconst 0, 1) := by decide +kernel
theorem dX5_isZero_3 : decode cX5_isZero 3 = .ok (.istore_n 3, 1) := by decide +kernel
theorem dX5_isZero_4 : decode cX5_isZero 4 = .ok (.iload_n 3, 1) := by decide +kernel
theorem dX5_isZero_5 : decode cX5_isZero 5 = .ok (.aload_n 0, 1) := by decide +kernel
theorem dX5_isZero_6 : decode cX5_isZero 6 = .ok (.getfield 9, 3) := by decide +kernel
theorem dX5_isZero_9 : decode cX5_isZero 9 = .ok (.if_icmp .ge 38, 3) := by decide +kernel
theorem dX5_isZero_12 : decode cX5_isZero 12 = .ok (.iload_n 2, 1) := by decide +kernel
theorem dX5_isZero_13 : decode cX5_isZero 13 = .ok (.ifCond .eq 34, 3) := by decide +kernel
theorem dX5_isZero_16 : decode cX5_isZero 16 = .ok (.iload_n 2, 1) := by decide +kernel
theorem dX5_isZero_17 : decode cX5_isZero 17 = .ok (.ifCond .eq 22, 3) := by decide +kernel
theorem dX5_isZero_20 : decode cX5_isZero 20 = .ok (.aload_n 0, 1) := by decide +kernel
theorem dX5_isZero_21 : decode cX5_isZero 21 = .ok (.getfield 13, 3) := by decide +kernel
theorem dX5_isZero_24 : decode cX5_isZero 24 = .ok (.sipush 160, 3) := by decide +kernel
theorem dX5_isZero_27 : decode cX5_isZero 27 = .ok (.iload_n 1, 1) := by decide +kernel
theorem dX5_isZero_28 : decode cX5_isZero 28 = .ok (.imul, 1) := by decide +kernel
theorem dX5_isZero_29 : decode cX5_isZero 29 = .ok (.iload_n 3, 1) := by decide +kernel
theorem dX5_isZero_30 : decode cX5_isZero 30 = .ok (.iadd, 1) := by decide +kernel
theorem dX5_isZero_31 : decode cX5_isZero 31 = .ok (.iaload, 1) := by decide +kernel
theorem dX5_isZero_32 : decode cX5_isZero 32 = .ok (.ifCond .ne 7, 3) := by decide +kernel
theorem dX5_isZero_35 : decode cX5_isZero 35 = .ok (.iconst 1, 1) := by decide +kernel
theorem dX5_isZero_36 : decode cX5_isZero 36 = .ok (.goto 4, 3) := by decide +kernel
theorem dX5_isZero_39 : decode cX5_isZero 39 = .ok (.iconst 0, 1) := by decide +kernel
theorem dX5_isZero_40 : decode cX5_isZero 40 = .ok (.istore_n 2, 1) := by decide +kernel
theorem dX5_isZero_41 : decode cX5_isZero 41 = .ok (.iinc 3 1, 3) := by decide +kernel
theorem dX5_isZero_44 : decode cX5_isZero 44 = .ok (.goto (-40), 3) := by decide +kernel
theorem dX5_isZero_47 : decode cX5_isZero 47 = .ok (.iload_n 2, 1) := by decide +kernel
theorem dX5_isZero_48 : decode cX5_isZero 48 = .ok (.ireturn, 1) := by decide +kernel
theorem dX5_size_0 : decode cX5_size 0 = .ok (.bipush 15, 2) := by decide +kernel
theorem dX5_size_2 : decode cX5_size 2 = .ok (.aload_n 0, 1) := by decide +kernel
theorem dX5_size_3 : decode cX5_size 3 = .ok (.getfield 9, 3) := by decide +kernel
theorem dX5_size_6 : decode cX5_size 6 = .ok (.imul, 1) := by decide +kernel
theorem dX5_size_7 : decode cX5_size 7 = .ok (.iconst 1, 1) := by decide +kernel
theorem dX5_size_8 : decode cX5_size 8 = .ok (.isub, 1) := by decide +kernel
theorem dX5_size_9 : decode cX5_size 9 = .ok (.istore_n 2, 1) := by decide +kernel
theorem dX5_size_10 : decode cX5_size 10 = .ok (.iload_n 2, 1) := by decide +kernel
theorem dX5_size_11 : decode cX5_size 11 = .ok (.ifCond .lt 39, 3) := by decide +kernel
theorem dX5_size_14 : decode cX5_size 14 = .ok (.aload_n 0, 1) := by decide +kernel
theorem dX5_size_15 : decode cX5_size 15 = .ok (.getfield 13, 3) := by decide +kernel
theorem dX5_size_18 : decode cX5_size 18 = .ok (.sipush 160, 3) := by decide +kernel
theorem dX5_size_21 : decode cX5_size 21 = .ok (.iload_n 1, 1) := by decide +kernel
theorem dX5_size_22 : decode cX5_size 22 = .ok (.imul, 1) := by decide +kernel
theorem dX5_size_23 : decode cX5_size 23 = .ok (.iload_n 2, 1) := by decide +kernel
theorem dX5_size_24 : decode cX5_size 24 = .ok (.bipush 15, 2) := by decide +kernel
theorem dX5_size_26 : decode cX5_size 26 = .ok (.idiv, 1) := by decide +kernel
theorem dX5_size_27 : decode cX5_size 27 = .ok (.iadd, 1) := by decide +kernel
theorem dX5_size_28 : decode cX5_size 28 = .ok (.iaload, 1) := by decide +kernel
theorem dX5_size_29 : decode cX5_size 29 = .ok (.iload_n 2, 1) := by decide +kernel
theorem dX5_size_30 : decode cX5_size 30 = .ok (.bipush 15, 2) := by decide +kernel
theorem dX5_size_32 : decode cX5_size 32 = .ok (.irem, 1) := by decide +kernel
theorem dX5_size_33 : decode cX5_size 33 = .ok (.ishr, 1) := by decide +kernel
theorem dX5_size_34 : decode cX5_size 34 = .ok (.iconst 1, 1) := by decide +kernel
theorem dX5_size_35 : decode cX5_size 35 = .ok (.iand, 1) := by decide +kernel
theorem dX5_size_36 : decode cX5_size 36 = .ok (.iconst 1, 1) := by decide +kernel
theorem dX5_size_37 : decode cX5_size 37 = .ok (.if_icmp .ne 7, 3) := by decide +kernel
theorem dX5_size_40 : decode cX5_size 40 = .ok (.iload_n 2, 1) := by decide +kernel
theorem dX5_size_41 : decode cX5_size 41 = .ok (.iconst 1, 1) := by decide +kernel
theorem dX5_size_42 : decode cX5_size 42 = .ok (.iadd, 1) := by decide +kernel
theorem dX5_size_43 : decode cX5_size 43 = .ok (.ireturn, 1) := by decide +kernel
theorem dX5_size_44 : decode cX5_size 44 = .ok (.iinc 2 (-1), 3) := by decide +kernel
theorem dX5_size_47 : decode cX5_size 47 = .ok (.goto (-37), 3) := by decide +kernel
theorem dX5_size_50 : decode cX5_size 50 = .ok (.iconst 0, 1) := by decide +kernel
theorem dX5_size_51 : decode cX5_size 51 = .ok (.ireturn, 1) := by decide +kernel
theorem dX5_plus_0 : decode cX5_plus 0 = .ok (.iconst 0, 1) := by decide +kernel
theorem dX5_plus_1 : decode cX5_plus 1 = .ok (.istore_n 3, 1) := by decide +kernel
theorem dX5_plus_2 : decode cX5_plus 2 = .ok (.iconst 0, 1) := by decide +kernel
theorem dX5_plus_3 : decode cX5_plus 3 = .ok (.istore 4, 2) := by decide +kernel
theorem dX5_plus_5 : decode cX5_plus 5 = .ok (.iload 4, 2) := by decide +kernel
theorem dX5_plus_7 : decode cX5_plus 7 = .ok (.aload_n 0, 1) := by decide +kernel
theorem dX5_plus_8 : decode cX5_plus 8 = .ok (.getfield 9, 3) := by decide +kernel
theorem dX5_plus_11 : decode cX5_plus 11 = .ok (.if_icmp .ge 65, 3) := by decide +kernel
theorem dX5_plus_14 : decode cX5_plus 14 = .ok (.aload_n 0, 1) := by decide +kernel
theorem dX5_plus_15 : decode cX5_plus 15 = .ok (.getfield 13, 3) := by decide +kernel
theorem dX5_plus_18 : decode cX5_plus 18 = .ok (.sipush 160, 3) := by decide +kernel
theorem dX5_plus_21 : decode cX5_plus 21 = .ok (.iload_n 1, 1) := by decide +kernel
theorem dX5_plus_22 : decode cX5_plus 22 = .ok (.imul, 1) := by decide +kernel
theorem dX5_plus_23 : decode cX5_plus 23 = .ok (.iload 4, 2) := by decide +kernel
theorem dX5_plus_25 : decode cX5_plus 25 = .ok (.iadd, 1) := by decide +kernel
theorem dX5_plus_26 : decode cX5_plus 26 = .ok (.iaload, 1) := by decide +kernel
theorem dX5_plus_27 : decode cX5_plus 27 = .ok (.aload_n 0, 1) := by decide +kernel
theorem dX5_plus_28 : decode cX5_plus 28 = .ok (.getfield 13, 3) := by decide +kernel
theorem dX5_plus_31 : decode cX5_plus 31 = .ok (.sipush 160, 3) := by decide +kernel
theorem dX5_plus_34 : decode cX5_plus 34 = .ok (.iload_n 2, 1) := by decide +kernel
theorem dX5_plus_35 : decode cX5_plus 35 = .ok (.imul, 1) := by decide +kernel
theorem dX5_plus_36 : decode cX5_plus 36 = .ok (.iload 4, 2) := by decide +kernel
theorem dX5_plus_38 : decode cX5_plus 38 = .ok (.iadd, 1) := by decide +kernel
theorem dX5_plus_39 : decode cX5_plus 39 = .ok (.iaload, 1) := by decide +kernel
theorem dX5_plus_40 : decode cX5_plus 40 = .ok (.iadd, 1) := by decide +kernel
theorem dX5_plus_41 : decode cX5_plus 41 = .ok (.iload_n 3, 1) := by decide +kernel
theorem dX5_plus_42 : decode cX5_plus 42 = .ok (.iadd, 1) := by decide +kernel
theorem dX5_plus_43 : decode cX5_plus 43 = .ok (.istore 5, 2) := by decide +kernel
theorem dX5_plus_45 : decode cX5_plus 45 = .ok (.aload_n 0, 1) := by decide +kernel
theorem dX5_plus_46 : decode cX5_plus 46 = .ok (.getfield 13, 3) := by decide +kernel
theorem dX5_plus_49 : decode cX5_plus 49 = .ok (.sipush 160, 3) := by decide +kernel
theorem dX5_plus_52 : decode cX5_plus 52 = .ok (.iload_n 1, 1) := by decide +kernel
theorem dX5_plus_53 : decode cX5_plus 53 = .ok (.imul, 1) := by decide +kernel
theorem dX5_plus_54 : decode cX5_plus 54 = .ok (.iload 4, 2) := by decide +kernel
theorem dX5_plus_56 : decode cX5_plus 56 = .ok (.iadd, 1) := by decide +kernel
theorem dX5_plus_57 : decode cX5_plus 57 = .ok (.iload 5, 2) := by decide +kernel
theorem dX5_plus_59 : decode cX5_plus 59 = .ok (.sipush 32767, 3) := by decide +kernel
theorem dX5_plus_62 : decode cX5_plus 62 = .ok (.iand, 1) := by decide +kernel
theorem dX5_plus_63 : decode cX5_plus 63 = .ok (.iastore, 1) := by decide +kernel
theorem dX5_plus_64 : decode cX5_plus 64 = .ok (.iload 5, 2) := by decide +kernel
theorem dX5_plus_66 : decode cX5_plus 66 = .ok (.bipush 15, 2) := by decide +kernel
theorem dX5_plus_68 : decode cX5_plus 68 = .ok (.ishr, 1) := by decide +kernel
theorem dX5_plus_69 : decode cX5_plus 69 = .ok (.istore_n 3, 1) := by decide +kernel
theorem dX5_plus_70 : decode cX5_plus 70 = .ok (.iinc 4 1, 3) := by decide +kernel
theorem dX5_plus_73 : decode cX5_plus 73 = .ok (.goto (-68), 3) := by decide +kernel
theorem dX5_plus_76 : decode cX5_plus 76 = .ok (.return_, 1) := by decide +kernel
theorem dX5_minus_0 : decode cX5_minus 0 = .ok (.iconst 0, 1) := by decide +kernel
theorem dX5_minus_1 : decode cX5_minus 1 = .ok (.istore_n 3, 1) := by decide +kernel
theorem dX5_minus_2 : decode cX5_minus 2 = .ok (.iconst 0, 1) := by decide +kernel
theorem dX5_minus_3 : decode cX5_minus 3 = .ok (.istore 4, 2) := by decide +kernel
theorem dX5_minus_5 : decode cX5_minus 5 = .ok (.iload 4, 2) := by decide +kernel
theorem dX5_minus_7 : decode cX5_minus 7 = .ok (.aload_n 0, 1) := by decide +kernel
theorem dX5_minus_8 : decode cX5_minus 8 = .ok (.getfield 9, 3) := by decide +kernel
theorem dX5_minus_11 : decode cX5_minus 11 = .ok (.if_icmp .ge 65, 3) := by decide +kernel
theorem dX5_minus_14 : decode cX5_minus 14 = .ok (.aload_n 0, 1) := by decide +kernel
theorem dX5_minus_15 : decode cX5_minus 15 = .ok (.getfield 13, 3) := by decide +kernel
theorem dX5_minus_18 : decode cX5_minus 18 = .ok (.sipush 160, 3) := by decide +kernel
theorem dX5_minus_21 : decode cX5_minus 21 = .ok (.iload_n 1, 1) := by decide +kernel
theorem dX5_minus_22 : decode cX5_minus 22 = .ok (.imul, 1) := by decide +kernel
theorem dX5_minus_23 : decode cX5_minus 23 = .ok (.iload 4, 2) := by decide +kernel
theorem dX5_minus_25 : decode cX5_minus 25 = .ok (.iadd, 1) := by decide +kernel
theorem dX5_minus_26 : decode cX5_minus 26 = .ok (.iaload, 1) := by decide +kernel
theorem dX5_minus_27 : decode cX5_minus 27 = .ok (.aload_n 0, 1) := by decide +kernel
theorem dX5_minus_28 : decode cX5_minus 28 = .ok (.getfield 13, 3) := by decide +kernel
theorem dX5_minus_31 : decode cX5_minus 31 = .ok (.sipush 160, 3) := by decide +kernel
theorem dX5_minus_34 : decode cX5_minus 34 = .ok (.iload_n 2, 1) := by decide +kernel
theorem dX5_minus_35 : decode cX5_minus 35 = .ok (.imul, 1) := by decide +kernel
theorem dX5_minus_36 : decode cX5_minus 36 = .ok (.iload 4, 2) := by decide +kernel
theorem dX5_minus_38 : decode cX5_minus 38 = .ok (.iadd, 1) := by decide +kernel
theorem dX5_minus_39 : decode cX5_minus 39 = .ok (.iaload, 1) := by decide +kernel
theorem dX5_minus_40 : decode cX5_minus 40 = .ok (.isub, 1) := by decide +kernel
theorem dX5_minus_41 : decode cX5_minus 41 = .ok (.iload_n 3, 1) := by decide +kernel
theorem dX5_minus_42 : decode cX5_minus 42 = .ok (.iadd, 1) := by decide +kernel
theorem dX5_minus_43 : decode cX5_minus 43 = .ok (.istore 5, 2) := by decide +kernel
theorem dX5_minus_45 : decode cX5_minus 45 = .ok (.aload_n 0, 1) := by decide +kernel
theorem dX5_minus_46 : decode cX5_minus 46 = .ok (.getfield 13, 3) := by decide +kernel
theorem dX5_minus_49 : decode cX5_minus 49 = .ok (.sipush 160, 3) := by decide +kernel
theorem dX5_minus_52 : decode cX5_minus 52 = .ok (.iload_n 1, 1) := by decide +kernel
theorem dX5_minus_53 : decode cX5_minus 53 = .ok (.imul, 1) := by decide +kernel
theorem dX5_minus_54 : decode cX5_minus 54 = .ok (.iload 4, 2) := by decide +kernel
theorem dX5_minus_56 : decode cX5_minus 56 = .ok (.iadd, 1) := by decide +kernel
theorem dX5_minus_57 : decode cX5_minus 57 = .ok (.iload 5, 2) := by decide +kernel
theorem dX5_minus_59 : decode cX5_minus 59 = .ok (.sipush 32767, 3) := by decide +kernel
theorem dX5_minus_62 : decode cX5_minus 62 = .ok (.iand, 1) := by decide +kernel
theorem dX5_minus_63 : decode cX5_minus 63 = .ok (.iastore, 1) := by decide +kernel
theorem dX5_minus_64 : decode cX5_minus 64 = .ok (.iload 5, 2) := by decide +kernel
theorem dX5_minus_66 : decode cX5_minus 66 = .ok (.bipush 15, 2) := by decide +kernel
theorem dX5_minus_68 : decode cX5_minus 68 = .ok (.ishr, 1) := by decide +kernel
theorem dX5_minus_69 : decode cX5_minus 69 = .ok (.istore_n 3, 1) := by decide +kernel
theorem dX5_minus_70 : decode cX5_minus 70 = .ok (.iinc 4 1, 3) := by decide +kernel
theorem dX5_minus_73 : decode cX5_minus 73 = .ok (.goto (-68), 3) := by decide +kernel
theorem dX5_minus_76 : decode cX5_minus 76 = .ok (.return_, 1) := by decide +kernel
theorem dX5_product_0 : decode cX5_product 0 = .ok (.aload_n 0, 1) := by decide +kernel
theorem dX5_product_1 : decode cX5_product 1 = .ok (.iload_n 3, 1) := by decide +kernel
theorem dX5_product_2 : decode cX5_product 2 = .ok (.lconst 0, 1) := by decide +kernel
theorem dX5_product_3 : decode cX5_product 3 = .ok (.invokevirtual 36, 3) := by decide +kernel
theorem dX5_product_6 : decode cX5_product 6 = .ok (.iconst 0, 1) := by decide +kernel
theorem dX5_product_7 : decode cX5_product 7 = .ok (.istore 4, 2) := by decide +kernel
theorem dX5_product_9 : decode cX5_product 9 = .ok (.iload 4, 2) := by decide +kernel
theorem dX5_product_11 : decode cX5_product 11 = .ok (.aload_n 0, 1) := by decide +kernel
theorem dX5_product_12 : decode cX5_product 12 = .ok (.getfield 9, 3) := by decide +kernel
theorem dX5_product_15 : decode cX5_product 15 = .ok (.if_icmp .ge 124, 3) := by decide +kernel
theorem dX5_product_18 : decode cX5_product 18 = .ok (.lconst 0, 1) := by decide +kernel
theorem dX5_product_19 : decode cX5_product 19 = .ok (.lstore 5, 2) := by decide +kernel
theorem dX5_product_21 : decode cX5_product 21 = .ok (.aload_n 0, 1) := by decide +kernel
theorem dX5_product_22 : decode cX5_product 22 = .ok (.getfield 13, 3) := by decide +kernel
theorem dX5_product_25 : decode cX5_product 25 = .ok (.sipush 160, 3) := by decide +kernel
theorem dX5_product_28 : decode cX5_product 28 = .ok (.iload_n 1, 1) := by decide +kernel
theorem dX5_product_29 : decode cX5_product 29 = .ok (.imul, 1) := by decide +kernel
theorem dX5_product_30 : decode cX5_product 30 = .ok (.iload 4, 2) := by decide +kernel
theorem dX5_product_32 : decode cX5_product 32 = .ok (.iadd, 1) := by decide +kernel
theorem dX5_product_33 : decode cX5_product 33 = .ok (.iaload, 1) := by decide +kernel
theorem dX5_product_34 : decode cX5_product 34 = .ok (.istore 7, 2) := by decide +kernel
theorem dX5_product_36 : decode cX5_product 36 = .ok (.iconst 0, 1) := by decide +kernel
theorem dX5_product_37 : decode cX5_product 37 = .ok (.istore 8, 2) := by decide +kernel
theorem dX5_product_39 : decode cX5_product 39 = .ok (.iload 4, 2) := by decide +kernel
theorem dX5_product_41 : decode cX5_product 41 = .ok (.iload 8, 2) := by decide +kernel
theorem dX5_product_43 : decode cX5_product 43 = .ok (.iadd, 1) := by decide +kernel
theorem dX5_product_44 : decode cX5_product 44 = .ok (.aload_n 0, 1) := by decide +kernel
theorem dX5_product_45 : decode cX5_product 45 = .ok (.getfield 9, 3) := by decide +kernel
theorem dX5_product_48 : decode cX5_product 48 = .ok (.if_icmp .ge 85, 3) := by decide +kernel
theorem dX5_product_51 : decode cX5_product 51 = .ok (.iload 7, 2) := by decide +kernel
theorem dX5_product_53 : decode cX5_product 53 = .ok (.ifCond .eq 80, 3) := by decide +kernel
theorem dX5_product_56 : decode cX5_product 56 = .ok (.aload_n 0, 1) := by decide +kernel
theorem dX5_product_57 : decode cX5_product 57 = .ok (.getfield 13, 3) := by decide +kernel
theorem dX5_product_60 : decode cX5_product 60 = .ok (.sipush 160, 3) := by decide +kernel
theorem dX5_product_63 : decode cX5_product 63 = .ok (.iload_n 3, 1) := by decide +kernel
theorem dX5_product_64 : decode cX5_product 64 = .ok (.imul, 1) := by decide +kernel
theorem dX5_product_65 : decode cX5_product 65 = .ok (.iload 4, 2) := by decide +kernel
theorem dX5_product_67 : decode cX5_product 67 = .ok (.iadd, 1) := by decide +kernel
theorem dX5_product_68 : decode cX5_product 68 = .ok (.iload 8, 2) := by decide +kernel
theorem dX5_product_70 : decode cX5_product 70 = .ok (.iadd, 1) := by decide +kernel
theorem dX5_product_71 : decode cX5_product 71 = .ok (.iaload, 1) := by decide +kernel
theorem dX5_product_72 : decode cX5_product 72 = .ok (.i2l, 1) := by decide +kernel
theorem dX5_product_73 : decode cX5_product 73 = .ok (.iload 7, 2) := by decide +kernel
theorem dX5_product_75 : decode cX5_product 75 = .ok (.i2l, 1) := by decide +kernel
theorem dX5_product_76 : decode cX5_product 76 = .ok (.aload_n 0, 1) := by decide +kernel
theorem dX5_product_77 : decode cX5_product 77 = .ok (.getfield 13, 3) := by decide +kernel
theorem dX5_product_80 : decode cX5_product 80 = .ok (.sipush 160, 3) := by decide +kernel
theorem dX5_product_83 : decode cX5_product 83 = .ok (.iload_n 2, 1) := by decide +kernel
theorem dX5_product_84 : decode cX5_product 84 = .ok (.imul, 1) := by decide +kernel
theorem dX5_product_85 : decode cX5_product 85 = .ok (.iload 8, 2) := by decide +kernel
theorem dX5_product_87 : decode cX5_product 87 = .ok (.iadd, 1) := by decide +kernel
theorem dX5_product_88 : decode cX5_product 88 = .ok (.iaload, 1) := by decide +kernel
theorem dX5_product_89 : decode cX5_product 89 = .ok (.i2l, 1) := by decide +kernel
theorem dX5_product_90 : decode cX5_product 90 = .ok (.lmul, 1) := by decide +kernel
theorem dX5_product_91 : decode cX5_product 91 = .ok (.ladd, 1) := by decide +kernel
theorem dX5_product_92 : decode cX5_product 92 = .ok (.lload 5, 2) := by decide +kernel
theorem dX5_product_94 : decode cX5_product 94 = .ok (.ladd, 1) := by decide +kernel
theorem dX5_product_95 : decode cX5_product 95 = .ok (.lstore 9, 2) := by decide +kernel
theorem dX5_product_97 : decode cX5_product 97 = .ok (.aload_n 0, 1) := by decide +kernel
theorem dX5_product_98 : decode cX5_product 98 = .ok (.getfield 13, 3) := by decide +kernel
theorem dX5_product_101 : decode cX5_product 101 = .ok (.sipush 160, 3) := by decide +kernel
theorem dX5_product_104 : decode cX5_product 104 = .ok (.iload_n 3, 1) := by decide +kernel
theorem dX5_product_105 : decode cX5_product 105 = .ok (.imul, 1) := by decide +kernel
theorem dX5_product_106 : decode cX5_product 106 = .ok (.iload 4, 2) := by decide +kernel
theorem dX5_product_108 : decode cX5_product 108 = .ok (.iadd, 1) := by decide +kernel
theorem dX5_product_109 : decode cX5_product 109 = .ok (.iload 8, 2) := by decide +kernel
theorem dX5_product_111 : decode cX5_product 111 = .ok (.iadd, 1) := by decide +kernel
theorem dX5_product_112 : decode cX5_product 112 = .ok (.lload 9, 2) := by decide +kernel
theorem dX5_product_114 : decode cX5_product 114 = .ok (.ldc2_w 40, 3) := by decide +kernel
theorem dX5_product_117 : decode cX5_product 117 = .ok (.land, 1) := by decide +kernel
theorem dX5_product_118 : decode cX5_product 118 = .ok (.l2i, 1) := by decide +kernel
theorem dX5_product_119 : decode cX5_product 119 = .ok (.iastore, 1) := by decide +kernel
theorem dX5_product_120 : decode cX5_product 120 = .ok (.lload 9, 2) := by decide +kernel
theorem dX5_product_122 : decode cX5_product 122 = .ok (.bipush 15, 2) := by decide +kernel
theorem dX5_product_124 : decode cX5_product 124 = .ok (.lshr, 1) := by decide +kernel
theorem dX5_product_125 : decode cX5_product 125 = .ok (.lstore 5, 2) := by decide +kernel
theorem dX5_product_127 : decode cX5_product 127 = .ok (.iinc 8 1, 3) := by decide +kernel
theorem dX5_product_130 : decode cX5_product 130 = .ok (.goto (-91), 3) := by decide +kernel
theorem dX5_product_133 : decode cX5_product 133 = .ok (.iinc 4 1, 3) := by decide +kernel
theorem dX5_product_136 : decode cX5_product 136 = .ok (.goto (-127), 3) := by decide +kernel
theorem dX5_product_139 : decode cX5_product 139 = .ok (.return_, 1) := by decide +kernel
theorem dX5_twice_0 : decode cX5_twice 0 = .ok (.iconst 0, 1) := by decide +kernel
theorem dX5_twice_1 : decode cX5_twice 1 = .ok (.istore_n 2, 1) := by decide +kernel
theorem dX5_twice_2 : decode cX5_twice 2 = .ok (.iconst 0, 1) := by decide +kernel
theorem dX5_twice_3 : decode cX5_twice 3 = .ok (.istore_n 3, 1) := by decide +kernel
theorem dX5_twice_4 : decode cX5_twice 4 = .ok (.iload_n 3, 1) := by decide +kernel
theorem dX5_twice_5 : decode cX5_twice 5 = .ok (.aload_n 0, 1) := by decide +kernel
theorem dX5_twice_6 : decode cX5_twice 6 = .ok (.getfield 9, 3) := by decide +kernel
theorem dX5_twice_9 : decode cX5_twice 9 = .ok (.if_icmp .ge 51, 3) := by decide +kernel
theorem dX5_twice_12 : decode cX5_twice 12 = .ok (.aload_n 0, 1) := by decide +kernel
theorem dX5_twice_13 : decode cX5_twice 13 = .ok (.getfield 13, 3) := by decide +kernel
theorem dX5_twice_16 : decode cX5_twice 16 = .ok (.sipush 160, 3) := by decide +kernel
theorem dX5_twice_19 : decode cX5_twice 19 = .ok (.iload_n 1, 1) := by decide +kernel
theorem dX5_twice_20 : decode cX5_twice 20 = .ok (.imul, 1) := by decide +kernel
theorem dX5_twice_21 : decode cX5_twice 21 = .ok (.iload_n 3, 1) := by decide +kernel
theorem dX5_twice_22 : decode cX5_twice 22 = .ok (.iadd, 1) := by decide +kernel
theorem dX5_twice_23 : decode cX5_twice 23 = .ok (.iaload, 1) := by decide +kernel
theorem dX5_twice_24 : decode cX5_twice 24 = .ok (.iconst 2, 1) := by decide +kernel
theorem dX5_twice_25 : decode cX5_twice 25 = .ok (.imul, 1) := by decide +kernel
theorem dX5_twice_26 : decode cX5_twice 26 = .ok (.iload_n 2, 1) := by decide +kernel
theorem dX5_twice_27 : decode cX5_twice 27 = .ok (.iadd, 1) := by decide +kernel
theorem dX5_twice_28 : decode cX5_twice 28 = .ok (.istore 4, 2) := by decide +kernel
theorem dX5_twice_30 : decode cX5_twice 30 = .ok (.aload_n 0, 1) := by decide +kernel
theorem dX5_twice_31 : decode cX5_twice 31 = .ok (.getfield 13, 3) := by decide +kernel
theorem dX5_twice_34 : decode cX5_twice 34 = .ok (.sipush 160, 3) := by decide +kernel
theorem dX5_twice_37 : decode cX5_twice 37 = .ok (.iload_n 1, 1) := by decide +kernel
theorem dX5_twice_38 : decode cX5_twice 38 = .ok (.imul, 1) := by decide +kernel
theorem dX5_twice_39 : decode cX5_twice 39 = .ok (.iload_n 3, 1) := by decide +kernel
theorem dX5_twice_40 : decode cX5_twice 40 = .ok (.iadd, 1) := by decide +kernel
theorem dX5_twice_41 : decode cX5_twice 41 = .ok (.iload 4, 2) := by decide +kernel
theorem dX5_twice_43 : decode cX5_twice 43 = .ok (.sipush 32767, 3) := by decide +kernel
theorem dX5_twice_46 : decode cX5_twice 46 = .ok (.iand, 1) := by decide +kernel
theorem dX5_twice_47 : decode cX5_twice 47 = .ok (.iastore, 1) := by decide +kernel
theorem dX5_twice_48 : decode cX5_twice 48 = .ok (.iload 4, 2) := by decide +kernel
theorem dX5_twice_50 : decode cX5_twice 50 = .ok (.bipush 15, 2) := by decide +kernel
theorem dX5_twice_52 : decode cX5_twice 52 = .ok (.ishr, 1) := by decide +kernel
theorem dX5_twice_53 : decode cX5_twice 53 = .ok (.istore_n 2, 1) := by decide +kernel
theorem dX5_twice_54 : decode cX5_twice 54 = .ok (.iinc 3 1, 3) := by decide +kernel
theorem dX5_twice_57 : decode cX5_twice 57 = .ok (.goto (-53), 3) := by decide +kernel
theorem dX5_twice_60 : decode cX5_twice 60 = .ok (.return_, 1) := by decide +kernel
theorem dX5_half_0 : decode cX5_half 0 = .ok (.iconst 0, 1) := by decide +kernel
theorem dX5_half_1 : decode cX5_half 1 = .ok (.istore_n 2, 1) := by decide +kernel
theorem dX5_half_2 : decode cX5_half 2 = .ok (.iload_n 2, 1) := by decide +kernel
theorem dX5_half_3 : decode cX5_half 3 = .ok (.aload_n 0, 1) := by decide +kernel
theorem dX5_half_4 : decode cX5_half 4 = .ok (.getfield 9, 3) := by decide +kernel
theorem dX5_half_7 : decode cX5_half 7 = .ok (.if_icmp .ge 70, 3) := by decide +kernel
theorem dX5_half_10 : decode cX5_half 10 = .ok (.iload_n 2, 1) := by decide +kernel
theorem dX5_half_11 : decode cX5_half 11 = .ok (.iconst 1, 1) := by decide +kernel
theorem dX5_half_12 : decode cX5_half 12 = .ok (.iadd, 1) := by decide +kernel
theorem dX5_half_13 : decode cX5_half 13 = .ok (.sipush 160, 3) := by decide +kernel
theorem dX5_half_16 : decode cX5_half 16 = .ok (.if_icmp .ge 22, 3) := by decide +kernel
theorem dX5_half_19 : decode cX5_half 19 = .ok (.aload_n 0, 1) := by decide +kernel
theorem dX5_half_20 : decode cX5_half 20 = .ok (.getfield 13, 3) := by decide +kernel
theorem dX5_half_23 : decode cX5_half 23 = .ok (.sipush 160, 3) := by decide +kernel
theorem dX5_half_26 : decode cX5_half 26 = .ok (.iload_n 1, 1) := by decide +kernel
theorem dX5_half_27 : decode cX5_half 27 = .ok (.imul, 1) := by decide +kernel
theorem dX5_half_28 : decode cX5_half 28 = .ok (.iload_n 2, 1) := by decide +kernel
theorem dX5_half_29 : decode cX5_half 29 = .ok (.iadd, 1) := by decide +kernel
theorem dX5_half_30 : decode cX5_half 30 = .ok (.iconst 1, 1) := by decide +kernel
theorem dX5_half_31 : decode cX5_half 31 = .ok (.iadd, 1) := by decide +kernel
theorem dX5_half_32 : decode cX5_half 32 = .ok (.iaload, 1) := by decide +kernel
theorem dX5_half_33 : decode cX5_half 33 = .ok (.iconst 1, 1) := by decide +kernel
theorem dX5_half_34 : decode cX5_half 34 = .ok (.iand, 1) := by decide +kernel
theorem dX5_half_35 : decode cX5_half 35 = .ok (.goto 4, 3) := by decide +kernel
theorem dX5_half_38 : decode cX5_half 38 = .ok (.iconst 0, 1) := by decide +kernel
theorem dX5_half_39 : decode cX5_half 39 = .ok (.istore_n 3, 1) := by decide +kernel
theorem dX5_half_40 : decode cX5_half 40 = .ok (.aload_n 0, 1) := by decide +kernel
theorem dX5_half_41 : decode cX5_half 41 = .ok (.getfield 13, 3) := by decide +kernel
theorem dX5_half_44 : decode cX5_half 44 = .ok (.sipush 160, 3) := by decide +kernel
theorem dX5_half_47 : decode cX5_half 47 = .ok (.iload_n 1, 1) := by decide +kernel
theorem dX5_half_48 : decode cX5_half 48 = .ok (.imul, 1) := by decide +kernel
theorem dX5_half_49 : decode cX5_half 49 = .ok (.iload_n 2, 1) := by decide +kernel
theorem dX5_half_50 : decode cX5_half 50 = .ok (.iadd, 1) := by decide +kernel
theorem dX5_half_51 : decode cX5_half 51 = .ok (.aload_n 0, 1) := by decide +kernel
theorem dX5_half_52 : decode cX5_half 52 = .ok (.getfield 13, 3) := by decide +kernel
theorem dX5_half_55 : decode cX5_half 55 = .ok (.sipush 160, 3) := by decide +kernel
theorem dX5_half_58 : decode cX5_half 58 = .ok (.iload_n 1, 1) := by decide +kernel
theorem dX5_half_59 : decode cX5_half 59 = .ok (.imul, 1) := by decide +kernel
theorem dX5_half_60 : decode cX5_half 60 = .ok (.iload_n 2, 1) := by decide +kernel
theorem dX5_half_61 : decode cX5_half 61 = .ok (.iadd, 1) := by decide +kernel
theorem dX5_half_62 : decode cX5_half 62 = .ok (.iaload, 1) := by decide +kernel
theorem dX5_half_63 : decode cX5_half 63 = .ok (.iconst 1, 1) := by decide +kernel
theorem dX5_half_64 : decode cX5_half 64 = .ok (.ishr, 1) := by decide +kernel
theorem dX5_half_65 : decode cX5_half 65 = .ok (.iload_n 3, 1) := by decide +kernel
theorem dX5_half_66 : decode cX5_half 66 = .ok (.bipush 14, 2) := by decide +kernel
theorem dX5_half_68 : decode cX5_half 68 = .ok (.ishl, 1) := by decide +kernel
theorem dX5_half_69 : decode cX5_half 69 = .ok (.ior, 1) := by decide +kernel
theorem dX5_half_70 : decode cX5_half 70 = .ok (.iastore, 1) := by decide +kernel
theorem dX5_half_71 : decode cX5_half 71 = .ok (.iinc 2 1, 3) := by decide +kernel
theorem dX5_half_74 : decode cX5_half 74 = .ok (.goto (-72), 3) := by decide +kernel
theorem dX5_half_77 : decode cX5_half 77 = .ok (.return_, 1) := by decide +kernel
theorem dX5_isEven_0 : decode cX5_isEven 0 = .ok (.aload_n 0, 1) := by decide +kernel
theorem dX5_isEven_1 : decode cX5_isEven 1 = .ok (.getfield 13, 3) := by decide +kernel
theorem dX5_isEven_4 : decode cX5_isEven 4 = .ok (.sipush 160, 3) := by decide +kernel
theorem dX5_isEven_7 : decode cX5_isEven 7 = .ok (.iload_n 1, 1) := by decide +kernel
theorem dX5_isEven_8 : decode cX5_isEven 8 = .ok (.imul, 1) := by decide +kernel
theorem dX5_isEven_9 : decode cX5_isEven 9 = .ok (.iaload, 1) := by decide +kernel
theorem dX5_isEven_10 : decode cX5_isEven 10 = .ok (.iconst 1, 1) := by decide +kernel
theorem dX5_isEven_11 : decode cX5_isEven 11 = .ok (.iand, 1) := by decide +kernel
theorem dX5_isEven_12 : decode cX5_isEven 12 = .ok (.ifCond .ne 7, 3) := by decide +kernel
theorem dX5_isEven_15 : decode cX5_isEven 15 = .ok (.iconst 1, 1) := by decide +kernel
theorem dX5_isEven_16 : decode cX5_isEven 16 = .ok (.goto 4, 3) := by decide +kernel
theorem dX5_isEven_19 : decode cX5_isEven 19 = .ok (.iconst 0, 1) := by decide +kernel
theorem dX5_isEven_20 : decode cX5_isEven 20 = .ok (.ireturn, 1) := by decide +kernel
theorem dX5_divide_0 : decode cX5_divide 0 = .ok (.aload_n 0, 1) := by decide +kernel
theorem dX5_divide_1 : decode cX5_divide 1 = .ok (.iload_n 3, 1) := by decide +kernel
theorem dX5_divide_2 : decode cX5_divide 2 = .ok (.lconst 0, 1) := by decide +kernel
theorem dX5_divide_3 : decode cX5_divide 3 = .ok (.invokevirtual 36, 3) := by decide +kernel
theorem dX5_divide_6 : decode cX5_divide 6 = .ok (.aload_n 0, 1) := by decide +kernel
theorem dX5_divide_7 : decode cX5_divide 7 = .ok (.iload 4, 2) := by decide +kernel
theorem dX5_divide_9 : decode cX5_divide 9 = .ok (.lconst 0, 1) := by decide +kernel
theorem dX5_divide_10 : decode cX5_divide 10 = .ok (.invokevirtual 36, 3) := by decide +kernel
theorem dX5_divide_13 : decode cX5_divide 13 = .ok (.aload_n 0, 1) := by decide +kernel
theorem dX5_divide_14 : decode cX5_divide 14 = .ok (.iload_n 1, 1) := by decide +kernel
theorem dX5_divide_15 : decode cX5_divide 15 = .ok (.invokevirtual 42, 3) := by decide +kernel
theorem dX5_divide_18 : decode cX5_divide 18 = .ok (.iconst 1, 1) := by decide +kernel
theorem dX5_divide_19 : decode cX5_divide 19 = .ok (.isub, 1) := by decide +kernel
theorem dX5_divide_20 : decode cX5_divide 20 = .ok (.istore 5, 2) := by decide +kernel
theorem dX5_divide_22 : decode cX5_divide 22 = .ok (.iload 5, 2) := by decide +kernel
theorem dX5_divide_24 : decode cX5_divide 24 = .ok (.ifCond .lt 96, 3) := by decide +kernel
theorem dX5_divide_27 : decode cX5_divide 27 = .ok (.aload_n 0, 1) := by decide +kernel
theorem dX5_divide_28 : decode cX5_divide 28 = .ok (.iload 4, 2) := by decide +kernel
theorem dX5_divide_30 : decode cX5_divide 30 = .ok (.invokevirtual 46, 3) := by decide +kernel
theorem dX5_divide_33 : decode cX5_divide 33 = .ok (.aload_n 0, 1) := by decide +kernel
theorem dX5_divide_34 : decode cX5_divide 34 = .ok (.getfield 13, 3) := by decide +kernel
theorem dX5_divide_37 : decode cX5_divide 37 = .ok (.sipush 160, 3) := by decide +kernel
theorem dX5_divide_40 : decode cX5_divide 40 = .ok (.iload 4, 2) := by decide +kernel
theorem dX5_divide_42 : decode cX5_divide 42 = .ok (.imul, 1) := by decide +kernel
theorem dX5_divide_43 : decode cX5_divide 43 = .ok (.dup2, 1) := by decide +kernel
theorem dX5_divide_44 : decode cX5_divide 44 = .ok (.iaload, 1) := by decide +kernel
theorem dX5_divide_45 : decode cX5_divide 45 = .ok (.aload_n 0, 1) := by decide +kernel
theorem dX5_divide_46 : decode cX5_divide 46 = .ok (.getfield 13, 3) := by decide +kernel
theorem dX5_divide_49 : decode cX5_divide 49 = .ok (.sipush 160, 3) := by decide +kernel
theorem dX5_divide_52 : decode cX5_divide 52 = .ok (.iload_n 1, 1) := by decide +kernel
theorem dX5_divide_53 : decode cX5_divide 53 = .ok (.imul, 1) := by decide +kernel
theorem dX5_divide_54 : decode cX5_divide 54 = .ok (.iload 5, 2) := by decide +kernel
theorem dX5_divide_56 : decode cX5_divide 56 = .ok (.bipush 15, 2) := by decide +kernel
theorem dX5_divide_58 : decode cX5_divide 58 = .ok (.idiv, 1) := by decide +kernel
theorem dX5_divide_59 : decode cX5_divide 59 = .ok (.iadd, 1) := by decide +kernel
theorem dX5_divide_60 : decode cX5_divide 60 = .ok (.iaload, 1) := by decide +kernel
theorem dX5_divide_61 : decode cX5_divide 61 = .ok (.iload 5, 2) := by decide +kernel
theorem dX5_divide_63 : decode cX5_divide 63 = .ok (.bipush 15, 2) := by decide +kernel
theorem dX5_divide_65 : decode cX5_divide 65 = .ok (.irem, 1) := by decide +kernel
theorem dX5_divide_66 : decode cX5_divide 66 = .ok (.ishr, 1) := by decide +kernel
theorem dX5_divide_67 : decode cX5_divide 67 = .ok (.iconst 1, 1) := by decide +kernel
theorem dX5_divide_68 : decode cX5_divide 68 = .ok (.iand, 1) := by decide +kernel
theorem dX5_divide_69 : decode cX5_divide 69 = .ok (.iadd, 1) := by decide +kernel
theorem dX5_divide_70 : decode cX5_divide 70 = .ok (.iastore, 1) := by decide +kernel
theorem dX5_divide_71 : decode cX5_divide 71 = .ok (.aload_n 0, 1) := by decide +kernel
theorem dX5_divide_72 : decode cX5_divide 72 = .ok (.iload 4, 2) := by decide +kernel
theorem dX5_divide_74 : decode cX5_divide 74 = .ok (.iload_n 2, 1) := by decide +kernel
theorem dX5_divide_75 : decode cX5_divide 75 = .ok (.invokevirtual 50, 3) := by decide +kernel
theorem dX5_divide_78 : decode cX5_divide 78 = .ok (.ifCond .lt 36, 3) := by decide +kernel
theorem dX5_divide_81 : decode cX5_divide 81 = .ok (.aload_n 0, 1) := by decide +kernel
theorem dX5_divide_82 : decode cX5_divide 82 = .ok (.iload 4, 2) := by decide +kernel
theorem dX5_divide_84 : decode cX5_divide 84 = .ok (.iload_n 2, 1) := by decide +kernel
theorem dX5_divide_85 : decode cX5_divide 85 = .ok (.invokevirtual 54, 3) := by decide +kernel
theorem dX5_divide_88 : decode cX5_divide 88 = .ok (.aload_n 0, 1) := by decide +kernel
theorem dX5_divide_89 : decode cX5_divide 89 = .ok (.getfield 13, 3) := by decide +kernel
theorem dX5_divide_92 : decode cX5_divide 92 = .ok (.sipush 160, 3) := by decide +kernel
theorem dX5_divide_95 : decode cX5_divide 95 = .ok (.iload_n 3, 1) := by decide +kernel
theorem dX5_divide_96 : decode cX5_divide 96 = .ok (.imul, 1) := by decide +kernel
theorem dX5_divide_97 : decode cX5_divide 97 = .ok (.iload 5, 2) := by decide +kernel
theorem dX5_divide_99 : decode cX5_divide 99 = .ok (.bipush 15, 2) := by decide +kernel
theorem dX5_divide_101 : decode cX5_divide 101 = .ok (.idiv, 1) := by decide +kernel
theorem dX5_divide_102 : decode cX5_divide 102 = .ok (.iadd, 1) := by decide +kernel
theorem dX5_divide_103 : decode cX5_divide 103 = .ok (.dup2, 1) := by decide +kernel
theorem dX5_divide_104 : decode cX5_divide 104 = .ok (.iaload, 1) := by decide +kernel
theorem dX5_divide_105 : decode cX5_divide 105 = .ok (.iconst 1, 1) := by decide +kernel
theorem dX5_divide_106 : decode cX5_divide 106 = .ok (.iload 5, 2) := by decide +kernel
theorem dX5_divide_108 : decode cX5_divide 108 = .ok (.bipush 15, 2) := by decide +kernel
theorem dX5_divide_110 : decode cX5_divide 110 = .ok (.irem, 1) := by decide +kernel
theorem dX5_divide_111 : decode cX5_divide 111 = .ok (.ishl, 1) := by decide +kernel
theorem dX5_divide_112 : decode cX5_divide 112 = .ok (.iadd, 1) := by decide +kernel
theorem dX5_divide_113 : decode cX5_divide 113 = .ok (.iastore, 1) := by decide +kernel
theorem dX5_divide_114 : decode cX5_divide 114 = .ok (.iinc 5 (-1), 3) := by decide +kernel
theorem dX5_divide_117 : decode cX5_divide 117 = .ok (.goto (-95), 3) := by decide +kernel
theorem dX5_divide_120 : decode cX5_divide 120 = .ok (.return_, 1) := by decide +kernel
theorem dX5_divisor_0 : decode cX5_divisor 0 = .ok (.iload_n 1, 1) := by decide +kernel
theorem dX5_divisor_1 : decode cX5_divisor 1 = .ok (.istore_n 3, 1) := by decide +kernel
theorem dX5_divisor_2 : decode cX5_divisor 2 = .ok (.iload_n 2, 1) := by decide +kernel
theorem dX5_divisor_3 : decode cX5_divisor 3 = .ok (.istore 4, 2) := by decide +kernel
theorem dX5_divisor_5 : decode cX5_divisor 5 = .ok (.aload_n 0, 1) := by decide +kernel
theorem dX5_divisor_6 : decode cX5_divisor 6 = .ok (.iload_n 3, 1) := by decide +kernel
theorem dX5_divisor_7 : decode cX5_divisor 7 = .ok (.invokevirtual 58, 3) := by decide +kernel
theorem dX5_divisor_10 : decode cX5_divisor 10 = .ok (.ifCond .eq 11, 3) := by decide +kernel
theorem dX5_divisor_13 : decode cX5_divisor 13 = .ok (.aload_n 0, 1) := by decide +kernel
theorem dX5_divisor_14 : decode cX5_divisor 14 = .ok (.iload_n 3, 1) := by decide +kernel
theorem dX5_divisor_15 : decode cX5_divisor 15 = .ok (.iload 4, 2) := by decide +kernel
theorem dX5_divisor_17 : decode cX5_divisor 17 = .ok (.invokevirtual 62, 3) := by decide +kernel
theorem dX5_divisor_20 : decode cX5_divisor 20 = .ok (.return_, 1) := by decide +kernel
theorem dX5_divisor_21 : decode cX5_divisor 21 = .ok (.iconst 0, 1) := by decide +kernel
theorem dX5_divisor_22 : decode cX5_divisor 22 = .ok (.istore 5, 2) := by decide +kernel
theorem dX5_divisor_24 : decode cX5_divisor 24 = .ok (.aload_n 0, 1) := by decide +kernel
theorem dX5_divisor_25 : decode cX5_divisor 25 = .ok (.iload_n 3, 1) := by decide +kernel
theorem dX5_divisor_26 : decode cX5_divisor 26 = .ok (.invokevirtual 65, 3) := by decide +kernel
theorem dX5_divisor_29 : decode cX5_divisor 29 = .ok (.ifCond .eq 29, 3) := by decide +kernel
theorem dX5_divisor_32 : decode cX5_divisor 32 = .ok (.aload_n 0, 1) := by decide +kernel
theorem dX5_divisor_33 : decode cX5_divisor 33 = .ok (.iload 4, 2) := by decide +kernel
theorem dX5_divisor_35 : decode cX5_divisor 35 = .ok (.invokevirtual 65, 3) := by decide +kernel
theorem dX5_divisor_38 : decode cX5_divisor 38 = .ok (.ifCond .eq 20, 3) := by decide +kernel
theorem dX5_divisor_41 : decode cX5_divisor 41 = .ok (.aload_n 0, 1) := by decide +kernel
theorem dX5_divisor_42 : decode cX5_divisor 42 = .ok (.iload_n 3, 1) := by decide +kernel
theorem dX5_divisor_43 : decode cX5_divisor 43 = .ok (.invokevirtual 68, 3) := by decide +kernel
theorem dX5_divisor_46 : decode cX5_divisor 46 = .ok (.aload_n 0, 1) := by decide +kernel
theorem dX5_divisor_47 : decode cX5_divisor 47 = .ok (.iload 4, 2) := by decide +kernel
theorem dX5_divisor_49 : decode cX5_divisor 49 = .ok (.invokevirtual 68, 3) := by decide +kernel
theorem dX5_divisor_52 : decode cX5_divisor 52 = .ok (.iinc 5 1, 3) := by decide +kernel
theorem dX5_divisor_55 : decode cX5_divisor 55 = .ok (.goto (-31), 3) := by decide +kernel
theorem dX5_divisor_58 : decode cX5_divisor 58 = .ok (.aload_n 0, 1) := by decide +kernel
theorem dX5_divisor_59 : decode cX5_divisor 59 = .ok (.iload 4, 2) := by decide +kernel
theorem dX5_divisor_61 : decode cX5_divisor 61 = .ok (.invokevirtual 58, 3) := by decide +kernel
theorem dX5_divisor_64 : decode cX5_divisor 64 = .ok (.ifCond .ne 77, 3) := by decide +kernel
theorem dX5_divisor_67 : decode cX5_divisor 67 = .ok (.aload_n 0, 1) := by decide +kernel
theorem dX5_divisor_68 : decode cX5_divisor 68 = .ok (.iload_n 3, 1) := by decide +kernel
theorem dX5_divisor_69 : decode cX5_divisor 69 = .ok (.invokevirtual 65, 3) := by decide +kernel
theorem dX5_divisor_72 : decode cX5_divisor 72 = .ok (.ifCond .eq 11, 3) := by decide +kernel
theorem dX5_divisor_75 : decode cX5_divisor 75 = .ok (.aload_n 0, 1) := by decide +kernel
theorem dX5_divisor_76 : decode cX5_divisor 76 = .ok (.iload_n 3, 1) := by decide +kernel
theorem dX5_divisor_77 : decode cX5_divisor 77 = .ok (.invokevirtual 68, 3) := by decide +kernel
theorem dX5_divisor_80 : decode cX5_divisor 80 = .ok (.goto (-13), 3) := by decide +kernel
theorem dX5_divisor_83 : decode cX5_divisor 83 = .ok (.aload_n 0, 1) := by decide +kernel
theorem dX5_divisor_84 : decode cX5_divisor 84 = .ok (.iload 4, 2) := by decide +kernel
theorem dX5_divisor_86 : decode cX5_divisor 86 = .ok (.invokevirtual 65, 3) := by decide +kernel
theorem dX5_divisor_89 : decode cX5_divisor 89 = .ok (.ifCond .eq 12, 3) := by decide +kernel
theorem dX5_divisor_92 : decode cX5_divisor 92 = .ok (.aload_n 0, 1) := by decide +kernel
theorem dX5_divisor_93 : decode cX5_divisor 93 = .ok (.iload 4, 2) := by decide +kernel
theorem dX5_divisor_95 : decode cX5_divisor 95 = .ok (.invokevirtual 68, 3) := by decide +kernel
theorem dX5_divisor_98 : decode cX5_divisor 98 = .ok (.goto (-15), 3) := by decide +kernel
theorem dX5_divisor_101 : decode cX5_divisor 101 = .ok (.aload_n 0, 1) := by decide +kernel
theorem dX5_divisor_102 : decode cX5_divisor 102 = .ok (.iload_n 3, 1) := by decide +kernel
theorem dX5_divisor_103 : decode cX5_divisor 103 = .ok (.iload 4, 2) := by decide +kernel
theorem dX5_divisor_105 : decode cX5_divisor 105 = .ok (.invokevirtual 50, 3) := by decide +kernel
theorem dX5_divisor_108 : decode cX5_divisor 108 = .ok (.ifCond .le 23, 3) := by decide +kernel
theorem dX5_divisor_111 : decode cX5_divisor 111 = .ok (.aload_n 0, 1) := by decide +kernel
theorem dX5_divisor_112 : decode cX5_divisor 112 = .ok (.iload_n 3, 1) := by decide +kernel
theorem dX5_divisor_113 : decode cX5_divisor 113 = .ok (.iload 4, 2) := by decide +kernel
theorem dX5_divisor_115 : decode cX5_divisor 115 = .ok (.invokevirtual 54, 3) := by decide +kernel
theorem dX5_divisor_118 : decode cX5_divisor 118 = .ok (.iload_n 3, 1) := by decide +kernel
theorem dX5_divisor_119 : decode cX5_divisor 119 = .ok (.istore 6, 2) := by decide +kernel
theorem dX5_divisor_121 : decode cX5_divisor 121 = .ok (.iload 4, 2) := by decide +kernel
theorem dX5_divisor_123 : decode cX5_divisor 123 = .ok (.istore_n 3, 1) := by decide +kernel
theorem dX5_divisor_124 : decode cX5_divisor 124 = .ok (.iload 6, 2) := by decide +kernel
theorem dX5_divisor_126 : decode cX5_divisor 126 = .ok (.istore 4, 2) := by decide +kernel
theorem dX5_divisor_128 : decode cX5_divisor 128 = .ok (.goto (-70), 3) := by decide +kernel
theorem dX5_divisor_131 : decode cX5_divisor 131 = .ok (.aload_n 0, 1) := by decide +kernel
theorem dX5_divisor_132 : decode cX5_divisor 132 = .ok (.iload 4, 2) := by decide +kernel
theorem dX5_divisor_134 : decode cX5_divisor 134 = .ok (.iload_n 3, 1) := by decide +kernel
theorem dX5_divisor_135 : decode cX5_divisor 135 = .ok (.invokevirtual 54, 3) := by decide +kernel
theorem dX5_divisor_138 : decode cX5_divisor 138 = .ok (.goto (-80), 3) := by decide +kernel
theorem dX5_divisor_141 : decode cX5_divisor 141 = .ok (.iconst 0, 1) := by decide +kernel
theorem dX5_divisor_142 : decode cX5_divisor 142 = .ok (.istore 6, 2) := by decide +kernel
theorem dX5_divisor_144 : decode cX5_divisor 144 = .ok (.iload 6, 2) := by decide +kernel
theorem dX5_divisor_146 : decode cX5_divisor 146 = .ok (.iload 5, 2) := by decide +kernel
theorem dX5_divisor_148 : decode cX5_divisor 148 = .ok (.if_icmp .ge 14, 3) := by decide +kernel
theorem dX5_divisor_151 : decode cX5_divisor 151 = .ok (.aload_n 0, 1) := by decide +kernel
theorem dX5_divisor_152 : decode cX5_divisor 152 = .ok (.iload_n 3, 1) := by decide +kernel
theorem dX5_divisor_153 : decode cX5_divisor 153 = .ok (.invokevirtual 46, 3) := by decide +kernel
theorem dX5_divisor_156 : decode cX5_divisor 156 = .ok (.iinc 6 1, 3) := by decide +kernel
theorem dX5_divisor_159 : decode cX5_divisor 159 = .ok (.goto (-15), 3) := by decide +kernel
theorem dX5_divisor_162 : decode cX5_divisor 162 = .ok (.iload_n 3, 1) := by decide +kernel
theorem dX5_divisor_163 : decode cX5_divisor 163 = .ok (.iload_n 1, 1) := by decide +kernel
theorem dX5_divisor_164 : decode cX5_divisor 164 = .ok (.if_icmp .eq 9, 3) := by decide +kernel
theorem dX5_divisor_167 : decode cX5_divisor 167 = .ok (.aload_n 0, 1) := by decide +kernel
theorem dX5_divisor_168 : decode cX5_divisor 168 = .ok (.iload_n 1, 1) := by decide +kernel
theorem dX5_divisor_169 : decode cX5_divisor 169 = .ok (.iload_n 3, 1) := by decide +kernel
theorem dX5_divisor_170 : decode cX5_divisor 170 = .ok (.invokevirtual 62, 3) := by decide +kernel
theorem dX5_divisor_173 : decode cX5_divisor 173 = .ok (.return_, 1) := by decide +kernel
theorem dX5_rootOf_0 : decode cX5_rootOf 0 = .ok (.aload_n 0, 1) := by decide +kernel
theorem dX5_rootOf_1 : decode cX5_rootOf 1 = .ok (.iload_n 2, 1) := by decide +kernel
theorem dX5_rootOf_2 : decode cX5_rootOf 2 = .ok (.lconst 0, 1) := by decide +kernel
theorem dX5_rootOf_3 : decode cX5_rootOf 3 = .ok (.invokevirtual 36, 3) := by decide +kernel
theorem dX5_rootOf_6 : decode cX5_rootOf 6 = .ok (.aload_n 0, 1) := by decide +kernel
theorem dX5_rootOf_7 : decode cX5_rootOf 7 = .ok (.bipush 10, 2) := by decide +kernel
theorem dX5_rootOf_9 : decode cX5_rootOf 9 = .ok (.lconst 0, 1) := by decide +kernel
theorem dX5_rootOf_10 : decode cX5_rootOf 10 = .ok (.invokevirtual 36, 3) := by decide +kernel
theorem dX5_rootOf_13 : decode cX5_rootOf 13 = .ok (.aload_n 0, 1) := by decide +kernel
theorem dX5_rootOf_14 : decode cX5_rootOf 14 = .ok (.iload_n 1, 1) := by decide +kernel
theorem dX5_rootOf_15 : decode cX5_rootOf 15 = .ok (.invokevirtual 42, 3) := by decide +kernel
theorem dX5_rootOf_18 : decode cX5_rootOf 18 = .ok (.iconst 1, 1) := by decide +kernel
theorem dX5_rootOf_19 : decode cX5_rootOf 19 = .ok (.iadd, 1) := by decide +kernel
theorem dX5_rootOf_20 : decode cX5_rootOf 20 = .ok (.iconst 2, 1) := by decide +kernel
theorem dX5_rootOf_21 : decode cX5_rootOf 21 = .ok (.idiv, 1) := by decide +kernel
theorem dX5_rootOf_22 : decode cX5_rootOf 22 = .ok (.istore_n 3, 1) := by decide +kernel
theorem dX5_rootOf_23 : decode cX5_rootOf 23 = .ok (.iload_n 3, 1) := by decide +kernel
theorem dX5_rootOf_24 : decode cX5_rootOf 24 = .ok (.iconst 1, 1) := by decide +kernel
theorem dX5_rootOf_25 : decode cX5_rootOf 25 = .ok (.isub, 1) := by decide +kernel
theorem dX5_rootOf_26 : decode cX5_rootOf 26 = .ok (.istore 4, 2) := by decide +kernel
theorem dX5_rootOf_28 : decode cX5_rootOf 28 = .ok (.iload 4, 2) := by decide +kernel
theorem dX5_rootOf_30 : decode cX5_rootOf 30 = .ok (.ifCond .lt 132, 3) := by decide +kernel
theorem dX5_rootOf_33 : decode cX5_rootOf 33 = .ok (.aload_n 0, 1) := by decide +kernel
theorem dX5_rootOf_34 : decode cX5_rootOf 34 = .ok (.bipush 10, 2) := by decide +kernel
theorem dX5_rootOf_36 : decode cX5_rootOf 36 = .ok (.invokevirtual 46, 3) := by decide +kernel
theorem dX5_rootOf_39 : decode cX5_rootOf 39 = .ok (.aload_n 0, 1) := by decide +kernel
theorem dX5_rootOf_40 : decode cX5_rootOf 40 = .ok (.getfield 13, 3) := by decide +kernel
theorem dX5_rootOf_43 : decode cX5_rootOf 43 = .ok (.sipush 1600, 3) := by decide +kernel
theorem dX5_rootOf_46 : decode cX5_rootOf 46 = .ok (.dup2, 1) := by decide +kernel
theorem dX5_rootOf_47 : decode cX5_rootOf 47 = .ok (.iaload, 1) := by decide +kernel
theorem dX5_rootOf_48 : decode cX5_rootOf 48 = .ok (.aload_n 0, 1) := by decide +kernel
theorem dX5_rootOf_49 : decode cX5_rootOf 49 = .ok (.iload_n 1, 1) := by decide +kernel
theorem dX5_rootOf_50 : decode cX5_rootOf 50 = .ok (.iconst 2, 1) := by decide +kernel
theorem dX5_rootOf_51 : decode cX5_rootOf 51 = .ok (.iload 4, 2) := by decide +kernel
theorem dX5_rootOf_53 : decode cX5_rootOf 53 = .ok (.imul, 1) := by decide +kernel
theorem dX5_rootOf_54 : decode cX5_rootOf 54 = .ok (.iconst 1, 1) := by decide +kernel
theorem dX5_rootOf_55 : decode cX5_rootOf 55 = .ok (.iadd, 1) := by decide +kernel
theorem dX5_rootOf_56 : decode cX5_rootOf 56 = .ok (.invokevirtual 71, 3) := by decide +kernel
theorem dX5_rootOf_59 : decode cX5_rootOf 59 = .ok (.iadd, 1) := by decide +kernel
theorem dX5_rootOf_60 : decode cX5_rootOf 60 = .ok (.iastore, 1) := by decide +kernel
theorem dX5_rootOf_61 : decode cX5_rootOf 61 = .ok (.aload_n 0, 1) := by decide +kernel
theorem dX5_rootOf_62 : decode cX5_rootOf 62 = .ok (.bipush 10, 2) := by decide +kernel
theorem dX5_rootOf_64 : decode cX5_rootOf 64 = .ok (.invokevirtual 46, 3) := by decide +kernel
theorem dX5_rootOf_67 : decode cX5_rootOf 67 = .ok (.aload_n 0, 1) := by decide +kernel
theorem dX5_rootOf_68 : decode cX5_rootOf 68 = .ok (.getfield 13, 3) := by decide +kernel
theorem dX5_rootOf_71 : decode cX5_rootOf 71 = .ok (.sipush 1600, 3) := by decide +kernel
theorem dX5_rootOf_74 : decode cX5_rootOf 74 = .ok (.dup2, 1) := by decide +kernel
theorem dX5_rootOf_75 : decode cX5_rootOf 75 = .ok (.iaload, 1) := by decide +kernel
theorem dX5_rootOf_76 : decode cX5_rootOf 76 = .ok (.aload_n 0, 1) := by decide +kernel
theorem dX5_rootOf_77 : decode cX5_rootOf 77 = .ok (.iload_n 1, 1) := by decide +kernel
theorem dX5_rootOf_78 : decode cX5_rootOf 78 = .ok (.iconst 2, 1) := by decide +kernel
theorem dX5_rootOf_79 : decode cX5_rootOf 79 = .ok (.iload 4, 2) := by decide +kernel
theorem dX5_rootOf_81 : decode cX5_rootOf 81 = .ok (.imul, 1) := by decide +kernel
theorem dX5_rootOf_82 : decode cX5_rootOf 82 = .ok (.invokevirtual 71, 3) := by decide +kernel
theorem dX5_rootOf_85 : decode cX5_rootOf 85 = .ok (.iadd, 1) := by decide +kernel
theorem dX5_rootOf_86 : decode cX5_rootOf 86 = .ok (.iastore, 1) := by decide +kernel
theorem dX5_rootOf_87 : decode cX5_rootOf 87 = .ok (.aload_n 0, 1) := by decide +kernel
theorem dX5_rootOf_88 : decode cX5_rootOf 88 = .ok (.bipush 11, 2) := by decide +kernel
theorem dX5_rootOf_90 : decode cX5_rootOf 90 = .ok (.iload_n 2, 1) := by decide +kernel
theorem dX5_rootOf_91 : decode cX5_rootOf 91 = .ok (.invokevirtual 62, 3) := by decide +kernel
theorem dX5_rootOf_94 : decode cX5_rootOf 94 = .ok (.aload_n 0, 1) := by decide +kernel
theorem dX5_rootOf_95 : decode cX5_rootOf 95 = .ok (.bipush 11, 2) := by decide +kernel
theorem dX5_rootOf_97 : decode cX5_rootOf 97 = .ok (.invokevirtual 46, 3) := by decide +kernel
theorem dX5_rootOf_100 : decode cX5_rootOf 100 = .ok (.aload_n 0, 1) := by decide +kernel
theorem dX5_rootOf_101 : decode cX5_rootOf 101 = .ok (.bipush 11, 2) := by decide +kernel
theorem dX5_rootOf_103 : decode cX5_rootOf 103 = .ok (.invokevirtual 46, 3) := by decide +kernel
theorem dX5_rootOf_106 : decode cX5_rootOf 106 = .ok (.aload_n 0, 1) := by decide +kernel
theorem dX5_rootOf_107 : decode cX5_rootOf 107 = .ok (.getfield 13, 3) := by decide +kernel
theorem dX5_rootOf_110 : decode cX5_rootOf 110 = .ok (.sipush 1760, 3) := by decide +kernel
theorem dX5_rootOf_113 : decode cX5_rootOf 113 = .ok (.dup2, 1) := by decide +kernel
theorem dX5_rootOf_114 : decode cX5_rootOf 114 = .ok (.iaload, 1) := by decide +kernel
theorem dX5_rootOf_115 : decode cX5_rootOf 115 = .ok (.iconst 1, 1) := by decide +kernel
theorem dX5_rootOf_116 : decode cX5_rootOf 116 = .ok (.iadd, 1) := by decide +kernel
theorem dX5_rootOf_117 : decode cX5_rootOf 117 = .ok (.iastore, 1) := by decide +kernel
theorem dX5_rootOf_118 : decode cX5_rootOf 118 = .ok (.aload_n 0, 1) := by decide +kernel
theorem dX5_rootOf_119 : decode cX5_rootOf 119 = .ok (.iload_n 2, 1) := by decide +kernel
theorem dX5_rootOf_120 : decode cX5_rootOf 120 = .ok (.invokevirtual 46, 3) := by decide +kernel
theorem dX5_rootOf_123 : decode cX5_rootOf 123 = .ok (.aload_n 0, 1) := by decide +kernel
theorem dX5_rootOf_124 : decode cX5_rootOf 124 = .ok (.bipush 10, 2) := by decide +kernel
theorem dX5_rootOf_126 : decode cX5_rootOf 126 = .ok (.bipush 11, 2) := by decide +kernel
theorem dX5_rootOf_128 : decode cX5_rootOf 128 = .ok (.invokevirtual 50, 3) := by decide +kernel
theorem dX5_rootOf_131 : decode cX5_rootOf 131 = .ok (.ifCond .lt 25, 3) := by decide +kernel
theorem dX5_rootOf_134 : decode cX5_rootOf 134 = .ok (.aload_n 0, 1) := by decide +kernel
theorem dX5_rootOf_135 : decode cX5_rootOf 135 = .ok (.bipush 10, 2) := by decide +kernel
theorem dX5_rootOf_137 : decode cX5_rootOf 137 = .ok (.bipush 11, 2) := by decide +kernel
theorem dX5_rootOf_139 : decode cX5_rootOf 139 = .ok (.invokevirtual 54, 3) := by decide +kernel
theorem dX5_rootOf_142 : decode cX5_rootOf 142 = .ok (.aload_n 0, 1) := by decide +kernel
theorem dX5_rootOf_143 : decode cX5_rootOf 143 = .ok (.getfield 13, 3) := by decide +kernel
theorem dX5_rootOf_146 : decode cX5_rootOf 146 = .ok (.sipush 160, 3) := by decide +kernel
theorem dX5_rootOf_149 : decode cX5_rootOf 149 = .ok (.iload_n 2, 1) := by decide +kernel
theorem dX5_rootOf_150 : decode cX5_rootOf 150 = .ok (.imul, 1) := by decide +kernel
theorem dX5_rootOf_151 : decode cX5_rootOf 151 = .ok (.dup2, 1) := by decide +kernel
theorem dX5_rootOf_152 : decode cX5_rootOf 152 = .ok (.iaload, 1) := by decide +kernel
theorem dX5_rootOf_153 : decode cX5_rootOf 153 = .ok (.iconst 1, 1) := by decide +kernel
theorem dX5_rootOf_154 : decode cX5_rootOf 154 = .ok (.iadd, 1) := by decide +kernel
theorem dX5_rootOf_155 : decode cX5_rootOf 155 = .ok (.iastore, 1) := by decide +kernel
theorem dX5_rootOf_156 : decode cX5_rootOf 156 = .ok (.iinc 4 (-1), 3) := by decide +kernel
theorem dX5_rootOf_159 : decode cX5_rootOf 159 = .ok (.goto (-131), 3) := by decide +kernel
theorem dX5_rootOf_162 : decode cX5_rootOf 162 = .ok (.return_, 1) := by decide +kernel
theorem dX5_bit_0 : decode cX5_bit 0 = .ok (.aload_n 0, 1) := by decide +kernel
theorem dX5_bit_1 : decode cX5_bit 1 = .ok (.getfield 13, 3) := by decide +kernel
theorem dX5_bit_4 : decode cX5_bit 4 = .ok (.sipush 160, 3) := by decide +kernel
theorem dX5_bit_7 : decode cX5_bit 7 = .ok (.iload_n 1, 1) := by decide +kernel
theorem dX5_bit_8 : decode cX5_bit 8 = .ok (.imul, 1) := by decide +kernel
theorem dX5_bit_9 : decode cX5_bit 9 = .ok (.iload_n 2, 1) := by decide +kernel
theorem dX5_bit_10 : decode cX5_bit 10 = .ok (.bipush 15, 2) := by decide +kernel
theorem dX5_bit_12 : decode cX5_bit 12 = .ok (.idiv, 1) := by decide +kernel
theorem dX5_bit_13 : decode cX5_bit 13 = .ok (.iadd, 1) := by decide +kernel
theorem dX5_bit_14 : decode cX5_bit 14 = .ok (.iaload, 1) := by decide +kernel
theorem dX5_bit_15 : decode cX5_bit 15 = .ok (.iload_n 2, 1) := by decide +kernel
theorem dX5_bit_16 : decode cX5_bit 16 = .ok (.bipush 15, 2) := by decide +kernel
theorem dX5_bit_18 : decode cX5_bit 18 = .ok (.irem, 1) := by decide +kernel
theorem dX5_bit_19 : decode cX5_bit 19 = .ok (.ishr, 1) := by decide +kernel
theorem dX5_bit_20 : decode cX5_bit 20 = .ok (.iconst 1, 1) := by decide +kernel
theorem dX5_bit_21 : decode cX5_bit 21 = .ok (.iand, 1) := by decide +kernel
theorem dX5_bit_22 : decode cX5_bit 22 = .ok (.ireturn, 1) := by decide +kernel
theorem dX5_pieces_0 : decode cX5_pieces 0 = .ok (.iconst 1, 1) := by decide +kernel
theorem dX5_pieces_1 : decode cX5_pieces 1 = .ok (.istore_n 2, 1) := by decide +kernel
theorem dX5_pieces_2 : decode cX5_pieces 2 = .ok (.iconst 0, 1) := by decide +kernel
theorem dX5_pieces_3 : decode cX5_pieces 3 = .ok (.istore_n 3, 1) := by decide +kernel
theorem dX5_pieces_4 : decode cX5_pieces 4 = .ok (.iload_n 3, 1) := by decide +kernel
theorem dX5_pieces_5 : decode cX5_pieces 5 = .ok (.bipush 54, 2) := by decide +kernel
theorem dX5_pieces_7 : decode cX5_pieces 7 = .ok (.if_icmp .ge 45, 3) := by decide +kernel
theorem dX5_pieces_10 : decode cX5_pieces 10 = .ok (.aload_n 0, 1) := by decide +kernel
theorem dX5_pieces_11 : decode cX5_pieces 11 = .ok (.getfield 20, 3) := by decide +kernel
theorem dX5_pieces_14 : decode cX5_pieces 14 = .ok (.bipush 54, 2) := by decide +kernel
theorem dX5_pieces_16 : decode cX5_pieces 16 = .ok (.iload_n 1, 1) := by decide +kernel
theorem dX5_pieces_17 : decode cX5_pieces 17 = .ok (.imul, 1) := by decide +kernel
theorem dX5_pieces_18 : decode cX5_pieces 18 = .ok (.iload_n 3, 1) := by decide +kernel
theorem dX5_pieces_19 : decode cX5_pieces 19 = .ok (.iadd, 1) := by decide +kernel
theorem dX5_pieces_20 : decode cX5_pieces 20 = .ok (.iaload, 1) := by decide +kernel
theorem dX5_pieces_21 : decode cX5_pieces 21 = .ok (.ifCond .ne 17, 3) := by decide +kernel
theorem dX5_pieces_24 : decode cX5_pieces 24 = .ok (.aload_n 0, 1) := by decide +kernel
theorem dX5_pieces_25 : decode cX5_pieces 25 = .ok (.getfield 23, 3) := by decide +kernel
theorem dX5_pieces_28 : decode cX5_pieces 28 = .ok (.bipush 54, 2) := by decide +kernel
theorem dX5_pieces_30 : decode cX5_pieces 30 = .ok (.iload_n 1, 1) := by decide +kernel
theorem dX5_pieces_31 : decode cX5_pieces 31 = .ok (.imul, 1) := by decide +kernel
theorem dX5_pieces_32 : decode cX5_pieces 32 = .ok (.iload_n 3, 1) := by decide +kernel
theorem dX5_pieces_33 : decode cX5_pieces 33 = .ok (.iadd, 1) := by decide +kernel
theorem dX5_pieces_34 : decode cX5_pieces 34 = .ok (.iaload, 1) := by decide +kernel
theorem dX5_pieces_35 : decode cX5_pieces 35 = .ok (.ifCond .eq 9, 3) := by decide +kernel
theorem dX5_pieces_38 : decode cX5_pieces 38 = .ok (.iload_n 3, 1) := by decide +kernel
theorem dX5_pieces_39 : decode cX5_pieces 39 = .ok (.iconst 1, 1) := by decide +kernel
theorem dX5_pieces_40 : decode cX5_pieces 40 = .ok (.iadd, 1) := by decide +kernel
theorem dX5_pieces_41 : decode cX5_pieces 41 = .ok (.goto 4, 3) := by decide +kernel
theorem dX5_pieces_44 : decode cX5_pieces 44 = .ok (.iload_n 2, 1) := by decide +kernel
theorem dX5_pieces_45 : decode cX5_pieces 45 = .ok (.istore_n 2, 1) := by decide +kernel
theorem dX5_pieces_46 : decode cX5_pieces 46 = .ok (.iinc 3 1, 3) := by decide +kernel
theorem dX5_pieces_49 : decode cX5_pieces 49 = .ok (.goto (-45), 3) := by decide +kernel
theorem dX5_pieces_52 : decode cX5_pieces 52 = .ok (.iload_n 2, 1) := by decide +kernel
theorem dX5_pieces_53 : decode cX5_pieces 53 = .ok (.ireturn, 1) := by decide +kernel
theorem dX5_need_0 : decode cX5_need 0 = .ok (.iconst 2, 1) := by decide +kernel
theorem dX5_need_1 : decode cX5_need 1 = .ok (.aload_n 0, 1) := by decide +kernel
theorem dX5_need_2 : decode cX5_need 2 = .ok (.iload_n 1, 1) := by decide +kernel
theorem dX5_need_3 : decode cX5_need 3 = .ok (.invokevirtual 74, 3) := by decide +kernel
theorem dX5_need_6 : decode cX5_need 6 = .ok (.imul, 1) := by decide +kernel
theorem dX5_need_7 : decode cX5_need 7 = .ok (.iconst 2, 1) := by decide +kernel
theorem dX5_need_8 : decode cX5_need 8 = .ok (.aload_n 0, 1) := by decide +kernel
theorem dX5_need_9 : decode cX5_need 9 = .ok (.iload_n 2, 1) := by decide +kernel
theorem dX5_need_10 : decode cX5_need 10 = .ok (.invokevirtual 74, 3) := by decide +kernel
theorem dX5_need_13 : decode cX5_need 13 = .ok (.imul, 1) := by decide +kernel
theorem dX5_need_14 : decode cX5_need 14 = .ok (.iadd, 1) := by decide +kernel
theorem dX5_need_15 : decode cX5_need 15 = .ok (.iload_n 3, 1) := by decide +kernel
theorem dX5_need_16 : decode cX5_need 16 = .ok (.iadd, 1) := by decide +kernel
theorem dX5_need_17 : decode cX5_need 17 = .ok (.istore 4, 2) := by decide +kernel
theorem dX5_need_19 : decode cX5_need 19 = .ok (.aload_n 0, 1) := by decide +kernel
theorem dX5_need_20 : decode cX5_need 20 = .ok (.iload 4, 2) := by decide +kernel
theorem dX5_need_22 : decode cX5_need 22 = .ok (.sipush 160, 3) := by decide +kernel
theorem dX5_need_25 : decode cX5_need 25 = .ok (.if_icmp .ge 8, 3) := by decide +kernel
theorem dX5_need_28 : decode cX5_need 28 = .ok (.iload 4, 2) := by decide +kernel
theorem dX5_need_30 : decode cX5_need 30 = .ok (.goto 6, 3) := by decide +kernel
theorem dX5_need_33 : decode cX5_need 33 = .ok (.sipush 160, 3) := by decide +kernel
theorem dX5_need_36 : decode cX5_need 36 = .ok (.putfield 9, 3) := by decide +kernel
theorem dX5_need_39 : decode cX5_need 39 = .ok (.return_, 1) := by decide +kernel
theorem dX5_take_0 : decode cX5_take 0 = .ok (.aload_n 0, 1) := by decide +kernel
theorem dX5_take_1 : decode cX5_take 1 = .ok (.iload_n 2, 1) := by decide +kernel
theorem dX5_take_2 : decode cX5_take 2 = .ok (.lconst 0, 1) := by decide +kernel
theorem dX5_take_3 : decode cX5_take 3 = .ok (.invokevirtual 36, 3) := by decide +kernel
theorem dX5_take_6 : decode cX5_take 6 = .ok (.aload_n 0, 1) := by decide +kernel
theorem dX5_take_7 : decode cX5_take 7 = .ok (.iload_n 3, 1) := by decide +kernel
theorem dX5_take_8 : decode cX5_take 8 = .ok (.lconst 0, 1) := by decide +kernel
theorem dX5_take_9 : decode cX5_take 9 = .ok (.invokevirtual 36, 3) := by decide +kernel
theorem dX5_take_12 : decode cX5_take 12 = .ok (.iconst 0, 1) := by decide +kernel
theorem dX5_take_13 : decode cX5_take 13 = .ok (.istore 4, 2) := by decide +kernel
theorem dX5_take_15 : decode cX5_take 15 = .ok (.iload 4, 2) := by decide +kernel
theorem dX5_take_17 : decode cX5_take 17 = .ok (.bipush 54, 2) := by decide +kernel
theorem dX5_take_19 : decode cX5_take 19 = .ok (.if_icmp .ge 59, 3) := by decide +kernel
theorem dX5_take_22 : decode cX5_take 22 = .ok (.aload_n 0, 1) := by decide +kernel
theorem dX5_take_23 : decode cX5_take 23 = .ok (.getfield 13, 3) := by decide +kernel
theorem dX5_take_26 : decode cX5_take 26 = .ok (.sipush 160, 3) := by decide +kernel
theorem dX5_take_29 : decode cX5_take 29 = .ok (.iload_n 2, 1) := by decide +kernel
theorem dX5_take_30 : decode cX5_take 30 = .ok (.imul, 1) := by decide +kernel
theorem dX5_take_31 : decode cX5_take 31 = .ok (.iload 4, 2) := by decide +kernel
theorem dX5_take_33 : decode cX5_take 33 = .ok (.iadd, 1) := by decide +kernel
theorem dX5_take_34 : decode cX5_take 34 = .ok (.aload_n 0, 1) := by decide +kernel
theorem dX5_take_35 : decode cX5_take 35 = .ok (.getfield 20, 3) := by decide +kernel
theorem dX5_take_38 : decode cX5_take 38 = .ok (.bipush 54, 2) := by decide +kernel
theorem dX5_take_40 : decode cX5_take 40 = .ok (.iload_n 1, 1) := by decide +kernel
theorem dX5_take_41 : decode cX5_take 41 = .ok (.imul, 1) := by decide +kernel
theorem dX5_take_42 : decode cX5_take 42 = .ok (.iload 4, 2) := by decide +kernel
theorem dX5_take_44 : decode cX5_take 44 = .ok (.iadd, 1) := by decide +kernel
theorem dX5_take_45 : decode cX5_take 45 = .ok (.iaload, 1) := by decide +kernel
theorem dX5_take_46 : decode cX5_take 46 = .ok (.iastore, 1) := by decide +kernel
theorem dX5_take_47 : decode cX5_take 47 = .ok (.aload_n 0, 1) := by decide +kernel
theorem dX5_take_48 : decode cX5_take 48 = .ok (.getfield 13, 3) := by decide +kernel
theorem dX5_take_51 : decode cX5_take 51 = .ok (.sipush 160, 3) := by decide +kernel
theorem dX5_take_54 : decode cX5_take 54 = .ok (.iload_n 3, 1) := by decide +kernel
theorem dX5_take_55 : decode cX5_take 55 = .ok (.imul, 1) := by decide +kernel
theorem dX5_take_56 : decode cX5_take 56 = .ok (.iload 4, 2) := by decide +kernel
theorem dX5_take_58 : decode cX5_take 58 = .ok (.iadd, 1) := by decide +kernel
theorem dX5_take_59 : decode cX5_take 59 = .ok (.aload_n 0, 1) := by decide +kernel
theorem dX5_take_60 : decode cX5_take 60 = .ok (.getfield 23, 3) := by decide +kernel
theorem dX5_take_63 : decode cX5_take 63 = .ok (.bipush 54, 2) := by decide +kernel
theorem dX5_take_65 : decode cX5_take 65 = .ok (.iload_n 1, 1) := by decide +kernel
theorem dX5_take_66 : decode cX5_take 66 = .ok (.imul, 1) := by decide +kernel
theorem dX5_take_67 : decode cX5_take 67 = .ok (.iload 4, 2) := by decide +kernel
theorem dX5_take_69 : decode cX5_take 69 = .ok (.iadd, 1) := by decide +kernel
theorem dX5_take_70 : decode cX5_take 70 = .ok (.iaload, 1) := by decide +kernel
theorem dX5_take_71 : decode cX5_take 71 = .ok (.iastore, 1) := by decide +kernel
theorem dX5_take_72 : decode cX5_take 72 = .ok (.iinc 4 1, 3) := by decide +kernel
theorem dX5_take_75 : decode cX5_take 75 = .ok (.goto (-60), 3) := by decide +kernel
theorem dX5_take_78 : decode cX5_take 78 = .ok (.return_, 1) := by decide +kernel
theorem dX5_make_0 : decode cX5_make 0 = .ok (.aload_n 0, 1) := by decide +kernel
theorem dX5_make_1 : decode cX5_make 1 = .ok (.bipush 6, 2) := by decide +kernel
theorem dX5_make_3 : decode cX5_make 3 = .ok (.iload_n 2, 1) := by decide +kernel
theorem dX5_make_4 : decode cX5_make 4 = .ok (.invokevirtual 62, 3) := by decide +kernel
theorem dX5_make_7 : decode cX5_make 7 = .ok (.aload_n 0, 1) := by decide +kernel
theorem dX5_make_8 : decode cX5_make 8 = .ok (.bipush 7, 2) := by decide +kernel
theorem dX5_make_10 : decode cX5_make 10 = .ok (.iload_n 3, 1) := by decide +kernel
theorem dX5_make_11 : decode cX5_make 11 = .ok (.invokevirtual 62, 3) := by decide +kernel
theorem dX5_make_14 : decode cX5_make 14 = .ok (.aload_n 0, 1) := by decide +kernel
theorem dX5_make_15 : decode cX5_make 15 = .ok (.bipush 6, 2) := by decide +kernel
theorem dX5_make_17 : decode cX5_make 17 = .ok (.bipush 7, 2) := by decide +kernel
theorem dX5_make_19 : decode cX5_make 19 = .ok (.invokevirtual 77, 3) := by decide +kernel
theorem dX5_make_22 : decode cX5_make 22 = .ok (.aload_n 0, 1) := by decide +kernel
theorem dX5_make_23 : decode cX5_make 23 = .ok (.iload_n 2, 1) := by decide +kernel
theorem dX5_make_24 : decode cX5_make 24 = .ok (.bipush 6, 2) := by decide +kernel
theorem dX5_make_26 : decode cX5_make 26 = .ok (.bipush 8, 2) := by decide +kernel
theorem dX5_make_28 : decode cX5_make 28 = .ok (.bipush 9, 2) := by decide +kernel
theorem dX5_make_30 : decode cX5_make 30 = .ok (.invokevirtual 80, 3) := by decide +kernel
theorem dX5_make_33 : decode cX5_make 33 = .ok (.aload_n 0, 1) := by decide +kernel
theorem dX5_make_34 : decode cX5_make 34 = .ok (.iload_n 3, 1) := by decide +kernel
theorem dX5_make_35 : decode cX5_make 35 = .ok (.bipush 6, 2) := by decide +kernel
theorem dX5_make_37 : decode cX5_make 37 = .ok (.bipush 7, 2) := by decide +kernel
theorem dX5_make_39 : decode cX5_make 39 = .ok (.bipush 9, 2) := by decide +kernel
theorem dX5_make_41 : decode cX5_make 41 = .ok (.invokevirtual 80, 3) := by decide +kernel
theorem dX5_make_44 : decode cX5_make 44 = .ok (.aload_n 0, 1) := by decide +kernel
theorem dX5_make_45 : decode cX5_make 45 = .ok (.bipush 8, 2) := by decide +kernel
theorem dX5_make_47 : decode cX5_make 47 = .ok (.invokevirtual 42, 3) := by decide +kernel
theorem dX5_make_50 : decode cX5_make 50 = .ok (.sipush 800, 3) := by decide +kernel
theorem dX5_make_53 : decode cX5_make 53 = .ok (.if_icmp .gt 25, 3) := by decide +kernel
theorem dX5_make_56 : decode cX5_make 56 = .ok (.aload_n 0, 1) := by decide +kernel
theorem dX5_make_57 : decode cX5_make 57 = .ok (.bipush 7, 2) := by decide +kernel
theorem dX5_make_59 : decode cX5_make 59 = .ok (.invokevirtual 42, 3) := by decide +kernel
theorem dX5_make_62 : decode cX5_make 62 = .ok (.sipush 800, 3) := by decide +kernel
theorem dX5_make_65 : decode cX5_make 65 = .ok (.if_icmp .gt 13, 3) := by decide +kernel
theorem dX5_make_68 : decode cX5_make 68 = .ok (.aload_n 0, 1) := by decide +kernel
theorem dX5_make_69 : decode cX5_make 69 = .ok (.getfield 84, 3) := by decide +kernel
theorem dX5_make_72 : decode cX5_make 72 = .ok (.sipush 150, 3) := by decide +kernel
theorem dX5_make_75 : decode cX5_make 75 = .ok (.if_icmp .ne 5, 3) := by decide +kernel
theorem dX5_make_78 : decode cX5_make 78 = .ok (.iconst (-1), 1) := by decide +kernel
theorem dX5_make_79 : decode cX5_make 79 = .ok (.ireturn, 1) := by decide +kernel
theorem dX5_make_80 : decode cX5_make 80 = .ok (.aload_n 0, 1) := by decide +kernel
theorem dX5_make_81 : decode cX5_make 81 = .ok (.getfield 17, 3) := by decide +kernel
theorem dX5_make_84 : decode cX5_make 84 = .ok (.aload_n 0, 1) := by decide +kernel
theorem dX5_make_85 : decode cX5_make 85 = .ok (.getfield 84, 3) := by decide +kernel
theorem dX5_make_88 : decode cX5_make 88 = .ok (.aload_n 0, 1) := by decide +kernel
theorem dX5_make_89 : decode cX5_make 89 = .ok (.bipush 8, 2) := by decide +kernel
theorem dX5_make_91 : decode cX5_make 91 = .ok (.invokevirtual 58, 3) := by decide +kernel
theorem dX5_make_94 : decode cX5_make 94 = .ok (.ifCond .eq 7, 3) := by decide +kernel
theorem dX5_make_97 : decode cX5_make 97 = .ok (.iconst 0, 1) := by decide +kernel
theorem dX5_make_98 : decode cX5_make 98 = .ok (.goto 4, 3) := by decide +kernel
theorem dX5_make_101 : decode cX5_make 101 = .ok (.iload_n 1, 1) := by decide +kernel
theorem dX5_make_102 : decode cX5_make 102 = .ok (.iastore, 1) := by decide +kernel
theorem dX5_make_103 : decode cX5_make 103 = .ok (.iconst 0, 1) := by decide +kernel
theorem dX5_make_104 : decode cX5_make 104 = .ok (.istore 4, 2) := by decide +kernel
theorem dX5_make_106 : decode cX5_make 106 = .ok (.iload 4, 2) := by decide +kernel
theorem dX5_make_108 : decode cX5_make 108 = .ok (.bipush 54, 2) := by decide +kernel
theorem dX5_make_110 : decode cX5_make 110 = .ok (.if_icmp .ge 61, 3) := by decide +kernel
theorem dX5_make_113 : decode cX5_make 113 = .ok (.aload_n 0, 1) := by decide +kernel
theorem dX5_make_114 : decode cX5_make 114 = .ok (.getfield 20, 3) := by decide +kernel
theorem dX5_make_117 : decode cX5_make 117 = .ok (.bipush 54, 2) := by decide +kernel
theorem dX5_make_119 : decode cX5_make 119 = .ok (.aload_n 0, 1) := by decide +kernel
theorem dX5_make_120 : decode cX5_make 120 = .ok (.getfield 84, 3) := by decide +kernel
theorem dX5_make_123 : decode cX5_make 123 = .ok (.imul, 1) := by decide +kernel
theorem dX5_make_124 : decode cX5_make 124 = .ok (.iload 4, 2) := by decide +kernel
theorem dX5_make_126 : decode cX5_make 126 = .ok (.iadd, 1) := by decide +kernel
theorem dX5_make_127 : decode cX5_make 127 = .ok (.aload_n 0, 1) := by decide +kernel
theorem dX5_make_128 : decode cX5_make 128 = .ok (.getfield 13, 3) := by decide +kernel
theorem dX5_make_131 : decode cX5_make 131 = .ok (.sipush 1280, 3) := by decide +kernel
theorem dX5_make_134 : decode cX5_make 134 = .ok (.iload 4, 2) := by decide +kernel
theorem dX5_make_136 : decode cX5_make 136 = .ok (.iadd, 1) := by decide +kernel
theorem dX5_make_137 : decode cX5_make 137 = .ok (.iaload, 1) := by decide +kernel
theorem dX5_make_138 : decode cX5_make 138 = .ok (.iastore, 1) := by decide +kernel
theorem dX5_make_139 : decode cX5_make 139 = .ok (.aload_n 0, 1) := by decide +kernel
theorem dX5_make_140 : decode cX5_make 140 = .ok (.getfield 23, 3) := by decide +kernel
theorem dX5_make_143 : decode cX5_make 143 = .ok (.bipush 54, 2) := by decide +kernel
theorem dX5_make_145 : decode cX5_make 145 = .ok (.aload_n 0, 1) := by decide +kernel
theorem dX5_make_146 : decode cX5_make 146 = .ok (.getfield 84, 3) := by decide +kernel
theorem dX5_make_149 : decode cX5_make 149 = .ok (.imul, 1) := by decide +kernel
theorem dX5_make_150 : decode cX5_make 150 = .ok (.iload 4, 2) := by decide +kernel
theorem dX5_make_152 : decode cX5_make 152 = .ok (.iadd, 1) := by decide +kernel
theorem dX5_make_153 : decode cX5_make 153 = .ok (.aload_n 0, 1) := by decide +kernel
theorem dX5_make_154 : decode cX5_make 154 = .ok (.getfield 13, 3) := by decide +kernel
theorem dX5_make_157 : decode cX5_make 157 = .ok (.sipush 1120, 3) := by decide +kernel
theorem dX5_make_160 : decode cX5_make 160 = .ok (.iload 4, 2) := by decide +kernel
theorem dX5_make_162 : decode cX5_make 162 = .ok (.iadd, 1) := by decide +kernel
theorem dX5_make_163 : decode cX5_make 163 = .ok (.iaload, 1) := by decide +kernel
theorem dX5_make_164 : decode cX5_make 164 = .ok (.iastore, 1) := by decide +kernel
theorem dX5_make_165 : decode cX5_make 165 = .ok (.iinc 4 1, 3) := by decide +kernel
theorem dX5_make_168 : decode cX5_make 168 = .ok (.goto (-62), 3) := by decide +kernel
theorem dX5_make_171 : decode cX5_make 171 = .ok (.aload_n 0, 1) := by decide +kernel
theorem dX5_make_172 : decode cX5_make 172 = .ok (.dup, 1) := by decide +kernel
theorem dX5_make_173 : decode cX5_make 173 = .ok (.getfield 84, 3) := by decide +kernel
theorem dX5_make_176 : decode cX5_make 176 = .ok (.iconst 1, 1) := by decide +kernel
theorem dX5_make_177 : decode cX5_make 177 = .ok (.iadd, 1) := by decide +kernel
theorem dX5_make_178 : decode cX5_make 178 = .ok (.putfield 84, 3) := by decide +kernel
theorem dX5_make_181 : decode cX5_make 181 = .ok (.aload_n 0, 1) := by decide +kernel
theorem dX5_make_182 : decode cX5_make 182 = .ok (.getfield 84, 3) := by decide +kernel
theorem dX5_make_185 : decode cX5_make 185 = .ok (.iconst 1, 1) := by decide +kernel
theorem dX5_make_186 : decode cX5_make 186 = .ok (.isub, 1) := by decide +kernel
theorem dX5_make_187 : decode cX5_make 187 = .ok (.ireturn, 1) := by decide +kernel
theorem dX5_noValue_0 : decode cX5_noValue 0 = .ok (.iload_n 0, 1) := by decide +kernel
theorem dX5_noValue_1 : decode cX5_noValue 1 = .ok (.ifCond .lt 10, 3) := by decide +kernel
theorem dX5_noValue_4 : decode cX5_noValue 4 = .ok (.iload_n 0, 1) := by decide +kernel
theorem dX5_noValue_5 : decode cX5_noValue 5 = .ok (.sipush 150, 3) := by decide +kernel
theorem dX5_noValue_8 : decode cX5_noValue 8 = .ok (.if_icmp .lt 7, 3) := by decide +kernel
theorem dX5_noValue_11 : decode cX5_noValue 11 = .ok (.iconst 1, 1) := by decide +kernel
theorem dX5_noValue_12 : decode cX5_noValue 12 = .ok (.goto 4, 3) := by decide +kernel
theorem dX5_noValue_15 : decode cX5_noValue 15 = .ok (.iconst 0, 1) := by decide +kernel
theorem dX5_noValue_16 : decode cX5_noValue 16 = .ok (.ireturn, 1) := by decide +kernel
theorem dX5_value_0 : decode cX5_value 0 = .ok (.aload_n 0, 1) := by decide +kernel
theorem dX5_value_1 : decode cX5_value 1 = .ok (.lload_n 3, 1) := by decide +kernel
theorem dX5_value_2 : decode cX5_value 2 = .ok (.lconst 0, 1) := by decide +kernel
theorem dX5_value_3 : decode cX5_value 3 = .ok (.lcmp, 1) := by decide +kernel
theorem dX5_value_4 : decode cX5_value 4 = .ok (.ifCond .ne 7, 3) := by decide +kernel
theorem dX5_value_7 : decode cX5_value 7 = .ok (.iconst 1, 1) := by decide +kernel
theorem dX5_value_8 : decode cX5_value 8 = .ok (.goto 4, 3) := by decide +kernel
theorem dX5_value_11 : decode cX5_value 11 = .ok (.iconst 0, 1) := by decide +kernel
theorem dX5_value_12 : decode cX5_value 12 = .ok (.putfield 33, 3) := by decide +kernel
theorem dX5_value_15 : decode cX5_value 15 = .ok (.aload_n 0, 1) := by decide +kernel
theorem dX5_value_16 : decode cX5_value 16 = .ok (.getfield 33, 3) := by decide +kernel
theorem dX5_value_19 : decode cX5_value 19 = .ok (.ifCond .le 5, 3) := by decide +kernel
theorem dX5_value_22 : decode cX5_value 22 = .ok (.iconst 0, 1) := by decide +kernel
theorem dX5_value_23 : decode cX5_value 23 = .ok (.ireturn, 1) := by decide +kernel
theorem dX5_value_24 : decode cX5_value 24 = .ok (.aload_n 0, 1) := by decide +kernel
theorem dX5_value_25 : decode cX5_value 25 = .ok (.bipush 24, 2) := by decide +kernel
theorem dX5_value_27 : decode cX5_value 27 = .ok (.putfield 9, 3) := by decide +kernel
theorem dX5_value_30 : decode cX5_value 30 = .ok (.aload_n 0, 1) := by decide +kernel
theorem dX5_value_31 : decode cX5_value 31 = .ok (.iconst 0, 1) := by decide +kernel
theorem dX5_value_32 : decode cX5_value 32 = .ok (.lload_n 1, 1) := by decide +kernel
theorem dX5_value_33 : decode cX5_value 33 = .ok (.lconst 0, 1) := by decide +kernel
theorem dX5_value_34 : decode cX5_value 34 = .ok (.lcmp, 1) := by decide +kernel
theorem dX5_value_35 : decode cX5_value 35 = .ok (.ifCond .ge 8, 3) := by decide +kernel
theorem dX5_value_38 : decode cX5_value 38 = .ok (.lload_n 1, 1) := by decide +kernel
theorem dX5_value_39 : decode cX5_value 39 = .ok (.lneg, 1) := by decide +kernel
theorem dX5_value_40 : decode cX5_value 40 = .ok (.goto 4, 3) := by decide +kernel
theorem dX5_value_43 : decode cX5_value 43 = .ok (.lload_n 1, 1) := by decide +kernel
theorem dX5_value_44 : decode cX5_value 44 = .ok (.invokevirtual 36, 3) := by decide +kernel
theorem dX5_value_47 : decode cX5_value 47 = .ok (.aload_n 0, 1) := by decide +kernel
theorem dX5_value_48 : decode cX5_value 48 = .ok (.iconst 1, 1) := by decide +kernel
theorem dX5_value_49 : decode cX5_value 49 = .ok (.lload_n 3, 1) := by decide +kernel
theorem dX5_value_50 : decode cX5_value 50 = .ok (.lconst 0, 1) := by decide +kernel
theorem dX5_value_51 : decode cX5_value 51 = .ok (.lcmp, 1) := by decide +kernel
theorem dX5_value_52 : decode cX5_value 52 = .ok (.ifCond .ge 8, 3) := by decide +kernel
theorem dX5_value_55 : decode cX5_value 55 = .ok (.lload_n 3, 1) := by decide +kernel
theorem dX5_value_56 : decode cX5_value 56 = .ok (.lneg, 1) := by decide +kernel
theorem dX5_value_57 : decode cX5_value 57 = .ok (.goto 4, 3) := by decide +kernel
theorem dX5_value_60 : decode cX5_value 60 = .ok (.lload_n 3, 1) := by decide +kernel
theorem dX5_value_61 : decode cX5_value 61 = .ok (.invokevirtual 36, 3) := by decide +kernel
theorem dX5_value_64 : decode cX5_value 64 = .ok (.aload_n 0, 1) := by decide +kernel
theorem dX5_value_65 : decode cX5_value 65 = .ok (.lload_n 1, 1) := by decide +kernel
theorem dX5_value_66 : decode cX5_value 66 = .ok (.lconst 0, 1) := by decide +kernel
theorem dX5_value_67 : decode cX5_value 67 = .ok (.lcmp, 1) := by decide +kernel
theorem dX5_value_68 : decode cX5_value 68 = .ok (.ifCond .ge 7, 3) := by decide +kernel
theorem dX5_value_71 : decode cX5_value 71 = .ok (.iconst 1, 1) := by decide +kernel
theorem dX5_value_72 : decode cX5_value 72 = .ok (.goto 4, 3) := by decide +kernel
theorem dX5_value_75 : decode cX5_value 75 = .ok (.iconst 0, 1) := by decide +kernel
theorem dX5_value_76 : decode cX5_value 76 = .ok (.lload_n 3, 1) := by decide +kernel
theorem dX5_value_77 : decode cX5_value 77 = .ok (.lconst 0, 1) := by decide +kernel
theorem dX5_value_78 : decode cX5_value 78 = .ok (.lcmp, 1) := by decide +kernel
theorem dX5_value_79 : decode cX5_value 79 = .ok (.ifCond .ge 7, 3) := by decide +kernel
theorem dX5_value_82 : decode cX5_value 82 = .ok (.iconst 1, 1) := by decide +kernel
theorem dX5_value_83 : decode cX5_value 83 = .ok (.goto 4, 3) := by decide +kernel
theorem dX5_value_86 : decode cX5_value 86 = .ok (.iconst 0, 1) := by decide +kernel
theorem dX5_value_87 : decode cX5_value 87 = .ok (.if_icmp .ne 7, 3) := by decide +kernel
theorem dX5_value_90 : decode cX5_value 90 = .ok (.iconst 1, 1) := by decide +kernel
theorem dX5_value_91 : decode cX5_value 91 = .ok (.goto 4, 3) := by decide +kernel
theorem dX5_value_94 : decode cX5_value 94 = .ok (.iconst (-1), 1) := by decide +kernel
theorem dX5_value_95 : decode cX5_value 95 = .ok (.iconst 0, 1) := by decide +kernel
theorem dX5_value_96 : decode cX5_value 96 = .ok (.iconst 1, 1) := by decide +kernel
theorem dX5_value_97 : decode cX5_value 97 = .ok (.invokevirtual 87, 3) := by decide +kernel
theorem dX5_value_100 : decode cX5_value 100 = .ok (.ireturn, 1) := by decide +kernel
theorem dX5_add_0 : decode cX5_add 0 = .ok (.aload_n 0, 1) := by decide +kernel
theorem dX5_add_1 : decode cX5_add 1 = .ok (.iload_n 1, 1) := by decide +kernel
theorem dX5_add_2 : decode cX5_add 2 = .ok (.invokestatic 91, 3) := by decide +kernel
theorem dX5_add_5 : decode cX5_add 5 = .ok (.ifCond .ne 10, 3) := by decide +kernel
theorem dX5_add_8 : decode cX5_add 8 = .ok (.iload_n 2, 1) := by decide +kernel
theorem dX5_add_9 : decode cX5_add 9 = .ok (.invokestatic 91, 3) := by decide +kernel
theorem dX5_add_12 : decode cX5_add 12 = .ok (.ifCond .eq 7, 3) := by decide +kernel
theorem dX5_add_15 : decode cX5_add 15 = .ok (.iconst 1, 1) := by decide +kernel
theorem dX5_add_16 : decode cX5_add 16 = .ok (.goto 4, 3) := by decide +kernel
theorem dX5_add_19 : decode cX5_add 19 = .ok (.iconst 0, 1) := by decide +kernel
theorem dX5_add_20 : decode cX5_add 20 = .ok (.putfield 33, 3) := by decide +kernel
theorem dX5_add_23 : decode cX5_add 23 = .ok (.aload_n 0, 1) := by decide +kernel
theorem dX5_add_24 : decode cX5_add 24 = .ok (.getfield 33, 3) := by decide +kernel
theorem dX5_add_27 : decode cX5_add 27 = .ok (.ifCond .le 5, 3) := by decide +kernel
theorem dX5_add_30 : decode cX5_add 30 = .ok (.iconst 0, 1) := by decide +kernel
theorem dX5_add_31 : decode cX5_add 31 = .ok (.ireturn, 1) := by decide +kernel
theorem dX5_add_32 : decode cX5_add 32 = .ok (.aload_n 0, 1) := by decide +kernel
theorem dX5_add_33 : decode cX5_add 33 = .ok (.iload_n 1, 1) := by decide +kernel
theorem dX5_add_34 : decode cX5_add 34 = .ok (.iload_n 2, 1) := by decide +kernel
theorem dX5_add_35 : decode cX5_add 35 = .ok (.iconst 4, 1) := by decide +kernel
theorem dX5_add_36 : decode cX5_add 36 = .ok (.invokevirtual 94, 3) := by decide +kernel
theorem dX5_add_39 : decode cX5_add 39 = .ok (.aload_n 0, 1) := by decide +kernel
theorem dX5_add_40 : decode cX5_add 40 = .ok (.iload_n 1, 1) := by decide +kernel
theorem dX5_add_41 : decode cX5_add 41 = .ok (.iconst 0, 1) := by decide +kernel
theorem dX5_add_42 : decode cX5_add 42 = .ok (.iconst 1, 1) := by decide +kernel
theorem dX5_add_43 : decode cX5_add 43 = .ok (.invokevirtual 98, 3) := by decide +kernel
theorem dX5_add_46 : decode cX5_add 46 = .ok (.aload_n 0, 1) := by decide +kernel
theorem dX5_add_47 : decode cX5_add 47 = .ok (.iload_n 2, 1) := by decide +kernel
theorem dX5_add_48 : decode cX5_add 48 = .ok (.iconst 2, 1) := by decide +kernel
theorem dX5_add_49 : decode cX5_add 49 = .ok (.iconst 3, 1) := by decide +kernel
theorem dX5_add_50 : decode cX5_add 50 = .ok (.invokevirtual 98, 3) := by decide +kernel
theorem dX5_add_53 : decode cX5_add 53 = .ok (.aload_n 0, 1) := by decide +kernel
theorem dX5_add_54 : decode cX5_add 54 = .ok (.iconst 0, 1) := by decide +kernel
theorem dX5_add_55 : decode cX5_add 55 = .ok (.iconst 3, 1) := by decide +kernel
theorem dX5_add_56 : decode cX5_add 56 = .ok (.iconst 4, 1) := by decide +kernel
theorem dX5_add_57 : decode cX5_add 57 = .ok (.invokevirtual 101, 3) := by decide +kernel
theorem dX5_add_60 : decode cX5_add 60 = .ok (.aload_n 0, 1) := by decide +kernel
theorem dX5_add_61 : decode cX5_add 61 = .ok (.iconst 2, 1) := by decide +kernel
theorem dX5_add_62 : decode cX5_add 62 = .ok (.iconst 1, 1) := by decide +kernel
theorem dX5_add_63 : decode cX5_add 63 = .ok (.iconst 5, 1) := by decide +kernel
theorem dX5_add_64 : decode cX5_add 64 = .ok (.invokevirtual 101, 3) := by decide +kernel
theorem dX5_add_67 : decode cX5_add 67 = .ok (.aload_n 0, 1) := by decide +kernel
theorem dX5_add_68 : decode cX5_add 68 = .ok (.iconst 1, 1) := by decide +kernel
theorem dX5_add_69 : decode cX5_add 69 = .ok (.iconst 3, 1) := by decide +kernel
theorem dX5_add_70 : decode cX5_add 70 = .ok (.iconst 2, 1) := by decide +kernel
theorem dX5_add_71 : decode cX5_add 71 = .ok (.invokevirtual 101, 3) := by decide +kernel
theorem dX5_add_74 : decode cX5_add 74 = .ok (.aload_n 0, 1) := by decide +kernel
theorem dX5_add_75 : decode cX5_add 75 = .ok (.getfield 17, 3) := by decide +kernel
theorem dX5_add_78 : decode cX5_add 78 = .ok (.iload_n 1, 1) := by decide +kernel
theorem dX5_add_79 : decode cX5_add 79 = .ok (.iaload, 1) := by decide +kernel
theorem dX5_add_80 : decode cX5_add 80 = .ok (.istore_n 3, 1) := by decide +kernel
theorem dX5_add_81 : decode cX5_add 81 = .ok (.aload_n 0, 1) := by decide +kernel
theorem dX5_add_82 : decode cX5_add 82 = .ok (.getfield 17, 3) := by decide +kernel
theorem dX5_add_85 : decode cX5_add 85 = .ok (.iload_n 1, 1) := by decide +kernel
theorem dX5_add_86 : decode cX5_add 86 = .ok (.iaload, 1) := by decide +kernel
theorem dX5_add_87 : decode cX5_add 87 = .ok (.aload_n 0, 1) := by decide +kernel
theorem dX5_add_88 : decode cX5_add 88 = .ok (.getfield 17, 3) := by decide +kernel
theorem dX5_add_91 : decode cX5_add 91 = .ok (.iload_n 2, 1) := by decide +kernel
theorem dX5_add_92 : decode cX5_add 92 = .ok (.iaload, 1) := by decide +kernel
theorem dX5_add_93 : decode cX5_add 93 = .ok (.imul, 1) := by decide +kernel
theorem dX5_add_94 : decode cX5_add 94 = .ok (.ifCond .lt 27, 3) := by decide +kernel
theorem dX5_add_97 : decode cX5_add 97 = .ok (.aload_n 0, 1) := by decide +kernel
theorem dX5_add_98 : decode cX5_add 98 = .ok (.iconst 4, 1) := by decide +kernel
theorem dX5_add_99 : decode cX5_add 99 = .ok (.iconst 5, 1) := by decide +kernel
theorem dX5_add_100 : decode cX5_add 100 = .ok (.invokevirtual 104, 3) := by decide +kernel
theorem dX5_add_103 : decode cX5_add 103 = .ok (.iload_n 3, 1) := by decide +kernel
theorem dX5_add_104 : decode cX5_add 104 = .ok (.ifCond .ne 12, 3) := by decide +kernel
theorem dX5_add_107 : decode cX5_add 107 = .ok (.aload_n 0, 1) := by decide +kernel
theorem dX5_add_108 : decode cX5_add 108 = .ok (.getfield 17, 3) := by decide +kernel
theorem dX5_add_111 : decode cX5_add 111 = .ok (.iload_n 2, 1) := by decide +kernel
theorem dX5_add_112 : decode cX5_add 112 = .ok (.iaload, 1) := by decide +kernel
theorem dX5_add_113 : decode cX5_add 113 = .ok (.goto 4, 3) := by decide +kernel
theorem dX5_add_116 : decode cX5_add 116 = .ok (.iload_n 3, 1) := by decide +kernel
theorem dX5_add_117 : decode cX5_add 117 = .ok (.istore_n 3, 1) := by decide +kernel
theorem dX5_add_118 : decode cX5_add 118 = .ok (.goto 40, 3) := by decide +kernel
theorem dX5_add_121 : decode cX5_add 121 = .ok (.aload_n 0, 1) := by decide +kernel
theorem dX5_add_122 : decode cX5_add 122 = .ok (.iconst 4, 1) := by decide +kernel
theorem dX5_add_123 : decode cX5_add 123 = .ok (.iconst 5, 1) := by decide +kernel
theorem dX5_add_124 : decode cX5_add 124 = .ok (.invokevirtual 50, 3) := by decide +kernel
theorem dX5_add_127 : decode cX5_add 127 = .ok (.ifCond .lt 12, 3) := by decide +kernel
theorem dX5_add_130 : decode cX5_add 130 = .ok (.aload_n 0, 1) := by decide +kernel
theorem dX5_add_131 : decode cX5_add 131 = .ok (.iconst 4, 1) := by decide +kernel
theorem dX5_add_132 : decode cX5_add 132 = .ok (.iconst 5, 1) := by decide +kernel
theorem dX5_add_133 : decode cX5_add 133 = .ok (.invokevirtual 54, 3) := by decide +kernel
theorem dX5_add_136 : decode cX5_add 136 = .ok (.goto 22, 3) := by decide +kernel
theorem dX5_add_139 : decode cX5_add 139 = .ok (.aload_n 0, 1) := by decide +kernel
theorem dX5_add_140 : decode cX5_add 140 = .ok (.iconst 5, 1) := by decide +kernel
theorem dX5_add_141 : decode cX5_add 141 = .ok (.iconst 4, 1) := by decide +kernel
theorem dX5_add_142 : decode cX5_add 142 = .ok (.invokevirtual 54, 3) := by decide +kernel
theorem dX5_add_145 : decode cX5_add 145 = .ok (.aload_n 0, 1) := by decide +kernel
theorem dX5_add_146 : decode cX5_add 146 = .ok (.iconst 4, 1) := by decide +kernel
theorem dX5_add_147 : decode cX5_add 147 = .ok (.iconst 5, 1) := by decide +kernel
theorem dX5_add_148 : decode cX5_add 148 = .ok (.invokevirtual 62, 3) := by decide +kernel
theorem dX5_add_151 : decode cX5_add 151 = .ok (.aload_n 0, 1) := by decide +kernel
theorem dX5_add_152 : decode cX5_add 152 = .ok (.getfield 17, 3) := by decide +kernel
theorem dX5_add_155 : decode cX5_add 155 = .ok (.iload_n 2, 1) := by decide +kernel
theorem dX5_add_156 : decode cX5_add 156 = .ok (.iaload, 1) := by decide +kernel
theorem dX5_add_157 : decode cX5_add 157 = .ok (.istore_n 3, 1) := by decide +kernel
theorem dX5_add_158 : decode cX5_add 158 = .ok (.aload_n 0, 1) := by decide +kernel
theorem dX5_add_159 : decode cX5_add 159 = .ok (.iload_n 3, 1) := by decide +kernel
theorem dX5_add_160 : decode cX5_add 160 = .ok (.iconst 4, 1) := by decide +kernel
theorem dX5_add_161 : decode cX5_add 161 = .ok (.iconst 2, 1) := by decide +kernel
theorem dX5_add_162 : decode cX5_add 162 = .ok (.invokevirtual 87, 3) := by decide +kernel
theorem dX5_add_165 : decode cX5_add 165 = .ok (.ireturn, 1) := by decide +kernel
theorem dX5_times_0 : decode cX5_times 0 = .ok (.aload_n 0, 1) := by decide +kernel
theorem dX5_times_1 : decode cX5_times 1 = .ok (.iload_n 1, 1) := by decide +kernel
theorem dX5_times_2 : decode cX5_times 2 = .ok (.invokestatic 91, 3) := by decide +kernel
theorem dX5_times_5 : decode cX5_times 5 = .ok (.ifCond .ne 10, 3) := by decide +kernel
theorem dX5_times_8 : decode cX5_times 8 = .ok (.iload_n 2, 1) := by decide +kernel
theorem dX5_times_9 : decode cX5_times 9 = .ok (.invokestatic 91, 3) := by decide +kernel
theorem dX5_times_12 : decode cX5_times 12 = .ok (.ifCond .eq 7, 3) := by decide +kernel
theorem dX5_times_15 : decode cX5_times 15 = .ok (.iconst 1, 1) := by decide +kernel
theorem dX5_times_16 : decode cX5_times 16 = .ok (.goto 4, 3) := by decide +kernel
theorem dX5_times_19 : decode cX5_times 19 = .ok (.iconst 0, 1) := by decide +kernel
theorem dX5_times_20 : decode cX5_times 20 = .ok (.putfield 33, 3) := by decide +kernel
theorem dX5_times_23 : decode cX5_times 23 = .ok (.aload_n 0, 1) := by decide +kernel
theorem dX5_times_24 : decode cX5_times 24 = .ok (.getfield 33, 3) := by decide +kernel
theorem dX5_times_27 : decode cX5_times 27 = .ok (.ifCond .le 5, 3) := by decide +kernel
theorem dX5_times_30 : decode cX5_times 30 = .ok (.iconst 0, 1) := by decide +kernel
theorem dX5_times_31 : decode cX5_times 31 = .ok (.ireturn, 1) := by decide +kernel
theorem dX5_times_32 : decode cX5_times 32 = .ok (.aload_n 0, 1) := by decide +kernel
theorem dX5_times_33 : decode cX5_times 33 = .ok (.iload_n 1, 1) := by decide +kernel
theorem dX5_times_34 : decode cX5_times 34 = .ok (.iload_n 2, 1) := by decide +kernel
theorem dX5_times_35 : decode cX5_times 35 = .ok (.iconst 4, 1) := by decide +kernel
theorem dX5_times_36 : decode cX5_times 36 = .ok (.invokevirtual 94, 3) := by decide +kernel
theorem dX5_times_39 : decode cX5_times 39 = .ok (.aload_n 0, 1) := by decide +kernel
theorem dX5_times_40 : decode cX5_times 40 = .ok (.iload_n 1, 1) := by decide +kernel
theorem dX5_times_41 : decode cX5_times 41 = .ok (.iconst 0, 1) := by decide +kernel
theorem dX5_times_42 : decode cX5_times 42 = .ok (.iconst 1, 1) := by decide +kernel
theorem dX5_times_43 : decode cX5_times 43 = .ok (.invokevirtual 98, 3) := by decide +kernel
theorem dX5_times_46 : decode cX5_times 46 = .ok (.aload_n 0, 1) := by decide +kernel
theorem dX5_times_47 : decode cX5_times 47 = .ok (.iload_n 2, 1) := by decide +kernel
theorem dX5_times_48 : decode cX5_times 48 = .ok (.iconst 2, 1) := by decide +kernel
theorem dX5_times_49 : decode cX5_times 49 = .ok (.iconst 3, 1) := by decide +kernel
theorem dX5_times_50 : decode cX5_times 50 = .ok (.invokevirtual 98, 3) := by decide +kernel
theorem dX5_times_53 : decode cX5_times 53 = .ok (.aload_n 0, 1) := by decide +kernel
theorem dX5_times_54 : decode cX5_times 54 = .ok (.iconst 0, 1) := by decide +kernel
theorem dX5_times_55 : decode cX5_times 55 = .ok (.iconst 2, 1) := by decide +kernel
theorem dX5_times_56 : decode cX5_times 56 = .ok (.iconst 4, 1) := by decide +kernel
theorem dX5_times_57 : decode cX5_times 57 = .ok (.invokevirtual 101, 3) := by decide +kernel
theorem dX5_times_60 : decode cX5_times 60 = .ok (.aload_n 0, 1) := by decide +kernel
theorem dX5_times_61 : decode cX5_times 61 = .ok (.iconst 1, 1) := by decide +kernel
theorem dX5_times_62 : decode cX5_times 62 = .ok (.iconst 3, 1) := by decide +kernel
theorem dX5_times_63 : decode cX5_times 63 = .ok (.iconst 5, 1) := by decide +kernel
theorem dX5_times_64 : decode cX5_times 64 = .ok (.invokevirtual 101, 3) := by decide +kernel
theorem dX5_times_67 : decode cX5_times 67 = .ok (.aload_n 0, 1) := by decide +kernel
theorem dX5_times_68 : decode cX5_times 68 = .ok (.aload_n 0, 1) := by decide +kernel
theorem dX5_times_69 : decode cX5_times 69 = .ok (.getfield 17, 3) := by decide +kernel
theorem dX5_times_72 : decode cX5_times 72 = .ok (.iload_n 1, 1) := by decide +kernel
theorem dX5_times_73 : decode cX5_times 73 = .ok (.iaload, 1) := by decide +kernel
theorem dX5_times_74 : decode cX5_times 74 = .ok (.aload_n 0, 1) := by decide +kernel
theorem dX5_times_75 : decode cX5_times 75 = .ok (.getfield 17, 3) := by decide +kernel
theorem dX5_times_78 : decode cX5_times 78 = .ok (.iload_n 2, 1) := by decide +kernel
theorem dX5_times_79 : decode cX5_times 79 = .ok (.iaload, 1) := by decide +kernel
theorem dX5_times_80 : decode cX5_times 80 = .ok (.imul, 1) := by decide +kernel
theorem dX5_times_81 : decode cX5_times 81 = .ok (.iconst 4, 1) := by decide +kernel
theorem dX5_times_82 : decode cX5_times 82 = .ok (.iconst 5, 1) := by decide +kernel
theorem dX5_times_83 : decode cX5_times 83 = .ok (.invokevirtual 87, 3) := by decide +kernel
theorem dX5_times_86 : decode cX5_times 86 = .ok (.ireturn, 1) := by decide +kernel
theorem dX5_over_0 : decode cX5_over 0 = .ok (.aload_n 0, 1) := by decide +kernel
theorem dX5_over_1 : decode cX5_over 1 = .ok (.iload_n 1, 1) := by decide +kernel
theorem dX5_over_2 : decode cX5_over 2 = .ok (.invokestatic 91, 3) := by decide +kernel
theorem dX5_over_5 : decode cX5_over 5 = .ok (.ifCond .ne 10, 3) := by decide +kernel
theorem dX5_over_8 : decode cX5_over 8 = .ok (.iload_n 2, 1) := by decide +kernel
theorem dX5_over_9 : decode cX5_over 9 = .ok (.invokestatic 91, 3) := by decide +kernel
theorem dX5_over_12 : decode cX5_over 12 = .ok (.ifCond .eq 7, 3) := by decide +kernel
theorem dX5_over_15 : decode cX5_over 15 = .ok (.iconst 1, 1) := by decide +kernel
theorem dX5_over_16 : decode cX5_over 16 = .ok (.goto 17, 3) := by decide +kernel
theorem dX5_over_19 : decode cX5_over 19 = .ok (.aload_n 0, 1) := by decide +kernel
theorem dX5_over_20 : decode cX5_over 20 = .ok (.getfield 17, 3) := by decide +kernel
theorem dX5_over_23 : decode cX5_over 23 = .ok (.iload_n 2, 1) := by decide +kernel
theorem dX5_over_24 : decode cX5_over 24 = .ok (.iaload, 1) := by decide +kernel
theorem dX5_over_25 : decode cX5_over 25 = .ok (.ifCond .ne 7, 3) := by decide +kernel
theorem dX5_over_28 : decode cX5_over 28 = .ok (.iconst 2, 1) := by decide +kernel
theorem dX5_over_29 : decode cX5_over 29 = .ok (.goto 4, 3) := by decide +kernel
theorem dX5_over_32 : decode cX5_over 32 = .ok (.iconst 0, 1) := by decide +kernel
theorem dX5_over_33 : decode cX5_over 33 = .ok (.putfield 33, 3) := by decide +kernel
theorem dX5_over_36 : decode cX5_over 36 = .ok (.aload_n 0, 1) := by decide +kernel
theorem dX5_over_37 : decode cX5_over 37 = .ok (.getfield 33, 3) := by decide +kernel
theorem dX5_over_40 : decode cX5_over 40 = .ok (.ifCond .le 5, 3) := by decide +kernel
theorem dX5_over_43 : decode cX5_over 43 = .ok (.iconst 0, 1) := by decide +kernel
theorem dX5_over_44 : decode cX5_over 44 = .ok (.ireturn, 1) := by decide +kernel
theorem dX5_over_45 : decode cX5_over 45 = .ok (.aload_n 0, 1) := by decide +kernel
theorem dX5_over_46 : decode cX5_over 46 = .ok (.iload_n 1, 1) := by decide +kernel
theorem dX5_over_47 : decode cX5_over 47 = .ok (.iload_n 2, 1) := by decide +kernel
theorem dX5_over_48 : decode cX5_over 48 = .ok (.iconst 4, 1) := by decide +kernel
theorem dX5_over_49 : decode cX5_over 49 = .ok (.invokevirtual 94, 3) := by decide +kernel
theorem dX5_over_52 : decode cX5_over 52 = .ok (.aload_n 0, 1) := by decide +kernel
theorem dX5_over_53 : decode cX5_over 53 = .ok (.iload_n 1, 1) := by decide +kernel
theorem dX5_over_54 : decode cX5_over 54 = .ok (.iconst 0, 1) := by decide +kernel
theorem dX5_over_55 : decode cX5_over 55 = .ok (.iconst 1, 1) := by decide +kernel
theorem dX5_over_56 : decode cX5_over 56 = .ok (.invokevirtual 98, 3) := by decide +kernel
theorem dX5_over_59 : decode cX5_over 59 = .ok (.aload_n 0, 1) := by decide +kernel
theorem dX5_over_60 : decode cX5_over 60 = .ok (.iload_n 2, 1) := by decide +kernel
theorem dX5_over_61 : decode cX5_over 61 = .ok (.iconst 2, 1) := by decide +kernel
theorem dX5_over_62 : decode cX5_over 62 = .ok (.iconst 3, 1) := by decide +kernel
theorem dX5_over_63 : decode cX5_over 63 = .ok (.invokevirtual 98, 3) := by decide +kernel
theorem dX5_over_66 : decode cX5_over 66 = .ok (.aload_n 0, 1) := by decide +kernel
theorem dX5_over_67 : decode cX5_over 67 = .ok (.iconst 0, 1) := by decide +kernel
theorem dX5_over_68 : decode cX5_over 68 = .ok (.iconst 3, 1) := by decide +kernel
theorem dX5_over_69 : decode cX5_over 69 = .ok (.iconst 4, 1) := by decide +kernel
theorem dX5_over_70 : decode cX5_over 70 = .ok (.invokevirtual 101, 3) := by decide +kernel
theorem dX5_over_73 : decode cX5_over 73 = .ok (.aload_n 0, 1) := by decide +kernel
theorem dX5_over_74 : decode cX5_over 74 = .ok (.iconst 1, 1) := by decide +kernel
theorem dX5_over_75 : decode cX5_over 75 = .ok (.iconst 2, 1) := by decide +kernel
theorem dX5_over_76 : decode cX5_over 76 = .ok (.iconst 5, 1) := by decide +kernel
theorem dX5_over_77 : decode cX5_over 77 = .ok (.invokevirtual 101, 3) := by decide +kernel
theorem dX5_over_80 : decode cX5_over 80 = .ok (.aload_n 0, 1) := by decide +kernel
theorem dX5_over_81 : decode cX5_over 81 = .ok (.aload_n 0, 1) := by decide +kernel
theorem dX5_over_82 : decode cX5_over 82 = .ok (.getfield 17, 3) := by decide +kernel
theorem dX5_over_85 : decode cX5_over 85 = .ok (.iload_n 1, 1) := by decide +kernel
theorem dX5_over_86 : decode cX5_over 86 = .ok (.iaload, 1) := by decide +kernel
theorem dX5_over_87 : decode cX5_over 87 = .ok (.aload_n 0, 1) := by decide +kernel
theorem dX5_over_88 : decode cX5_over 88 = .ok (.getfield 17, 3) := by decide +kernel
theorem dX5_over_91 : decode cX5_over 91 = .ok (.iload_n 2, 1) := by decide +kernel
theorem dX5_over_92 : decode cX5_over 92 = .ok (.iaload, 1) := by decide +kernel
theorem dX5_over_93 : decode cX5_over 93 = .ok (.imul, 1) := by decide +kernel
theorem dX5_over_94 : decode cX5_over 94 = .ok (.iconst 4, 1) := by decide +kernel
theorem dX5_over_95 : decode cX5_over 95 = .ok (.iconst 5, 1) := by decide +kernel
theorem dX5_over_96 : decode cX5_over 96 = .ok (.invokevirtual 87, 3) := by decide +kernel
theorem dX5_over_99 : decode cX5_over 99 = .ok (.ireturn, 1) := by decide +kernel
theorem dX5_order_0 : decode cX5_order 0 = .ok (.aload_n 0, 1) := by decide +kernel
theorem dX5_order_1 : decode cX5_order 1 = .ok (.iload_n 1, 1) := by decide +kernel
theorem dX5_order_2 : decode cX5_order 2 = .ok (.invokestatic 91, 3) := by decide +kernel
theorem dX5_order_5 : decode cX5_order 5 = .ok (.ifCond .ne 10, 3) := by decide +kernel
theorem dX5_order_8 : decode cX5_order 8 = .ok (.iload_n 2, 1) := by decide +kernel
theorem dX5_order_9 : decode cX5_order 9 = .ok (.invokestatic 91, 3) := by decide +kernel
theorem dX5_order_12 : decode cX5_order 12 = .ok (.ifCond .eq 7, 3) := by decide +kernel
theorem dX5_order_15 : decode cX5_order 15 = .ok (.iconst 1, 1) := by decide +kernel
theorem dX5_order_16 : decode cX5_order 16 = .ok (.goto 4, 3) := by decide +kernel
theorem dX5_order_19 : decode cX5_order 19 = .ok (.iconst 0, 1) := by decide +kernel
theorem dX5_order_20 : decode cX5_order 20 = .ok (.putfield 33, 3) := by decide +kernel
theorem dX5_order_23 : decode cX5_order 23 = .ok (.aload_n 0, 1) := by decide +kernel
theorem dX5_order_24 : decode cX5_order 24 = .ok (.getfield 33, 3) := by decide +kernel
theorem dX5_order_27 : decode cX5_order 27 = .ok (.ifCond .le 5, 3) := by decide +kernel
theorem dX5_order_30 : decode cX5_order 30 = .ok (.iconst 0, 1) := by decide +kernel
theorem dX5_order_31 : decode cX5_order 31 = .ok (.ireturn, 1) := by decide +kernel
theorem dX5_order_32 : decode cX5_order 32 = .ok (.aload_n 0, 1) := by decide +kernel
theorem dX5_order_33 : decode cX5_order 33 = .ok (.getfield 17, 3) := by decide +kernel
theorem dX5_order_36 : decode cX5_order 36 = .ok (.iload_n 1, 1) := by decide +kernel
theorem dX5_order_37 : decode cX5_order 37 = .ok (.iaload, 1) := by decide +kernel
theorem dX5_order_38 : decode cX5_order 38 = .ok (.aload_n 0, 1) := by decide +kernel
theorem dX5_order_39 : decode cX5_order 39 = .ok (.getfield 17, 3) := by decide +kernel
theorem dX5_order_42 : decode cX5_order 42 = .ok (.iload_n 2, 1) := by decide +kernel
theorem dX5_order_43 : decode cX5_order 43 = .ok (.iaload, 1) := by decide +kernel
theorem dX5_order_44 : decode cX5_order 44 = .ok (.if_icmp .eq 24, 3) := by decide +kernel
theorem dX5_order_47 : decode cX5_order 47 = .ok (.aload_n 0, 1) := by decide +kernel
theorem dX5_order_48 : decode cX5_order 48 = .ok (.getfield 17, 3) := by decide +kernel
theorem dX5_order_51 : decode cX5_order 51 = .ok (.iload_n 1, 1) := by decide +kernel
theorem dX5_order_52 : decode cX5_order 52 = .ok (.iaload, 1) := by decide +kernel
theorem dX5_order_53 : decode cX5_order 53 = .ok (.aload_n 0, 1) := by decide +kernel
theorem dX5_order_54 : decode cX5_order 54 = .ok (.getfield 17, 3) := by decide +kernel
theorem dX5_order_57 : decode cX5_order 57 = .ok (.iload_n 2, 1) := by decide +kernel
theorem dX5_order_58 : decode cX5_order 58 = .ok (.iaload, 1) := by decide +kernel
theorem dX5_order_59 : decode cX5_order 59 = .ok (.if_icmp .ge 7, 3) := by decide +kernel
theorem dX5_order_62 : decode cX5_order 62 = .ok (.iconst (-1), 1) := by decide +kernel
theorem dX5_order_63 : decode cX5_order 63 = .ok (.goto 4, 3) := by decide +kernel
theorem dX5_order_66 : decode cX5_order 66 = .ok (.iconst 1, 1) := by decide +kernel
theorem dX5_order_67 : decode cX5_order 67 = .ok (.ireturn, 1) := by decide +kernel
theorem dX5_order_68 : decode cX5_order 68 = .ok (.aload_n 0, 1) := by decide +kernel
theorem dX5_order_69 : decode cX5_order 69 = .ok (.iload_n 1, 1) := by decide +kernel
theorem dX5_order_70 : decode cX5_order 70 = .ok (.iload_n 2, 1) := by decide +kernel
theorem dX5_order_71 : decode cX5_order 71 = .ok (.iconst 4, 1) := by decide +kernel
theorem dX5_order_72 : decode cX5_order 72 = .ok (.invokevirtual 94, 3) := by decide +kernel
theorem dX5_order_75 : decode cX5_order 75 = .ok (.aload_n 0, 1) := by decide +kernel
theorem dX5_order_76 : decode cX5_order 76 = .ok (.iload_n 1, 1) := by decide +kernel
theorem dX5_order_77 : decode cX5_order 77 = .ok (.iconst 0, 1) := by decide +kernel
theorem dX5_order_78 : decode cX5_order 78 = .ok (.iconst 1, 1) := by decide +kernel
theorem dX5_order_79 : decode cX5_order 79 = .ok (.invokevirtual 98, 3) := by decide +kernel
theorem dX5_order_82 : decode cX5_order 82 = .ok (.aload_n 0, 1) := by decide +kernel
theorem dX5_order_83 : decode cX5_order 83 = .ok (.iload_n 2, 1) := by decide +kernel
theorem dX5_order_84 : decode cX5_order 84 = .ok (.iconst 2, 1) := by decide +kernel
theorem dX5_order_85 : decode cX5_order 85 = .ok (.iconst 3, 1) := by decide +kernel
theorem dX5_order_86 : decode cX5_order 86 = .ok (.invokevirtual 98, 3) := by decide +kernel
theorem dX5_order_89 : decode cX5_order 89 = .ok (.aload_n 0, 1) := by decide +kernel
theorem dX5_order_90 : decode cX5_order 90 = .ok (.iconst 0, 1) := by decide +kernel
theorem dX5_order_91 : decode cX5_order 91 = .ok (.iconst 3, 1) := by decide +kernel
theorem dX5_order_92 : decode cX5_order 92 = .ok (.iconst 4, 1) := by decide +kernel
theorem dX5_order_93 : decode cX5_order 93 = .ok (.invokevirtual 101, 3) := by decide +kernel
theorem dX5_order_96 : decode cX5_order 96 = .ok (.aload_n 0, 1) := by decide +kernel
theorem dX5_order_97 : decode cX5_order 97 = .ok (.iconst 2, 1) := by decide +kernel
theorem dX5_order_98 : decode cX5_order 98 = .ok (.iconst 1, 1) := by decide +kernel
theorem dX5_order_99 : decode cX5_order 99 = .ok (.iconst 5, 1) := by decide +kernel
theorem dX5_order_100 : decode cX5_order 100 = .ok (.invokevirtual 101, 3) := by decide +kernel
theorem dX5_order_103 : decode cX5_order 103 = .ok (.aload_n 0, 1) := by decide +kernel
theorem dX5_order_104 : decode cX5_order 104 = .ok (.getfield 17, 3) := by decide +kernel
theorem dX5_order_107 : decode cX5_order 107 = .ok (.iload_n 1, 1) := by decide +kernel
theorem dX5_order_108 : decode cX5_order 108 = .ok (.iaload, 1) := by decide +kernel
theorem dX5_order_109 : decode cX5_order 109 = .ok (.ifCond .ge 12, 3) := by decide +kernel
theorem dX5_order_112 : decode cX5_order 112 = .ok (.aload_n 0, 1) := by decide +kernel
theorem dX5_order_113 : decode cX5_order 113 = .ok (.iconst 5, 1) := by decide +kernel
theorem dX5_order_114 : decode cX5_order 114 = .ok (.iconst 4, 1) := by decide +kernel
theorem dX5_order_115 : decode cX5_order 115 = .ok (.invokevirtual 50, 3) := by decide +kernel
theorem dX5_order_118 : decode cX5_order 118 = .ok (.goto 9, 3) := by decide +kernel
theorem dX5_order_121 : decode cX5_order 121 = .ok (.aload_n 0, 1) := by decide +kernel
theorem dX5_order_122 : decode cX5_order 122 = .ok (.iconst 4, 1) := by decide +kernel
theorem dX5_order_123 : decode cX5_order 123 = .ok (.iconst 5, 1) := by decide +kernel
theorem dX5_order_124 : decode cX5_order 124 = .ok (.invokevirtual 50, 3) := by decide +kernel
theorem dX5_order_127 : decode cX5_order 127 = .ok (.ireturn, 1) := by decide +kernel
theorem dX5_root_0 : decode cX5_root 0 = .ok (.aload_n 0, 1) := by decide +kernel
theorem dX5_root_1 : decode cX5_root 1 = .ok (.iload_n 1, 1) := by decide +kernel
theorem dX5_root_2 : decode cX5_root 2 = .ok (.invokestatic 91, 3) := by decide +kernel
theorem dX5_root_5 : decode cX5_root 5 = .ok (.ifCond .eq 7, 3) := by decide +kernel
theorem dX5_root_8 : decode cX5_root 8 = .ok (.iconst 1, 1) := by decide +kernel
theorem dX5_root_9 : decode cX5_root 9 = .ok (.goto 28, 3) := by decide +kernel
theorem dX5_root_12 : decode cX5_root 12 = .ok (.aload_n 0, 1) := by decide +kernel
theorem dX5_root_13 : decode cX5_root 13 = .ok (.getfield 17, 3) := by decide +kernel
theorem dX5_root_16 : decode cX5_root 16 = .ok (.iload_n 1, 1) := by decide +kernel
theorem dX5_root_17 : decode cX5_root 17 = .ok (.iaload, 1) := by decide +kernel
theorem dX5_root_18 : decode cX5_root 18 = .ok (.ifCond .lt 14, 3) := by decide +kernel
theorem dX5_root_21 : decode cX5_root 21 = .ok (.iload_n 2, 1) := by decide +kernel
theorem dX5_root_22 : decode cX5_root 22 = .ok (.ifCond .lt 10, 3) := by decide +kernel
theorem dX5_root_25 : decode cX5_root 25 = .ok (.iload_n 2, 1) := by decide +kernel
theorem dX5_root_26 : decode cX5_root 26 = .ok (.sipush 200, 3) := by decide +kernel
theorem dX5_root_29 : decode cX5_root 29 = .ok (.if_icmp .le 7, 3) := by decide +kernel
theorem dX5_root_32 : decode cX5_root 32 = .ok (.iconst 2, 1) := by decide +kernel
theorem dX5_root_33 : decode cX5_root 33 = .ok (.goto 4, 3) := by decide +kernel
theorem dX5_root_36 : decode cX5_root 36 = .ok (.iconst 0, 1) := by decide +kernel
theorem dX5_root_37 : decode cX5_root 37 = .ok (.putfield 33, 3) := by decide +kernel
theorem dX5_root_40 : decode cX5_root 40 = .ok (.aload_n 0, 1) := by decide +kernel
theorem dX5_root_41 : decode cX5_root 41 = .ok (.getfield 33, 3) := by decide +kernel
theorem dX5_root_44 : decode cX5_root 44 = .ok (.ifCond .le 5, 3) := by decide +kernel
theorem dX5_root_47 : decode cX5_root 47 = .ok (.iconst 0, 1) := by decide +kernel
theorem dX5_root_48 : decode cX5_root 48 = .ok (.ireturn, 1) := by decide +kernel
theorem dX5_root_49 : decode cX5_root 49 = .ok (.aload_n 0, 1) := by decide +kernel
theorem dX5_root_50 : decode cX5_root 50 = .ok (.getfield 107, 3) := by decide +kernel
theorem dX5_root_53 : decode cX5_root 53 = .ok (.bipush 40, 2) := by decide +kernel
theorem dX5_root_55 : decode cX5_root 55 = .ok (.if_icmp .eq 15, 3) := by decide +kernel
theorem dX5_root_58 : decode cX5_root 58 = .ok (.aload_n 0, 1) := by decide +kernel
theorem dX5_root_59 : decode cX5_root 59 = .ok (.getfield 84, 3) := by decide +kernel
theorem dX5_root_62 : decode cX5_root 62 = .ok (.iconst 2, 1) := by decide +kernel
theorem dX5_root_63 : decode cX5_root 63 = .ok (.iadd, 1) := by decide +kernel
theorem dX5_root_64 : decode cX5_root 64 = .ok (.sipush 150, 3) := by decide +kernel
theorem dX5_root_67 : decode cX5_root 67 = .ok (.if_icmp .le 5, 3) := by decide +kernel
theorem dX5_root_70 : decode cX5_root 70 = .ok (.iconst (-1), 1) := by decide +kernel
theorem dX5_root_71 : decode cX5_root 71 = .ok (.ireturn, 1) := by decide +kernel
theorem dX5_root_72 : decode cX5_root 72 = .ok (.aload_n 0, 1) := by decide +kernel
theorem dX5_root_73 : decode cX5_root 73 = .ok (.iload_n 1, 1) := by decide +kernel
theorem dX5_root_74 : decode cX5_root 74 = .ok (.iload_n 1, 1) := by decide +kernel
theorem dX5_root_75 : decode cX5_root 75 = .ok (.iload_n 2, 1) := by decide +kernel
theorem dX5_root_76 : decode cX5_root 76 = .ok (.iconst 5, 1) := by decide +kernel
theorem dX5_root_77 : decode cX5_root 77 = .ok (.idiv, 1) := by decide +kernel
theorem dX5_root_78 : decode cX5_root 78 = .ok (.bipush 8, 2) := by decide +kernel
theorem dX5_root_80 : decode cX5_root 80 = .ok (.iadd, 1) := by decide +kernel
theorem dX5_root_81 : decode cX5_root 81 = .ok (.invokevirtual 94, 3) := by decide +kernel
theorem dX5_root_84 : decode cX5_root 84 = .ok (.aload_n 0, 1) := by decide +kernel
theorem dX5_root_85 : decode cX5_root 85 = .ok (.iload_n 1, 1) := by decide +kernel
theorem dX5_root_86 : decode cX5_root 86 = .ok (.iconst 0, 1) := by decide +kernel
theorem dX5_root_87 : decode cX5_root 87 = .ok (.iconst 1, 1) := by decide +kernel
theorem dX5_root_88 : decode cX5_root 88 = .ok (.invokevirtual 98, 3) := by decide +kernel
theorem dX5_root_91 : decode cX5_root 91 = .ok (.aload_n 0, 1) := by decide +kernel
theorem dX5_root_92 : decode cX5_root 92 = .ok (.iconst 2, 1) := by decide +kernel
theorem dX5_root_93 : decode cX5_root 93 = .ok (.lconst 1, 1) := by decide +kernel
theorem dX5_root_94 : decode cX5_root 94 = .ok (.invokevirtual 36, 3) := by decide +kernel
theorem dX5_root_97 : decode cX5_root 97 = .ok (.iconst 0, 1) := by decide +kernel
theorem dX5_root_98 : decode cX5_root 98 = .ok (.istore_n 3, 1) := by decide +kernel
theorem dX5_root_99 : decode cX5_root 99 = .ok (.iload_n 3, 1) := by decide +kernel
theorem dX5_root_100 : decode cX5_root 100 = .ok (.iload_n 2, 1) := by decide +kernel
theorem dX5_root_101 : decode cX5_root 101 = .ok (.if_icmp .ge 24, 3) := by decide +kernel
theorem dX5_root_104 : decode cX5_root 104 = .ok (.aload_n 0, 1) := by decide +kernel
theorem dX5_root_105 : decode cX5_root 105 = .ok (.iconst 0, 1) := by decide +kernel
theorem dX5_root_106 : decode cX5_root 106 = .ok (.invokevirtual 46, 3) := by decide +kernel
theorem dX5_root_109 : decode cX5_root 109 = .ok (.aload_n 0, 1) := by decide +kernel
theorem dX5_root_110 : decode cX5_root 110 = .ok (.iconst 0, 1) := by decide +kernel
theorem dX5_root_111 : decode cX5_root 111 = .ok (.invokevirtual 46, 3) := by decide +kernel
theorem dX5_root_114 : decode cX5_root 114 = .ok (.aload_n 0, 1) := by decide +kernel
theorem dX5_root_115 : decode cX5_root 115 = .ok (.iconst 2, 1) := by decide +kernel
theorem dX5_root_116 : decode cX5_root 116 = .ok (.invokevirtual 46, 3) := by decide +kernel
theorem dX5_root_119 : decode cX5_root 119 = .ok (.iinc 3 1, 3) := by decide +kernel
theorem dX5_root_122 : decode cX5_root 122 = .ok (.goto (-23), 3) := by decide +kernel
theorem dX5_root_125 : decode cX5_root 125 = .ok (.aload_n 0, 1) := by decide +kernel
theorem dX5_root_126 : decode cX5_root 126 = .ok (.iconst 0, 1) := by decide +kernel
theorem dX5_root_127 : decode cX5_root 127 = .ok (.iconst 1, 1) := by decide +kernel
theorem dX5_root_128 : decode cX5_root 128 = .ok (.iconst 3, 1) := by decide +kernel
theorem dX5_root_129 : decode cX5_root 129 = .ok (.iconst 4, 1) := by decide +kernel
theorem dX5_root_130 : decode cX5_root 130 = .ok (.invokevirtual 80, 3) := by decide +kernel
theorem dX5_root_133 : decode cX5_root 133 = .ok (.aload_n 0, 1) := by decide +kernel
theorem dX5_root_134 : decode cX5_root 134 = .ok (.iconst 3, 1) := by decide +kernel
theorem dX5_root_135 : decode cX5_root 135 = .ok (.iconst 5, 1) := by decide +kernel
theorem dX5_root_136 : decode cX5_root 136 = .ok (.invokevirtual 110, 3) := by decide +kernel
theorem dX5_root_139 : decode cX5_root 139 = .ok (.aload_n 0, 1) := by decide +kernel
theorem dX5_root_140 : decode cX5_root 140 = .ok (.iconst 5, 1) := by decide +kernel
theorem dX5_root_141 : decode cX5_root 141 = .ok (.iconst 5, 1) := by decide +kernel
theorem dX5_root_142 : decode cX5_root 142 = .ok (.iconst 3, 1) := by decide +kernel
theorem dX5_root_143 : decode cX5_root 143 = .ok (.invokevirtual 101, 3) := by decide +kernel
theorem dX5_root_146 : decode cX5_root 146 = .ok (.aload_n 0, 1) := by decide +kernel
theorem dX5_root_147 : decode cX5_root 147 = .ok (.iconst 3, 1) := by decide +kernel
theorem dX5_root_148 : decode cX5_root 148 = .ok (.iconst 1, 1) := by decide +kernel
theorem dX5_root_149 : decode cX5_root 149 = .ok (.iconst 4, 1) := by decide +kernel
theorem dX5_root_150 : decode cX5_root 150 = .ok (.invokevirtual 101, 3) := by decide +kernel
theorem dX5_root_153 : decode cX5_root 153 = .ok (.aload_n 0, 1) := by decide +kernel
theorem dX5_root_154 : decode cX5_root 154 = .ok (.iconst 4, 1) := by decide +kernel
theorem dX5_root_155 : decode cX5_root 155 = .ok (.iconst 0, 1) := by decide +kernel
theorem dX5_root_156 : decode cX5_root 156 = .ok (.invokevirtual 50, 3) := by decide +kernel
theorem dX5_root_159 : decode cX5_root 159 = .ok (.ifCond .ne 7, 3) := by decide +kernel
theorem dX5_root_162 : decode cX5_root 162 = .ok (.iconst 1, 1) := by decide +kernel
theorem dX5_root_163 : decode cX5_root 163 = .ok (.goto 4, 3) := by decide +kernel
theorem dX5_root_166 : decode cX5_root 166 = .ok (.iconst 0, 1) := by decide +kernel
theorem dX5_root_167 : decode cX5_root 167 = .ok (.istore_n 3, 1) := by decide +kernel
theorem dX5_root_168 : decode cX5_root 168 = .ok (.aload_n 0, 1) := by decide +kernel
theorem dX5_root_169 : decode cX5_root 169 = .ok (.iconst 0, 1) := by decide +kernel
theorem dX5_root_170 : decode cX5_root 170 = .ok (.iconst 5, 1) := by decide +kernel
theorem dX5_root_171 : decode cX5_root 171 = .ok (.invokevirtual 62, 3) := by decide +kernel
theorem dX5_root_174 : decode cX5_root 174 = .ok (.aload_n 0, 1) := by decide +kernel
theorem dX5_root_175 : decode cX5_root 175 = .ok (.getfield 26, 3) := by decide +kernel
theorem dX5_root_178 : decode cX5_root 178 = .ok (.iconst 2, 1) := by decide +kernel
theorem dX5_root_179 : decode cX5_root 179 = .ok (.aload_n 0, 1) := by decide +kernel
theorem dX5_root_180 : decode cX5_root 180 = .ok (.getfield 107, 3) := by decide +kernel
theorem dX5_root_183 : decode cX5_root 183 = .ok (.imul, 1) := by decide +kernel
theorem dX5_root_184 : decode cX5_root 184 = .ok (.aload_n 0, 1) := by decide +kernel
theorem dX5_root_185 : decode cX5_root 185 = .ok (.iconst 1, 1) := by decide +kernel
theorem dX5_root_186 : decode cX5_root 186 = .ok (.iconst 0, 1) := by decide +kernel
theorem dX5_root_187 : decode cX5_root 187 = .ok (.iconst 2, 1) := by decide +kernel
theorem dX5_root_188 : decode cX5_root 188 = .ok (.invokevirtual 87, 3) := by decide +kernel
theorem dX5_root_191 : decode cX5_root 191 = .ok (.iastore, 1) := by decide +kernel
theorem dX5_root_192 : decode cX5_root 192 = .ok (.iload_n 3, 1) := by decide +kernel
theorem dX5_root_193 : decode cX5_root 193 = .ok (.ifCond .ne 15, 3) := by decide +kernel
theorem dX5_root_196 : decode cX5_root 196 = .ok (.aload_n 0, 1) := by decide +kernel
theorem dX5_root_197 : decode cX5_root 197 = .ok (.iconst 1, 1) := by decide +kernel
theorem dX5_root_198 : decode cX5_root 198 = .ok (.lconst 1, 1) := by decide +kernel
theorem dX5_root_199 : decode cX5_root 199 = .ok (.invokevirtual 36, 3) := by decide +kernel
theorem dX5_root_202 : decode cX5_root 202 = .ok (.aload_n 0, 1) := by decide +kernel
theorem dX5_root_203 : decode cX5_root 203 = .ok (.iconst 0, 1) := by decide +kernel
theorem dX5_root_204 : decode cX5_root 204 = .ok (.iconst 1, 1) := by decide +kernel
theorem dX5_root_205 : decode cX5_root 205 = .ok (.invokevirtual 104, 3) := by decide +kernel
theorem dX5_root_208 : decode cX5_root 208 = .ok (.aload_n 0, 1) := by decide +kernel
theorem dX5_root_209 : decode cX5_root 209 = .ok (.getfield 26, 3) := by decide +kernel
theorem dX5_root_212 : decode cX5_root 212 = .ok (.iconst 2, 1) := by decide +kernel
theorem dX5_root_213 : decode cX5_root 213 = .ok (.aload_n 0, 1) := by decide +kernel
theorem dX5_root_214 : decode cX5_root 214 = .ok (.getfield 107, 3) := by decide +kernel
theorem dX5_root_217 : decode cX5_root 217 = .ok (.imul, 1) := by decide +kernel
theorem dX5_root_218 : decode cX5_root 218 = .ok (.iconst 1, 1) := by decide +kernel
theorem dX5_root_219 : decode cX5_root 219 = .ok (.iadd, 1) := by decide +kernel
theorem dX5_root_220 : decode cX5_root 220 = .ok (.aload_n 0, 1) := by decide +kernel
theorem dX5_root_221 : decode cX5_root 221 = .ok (.iconst 1, 1) := by decide +kernel
theorem dX5_root_222 : decode cX5_root 222 = .ok (.iconst 0, 1) := by decide +kernel
theorem dX5_root_223 : decode cX5_root 223 = .ok (.iconst 2, 1) := by decide +kernel
theorem dX5_root_224 : decode cX5_root 224 = .ok (.invokevirtual 87, 3) := by decide +kernel
theorem dX5_root_227 : decode cX5_root 227 = .ok (.iastore, 1) := by decide +kernel
theorem dX5_root_228 : decode cX5_root 228 = .ok (.aload_n 0, 1) := by decide +kernel
theorem dX5_root_229 : decode cX5_root 229 = .ok (.dup, 1) := by decide +kernel
theorem dX5_root_230 : decode cX5_root 230 = .ok (.getfield 107, 3) := by decide +kernel
theorem dX5_root_233 : decode cX5_root 233 = .ok (.iconst 1, 1) := by decide +kernel
theorem dX5_root_234 : decode cX5_root 234 = .ok (.iadd, 1) := by decide +kernel
theorem dX5_root_235 : decode cX5_root 235 = .ok (.putfield 107, 3) := by decide +kernel
theorem dX5_root_238 : decode cX5_root 238 = .ok (.aload_n 0, 1) := by decide +kernel
theorem dX5_root_239 : decode cX5_root 239 = .ok (.getfield 107, 3) := by decide +kernel
theorem dX5_root_242 : decode cX5_root 242 = .ok (.iconst 1, 1) := by decide +kernel
theorem dX5_root_243 : decode cX5_root 243 = .ok (.isub, 1) := by decide +kernel
theorem dX5_root_244 : decode cX5_root 244 = .ok (.ireturn, 1) := by decide +kernel
theorem dX5_end_0 : decode cX5_end 0 = .ok (.aload_n 0, 1) := by decide +kernel
theorem dX5_end_1 : decode cX5_end 1 = .ok (.iload_n 1, 1) := by decide +kernel
theorem dX5_end_2 : decode cX5_end 2 = .ok (.ifCond .lt 18, 3) := by decide +kernel
theorem dX5_end_5 : decode cX5_end 5 = .ok (.iload_n 1, 1) := by decide +kernel
theorem dX5_end_6 : decode cX5_end 6 = .ok (.bipush 40, 2) := by decide +kernel
theorem dX5_end_8 : decode cX5_end 8 = .ok (.if_icmp .ge 12, 3) := by decide +kernel
theorem dX5_end_11 : decode cX5_end 11 = .ok (.iload_n 2, 1) := by decide +kernel
theorem dX5_end_12 : decode cX5_end 12 = .ok (.ifCond .lt 8, 3) := by decide +kernel
theorem dX5_end_15 : decode cX5_end 15 = .ok (.iload_n 2, 1) := by decide +kernel
theorem dX5_end_16 : decode cX5_end 16 = .ok (.iconst 1, 1) := by decide +kernel
theorem dX5_end_17 : decode cX5_end 17 = .ok (.if_icmp .le 7, 3) := by decide +kernel
theorem dX5_end_20 : decode cX5_end 20 = .ok (.iconst 1, 1) := by decide +kernel
theorem dX5_end_21 : decode cX5_end 21 = .ok (.goto 4, 3) := by decide +kernel
theorem dX5_end_24 : decode cX5_end 24 = .ok (.iconst 0, 1) := by decide +kernel
theorem dX5_end_25 : decode cX5_end 25 = .ok (.putfield 33, 3) := by decide +kernel
theorem dX5_end_28 : decode cX5_end 28 = .ok (.aload_n 0, 1) := by decide +kernel
theorem dX5_end_29 : decode cX5_end 29 = .ok (.getfield 33, 3) := by decide +kernel
theorem dX5_end_32 : decode cX5_end 32 = .ok (.ifCond .le 7, 3) := by decide +kernel
theorem dX5_end_35 : decode cX5_end 35 = .ok (.iconst 0, 1) := by decide +kernel
theorem dX5_end_36 : decode cX5_end 36 = .ok (.goto 13, 3) := by decide +kernel
theorem dX5_end_39 : decode cX5_end 39 = .ok (.aload_n 0, 1) := by decide +kernel
theorem dX5_end_40 : decode cX5_end 40 = .ok (.getfield 26, 3) := by decide +kernel
theorem dX5_end_43 : decode cX5_end 43 = .ok (.iconst 2, 1) := by decide +kernel
theorem dX5_end_44 : decode cX5_end 44 = .ok (.iload_n 1, 1) := by decide +kernel
theorem dX5_end_45 : decode cX5_end 45 = .ok (.imul, 1) := by decide +kernel
theorem dX5_end_46 : decode cX5_end 46 = .ok (.iload_n 2, 1) := by decide +kernel
theorem dX5_end_47 : decode cX5_end 47 = .ok (.iadd, 1) := by decide +kernel
theorem dX5_end_48 : decode cX5_end 48 = .ok (.iaload, 1) := by decide +kernel
theorem dX5_end_49 : decode cX5_end 49 = .ok (.ireturn, 1) := by decide +kernel
theorem dX5_round_0 : decode cX5_round 0 = .ok (.aload_n 0, 1) := by decide +kernel
theorem dX5_round_1 : decode cX5_round 1 = .ok (.iload_n 1, 1) := by decide +kernel
theorem dX5_round_2 : decode cX5_round 2 = .ok (.invokestatic 91, 3) := by decide +kernel
theorem dX5_round_5 : decode cX5_round 5 = .ok (.ifCond .eq 7, 3) := by decide +kernel
theorem dX5_round_8 : decode cX5_round 8 = .ok (.iconst 1, 1) := by decide +kernel
theorem dX5_round_9 : decode cX5_round 9 = .ok (.goto 23, 3) := by decide +kernel
theorem dX5_round_12 : decode cX5_round 12 = .ok (.iload_n 2, 1) := by decide +kernel
theorem dX5_round_13 : decode cX5_round 13 = .ok (.ifCond .lt 14, 3) := by decide +kernel
theorem dX5_round_16 : decode cX5_round 16 = .ok (.iload_n 2, 1) := by decide +kernel
theorem dX5_round_17 : decode cX5_round 17 = .ok (.iconst 3, 1) := by decide +kernel
theorem dX5_round_18 : decode cX5_round 18 = .ok (.if_icmp .gt 9, 3) := by decide +kernel
theorem dX5_round_21 : decode cX5_round 21 = .ok (.lload_n 3, 1) := by decide +kernel
theorem dX5_round_22 : decode cX5_round 22 = .ok (.lconst 1, 1) := by decide +kernel
theorem dX5_round_23 : decode cX5_round 23 = .ok (.lcmp, 1) := by decide +kernel
theorem dX5_round_24 : decode cX5_round 24 = .ok (.ifCond .ge 7, 3) := by decide +kernel
theorem dX5_round_27 : decode cX5_round 27 = .ok (.iconst 2, 1) := by decide +kernel
theorem dX5_round_28 : decode cX5_round 28 = .ok (.goto 4, 3) := by decide +kernel
theorem dX5_round_31 : decode cX5_round 31 = .ok (.iconst 0, 1) := by decide +kernel
theorem dX5_round_32 : decode cX5_round 32 = .ok (.putfield 33, 3) := by decide +kernel
theorem dX5_round_35 : decode cX5_round 35 = .ok (.aload_n 0, 1) := by decide +kernel
theorem dX5_round_36 : decode cX5_round 36 = .ok (.getfield 33, 3) := by decide +kernel
theorem dX5_round_39 : decode cX5_round 39 = .ok (.ifCond .le 5, 3) := by decide +kernel
theorem dX5_round_42 : decode cX5_round 42 = .ok (.iconst 0, 1) := by decide +kernel
theorem dX5_round_43 : decode cX5_round 43 = .ok (.ireturn, 1) := by decide +kernel
theorem dX5_round_44 : decode cX5_round 44 = .ok (.aload_n 0, 1) := by decide +kernel
theorem dX5_round_45 : decode cX5_round 45 = .ok (.iload_n 1, 1) := by decide +kernel
theorem dX5_round_46 : decode cX5_round 46 = .ok (.iload_n 1, 1) := by decide +kernel
theorem dX5_round_47 : decode cX5_round 47 = .ok (.bipush 16, 2) := by decide +kernel
theorem dX5_round_49 : decode cX5_round 49 = .ok (.invokevirtual 94, 3) := by decide +kernel
theorem dX5_round_52 : decode cX5_round 52 = .ok (.aload_n 0, 1) := by decide +kernel
theorem dX5_round_53 : decode cX5_round 53 = .ok (.iload_n 1, 1) := by decide +kernel
theorem dX5_round_54 : decode cX5_round 54 = .ok (.iconst 0, 1) := by decide +kernel
theorem dX5_round_55 : decode cX5_round 55 = .ok (.iconst 1, 1) := by decide +kernel
theorem dX5_round_56 : decode cX5_round 56 = .ok (.invokevirtual 98, 3) := by decide +kernel
theorem dX5_round_59 : decode cX5_round 59 = .ok (.aload_n 0, 1) := by decide +kernel
theorem dX5_round_60 : decode cX5_round 60 = .ok (.iconst 2, 1) := by decide +kernel
theorem dX5_round_61 : decode cX5_round 61 = .ok (.lload_n 3, 1) := by decide +kernel
theorem dX5_round_62 : decode cX5_round 62 = .ok (.invokevirtual 36, 3) := by decide +kernel
theorem dX5_round_65 : decode cX5_round 65 = .ok (.aload_n 0, 1) := by decide +kernel
theorem dX5_round_66 : decode cX5_round 66 = .ok (.iconst 1, 1) := by decide +kernel
theorem dX5_round_67 : decode cX5_round 67 = .ok (.iconst 2, 1) := by decide +kernel
theorem dX5_round_68 : decode cX5_round 68 = .ok (.iconst 3, 1) := by decide +kernel
theorem dX5_round_69 : decode cX5_round 69 = .ok (.invokevirtual 101, 3) := by decide +kernel
theorem dX5_round_72 : decode cX5_round 72 = .ok (.aload_n 0, 1) := by decide +kernel
theorem dX5_round_73 : decode cX5_round 73 = .ok (.iconst 0, 1) := by decide +kernel
theorem dX5_round_74 : decode cX5_round 74 = .ok (.iconst 3, 1) := by decide +kernel
theorem dX5_round_75 : decode cX5_round 75 = .ok (.iconst 4, 1) := by decide +kernel
theorem dX5_round_76 : decode cX5_round 76 = .ok (.iconst 5, 1) := by decide +kernel
theorem dX5_round_77 : decode cX5_round 77 = .ok (.invokevirtual 80, 3) := by decide +kernel
theorem dX5_round_80 : decode cX5_round 80 = .ok (.aload_n 0, 1) := by decide +kernel
theorem dX5_round_81 : decode cX5_round 81 = .ok (.iconst 5, 1) := by decide +kernel
theorem dX5_round_82 : decode cX5_round 82 = .ok (.invokevirtual 58, 3) := by decide +kernel
theorem dX5_round_85 : decode cX5_round 85 = .ok (.ifCond .ne 7, 3) := by decide +kernel
theorem dX5_round_88 : decode cX5_round 88 = .ok (.iconst 1, 1) := by decide +kernel
theorem dX5_round_89 : decode cX5_round 89 = .ok (.goto 4, 3) := by decide +kernel
theorem dX5_round_92 : decode cX5_round 92 = .ok (.iconst 0, 1) := by decide +kernel
theorem dX5_round_93 : decode cX5_round 93 = .ok (.istore 5, 2) := by decide +kernel
theorem dX5_round_95 : decode cX5_round 95 = .ok (.aload_n 0, 1) := by decide +kernel
theorem dX5_round_96 : decode cX5_round 96 = .ok (.iconst 5, 1) := by decide +kernel
theorem dX5_round_97 : decode cX5_round 97 = .ok (.invokevirtual 46, 3) := by decide +kernel
theorem dX5_round_100 : decode cX5_round 100 = .ok (.aload_n 0, 1) := by decide +kernel
theorem dX5_round_101 : decode cX5_round 101 = .ok (.iconst 5, 1) := by decide +kernel
theorem dX5_round_102 : decode cX5_round 102 = .ok (.iconst 3, 1) := by decide +kernel
theorem dX5_round_103 : decode cX5_round 103 = .ok (.invokevirtual 50, 3) := by decide +kernel
theorem dX5_round_106 : decode cX5_round 106 = .ok (.istore 6, 2) := by decide +kernel
theorem dX5_round_108 : decode cX5_round 108 = .ok (.aload_n 0, 1) := by decide +kernel
theorem dX5_round_109 : decode cX5_round 109 = .ok (.getfield 17, 3) := by decide +kernel
theorem dX5_round_112 : decode cX5_round 112 = .ok (.iload_n 1, 1) := by decide +kernel
theorem dX5_round_113 : decode cX5_round 113 = .ok (.iaload, 1) := by decide +kernel
theorem dX5_round_114 : decode cX5_round 114 = .ok (.ifCond .ge 7, 3) := by decide +kernel
theorem dX5_round_117 : decode cX5_round 117 = .ok (.iconst 1, 1) := by decide +kernel
theorem dX5_round_118 : decode cX5_round 118 = .ok (.goto 4, 3) := by decide +kernel
theorem dX5_round_121 : decode cX5_round 121 = .ok (.iconst 0, 1) := by decide +kernel
theorem dX5_round_122 : decode cX5_round 122 = .ok (.istore 7, 2) := by decide +kernel
theorem dX5_round_124 : decode cX5_round 124 = .ok (.aload_n 0, 1) := by decide +kernel
theorem dX5_round_125 : decode cX5_round 125 = .ok (.iconst 4, 1) := by decide +kernel
theorem dX5_round_126 : decode cX5_round 126 = .ok (.invokevirtual 65, 3) := by decide +kernel
theorem dX5_round_129 : decode cX5_round 129 = .ok (.ifCond .ne 7, 3) := by decide +kernel
theorem dX5_round_132 : decode cX5_round 132 = .ok (.iconst 1, 1) := by decide +kernel
theorem dX5_round_133 : decode cX5_round 133 = .ok (.goto 4, 3) := by decide +kernel
theorem dX5_round_136 : decode cX5_round 136 = .ok (.iconst 0, 1) := by decide +kernel
theorem dX5_round_137 : decode cX5_round 137 = .ok (.istore 8, 2) := by decide +kernel
theorem dX5_round_139 : decode cX5_round 139 = .ok (.iload_n 2, 1) := by decide +kernel
theorem dX5_round_140 : decode cX5_round 140 = .ok (.ifCond .ne 21, 3) := by decide +kernel
theorem dX5_round_143 : decode cX5_round 143 = .ok (.iload 7, 2) := by decide +kernel
theorem dX5_round_145 : decode cX5_round 145 = .ok (.ifCond .eq 12, 3) := by decide +kernel
theorem dX5_round_148 : decode cX5_round 148 = .ok (.iload 5, 2) := by decide +kernel
theorem dX5_round_150 : decode cX5_round 150 = .ok (.ifCond .eq 7, 3) := by decide +kernel
theorem dX5_round_153 : decode cX5_round 153 = .ok (.iconst 1, 1) := by decide +kernel
theorem dX5_round_154 : decode cX5_round 154 = .ok (.goto 63, 3) := by decide +kernel
theorem dX5_round_157 : decode cX5_round 157 = .ok (.iconst 0, 1) := by decide +kernel
theorem dX5_round_158 : decode cX5_round 158 = .ok (.goto 59, 3) := by decide +kernel
theorem dX5_round_161 : decode cX5_round 161 = .ok (.iload_n 2, 1) := by decide +kernel
theorem dX5_round_162 : decode cX5_round 162 = .ok (.iconst 1, 1) := by decide +kernel
theorem dX5_round_163 : decode cX5_round 163 = .ok (.if_icmp .ne 21, 3) := by decide +kernel
theorem dX5_round_166 : decode cX5_round 166 = .ok (.iload 7, 2) := by decide +kernel
theorem dX5_round_168 : decode cX5_round 168 = .ok (.ifCond .ne 12, 3) := by decide +kernel
theorem dX5_round_171 : decode cX5_round 171 = .ok (.iload 5, 2) := by decide +kernel
theorem dX5_round_173 : decode cX5_round 173 = .ok (.ifCond .eq 7, 3) := by decide +kernel
theorem dX5_round_176 : decode cX5_round 176 = .ok (.iconst 1, 1) := by decide +kernel
theorem dX5_round_177 : decode cX5_round 177 = .ok (.goto 40, 3) := by decide +kernel
theorem dX5_round_180 : decode cX5_round 180 = .ok (.iconst 0, 1) := by decide +kernel
theorem dX5_round_181 : decode cX5_round 181 = .ok (.goto 36, 3) := by decide +kernel
theorem dX5_round_184 : decode cX5_round 184 = .ok (.iload 6, 2) := by decide +kernel
theorem dX5_round_186 : decode cX5_round 186 = .ok (.ifCond .gt 26, 3) := by decide +kernel
theorem dX5_round_189 : decode cX5_round 189 = .ok (.iload 6, 2) := by decide +kernel
theorem dX5_round_191 : decode cX5_round 191 = .ok (.ifCond .ne 25, 3) := by decide +kernel
theorem dX5_round_194 : decode cX5_round 194 = .ok (.iload_n 2, 1) := by decide +kernel
theorem dX5_round_195 : decode cX5_round 195 = .ok (.iconst 2, 1) := by decide +kernel
theorem dX5_round_196 : decode cX5_round 196 = .ok (.if_icmp .ne 11, 3) := by decide +kernel
theorem dX5_round_199 : decode cX5_round 199 = .ok (.iload 7, 2) := by decide +kernel
theorem dX5_round_201 : decode cX5_round 201 = .ok (.ifCond .ne 15, 3) := by decide +kernel
theorem dX5_round_204 : decode cX5_round 204 = .ok (.goto 8, 3) := by decide +kernel
theorem dX5_round_207 : decode cX5_round 207 = .ok (.iload 8, 2) := by decide +kernel
theorem dX5_round_209 : decode cX5_round 209 = .ok (.ifCond .eq 7, 3) := by decide +kernel
theorem dX5_round_212 : decode cX5_round 212 = .ok (.iconst 1, 1) := by decide +kernel
theorem dX5_round_213 : decode cX5_round 213 = .ok (.goto 4, 3) := by decide +kernel
theorem dX5_round_216 : decode cX5_round 216 = .ok (.iconst 0, 1) := by decide +kernel
theorem dX5_round_217 : decode cX5_round 217 = .ok (.istore 9, 2) := by decide +kernel
theorem dX5_round_219 : decode cX5_round 219 = .ok (.iload 9, 2) := by decide +kernel
theorem dX5_round_221 : decode cX5_round 221 = .ok (.ifCond .eq 15, 3) := by decide +kernel
theorem dX5_round_224 : decode cX5_round 224 = .ok (.aload_n 0, 1) := by decide +kernel
theorem dX5_round_225 : decode cX5_round 225 = .ok (.iconst 5, 1) := by decide +kernel
theorem dX5_round_226 : decode cX5_round 226 = .ok (.lconst 1, 1) := by decide +kernel
theorem dX5_round_227 : decode cX5_round 227 = .ok (.invokevirtual 36, 3) := by decide +kernel
theorem dX5_round_230 : decode cX5_round 230 = .ok (.aload_n 0, 1) := by decide +kernel
theorem dX5_round_231 : decode cX5_round 231 = .ok (.iconst 4, 1) := by decide +kernel
theorem dX5_round_232 : decode cX5_round 232 = .ok (.iconst 5, 1) := by decide +kernel
theorem dX5_round_233 : decode cX5_round 233 = .ok (.invokevirtual 104, 3) := by decide +kernel
theorem dX5_round_236 : decode cX5_round 236 = .ok (.aload_n 0, 1) := by decide +kernel
theorem dX5_round_237 : decode cX5_round 237 = .ok (.iconst 4, 1) := by decide +kernel
theorem dX5_round_238 : decode cX5_round 238 = .ok (.iconst 2, 1) := by decide +kernel
theorem dX5_round_239 : decode cX5_round 239 = .ok (.iconst 5, 1) := by decide +kernel
theorem dX5_round_240 : decode cX5_round 240 = .ok (.invokevirtual 101, 3) := by decide +kernel
theorem dX5_round_243 : decode cX5_round 243 = .ok (.aload_n 0, 1) := by decide +kernel
theorem dX5_round_244 : decode cX5_round 244 = .ok (.iconst 3, 1) := by decide +kernel
theorem dX5_round_245 : decode cX5_round 245 = .ok (.lconst 1, 1) := by decide +kernel
theorem dX5_round_246 : decode cX5_round 246 = .ok (.invokevirtual 36, 3) := by decide +kernel
theorem dX5_round_249 : decode cX5_round 249 = .ok (.aload_n 0, 1) := by decide +kernel
theorem dX5_round_250 : decode cX5_round 250 = .ok (.aload_n 0, 1) := by decide +kernel
theorem dX5_round_251 : decode cX5_round 251 = .ok (.getfield 17, 3) := by decide +kernel
theorem dX5_round_254 : decode cX5_round 254 = .ok (.iload_n 1, 1) := by decide +kernel
theorem dX5_round_255 : decode cX5_round 255 = .ok (.iaload, 1) := by decide +kernel
theorem dX5_round_256 : decode cX5_round 256 = .ok (.iconst 5, 1) := by decide +kernel
theorem dX5_round_257 : decode cX5_round 257 = .ok (.iconst 3, 1) := by decide +kernel
theorem dX5_round_258 : decode cX5_round 258 = .ok (.invokevirtual 87, 3) := by decide +kernel
theorem dX5_round_261 : decode cX5_round 261 = .ok (.ireturn, 1) := by decide +kernel
theorem dX5_length_0 : decode cX5_length 0 = .ok (.iload_n 0, 1) := by decide +kernel
theorem dX5_length_1 : decode cX5_length 1 = .ok (.ifCond .ne 9, 3) := by decide +kernel
theorem dX5_length_4 : decode cX5_length 4 = .ok (.ldc2_w 113, 3) := by decide +kernel
theorem dX5_length_7 : decode cX5_length 7 = .ok (.goto 50, 3) := by decide +kernel
theorem dX5_length_10 : decode cX5_length 10 = .ok (.iload_n 0, 1) := by decide +kernel
theorem dX5_length_11 : decode cX5_length 11 = .ok (.iconst 1, 1) := by decide +kernel
theorem dX5_length_12 : decode cX5_length 12 = .ok (.if_icmp .ne 9, 3) := by decide +kernel
theorem dX5_length_15 : decode cX5_length 15 = .ok (.ldc2_w 115, 3) := by decide +kernel
theorem dX5_length_18 : decode cX5_length 18 = .ok (.goto 39, 3) := by decide +kernel
theorem dX5_length_21 : decode cX5_length 21 = .ok (.iload_n 0, 1) := by decide +kernel
theorem dX5_length_22 : decode cX5_length 22 = .ok (.iconst 2, 1) := by decide +kernel
theorem dX5_length_23 : decode cX5_length 23 = .ok (.if_icmp .ne 9, 3) := by decide +kernel
theorem dX5_length_26 : decode cX5_length 26 = .ok (.ldc2_w 117, 3) := by decide +kernel
theorem dX5_length_29 : decode cX5_length 29 = .ok (.goto 28, 3) := by decide +kernel
theorem dX5_length_32 : decode cX5_length 32 = .ok (.iload_n 0, 1) := by decide +kernel
theorem dX5_length_33 : decode cX5_length 33 = .ok (.iconst 3, 1) := by decide +kernel
theorem dX5_length_34 : decode cX5_length 34 = .ok (.if_icmp .ne 9, 3) := by decide +kernel
theorem dX5_length_37 : decode cX5_length 37 = .ok (.ldc2_w 119, 3) := by decide +kernel
theorem dX5_length_40 : decode cX5_length 40 = .ok (.goto 17, 3) := by decide +kernel
theorem dX5_length_43 : decode cX5_length 43 = .ok (.iload_n 0, 1) := by decide +kernel
theorem dX5_length_44 : decode cX5_length 44 = .ok (.iconst 4, 1) := by decide +kernel
theorem dX5_length_45 : decode cX5_length 45 = .ok (.if_icmp .ne 9, 3) := by decide +kernel
theorem dX5_length_48 : decode cX5_length 48 = .ok (.ldc2_w 121, 3) := by decide +kernel
theorem dX5_length_51 : decode cX5_length 51 = .ok (.goto 6, 3) := by decide +kernel
theorem dX5_length_54 : decode cX5_length 54 = .ok (.ldc2_w 123, 3) := by decide +kernel
theorem dX5_length_57 : decode cX5_length 57 = .ok (.lreturn, 1) := by decide +kernel
theorem dX5_turn_0 : decode cX5_turn 0 = .ok (.aload_n 0, 1) := by decide +kernel
theorem dX5_turn_1 : decode cX5_turn 1 = .ok (.iload_n 1, 1) := by decide +kernel
theorem dX5_turn_2 : decode cX5_turn 2 = .ok (.invokestatic 91, 3) := by decide +kernel
theorem dX5_turn_5 : decode cX5_turn 5 = .ok (.ifCond .ne 21, 3) := by decide +kernel
theorem dX5_turn_8 : decode cX5_turn 8 = .ok (.iload_n 2, 1) := by decide +kernel
theorem dX5_turn_9 : decode cX5_turn 9 = .ok (.ifCond .lt 17, 3) := by decide +kernel
theorem dX5_turn_12 : decode cX5_turn 12 = .ok (.iload_n 2, 1) := by decide +kernel
theorem dX5_turn_13 : decode cX5_turn 13 = .ok (.iconst 5, 1) := by decide +kernel
theorem dX5_turn_14 : decode cX5_turn 14 = .ok (.if_icmp .gt 12, 3) := by decide +kernel
theorem dX5_turn_17 : decode cX5_turn 17 = .ok (.iload_n 3, 1) := by decide +kernel
theorem dX5_turn_18 : decode cX5_turn 18 = .ok (.ifCond .lt 8, 3) := by decide +kernel
theorem dX5_turn_21 : decode cX5_turn 21 = .ok (.iload_n 3, 1) := by decide +kernel
theorem dX5_turn_22 : decode cX5_turn 22 = .ok (.iconst 5, 1) := by decide +kernel
theorem dX5_turn_23 : decode cX5_turn 23 = .ok (.if_icmp .le 7, 3) := by decide +kernel
theorem dX5_turn_26 : decode cX5_turn 26 = .ok (.iconst 1, 1) := by decide +kernel
theorem dX5_turn_27 : decode cX5_turn 27 = .ok (.goto 4, 3) := by decide +kernel
theorem dX5_turn_30 : decode cX5_turn 30 = .ok (.iconst 0, 1) := by decide +kernel
theorem dX5_turn_31 : decode cX5_turn 31 = .ok (.putfield 33, 3) := by decide +kernel
theorem dX5_turn_34 : decode cX5_turn 34 = .ok (.aload_n 0, 1) := by decide +kernel
theorem dX5_turn_35 : decode cX5_turn 35 = .ok (.getfield 33, 3) := by decide +kernel
theorem dX5_turn_38 : decode cX5_turn 38 = .ok (.ifCond .le 5, 3) := by decide +kernel
theorem dX5_turn_41 : decode cX5_turn 41 = .ok (.iconst 0, 1) := by decide +kernel
theorem dX5_turn_42 : decode cX5_turn 42 = .ok (.ireturn, 1) := by decide +kernel
theorem dX5_turn_43 : decode cX5_turn 43 = .ok (.aload_n 0, 1) := by decide +kernel
theorem dX5_turn_44 : decode cX5_turn 44 = .ok (.iload_n 1, 1) := by decide +kernel
theorem dX5_turn_45 : decode cX5_turn 45 = .ok (.iload_n 1, 1) := by decide +kernel
theorem dX5_turn_46 : decode cX5_turn 46 = .ok (.bipush 8, 2) := by decide +kernel
theorem dX5_turn_48 : decode cX5_turn 48 = .ok (.invokevirtual 94, 3) := by decide +kernel
theorem dX5_turn_51 : decode cX5_turn 51 = .ok (.aload_n 0, 1) := by decide +kernel
theorem dX5_turn_52 : decode cX5_turn 52 = .ok (.iload_n 1, 1) := by decide +kernel
theorem dX5_turn_53 : decode cX5_turn 53 = .ok (.iconst 0, 1) := by decide +kernel
theorem dX5_turn_54 : decode cX5_turn 54 = .ok (.iconst 1, 1) := by decide +kernel
theorem dX5_turn_55 : decode cX5_turn 55 = .ok (.invokevirtual 98, 3) := by decide +kernel
theorem dX5_turn_58 : decode cX5_turn 58 = .ok (.aload_n 0, 1) := by decide +kernel
theorem dX5_turn_59 : decode cX5_turn 59 = .ok (.iconst 2, 1) := by decide +kernel
theorem dX5_turn_60 : decode cX5_turn 60 = .ok (.iload_n 2, 1) := by decide +kernel
theorem dX5_turn_61 : decode cX5_turn 61 = .ok (.invokestatic 125, 3) := by decide +kernel
theorem dX5_turn_64 : decode cX5_turn 64 = .ok (.invokevirtual 36, 3) := by decide +kernel
theorem dX5_turn_67 : decode cX5_turn 67 = .ok (.aload_n 0, 1) := by decide +kernel
theorem dX5_turn_68 : decode cX5_turn 68 = .ok (.iconst 3, 1) := by decide +kernel
theorem dX5_turn_69 : decode cX5_turn 69 = .ok (.iload_n 3, 1) := by decide +kernel
theorem dX5_turn_70 : decode cX5_turn 70 = .ok (.invokestatic 125, 3) := by decide +kernel
theorem dX5_turn_73 : decode cX5_turn 73 = .ok (.invokevirtual 36, 3) := by decide +kernel
theorem dX5_turn_76 : decode cX5_turn 76 = .ok (.aload_n 0, 1) := by decide +kernel
theorem dX5_turn_77 : decode cX5_turn 77 = .ok (.iconst 0, 1) := by decide +kernel
theorem dX5_turn_78 : decode cX5_turn 78 = .ok (.iconst 2, 1) := by decide +kernel
theorem dX5_turn_79 : decode cX5_turn 79 = .ok (.iconst 4, 1) := by decide +kernel
theorem dX5_turn_80 : decode cX5_turn 80 = .ok (.invokevirtual 101, 3) := by decide +kernel
theorem dX5_turn_83 : decode cX5_turn 83 = .ok (.aload_n 0, 1) := by decide +kernel
theorem dX5_turn_84 : decode cX5_turn 84 = .ok (.iconst 1, 1) := by decide +kernel
theorem dX5_turn_85 : decode cX5_turn 85 = .ok (.iconst 3, 1) := by decide +kernel
theorem dX5_turn_86 : decode cX5_turn 86 = .ok (.iconst 5, 1) := by decide +kernel
theorem dX5_turn_87 : decode cX5_turn 87 = .ok (.invokevirtual 101, 3) := by decide +kernel
theorem dX5_turn_90 : decode cX5_turn 90 = .ok (.aload_n 0, 1) := by decide +kernel
theorem dX5_turn_91 : decode cX5_turn 91 = .ok (.aload_n 0, 1) := by decide +kernel
theorem dX5_turn_92 : decode cX5_turn 92 = .ok (.getfield 17, 3) := by decide +kernel
theorem dX5_turn_95 : decode cX5_turn 95 = .ok (.iload_n 1, 1) := by decide +kernel
theorem dX5_turn_96 : decode cX5_turn 96 = .ok (.iaload, 1) := by decide +kernel
theorem dX5_turn_97 : decode cX5_turn 97 = .ok (.iconst 4, 1) := by decide +kernel
theorem dX5_turn_98 : decode cX5_turn 98 = .ok (.iconst 5, 1) := by decide +kernel
theorem dX5_turn_99 : decode cX5_turn 99 = .ok (.invokevirtual 87, 3) := by decide +kernel
theorem dX5_turn_102 : decode cX5_turn 102 = .ok (.ireturn, 1) := by decide +kernel
theorem dX5_weight_0 : decode cX5_weight 0 = .ok (.aload_n 0, 1) := by decide +kernel
theorem dX5_weight_1 : decode cX5_weight 1 = .ok (.iconst 0, 1) := by decide +kernel
theorem dX5_weight_2 : decode cX5_weight 2 = .ok (.putfield 33, 3) := by decide +kernel
theorem dX5_weight_5 : decode cX5_weight 5 = .ok (.aload_n 0, 1) := by decide +kernel
theorem dX5_weight_6 : decode cX5_weight 6 = .ok (.getfield 129, 3) := by decide +kernel
theorem dX5_weight_9 : decode cX5_weight 9 = .ok (.bipush 32, 2) := by decide +kernel
theorem dX5_weight_11 : decode cX5_weight 11 = .ok (.if_icmp .eq 17, 3) := by decide +kernel
theorem dX5_weight_14 : decode cX5_weight 14 = .ok (.lload_n 1, 1) := by decide +kernel
theorem dX5_weight_15 : decode cX5_weight 15 = .ok (.lconst 0, 1) := by decide +kernel
theorem dX5_weight_16 : decode cX5_weight 16 = .ok (.lcmp, 1) := by decide +kernel
theorem dX5_weight_17 : decode cX5_weight 17 = .ok (.ifCond .lt 11, 3) := by decide +kernel
theorem dX5_weight_20 : decode cX5_weight 20 = .ok (.lload_n 1, 1) := by decide +kernel
theorem dX5_weight_21 : decode cX5_weight 21 = .ok (.ldc2_w 132, 3) := by decide +kernel
theorem dX5_weight_24 : decode cX5_weight 24 = .ok (.lcmp, 1) := by decide +kernel
theorem dX5_weight_25 : decode cX5_weight 25 = .ok (.ifCond .le 5, 3) := by decide +kernel
theorem dX5_weight_28 : decode cX5_weight 28 = .ok (.iconst 0, 1) := by decide +kernel
theorem dX5_weight_29 : decode cX5_weight 29 = .ok (.ireturn, 1) := by decide +kernel
theorem dX5_weight_30 : decode cX5_weight 30 = .ok (.aload_n 0, 1) := by decide +kernel
theorem dX5_weight_31 : decode cX5_weight 31 = .ok (.getfield 29, 3) := by decide +kernel
theorem dX5_weight_34 : decode cX5_weight 34 = .ok (.aload_n 0, 1) := by decide +kernel
theorem dX5_weight_35 : decode cX5_weight 35 = .ok (.getfield 129, 3) := by decide +kernel
theorem dX5_weight_38 : decode cX5_weight 38 = .ok (.lload_n 1, 1) := by decide +kernel
theorem dX5_weight_39 : decode cX5_weight 39 = .ok (.lastore, 1) := by decide +kernel
theorem dX5_weight_40 : decode cX5_weight 40 = .ok (.aload_n 0, 1) := by decide +kernel
theorem dX5_weight_41 : decode cX5_weight 41 = .ok (.dup, 1) := by decide +kernel
theorem dX5_weight_42 : decode cX5_weight 42 = .ok (.getfield 129, 3) := by decide +kernel
theorem dX5_weight_45 : decode cX5_weight 45 = .ok (.iconst 1, 1) := by decide +kernel
theorem dX5_weight_46 : decode cX5_weight 46 = .ok (.iadd, 1) := by decide +kernel
theorem dX5_weight_47 : decode cX5_weight 47 = .ok (.putfield 129, 3) := by decide +kernel
theorem dX5_weight_50 : decode cX5_weight 50 = .ok (.iconst 1, 1) := by decide +kernel
theorem dX5_weight_51 : decode cX5_weight 51 = .ok (.ireturn, 1) := by decide +kernel
theorem dX5_clearWeights_0 : decode cX5_clearWeights 0 = .ok (.aload_n 0, 1) := by decide +kernel
theorem dX5_clearWeights_1 : decode cX5_clearWeights 1 = .ok (.iconst 0, 1) := by decide +kernel
theorem dX5_clearWeights_2 : decode cX5_clearWeights 2 = .ok (.putfield 33, 3) := by decide +kernel
theorem dX5_clearWeights_5 : decode cX5_clearWeights 5 = .ok (.aload_n 0, 1) := by decide +kernel
theorem dX5_clearWeights_6 : decode cX5_clearWeights 6 = .ok (.iconst 0, 1) := by decide +kernel
theorem dX5_clearWeights_7 : decode cX5_clearWeights 7 = .ok (.putfield 129, 3) := by decide +kernel
theorem dX5_clearWeights_10 : decode cX5_clearWeights 10 = .ok (.iconst 0, 1) := by decide +kernel
theorem dX5_clearWeights_11 : decode cX5_clearWeights 11 = .ok (.istore_n 1, 1) := by decide +kernel
theorem dX5_clearWeights_12 : decode cX5_clearWeights 12 = .ok (.iload_n 1, 1) := by decide +kernel
theorem dX5_clearWeights_13 : decode cX5_clearWeights 13 = .ok (.bipush 32, 2) := by decide +kernel
theorem dX5_clearWeights_15 : decode cX5_clearWeights 15 = .ok (.if_icmp .ge 16, 3) := by decide +kernel
theorem dX5_clearWeights_18 : decode cX5_clearWeights 18 = .ok (.aload_n 0, 1) := by decide +kernel
theorem dX5_clearWeights_19 : decode cX5_clearWeights 19 = .ok (.getfield 29, 3) := by decide +kernel
theorem dX5_clearWeights_22 : decode cX5_clearWeights 22 = .ok (.iload_n 1, 1) := by decide +kernel
theorem dX5_clearWeights_23 : decode cX5_clearWeights 23 = .ok (.lconst 0, 1) := by decide +kernel
theorem dX5_clearWeights_24 : decode cX5_clearWeights 24 = .ok (.lastore, 1) := by decide +kernel
theorem dX5_clearWeights_25 : decode cX5_clearWeights 25 = .ok (.iinc 1 1, 3) := by decide +kernel
theorem dX5_clearWeights_28 : decode cX5_clearWeights 28 = .ok (.goto (-16), 3) := by decide +kernel
theorem dX5_clearWeights_31 : decode cX5_clearWeights 31 = .ok (.return_, 1) := by decide +kernel
theorem dX5_share_0 : decode cX5_share 0 = .ok (.lconst 0, 1) := by decide +kernel
theorem dX5_share_1 : decode cX5_share 1 = .ok (.lstore 4, 2) := by decide +kernel
theorem dX5_share_3 : decode cX5_share 3 = .ok (.iconst 0, 1) := by decide +kernel
theorem dX5_share_4 : decode cX5_share 4 = .ok (.istore 6, 2) := by decide +kernel
theorem dX5_share_6 : decode cX5_share 6 = .ok (.iload 6, 2) := by decide +kernel
theorem dX5_share_8 : decode cX5_share 8 = .ok (.bipush 32, 2) := by decide +kernel
theorem dX5_share_10 : decode cX5_share 10 = .ok (.if_icmp .ge 21, 3) := by decide +kernel
theorem dX5_share_13 : decode cX5_share 13 = .ok (.lload 4, 2) := by decide +kernel
theorem dX5_share_15 : decode cX5_share 15 = .ok (.aload_n 0, 1) := by decide +kernel
theorem dX5_share_16 : decode cX5_share 16 = .ok (.getfield 29, 3) := by decide +kernel
theorem dX5_share_19 : decode cX5_share 19 = .ok (.iload 6, 2) := by decide +kernel
theorem dX5_share_21 : decode cX5_share 21 = .ok (.laload, 1) := by decide +kernel
theorem dX5_share_22 : decode cX5_share 22 = .ok (.ladd, 1) := by decide +kernel
theorem dX5_share_23 : decode cX5_share 23 = .ok (.lstore 4, 2) := by decide +kernel
theorem dX5_share_25 : decode cX5_share 25 = .ok (.iinc 6 1, 3) := by decide +kernel
theorem dX5_share_28 : decode cX5_share 28 = .ok (.goto (-22), 3) := by decide +kernel
theorem dX5_share_31 : decode cX5_share 31 = .ok (.aload_n 0, 1) := by decide +kernel
theorem dX5_share_32 : decode cX5_share 32 = .ok (.iload_n 3, 1) := by decide +kernel
theorem dX5_share_33 : decode cX5_share 33 = .ok (.ifCond .lt 9, 3) := by decide +kernel
theorem dX5_share_36 : decode cX5_share 36 = .ok (.iload_n 3, 1) := by decide +kernel
theorem dX5_share_37 : decode cX5_share 37 = .ok (.bipush 32, 2) := by decide +kernel
theorem dX5_share_39 : decode cX5_share 39 = .ok (.if_icmp .lt 7, 3) := by decide +kernel
theorem dX5_share_42 : decode cX5_share 42 = .ok (.iconst 1, 1) := by decide +kernel
theorem dX5_share_43 : decode cX5_share 43 = .ok (.goto 33, 3) := by decide +kernel
theorem dX5_share_46 : decode cX5_share 46 = .ok (.lload_n 1, 1) := by decide +kernel
theorem dX5_share_47 : decode cX5_share 47 = .ok (.lconst 0, 1) := by decide +kernel
theorem dX5_share_48 : decode cX5_share 48 = .ok (.lcmp, 1) := by decide +kernel
theorem dX5_share_49 : decode cX5_share 49 = .ok (.ifCond .lt 11, 3) := by decide +kernel
theorem dX5_share_52 : decode cX5_share 52 = .ok (.lload_n 1, 1) := by decide +kernel
theorem dX5_share_53 : decode cX5_share 53 = .ok (.ldc2_w 132, 3) := by decide +kernel
theorem dX5_share_56 : decode cX5_share 56 = .ok (.lcmp, 1) := by decide +kernel
theorem dX5_share_57 : decode cX5_share 57 = .ok (.ifCond .le 7, 3) := by decide +kernel
theorem dX5_share_60 : decode cX5_share 60 = .ok (.iconst 2, 1) := by decide +kernel
theorem dX5_share_61 : decode cX5_share 61 = .ok (.goto 15, 3) := by decide +kernel
theorem dX5_share_64 : decode cX5_share 64 = .ok (.lload 4, 2) := by decide +kernel
theorem dX5_share_66 : decode cX5_share 66 = .ok (.lconst 0, 1) := by decide +kernel
theorem dX5_share_67 : decode cX5_share 67 = .ok (.lcmp, 1) := by decide +kernel
theorem dX5_share_68 : decode cX5_share 68 = .ok (.ifCond .ne 7, 3) := by decide +kernel
theorem dX5_share_71 : decode cX5_share 71 = .ok (.iconst 3, 1) := by decide +kernel
theorem dX5_share_72 : decode cX5_share 72 = .ok (.goto 4, 3) := by decide +kernel
theorem dX5_share_75 : decode cX5_share 75 = .ok (.iconst 0, 1) := by decide +kernel
theorem dX5_share_76 : decode cX5_share 76 = .ok (.putfield 33, 3) := by decide +kernel
theorem dX5_share_79 : decode cX5_share 79 = .ok (.aload_n 0, 1) := by decide +kernel
theorem dX5_share_80 : decode cX5_share 80 = .ok (.getfield 33, 3) := by decide +kernel
theorem dX5_share_83 : decode cX5_share 83 = .ok (.ifCond .le 5, 3) := by decide +kernel
theorem dX5_share_86 : decode cX5_share 86 = .ok (.lconst 0, 1) := by decide +kernel
theorem dX5_share_87 : decode cX5_share 87 = .ok (.lreturn, 1) := by decide +kernel
theorem dX5_share_88 : decode cX5_share 88 = .ok (.lload_n 1, 1) := by decide +kernel
theorem dX5_share_89 : decode cX5_share 89 = .ok (.lstore 6, 2) := by decide +kernel
theorem dX5_share_91 : decode cX5_share 91 = .ok (.iconst 0, 1) := by decide +kernel
theorem dX5_share_92 : decode cX5_share 92 = .ok (.istore 8, 2) := by decide +kernel
theorem dX5_share_94 : decode cX5_share 94 = .ok (.lload_n 1, 1) := by decide +kernel
theorem dX5_share_95 : decode cX5_share 95 = .ok (.aload_n 0, 1) := by decide +kernel
theorem dX5_share_96 : decode cX5_share 96 = .ok (.getfield 29, 3) := by decide +kernel
theorem dX5_share_99 : decode cX5_share 99 = .ok (.iload_n 3, 1) := by decide +kernel
theorem dX5_share_100 : decode cX5_share 100 = .ok (.laload, 1) := by decide +kernel
theorem dX5_share_101 : decode cX5_share 101 = .ok (.lmul, 1) := by decide +kernel
theorem dX5_share_102 : decode cX5_share 102 = .ok (.lload 4, 2) := by decide +kernel
theorem dX5_share_104 : decode cX5_share 104 = .ok (.lrem, 1) := by decide +kernel
theorem dX5_share_105 : decode cX5_share 105 = .ok (.lstore 9, 2) := by decide +kernel
theorem dX5_share_107 : decode cX5_share 107 = .ok (.iconst 0, 1) := by decide +kernel
theorem dX5_share_108 : decode cX5_share 108 = .ok (.istore 11, 2) := by decide +kernel
theorem dX5_share_110 : decode cX5_share 110 = .ok (.iload 11, 2) := by decide +kernel
theorem dX5_share_112 : decode cX5_share 112 = .ok (.bipush 32, 2) := by decide +kernel
theorem dX5_share_114 : decode cX5_share 114 = .ok (.if_icmp .ge 73, 3) := by decide +kernel
theorem dX5_share_117 : decode cX5_share 117 = .ok (.lload_n 1, 1) := by decide +kernel
theorem dX5_share_118 : decode cX5_share 118 = .ok (.aload_n 0, 1) := by decide +kernel
theorem dX5_share_119 : decode cX5_share 119 = .ok (.getfield 29, 3) := by decide +kernel
theorem dX5_share_122 : decode cX5_share 122 = .ok (.iload 11, 2) := by decide +kernel
theorem dX5_share_124 : decode cX5_share 124 = .ok (.laload, 1) := by decide +kernel
theorem dX5_share_125 : decode cX5_share 125 = .ok (.lmul, 1) := by decide +kernel
theorem dX5_share_126 : decode cX5_share 126 = .ok (.lload 4, 2) := by decide +kernel
theorem dX5_share_128 : decode cX5_share 128 = .ok (.lrem, 1) := by decide +kernel
theorem dX5_share_129 : decode cX5_share 129 = .ok (.lstore 12, 2) := by decide +kernel
theorem dX5_share_131 : decode cX5_share 131 = .ok (.lload 6, 2) := by decide +kernel
theorem dX5_share_133 : decode cX5_share 133 = .ok (.lload_n 1, 1) := by decide +kernel
theorem dX5_share_134 : decode cX5_share 134 = .ok (.aload_n 0, 1) := by decide +kernel
theorem dX5_share_135 : decode cX5_share 135 = .ok (.getfield 29, 3) := by decide +kernel
theorem dX5_share_138 : decode cX5_share 138 = .ok (.iload 11, 2) := by decide +kernel
theorem dX5_share_140 : decode cX5_share 140 = .ok (.laload, 1) := by decide +kernel
theorem dX5_share_141 : decode cX5_share 141 = .ok (.lmul, 1) := by decide +kernel
theorem dX5_share_142 : decode cX5_share 142 = .ok (.lload 4, 2) := by decide +kernel
theorem dX5_share_144 : decode cX5_share 144 = .ok (.ldiv, 1) := by decide +kernel
theorem dX5_share_145 : decode cX5_share 145 = .ok (.lsub, 1) := by decide +kernel
theorem dX5_share_146 : decode cX5_share 146 = .ok (.lstore 6, 2) := by decide +kernel
theorem dX5_share_148 : decode cX5_share 148 = .ok (.lload 12, 2) := by decide +kernel
theorem dX5_share_150 : decode cX5_share 150 = .ok (.lload 9, 2) := by decide +kernel
theorem dX5_share_152 : decode cX5_share 152 = .ok (.lcmp, 1) := by decide +kernel
theorem dX5_share_153 : decode cX5_share 153 = .ok (.ifCond .gt 17, 3) := by decide +kernel
theorem dX5_share_156 : decode cX5_share 156 = .ok (.lload 12, 2) := by decide +kernel
theorem dX5_share_158 : decode cX5_share 158 = .ok (.lload 9, 2) := by decide +kernel
theorem dX5_share_160 : decode cX5_share 160 = .ok (.lcmp, 1) := by decide +kernel
theorem dX5_share_161 : decode cX5_share 161 = .ok (.ifCond .ne 16, 3) := by decide +kernel
theorem dX5_share_164 : decode cX5_share 164 = .ok (.iload 11, 2) := by decide +kernel
theorem dX5_share_166 : decode cX5_share 166 = .ok (.iload_n 3, 1) := by decide +kernel
theorem dX5_share_167 : decode cX5_share 167 = .ok (.if_icmp .ge 10, 3) := by decide +kernel
theorem dX5_share_170 : decode cX5_share 170 = .ok (.iload 8, 2) := by decide +kernel
theorem dX5_share_172 : decode cX5_share 172 = .ok (.iconst 1, 1) := by decide +kernel
theorem dX5_share_173 : decode cX5_share 173 = .ok (.iadd, 1) := by decide +kernel
theorem dX5_share_174 : decode cX5_share 174 = .ok (.goto 5, 3) := by decide +kernel
theorem dX5_share_177 : decode cX5_share 177 = .ok (.iload 8, 2) := by decide +kernel
theorem dX5_share_179 : decode cX5_share 179 = .ok (.istore 8, 2) := by decide +kernel
theorem dX5_share_181 : decode cX5_share 181 = .ok (.iinc 11 1, 3) := by decide +kernel
theorem dX5_share_184 : decode cX5_share 184 = .ok (.goto (-74), 3) := by decide +kernel
theorem dX5_share_187 : decode cX5_share 187 = .ok (.lload_n 1, 1) := by decide +kernel
theorem dX5_share_188 : decode cX5_share 188 = .ok (.aload_n 0, 1) := by decide +kernel
theorem dX5_share_189 : decode cX5_share 189 = .ok (.getfield 29, 3) := by decide +kernel
theorem dX5_share_192 : decode cX5_share 192 = .ok (.iload_n 3, 1) := by decide +kernel
theorem dX5_share_193 : decode cX5_share 193 = .ok (.laload, 1) := by decide +kernel
theorem dX5_share_194 : decode cX5_share 194 = .ok (.lmul, 1) := by decide +kernel
theorem dX5_share_195 : decode cX5_share 195 = .ok (.lload 4, 2) := by decide +kernel
theorem dX5_share_197 : decode cX5_share 197 = .ok (.ldiv, 1) := by decide +kernel
theorem dX5_share_198 : decode cX5_share 198 = .ok (.iload 8, 2) := by decide +kernel
theorem dX5_share_200 : decode cX5_share 200 = .ok (.i2l, 1) := by decide +kernel
theorem dX5_share_201 : decode cX5_share 201 = .ok (.lload 6, 2) := by decide +kernel
theorem dX5_share_203 : decode cX5_share 203 = .ok (.lcmp, 1) := by decide +kernel
theorem dX5_share_204 : decode cX5_share 204 = .ok (.ifCond .ge 7, 3) := by decide +kernel
theorem dX5_share_207 : decode cX5_share 207 = .ok (.lconst 1, 1) := by decide +kernel
theorem dX5_share_208 : decode cX5_share 208 = .ok (.goto 4, 3) := by decide +kernel
theorem dX5_share_211 : decode cX5_share 211 = .ok (.lconst 0, 1) := by decide +kernel
theorem dX5_share_212 : decode cX5_share 212 = .ok (.ladd, 1) := by decide +kernel
theorem dX5_share_213 : decode cX5_share 213 = .ok (.lreturn, 1) := by decide +kernel
theorem dX5_digit_0 : decode cX5_digit 0 = .ok (.aload_n 0, 1) := by decide +kernel
theorem dX5_digit_1 : decode cX5_digit 1 = .ok (.iload_n 1, 1) := by decide +kernel
theorem dX5_digit_2 : decode cX5_digit 2 = .ok (.invokestatic 91, 3) := by decide +kernel
theorem dX5_digit_5 : decode cX5_digit 5 = .ok (.ifCond .eq 7, 3) := by decide +kernel
theorem dX5_digit_8 : decode cX5_digit 8 = .ok (.iconst 1, 1) := by decide +kernel
theorem dX5_digit_9 : decode cX5_digit 9 = .ok (.goto 17, 3) := by decide +kernel
theorem dX5_digit_12 : decode cX5_digit 12 = .ok (.iload_n 2, 1) := by decide +kernel
theorem dX5_digit_13 : decode cX5_digit 13 = .ok (.ifCond .lt 8, 3) := by decide +kernel
theorem dX5_digit_16 : decode cX5_digit 16 = .ok (.iload_n 2, 1) := by decide +kernel
theorem dX5_digit_17 : decode cX5_digit 17 = .ok (.iconst 1, 1) := by decide +kernel
theorem dX5_digit_18 : decode cX5_digit 18 = .ok (.if_icmp .le 7, 3) := by decide +kernel
theorem dX5_digit_21 : decode cX5_digit 21 = .ok (.iconst 2, 1) := by decide +kernel
theorem dX5_digit_22 : decode cX5_digit 22 = .ok (.goto 4, 3) := by decide +kernel
theorem dX5_digit_25 : decode cX5_digit 25 = .ok (.iconst 0, 1) := by decide +kernel
theorem dX5_digit_26 : decode cX5_digit 26 = .ok (.putfield 33, 3) := by decide +kernel
theorem dX5_digit_29 : decode cX5_digit 29 = .ok (.aload_n 0, 1) := by decide +kernel
theorem dX5_digit_30 : decode cX5_digit 30 = .ok (.getfield 33, 3) := by decide +kernel
theorem dX5_digit_33 : decode cX5_digit 33 = .ok (.ifCond .le 5, 3) := by decide +kernel
theorem dX5_digit_36 : decode cX5_digit 36 = .ok (.iconst 0, 1) := by decide +kernel
theorem dX5_digit_37 : decode cX5_digit 37 = .ok (.ireturn, 1) := by decide +kernel
theorem dX5_digit_38 : decode cX5_digit 38 = .ok (.aload_n 0, 1) := by decide +kernel
theorem dX5_digit_39 : decode cX5_digit 39 = .ok (.iload_n 1, 1) := by decide +kernel
theorem dX5_digit_40 : decode cX5_digit 40 = .ok (.iload_n 1, 1) := by decide +kernel
theorem dX5_digit_41 : decode cX5_digit 41 = .ok (.iconst 4, 1) := by decide +kernel
theorem dX5_digit_42 : decode cX5_digit 42 = .ok (.invokevirtual 94, 3) := by decide +kernel
theorem dX5_digit_45 : decode cX5_digit 45 = .ok (.aload_n 0, 1) := by decide +kernel
theorem dX5_digit_46 : decode cX5_digit 46 = .ok (.iload_n 1, 1) := by decide +kernel
theorem dX5_digit_47 : decode cX5_digit 47 = .ok (.iconst 0, 1) := by decide +kernel
theorem dX5_digit_48 : decode cX5_digit 48 = .ok (.iconst 1, 1) := by decide +kernel
theorem dX5_digit_49 : decode cX5_digit 49 = .ok (.invokevirtual 98, 3) := by decide +kernel
theorem dX5_digit_52 : decode cX5_digit 52 = .ok (.iload_n 2, 1) := by decide +kernel
theorem dX5_digit_53 : decode cX5_digit 53 = .ok (.iconst 1, 1) := by decide +kernel
theorem dX5_digit_54 : decode cX5_digit 54 = .ok (.if_icmp .ne 9, 3) := by decide +kernel
theorem dX5_digit_57 : decode cX5_digit 57 = .ok (.aload_n 0, 1) := by decide +kernel
theorem dX5_digit_58 : decode cX5_digit 58 = .ok (.iconst 0, 1) := by decide +kernel
theorem dX5_digit_59 : decode cX5_digit 59 = .ok (.iconst 1, 1) := by decide +kernel
theorem dX5_digit_60 : decode cX5_digit 60 = .ok (.invokevirtual 62, 3) := by decide +kernel
theorem dX5_digit_63 : decode cX5_digit 63 = .ok (.aload_n 0, 1) := by decide +kernel
theorem dX5_digit_64 : decode cX5_digit 64 = .ok (.iconst 1, 1) := by decide +kernel
theorem dX5_digit_65 : decode cX5_digit 65 = .ok (.ldc2_w 134, 3) := by decide +kernel
theorem dX5_digit_68 : decode cX5_digit 68 = .ok (.invokevirtual 36, 3) := by decide +kernel
theorem dX5_digit_71 : decode cX5_digit 71 = .ok (.iconst 0, 1) := by decide +kernel
theorem dX5_digit_72 : decode cX5_digit 72 = .ok (.istore 4, 2) := by decide +kernel
theorem dX5_digit_74 : decode cX5_digit 74 = .ok (.aload_n 0, 1) := by decide +kernel
theorem dX5_digit_75 : decode cX5_digit 75 = .ok (.iconst 2, 1) := by decide +kernel
theorem dX5_digit_76 : decode cX5_digit 76 = .ok (.iconst 0, 1) := by decide +kernel
theorem dX5_digit_77 : decode cX5_digit 77 = .ok (.invokevirtual 62, 3) := by decide +kernel
theorem dX5_digit_80 : decode cX5_digit 80 = .ok (.iload 4, 2) := by decide +kernel
theorem dX5_digit_82 : decode cX5_digit 82 = .ok (.ifCond .eq 11, 3) := by decide +kernel
theorem dX5_digit_85 : decode cX5_digit 85 = .ok (.aload_n 0, 1) := by decide +kernel
theorem dX5_digit_86 : decode cX5_digit 86 = .ok (.iconst 2, 1) := by decide +kernel
theorem dX5_digit_87 : decode cX5_digit 87 = .ok (.invokevirtual 58, 3) := by decide +kernel
theorem dX5_digit_90 : decode cX5_digit 90 = .ok (.ifCond .ne 23, 3) := by decide +kernel
theorem dX5_digit_93 : decode cX5_digit 93 = .ok (.aload_n 0, 1) := by decide +kernel
theorem dX5_digit_94 : decode cX5_digit 94 = .ok (.iconst 2, 1) := by decide +kernel
theorem dX5_digit_95 : decode cX5_digit 95 = .ok (.iconst 1, 1) := by decide +kernel
theorem dX5_digit_96 : decode cX5_digit 96 = .ok (.iconst 3, 1) := by decide +kernel
theorem dX5_digit_97 : decode cX5_digit 97 = .ok (.iconst 4, 1) := by decide +kernel
theorem dX5_digit_98 : decode cX5_digit 98 = .ok (.invokevirtual 80, 3) := by decide +kernel
theorem dX5_digit_101 : decode cX5_digit 101 = .ok (.aload_n 0, 1) := by decide +kernel
theorem dX5_digit_102 : decode cX5_digit 102 = .ok (.iconst 2, 1) := by decide +kernel
theorem dX5_digit_103 : decode cX5_digit 103 = .ok (.iconst 3, 1) := by decide +kernel
theorem dX5_digit_104 : decode cX5_digit 104 = .ok (.invokevirtual 62, 3) := by decide +kernel
theorem dX5_digit_107 : decode cX5_digit 107 = .ok (.iinc 4 1, 3) := by decide +kernel
theorem dX5_digit_110 : decode cX5_digit 110 = .ok (.goto (-30), 3) := by decide +kernel
theorem dX5_digit_113 : decode cX5_digit 113 = .ok (.aload_n 0, 1) := by decide +kernel
theorem dX5_digit_114 : decode cX5_digit 114 = .ok (.iload_n 3, 1) := by decide +kernel
theorem dX5_digit_115 : decode cX5_digit 115 = .ok (.ifCond .lt 9, 3) := by decide +kernel
theorem dX5_digit_118 : decode cX5_digit 118 = .ok (.iload_n 3, 1) := by decide +kernel
theorem dX5_digit_119 : decode cX5_digit 119 = .ok (.iload 4, 2) := by decide +kernel
theorem dX5_digit_121 : decode cX5_digit 121 = .ok (.if_icmp .lt 7, 3) := by decide +kernel
theorem dX5_digit_124 : decode cX5_digit 124 = .ok (.iconst 1, 1) := by decide +kernel
theorem dX5_digit_125 : decode cX5_digit 125 = .ok (.goto 4, 3) := by decide +kernel
theorem dX5_digit_128 : decode cX5_digit 128 = .ok (.iconst 0, 1) := by decide +kernel
theorem dX5_digit_129 : decode cX5_digit 129 = .ok (.putfield 33, 3) := by decide +kernel
theorem dX5_digit_132 : decode cX5_digit 132 = .ok (.iconst 0, 1) := by decide +kernel
theorem dX5_digit_133 : decode cX5_digit 133 = .ok (.istore 5, 2) := by decide +kernel
theorem dX5_digit_135 : decode cX5_digit 135 = .ok (.iconst 0, 1) := by decide +kernel
theorem dX5_digit_136 : decode cX5_digit 136 = .ok (.istore 6, 2) := by decide +kernel
theorem dX5_digit_138 : decode cX5_digit 138 = .ok (.iload 6, 2) := by decide +kernel
theorem dX5_digit_140 : decode cX5_digit 140 = .ok (.iload 4, 2) := by decide +kernel
theorem dX5_digit_142 : decode cX5_digit 142 = .ok (.iload_n 3, 1) := by decide +kernel
theorem dX5_digit_143 : decode cX5_digit 143 = .ok (.isub, 1) := by decide +kernel
theorem dX5_digit_144 : decode cX5_digit 144 = .ok (.if_icmp .ge 40, 3) := by decide +kernel
theorem dX5_digit_147 : decode cX5_digit 147 = .ok (.aload_n 0, 1) := by decide +kernel
theorem dX5_digit_148 : decode cX5_digit 148 = .ok (.getfield 33, 3) := by decide +kernel
theorem dX5_digit_151 : decode cX5_digit 151 = .ok (.ifCond .ne 33, 3) := by decide +kernel
theorem dX5_digit_154 : decode cX5_digit 154 = .ok (.aload_n 0, 1) := by decide +kernel
theorem dX5_digit_155 : decode cX5_digit 155 = .ok (.iconst 0, 1) := by decide +kernel
theorem dX5_digit_156 : decode cX5_digit 156 = .ok (.iconst 1, 1) := by decide +kernel
theorem dX5_digit_157 : decode cX5_digit 157 = .ok (.iconst 3, 1) := by decide +kernel
theorem dX5_digit_158 : decode cX5_digit 158 = .ok (.iconst 4, 1) := by decide +kernel
theorem dX5_digit_159 : decode cX5_digit 159 = .ok (.invokevirtual 80, 3) := by decide +kernel
theorem dX5_digit_162 : decode cX5_digit 162 = .ok (.aload_n 0, 1) := by decide +kernel
theorem dX5_digit_163 : decode cX5_digit 163 = .ok (.getfield 13, 3) := by decide +kernel
theorem dX5_digit_166 : decode cX5_digit 166 = .ok (.sipush 640, 3) := by decide +kernel
theorem dX5_digit_169 : decode cX5_digit 169 = .ok (.iaload, 1) := by decide +kernel
theorem dX5_digit_170 : decode cX5_digit 170 = .ok (.istore 5, 2) := by decide +kernel
theorem dX5_digit_172 : decode cX5_digit 172 = .ok (.aload_n 0, 1) := by decide +kernel
theorem dX5_digit_173 : decode cX5_digit 173 = .ok (.iconst 0, 1) := by decide +kernel
theorem dX5_digit_174 : decode cX5_digit 174 = .ok (.iconst 3, 1) := by decide +kernel
theorem dX5_digit_175 : decode cX5_digit 175 = .ok (.invokevirtual 62, 3) := by decide +kernel
theorem dX5_digit_178 : decode cX5_digit 178 = .ok (.iinc 6 1, 3) := by decide +kernel
theorem dX5_digit_181 : decode cX5_digit 181 = .ok (.goto (-43), 3) := by decide +kernel
theorem dX5_digit_184 : decode cX5_digit 184 = .ok (.iload 5, 2) := by decide +kernel
theorem dX5_digit_186 : decode cX5_digit 186 = .ok (.ireturn, 1) := by decide +kernel
theorem dX5_bits_0 : decode cX5_bits 0 = .ok (.aload_n 0, 1) := by decide +kernel
theorem dX5_bits_1 : decode cX5_bits 1 = .ok (.iload_n 1, 1) := by decide +kernel
theorem dX5_bits_2 : decode cX5_bits 2 = .ok (.invokestatic 91, 3) := by decide +kernel
theorem dX5_bits_5 : decode cX5_bits 5 = .ok (.ifCond .eq 7, 3) := by decide +kernel
theorem dX5_bits_8 : decode cX5_bits 8 = .ok (.iconst 1, 1) := by decide +kernel
theorem dX5_bits_9 : decode cX5_bits 9 = .ok (.goto 4, 3) := by decide +kernel
theorem dX5_bits_12 : decode cX5_bits 12 = .ok (.iconst 0, 1) := by decide +kernel
theorem dX5_bits_13 : decode cX5_bits 13 = .ok (.putfield 33, 3) := by decide +kernel
theorem dX5_bits_16 : decode cX5_bits 16 = .ok (.aload_n 0, 1) := by decide +kernel
theorem dX5_bits_17 : decode cX5_bits 17 = .ok (.getfield 33, 3) := by decide +kernel
theorem dX5_bits_20 : decode cX5_bits 20 = .ok (.ifCond .le 5, 3) := by decide +kernel
theorem dX5_bits_23 : decode cX5_bits 23 = .ok (.iconst 0, 1) := by decide +kernel
theorem dX5_bits_24 : decode cX5_bits 24 = .ok (.ireturn, 1) := by decide +kernel
theorem dX5_bits_25 : decode cX5_bits 25 = .ok (.aload_n 0, 1) := by decide +kernel
theorem dX5_bits_26 : decode cX5_bits 26 = .ok (.iload_n 1, 1) := by decide +kernel
theorem dX5_bits_27 : decode cX5_bits 27 = .ok (.iload_n 1, 1) := by decide +kernel
theorem dX5_bits_28 : decode cX5_bits 28 = .ok (.iconst 4, 1) := by decide +kernel
theorem dX5_bits_29 : decode cX5_bits 29 = .ok (.invokevirtual 94, 3) := by decide +kernel
theorem dX5_bits_32 : decode cX5_bits 32 = .ok (.aload_n 0, 1) := by decide +kernel
theorem dX5_bits_33 : decode cX5_bits 33 = .ok (.iload_n 1, 1) := by decide +kernel
theorem dX5_bits_34 : decode cX5_bits 34 = .ok (.iconst 0, 1) := by decide +kernel
theorem dX5_bits_35 : decode cX5_bits 35 = .ok (.iconst 1, 1) := by decide +kernel
theorem dX5_bits_36 : decode cX5_bits 36 = .ok (.invokevirtual 98, 3) := by decide +kernel
theorem dX5_bits_39 : decode cX5_bits 39 = .ok (.aload_n 0, 1) := by decide +kernel
theorem dX5_bits_40 : decode cX5_bits 40 = .ok (.getfield 17, 3) := by decide +kernel
theorem dX5_bits_43 : decode cX5_bits 43 = .ok (.iload_n 1, 1) := by decide +kernel
theorem dX5_bits_44 : decode cX5_bits 44 = .ok (.iaload, 1) := by decide +kernel
theorem dX5_bits_45 : decode cX5_bits 45 = .ok (.ifCond .ne 7, 3) := by decide +kernel
theorem dX5_bits_48 : decode cX5_bits 48 = .ok (.iconst 0, 1) := by decide +kernel
theorem dX5_bits_49 : decode cX5_bits 49 = .ok (.goto 14, 3) := by decide +kernel
theorem dX5_bits_52 : decode cX5_bits 52 = .ok (.aload_n 0, 1) := by decide +kernel
theorem dX5_bits_53 : decode cX5_bits 53 = .ok (.iconst 0, 1) := by decide +kernel
theorem dX5_bits_54 : decode cX5_bits 54 = .ok (.invokevirtual 42, 3) := by decide +kernel
theorem dX5_bits_57 : decode cX5_bits 57 = .ok (.aload_n 0, 1) := by decide +kernel
theorem dX5_bits_58 : decode cX5_bits 58 = .ok (.iconst 1, 1) := by decide +kernel
theorem dX5_bits_59 : decode cX5_bits 59 = .ok (.invokevirtual 42, 3) := by decide +kernel
theorem dX5_bits_62 : decode cX5_bits 62 = .ok (.iadd, 1) := by decide +kernel
theorem dX5_bits_63 : decode cX5_bits 63 = .ok (.ireturn, 1) := by decide +kernel
theorem dX5_sign_0 : decode cX5_sign 0 = .ok (.aload_n 0, 1) := by decide +kernel
theorem dX5_sign_1 : decode cX5_sign 1 = .ok (.iload_n 1, 1) := by decide +kernel
theorem dX5_sign_2 : decode cX5_sign 2 = .ok (.invokestatic 91, 3) := by decide +kernel
theorem dX5_sign_5 : decode cX5_sign 5 = .ok (.ifCond .eq 7, 3) := by decide +kernel
theorem dX5_sign_8 : decode cX5_sign 8 = .ok (.iconst 1, 1) := by decide +kernel
theorem dX5_sign_9 : decode cX5_sign 9 = .ok (.goto 4, 3) := by decide +kernel
theorem dX5_sign_12 : decode cX5_sign 12 = .ok (.iconst 0, 1) := by decide +kernel
theorem dX5_sign_13 : decode cX5_sign 13 = .ok (.putfield 33, 3) := by decide +kernel
theorem dX5_sign_16 : decode cX5_sign 16 = .ok (.aload_n 0, 1) := by decide +kernel
theorem dX5_sign_17 : decode cX5_sign 17 = .ok (.getfield 33, 3) := by decide +kernel
theorem dX5_sign_20 : decode cX5_sign 20 = .ok (.ifCond .le 7, 3) := by decide +kernel
theorem dX5_sign_23 : decode cX5_sign 23 = .ok (.iconst 0, 1) := by decide +kernel
theorem dX5_sign_24 : decode cX5_sign 24 = .ok (.goto 9, 3) := by decide +kernel
theorem dX5_sign_27 : decode cX5_sign 27 = .ok (.aload_n 0, 1) := by decide +kernel
theorem dX5_sign_28 : decode cX5_sign 28 = .ok (.getfield 17, 3) := by decide +kernel
theorem dX5_sign_31 : decode cX5_sign 31 = .ok (.iload_n 1, 1) := by decide +kernel
theorem dX5_sign_32 : decode cX5_sign 32 = .ok (.iaload, 1) := by decide +kernel
theorem dX5_sign_33 : decode cX5_sign 33 = .ok (.ireturn, 1) := by decide +kernel
