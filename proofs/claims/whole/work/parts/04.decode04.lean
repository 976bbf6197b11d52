theorem dX4_init_0 : decode cX4_init 0 = .ok (.aload_n 0, 1) := by decide +kernel
theorem dX4_init_1 : decode cX4_init 1 = .ok (.invokespecial 1, 3) := by decide +kernel
theorem dX4_init_4 : decode cX4_init 4 = .ok (.aload_n 0, 1) := by decide +kernel
theorem dX4_init_5 : decode cX4_init 5 = .ok (.sipush 150, 3) := by decide +kernel
theorem dX4_init_8 : decode cX4_init 8 = .ok (.anewarray 9, 3) := by decide +kernel
theorem dX4_init_11 : decode cX4_init 11 = .ok (.putfield 11, 3) := by decide +kernel
theorem dX4_init_14 : decode cX4_init 14 = .ok (.aload_n 0, 1) := by decide +kernel
theorem dX4_init_15 : decode cX4_init 15 = .ok (.new 9, 3) := by decide +kernel
theorem dX4_init_18 : decode cX4_init 18 = .ok (.dup, 1) := by decide +kernel
theorem dX4_init_19 : decode cX4_init 19 = .ok (.iconst 0, 1) := by decide +kernel
theorem dX4_init_20 : decode cX4_init 20 = .ok (.lconst 0, 1) := by decide +kernel
theorem dX4_init_21 : decode cX4_init 21 = .ok (.invokestatic 15, 3) := by decide +kernel
theorem dX4_init_24 : decode cX4_init 24 = .ok (.lconst 1, 1) := by decide +kernel
theorem dX4_init_25 : decode cX4_init 25 = .ok (.invokestatic 15, 3) := by decide +kernel
theorem dX4_init_28 : decode cX4_init 28 = .ok (.invokespecial 21, 3) := by decide +kernel
theorem dX4_init_31 : decode cX4_init 31 = .ok (.putfield 24, 3) := by decide +kernel
theorem dX4_init_34 : decode cX4_init 34 = .ok (.aload_n 0, 1) := by decide +kernel
theorem dX4_init_35 : decode cX4_init 35 = .ok (.bipush 80, 2) := by decide +kernel
theorem dX4_init_37 : decode cX4_init 37 = .ok (.newarray .int, 2) := by decide +kernel
theorem dX4_init_39 : decode cX4_init 39 = .ok (.putfield 28, 3) := by decide +kernel
theorem dX4_init_42 : decode cX4_init 42 = .ok (.aload_n 0, 1) := by decide +kernel
theorem dX4_init_43 : decode cX4_init 43 = .ok (.bipush 32, 2) := by decide +kernel
theorem dX4_init_45 : decode cX4_init 45 = .ok (.newarray .long, 2) := by decide +kernel
theorem dX4_init_47 : decode cX4_init 47 = .ok (.putfield 32, 3) := by decide +kernel
theorem dX4_init_50 : decode cX4_init 50 = .ok (.aload_n 0, 1) := by decide +kernel
theorem dX4_init_51 : decode cX4_init 51 = .ok (.lconst 1, 1) := by decide +kernel
theorem dX4_init_52 : decode cX4_init 52 = .ok (.invokestatic 15, 3) := by decide +kernel
theorem dX4_init_55 : decode cX4_init 55 = .ok (.putfield 36, 3) := by decide +kernel
theorem dX4_init_58 : decode cX4_init 58 = .ok (.aload_n 0, 1) := by decide +kernel
theorem dX4_init_59 : decode cX4_init 59 = .ok (.new 16, 3) := by decide +kernel
theorem dX4_init_62 : decode cX4_init 62 = .ok (.dup, 1) := by decide +kernel
theorem dX4_init_63 : decode cX4_init 63 = .ok (.bipush 56, 2) := by decide +kernel
theorem dX4_init_65 : decode cX4_init 65 = .ok (.invokespecial 40, 3) := by decide +kernel
theorem dX4_init_68 : decode cX4_init 68 = .ok (.putfield 43, 3) := by decide +kernel
theorem dX4_init_71 : decode cX4_init 71 = .ok (.aload_n 0, 1) := by decide +kernel
theorem dX4_init_72 : decode cX4_init 72 = .ok (.new 16, 3) := by decide +kernel
theorem dX4_init_75 : decode cX4_init 75 = .ok (.dup, 1) := by decide +kernel
theorem dX4_init_76 : decode cX4_init 76 = .ok (.bipush 56, 2) := by decide +kernel
theorem dX4_init_78 : decode cX4_init 78 = .ok (.invokespecial 40, 3) := by decide +kernel
theorem dX4_init_81 : decode cX4_init 81 = .ok (.putfield 46, 3) := by decide +kernel
theorem dX4_init_84 : decode cX4_init 84 = .ok (.aload_n 0, 1) := by decide +kernel
theorem dX4_init_85 : decode cX4_init 85 = .ok (.new 16, 3) := by decide +kernel
theorem dX4_init_88 : decode cX4_init 88 = .ok (.dup, 1) := by decide +kernel
theorem dX4_init_89 : decode cX4_init 89 = .ok (.bipush 56, 2) := by decide +kernel
theorem dX4_init_91 : decode cX4_init 91 = .ok (.invokespecial 40, 3) := by decide +kernel
theorem dX4_init_94 : decode cX4_init 94 = .ok (.putfield 49, 3) := by decide +kernel
theorem dX4_init_97 : decode cX4_init 97 = .ok (.aload_n 0, 1) := by decide +kernel
theorem dX4_init_98 : decode cX4_init 98 = .ok (.new 16, 3) := by decide +kernel
theorem dX4_init_101 : decode cX4_init 101 = .ok (.dup, 1) := by decide +kernel
theorem dX4_init_102 : decode cX4_init 102 = .ok (.bipush 56, 2) := by decide +kernel
theorem dX4_init_104 : decode cX4_init 104 = .ok (.invokespecial 40, 3) := by decide +kernel
theorem dX4_init_107 : decode cX4_init 107 = .ok (.putfield 52, 3) := by decide +kernel
theorem dX4_init_110 : decode cX4_init 110 = .ok (.aload_n 0, 1) := by decide +kernel
theorem dX4_init_111 : decode cX4_init 111 = .ok (.sipush 243, 3) := by decide +kernel
theorem dX4_init_114 : decode cX4_init 114 = .ok (.newarray .int, 2) := by decide +kernel
theorem dX4_init_116 : decode cX4_init 116 = .ok (.putfield 55, 3) := by decide +kernel
theorem dX4_init_119 : decode cX4_init 119 = .ok (.aload_n 0, 1) := by decide +kernel
theorem dX4_init_120 : decode cX4_init 120 = .ok (.new 58, 3) := by decide +kernel
theorem dX4_init_123 : decode cX4_init 123 = .ok (.dup, 1) := by decide +kernel
theorem dX4_init_124 : decode cX4_init 124 = .ok (.invokespecial 60, 3) := by decide +kernel
theorem dX4_init_127 : decode cX4_init 127 = .ok (.putfield 61, 3) := by decide +kernel
theorem dX4_init_130 : decode cX4_init 130 = .ok (.aload_n 0, 1) := by decide +kernel
theorem dX4_init_131 : decode cX4_init 131 = .ok (.new 65, 3) := by decide +kernel
theorem dX4_init_134 : decode cX4_init 134 = .ok (.dup, 1) := by decide +kernel
theorem dX4_init_135 : decode cX4_init 135 = .ok (.invokespecial 67, 3) := by decide +kernel
theorem dX4_init_138 : decode cX4_init 138 = .ok (.putfield 68, 3) := by decide +kernel
theorem dX4_init_141 : decode cX4_init 141 = .ok (.return_, 1) := by decide +kernel
theorem dX4_value_0 : decode cX4_value 0 = .ok (.lload_n 3, 1) := by decide +kernel
theorem dX4_value_1 : decode cX4_value 1 = .ok (.lconst 0, 1) := by decide +kernel
theorem dX4_value_2 : decode cX4_value 2 = .ok (.lcmp, 1) := by decide +kernel
theorem dX4_value_3 : decode cX4_value 3 = .ok (.ifCond .ne 13, 3) := by decide +kernel
theorem dX4_value_6 : decode cX4_value 6 = .ok (.new 72, 3) := by decide +kernel
theorem dX4_value_9 : decode cX4_value 9 = .ok (.dup, 1) := by decide +kernel
theorem dX4_value_10 : decode cX4_value 10 = .ok (.ldc 74, 2) := by decide +kernel
theorem dX4_value_12 : decode cX4_value 12 = .ok (.invokespecial 76, 3) := by decide +kernel
theorem dX4_value_15 : decode cX4_value 15 = .ok (.athrow, 1) := by decide +kernel
theorem dX4_value_16 : decode cX4_value 16 = .ok (.aload_n 0, 1) := by decide +kernel
theorem dX4_value_17 : decode cX4_value 17 = .ok (.getfield 43, 3) := by decide +kernel
theorem dX4_value_20 : decode cX4_value 20 = .ok (.lload_n 1, 1) := by decide +kernel
theorem dX4_value_21 : decode cX4_value 21 = .ok (.invokevirtual 79, 3) := by decide +kernel
theorem dX4_value_24 : decode cX4_value 24 = .ok (.aload_n 0, 1) := by decide +kernel
theorem dX4_value_25 : decode cX4_value 25 = .ok (.getfield 46, 3) := by decide +kernel
theorem dX4_value_28 : decode cX4_value 28 = .ok (.lload_n 3, 1) := by decide +kernel
theorem dX4_value_29 : decode cX4_value 29 = .ok (.invokevirtual 79, 3) := by decide +kernel
theorem dX4_value_32 : decode cX4_value 32 = .ok (.aload_n 0, 1) := by decide +kernel
theorem dX4_value_33 : decode cX4_value 33 = .ok (.lload_n 1, 1) := by decide +kernel
theorem dX4_value_34 : decode cX4_value 34 = .ok (.lconst 0, 1) := by decide +kernel
theorem dX4_value_35 : decode cX4_value 35 = .ok (.lcmp, 1) := by decide +kernel
theorem dX4_value_36 : decode cX4_value 36 = .ok (.ifCond .ge 7, 3) := by decide +kernel
theorem dX4_value_39 : decode cX4_value 39 = .ok (.iconst 1, 1) := by decide +kernel
theorem dX4_value_40 : decode cX4_value 40 = .ok (.goto 4, 3) := by decide +kernel
theorem dX4_value_43 : decode cX4_value 43 = .ok (.iconst 0, 1) := by decide +kernel
theorem dX4_value_44 : decode cX4_value 44 = .ok (.lload_n 3, 1) := by decide +kernel
theorem dX4_value_45 : decode cX4_value 45 = .ok (.lconst 0, 1) := by decide +kernel
theorem dX4_value_46 : decode cX4_value 46 = .ok (.lcmp, 1) := by decide +kernel
theorem dX4_value_47 : decode cX4_value 47 = .ok (.ifCond .ge 7, 3) := by decide +kernel
theorem dX4_value_50 : decode cX4_value 50 = .ok (.iconst 1, 1) := by decide +kernel
theorem dX4_value_51 : decode cX4_value 51 = .ok (.goto 4, 3) := by decide +kernel
theorem dX4_value_54 : decode cX4_value 54 = .ok (.iconst 0, 1) := by decide +kernel
theorem dX4_value_55 : decode cX4_value 55 = .ok (.if_icmp .ne 7, 3) := by decide +kernel
theorem dX4_value_58 : decode cX4_value 58 = .ok (.iconst 1, 1) := by decide +kernel
theorem dX4_value_59 : decode cX4_value 59 = .ok (.goto 4, 3) := by decide +kernel
theorem dX4_value_62 : decode cX4_value 62 = .ok (.iconst (-1), 1) := by decide +kernel
theorem dX4_value_63 : decode cX4_value 63 = .ok (.invokevirtual 83, 3) := by decide +kernel
theorem dX4_value_66 : decode cX4_value 66 = .ok (.ireturn, 1) := by decide +kernel
theorem dX4_add_0 : decode cX4_add 0 = .ok (.aload_n 0, 1) := by decide +kernel
theorem dX4_add_1 : decode cX4_add 1 = .ok (.iload_n 1, 1) := by decide +kernel
theorem dX4_add_2 : decode cX4_add 2 = .ok (.invokevirtual 87, 3) := by decide +kernel
theorem dX4_add_5 : decode cX4_add 5 = .ok (.astore_n 3, 1) := by decide +kernel
theorem dX4_add_6 : decode cX4_add 6 = .ok (.aload_n 0, 1) := by decide +kernel
theorem dX4_add_7 : decode cX4_add 7 = .ok (.iload_n 2, 1) := by decide +kernel
theorem dX4_add_8 : decode cX4_add 8 = .ok (.invokevirtual 87, 3) := by decide +kernel
theorem dX4_add_11 : decode cX4_add 11 = .ok (.astore 4, 2) := by decide +kernel
theorem dX4_add_13 : decode cX4_add 13 = .ok (.aload_n 0, 1) := by decide +kernel
theorem dX4_add_14 : decode cX4_add 14 = .ok (.getfield 49, 3) := by decide +kernel
theorem dX4_add_17 : decode cX4_add 17 = .ok (.aload_n 3, 1) := by decide +kernel
theorem dX4_add_18 : decode cX4_add 18 = .ok (.getfield 91, 3) := by decide +kernel
theorem dX4_add_21 : decode cX4_add 21 = .ok (.aload 4, 2) := by decide +kernel
theorem dX4_add_23 : decode cX4_add 23 = .ok (.getfield 94, 3) := by decide +kernel
theorem dX4_add_26 : decode cX4_add 26 = .ok (.invokevirtual 97, 3) := by decide +kernel
theorem dX4_add_29 : decode cX4_add 29 = .ok (.aload_n 0, 1) := by decide +kernel
theorem dX4_add_30 : decode cX4_add 30 = .ok (.getfield 52, 3) := by decide +kernel
theorem dX4_add_33 : decode cX4_add 33 = .ok (.aload 4, 2) := by decide +kernel
theorem dX4_add_35 : decode cX4_add 35 = .ok (.getfield 91, 3) := by decide +kernel
theorem dX4_add_38 : decode cX4_add 38 = .ok (.aload_n 3, 1) := by decide +kernel
theorem dX4_add_39 : decode cX4_add 39 = .ok (.getfield 94, 3) := by decide +kernel
theorem dX4_add_42 : decode cX4_add 42 = .ok (.invokevirtual 97, 3) := by decide +kernel
theorem dX4_add_45 : decode cX4_add 45 = .ok (.aload_n 0, 1) := by decide +kernel
theorem dX4_add_46 : decode cX4_add 46 = .ok (.getfield 46, 3) := by decide +kernel
theorem dX4_add_49 : decode cX4_add 49 = .ok (.aload_n 3, 1) := by decide +kernel
theorem dX4_add_50 : decode cX4_add 50 = .ok (.getfield 94, 3) := by decide +kernel
theorem dX4_add_53 : decode cX4_add 53 = .ok (.aload 4, 2) := by decide +kernel
theorem dX4_add_55 : decode cX4_add 55 = .ok (.getfield 94, 3) := by decide +kernel
theorem dX4_add_58 : decode cX4_add 58 = .ok (.invokevirtual 97, 3) := by decide +kernel
theorem dX4_add_61 : decode cX4_add 61 = .ok (.aload_n 3, 1) := by decide +kernel
theorem dX4_add_62 : decode cX4_add 62 = .ok (.getfield 101, 3) := by decide +kernel
theorem dX4_add_65 : decode cX4_add 65 = .ok (.aload 4, 2) := by decide +kernel
theorem dX4_add_67 : decode cX4_add 67 = .ok (.getfield 101, 3) := by decide +kernel
theorem dX4_add_70 : decode cX4_add 70 = .ok (.imul, 1) := by decide +kernel
theorem dX4_add_71 : decode cX4_add 71 = .ok (.ifCond .lt 42, 3) := by decide +kernel
theorem dX4_add_74 : decode cX4_add 74 = .ok (.aload_n 0, 1) := by decide +kernel
theorem dX4_add_75 : decode cX4_add 75 = .ok (.getfield 43, 3) := by decide +kernel
theorem dX4_add_78 : decode cX4_add 78 = .ok (.aload_n 0, 1) := by decide +kernel
theorem dX4_add_79 : decode cX4_add 79 = .ok (.getfield 49, 3) := by decide +kernel
theorem dX4_add_82 : decode cX4_add 82 = .ok (.aload_n 0, 1) := by decide +kernel
theorem dX4_add_83 : decode cX4_add 83 = .ok (.getfield 52, 3) := by decide +kernel
theorem dX4_add_86 : decode cX4_add 86 = .ok (.invokevirtual 105, 3) := by decide +kernel
theorem dX4_add_89 : decode cX4_add 89 = .ok (.aload_n 0, 1) := by decide +kernel
theorem dX4_add_90 : decode cX4_add 90 = .ok (.aload_n 3, 1) := by decide +kernel
theorem dX4_add_91 : decode cX4_add 91 = .ok (.getfield 101, 3) := by decide +kernel
theorem dX4_add_94 : decode cX4_add 94 = .ok (.ifCond .eq 10, 3) := by decide +kernel
theorem dX4_add_97 : decode cX4_add 97 = .ok (.aload_n 3, 1) := by decide +kernel
theorem dX4_add_98 : decode cX4_add 98 = .ok (.getfield 101, 3) := by decide +kernel
theorem dX4_add_101 : decode cX4_add 101 = .ok (.goto 8, 3) := by decide +kernel
theorem dX4_add_104 : decode cX4_add 104 = .ok (.aload 4, 2) := by decide +kernel
theorem dX4_add_106 : decode cX4_add 106 = .ok (.getfield 101, 3) := by decide +kernel
theorem dX4_add_109 : decode cX4_add 109 = .ok (.invokevirtual 83, 3) := by decide +kernel
theorem dX4_add_112 : decode cX4_add 112 = .ok (.ireturn, 1) := by decide +kernel
theorem dX4_add_113 : decode cX4_add 113 = .ok (.aload_n 0, 1) := by decide +kernel
theorem dX4_add_114 : decode cX4_add 114 = .ok (.getfield 49, 3) := by decide +kernel
theorem dX4_add_117 : decode cX4_add 117 = .ok (.aload_n 0, 1) := by decide +kernel
theorem dX4_add_118 : decode cX4_add 118 = .ok (.getfield 52, 3) := by decide +kernel
theorem dX4_add_121 : decode cX4_add 121 = .ok (.invokevirtual 108, 3) := by decide +kernel
theorem dX4_add_124 : decode cX4_add 124 = .ok (.ifCond .lt 27, 3) := by decide +kernel
theorem dX4_add_127 : decode cX4_add 127 = .ok (.aload_n 0, 1) := by decide +kernel
theorem dX4_add_128 : decode cX4_add 128 = .ok (.getfield 43, 3) := by decide +kernel
theorem dX4_add_131 : decode cX4_add 131 = .ok (.aload_n 0, 1) := by decide +kernel
theorem dX4_add_132 : decode cX4_add 132 = .ok (.getfield 49, 3) := by decide +kernel
theorem dX4_add_135 : decode cX4_add 135 = .ok (.aload_n 0, 1) := by decide +kernel
theorem dX4_add_136 : decode cX4_add 136 = .ok (.getfield 52, 3) := by decide +kernel
theorem dX4_add_139 : decode cX4_add 139 = .ok (.invokevirtual 112, 3) := by decide +kernel
theorem dX4_add_142 : decode cX4_add 142 = .ok (.aload_n 0, 1) := by decide +kernel
theorem dX4_add_143 : decode cX4_add 143 = .ok (.aload_n 3, 1) := by decide +kernel
theorem dX4_add_144 : decode cX4_add 144 = .ok (.getfield 101, 3) := by decide +kernel
theorem dX4_add_147 : decode cX4_add 147 = .ok (.invokevirtual 83, 3) := by decide +kernel
theorem dX4_add_150 : decode cX4_add 150 = .ok (.ireturn, 1) := by decide +kernel
theorem dX4_add_151 : decode cX4_add 151 = .ok (.aload_n 0, 1) := by decide +kernel
theorem dX4_add_152 : decode cX4_add 152 = .ok (.getfield 43, 3) := by decide +kernel
theorem dX4_add_155 : decode cX4_add 155 = .ok (.aload_n 0, 1) := by decide +kernel
theorem dX4_add_156 : decode cX4_add 156 = .ok (.getfield 52, 3) := by decide +kernel
theorem dX4_add_159 : decode cX4_add 159 = .ok (.aload_n 0, 1) := by decide +kernel
theorem dX4_add_160 : decode cX4_add 160 = .ok (.getfield 49, 3) := by decide +kernel
theorem dX4_add_163 : decode cX4_add 163 = .ok (.invokevirtual 112, 3) := by decide +kernel
theorem dX4_add_166 : decode cX4_add 166 = .ok (.aload_n 0, 1) := by decide +kernel
theorem dX4_add_167 : decode cX4_add 167 = .ok (.aload 4, 2) := by decide +kernel
theorem dX4_add_169 : decode cX4_add 169 = .ok (.getfield 101, 3) := by decide +kernel
theorem dX4_add_172 : decode cX4_add 172 = .ok (.invokevirtual 83, 3) := by decide +kernel
theorem dX4_add_175 : decode cX4_add 175 = .ok (.ireturn, 1) := by decide +kernel
theorem dX4_times_0 : decode cX4_times 0 = .ok (.aload_n 0, 1) := by decide +kernel
theorem dX4_times_1 : decode cX4_times 1 = .ok (.iload_n 1, 1) := by decide +kernel
theorem dX4_times_2 : decode cX4_times 2 = .ok (.invokevirtual 87, 3) := by decide +kernel
theorem dX4_times_5 : decode cX4_times 5 = .ok (.astore_n 3, 1) := by decide +kernel
theorem dX4_times_6 : decode cX4_times 6 = .ok (.aload_n 0, 1) := by decide +kernel
theorem dX4_times_7 : decode cX4_times 7 = .ok (.iload_n 2, 1) := by decide +kernel
theorem dX4_times_8 : decode cX4_times 8 = .ok (.invokevirtual 87, 3) := by decide +kernel
theorem dX4_times_11 : decode cX4_times 11 = .ok (.astore 4, 2) := by decide +kernel
theorem dX4_times_13 : decode cX4_times 13 = .ok (.aload_n 0, 1) := by decide +kernel
theorem dX4_times_14 : decode cX4_times 14 = .ok (.getfield 43, 3) := by decide +kernel
theorem dX4_times_17 : decode cX4_times 17 = .ok (.aload_n 3, 1) := by decide +kernel
theorem dX4_times_18 : decode cX4_times 18 = .ok (.getfield 91, 3) := by decide +kernel
theorem dX4_times_21 : decode cX4_times 21 = .ok (.aload 4, 2) := by decide +kernel
theorem dX4_times_23 : decode cX4_times 23 = .ok (.getfield 91, 3) := by decide +kernel
theorem dX4_times_26 : decode cX4_times 26 = .ok (.invokevirtual 97, 3) := by decide +kernel
theorem dX4_times_29 : decode cX4_times 29 = .ok (.aload_n 0, 1) := by decide +kernel
theorem dX4_times_30 : decode cX4_times 30 = .ok (.getfield 46, 3) := by decide +kernel
theorem dX4_times_33 : decode cX4_times 33 = .ok (.aload_n 3, 1) := by decide +kernel
theorem dX4_times_34 : decode cX4_times 34 = .ok (.getfield 94, 3) := by decide +kernel
theorem dX4_times_37 : decode cX4_times 37 = .ok (.aload 4, 2) := by decide +kernel
theorem dX4_times_39 : decode cX4_times 39 = .ok (.getfield 94, 3) := by decide +kernel
theorem dX4_times_42 : decode cX4_times 42 = .ok (.invokevirtual 97, 3) := by decide +kernel
theorem dX4_times_45 : decode cX4_times 45 = .ok (.aload_n 0, 1) := by decide +kernel
theorem dX4_times_46 : decode cX4_times 46 = .ok (.aload_n 3, 1) := by decide +kernel
theorem dX4_times_47 : decode cX4_times 47 = .ok (.getfield 101, 3) := by decide +kernel
theorem dX4_times_50 : decode cX4_times 50 = .ok (.aload 4, 2) := by decide +kernel
theorem dX4_times_52 : decode cX4_times 52 = .ok (.getfield 101, 3) := by decide +kernel
theorem dX4_times_55 : decode cX4_times 55 = .ok (.imul, 1) := by decide +kernel
theorem dX4_times_56 : decode cX4_times 56 = .ok (.invokevirtual 83, 3) := by decide +kernel
theorem dX4_times_59 : decode cX4_times 59 = .ok (.ireturn, 1) := by decide +kernel
theorem dX4_over_0 : decode cX4_over 0 = .ok (.aload_n 0, 1) := by decide +kernel
theorem dX4_over_1 : decode cX4_over 1 = .ok (.iload_n 1, 1) := by decide +kernel
theorem dX4_over_2 : decode cX4_over 2 = .ok (.invokevirtual 87, 3) := by decide +kernel
theorem dX4_over_5 : decode cX4_over 5 = .ok (.astore_n 3, 1) := by decide +kernel
theorem dX4_over_6 : decode cX4_over 6 = .ok (.aload_n 0, 1) := by decide +kernel
theorem dX4_over_7 : decode cX4_over 7 = .ok (.iload_n 2, 1) := by decide +kernel
theorem dX4_over_8 : decode cX4_over 8 = .ok (.invokevirtual 87, 3) := by decide +kernel
theorem dX4_over_11 : decode cX4_over 11 = .ok (.astore 4, 2) := by decide +kernel
theorem dX4_over_13 : decode cX4_over 13 = .ok (.aload 4, 2) := by decide +kernel
theorem dX4_over_15 : decode cX4_over 15 = .ok (.getfield 101, 3) := by decide +kernel
theorem dX4_over_18 : decode cX4_over 18 = .ok (.ifCond .ne 13, 3) := by decide +kernel
theorem dX4_over_21 : decode cX4_over 21 = .ok (.new 72, 3) := by decide +kernel
theorem dX4_over_24 : decode cX4_over 24 = .ok (.dup, 1) := by decide +kernel
theorem dX4_over_25 : decode cX4_over 25 = .ok (.ldc 74, 2) := by decide +kernel
theorem dX4_over_27 : decode cX4_over 27 = .ok (.invokespecial 76, 3) := by decide +kernel
theorem dX4_over_30 : decode cX4_over 30 = .ok (.athrow, 1) := by decide +kernel
theorem dX4_over_31 : decode cX4_over 31 = .ok (.aload_n 0, 1) := by decide +kernel
theorem dX4_over_32 : decode cX4_over 32 = .ok (.getfield 43, 3) := by decide +kernel
theorem dX4_over_35 : decode cX4_over 35 = .ok (.aload_n 3, 1) := by decide +kernel
theorem dX4_over_36 : decode cX4_over 36 = .ok (.getfield 91, 3) := by decide +kernel
theorem dX4_over_39 : decode cX4_over 39 = .ok (.aload 4, 2) := by decide +kernel
theorem dX4_over_41 : decode cX4_over 41 = .ok (.getfield 94, 3) := by decide +kernel
theorem dX4_over_44 : decode cX4_over 44 = .ok (.invokevirtual 97, 3) := by decide +kernel
theorem dX4_over_47 : decode cX4_over 47 = .ok (.aload_n 0, 1) := by decide +kernel
theorem dX4_over_48 : decode cX4_over 48 = .ok (.getfield 46, 3) := by decide +kernel
theorem dX4_over_51 : decode cX4_over 51 = .ok (.aload_n 3, 1) := by decide +kernel
theorem dX4_over_52 : decode cX4_over 52 = .ok (.getfield 94, 3) := by decide +kernel
theorem dX4_over_55 : decode cX4_over 55 = .ok (.aload 4, 2) := by decide +kernel
theorem dX4_over_57 : decode cX4_over 57 = .ok (.getfield 91, 3) := by decide +kernel
theorem dX4_over_60 : decode cX4_over 60 = .ok (.invokevirtual 97, 3) := by decide +kernel
theorem dX4_over_63 : decode cX4_over 63 = .ok (.aload_n 0, 1) := by decide +kernel
theorem dX4_over_64 : decode cX4_over 64 = .ok (.aload_n 3, 1) := by decide +kernel
theorem dX4_over_65 : decode cX4_over 65 = .ok (.getfield 101, 3) := by decide +kernel
theorem dX4_over_68 : decode cX4_over 68 = .ok (.aload 4, 2) := by decide +kernel
theorem dX4_over_70 : decode cX4_over 70 = .ok (.getfield 101, 3) := by decide +kernel
theorem dX4_over_73 : decode cX4_over 73 = .ok (.imul, 1) := by decide +kernel
theorem dX4_over_74 : decode cX4_over 74 = .ok (.invokevirtual 83, 3) := by decide +kernel
theorem dX4_over_77 : decode cX4_over 77 = .ok (.ireturn, 1) := by decide +kernel
theorem dX4_order_0 : decode cX4_order 0 = .ok (.aload_n 0, 1) := by decide +kernel
theorem dX4_order_1 : decode cX4_order 1 = .ok (.iload_n 1, 1) := by decide +kernel
theorem dX4_order_2 : decode cX4_order 2 = .ok (.invokevirtual 87, 3) := by decide +kernel
theorem dX4_order_5 : decode cX4_order 5 = .ok (.astore_n 3, 1) := by decide +kernel
theorem dX4_order_6 : decode cX4_order 6 = .ok (.aload_n 0, 1) := by decide +kernel
theorem dX4_order_7 : decode cX4_order 7 = .ok (.iload_n 2, 1) := by decide +kernel
theorem dX4_order_8 : decode cX4_order 8 = .ok (.invokevirtual 87, 3) := by decide +kernel
theorem dX4_order_11 : decode cX4_order 11 = .ok (.astore 4, 2) := by decide +kernel
theorem dX4_order_13 : decode cX4_order 13 = .ok (.aload_n 3, 1) := by decide +kernel
theorem dX4_order_14 : decode cX4_order 14 = .ok (.getfield 101, 3) := by decide +kernel
theorem dX4_order_17 : decode cX4_order 17 = .ok (.aload 4, 2) := by decide +kernel
theorem dX4_order_19 : decode cX4_order 19 = .ok (.getfield 101, 3) := by decide +kernel
theorem dX4_order_22 : decode cX4_order 22 = .ok (.if_icmp .eq 21, 3) := by decide +kernel
theorem dX4_order_25 : decode cX4_order 25 = .ok (.aload_n 3, 1) := by decide +kernel
theorem dX4_order_26 : decode cX4_order 26 = .ok (.getfield 101, 3) := by decide +kernel
theorem dX4_order_29 : decode cX4_order 29 = .ok (.aload 4, 2) := by decide +kernel
theorem dX4_order_31 : decode cX4_order 31 = .ok (.getfield 101, 3) := by decide +kernel
theorem dX4_order_34 : decode cX4_order 34 = .ok (.if_icmp .ge 7, 3) := by decide +kernel
theorem dX4_order_37 : decode cX4_order 37 = .ok (.iconst (-1), 1) := by decide +kernel
theorem dX4_order_38 : decode cX4_order 38 = .ok (.goto 4, 3) := by decide +kernel
theorem dX4_order_41 : decode cX4_order 41 = .ok (.iconst 1, 1) := by decide +kernel
theorem dX4_order_42 : decode cX4_order 42 = .ok (.ireturn, 1) := by decide +kernel
theorem dX4_order_43 : decode cX4_order 43 = .ok (.aload_n 0, 1) := by decide +kernel
theorem dX4_order_44 : decode cX4_order 44 = .ok (.getfield 49, 3) := by decide +kernel
theorem dX4_order_47 : decode cX4_order 47 = .ok (.aload_n 3, 1) := by decide +kernel
theorem dX4_order_48 : decode cX4_order 48 = .ok (.getfield 91, 3) := by decide +kernel
theorem dX4_order_51 : decode cX4_order 51 = .ok (.aload 4, 2) := by decide +kernel
theorem dX4_order_53 : decode cX4_order 53 = .ok (.getfield 94, 3) := by decide +kernel
theorem dX4_order_56 : decode cX4_order 56 = .ok (.invokevirtual 97, 3) := by decide +kernel
theorem dX4_order_59 : decode cX4_order 59 = .ok (.aload_n 0, 1) := by decide +kernel
theorem dX4_order_60 : decode cX4_order 60 = .ok (.getfield 52, 3) := by decide +kernel
theorem dX4_order_63 : decode cX4_order 63 = .ok (.aload 4, 2) := by decide +kernel
theorem dX4_order_65 : decode cX4_order 65 = .ok (.getfield 91, 3) := by decide +kernel
theorem dX4_order_68 : decode cX4_order 68 = .ok (.aload_n 3, 1) := by decide +kernel
theorem dX4_order_69 : decode cX4_order 69 = .ok (.getfield 94, 3) := by decide +kernel
theorem dX4_order_72 : decode cX4_order 72 = .ok (.invokevirtual 97, 3) := by decide +kernel
theorem dX4_order_75 : decode cX4_order 75 = .ok (.aload_n 3, 1) := by decide +kernel
theorem dX4_order_76 : decode cX4_order 76 = .ok (.getfield 101, 3) := by decide +kernel
theorem dX4_order_79 : decode cX4_order 79 = .ok (.aload_n 0, 1) := by decide +kernel
theorem dX4_order_80 : decode cX4_order 80 = .ok (.getfield 49, 3) := by decide +kernel
theorem dX4_order_83 : decode cX4_order 83 = .ok (.aload_n 0, 1) := by decide +kernel
theorem dX4_order_84 : decode cX4_order 84 = .ok (.getfield 52, 3) := by decide +kernel
theorem dX4_order_87 : decode cX4_order 87 = .ok (.invokevirtual 108, 3) := by decide +kernel
theorem dX4_order_90 : decode cX4_order 90 = .ok (.imul, 1) := by decide +kernel
theorem dX4_order_91 : decode cX4_order 91 = .ok (.ireturn, 1) := by decide +kernel
theorem dX4_root_0 : decode cX4_root 0 = .ok (.aload_n 0, 1) := by decide +kernel
theorem dX4_root_1 : decode cX4_root 1 = .ok (.iload_n 1, 1) := by decide +kernel
theorem dX4_root_2 : decode cX4_root 2 = .ok (.invokevirtual 87, 3) := by decide +kernel
theorem dX4_root_5 : decode cX4_root 5 = .ok (.astore_n 3, 1) := by decide +kernel
theorem dX4_root_6 : decode cX4_root 6 = .ok (.aload_n 3, 1) := by decide +kernel
theorem dX4_root_7 : decode cX4_root 7 = .ok (.getfield 101, 3) := by decide +kernel
theorem dX4_root_10 : decode cX4_root 10 = .ok (.ifCond .ge 13, 3) := by decide +kernel
theorem dX4_root_13 : decode cX4_root 13 = .ok (.new 115, 3) := by decide +kernel
theorem dX4_root_16 : decode cX4_root 16 = .ok (.dup, 1) := by decide +kernel
theorem dX4_root_17 : decode cX4_root 17 = .ok (.ldc 117, 2) := by decide +kernel
theorem dX4_root_19 : decode cX4_root 19 = .ok (.invokespecial 119, 3) := by decide +kernel
theorem dX4_root_22 : decode cX4_root 22 = .ok (.athrow, 1) := by decide +kernel
theorem dX4_root_23 : decode cX4_root 23 = .ok (.iload_n 2, 1) := by decide +kernel
theorem dX4_root_24 : decode cX4_root 24 = .ok (.ifCond .lt 10, 3) := by decide +kernel
theorem dX4_root_27 : decode cX4_root 27 = .ok (.iload_n 2, 1) := by decide +kernel
theorem dX4_root_28 : decode cX4_root 28 = .ok (.sipush 200, 3) := by decide +kernel
theorem dX4_root_31 : decode cX4_root 31 = .ok (.if_icmp .le 13, 3) := by decide +kernel
theorem dX4_root_34 : decode cX4_root 34 = .ok (.new 115, 3) := by decide +kernel
theorem dX4_root_37 : decode cX4_root 37 = .ok (.dup, 1) := by decide +kernel
theorem dX4_root_38 : decode cX4_root 38 = .ok (.ldc 120, 2) := by decide +kernel
theorem dX4_root_40 : decode cX4_root 40 = .ok (.invokespecial 119, 3) := by decide +kernel
theorem dX4_root_43 : decode cX4_root 43 = .ok (.athrow, 1) := by decide +kernel
theorem dX4_root_44 : decode cX4_root 44 = .ok (.aload_n 0, 1) := by decide +kernel
theorem dX4_root_45 : decode cX4_root 45 = .ok (.getfield 122, 3) := by decide +kernel
theorem dX4_root_48 : decode cX4_root 48 = .ok (.bipush 40, 2) := by decide +kernel
theorem dX4_root_50 : decode cX4_root 50 = .ok (.if_icmp .ge 15, 3) := by decide +kernel
theorem dX4_root_53 : decode cX4_root 53 = .ok (.aload_n 0, 1) := by decide +kernel
theorem dX4_root_54 : decode cX4_root 54 = .ok (.getfield 125, 3) := by decide +kernel
theorem dX4_root_57 : decode cX4_root 57 = .ok (.iconst 2, 1) := by decide +kernel
theorem dX4_root_58 : decode cX4_root 58 = .ok (.iadd, 1) := by decide +kernel
theorem dX4_root_59 : decode cX4_root 59 = .ok (.sipush 150, 3) := by decide +kernel
theorem dX4_root_62 : decode cX4_root 62 = .ok (.if_icmp .le 5, 3) := by decide +kernel
theorem dX4_root_65 : decode cX4_root 65 = .ok (.iconst (-1), 1) := by decide +kernel
theorem dX4_root_66 : decode cX4_root 66 = .ok (.ireturn, 1) := by decide +kernel
theorem dX4_root_67 : decode cX4_root 67 = .ok (.aload_n 0, 1) := by decide +kernel
theorem dX4_root_68 : decode cX4_root 68 = .ok (.aload_n 3, 1) := by decide +kernel
theorem dX4_root_69 : decode cX4_root 69 = .ok (.iload_n 2, 1) := by decide +kernel
theorem dX4_root_70 : decode cX4_root 70 = .ok (.invokevirtual 128, 3) := by decide +kernel
theorem dX4_root_73 : decode cX4_root 73 = .ok (.istore 4, 2) := by decide +kernel
theorem dX4_root_75 : decode cX4_root 75 = .ok (.aload_n 0, 1) := by decide +kernel
theorem dX4_root_76 : decode cX4_root 76 = .ok (.iload_n 2, 1) := by decide +kernel
theorem dX4_root_77 : decode cX4_root 77 = .ok (.invokevirtual 132, 3) := by decide +kernel
theorem dX4_root_80 : decode cX4_root 80 = .ok (.aload_n 0, 1) := by decide +kernel
theorem dX4_root_81 : decode cX4_root 81 = .ok (.aload_n 0, 1) := by decide +kernel
theorem dX4_root_82 : decode cX4_root 82 = .ok (.getfield 122, 3) := by decide +kernel
theorem dX4_root_85 : decode cX4_root 85 = .ok (.iconst 0, 1) := by decide +kernel
theorem dX4_root_86 : decode cX4_root 86 = .ok (.aload_n 0, 1) := by decide +kernel
theorem dX4_root_87 : decode cX4_root 87 = .ok (.iconst 1, 1) := by decide +kernel
theorem dX4_root_88 : decode cX4_root 88 = .ok (.invokevirtual 83, 3) := by decide +kernel
theorem dX4_root_91 : decode cX4_root 91 = .ok (.invokevirtual 135, 3) := by decide +kernel
theorem dX4_root_94 : decode cX4_root 94 = .ok (.iload 4, 2) := by decide +kernel
theorem dX4_root_96 : decode cX4_root 96 = .ok (.ifCond .ne 18, 3) := by decide +kernel
theorem dX4_root_99 : decode cX4_root 99 = .ok (.aload_n 0, 1) := by decide +kernel
theorem dX4_root_100 : decode cX4_root 100 = .ok (.getfield 49, 3) := by decide +kernel
theorem dX4_root_103 : decode cX4_root 103 = .ok (.aload_n 0, 1) := by decide +kernel
theorem dX4_root_104 : decode cX4_root 104 = .ok (.getfield 49, 3) := by decide +kernel
theorem dX4_root_107 : decode cX4_root 107 = .ok (.aload_n 0, 1) := by decide +kernel
theorem dX4_root_108 : decode cX4_root 108 = .ok (.getfield 36, 3) := by decide +kernel
theorem dX4_root_111 : decode cX4_root 111 = .ok (.invokevirtual 105, 3) := by decide +kernel
theorem dX4_root_114 : decode cX4_root 114 = .ok (.aload_n 0, 1) := by decide +kernel
theorem dX4_root_115 : decode cX4_root 115 = .ok (.iload_n 2, 1) := by decide +kernel
theorem dX4_root_116 : decode cX4_root 116 = .ok (.invokevirtual 132, 3) := by decide +kernel
theorem dX4_root_119 : decode cX4_root 119 = .ok (.aload_n 0, 1) := by decide +kernel
theorem dX4_root_120 : decode cX4_root 120 = .ok (.aload_n 0, 1) := by decide +kernel
theorem dX4_root_121 : decode cX4_root 121 = .ok (.getfield 122, 3) := by decide +kernel
theorem dX4_root_124 : decode cX4_root 124 = .ok (.iconst 1, 1) := by decide +kernel
theorem dX4_root_125 : decode cX4_root 125 = .ok (.aload_n 0, 1) := by decide +kernel
theorem dX4_root_126 : decode cX4_root 126 = .ok (.iconst 1, 1) := by decide +kernel
theorem dX4_root_127 : decode cX4_root 127 = .ok (.invokevirtual 83, 3) := by decide +kernel
theorem dX4_root_130 : decode cX4_root 130 = .ok (.invokevirtual 135, 3) := by decide +kernel
theorem dX4_root_133 : decode cX4_root 133 = .ok (.aload_n 0, 1) := by decide +kernel
theorem dX4_root_134 : decode cX4_root 134 = .ok (.dup, 1) := by decide +kernel
theorem dX4_root_135 : decode cX4_root 135 = .ok (.getfield 122, 3) := by decide +kernel
theorem dX4_root_138 : decode cX4_root 138 = .ok (.dup_x1, 1) := by decide +kernel
theorem dX4_root_139 : decode cX4_root 139 = .ok (.iconst 1, 1) := by decide +kernel
theorem dX4_root_140 : decode cX4_root 140 = .ok (.iadd, 1) := by decide +kernel
theorem dX4_root_141 : decode cX4_root 141 = .ok (.putfield 122, 3) := by decide +kernel
theorem dX4_root_144 : decode cX4_root 144 = .ok (.ireturn, 1) := by decide +kernel
theorem dX4_end_0 : decode cX4_end 0 = .ok (.iload_n 1, 1) := by decide +kernel
theorem dX4_end_1 : decode cX4_end 1 = .ok (.ifCond .lt 9, 3) := by decide +kernel
theorem dX4_end_4 : decode cX4_end 4 = .ok (.iload_n 1, 1) := by decide +kernel
theorem dX4_end_5 : decode cX4_end 5 = .ok (.bipush 40, 2) := by decide +kernel
theorem dX4_end_7 : decode cX4_end 7 = .ok (.if_icmp .lt 13, 3) := by decide +kernel
theorem dX4_end_10 : decode cX4_end 10 = .ok (.new 139, 3) := by decide +kernel
theorem dX4_end_13 : decode cX4_end 13 = .ok (.dup, 1) := by decide +kernel
theorem dX4_end_14 : decode cX4_end 14 = .ok (.ldc 141, 2) := by decide +kernel
theorem dX4_end_16 : decode cX4_end 16 = .ok (.invokespecial 143, 3) := by decide +kernel
theorem dX4_end_19 : decode cX4_end 19 = .ok (.athrow, 1) := by decide +kernel
theorem dX4_end_20 : decode cX4_end 20 = .ok (.iload_n 2, 1) := by decide +kernel
theorem dX4_end_21 : decode cX4_end 21 = .ok (.ifCond .lt 8, 3) := by decide +kernel
theorem dX4_end_24 : decode cX4_end 24 = .ok (.iload_n 2, 1) := by decide +kernel
theorem dX4_end_25 : decode cX4_end 25 = .ok (.iconst 2, 1) := by decide +kernel
theorem dX4_end_26 : decode cX4_end 26 = .ok (.if_icmp .lt 13, 3) := by decide +kernel
theorem dX4_end_29 : decode cX4_end 29 = .ok (.new 139, 3) := by decide +kernel
theorem dX4_end_32 : decode cX4_end 32 = .ok (.dup, 1) := by decide +kernel
theorem dX4_end_33 : decode cX4_end 33 = .ok (.ldc 144, 2) := by decide +kernel
theorem dX4_end_35 : decode cX4_end 35 = .ok (.invokespecial 143, 3) := by decide +kernel
theorem dX4_end_38 : decode cX4_end 38 = .ok (.athrow, 1) := by decide +kernel
theorem dX4_end_39 : decode cX4_end 39 = .ok (.iload_n 1, 1) := by decide +kernel
theorem dX4_end_40 : decode cX4_end 40 = .ok (.iconst 2, 1) := by decide +kernel
theorem dX4_end_41 : decode cX4_end 41 = .ok (.imul, 1) := by decide +kernel
theorem dX4_end_42 : decode cX4_end 42 = .ok (.iload_n 2, 1) := by decide +kernel
theorem dX4_end_43 : decode cX4_end 43 = .ok (.iadd, 1) := by decide +kernel
theorem dX4_end_44 : decode cX4_end 44 = .ok (.istore_n 3, 1) := by decide +kernel
theorem dX4_end_45 : decode cX4_end 45 = .ok (.iload_n 3, 1) := by decide +kernel
theorem dX4_end_46 : decode cX4_end 46 = .ok (.ifCond .lt 21, 3) := by decide +kernel
theorem dX4_end_49 : decode cX4_end 49 = .ok (.iload_n 3, 1) := by decide +kernel
theorem dX4_end_50 : decode cX4_end 50 = .ok (.aload_n 0, 1) := by decide +kernel
theorem dX4_end_51 : decode cX4_end 51 = .ok (.getfield 28, 3) := by decide +kernel
theorem dX4_end_54 : decode cX4_end 54 = .ok (.arraylength, 1) := by decide +kernel
theorem dX4_end_55 : decode cX4_end 55 = .ok (.if_icmp .ge 12, 3) := by decide +kernel
theorem dX4_end_58 : decode cX4_end 58 = .ok (.aload_n 0, 1) := by decide +kernel
theorem dX4_end_59 : decode cX4_end 59 = .ok (.getfield 28, 3) := by decide +kernel
theorem dX4_end_62 : decode cX4_end 62 = .ok (.iload_n 3, 1) := by decide +kernel
theorem dX4_end_63 : decode cX4_end 63 = .ok (.iaload, 1) := by decide +kernel
theorem dX4_end_64 : decode cX4_end 64 = .ok (.goto 4, 3) := by decide +kernel
theorem dX4_end_67 : decode cX4_end 67 = .ok (.iconst 0, 1) := by decide +kernel
theorem dX4_end_68 : decode cX4_end 68 = .ok (.ireturn, 1) := by decide +kernel
theorem dX4_round_0 : decode cX4_round 0 = .ok (.aload_n 0, 1) := by decide +kernel
theorem dX4_round_1 : decode cX4_round 1 = .ok (.iload_n 1, 1) := by decide +kernel
theorem dX4_round_2 : decode cX4_round 2 = .ok (.invokevirtual 87, 3) := by decide +kernel
theorem dX4_round_5 : decode cX4_round 5 = .ok (.astore 5, 2) := by decide +kernel
theorem dX4_round_7 : decode cX4_round 7 = .ok (.iload_n 2, 1) := by decide +kernel
theorem dX4_round_8 : decode cX4_round 8 = .ok (.ifCond .lt 8, 3) := by decide +kernel
theorem dX4_round_11 : decode cX4_round 11 = .ok (.iload_n 2, 1) := by decide +kernel
theorem dX4_round_12 : decode cX4_round 12 = .ok (.iconst 3, 1) := by decide +kernel
theorem dX4_round_13 : decode cX4_round 13 = .ok (.if_icmp .le 13, 3) := by decide +kernel
theorem dX4_round_16 : decode cX4_round 16 = .ok (.new 115, 3) := by decide +kernel
theorem dX4_round_19 : decode cX4_round 19 = .ok (.dup, 1) := by decide +kernel
theorem dX4_round_20 : decode cX4_round 20 = .ok (.ldc 146, 2) := by decide +kernel
theorem dX4_round_22 : decode cX4_round 22 = .ok (.invokespecial 119, 3) := by decide +kernel
theorem dX4_round_25 : decode cX4_round 25 = .ok (.athrow, 1) := by decide +kernel
theorem dX4_round_26 : decode cX4_round 26 = .ok (.lload_n 3, 1) := by decide +kernel
theorem dX4_round_27 : decode cX4_round 27 = .ok (.lconst 1, 1) := by decide +kernel
theorem dX4_round_28 : decode cX4_round 28 = .ok (.lcmp, 1) := by decide +kernel
theorem dX4_round_29 : decode cX4_round 29 = .ok (.ifCond .ge 13, 3) := by decide +kernel
theorem dX4_round_32 : decode cX4_round 32 = .ok (.new 115, 3) := by decide +kernel
theorem dX4_round_35 : decode cX4_round 35 = .ok (.dup, 1) := by decide +kernel
theorem dX4_round_36 : decode cX4_round 36 = .ok (.ldc 148, 2) := by decide +kernel
theorem dX4_round_38 : decode cX4_round 38 = .ok (.invokespecial 119, 3) := by decide +kernel
theorem dX4_round_41 : decode cX4_round 41 = .ok (.athrow, 1) := by decide +kernel
theorem dX4_round_42 : decode cX4_round 42 = .ok (.aload_n 0, 1) := by decide +kernel
theorem dX4_round_43 : decode cX4_round 43 = .ok (.getfield 46, 3) := by decide +kernel
theorem dX4_round_46 : decode cX4_round 46 = .ok (.lload_n 3, 1) := by decide +kernel
theorem dX4_round_47 : decode cX4_round 47 = .ok (.invokevirtual 79, 3) := by decide +kernel
theorem dX4_round_50 : decode cX4_round 50 = .ok (.aload_n 0, 1) := by decide +kernel
theorem dX4_round_51 : decode cX4_round 51 = .ok (.getfield 52, 3) := by decide +kernel
theorem dX4_round_54 : decode cX4_round 54 = .ok (.aload 5, 2) := by decide +kernel
theorem dX4_round_56 : decode cX4_round 56 = .ok (.getfield 94, 3) := by decide +kernel
theorem dX4_round_59 : decode cX4_round 59 = .ok (.aload_n 0, 1) := by decide +kernel
theorem dX4_round_60 : decode cX4_round 60 = .ok (.getfield 46, 3) := by decide +kernel
theorem dX4_round_63 : decode cX4_round 63 = .ok (.invokevirtual 97, 3) := by decide +kernel
theorem dX4_round_66 : decode cX4_round 66 = .ok (.aload_n 0, 1) := by decide +kernel
theorem dX4_round_67 : decode cX4_round 67 = .ok (.getfield 61, 3) := by decide +kernel
theorem dX4_round_70 : decode cX4_round 70 = .ok (.aload 5, 2) := by decide +kernel
theorem dX4_round_72 : decode cX4_round 72 = .ok (.getfield 91, 3) := by decide +kernel
theorem dX4_round_75 : decode cX4_round 75 = .ok (.aload_n 0, 1) := by decide +kernel
theorem dX4_round_76 : decode cX4_round 76 = .ok (.getfield 52, 3) := by decide +kernel
theorem dX4_round_79 : decode cX4_round 79 = .ok (.invokevirtual 150, 3) := by decide +kernel
theorem dX4_round_82 : decode cX4_round 82 = .ok (.aload_n 0, 1) := by decide +kernel
theorem dX4_round_83 : decode cX4_round 83 = .ok (.getfield 49, 3) := by decide +kernel
theorem dX4_round_86 : decode cX4_round 86 = .ok (.aload_n 0, 1) := by decide +kernel
theorem dX4_round_87 : decode cX4_round 87 = .ok (.getfield 61, 3) := by decide +kernel
theorem dX4_round_90 : decode cX4_round 90 = .ok (.getfield 153, 3) := by decide +kernel
theorem dX4_round_93 : decode cX4_round 93 = .ok (.invokevirtual 156, 3) := by decide +kernel
theorem dX4_round_96 : decode cX4_round 96 = .ok (.aload_n 0, 1) := by decide +kernel
theorem dX4_round_97 : decode cX4_round 97 = .ok (.aload 5, 2) := by decide +kernel
theorem dX4_round_99 : decode cX4_round 99 = .ok (.getfield 101, 3) := by decide +kernel
theorem dX4_round_102 : decode cX4_round 102 = .ok (.iload_n 2, 1) := by decide +kernel
theorem dX4_round_103 : decode cX4_round 103 = .ok (.invokevirtual 160, 3) := by decide +kernel
theorem dX4_round_106 : decode cX4_round 106 = .ok (.ifCond .eq 18, 3) := by decide +kernel
theorem dX4_round_109 : decode cX4_round 109 = .ok (.aload_n 0, 1) := by decide +kernel
theorem dX4_round_110 : decode cX4_round 110 = .ok (.getfield 49, 3) := by decide +kernel
theorem dX4_round_113 : decode cX4_round 113 = .ok (.aload_n 0, 1) := by decide +kernel
theorem dX4_round_114 : decode cX4_round 114 = .ok (.getfield 49, 3) := by decide +kernel
theorem dX4_round_117 : decode cX4_round 117 = .ok (.aload_n 0, 1) := by decide +kernel
theorem dX4_round_118 : decode cX4_round 118 = .ok (.getfield 36, 3) := by decide +kernel
theorem dX4_round_121 : decode cX4_round 121 = .ok (.invokevirtual 105, 3) := by decide +kernel
theorem dX4_round_124 : decode cX4_round 124 = .ok (.aload_n 0, 1) := by decide +kernel
theorem dX4_round_125 : decode cX4_round 125 = .ok (.getfield 43, 3) := by decide +kernel
theorem dX4_round_128 : decode cX4_round 128 = .ok (.aload_n 0, 1) := by decide +kernel
theorem dX4_round_129 : decode cX4_round 129 = .ok (.getfield 49, 3) := by decide +kernel
theorem dX4_round_132 : decode cX4_round 132 = .ok (.aload_n 0, 1) := by decide +kernel
theorem dX4_round_133 : decode cX4_round 133 = .ok (.getfield 46, 3) := by decide +kernel
theorem dX4_round_136 : decode cX4_round 136 = .ok (.invokevirtual 97, 3) := by decide +kernel
theorem dX4_round_139 : decode cX4_round 139 = .ok (.aload_n 0, 1) := by decide +kernel
theorem dX4_round_140 : decode cX4_round 140 = .ok (.getfield 46, 3) := by decide +kernel
theorem dX4_round_143 : decode cX4_round 143 = .ok (.aload_n 0, 1) := by decide +kernel
theorem dX4_round_144 : decode cX4_round 144 = .ok (.getfield 36, 3) := by decide +kernel
theorem dX4_round_147 : decode cX4_round 147 = .ok (.invokevirtual 156, 3) := by decide +kernel
theorem dX4_round_150 : decode cX4_round 150 = .ok (.aload_n 0, 1) := by decide +kernel
theorem dX4_round_151 : decode cX4_round 151 = .ok (.aload 5, 2) := by decide +kernel
theorem dX4_round_153 : decode cX4_round 153 = .ok (.getfield 101, 3) := by decide +kernel
theorem dX4_round_156 : decode cX4_round 156 = .ok (.invokevirtual 83, 3) := by decide +kernel
theorem dX4_round_159 : decode cX4_round 159 = .ok (.ireturn, 1) := by decide +kernel
theorem dX4_turn_0 : decode cX4_turn 0 = .ok (.aload_n 0, 1) := by decide +kernel
theorem dX4_turn_1 : decode cX4_turn 1 = .ok (.iload_n 1, 1) := by decide +kernel
theorem dX4_turn_2 : decode cX4_turn 2 = .ok (.invokevirtual 87, 3) := by decide +kernel
theorem dX4_turn_5 : decode cX4_turn 5 = .ok (.astore 4, 2) := by decide +kernel
theorem dX4_turn_7 : decode cX4_turn 7 = .ok (.aload_n 0, 1) := by decide +kernel
theorem dX4_turn_8 : decode cX4_turn 8 = .ok (.getfield 49, 3) := by decide +kernel
theorem dX4_turn_11 : decode cX4_turn 11 = .ok (.iload_n 2, 1) := by decide +kernel
theorem dX4_turn_12 : decode cX4_turn 12 = .ok (.invokestatic 164, 3) := by decide +kernel
theorem dX4_turn_15 : decode cX4_turn 15 = .ok (.invokevirtual 79, 3) := by decide +kernel
theorem dX4_turn_18 : decode cX4_turn 18 = .ok (.aload_n 0, 1) := by decide +kernel
theorem dX4_turn_19 : decode cX4_turn 19 = .ok (.getfield 52, 3) := by decide +kernel
theorem dX4_turn_22 : decode cX4_turn 22 = .ok (.iload_n 3, 1) := by decide +kernel
theorem dX4_turn_23 : decode cX4_turn 23 = .ok (.invokestatic 164, 3) := by decide +kernel
theorem dX4_turn_26 : decode cX4_turn 26 = .ok (.invokevirtual 79, 3) := by decide +kernel
theorem dX4_turn_29 : decode cX4_turn 29 = .ok (.aload_n 0, 1) := by decide +kernel
theorem dX4_turn_30 : decode cX4_turn 30 = .ok (.getfield 43, 3) := by decide +kernel
theorem dX4_turn_33 : decode cX4_turn 33 = .ok (.aload 4, 2) := by decide +kernel
theorem dX4_turn_35 : decode cX4_turn 35 = .ok (.getfield 91, 3) := by decide +kernel
theorem dX4_turn_38 : decode cX4_turn 38 = .ok (.aload_n 0, 1) := by decide +kernel
theorem dX4_turn_39 : decode cX4_turn 39 = .ok (.getfield 49, 3) := by decide +kernel
theorem dX4_turn_42 : decode cX4_turn 42 = .ok (.invokevirtual 97, 3) := by decide +kernel
theorem dX4_turn_45 : decode cX4_turn 45 = .ok (.aload_n 0, 1) := by decide +kernel
theorem dX4_turn_46 : decode cX4_turn 46 = .ok (.getfield 46, 3) := by decide +kernel
theorem dX4_turn_49 : decode cX4_turn 49 = .ok (.aload 4, 2) := by decide +kernel
theorem dX4_turn_51 : decode cX4_turn 51 = .ok (.getfield 94, 3) := by decide +kernel
theorem dX4_turn_54 : decode cX4_turn 54 = .ok (.aload_n 0, 1) := by decide +kernel
theorem dX4_turn_55 : decode cX4_turn 55 = .ok (.getfield 52, 3) := by decide +kernel
theorem dX4_turn_58 : decode cX4_turn 58 = .ok (.invokevirtual 97, 3) := by decide +kernel
theorem dX4_turn_61 : decode cX4_turn 61 = .ok (.aload_n 0, 1) := by decide +kernel
theorem dX4_turn_62 : decode cX4_turn 62 = .ok (.aload 4, 2) := by decide +kernel
theorem dX4_turn_64 : decode cX4_turn 64 = .ok (.getfield 101, 3) := by decide +kernel
theorem dX4_turn_67 : decode cX4_turn 67 = .ok (.invokevirtual 83, 3) := by decide +kernel
theorem dX4_turn_70 : decode cX4_turn 70 = .ok (.ireturn, 1) := by decide +kernel
theorem dX4_weight_0 : decode cX4_weight 0 = .ok (.aload_n 0, 1) := by decide +kernel
theorem dX4_weight_1 : decode cX4_weight 1 = .ok (.getfield 168, 3) := by decide +kernel
theorem dX4_weight_4 : decode cX4_weight 4 = .ok (.ifCond .lt 29, 3) := by decide +kernel
theorem dX4_weight_7 : decode cX4_weight 7 = .ok (.aload_n 0, 1) := by decide +kernel
theorem dX4_weight_8 : decode cX4_weight 8 = .ok (.getfield 168, 3) := by decide +kernel
theorem dX4_weight_11 : decode cX4_weight 11 = .ok (.aload_n 0, 1) := by decide +kernel
theorem dX4_weight_12 : decode cX4_weight 12 = .ok (.getfield 32, 3) := by decide +kernel
theorem dX4_weight_15 : decode cX4_weight 15 = .ok (.arraylength, 1) := by decide +kernel
theorem dX4_weight_16 : decode cX4_weight 16 = .ok (.if_icmp .ge 17, 3) := by decide +kernel
theorem dX4_weight_19 : decode cX4_weight 19 = .ok (.lload_n 1, 1) := by decide +kernel
theorem dX4_weight_20 : decode cX4_weight 20 = .ok (.lconst 0, 1) := by decide +kernel
theorem dX4_weight_21 : decode cX4_weight 21 = .ok (.lcmp, 1) := by decide +kernel
theorem dX4_weight_22 : decode cX4_weight 22 = .ok (.ifCond .lt 11, 3) := by decide +kernel
theorem dX4_weight_25 : decode cX4_weight 25 = .ok (.lload_n 1, 1) := by decide +kernel
theorem dX4_weight_26 : decode cX4_weight 26 = .ok (.ldc2_w 171, 3) := by decide +kernel
theorem dX4_weight_29 : decode cX4_weight 29 = .ok (.lcmp, 1) := by decide +kernel
theorem dX4_weight_30 : decode cX4_weight 30 = .ok (.ifCond .le 5, 3) := by decide +kernel
theorem dX4_weight_33 : decode cX4_weight 33 = .ok (.iconst 0, 1) := by decide +kernel
theorem dX4_weight_34 : decode cX4_weight 34 = .ok (.ireturn, 1) := by decide +kernel
theorem dX4_weight_35 : decode cX4_weight 35 = .ok (.aload_n 0, 1) := by decide +kernel
theorem dX4_weight_36 : decode cX4_weight 36 = .ok (.getfield 32, 3) := by decide +kernel
theorem dX4_weight_39 : decode cX4_weight 39 = .ok (.aload_n 0, 1) := by decide +kernel
theorem dX4_weight_40 : decode cX4_weight 40 = .ok (.getfield 168, 3) := by decide +kernel
theorem dX4_weight_43 : decode cX4_weight 43 = .ok (.lload_n 1, 1) := by decide +kernel
theorem dX4_weight_44 : decode cX4_weight 44 = .ok (.lastore, 1) := by decide +kernel
theorem dX4_weight_45 : decode cX4_weight 45 = .ok (.aload_n 0, 1) := by decide +kernel
theorem dX4_weight_46 : decode cX4_weight 46 = .ok (.dup, 1) := by decide +kernel
theorem dX4_weight_47 : decode cX4_weight 47 = .ok (.getfield 168, 3) := by decide +kernel
theorem dX4_weight_50 : decode cX4_weight 50 = .ok (.iconst 1, 1) := by decide +kernel
theorem dX4_weight_51 : decode cX4_weight 51 = .ok (.iadd, 1) := by decide +kernel
theorem dX4_weight_52 : decode cX4_weight 52 = .ok (.putfield 168, 3) := by decide +kernel
theorem dX4_weight_55 : decode cX4_weight 55 = .ok (.iconst 1, 1) := by decide +kernel
theorem dX4_weight_56 : decode cX4_weight 56 = .ok (.ireturn, 1) := by decide +kernel
theorem dX4_clearWeights_0 : decode cX4_clearWeights 0 = .ok (.iconst 0, 1) := by decide +kernel
theorem dX4_clearWeights_1 : decode cX4_clearWeights 1 = .ok (.istore_n 1, 1) := by decide +kernel
theorem dX4_clearWeights_2 : decode cX4_clearWeights 2 = .ok (.iload_n 1, 1) := by decide +kernel
theorem dX4_clearWeights_3 : decode cX4_clearWeights 3 = .ok (.aload_n 0, 1) := by decide +kernel
theorem dX4_clearWeights_4 : decode cX4_clearWeights 4 = .ok (.getfield 32, 3) := by decide +kernel
theorem dX4_clearWeights_7 : decode cX4_clearWeights 7 = .ok (.arraylength, 1) := by decide +kernel
theorem dX4_clearWeights_8 : decode cX4_clearWeights 8 = .ok (.if_icmp .ge 16, 3) := by decide +kernel
theorem dX4_clearWeights_11 : decode cX4_clearWeights 11 = .ok (.aload_n 0, 1) := by decide +kernel
theorem dX4_clearWeights_12 : decode cX4_clearWeights 12 = .ok (.getfield 32, 3) := by decide +kernel
theorem dX4_clearWeights_15 : decode cX4_clearWeights 15 = .ok (.iload_n 1, 1) := by decide +kernel
theorem dX4_clearWeights_16 : decode cX4_clearWeights 16 = .ok (.lconst 0, 1) := by decide +kernel
theorem dX4_clearWeights_17 : decode cX4_clearWeights 17 = .ok (.lastore, 1) := by decide +kernel
theorem dX4_clearWeights_18 : decode cX4_clearWeights 18 = .ok (.iinc 1 1, 3) := by decide +kernel
theorem dX4_clearWeights_21 : decode cX4_clearWeights 21 = .ok (.goto (-19), 3) := by decide +kernel
theorem dX4_clearWeights_24 : decode cX4_clearWeights 24 = .ok (.aload_n 0, 1) := by decide +kernel
theorem dX4_clearWeights_25 : decode cX4_clearWeights 25 = .ok (.iconst 0, 1) := by decide +kernel
theorem dX4_clearWeights_26 : decode cX4_clearWeights 26 = .ok (.putfield 168, 3) := by decide +kernel
theorem dX4_clearWeights_29 : decode cX4_clearWeights 29 = .ok (.return_, 1) := by decide +kernel
theorem dX4_share_0 : decode cX4_share 0 = .ok (.iload_n 3, 1) := by decide +kernel
theorem dX4_share_1 : decode cX4_share 1 = .ok (.ifCond .lt 12, 3) := by decide +kernel
theorem dX4_share_4 : decode cX4_share 4 = .ok (.iload_n 3, 1) := by decide +kernel
theorem dX4_share_5 : decode cX4_share 5 = .ok (.aload_n 0, 1) := by decide +kernel
theorem dX4_share_6 : decode cX4_share 6 = .ok (.getfield 32, 3) := by decide +kernel
theorem dX4_share_9 : decode cX4_share 9 = .ok (.arraylength, 1) := by decide +kernel
theorem dX4_share_10 : decode cX4_share 10 = .ok (.if_icmp .lt 13, 3) := by decide +kernel
theorem dX4_share_13 : decode cX4_share 13 = .ok (.new 139, 3) := by decide +kernel
theorem dX4_share_16 : decode cX4_share 16 = .ok (.dup, 1) := by decide +kernel
theorem dX4_share_17 : decode cX4_share 17 = .ok (.ldc 173, 2) := by decide +kernel
theorem dX4_share_19 : decode cX4_share 19 = .ok (.invokespecial 143, 3) := by decide +kernel
theorem dX4_share_22 : decode cX4_share 22 = .ok (.athrow, 1) := by decide +kernel
theorem dX4_share_23 : decode cX4_share 23 = .ok (.lload_n 1, 1) := by decide +kernel
theorem dX4_share_24 : decode cX4_share 24 = .ok (.lconst 0, 1) := by decide +kernel
theorem dX4_share_25 : decode cX4_share 25 = .ok (.lcmp, 1) := by decide +kernel
theorem dX4_share_26 : decode cX4_share 26 = .ok (.ifCond .lt 11, 3) := by decide +kernel
theorem dX4_share_29 : decode cX4_share 29 = .ok (.lload_n 1, 1) := by decide +kernel
theorem dX4_share_30 : decode cX4_share 30 = .ok (.ldc2_w 171, 3) := by decide +kernel
theorem dX4_share_33 : decode cX4_share 33 = .ok (.lcmp, 1) := by decide +kernel
theorem dX4_share_34 : decode cX4_share 34 = .ok (.ifCond .le 13, 3) := by decide +kernel
theorem dX4_share_37 : decode cX4_share 37 = .ok (.new 115, 3) := by decide +kernel
theorem dX4_share_40 : decode cX4_share 40 = .ok (.dup, 1) := by decide +kernel
theorem dX4_share_41 : decode cX4_share 41 = .ok (.ldc 175, 2) := by decide +kernel
theorem dX4_share_43 : decode cX4_share 43 = .ok (.invokespecial 119, 3) := by decide +kernel
theorem dX4_share_46 : decode cX4_share 46 = .ok (.athrow, 1) := by decide +kernel
theorem dX4_share_47 : decode cX4_share 47 = .ok (.aload_n 0, 1) := by decide +kernel
theorem dX4_share_48 : decode cX4_share 48 = .ok (.invokevirtual 177, 3) := by decide +kernel
theorem dX4_share_51 : decode cX4_share 51 = .ok (.lstore 4, 2) := by decide +kernel
theorem dX4_share_53 : decode cX4_share 53 = .ok (.lload 4, 2) := by decide +kernel
theorem dX4_share_55 : decode cX4_share 55 = .ok (.lconst 0, 1) := by decide +kernel
theorem dX4_share_56 : decode cX4_share 56 = .ok (.lcmp, 1) := by decide +kernel
theorem dX4_share_57 : decode cX4_share 57 = .ok (.ifCond .gt 13, 3) := by decide +kernel
theorem dX4_share_60 : decode cX4_share 60 = .ok (.new 72, 3) := by decide +kernel
theorem dX4_share_63 : decode cX4_share 63 = .ok (.dup, 1) := by decide +kernel
theorem dX4_share_64 : decode cX4_share 64 = .ok (.ldc 181, 2) := by decide +kernel
theorem dX4_share_66 : decode cX4_share 66 = .ok (.invokespecial 76, 3) := by decide +kernel
theorem dX4_share_69 : decode cX4_share 69 = .ok (.athrow, 1) := by decide +kernel
theorem dX4_share_70 : decode cX4_share 70 = .ok (.lload_n 1, 1) := by decide +kernel
theorem dX4_share_71 : decode cX4_share 71 = .ok (.aload_n 0, 1) := by decide +kernel
theorem dX4_share_72 : decode cX4_share 72 = .ok (.getfield 32, 3) := by decide +kernel
theorem dX4_share_75 : decode cX4_share 75 = .ok (.iload_n 3, 1) := by decide +kernel
theorem dX4_share_76 : decode cX4_share 76 = .ok (.laload, 1) := by decide +kernel
theorem dX4_share_77 : decode cX4_share 77 = .ok (.lmul, 1) := by decide +kernel
theorem dX4_share_78 : decode cX4_share 78 = .ok (.lstore 6, 2) := by decide +kernel
theorem dX4_share_80 : decode cX4_share 80 = .ok (.aload_n 0, 1) := by decide +kernel
theorem dX4_share_81 : decode cX4_share 81 = .ok (.lload_n 1, 1) := by decide +kernel
theorem dX4_share_82 : decode cX4_share 82 = .ok (.lload 4, 2) := by decide +kernel
theorem dX4_share_84 : decode cX4_share 84 = .ok (.invokevirtual 183, 3) := by decide +kernel
theorem dX4_share_87 : decode cX4_share 87 = .ok (.lstore 8, 2) := by decide +kernel
theorem dX4_share_89 : decode cX4_share 89 = .ok (.lload 6, 2) := by decide +kernel
theorem dX4_share_91 : decode cX4_share 91 = .ok (.lload 4, 2) := by decide +kernel
theorem dX4_share_93 : decode cX4_share 93 = .ok (.ldiv, 1) := by decide +kernel
theorem dX4_share_94 : decode cX4_share 94 = .ok (.aload_n 0, 1) := by decide +kernel
theorem dX4_share_95 : decode cX4_share 95 = .ok (.lload_n 1, 1) := by decide +kernel
theorem dX4_share_96 : decode cX4_share 96 = .ok (.lload 4, 2) := by decide +kernel
theorem dX4_share_98 : decode cX4_share 98 = .ok (.iload_n 3, 1) := by decide +kernel
theorem dX4_share_99 : decode cX4_share 99 = .ok (.invokevirtual 187, 3) := by decide +kernel
theorem dX4_share_102 : decode cX4_share 102 = .ok (.i2l, 1) := by decide +kernel
theorem dX4_share_103 : decode cX4_share 103 = .ok (.lload 8, 2) := by decide +kernel
theorem dX4_share_105 : decode cX4_share 105 = .ok (.lcmp, 1) := by decide +kernel
theorem dX4_share_106 : decode cX4_share 106 = .ok (.ifCond .ge 7, 3) := by decide +kernel
theorem dX4_share_109 : decode cX4_share 109 = .ok (.iconst 1, 1) := by decide +kernel
theorem dX4_share_110 : decode cX4_share 110 = .ok (.goto 4, 3) := by decide +kernel
theorem dX4_share_113 : decode cX4_share 113 = .ok (.iconst 0, 1) := by decide +kernel
theorem dX4_share_114 : decode cX4_share 114 = .ok (.i2l, 1) := by decide +kernel
theorem dX4_share_115 : decode cX4_share 115 = .ok (.ladd, 1) := by decide +kernel
theorem dX4_share_116 : decode cX4_share 116 = .ok (.lreturn, 1) := by decide +kernel
theorem dX4_digit_0 : decode cX4_digit 0 = .ok (.aload_n 0, 1) := by decide +kernel
theorem dX4_digit_1 : decode cX4_digit 1 = .ok (.iload_n 1, 1) := by decide +kernel
theorem dX4_digit_2 : decode cX4_digit 2 = .ok (.invokevirtual 87, 3) := by decide +kernel
theorem dX4_digit_5 : decode cX4_digit 5 = .ok (.astore 4, 2) := by decide +kernel
theorem dX4_digit_7 : decode cX4_digit 7 = .ok (.iload_n 2, 1) := by decide +kernel
theorem dX4_digit_8 : decode cX4_digit 8 = .ok (.ifCond .eq 18, 3) := by decide +kernel
theorem dX4_digit_11 : decode cX4_digit 11 = .ok (.iload_n 2, 1) := by decide +kernel
theorem dX4_digit_12 : decode cX4_digit 12 = .ok (.iconst 1, 1) := by decide +kernel
theorem dX4_digit_13 : decode cX4_digit 13 = .ok (.if_icmp .eq 13, 3) := by decide +kernel
theorem dX4_digit_16 : decode cX4_digit 16 = .ok (.new 115, 3) := by decide +kernel
theorem dX4_digit_19 : decode cX4_digit 19 = .ok (.dup, 1) := by decide +kernel
theorem dX4_digit_20 : decode cX4_digit 20 = .ok (.ldc 191, 2) := by decide +kernel
theorem dX4_digit_22 : decode cX4_digit 22 = .ok (.invokespecial 119, 3) := by decide +kernel
theorem dX4_digit_25 : decode cX4_digit 25 = .ok (.athrow, 1) := by decide +kernel
theorem dX4_digit_26 : decode cX4_digit 26 = .ok (.aload_n 0, 1) := by decide +kernel
theorem dX4_digit_27 : decode cX4_digit 27 = .ok (.getfield 49, 3) := by decide +kernel
theorem dX4_digit_30 : decode cX4_digit 30 = .ok (.iload_n 2, 1) := by decide +kernel
theorem dX4_digit_31 : decode cX4_digit 31 = .ok (.ifCond .ne 11, 3) := by decide +kernel
theorem dX4_digit_34 : decode cX4_digit 34 = .ok (.aload 4, 2) := by decide +kernel
theorem dX4_digit_36 : decode cX4_digit 36 = .ok (.getfield 91, 3) := by decide +kernel
theorem dX4_digit_39 : decode cX4_digit 39 = .ok (.goto 8, 3) := by decide +kernel
theorem dX4_digit_42 : decode cX4_digit 42 = .ok (.aload 4, 2) := by decide +kernel
theorem dX4_digit_44 : decode cX4_digit 44 = .ok (.getfield 94, 3) := by decide +kernel
theorem dX4_digit_47 : decode cX4_digit 47 = .ok (.invokevirtual 156, 3) := by decide +kernel
theorem dX4_digit_50 : decode cX4_digit 50 = .ok (.aload_n 0, 1) := by decide +kernel
theorem dX4_digit_51 : decode cX4_digit 51 = .ok (.invokevirtual 193, 3) := by decide +kernel
theorem dX4_digit_54 : decode cX4_digit 54 = .ok (.istore 5, 2) := by decide +kernel
theorem dX4_digit_56 : decode cX4_digit 56 = .ok (.iload_n 3, 1) := by decide +kernel
theorem dX4_digit_57 : decode cX4_digit 57 = .ok (.ifCond .lt 9, 3) := by decide +kernel
theorem dX4_digit_60 : decode cX4_digit 60 = .ok (.iload_n 3, 1) := by decide +kernel
theorem dX4_digit_61 : decode cX4_digit 61 = .ok (.iload 5, 2) := by decide +kernel
theorem dX4_digit_63 : decode cX4_digit 63 = .ok (.if_icmp .lt 13, 3) := by decide +kernel
theorem dX4_digit_66 : decode cX4_digit 66 = .ok (.new 139, 3) := by decide +kernel
theorem dX4_digit_69 : decode cX4_digit 69 = .ok (.dup, 1) := by decide +kernel
theorem dX4_digit_70 : decode cX4_digit 70 = .ok (.ldc 197, 2) := by decide +kernel
theorem dX4_digit_72 : decode cX4_digit 72 = .ok (.invokespecial 143, 3) := by decide +kernel
theorem dX4_digit_75 : decode cX4_digit 75 = .ok (.athrow, 1) := by decide +kernel
theorem dX4_digit_76 : decode cX4_digit 76 = .ok (.aload_n 0, 1) := by decide +kernel
theorem dX4_digit_77 : decode cX4_digit 77 = .ok (.iload 5, 2) := by decide +kernel
theorem dX4_digit_79 : decode cX4_digit 79 = .ok (.iconst 1, 1) := by decide +kernel
theorem dX4_digit_80 : decode cX4_digit 80 = .ok (.isub, 1) := by decide +kernel
theorem dX4_digit_81 : decode cX4_digit 81 = .ok (.iload_n 3, 1) := by decide +kernel
theorem dX4_digit_82 : decode cX4_digit 82 = .ok (.isub, 1) := by decide +kernel
theorem dX4_digit_83 : decode cX4_digit 83 = .ok (.invokevirtual 199, 3) := by decide +kernel
theorem dX4_digit_86 : decode cX4_digit 86 = .ok (.ireturn, 1) := by decide +kernel
theorem dX4_bits_0 : decode cX4_bits 0 = .ok (.aload_n 0, 1) := by decide +kernel
theorem dX4_bits_1 : decode cX4_bits 1 = .ok (.iload_n 1, 1) := by decide +kernel
theorem dX4_bits_2 : decode cX4_bits 2 = .ok (.invokevirtual 87, 3) := by decide +kernel
theorem dX4_bits_5 : decode cX4_bits 5 = .ok (.astore_n 2, 1) := by decide +kernel
theorem dX4_bits_6 : decode cX4_bits 6 = .ok (.aload_n 2, 1) := by decide +kernel
theorem dX4_bits_7 : decode cX4_bits 7 = .ok (.getfield 101, 3) := by decide +kernel
theorem dX4_bits_10 : decode cX4_bits 10 = .ok (.ifCond .ne 7, 3) := by decide +kernel
theorem dX4_bits_13 : decode cX4_bits 13 = .ok (.iconst 0, 1) := by decide +kernel
theorem dX4_bits_14 : decode cX4_bits 14 = .ok (.goto 18, 3) := by decide +kernel
theorem dX4_bits_17 : decode cX4_bits 17 = .ok (.aload_n 2, 1) := by decide +kernel
theorem dX4_bits_18 : decode cX4_bits 18 = .ok (.getfield 91, 3) := by decide +kernel
theorem dX4_bits_21 : decode cX4_bits 21 = .ok (.invokevirtual 202, 3) := by decide +kernel
theorem dX4_bits_24 : decode cX4_bits 24 = .ok (.aload_n 2, 1) := by decide +kernel
theorem dX4_bits_25 : decode cX4_bits 25 = .ok (.getfield 94, 3) := by decide +kernel
theorem dX4_bits_28 : decode cX4_bits 28 = .ok (.invokevirtual 202, 3) := by decide +kernel
theorem dX4_bits_31 : decode cX4_bits 31 = .ok (.iadd, 1) := by decide +kernel
theorem dX4_bits_32 : decode cX4_bits 32 = .ok (.ireturn, 1) := by decide +kernel
theorem dX4_sign_0 : decode cX4_sign 0 = .ok (.aload_n 0, 1) := by decide +kernel
theorem dX4_sign_1 : decode cX4_sign 1 = .ok (.iload_n 1, 1) := by decide +kernel
theorem dX4_sign_2 : decode cX4_sign 2 = .ok (.invokevirtual 87, 3) := by decide +kernel
theorem dX4_sign_5 : decode cX4_sign 5 = .ok (.getfield 101, 3) := by decide +kernel
theorem dX4_sign_8 : decode cX4_sign 8 = .ok (.ireturn, 1) := by decide +kernel
theorem dX4_fractionAt_0 : decode cX4_fractionAt 0 = .ok (.iload_n 1, 1) := by decide +kernel
theorem dX4_fractionAt_1 : decode cX4_fractionAt 1 = .ok (.ifCond .lt 12, 3) := by decide +kernel
theorem dX4_fractionAt_4 : decode cX4_fractionAt 4 = .ok (.iload_n 1, 1) := by decide +kernel
theorem dX4_fractionAt_5 : decode cX4_fractionAt 5 = .ok (.aload_n 0, 1) := by decide +kernel
theorem dX4_fractionAt_6 : decode cX4_fractionAt 6 = .ok (.getfield 11, 3) := by decide +kernel
theorem dX4_fractionAt_9 : decode cX4_fractionAt 9 = .ok (.arraylength, 1) := by decide +kernel
theorem dX4_fractionAt_10 : decode cX4_fractionAt 10 = .ok (.if_icmp .lt 13, 3) := by decide +kernel
theorem dX4_fractionAt_13 : decode cX4_fractionAt 13 = .ok (.new 139, 3) := by decide +kernel
theorem dX4_fractionAt_16 : decode cX4_fractionAt 16 = .ok (.dup, 1) := by decide +kernel
theorem dX4_fractionAt_17 : decode cX4_fractionAt 17 = .ok (.ldc 205, 2) := by decide +kernel
theorem dX4_fractionAt_19 : decode cX4_fractionAt 19 = .ok (.invokespecial 143, 3) := by decide +kernel
theorem dX4_fractionAt_22 : decode cX4_fractionAt 22 = .ok (.athrow, 1) := by decide +kernel
theorem dX4_fractionAt_23 : decode cX4_fractionAt 23 = .ok (.aload_n 0, 1) := by decide +kernel
theorem dX4_fractionAt_24 : decode cX4_fractionAt 24 = .ok (.getfield 11, 3) := by decide +kernel
theorem dX4_fractionAt_27 : decode cX4_fractionAt 27 = .ok (.iload_n 1, 1) := by decide +kernel
theorem dX4_fractionAt_28 : decode cX4_fractionAt 28 = .ok (.aaload, 1) := by decide +kernel
theorem dX4_fractionAt_29 : decode cX4_fractionAt 29 = .ok (.astore_n 2, 1) := by decide +kernel
theorem dX4_fractionAt_30 : decode cX4_fractionAt 30 = .ok (.aload_n 2, 1) := by decide +kernel
theorem dX4_fractionAt_31 : decode cX4_fractionAt 31 = .ok (.ifnull 7, 3) := by decide +kernel
theorem dX4_fractionAt_34 : decode cX4_fractionAt 34 = .ok (.aload_n 2, 1) := by decide +kernel
theorem dX4_fractionAt_35 : decode cX4_fractionAt 35 = .ok (.goto 7, 3) := by decide +kernel
theorem dX4_fractionAt_38 : decode cX4_fractionAt 38 = .ok (.aload_n 0, 1) := by decide +kernel
theorem dX4_fractionAt_39 : decode cX4_fractionAt 39 = .ok (.getfield 24, 3) := by decide +kernel
theorem dX4_fractionAt_42 : decode cX4_fractionAt 42 = .ok (.areturn, 1) := by decide +kernel
theorem dX4_unitLength_0 : decode cX4_unitLength 0 = .ok (.iload_n 0, 1) := by decide +kernel
theorem dX4_unitLength_1 : decode cX4_unitLength 1 = .ok (.ifCond .lt 11, 3) := by decide +kernel
theorem dX4_unitLength_4 : decode cX4_unitLength 4 = .ok (.iload_n 0, 1) := by decide +kernel
theorem dX4_unitLength_5 : decode cX4_unitLength 5 = .ok (.getstatic 207, 3) := by decide +kernel
theorem dX4_unitLength_8 : decode cX4_unitLength 8 = .ok (.arraylength, 1) := by decide +kernel
theorem dX4_unitLength_9 : decode cX4_unitLength 9 = .ok (.if_icmp .lt 13, 3) := by decide +kernel
theorem dX4_unitLength_12 : decode cX4_unitLength 12 = .ok (.new 139, 3) := by decide +kernel
theorem dX4_unitLength_15 : decode cX4_unitLength 15 = .ok (.dup, 1) := by decide +kernel
theorem dX4_unitLength_16 : decode cX4_unitLength 16 = .ok (.ldc 210, 2) := by decide +kernel
theorem dX4_unitLength_18 : decode cX4_unitLength 18 = .ok (.invokespecial 143, 3) := by decide +kernel
theorem dX4_unitLength_21 : decode cX4_unitLength 21 = .ok (.athrow, 1) := by decide +kernel
theorem dX4_unitLength_22 : decode cX4_unitLength 22 = .ok (.getstatic 207, 3) := by decide +kernel
theorem dX4_unitLength_25 : decode cX4_unitLength 25 = .ok (.iload_n 0, 1) := by decide +kernel
theorem dX4_unitLength_26 : decode cX4_unitLength 26 = .ok (.laload, 1) := by decide +kernel
theorem dX4_unitLength_27 : decode cX4_unitLength 27 = .ok (.lreturn, 1) := by decide +kernel
theorem dX4_putNew_0 : decode cX4_putNew 0 = .ok (.aload_n 0, 1) := by decide +kernel
theorem dX4_putNew_1 : decode cX4_putNew 1 = .ok (.getfield 125, 3) := by decide +kernel
theorem dX4_putNew_4 : decode cX4_putNew 4 = .ok (.ifCond .lt 15, 3) := by decide +kernel
theorem dX4_putNew_7 : decode cX4_putNew 7 = .ok (.aload_n 0, 1) := by decide +kernel
theorem dX4_putNew_8 : decode cX4_putNew 8 = .ok (.getfield 125, 3) := by decide +kernel
theorem dX4_putNew_11 : decode cX4_putNew 11 = .ok (.aload_n 0, 1) := by decide +kernel
theorem dX4_putNew_12 : decode cX4_putNew 12 = .ok (.getfield 11, 3) := by decide +kernel
theorem dX4_putNew_15 : decode cX4_putNew 15 = .ok (.arraylength, 1) := by decide +kernel
theorem dX4_putNew_16 : decode cX4_putNew 16 = .ok (.if_icmp .lt 5, 3) := by decide +kernel
theorem dX4_putNew_19 : decode cX4_putNew 19 = .ok (.iconst (-1), 1) := by decide +kernel
theorem dX4_putNew_20 : decode cX4_putNew 20 = .ok (.ireturn, 1) := by decide +kernel
theorem dX4_putNew_21 : decode cX4_putNew 21 = .ok (.aload_n 0, 1) := by decide +kernel
theorem dX4_putNew_22 : decode cX4_putNew 22 = .ok (.getfield 68, 3) := by decide +kernel
theorem dX4_putNew_25 : decode cX4_putNew 25 = .ok (.aload_n 0, 1) := by decide +kernel
theorem dX4_putNew_26 : decode cX4_putNew 26 = .ok (.getfield 43, 3) := by decide +kernel
theorem dX4_putNew_29 : decode cX4_putNew 29 = .ok (.aload_n 0, 1) := by decide +kernel
theorem dX4_putNew_30 : decode cX4_putNew 30 = .ok (.getfield 46, 3) := by decide +kernel
theorem dX4_putNew_33 : decode cX4_putNew 33 = .ok (.invokevirtual 212, 3) := by decide +kernel
theorem dX4_putNew_36 : decode cX4_putNew 36 = .ok (.astore_n 2, 1) := by decide +kernel
theorem dX4_putNew_37 : decode cX4_putNew 37 = .ok (.aload_n 2, 1) := by decide +kernel
theorem dX4_putNew_38 : decode cX4_putNew 38 = .ok (.aload_n 0, 1) := by decide +kernel
theorem dX4_putNew_39 : decode cX4_putNew 39 = .ok (.getfield 36, 3) := by decide +kernel
theorem dX4_putNew_42 : decode cX4_putNew 42 = .ok (.invokevirtual 108, 3) := by decide +kernel
theorem dX4_putNew_45 : decode cX4_putNew 45 = .ok (.ifCond .le 55, 3) := by decide +kernel
theorem dX4_putNew_48 : decode cX4_putNew 48 = .ok (.aload_n 0, 1) := by decide +kernel
theorem dX4_putNew_49 : decode cX4_putNew 49 = .ok (.getfield 61, 3) := by decide +kernel
theorem dX4_putNew_52 : decode cX4_putNew 52 = .ok (.aload_n 0, 1) := by decide +kernel
theorem dX4_putNew_53 : decode cX4_putNew 53 = .ok (.getfield 43, 3) := by decide +kernel
theorem dX4_putNew_56 : decode cX4_putNew 56 = .ok (.aload_n 2, 1) := by decide +kernel
theorem dX4_putNew_57 : decode cX4_putNew 57 = .ok (.invokevirtual 150, 3) := by decide +kernel
theorem dX4_putNew_60 : decode cX4_putNew 60 = .ok (.aload_n 0, 1) := by decide +kernel
theorem dX4_putNew_61 : decode cX4_putNew 61 = .ok (.getfield 43, 3) := by decide +kernel
theorem dX4_putNew_64 : decode cX4_putNew 64 = .ok (.aload_n 0, 1) := by decide +kernel
theorem dX4_putNew_65 : decode cX4_putNew 65 = .ok (.getfield 61, 3) := by decide +kernel
theorem dX4_putNew_68 : decode cX4_putNew 68 = .ok (.getfield 153, 3) := by decide +kernel
theorem dX4_putNew_71 : decode cX4_putNew 71 = .ok (.invokevirtual 156, 3) := by decide +kernel
theorem dX4_putNew_74 : decode cX4_putNew 74 = .ok (.aload_n 0, 1) := by decide +kernel
theorem dX4_putNew_75 : decode cX4_putNew 75 = .ok (.getfield 61, 3) := by decide +kernel
theorem dX4_putNew_78 : decode cX4_putNew 78 = .ok (.aload_n 0, 1) := by decide +kernel
theorem dX4_putNew_79 : decode cX4_putNew 79 = .ok (.getfield 46, 3) := by decide +kernel
theorem dX4_putNew_82 : decode cX4_putNew 82 = .ok (.aload_n 2, 1) := by decide +kernel
theorem dX4_putNew_83 : decode cX4_putNew 83 = .ok (.invokevirtual 150, 3) := by decide +kernel
theorem dX4_putNew_86 : decode cX4_putNew 86 = .ok (.aload_n 0, 1) := by decide +kernel
theorem dX4_putNew_87 : decode cX4_putNew 87 = .ok (.getfield 46, 3) := by decide +kernel
theorem dX4_putNew_90 : decode cX4_putNew 90 = .ok (.aload_n 0, 1) := by decide +kernel
theorem dX4_putNew_91 : decode cX4_putNew 91 = .ok (.getfield 61, 3) := by decide +kernel
theorem dX4_putNew_94 : decode cX4_putNew 94 = .ok (.getfield 153, 3) := by decide +kernel
theorem dX4_putNew_97 : decode cX4_putNew 97 = .ok (.invokevirtual 156, 3) := by decide +kernel
theorem dX4_putNew_100 : decode cX4_putNew 100 = .ok (.aload_n 0, 1) := by decide +kernel
theorem dX4_putNew_101 : decode cX4_putNew 101 = .ok (.getfield 43, 3) := by decide +kernel
theorem dX4_putNew_104 : decode cX4_putNew 104 = .ok (.invokevirtual 202, 3) := by decide +kernel
theorem dX4_putNew_107 : decode cX4_putNew 107 = .ok (.sipush 800, 3) := by decide +kernel
theorem dX4_putNew_110 : decode cX4_putNew 110 = .ok (.if_icmp .gt 16, 3) := by decide +kernel
theorem dX4_putNew_113 : decode cX4_putNew 113 = .ok (.aload_n 0, 1) := by decide +kernel
theorem dX4_putNew_114 : decode cX4_putNew 114 = .ok (.getfield 46, 3) := by decide +kernel
theorem dX4_putNew_117 : decode cX4_putNew 117 = .ok (.invokevirtual 202, 3) := by decide +kernel
theorem dX4_putNew_120 : decode cX4_putNew 120 = .ok (.sipush 800, 3) := by decide +kernel
theorem dX4_putNew_123 : decode cX4_putNew 123 = .ok (.if_icmp .le 5, 3) := by decide +kernel
theorem dX4_putNew_126 : decode cX4_putNew 126 = .ok (.iconst (-1), 1) := by decide +kernel
theorem dX4_putNew_127 : decode cX4_putNew 127 = .ok (.ireturn, 1) := by decide +kernel
theorem dX4_putNew_128 : decode cX4_putNew 128 = .ok (.aload_n 0, 1) := by decide +kernel
theorem dX4_putNew_129 : decode cX4_putNew 129 = .ok (.getfield 11, 3) := by decide +kernel
theorem dX4_putNew_132 : decode cX4_putNew 132 = .ok (.aload_n 0, 1) := by decide +kernel
theorem dX4_putNew_133 : decode cX4_putNew 133 = .ok (.getfield 125, 3) := by decide +kernel
theorem dX4_putNew_136 : decode cX4_putNew 136 = .ok (.new 9, 3) := by decide +kernel
theorem dX4_putNew_139 : decode cX4_putNew 139 = .ok (.dup, 1) := by decide +kernel
theorem dX4_putNew_140 : decode cX4_putNew 140 = .ok (.aload_n 0, 1) := by decide +kernel
theorem dX4_putNew_141 : decode cX4_putNew 141 = .ok (.getfield 43, 3) := by decide +kernel
theorem dX4_putNew_144 : decode cX4_putNew 144 = .ok (.invokevirtual 216, 3) := by decide +kernel
theorem dX4_putNew_147 : decode cX4_putNew 147 = .ok (.ifCond .eq 7, 3) := by decide +kernel
theorem dX4_putNew_150 : decode cX4_putNew 150 = .ok (.iconst 0, 1) := by decide +kernel
theorem dX4_putNew_151 : decode cX4_putNew 151 = .ok (.goto 4, 3) := by decide +kernel
theorem dX4_putNew_154 : decode cX4_putNew 154 = .ok (.iload_n 1, 1) := by decide +kernel
theorem dX4_putNew_155 : decode cX4_putNew 155 = .ok (.aload_n 0, 1) := by decide +kernel
theorem dX4_putNew_156 : decode cX4_putNew 156 = .ok (.getfield 43, 3) := by decide +kernel
theorem dX4_putNew_159 : decode cX4_putNew 159 = .ok (.aload_n 0, 1) := by decide +kernel
theorem dX4_putNew_160 : decode cX4_putNew 160 = .ok (.getfield 46, 3) := by decide +kernel
theorem dX4_putNew_163 : decode cX4_putNew 163 = .ok (.invokespecial 21, 3) := by decide +kernel
theorem dX4_putNew_166 : decode cX4_putNew 166 = .ok (.aastore, 1) := by decide +kernel
theorem dX4_putNew_167 : decode cX4_putNew 167 = .ok (.aload_n 0, 1) := by decide +kernel
theorem dX4_putNew_168 : decode cX4_putNew 168 = .ok (.dup, 1) := by decide +kernel
theorem dX4_putNew_169 : decode cX4_putNew 169 = .ok (.getfield 125, 3) := by decide +kernel
theorem dX4_putNew_172 : decode cX4_putNew 172 = .ok (.dup_x1, 1) := by decide +kernel
theorem dX4_putNew_173 : decode cX4_putNew 173 = .ok (.iconst 1, 1) := by decide +kernel
theorem dX4_putNew_174 : decode cX4_putNew 174 = .ok (.iadd, 1) := by decide +kernel
theorem dX4_putNew_175 : decode cX4_putNew 175 = .ok (.putfield 125, 3) := by decide +kernel
theorem dX4_putNew_178 : decode cX4_putNew 178 = .ok (.ireturn, 1) := by decide +kernel
theorem dX4_setNewToLeftOverPower_0 : decode cX4_setNewToLeftOverPower 0 = .ok (.aload_n 0, 1) := by decide +kernel
theorem dX4_setNewToLeftOverPower_1 : decode cX4_setNewToLeftOverPower 1 = .ok (.getfield 43, 3) := by decide +kernel
theorem dX4_setNewToLeftOverPower_4 : decode cX4_setNewToLeftOverPower 4 = .ok (.aload_n 0, 1) := by decide +kernel
theorem dX4_setNewToLeftOverPower_5 : decode cX4_setNewToLeftOverPower 5 = .ok (.getfield 49, 3) := by decide +kernel
theorem dX4_setNewToLeftOverPower_8 : decode cX4_setNewToLeftOverPower 8 = .ok (.invokevirtual 156, 3) := by decide +kernel
theorem dX4_setNewToLeftOverPower_11 : decode cX4_setNewToLeftOverPower 11 = .ok (.aload_n 0, 1) := by decide +kernel
theorem dX4_setNewToLeftOverPower_12 : decode cX4_setNewToLeftOverPower 12 = .ok (.getfield 46, 3) := by decide +kernel
theorem dX4_setNewToLeftOverPower_15 : decode cX4_setNewToLeftOverPower 15 = .ok (.aload_n 0, 1) := by decide +kernel
theorem dX4_setNewToLeftOverPower_16 : decode cX4_setNewToLeftOverPower 16 = .ok (.getfield 36, 3) := by decide +kernel
theorem dX4_setNewToLeftOverPower_19 : decode cX4_setNewToLeftOverPower 19 = .ok (.iload_n 1, 1) := by decide +kernel
theorem dX4_setNewToLeftOverPower_20 : decode cX4_setNewToLeftOverPower 20 = .ok (.invokevirtual 220, 3) := by decide +kernel
theorem dX4_setNewToLeftOverPower_23 : decode cX4_setNewToLeftOverPower 23 = .ok (.return_, 1) := by decide +kernel
theorem dX4_setEnd_0 : decode cX4_setEnd 0 = .ok (.iload_n 1, 1) := by decide +kernel
theorem dX4_setEnd_1 : decode cX4_setEnd 1 = .ok (.iconst 2, 1) := by decide +kernel
theorem dX4_setEnd_2 : decode cX4_setEnd 2 = .ok (.imul, 1) := by decide +kernel
theorem dX4_setEnd_3 : decode cX4_setEnd 3 = .ok (.iload_n 2, 1) := by decide +kernel
theorem dX4_setEnd_4 : decode cX4_setEnd 4 = .ok (.iadd, 1) := by decide +kernel
theorem dX4_setEnd_5 : decode cX4_setEnd 5 = .ok (.istore 4, 2) := by decide +kernel
theorem dX4_setEnd_7 : decode cX4_setEnd 7 = .ok (.iload 4, 2) := by decide +kernel
theorem dX4_setEnd_9 : decode cX4_setEnd 9 = .ok (.ifCond .lt 21, 3) := by decide +kernel
theorem dX4_setEnd_12 : decode cX4_setEnd 12 = .ok (.iload 4, 2) := by decide +kernel
theorem dX4_setEnd_14 : decode cX4_setEnd 14 = .ok (.aload_n 0, 1) := by decide +kernel
theorem dX4_setEnd_15 : decode cX4_setEnd 15 = .ok (.getfield 28, 3) := by decide +kernel
theorem dX4_setEnd_18 : decode cX4_setEnd 18 = .ok (.arraylength, 1) := by decide +kernel
theorem dX4_setEnd_19 : decode cX4_setEnd 19 = .ok (.if_icmp .ge 11, 3) := by decide +kernel
theorem dX4_setEnd_22 : decode cX4_setEnd 22 = .ok (.aload_n 0, 1) := by decide +kernel
theorem dX4_setEnd_23 : decode cX4_setEnd 23 = .ok (.getfield 28, 3) := by decide +kernel
theorem dX4_setEnd_26 : decode cX4_setEnd 26 = .ok (.iload 4, 2) := by decide +kernel
theorem dX4_setEnd_28 : decode cX4_setEnd 28 = .ok (.iload_n 3, 1) := by decide +kernel
theorem dX4_setEnd_29 : decode cX4_setEnd 29 = .ok (.iastore, 1) := by decide +kernel
theorem dX4_setEnd_30 : decode cX4_setEnd 30 = .ok (.return_, 1) := by decide +kernel
theorem dX4_leaveRootInLeft_0 : decode cX4_leaveRootInLeft 0 = .ok (.aload_n 0, 1) := by decide +kernel
theorem dX4_leaveRootInLeft_1 : decode cX4_leaveRootInLeft 1 = .ok (.getfield 46, 3) := by decide +kernel
theorem dX4_leaveRootInLeft_4 : decode cX4_leaveRootInLeft 4 = .ok (.aload_n 1, 1) := by decide +kernel
theorem dX4_leaveRootInLeft_5 : decode cX4_leaveRootInLeft 5 = .ok (.getfield 91, 3) := by decide +kernel
theorem dX4_leaveRootInLeft_8 : decode cX4_leaveRootInLeft 8 = .ok (.iconst 2, 1) := by decide +kernel
theorem dX4_leaveRootInLeft_9 : decode cX4_leaveRootInLeft 9 = .ok (.iload_n 2, 1) := by decide +kernel
theorem dX4_leaveRootInLeft_10 : decode cX4_leaveRootInLeft 10 = .ok (.imul, 1) := by decide +kernel
theorem dX4_leaveRootInLeft_11 : decode cX4_leaveRootInLeft 11 = .ok (.invokevirtual 220, 3) := by decide +kernel
theorem dX4_leaveRootInLeft_14 : decode cX4_leaveRootInLeft 14 = .ok (.aload_n 0, 1) := by decide +kernel
theorem dX4_leaveRootInLeft_15 : decode cX4_leaveRootInLeft 15 = .ok (.getfield 61, 3) := by decide +kernel
theorem dX4_leaveRootInLeft_18 : decode cX4_leaveRootInLeft 18 = .ok (.aload_n 0, 1) := by decide +kernel
theorem dX4_leaveRootInLeft_19 : decode cX4_leaveRootInLeft 19 = .ok (.getfield 46, 3) := by decide +kernel
theorem dX4_leaveRootInLeft_22 : decode cX4_leaveRootInLeft 22 = .ok (.aload_n 1, 1) := by decide +kernel
theorem dX4_leaveRootInLeft_23 : decode cX4_leaveRootInLeft 23 = .ok (.getfield 94, 3) := by decide +kernel
theorem dX4_leaveRootInLeft_26 : decode cX4_leaveRootInLeft 26 = .ok (.invokevirtual 150, 3) := by decide +kernel
theorem dX4_leaveRootInLeft_29 : decode cX4_leaveRootInLeft 29 = .ok (.aload_n 0, 1) := by decide +kernel
theorem dX4_leaveRootInLeft_30 : decode cX4_leaveRootInLeft 30 = .ok (.getfield 52, 3) := by decide +kernel
theorem dX4_leaveRootInLeft_33 : decode cX4_leaveRootInLeft 33 = .ok (.aload_n 0, 1) := by decide +kernel
theorem dX4_leaveRootInLeft_34 : decode cX4_leaveRootInLeft 34 = .ok (.getfield 61, 3) := by decide +kernel
theorem dX4_leaveRootInLeft_37 : decode cX4_leaveRootInLeft 37 = .ok (.getfield 153, 3) := by decide +kernel
theorem dX4_leaveRootInLeft_40 : decode cX4_leaveRootInLeft 40 = .ok (.invokevirtual 156, 3) := by decide +kernel
theorem dX4_leaveRootInLeft_43 : decode cX4_leaveRootInLeft 43 = .ok (.aload_n 0, 1) := by decide +kernel
theorem dX4_leaveRootInLeft_44 : decode cX4_leaveRootInLeft 44 = .ok (.invokevirtual 224, 3) := by decide +kernel
theorem dX4_leaveRootInLeft_47 : decode cX4_leaveRootInLeft 47 = .ok (.aload_n 0, 1) := by decide +kernel
theorem dX4_leaveRootInLeft_48 : decode cX4_leaveRootInLeft 48 = .ok (.getfield 43, 3) := by decide +kernel
theorem dX4_leaveRootInLeft_51 : decode cX4_leaveRootInLeft 51 = .ok (.aload_n 0, 1) := by decide +kernel
theorem dX4_leaveRootInLeft_52 : decode cX4_leaveRootInLeft 52 = .ok (.getfield 49, 3) := by decide +kernel
theorem dX4_leaveRootInLeft_55 : decode cX4_leaveRootInLeft 55 = .ok (.aload_n 0, 1) := by decide +kernel
theorem dX4_leaveRootInLeft_56 : decode cX4_leaveRootInLeft 56 = .ok (.getfield 49, 3) := by decide +kernel
theorem dX4_leaveRootInLeft_59 : decode cX4_leaveRootInLeft 59 = .ok (.invokevirtual 97, 3) := by decide +kernel
theorem dX4_leaveRootInLeft_62 : decode cX4_leaveRootInLeft 62 = .ok (.aload_n 0, 1) := by decide +kernel
theorem dX4_leaveRootInLeft_63 : decode cX4_leaveRootInLeft 63 = .ok (.getfield 52, 3) := by decide +kernel
theorem dX4_leaveRootInLeft_66 : decode cX4_leaveRootInLeft 66 = .ok (.aload_n 0, 1) := by decide +kernel
theorem dX4_leaveRootInLeft_67 : decode cX4_leaveRootInLeft 67 = .ok (.getfield 43, 3) := by decide +kernel
theorem dX4_leaveRootInLeft_70 : decode cX4_leaveRootInLeft 70 = .ok (.aload_n 1, 1) := by decide +kernel
theorem dX4_leaveRootInLeft_71 : decode cX4_leaveRootInLeft 71 = .ok (.getfield 94, 3) := by decide +kernel
theorem dX4_leaveRootInLeft_74 : decode cX4_leaveRootInLeft 74 = .ok (.invokevirtual 97, 3) := by decide +kernel
theorem dX4_leaveRootInLeft_77 : decode cX4_leaveRootInLeft 77 = .ok (.aload_n 0, 1) := by decide +kernel
theorem dX4_leaveRootInLeft_78 : decode cX4_leaveRootInLeft 78 = .ok (.getfield 52, 3) := by decide +kernel
theorem dX4_leaveRootInLeft_81 : decode cX4_leaveRootInLeft 81 = .ok (.aload_n 0, 1) := by decide +kernel
theorem dX4_leaveRootInLeft_82 : decode cX4_leaveRootInLeft 82 = .ok (.getfield 46, 3) := by decide +kernel
theorem dX4_leaveRootInLeft_85 : decode cX4_leaveRootInLeft 85 = .ok (.invokevirtual 108, 3) := by decide +kernel
theorem dX4_leaveRootInLeft_88 : decode cX4_leaveRootInLeft 88 = .ok (.ifCond .ne 7, 3) := by decide +kernel
theorem dX4_leaveRootInLeft_91 : decode cX4_leaveRootInLeft 91 = .ok (.iconst 1, 1) := by decide +kernel
theorem dX4_leaveRootInLeft_92 : decode cX4_leaveRootInLeft 92 = .ok (.goto 4, 3) := by decide +kernel
theorem dX4_leaveRootInLeft_95 : decode cX4_leaveRootInLeft 95 = .ok (.iconst 0, 1) := by decide +kernel
theorem dX4_leaveRootInLeft_96 : decode cX4_leaveRootInLeft 96 = .ok (.ireturn, 1) := by decide +kernel
theorem dX4_leaveFloorOfRootOfRightInLeft_0 : decode cX4_leaveFloorOfRootOfRightInLeft 0 = .ok (.aload_n 0, 1) := by decide +kernel
theorem dX4_leaveFloorOfRootOfRightInLeft_1 : decode cX4_leaveFloorOfRootOfRightInLeft 1 = .ok (.getfield 49, 3) := by decide +kernel
theorem dX4_leaveFloorOfRootOfRightInLeft_4 : decode cX4_leaveFloorOfRootOfRightInLeft 4 = .ok (.aload_n 0, 1) := by decide +kernel
theorem dX4_leaveFloorOfRootOfRightInLeft_5 : decode cX4_leaveFloorOfRootOfRightInLeft 5 = .ok (.getfield 36, 3) := by decide +kernel
theorem dX4_leaveFloorOfRootOfRightInLeft_8 : decode cX4_leaveFloorOfRootOfRightInLeft 8 = .ok (.aload_n 0, 1) := by decide +kernel
theorem dX4_leaveFloorOfRootOfRightInLeft_9 : decode cX4_leaveFloorOfRootOfRightInLeft 9 = .ok (.getfield 52, 3) := by decide +kernel
theorem dX4_leaveFloorOfRootOfRightInLeft_12 : decode cX4_leaveFloorOfRootOfRightInLeft 12 = .ok (.invokevirtual 202, 3) := by decide +kernel
theorem dX4_leaveFloorOfRootOfRightInLeft_15 : decode cX4_leaveFloorOfRootOfRightInLeft 15 = .ok (.iconst 1, 1) := by decide +kernel
theorem dX4_leaveFloorOfRootOfRightInLeft_16 : decode cX4_leaveFloorOfRootOfRightInLeft 16 = .ok (.iadd, 1) := by decide +kernel
theorem dX4_leaveFloorOfRootOfRightInLeft_17 : decode cX4_leaveFloorOfRootOfRightInLeft 17 = .ok (.iconst 2, 1) := by decide +kernel
theorem dX4_leaveFloorOfRootOfRightInLeft_18 : decode cX4_leaveFloorOfRootOfRightInLeft 18 = .ok (.idiv, 1) := by decide +kernel
theorem dX4_leaveFloorOfRootOfRightInLeft_19 : decode cX4_leaveFloorOfRootOfRightInLeft 19 = .ok (.invokevirtual 220, 3) := by decide +kernel
theorem dX4_leaveFloorOfRootOfRightInLeft_22 : decode cX4_leaveFloorOfRootOfRightInLeft 22 = .ok (.iconst 0, 1) := by decide +kernel
theorem dX4_leaveFloorOfRootOfRightInLeft_23 : decode cX4_leaveFloorOfRootOfRightInLeft 23 = .ok (.istore_n 1, 1) := by decide +kernel
theorem dX4_leaveFloorOfRootOfRightInLeft_24 : decode cX4_leaveFloorOfRootOfRightInLeft 24 = .ok (.iload_n 1, 1) := by decide +kernel
theorem dX4_leaveFloorOfRootOfRightInLeft_25 : decode cX4_leaveFloorOfRootOfRightInLeft 25 = .ok (.sipush 1000, 3) := by decide +kernel
theorem dX4_leaveFloorOfRootOfRightInLeft_28 : decode cX4_leaveFloorOfRootOfRightInLeft 28 = .ok (.if_icmp .ge 76, 3) := by decide +kernel
theorem dX4_leaveFloorOfRootOfRightInLeft_31 : decode cX4_leaveFloorOfRootOfRightInLeft 31 = .ok (.aload_n 0, 1) := by decide +kernel
theorem dX4_leaveFloorOfRootOfRightInLeft_32 : decode cX4_leaveFloorOfRootOfRightInLeft 32 = .ok (.getfield 61, 3) := by decide +kernel
theorem dX4_leaveFloorOfRootOfRightInLeft_35 : decode cX4_leaveFloorOfRootOfRightInLeft 35 = .ok (.aload_n 0, 1) := by decide +kernel
theorem dX4_leaveFloorOfRootOfRightInLeft_36 : decode cX4_leaveFloorOfRootOfRightInLeft 36 = .ok (.getfield 52, 3) := by decide +kernel
theorem dX4_leaveFloorOfRootOfRightInLeft_39 : decode cX4_leaveFloorOfRootOfRightInLeft 39 = .ok (.aload_n 0, 1) := by decide +kernel
theorem dX4_leaveFloorOfRootOfRightInLeft_40 : decode cX4_leaveFloorOfRootOfRightInLeft 40 = .ok (.getfield 49, 3) := by decide +kernel
theorem dX4_leaveFloorOfRootOfRightInLeft_43 : decode cX4_leaveFloorOfRootOfRightInLeft 43 = .ok (.invokevirtual 150, 3) := by decide +kernel
theorem dX4_leaveFloorOfRootOfRightInLeft_46 : decode cX4_leaveFloorOfRootOfRightInLeft 46 = .ok (.aload_n 0, 1) := by decide +kernel
theorem dX4_leaveFloorOfRootOfRightInLeft_47 : decode cX4_leaveFloorOfRootOfRightInLeft 47 = .ok (.getfield 43, 3) := by decide +kernel
theorem dX4_leaveFloorOfRootOfRightInLeft_50 : decode cX4_leaveFloorOfRootOfRightInLeft 50 = .ok (.aload_n 0, 1) := by decide +kernel
theorem dX4_leaveFloorOfRootOfRightInLeft_51 : decode cX4_leaveFloorOfRootOfRightInLeft 51 = .ok (.getfield 49, 3) := by decide +kernel
theorem dX4_leaveFloorOfRootOfRightInLeft_54 : decode cX4_leaveFloorOfRootOfRightInLeft 54 = .ok (.aload_n 0, 1) := by decide +kernel
theorem dX4_leaveFloorOfRootOfRightInLeft_55 : decode cX4_leaveFloorOfRootOfRightInLeft 55 = .ok (.getfield 61, 3) := by decide +kernel
theorem dX4_leaveFloorOfRootOfRightInLeft_58 : decode cX4_leaveFloorOfRootOfRightInLeft 58 = .ok (.getfield 153, 3) := by decide +kernel
theorem dX4_leaveFloorOfRootOfRightInLeft_61 : decode cX4_leaveFloorOfRootOfRightInLeft 61 = .ok (.invokevirtual 105, 3) := by decide +kernel
theorem dX4_leaveFloorOfRootOfRightInLeft_64 : decode cX4_leaveFloorOfRootOfRightInLeft 64 = .ok (.aload_n 0, 1) := by decide +kernel
theorem dX4_leaveFloorOfRootOfRightInLeft_65 : decode cX4_leaveFloorOfRootOfRightInLeft 65 = .ok (.getfield 43, 3) := by decide +kernel
theorem dX4_leaveFloorOfRootOfRightInLeft_68 : decode cX4_leaveFloorOfRootOfRightInLeft 68 = .ok (.iconst 1, 1) := by decide +kernel
theorem dX4_leaveFloorOfRootOfRightInLeft_69 : decode cX4_leaveFloorOfRootOfRightInLeft 69 = .ok (.invokevirtual 227, 3) := by decide +kernel
theorem dX4_leaveFloorOfRootOfRightInLeft_72 : decode cX4_leaveFloorOfRootOfRightInLeft 72 = .ok (.aload_n 0, 1) := by decide +kernel
theorem dX4_leaveFloorOfRootOfRightInLeft_73 : decode cX4_leaveFloorOfRootOfRightInLeft 73 = .ok (.getfield 43, 3) := by decide +kernel
theorem dX4_leaveFloorOfRootOfRightInLeft_76 : decode cX4_leaveFloorOfRootOfRightInLeft 76 = .ok (.aload_n 0, 1) := by decide +kernel
theorem dX4_leaveFloorOfRootOfRightInLeft_77 : decode cX4_leaveFloorOfRootOfRightInLeft 77 = .ok (.getfield 49, 3) := by decide +kernel
theorem dX4_leaveFloorOfRootOfRightInLeft_80 : decode cX4_leaveFloorOfRootOfRightInLeft 80 = .ok (.invokevirtual 108, 3) := by decide +kernel
theorem dX4_leaveFloorOfRootOfRightInLeft_83 : decode cX4_leaveFloorOfRootOfRightInLeft 83 = .ok (.ifCond .lt 4, 3) := by decide +kernel
theorem dX4_leaveFloorOfRootOfRightInLeft_86 : decode cX4_leaveFloorOfRootOfRightInLeft 86 = .ok (.return_, 1) := by decide +kernel
theorem dX4_leaveFloorOfRootOfRightInLeft_87 : decode cX4_leaveFloorOfRootOfRightInLeft 87 = .ok (.aload_n 0, 1) := by decide +kernel
theorem dX4_leaveFloorOfRootOfRightInLeft_88 : decode cX4_leaveFloorOfRootOfRightInLeft 88 = .ok (.getfield 49, 3) := by decide +kernel
theorem dX4_leaveFloorOfRootOfRightInLeft_91 : decode cX4_leaveFloorOfRootOfRightInLeft 91 = .ok (.aload_n 0, 1) := by decide +kernel
theorem dX4_leaveFloorOfRootOfRightInLeft_92 : decode cX4_leaveFloorOfRootOfRightInLeft 92 = .ok (.getfield 43, 3) := by decide +kernel
theorem dX4_leaveFloorOfRootOfRightInLeft_95 : decode cX4_leaveFloorOfRootOfRightInLeft 95 = .ok (.invokevirtual 156, 3) := by decide +kernel
theorem dX4_leaveFloorOfRootOfRightInLeft_98 : decode cX4_leaveFloorOfRootOfRightInLeft 98 = .ok (.iinc 1 1, 3) := by decide +kernel
theorem dX4_leaveFloorOfRootOfRightInLeft_101 : decode cX4_leaveFloorOfRootOfRightInLeft 101 = .ok (.goto (-77), 3) := by decide +kernel
theorem dX4_leaveFloorOfRootOfRightInLeft_104 : decode cX4_leaveFloorOfRootOfRightInLeft 104 = .ok (.return_, 1) := by decide +kernel
theorem dX4_growsWhenRounded_0 : decode cX4_growsWhenRounded 0 = .ok (.aload_n 0, 1) := by decide +kernel
theorem dX4_growsWhenRounded_1 : decode cX4_growsWhenRounded 1 = .ok (.getfield 61, 3) := by decide +kernel
theorem dX4_growsWhenRounded_4 : decode cX4_growsWhenRounded 4 = .ok (.getfield 230, 3) := by decide +kernel
theorem dX4_growsWhenRounded_7 : decode cX4_growsWhenRounded 7 = .ok (.invokevirtual 216, 3) := by decide +kernel
theorem dX4_growsWhenRounded_10 : decode cX4_growsWhenRounded 10 = .ok (.ifCond .eq 5, 3) := by decide +kernel
theorem dX4_growsWhenRounded_13 : decode cX4_growsWhenRounded 13 = .ok (.iconst 0, 1) := by decide +kernel
theorem dX4_growsWhenRounded_14 : decode cX4_growsWhenRounded 14 = .ok (.ireturn, 1) := by decide +kernel
theorem dX4_growsWhenRounded_15 : decode cX4_growsWhenRounded 15 = .ok (.iload_n 2, 1) := by decide +kernel
theorem dX4_growsWhenRounded_16 : decode cX4_growsWhenRounded 16 = .ok (.ifCond .ne 13, 3) := by decide +kernel
theorem dX4_growsWhenRounded_19 : decode cX4_growsWhenRounded 19 = .ok (.iload_n 1, 1) := by decide +kernel
theorem dX4_growsWhenRounded_20 : decode cX4_growsWhenRounded 20 = .ok (.ifCond .ge 7, 3) := by decide +kernel
theorem dX4_growsWhenRounded_23 : decode cX4_growsWhenRounded 23 = .ok (.iconst 1, 1) := by decide +kernel
theorem dX4_growsWhenRounded_24 : decode cX4_growsWhenRounded 24 = .ok (.goto 4, 3) := by decide +kernel
theorem dX4_growsWhenRounded_27 : decode cX4_growsWhenRounded 27 = .ok (.iconst 0, 1) := by decide +kernel
theorem dX4_growsWhenRounded_28 : decode cX4_growsWhenRounded 28 = .ok (.ireturn, 1) := by decide +kernel
theorem dX4_growsWhenRounded_29 : decode cX4_growsWhenRounded 29 = .ok (.iload_n 2, 1) := by decide +kernel
theorem dX4_growsWhenRounded_30 : decode cX4_growsWhenRounded 30 = .ok (.iconst 1, 1) := by decide +kernel
theorem dX4_growsWhenRounded_31 : decode cX4_growsWhenRounded 31 = .ok (.if_icmp .ne 13, 3) := by decide +kernel
theorem dX4_growsWhenRounded_34 : decode cX4_growsWhenRounded 34 = .ok (.iload_n 1, 1) := by decide +kernel
theorem dX4_growsWhenRounded_35 : decode cX4_growsWhenRounded 35 = .ok (.ifCond .le 7, 3) := by decide +kernel
theorem dX4_growsWhenRounded_38 : decode cX4_growsWhenRounded 38 = .ok (.iconst 1, 1) := by decide +kernel
theorem dX4_growsWhenRounded_39 : decode cX4_growsWhenRounded 39 = .ok (.goto 4, 3) := by decide +kernel
theorem dX4_growsWhenRounded_42 : decode cX4_growsWhenRounded 42 = .ok (.iconst 0, 1) := by decide +kernel
theorem dX4_growsWhenRounded_43 : decode cX4_growsWhenRounded 43 = .ok (.ireturn, 1) := by decide +kernel
theorem dX4_growsWhenRounded_44 : decode cX4_growsWhenRounded 44 = .ok (.aload_n 0, 1) := by decide +kernel
theorem dX4_growsWhenRounded_45 : decode cX4_growsWhenRounded 45 = .ok (.getfield 43, 3) := by decide +kernel
theorem dX4_growsWhenRounded_48 : decode cX4_growsWhenRounded 48 = .ok (.aload_n 0, 1) := by decide +kernel
theorem dX4_growsWhenRounded_49 : decode cX4_growsWhenRounded 49 = .ok (.getfield 61, 3) := by decide +kernel
theorem dX4_growsWhenRounded_52 : decode cX4_growsWhenRounded 52 = .ok (.getfield 230, 3) := by decide +kernel
theorem dX4_growsWhenRounded_55 : decode cX4_growsWhenRounded 55 = .ok (.aload_n 0, 1) := by decide +kernel
theorem dX4_growsWhenRounded_56 : decode cX4_growsWhenRounded 56 = .ok (.getfield 61, 3) := by decide +kernel
theorem dX4_growsWhenRounded_59 : decode cX4_growsWhenRounded 59 = .ok (.getfield 230, 3) := by decide +kernel
theorem dX4_growsWhenRounded_62 : decode cX4_growsWhenRounded 62 = .ok (.invokevirtual 105, 3) := by decide +kernel
theorem dX4_growsWhenRounded_65 : decode cX4_growsWhenRounded 65 = .ok (.aload_n 0, 1) := by decide +kernel
theorem dX4_growsWhenRounded_66 : decode cX4_growsWhenRounded 66 = .ok (.getfield 43, 3) := by decide +kernel
theorem dX4_growsWhenRounded_69 : decode cX4_growsWhenRounded 69 = .ok (.aload_n 0, 1) := by decide +kernel
theorem dX4_growsWhenRounded_70 : decode cX4_growsWhenRounded 70 = .ok (.getfield 52, 3) := by decide +kernel
theorem dX4_growsWhenRounded_73 : decode cX4_growsWhenRounded 73 = .ok (.invokevirtual 108, 3) := by decide +kernel
theorem dX4_growsWhenRounded_76 : decode cX4_growsWhenRounded 76 = .ok (.istore_n 3, 1) := by decide +kernel
theorem dX4_growsWhenRounded_77 : decode cX4_growsWhenRounded 77 = .ok (.iload_n 3, 1) := by decide +kernel
theorem dX4_growsWhenRounded_78 : decode cX4_growsWhenRounded 78 = .ok (.ifCond .eq 13, 3) := by decide +kernel
theorem dX4_growsWhenRounded_81 : decode cX4_growsWhenRounded 81 = .ok (.iload_n 3, 1) := by decide +kernel
theorem dX4_growsWhenRounded_82 : decode cX4_growsWhenRounded 82 = .ok (.ifCond .le 7, 3) := by decide +kernel
theorem dX4_growsWhenRounded_85 : decode cX4_growsWhenRounded 85 = .ok (.iconst 1, 1) := by decide +kernel
theorem dX4_growsWhenRounded_86 : decode cX4_growsWhenRounded 86 = .ok (.goto 4, 3) := by decide +kernel
theorem dX4_growsWhenRounded_89 : decode cX4_growsWhenRounded 89 = .ok (.iconst 0, 1) := by decide +kernel
theorem dX4_growsWhenRounded_90 : decode cX4_growsWhenRounded 90 = .ok (.ireturn, 1) := by decide +kernel
theorem dX4_growsWhenRounded_91 : decode cX4_growsWhenRounded 91 = .ok (.iload_n 2, 1) := by decide +kernel
theorem dX4_growsWhenRounded_92 : decode cX4_growsWhenRounded 92 = .ok (.iconst 2, 1) := by decide +kernel
theorem dX4_growsWhenRounded_93 : decode cX4_growsWhenRounded 93 = .ok (.if_icmp .ne 15, 3) := by decide +kernel
theorem dX4_growsWhenRounded_96 : decode cX4_growsWhenRounded 96 = .ok (.iload_n 1, 1) := by decide +kernel
theorem dX4_growsWhenRounded_97 : decode cX4_growsWhenRounded 97 = .ok (.ifCond .le 7, 3) := by decide +kernel
theorem dX4_growsWhenRounded_100 : decode cX4_growsWhenRounded 100 = .ok (.iconst 1, 1) := by decide +kernel
theorem dX4_growsWhenRounded_101 : decode cX4_growsWhenRounded 101 = .ok (.goto 14, 3) := by decide +kernel
theorem dX4_growsWhenRounded_104 : decode cX4_growsWhenRounded 104 = .ok (.iconst 0, 1) := by decide +kernel
theorem dX4_growsWhenRounded_105 : decode cX4_growsWhenRounded 105 = .ok (.goto 10, 3) := by decide +kernel
theorem dX4_growsWhenRounded_108 : decode cX4_growsWhenRounded 108 = .ok (.aload_n 0, 1) := by decide +kernel
theorem dX4_growsWhenRounded_109 : decode cX4_growsWhenRounded 109 = .ok (.getfield 49, 3) := by decide +kernel
theorem dX4_growsWhenRounded_112 : decode cX4_growsWhenRounded 112 = .ok (.invokevirtual 233, 3) := by decide +kernel
theorem dX4_growsWhenRounded_115 : decode cX4_growsWhenRounded 115 = .ok (.ireturn, 1) := by decide +kernel
theorem dX4_sumOfWeights_0 : decode cX4_sumOfWeights 0 = .ok (.lconst 0, 1) := by decide +kernel
theorem dX4_sumOfWeights_1 : decode cX4_sumOfWeights 1 = .ok (.lstore_n 1, 1) := by decide +kernel
theorem dX4_sumOfWeights_2 : decode cX4_sumOfWeights 2 = .ok (.aload_n 0, 1) := by decide +kernel
theorem dX4_sumOfWeights_3 : decode cX4_sumOfWeights 3 = .ok (.getfield 32, 3) := by decide +kernel
theorem dX4_sumOfWeights_6 : decode cX4_sumOfWeights 6 = .ok (.astore_n 3, 1) := by decide +kernel
theorem dX4_sumOfWeights_7 : decode cX4_sumOfWeights 7 = .ok (.aload_n 3, 1) := by decide +kernel
theorem dX4_sumOfWeights_8 : decode cX4_sumOfWeights 8 = .ok (.arraylength, 1) := by decide +kernel
theorem dX4_sumOfWeights_9 : decode cX4_sumOfWeights 9 = .ok (.istore 4, 2) := by decide +kernel
theorem dX4_sumOfWeights_11 : decode cX4_sumOfWeights 11 = .ok (.iconst 0, 1) := by decide +kernel
theorem dX4_sumOfWeights_12 : decode cX4_sumOfWeights 12 = .ok (.istore 5, 2) := by decide +kernel
theorem dX4_sumOfWeights_14 : decode cX4_sumOfWeights 14 = .ok (.iload 5, 2) := by decide +kernel
theorem dX4_sumOfWeights_16 : decode cX4_sumOfWeights 16 = .ok (.iload 4, 2) := by decide +kernel
theorem dX4_sumOfWeights_18 : decode cX4_sumOfWeights 18 = .ok (.if_icmp .ge 20, 3) := by decide +kernel
theorem dX4_sumOfWeights_21 : decode cX4_sumOfWeights 21 = .ok (.aload_n 3, 1) := by decide +kernel
theorem dX4_sumOfWeights_22 : decode cX4_sumOfWeights 22 = .ok (.iload 5, 2) := by decide +kernel
theorem dX4_sumOfWeights_24 : decode cX4_sumOfWeights 24 = .ok (.laload, 1) := by decide +kernel
theorem dX4_sumOfWeights_25 : decode cX4_sumOfWeights 25 = .ok (.lstore 6, 2) := by decide +kernel
theorem dX4_sumOfWeights_27 : decode cX4_sumOfWeights 27 = .ok (.lload_n 1, 1) := by decide +kernel
theorem dX4_sumOfWeights_28 : decode cX4_sumOfWeights 28 = .ok (.lload 6, 2) := by decide +kernel
theorem dX4_sumOfWeights_30 : decode cX4_sumOfWeights 30 = .ok (.ladd, 1) := by decide +kernel
theorem dX4_sumOfWeights_31 : decode cX4_sumOfWeights 31 = .ok (.lstore_n 1, 1) := by decide +kernel
theorem dX4_sumOfWeights_32 : decode cX4_sumOfWeights 32 = .ok (.iinc 5 1, 3) := by decide +kernel
theorem dX4_sumOfWeights_35 : decode cX4_sumOfWeights 35 = .ok (.goto (-21), 3) := by decide +kernel
theorem dX4_sumOfWeights_38 : decode cX4_sumOfWeights 38 = .ok (.lload_n 1, 1) := by decide +kernel
theorem dX4_sumOfWeights_39 : decode cX4_sumOfWeights 39 = .ok (.lreturn, 1) := by decide +kernel
theorem dX4_leftOver_0 : decode cX4_leftOver 0 = .ok (.lload_n 1, 1) := by decide +kernel
theorem dX4_leftOver_1 : decode cX4_leftOver 1 = .ok (.lstore 5, 2) := by decide +kernel
theorem dX4_leftOver_3 : decode cX4_leftOver 3 = .ok (.aload_n 0, 1) := by decide +kernel
theorem dX4_leftOver_4 : decode cX4_leftOver 4 = .ok (.getfield 32, 3) := by decide +kernel
theorem dX4_leftOver_7 : decode cX4_leftOver 7 = .ok (.astore 7, 2) := by decide +kernel
theorem dX4_leftOver_9 : decode cX4_leftOver 9 = .ok (.aload 7, 2) := by decide +kernel
theorem dX4_leftOver_11 : decode cX4_leftOver 11 = .ok (.arraylength, 1) := by decide +kernel
theorem dX4_leftOver_12 : decode cX4_leftOver 12 = .ok (.istore 8, 2) := by decide +kernel
theorem dX4_leftOver_14 : decode cX4_leftOver 14 = .ok (.iconst 0, 1) := by decide +kernel
theorem dX4_leftOver_15 : decode cX4_leftOver 15 = .ok (.istore 9, 2) := by decide +kernel
theorem dX4_leftOver_17 : decode cX4_leftOver 17 = .ok (.iload 9, 2) := by decide +kernel
theorem dX4_leftOver_19 : decode cX4_leftOver 19 = .ok (.iload 8, 2) := by decide +kernel
theorem dX4_leftOver_21 : decode cX4_leftOver 21 = .ok (.if_icmp .ge 37, 3) := by decide +kernel
theorem dX4_leftOver_24 : decode cX4_leftOver 24 = .ok (.aload 7, 2) := by decide +kernel
theorem dX4_leftOver_26 : decode cX4_leftOver 26 = .ok (.iload 9, 2) := by decide +kernel
theorem dX4_leftOver_28 : decode cX4_leftOver 28 = .ok (.laload, 1) := by decide +kernel
theorem dX4_leftOver_29 : decode cX4_leftOver 29 = .ok (.lstore 10, 2) := by decide +kernel
theorem dX4_leftOver_31 : decode cX4_leftOver 31 = .ok (.lload 5, 2) := by decide +kernel
theorem dX4_leftOver_33 : decode cX4_leftOver 33 = .ok (.lload_n 3, 1) := by decide +kernel
theorem dX4_leftOver_34 : decode cX4_leftOver 34 = .ok (.lconst 0, 1) := by decide +kernel
theorem dX4_leftOver_35 : decode cX4_leftOver 35 = .ok (.lcmp, 1) := by decide +kernel
theorem dX4_leftOver_36 : decode cX4_leftOver 36 = .ok (.ifCond .le 12, 3) := by decide +kernel
theorem dX4_leftOver_39 : decode cX4_leftOver 39 = .ok (.lload_n 1, 1) := by decide +kernel
theorem dX4_leftOver_40 : decode cX4_leftOver 40 = .ok (.lload 10, 2) := by decide +kernel
theorem dX4_leftOver_42 : decode cX4_leftOver 42 = .ok (.lmul, 1) := by decide +kernel
theorem dX4_leftOver_43 : decode cX4_leftOver 43 = .ok (.lload_n 3, 1) := by decide +kernel
theorem dX4_leftOver_44 : decode cX4_leftOver 44 = .ok (.ldiv, 1) := by decide +kernel
theorem dX4_leftOver_45 : decode cX4_leftOver 45 = .ok (.goto 4, 3) := by decide +kernel
theorem dX4_leftOver_48 : decode cX4_leftOver 48 = .ok (.lconst 0, 1) := by decide +kernel
theorem dX4_leftOver_49 : decode cX4_leftOver 49 = .ok (.lsub, 1) := by decide +kernel
theorem dX4_leftOver_50 : decode cX4_leftOver 50 = .ok (.lstore 5, 2) := by decide +kernel
theorem dX4_leftOver_52 : decode cX4_leftOver 52 = .ok (.iinc 9 1, 3) := by decide +kernel
theorem dX4_leftOver_55 : decode cX4_leftOver 55 = .ok (.goto (-38), 3) := by decide +kernel
theorem dX4_leftOver_58 : decode cX4_leftOver 58 = .ok (.lload 5, 2) := by decide +kernel
theorem dX4_leftOver_60 : decode cX4_leftOver 60 = .ok (.lreturn, 1) := by decide +kernel
theorem dX4_countServedBefore_0 : decode cX4_countServedBefore 0 = .ok (.lload_n 3, 1) := by decide +kernel
theorem dX4_countServedBefore_1 : decode cX4_countServedBefore 1 = .ok (.lconst 0, 1) := by decide +kernel
theorem dX4_countServedBefore_2 : decode cX4_countServedBefore 2 = .ok (.lcmp, 1) := by decide +kernel
theorem dX4_countServedBefore_3 : decode cX4_countServedBefore 3 = .ok (.ifCond .le 18, 3) := by decide +kernel
theorem dX4_countServedBefore_6 : decode cX4_countServedBefore 6 = .ok (.iload 5, 2) := by decide +kernel
theorem dX4_countServedBefore_8 : decode cX4_countServedBefore 8 = .ok (.ifCond .lt 13, 3) := by decide +kernel
theorem dX4_countServedBefore_11 : decode cX4_countServedBefore 11 = .ok (.iload 5, 2) := by decide +kernel
theorem dX4_countServedBefore_13 : decode cX4_countServedBefore 13 = .ok (.aload_n 0, 1) := by decide +kernel
theorem dX4_countServedBefore_14 : decode cX4_countServedBefore 14 = .ok (.getfield 32, 3) := by decide +kernel
theorem dX4_countServedBefore_17 : decode cX4_countServedBefore 17 = .ok (.arraylength, 1) := by decide +kernel
theorem dX4_countServedBefore_18 : decode cX4_countServedBefore 18 = .ok (.if_icmp .lt 5, 3) := by decide +kernel
theorem dX4_countServedBefore_21 : decode cX4_countServedBefore 21 = .ok (.iconst 0, 1) := by decide +kernel
theorem dX4_countServedBefore_22 : decode cX4_countServedBefore 22 = .ok (.ireturn, 1) := by decide +kernel
theorem dX4_countServedBefore_23 : decode cX4_countServedBefore 23 = .ok (.lload_n 1, 1) := by decide +kernel
theorem dX4_countServedBefore_24 : decode cX4_countServedBefore 24 = .ok (.aload_n 0, 1) := by decide +kernel
theorem dX4_countServedBefore_25 : decode cX4_countServedBefore 25 = .ok (.getfield 32, 3) := by decide +kernel
theorem dX4_countServedBefore_28 : decode cX4_countServedBefore 28 = .ok (.iload 5, 2) := by decide +kernel
theorem dX4_countServedBefore_30 : decode cX4_countServedBefore 30 = .ok (.laload, 1) := by decide +kernel
theorem dX4_countServedBefore_31 : decode cX4_countServedBefore 31 = .ok (.lmul, 1) := by decide +kernel
theorem dX4_countServedBefore_32 : decode cX4_countServedBefore 32 = .ok (.lload_n 3, 1) := by decide +kernel
theorem dX4_countServedBefore_33 : decode cX4_countServedBefore 33 = .ok (.lrem, 1) := by decide +kernel
theorem dX4_countServedBefore_34 : decode cX4_countServedBefore 34 = .ok (.lstore 6, 2) := by decide +kernel
theorem dX4_countServedBefore_36 : decode cX4_countServedBefore 36 = .ok (.iconst 0, 1) := by decide +kernel
theorem dX4_countServedBefore_37 : decode cX4_countServedBefore 37 = .ok (.istore 8, 2) := by decide +kernel
theorem dX4_countServedBefore_39 : decode cX4_countServedBefore 39 = .ok (.iconst 0, 1) := by decide +kernel
theorem dX4_countServedBefore_40 : decode cX4_countServedBefore 40 = .ok (.istore 9, 2) := by decide +kernel
theorem dX4_countServedBefore_42 : decode cX4_countServedBefore 42 = .ok (.iload 9, 2) := by decide +kernel
theorem dX4_countServedBefore_44 : decode cX4_countServedBefore 44 = .ok (.aload_n 0, 1) := by decide +kernel
theorem dX4_countServedBefore_45 : decode cX4_countServedBefore 45 = .ok (.getfield 32, 3) := by decide +kernel
theorem dX4_countServedBefore_48 : decode cX4_countServedBefore 48 = .ok (.arraylength, 1) := by decide +kernel
theorem dX4_countServedBefore_49 : decode cX4_countServedBefore 49 = .ok (.if_icmp .ge 48, 3) := by decide +kernel
theorem dX4_countServedBefore_52 : decode cX4_countServedBefore 52 = .ok (.lload_n 1, 1) := by decide +kernel
theorem dX4_countServedBefore_53 : decode cX4_countServedBefore 53 = .ok (.aload_n 0, 1) := by decide +kernel
theorem dX4_countServedBefore_54 : decode cX4_countServedBefore 54 = .ok (.getfield 32, 3) := by decide +kernel
theorem dX4_countServedBefore_57 : decode cX4_countServedBefore 57 = .ok (.iload 9, 2) := by decide +kernel
theorem dX4_countServedBefore_59 : decode cX4_countServedBefore 59 = .ok (.laload, 1) := by decide +kernel
theorem dX4_countServedBefore_60 : decode cX4_countServedBefore 60 = .ok (.lmul, 1) := by decide +kernel
theorem dX4_countServedBefore_61 : decode cX4_countServedBefore 61 = .ok (.lload_n 3, 1) := by decide +kernel
theorem dX4_countServedBefore_62 : decode cX4_countServedBefore 62 = .ok (.lrem, 1) := by decide +kernel
theorem dX4_countServedBefore_63 : decode cX4_countServedBefore 63 = .ok (.lstore 10, 2) := by decide +kernel
theorem dX4_countServedBefore_65 : decode cX4_countServedBefore 65 = .ok (.lload 10, 2) := by decide +kernel
theorem dX4_countServedBefore_67 : decode cX4_countServedBefore 67 = .ok (.lload 6, 2) := by decide +kernel
theorem dX4_countServedBefore_69 : decode cX4_countServedBefore 69 = .ok (.lcmp, 1) := by decide +kernel
theorem dX4_countServedBefore_70 : decode cX4_countServedBefore 70 = .ok (.ifCond .gt 18, 3) := by decide +kernel
theorem dX4_countServedBefore_73 : decode cX4_countServedBefore 73 = .ok (.lload 10, 2) := by decide +kernel
theorem dX4_countServedBefore_75 : decode cX4_countServedBefore 75 = .ok (.lload 6, 2) := by decide +kernel
theorem dX4_countServedBefore_77 : decode cX4_countServedBefore 77 = .ok (.lcmp, 1) := by decide +kernel
theorem dX4_countServedBefore_78 : decode cX4_countServedBefore 78 = .ok (.ifCond .ne 13, 3) := by decide +kernel
theorem dX4_countServedBefore_81 : decode cX4_countServedBefore 81 = .ok (.iload 9, 2) := by decide +kernel
theorem dX4_countServedBefore_83 : decode cX4_countServedBefore 83 = .ok (.iload 5, 2) := by decide +kernel
theorem dX4_countServedBefore_85 : decode cX4_countServedBefore 85 = .ok (.if_icmp .ge 6, 3) := by decide +kernel
theorem dX4_countServedBefore_88 : decode cX4_countServedBefore 88 = .ok (.iinc 8 1, 3) := by decide +kernel
theorem dX4_countServedBefore_91 : decode cX4_countServedBefore 91 = .ok (.iinc 9 1, 3) := by decide +kernel
theorem dX4_countServedBefore_94 : decode cX4_countServedBefore 94 = .ok (.goto (-52), 3) := by decide +kernel
theorem dX4_countServedBefore_97 : decode cX4_countServedBefore 97 = .ok (.iload 8, 2) := by decide +kernel
theorem dX4_countServedBefore_99 : decode cX4_countServedBefore 99 = .ok (.ireturn, 1) := by decide +kernel
theorem dX4_writeDigitsOfLeft_0 : decode cX4_writeDigitsOfLeft 0 = .ok (.iconst 0, 1) := by decide +kernel
theorem dX4_writeDigitsOfLeft_1 : decode cX4_writeDigitsOfLeft 1 = .ok (.istore_n 1, 1) := by decide +kernel
theorem dX4_writeDigitsOfLeft_2 : decode cX4_writeDigitsOfLeft 2 = .ok (.iconst 0, 1) := by decide +kernel
theorem dX4_writeDigitsOfLeft_3 : decode cX4_writeDigitsOfLeft 3 = .ok (.istore_n 2, 1) := by decide +kernel
theorem dX4_writeDigitsOfLeft_4 : decode cX4_writeDigitsOfLeft 4 = .ok (.iload_n 2, 1) := by decide +kernel
theorem dX4_writeDigitsOfLeft_5 : decode cX4_writeDigitsOfLeft 5 = .ok (.bipush 27, 2) := by decide +kernel
theorem dX4_writeDigitsOfLeft_7 : decode cX4_writeDigitsOfLeft 7 = .ok (.if_icmp .ge 66, 3) := by decide +kernel
theorem dX4_writeDigitsOfLeft_10 : decode cX4_writeDigitsOfLeft 10 = .ok (.aload_n 0, 1) := by decide +kernel
theorem dX4_writeDigitsOfLeft_11 : decode cX4_writeDigitsOfLeft 11 = .ok (.getfield 49, 3) := by decide +kernel
theorem dX4_writeDigitsOfLeft_14 : decode cX4_writeDigitsOfLeft 14 = .ok (.invokevirtual 216, 3) := by decide +kernel
theorem dX4_writeDigitsOfLeft_17 : decode cX4_writeDigitsOfLeft 17 = .ok (.ifCond .ne 56, 3) := by decide +kernel
theorem dX4_writeDigitsOfLeft_20 : decode cX4_writeDigitsOfLeft 20 = .ok (.aload_n 0, 1) := by decide +kernel
theorem dX4_writeDigitsOfLeft_21 : decode cX4_writeDigitsOfLeft 21 = .ok (.getfield 49, 3) := by decide +kernel
theorem dX4_writeDigitsOfLeft_24 : decode cX4_writeDigitsOfLeft 24 = .ok (.ldc2_w 171, 3) := by decide +kernel
theorem dX4_writeDigitsOfLeft_27 : decode cX4_writeDigitsOfLeft 27 = .ok (.invokevirtual 236, 3) := by decide +kernel
theorem dX4_writeDigitsOfLeft_30 : decode cX4_writeDigitsOfLeft 30 = .ok (.lstore_n 3, 1) := by decide +kernel
theorem dX4_writeDigitsOfLeft_31 : decode cX4_writeDigitsOfLeft 31 = .ok (.iconst 0, 1) := by decide +kernel
theorem dX4_writeDigitsOfLeft_32 : decode cX4_writeDigitsOfLeft 32 = .ok (.istore 5, 2) := by decide +kernel
theorem dX4_writeDigitsOfLeft_34 : decode cX4_writeDigitsOfLeft 34 = .ok (.iload 5, 2) := by decide +kernel
theorem dX4_writeDigitsOfLeft_36 : decode cX4_writeDigitsOfLeft 36 = .ok (.bipush 9, 2) := by decide +kernel
theorem dX4_writeDigitsOfLeft_38 : decode cX4_writeDigitsOfLeft 38 = .ok (.if_icmp .ge 29, 3) := by decide +kernel
theorem dX4_writeDigitsOfLeft_41 : decode cX4_writeDigitsOfLeft 41 = .ok (.aload_n 0, 1) := by decide +kernel
theorem dX4_writeDigitsOfLeft_42 : decode cX4_writeDigitsOfLeft 42 = .ok (.iload_n 1, 1) := by decide +kernel
theorem dX4_writeDigitsOfLeft_43 : decode cX4_writeDigitsOfLeft 43 = .ok (.lload_n 3, 1) := by decide +kernel
theorem dX4_writeDigitsOfLeft_44 : decode cX4_writeDigitsOfLeft 44 = .ok (.ldc2_w 240, 3) := by decide +kernel
theorem dX4_writeDigitsOfLeft_47 : decode cX4_writeDigitsOfLeft 47 = .ok (.lrem, 1) := by decide +kernel
theorem dX4_writeDigitsOfLeft_48 : decode cX4_writeDigitsOfLeft 48 = .ok (.l2i, 1) := by decide +kernel
theorem dX4_writeDigitsOfLeft_49 : decode cX4_writeDigitsOfLeft 49 = .ok (.invokevirtual 242, 3) := by decide +kernel
theorem dX4_writeDigitsOfLeft_52 : decode cX4_writeDigitsOfLeft 52 = .ok (.lload_n 3, 1) := by decide +kernel
theorem dX4_writeDigitsOfLeft_53 : decode cX4_writeDigitsOfLeft 53 = .ok (.ldc2_w 240, 3) := by decide +kernel
theorem dX4_writeDigitsOfLeft_56 : decode cX4_writeDigitsOfLeft 56 = .ok (.ldiv, 1) := by decide +kernel
theorem dX4_writeDigitsOfLeft_57 : decode cX4_writeDigitsOfLeft 57 = .ok (.lstore_n 3, 1) := by decide +kernel
theorem dX4_writeDigitsOfLeft_58 : decode cX4_writeDigitsOfLeft 58 = .ok (.iinc 1 1, 3) := by decide +kernel
theorem dX4_writeDigitsOfLeft_61 : decode cX4_writeDigitsOfLeft 61 = .ok (.iinc 5 1, 3) := by decide +kernel
theorem dX4_writeDigitsOfLeft_64 : decode cX4_writeDigitsOfLeft 64 = .ok (.goto (-30), 3) := by decide +kernel
theorem dX4_writeDigitsOfLeft_67 : decode cX4_writeDigitsOfLeft 67 = .ok (.iinc 2 1, 3) := by decide +kernel
theorem dX4_writeDigitsOfLeft_70 : decode cX4_writeDigitsOfLeft 70 = .ok (.goto (-66), 3) := by decide +kernel
theorem dX4_writeDigitsOfLeft_73 : decode cX4_writeDigitsOfLeft 73 = .ok (.iload_n 1, 1) := by decide +kernel
theorem dX4_writeDigitsOfLeft_74 : decode cX4_writeDigitsOfLeft 74 = .ok (.ifCond .le 19, 3) := by decide +kernel
theorem dX4_writeDigitsOfLeft_77 : decode cX4_writeDigitsOfLeft 77 = .ok (.aload_n 0, 1) := by decide +kernel
theorem dX4_writeDigitsOfLeft_78 : decode cX4_writeDigitsOfLeft 78 = .ok (.iload_n 1, 1) := by decide +kernel
theorem dX4_writeDigitsOfLeft_79 : decode cX4_writeDigitsOfLeft 79 = .ok (.iconst 1, 1) := by decide +kernel
theorem dX4_writeDigitsOfLeft_80 : decode cX4_writeDigitsOfLeft 80 = .ok (.isub, 1) := by decide +kernel
theorem dX4_writeDigitsOfLeft_81 : decode cX4_writeDigitsOfLeft 81 = .ok (.invokevirtual 199, 3) := by decide +kernel
theorem dX4_writeDigitsOfLeft_84 : decode cX4_writeDigitsOfLeft 84 = .ok (.ifCond .ne 9, 3) := by decide +kernel
theorem dX4_writeDigitsOfLeft_87 : decode cX4_writeDigitsOfLeft 87 = .ok (.iinc 1 (-1), 3) := by decide +kernel
theorem dX4_writeDigitsOfLeft_90 : decode cX4_writeDigitsOfLeft 90 = .ok (.goto (-17), 3) := by decide +kernel
theorem dX4_writeDigitsOfLeft_93 : decode cX4_writeDigitsOfLeft 93 = .ok (.iload_n 1, 1) := by decide +kernel
theorem dX4_writeDigitsOfLeft_94 : decode cX4_writeDigitsOfLeft 94 = .ok (.ifCond .ne 11, 3) := by decide +kernel
theorem dX4_writeDigitsOfLeft_97 : decode cX4_writeDigitsOfLeft 97 = .ok (.aload_n 0, 1) := by decide +kernel
theorem dX4_writeDigitsOfLeft_98 : decode cX4_writeDigitsOfLeft 98 = .ok (.iconst 0, 1) := by decide +kernel
theorem dX4_writeDigitsOfLeft_99 : decode cX4_writeDigitsOfLeft 99 = .ok (.iconst 0, 1) := by decide +kernel
theorem dX4_writeDigitsOfLeft_100 : decode cX4_writeDigitsOfLeft 100 = .ok (.invokevirtual 242, 3) := by decide +kernel
theorem dX4_writeDigitsOfLeft_103 : decode cX4_writeDigitsOfLeft 103 = .ok (.iconst 1, 1) := by decide +kernel
theorem dX4_writeDigitsOfLeft_104 : decode cX4_writeDigitsOfLeft 104 = .ok (.ireturn, 1) := by decide +kernel
theorem dX4_writeDigitsOfLeft_105 : decode cX4_writeDigitsOfLeft 105 = .ok (.iload_n 1, 1) := by decide +kernel
theorem dX4_writeDigitsOfLeft_106 : decode cX4_writeDigitsOfLeft 106 = .ok (.ireturn, 1) := by decide +kernel
theorem dX4_digitFromLowest_0 : decode cX4_digitFromLowest 0 = .ok (.iload_n 1, 1) := by decide +kernel
theorem dX4_digitFromLowest_1 : decode cX4_digitFromLowest 1 = .ok (.ifCond .lt 21, 3) := by decide +kernel
theorem dX4_digitFromLowest_4 : decode cX4_digitFromLowest 4 = .ok (.iload_n 1, 1) := by decide +kernel
theorem dX4_digitFromLowest_5 : decode cX4_digitFromLowest 5 = .ok (.aload_n 0, 1) := by decide +kernel
theorem dX4_digitFromLowest_6 : decode cX4_digitFromLowest 6 = .ok (.getfield 55, 3) := by decide +kernel
theorem dX4_digitFromLowest_9 : decode cX4_digitFromLowest 9 = .ok (.arraylength, 1) := by decide +kernel
theorem dX4_digitFromLowest_10 : decode cX4_digitFromLowest 10 = .ok (.if_icmp .ge 12, 3) := by decide +kernel
theorem dX4_digitFromLowest_13 : decode cX4_digitFromLowest 13 = .ok (.aload_n 0, 1) := by decide +kernel
theorem dX4_digitFromLowest_14 : decode cX4_digitFromLowest 14 = .ok (.getfield 55, 3) := by decide +kernel
theorem dX4_digitFromLowest_17 : decode cX4_digitFromLowest 17 = .ok (.iload_n 1, 1) := by decide +kernel
theorem dX4_digitFromLowest_18 : decode cX4_digitFromLowest 18 = .ok (.iaload, 1) := by decide +kernel
theorem dX4_digitFromLowest_19 : decode cX4_digitFromLowest 19 = .ok (.goto 4, 3) := by decide +kernel
theorem dX4_digitFromLowest_22 : decode cX4_digitFromLowest 22 = .ok (.iconst 0, 1) := by decide +kernel
theorem dX4_digitFromLowest_23 : decode cX4_digitFromLowest 23 = .ok (.ireturn, 1) := by decide +kernel
theorem dX4_setDigitFromLowest_0 : decode cX4_setDigitFromLowest 0 = .ok (.iload_n 1, 1) := by decide +kernel
theorem dX4_setDigitFromLowest_1 : decode cX4_setDigitFromLowest 1 = .ok (.ifCond .lt 19, 3) := by decide +kernel
theorem dX4_setDigitFromLowest_4 : decode cX4_setDigitFromLowest 4 = .ok (.iload_n 1, 1) := by decide +kernel
theorem dX4_setDigitFromLowest_5 : decode cX4_setDigitFromLowest 5 = .ok (.aload_n 0, 1) := by decide +kernel
theorem dX4_setDigitFromLowest_6 : decode cX4_setDigitFromLowest 6 = .ok (.getfield 55, 3) := by decide +kernel
theorem dX4_setDigitFromLowest_9 : decode cX4_setDigitFromLowest 9 = .ok (.arraylength, 1) := by decide +kernel
theorem dX4_setDigitFromLowest_10 : decode cX4_setDigitFromLowest 10 = .ok (.if_icmp .ge 10, 3) := by decide +kernel
theorem dX4_setDigitFromLowest_13 : decode cX4_setDigitFromLowest 13 = .ok (.aload_n 0, 1) := by decide +kernel
theorem dX4_setDigitFromLowest_14 : decode cX4_setDigitFromLowest 14 = .ok (.getfield 55, 3) := by decide +kernel
theorem dX4_setDigitFromLowest_17 : decode cX4_setDigitFromLowest 17 = .ok (.iload_n 1, 1) := by decide +kernel
theorem dX4_setDigitFromLowest_18 : decode cX4_setDigitFromLowest 18 = .ok (.iload_n 2, 1) := by decide +kernel
theorem dX4_setDigitFromLowest_19 : decode cX4_setDigitFromLowest 19 = .ok (.iastore, 1) := by decide +kernel
theorem dX4_setDigitFromLowest_20 : decode cX4_setDigitFromLowest 20 = .ok (.return_, 1) := by decide +kernel
