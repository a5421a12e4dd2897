theorem dX4_mayOpen_1 : decode cX4_mayOpen 1 = .ok (.bipush 6, 2) := by decide +kernel
theorem dX4_mayOpen_3 : decode cX4_mayOpen 3 = .ok (.if_icmp .ge 18, 3) := by decide +kernel
theorem dX4_mayOpen_6 : decode cX4_mayOpen 6 = .ok (.aload_n 0, 1) := by decide +kernel
theorem dX4_mayOpen_7 : decode cX4_mayOpen 7 = .ok (.getfield 7, 3) := by decide +kernel
theorem dX4_mayOpen_10 : decode cX4_mayOpen 10 = .ok (.dup, 1) := by decide +kernel
theorem dX4_mayOpen_11 : decode cX4_mayOpen 11 = .ok (.getfield 48, 3) := by decide +kernel
theorem dX4_mayOpen_14 : decode cX4_mayOpen 14 = .ok (.iconst 1, 1) := by decide +kernel
theorem dX4_mayOpen_15 : decode cX4_mayOpen 15 = .ok (.iadd, 1) := by decide +kernel
theorem dX4_mayOpen_16 : decode cX4_mayOpen 16 = .ok (.putfield 48, 3) := by decide +kernel
theorem dX4_mayOpen_19 : decode cX4_mayOpen 19 = .ok (.iconst 1, 1) := by decide +kernel
theorem dX4_mayOpen_20 : decode cX4_mayOpen 20 = .ok (.ireturn, 1) := by decide +kernel
theorem dX4_mayOpen_21 : decode cX4_mayOpen 21 = .ok (.aload_n 0, 1) := by decide +kernel
theorem dX4_mayOpen_22 : decode cX4_mayOpen 22 = .ok (.getfield 7, 3) := by decide +kernel
theorem dX4_mayOpen_25 : decode cX4_mayOpen 25 = .ok (.iconst 5, 1) := by decide +kernel
theorem dX4_mayOpen_26 : decode cX4_mayOpen 26 = .ok (.aload_n 0, 1) := by decide +kernel
theorem dX4_mayOpen_27 : decode cX4_mayOpen 27 = .ok (.getfield 7, 3) := by decide +kernel
theorem dX4_mayOpen_30 : decode cX4_mayOpen 30 = .ok (.getfield 48, 3) := by decide +kernel
theorem dX4_mayOpen_33 : decode cX4_mayOpen 33 = .ok (.invokevirtual 51, 3) := by decide +kernel
theorem dX4_mayOpen_36 : decode cX4_mayOpen 36 = .ok (.iconst 0, 1) := by decide +kernel
theorem dX4_mayOpen_37 : decode cX4_mayOpen 37 = .ok (.ireturn, 1) := by decide +kernel
theorem dX4_condition_0 : decode cX4_condition 0 = .ok (.iconst (-1), 1) := by decide +kernel
theorem dX4_condition_1 : decode cX4_condition 1 = .ok (.istore_n 2, 1) := by decide +kernel
theorem dX4_condition_2 : decode cX4_condition 2 = .ok (.iconst (-1), 1) := by decide +kernel
theorem dX4_condition_3 : decode cX4_condition 3 = .ok (.istore_n 3, 1) := by decide +kernel
theorem dX4_condition_4 : decode cX4_condition 4 = .ok (.iconst 1, 1) := by decide +kernel
theorem dX4_condition_5 : decode cX4_condition 5 = .ok (.istore 4, 2) := by decide +kernel
theorem dX4_condition_7 : decode cX4_condition 7 = .ok (.iconst 0, 1) := by decide +kernel
theorem dX4_condition_8 : decode cX4_condition 8 = .ok (.istore 5, 2) := by decide +kernel
theorem dX4_condition_10 : decode cX4_condition 10 = .ok (.iload 5, 2) := by decide +kernel
theorem dX4_condition_12 : decode cX4_condition 12 = .ok (.sipush 240, 3) := by decide +kernel
theorem dX4_condition_15 : decode cX4_condition 15 = .ok (.if_icmp .ge 116, 3) := by decide +kernel
theorem dX4_condition_18 : decode cX4_condition 18 = .ok (.iload 4, 2) := by decide +kernel
theorem dX4_condition_20 : decode cX4_condition 20 = .ok (.ifCond .eq 111, 3) := by decide +kernel
theorem dX4_condition_23 : decode cX4_condition 23 = .ok (.aload_n 0, 1) := by decide +kernel
theorem dX4_condition_24 : decode cX4_condition 24 = .ok (.iload_n 1, 1) := by decide +kernel
theorem dX4_condition_25 : decode cX4_condition 25 = .ok (.invokevirtual 78, 3) := by decide +kernel
theorem dX4_condition_28 : decode cX4_condition 28 = .ok (.aload_n 0, 1) := by decide +kernel
theorem dX4_condition_29 : decode cX4_condition 29 = .ok (.getfield 7, 3) := by decide +kernel
theorem dX4_condition_32 : decode cX4_condition 32 = .ok (.bipush 38, 2) := by decide +kernel
theorem dX4_condition_34 : decode cX4_condition 34 = .ok (.invokevirtual 36, 3) := by decide +kernel
theorem dX4_condition_37 : decode cX4_condition 37 = .ok (.istore 6, 2) := by decide +kernel
theorem dX4_condition_39 : decode cX4_condition 39 = .ok (.iload 6, 2) := by decide +kernel
theorem dX4_condition_41 : decode cX4_condition 41 = .ok (.ifCond .ne 19, 3) := by decide +kernel
theorem dX4_condition_44 : decode cX4_condition 44 = .ok (.aload_n 0, 1) := by decide +kernel
theorem dX4_condition_45 : decode cX4_condition 45 = .ok (.getfield 7, 3) := by decide +kernel
theorem dX4_condition_48 : decode cX4_condition 48 = .ok (.bipush 124, 2) := by decide +kernel
theorem dX4_condition_50 : decode cX4_condition 50 = .ok (.invokevirtual 36, 3) := by decide +kernel
theorem dX4_condition_53 : decode cX4_condition 53 = .ok (.ifCond .eq 7, 3) := by decide +kernel
theorem dX4_condition_56 : decode cX4_condition 56 = .ok (.iconst 1, 1) := by decide +kernel
theorem dX4_condition_57 : decode cX4_condition 57 = .ok (.goto 4, 3) := by decide +kernel
theorem dX4_condition_60 : decode cX4_condition 60 = .ok (.iconst 0, 1) := by decide +kernel
theorem dX4_condition_61 : decode cX4_condition 61 = .ok (.istore 7, 2) := by decide +kernel
theorem dX4_condition_63 : decode cX4_condition 63 = .ok (.iload 6, 2) := by decide +kernel
theorem dX4_condition_65 : decode cX4_condition 65 = .ok (.ifCond .eq 17, 3) := by decide +kernel
theorem dX4_condition_68 : decode cX4_condition 68 = .ok (.aload_n 0, 1) := by decide +kernel
theorem dX4_condition_69 : decode cX4_condition 69 = .ok (.getfield 16, 3) := by decide +kernel
theorem dX4_condition_72 : decode cX4_condition 72 = .ok (.bipush 38, 2) := by decide +kernel
theorem dX4_condition_74 : decode cX4_condition 74 = .ok (.iload_n 2, 1) := by decide +kernel
theorem dX4_condition_75 : decode cX4_condition 75 = .ok (.invokevirtual 81, 3) := by decide +kernel
theorem dX4_condition_78 : decode cX4_condition 78 = .ok (.istore_n 2, 1) := by decide +kernel
theorem dX4_condition_79 : decode cX4_condition 79 = .ok (.goto 13, 3) := by decide +kernel
theorem dX4_condition_82 : decode cX4_condition 82 = .ok (.aload_n 0, 1) := by decide +kernel
theorem dX4_condition_83 : decode cX4_condition 83 = .ok (.getfield 16, 3) := by decide +kernel
theorem dX4_condition_86 : decode cX4_condition 86 = .ok (.iload_n 2, 1) := by decide +kernel
theorem dX4_condition_87 : decode cX4_condition 87 = .ok (.invokevirtual 85, 3) := by decide +kernel
theorem dX4_condition_90 : decode cX4_condition 90 = .ok (.iconst (-1), 1) := by decide +kernel
theorem dX4_condition_91 : decode cX4_condition 91 = .ok (.istore_n 2, 1) := by decide +kernel
theorem dX4_condition_92 : decode cX4_condition 92 = .ok (.iload 7, 2) := by decide +kernel
theorem dX4_condition_94 : decode cX4_condition 94 = .ok (.ifCond .eq 14, 3) := by decide +kernel
theorem dX4_condition_97 : decode cX4_condition 97 = .ok (.aload_n 0, 1) := by decide +kernel
theorem dX4_condition_98 : decode cX4_condition 98 = .ok (.getfield 16, 3) := by decide +kernel
theorem dX4_condition_101 : decode cX4_condition 101 = .ok (.bipush 124, 2) := by decide +kernel
theorem dX4_condition_103 : decode cX4_condition 103 = .ok (.iload_n 3, 1) := by decide +kernel
theorem dX4_condition_104 : decode cX4_condition 104 = .ok (.invokevirtual 81, 3) := by decide +kernel
theorem dX4_condition_107 : decode cX4_condition 107 = .ok (.istore_n 3, 1) := by decide +kernel
theorem dX4_condition_108 : decode cX4_condition 108 = .ok (.iload 6, 2) := by decide +kernel
theorem dX4_condition_110 : decode cX4_condition 110 = .ok (.ifCond .ne 8, 3) := by decide +kernel
theorem dX4_condition_113 : decode cX4_condition 113 = .ok (.iload 7, 2) := by decide +kernel
theorem dX4_condition_115 : decode cX4_condition 115 = .ok (.ifCond .eq 7, 3) := by decide +kernel
theorem dX4_condition_118 : decode cX4_condition 118 = .ok (.iconst 1, 1) := by decide +kernel
theorem dX4_condition_119 : decode cX4_condition 119 = .ok (.goto 4, 3) := by decide +kernel
theorem dX4_condition_122 : decode cX4_condition 122 = .ok (.iconst 0, 1) := by decide +kernel
theorem dX4_condition_123 : decode cX4_condition 123 = .ok (.istore 4, 2) := by decide +kernel
theorem dX4_condition_125 : decode cX4_condition 125 = .ok (.iinc 5 1, 3) := by decide +kernel
theorem dX4_condition_128 : decode cX4_condition 128 = .ok (.goto (-118), 3) := by decide +kernel
theorem dX4_condition_131 : decode cX4_condition 131 = .ok (.aload_n 0, 1) := by decide +kernel
theorem dX4_condition_132 : decode cX4_condition 132 = .ok (.getfield 16, 3) := by decide +kernel
theorem dX4_condition_135 : decode cX4_condition 135 = .ok (.iload_n 3, 1) := by decide +kernel
theorem dX4_condition_136 : decode cX4_condition 136 = .ok (.invokevirtual 85, 3) := by decide +kernel
theorem dX4_condition_139 : decode cX4_condition 139 = .ok (.return_, 1) := by decide +kernel
theorem dX4_test_0 : decode cX4_test 0 = .ok (.aload_n 0, 1) := by decide +kernel
theorem dX4_test_1 : decode cX4_test 1 = .ok (.getfield 7, 3) := by decide +kernel
theorem dX4_test_4 : decode cX4_test 4 = .ok (.invokevirtual 44, 3) := by decide +kernel
theorem dX4_test_7 : decode cX4_test 7 = .ok (.istore_n 2, 1) := by decide +kernel
theorem dX4_test_8 : decode cX4_test 8 = .ok (.iload_n 2, 1) := by decide +kernel
theorem dX4_test_9 : decode cX4_test 9 = .ok (.bipush 33, 2) := by decide +kernel
theorem dX4_test_11 : decode cX4_test 11 = .ok (.if_icmp .ne 29, 3) := by decide +kernel
theorem dX4_test_14 : decode cX4_test 14 = .ok (.aload_n 0, 1) := by decide +kernel
theorem dX4_test_15 : decode cX4_test 15 = .ok (.iload_n 1, 1) := by decide +kernel
theorem dX4_test_16 : decode cX4_test 16 = .ok (.invokevirtual 88, 3) := by decide +kernel
theorem dX4_test_19 : decode cX4_test 19 = .ok (.ifCond .eq 20, 3) := by decide +kernel
theorem dX4_test_22 : decode cX4_test 22 = .ok (.aload_n 0, 1) := by decide +kernel
theorem dX4_test_23 : decode cX4_test 23 = .ok (.iload_n 1, 1) := by decide +kernel
theorem dX4_test_24 : decode cX4_test 24 = .ok (.iconst 1, 1) := by decide +kernel
theorem dX4_test_25 : decode cX4_test 25 = .ok (.iadd, 1) := by decide +kernel
theorem dX4_test_26 : decode cX4_test 26 = .ok (.invokevirtual 78, 3) := by decide +kernel
theorem dX4_test_29 : decode cX4_test 29 = .ok (.aload_n 0, 1) := by decide +kernel
theorem dX4_test_30 : decode cX4_test 30 = .ok (.getfield 16, 3) := by decide +kernel
theorem dX4_test_33 : decode cX4_test 33 = .ok (.bipush 33, 2) := by decide +kernel
theorem dX4_test_35 : decode cX4_test 35 = .ok (.iconst 0, 1) := by decide +kernel
theorem dX4_test_36 : decode cX4_test 36 = .ok (.invokevirtual 92, 3) := by decide +kernel
theorem dX4_test_39 : decode cX4_test 39 = .ok (.return_, 1) := by decide +kernel
theorem dX4_test_40 : decode cX4_test 40 = .ok (.iload_n 2, 1) := by decide +kernel
theorem dX4_test_41 : decode cX4_test 41 = .ok (.bipush 40, 2) := by decide +kernel
theorem dX4_test_43 : decode cX4_test 43 = .ok (.if_icmp .ne 28, 3) := by decide +kernel
theorem dX4_test_46 : decode cX4_test 46 = .ok (.aload_n 0, 1) := by decide +kernel
theorem dX4_test_47 : decode cX4_test 47 = .ok (.iload_n 1, 1) := by decide +kernel
theorem dX4_test_48 : decode cX4_test 48 = .ok (.invokevirtual 88, 3) := by decide +kernel
theorem dX4_test_51 : decode cX4_test 51 = .ok (.ifCond .eq 19, 3) := by decide +kernel
theorem dX4_test_54 : decode cX4_test 54 = .ok (.aload_n 0, 1) := by decide +kernel
theorem dX4_test_55 : decode cX4_test 55 = .ok (.iload_n 1, 1) := by decide +kernel
theorem dX4_test_56 : decode cX4_test 56 = .ok (.iconst 1, 1) := by decide +kernel
theorem dX4_test_57 : decode cX4_test 57 = .ok (.iadd, 1) := by decide +kernel
theorem dX4_test_58 : decode cX4_test 58 = .ok (.invokevirtual 72, 3) := by decide +kernel
theorem dX4_test_61 : decode cX4_test 61 = .ok (.aload_n 0, 1) := by decide +kernel
theorem dX4_test_62 : decode cX4_test 62 = .ok (.getfield 7, 3) := by decide +kernel
theorem dX4_test_65 : decode cX4_test 65 = .ok (.bipush 41, 2) := by decide +kernel
theorem dX4_test_67 : decode cX4_test 67 = .ok (.invokevirtual 68, 3) := by decide +kernel
theorem dX4_test_70 : decode cX4_test 70 = .ok (.return_, 1) := by decide +kernel
theorem dX4_test_71 : decode cX4_test 71 = .ok (.aload_n 0, 1) := by decide +kernel
theorem dX4_test_72 : decode cX4_test 72 = .ok (.iload_n 1, 1) := by decide +kernel
theorem dX4_test_73 : decode cX4_test 73 = .ok (.invokevirtual 62, 3) := by decide +kernel
theorem dX4_test_76 : decode cX4_test 76 = .ok (.aload_n 0, 1) := by decide +kernel
theorem dX4_test_77 : decode cX4_test 77 = .ok (.getfield 7, 3) := by decide +kernel
theorem dX4_test_80 : decode cX4_test 80 = .ok (.invokevirtual 44, 3) := by decide +kernel
theorem dX4_test_83 : decode cX4_test 83 = .ok (.istore_n 3, 1) := by decide +kernel
theorem dX4_test_84 : decode cX4_test 84 = .ok (.iload_n 3, 1) := by decide +kernel
theorem dX4_test_85 : decode cX4_test 85 = .ok (.bipush 60, 2) := by decide +kernel
theorem dX4_test_87 : decode cX4_test 87 = .ok (.if_icmp .eq 31, 3) := by decide +kernel
theorem dX4_test_90 : decode cX4_test 90 = .ok (.iload_n 3, 1) := by decide +kernel
theorem dX4_test_91 : decode cX4_test 91 = .ok (.bipush 62, 2) := by decide +kernel
theorem dX4_test_93 : decode cX4_test 93 = .ok (.if_icmp .eq 25, 3) := by decide +kernel
theorem dX4_test_96 : decode cX4_test 96 = .ok (.iload_n 3, 1) := by decide +kernel
theorem dX4_test_97 : decode cX4_test 97 = .ok (.bipush 61, 2) := by decide +kernel
theorem dX4_test_99 : decode cX4_test 99 = .ok (.if_icmp .eq 19, 3) := by decide +kernel
theorem dX4_test_102 : decode cX4_test 102 = .ok (.aload_n 0, 1) := by decide +kernel
theorem dX4_test_103 : decode cX4_test 103 = .ok (.getfield 7, 3) := by decide +kernel
theorem dX4_test_106 : decode cX4_test 106 = .ok (.iconst 1, 1) := by decide +kernel
theorem dX4_test_107 : decode cX4_test 107 = .ok (.aload_n 0, 1) := by decide +kernel
theorem dX4_test_108 : decode cX4_test 108 = .ok (.getfield 7, 3) := by decide +kernel
theorem dX4_test_111 : decode cX4_test 111 = .ok (.getfield 48, 3) := by decide +kernel
theorem dX4_test_114 : decode cX4_test 114 = .ok (.invokevirtual 51, 3) := by decide +kernel
theorem dX4_test_117 : decode cX4_test 117 = .ok (.return_, 1) := by decide +kernel
theorem dX4_test_118 : decode cX4_test 118 = .ok (.aload_n 0, 1) := by decide +kernel
theorem dX4_test_119 : decode cX4_test 119 = .ok (.getfield 7, 3) := by decide +kernel
theorem dX4_test_122 : decode cX4_test 122 = .ok (.dup, 1) := by decide +kernel
theorem dX4_test_123 : decode cX4_test 123 = .ok (.getfield 48, 3) := by decide +kernel
theorem dX4_test_126 : decode cX4_test 126 = .ok (.iconst 1, 1) := by decide +kernel
theorem dX4_test_127 : decode cX4_test 127 = .ok (.iadd, 1) := by decide +kernel
theorem dX4_test_128 : decode cX4_test 128 = .ok (.putfield 48, 3) := by decide +kernel
theorem dX4_test_131 : decode cX4_test 131 = .ok (.aload_n 0, 1) := by decide +kernel
theorem dX4_test_132 : decode cX4_test 132 = .ok (.iload_n 1, 1) := by decide +kernel
theorem dX4_test_133 : decode cX4_test 133 = .ok (.invokevirtual 62, 3) := by decide +kernel
theorem dX4_test_136 : decode cX4_test 136 = .ok (.aload_n 0, 1) := by decide +kernel
theorem dX4_test_137 : decode cX4_test 137 = .ok (.getfield 16, 3) := by decide +kernel
theorem dX4_test_140 : decode cX4_test 140 = .ok (.iload_n 3, 1) := by decide +kernel
theorem dX4_test_141 : decode cX4_test 141 = .ok (.i2c, 1) := by decide +kernel
theorem dX4_test_142 : decode cX4_test 142 = .ok (.iconst 0, 1) := by decide +kernel
theorem dX4_test_143 : decode cX4_test 143 = .ok (.invokevirtual 92, 3) := by decide +kernel
theorem dX4_test_146 : decode cX4_test 146 = .ok (.return_, 1) := by decide +kernel
theorem dX4_sum_0 : decode cX4_sum 0 = .ok (.iconst 0, 1) := by decide +kernel
theorem dX4_sum_1 : decode cX4_sum 1 = .ok (.istore_n 2, 1) := by decide +kernel
theorem dX4_sum_2 : decode cX4_sum 2 = .ok (.iconst 0, 1) := by decide +kernel
theorem dX4_sum_3 : decode cX4_sum 3 = .ok (.istore_n 3, 1) := by decide +kernel
theorem dX4_sum_4 : decode cX4_sum 4 = .ok (.iconst 1, 1) := by decide +kernel
theorem dX4_sum_5 : decode cX4_sum 5 = .ok (.istore 4, 2) := by decide +kernel
theorem dX4_sum_7 : decode cX4_sum 7 = .ok (.iconst 0, 1) := by decide +kernel
theorem dX4_sum_8 : decode cX4_sum 8 = .ok (.istore 5, 2) := by decide +kernel
theorem dX4_sum_10 : decode cX4_sum 10 = .ok (.iload 5, 2) := by decide +kernel
theorem dX4_sum_12 : decode cX4_sum 12 = .ok (.sipush 240, 3) := by decide +kernel
theorem dX4_sum_15 : decode cX4_sum 15 = .ok (.if_icmp .ge 138, 3) := by decide +kernel
theorem dX4_sum_18 : decode cX4_sum 18 = .ok (.iload 4, 2) := by decide +kernel
theorem dX4_sum_20 : decode cX4_sum 20 = .ok (.ifCond .eq 133, 3) := by decide +kernel
theorem dX4_sum_23 : decode cX4_sum 23 = .ok (.aload_n 0, 1) := by decide +kernel
theorem dX4_sum_24 : decode cX4_sum 24 = .ok (.iload_n 1, 1) := by decide +kernel
theorem dX4_sum_25 : decode cX4_sum 25 = .ok (.invokevirtual 96, 3) := by decide +kernel
theorem dX4_sum_28 : decode cX4_sum 28 = .ok (.iload_n 3, 1) := by decide +kernel
theorem dX4_sum_29 : decode cX4_sum 29 = .ok (.ifCond .eq 13, 3) := by decide +kernel
theorem dX4_sum_32 : decode cX4_sum 32 = .ok (.aload_n 0, 1) := by decide +kernel
theorem dX4_sum_33 : decode cX4_sum 33 = .ok (.getfield 16, 3) := by decide +kernel
theorem dX4_sum_36 : decode cX4_sum 36 = .ok (.iload_n 3, 1) := by decide +kernel
theorem dX4_sum_37 : decode cX4_sum 37 = .ok (.i2c, 1) := by decide +kernel
theorem dX4_sum_38 : decode cX4_sum 38 = .ok (.iconst 0, 1) := by decide +kernel
theorem dX4_sum_39 : decode cX4_sum 39 = .ok (.invokevirtual 92, 3) := by decide +kernel
theorem dX4_sum_42 : decode cX4_sum 42 = .ok (.aload_n 0, 1) := by decide +kernel
theorem dX4_sum_43 : decode cX4_sum 43 = .ok (.getfield 7, 3) := by decide +kernel
theorem dX4_sum_46 : decode cX4_sum 46 = .ok (.invokevirtual 44, 3) := by decide +kernel
theorem dX4_sum_49 : decode cX4_sum 49 = .ok (.istore 6, 2) := by decide +kernel
theorem dX4_sum_51 : decode cX4_sum 51 = .ok (.iload 6, 2) := by decide +kernel
theorem dX4_sum_53 : decode cX4_sum 53 = .ok (.bipush 42, 2) := by decide +kernel
theorem dX4_sum_55 : decode cX4_sum 55 = .ok (.if_icmp .eq 17, 3) := by decide +kernel
theorem dX4_sum_58 : decode cX4_sum 58 = .ok (.iload 6, 2) := by decide +kernel
theorem dX4_sum_60 : decode cX4_sum 60 = .ok (.bipush 47, 2) := by decide +kernel
theorem dX4_sum_62 : decode cX4_sum 62 = .ok (.if_icmp .eq 10, 3) := by decide +kernel
theorem dX4_sum_65 : decode cX4_sum 65 = .ok (.iload 6, 2) := by decide +kernel
theorem dX4_sum_67 : decode cX4_sum 67 = .ok (.bipush 37, 2) := by decide +kernel
theorem dX4_sum_69 : decode cX4_sum 69 = .ok (.if_icmp .ne 8, 3) := by decide +kernel
theorem dX4_sum_72 : decode cX4_sum 72 = .ok (.iload 6, 2) := by decide +kernel
theorem dX4_sum_74 : decode cX4_sum 74 = .ok (.goto 4, 3) := by decide +kernel
theorem dX4_sum_77 : decode cX4_sum 77 = .ok (.iconst 0, 1) := by decide +kernel
theorem dX4_sum_78 : decode cX4_sum 78 = .ok (.istore_n 3, 1) := by decide +kernel
theorem dX4_sum_79 : decode cX4_sum 79 = .ok (.iload_n 3, 1) := by decide +kernel
theorem dX4_sum_80 : decode cX4_sum 80 = .ok (.ifCond .ne 17, 3) := by decide +kernel
theorem dX4_sum_83 : decode cX4_sum 83 = .ok (.iload 6, 2) := by decide +kernel
theorem dX4_sum_85 : decode cX4_sum 85 = .ok (.bipush 43, 2) := by decide +kernel
theorem dX4_sum_87 : decode cX4_sum 87 = .ok (.if_icmp .eq 10, 3) := by decide +kernel
theorem dX4_sum_90 : decode cX4_sum 90 = .ok (.iload 6, 2) := by decide +kernel
theorem dX4_sum_92 : decode cX4_sum 92 = .ok (.bipush 45, 2) := by decide +kernel
theorem dX4_sum_94 : decode cX4_sum 94 = .ok (.if_icmp .ne 7, 3) := by decide +kernel
theorem dX4_sum_97 : decode cX4_sum 97 = .ok (.iconst 1, 1) := by decide +kernel
theorem dX4_sum_98 : decode cX4_sum 98 = .ok (.goto 4, 3) := by decide +kernel
theorem dX4_sum_101 : decode cX4_sum 101 = .ok (.iconst 0, 1) := by decide +kernel
theorem dX4_sum_102 : decode cX4_sum 102 = .ok (.istore 4, 2) := by decide +kernel
theorem dX4_sum_104 : decode cX4_sum 104 = .ok (.iload_n 3, 1) := by decide +kernel
theorem dX4_sum_105 : decode cX4_sum 105 = .ok (.ifCond .ne 17, 3) := by decide +kernel
theorem dX4_sum_108 : decode cX4_sum 108 = .ok (.iload_n 2, 1) := by decide +kernel
theorem dX4_sum_109 : decode cX4_sum 109 = .ok (.ifCond .eq 13, 3) := by decide +kernel
theorem dX4_sum_112 : decode cX4_sum 112 = .ok (.aload_n 0, 1) := by decide +kernel
theorem dX4_sum_113 : decode cX4_sum 113 = .ok (.getfield 16, 3) := by decide +kernel
theorem dX4_sum_116 : decode cX4_sum 116 = .ok (.iload_n 2, 1) := by decide +kernel
theorem dX4_sum_117 : decode cX4_sum 117 = .ok (.i2c, 1) := by decide +kernel
theorem dX4_sum_118 : decode cX4_sum 118 = .ok (.iconst 0, 1) := by decide +kernel
theorem dX4_sum_119 : decode cX4_sum 119 = .ok (.invokevirtual 92, 3) := by decide +kernel
theorem dX4_sum_122 : decode cX4_sum 122 = .ok (.iload_n 3, 1) := by decide +kernel
theorem dX4_sum_123 : decode cX4_sum 123 = .ok (.ifCond .ne 6, 3) := by decide +kernel
theorem dX4_sum_126 : decode cX4_sum 126 = .ok (.iload 6, 2) := by decide +kernel
theorem dX4_sum_128 : decode cX4_sum 128 = .ok (.istore_n 2, 1) := by decide +kernel
theorem dX4_sum_129 : decode cX4_sum 129 = .ok (.iload 4, 2) := by decide +kernel
theorem dX4_sum_131 : decode cX4_sum 131 = .ok (.ifCond .eq 16, 3) := by decide +kernel
theorem dX4_sum_134 : decode cX4_sum 134 = .ok (.aload_n 0, 1) := by decide +kernel
theorem dX4_sum_135 : decode cX4_sum 135 = .ok (.getfield 7, 3) := by decide +kernel
theorem dX4_sum_138 : decode cX4_sum 138 = .ok (.dup, 1) := by decide +kernel
theorem dX4_sum_139 : decode cX4_sum 139 = .ok (.getfield 48, 3) := by decide +kernel
theorem dX4_sum_142 : decode cX4_sum 142 = .ok (.iconst 1, 1) := by decide +kernel
theorem dX4_sum_143 : decode cX4_sum 143 = .ok (.iadd, 1) := by decide +kernel
theorem dX4_sum_144 : decode cX4_sum 144 = .ok (.putfield 48, 3) := by decide +kernel
theorem dX4_sum_147 : decode cX4_sum 147 = .ok (.iinc 5 1, 3) := by decide +kernel
theorem dX4_sum_150 : decode cX4_sum 150 = .ok (.goto (-140), 3) := by decide +kernel
theorem dX4_sum_153 : decode cX4_sum 153 = .ok (.return_, 1) := by decide +kernel
theorem dX4_factor_0 : decode cX4_factor 0 = .ok (.aload_n 0, 1) := by decide +kernel
theorem dX4_factor_1 : decode cX4_factor 1 = .ok (.getfield 7, 3) := by decide +kernel
theorem dX4_factor_4 : decode cX4_factor 4 = .ok (.invokevirtual 44, 3) := by decide +kernel
theorem dX4_factor_7 : decode cX4_factor 7 = .ok (.istore_n 2, 1) := by decide +kernel
theorem dX4_factor_8 : decode cX4_factor 8 = .ok (.iload_n 2, 1) := by decide +kernel
theorem dX4_factor_9 : decode cX4_factor 9 = .ok (.ifCond .lt 13, 3) := by decide +kernel
theorem dX4_factor_12 : decode cX4_factor 12 = .ok (.ldc 99, 2) := by decide +kernel
theorem dX4_factor_14 : decode cX4_factor 14 = .ok (.iload_n 2, 1) := by decide +kernel
theorem dX4_factor_15 : decode cX4_factor 15 = .ok (.i2c, 1) := by decide +kernel
theorem dX4_factor_16 : decode cX4_factor 16 = .ok (.invokevirtual 101, 3) := by decide +kernel
theorem dX4_factor_19 : decode cX4_factor 19 = .ok (.goto 4, 3) := by decide +kernel
theorem dX4_factor_22 : decode cX4_factor 22 = .ok (.iconst (-1), 1) := by decide +kernel
theorem dX4_factor_23 : decode cX4_factor 23 = .ok (.istore_n 3, 1) := by decide +kernel
theorem dX4_factor_24 : decode cX4_factor 24 = .ok (.iload_n 2, 1) := by decide +kernel
theorem dX4_factor_25 : decode cX4_factor 25 = .ok (.bipush 91, 2) := by decide +kernel
theorem dX4_factor_27 : decode cX4_factor 27 = .ok (.if_icmp .ne 30, 3) := by decide +kernel
theorem dX4_factor_30 : decode cX4_factor 30 = .ok (.aload_n 0, 1) := by decide +kernel
theorem dX4_factor_31 : decode cX4_factor 31 = .ok (.iload_n 1, 1) := by decide +kernel
theorem dX4_factor_32 : decode cX4_factor 32 = .ok (.invokevirtual 88, 3) := by decide +kernel
theorem dX4_factor_35 : decode cX4_factor 35 = .ok (.ifCond .eq 178, 3) := by decide +kernel
theorem dX4_factor_38 : decode cX4_factor 38 = .ok (.aload_n 0, 1) := by decide +kernel
theorem dX4_factor_39 : decode cX4_factor 39 = .ok (.iload_n 1, 1) := by decide +kernel
theorem dX4_factor_40 : decode cX4_factor 40 = .ok (.iconst 1, 1) := by decide +kernel
theorem dX4_factor_41 : decode cX4_factor 41 = .ok (.iadd, 1) := by decide +kernel
theorem dX4_factor_42 : decode cX4_factor 42 = .ok (.invokevirtual 62, 3) := by decide +kernel
theorem dX4_factor_45 : decode cX4_factor 45 = .ok (.aload_n 0, 1) := by decide +kernel
theorem dX4_factor_46 : decode cX4_factor 46 = .ok (.getfield 7, 3) := by decide +kernel
theorem dX4_factor_49 : decode cX4_factor 49 = .ok (.bipush 93, 2) := by decide +kernel
theorem dX4_factor_51 : decode cX4_factor 51 = .ok (.invokevirtual 68, 3) := by decide +kernel
theorem dX4_factor_54 : decode cX4_factor 54 = .ok (.goto 159, 3) := by decide +kernel
theorem dX4_factor_57 : decode cX4_factor 57 = .ok (.iload_n 3, 1) := by decide +kernel
theorem dX4_factor_58 : decode cX4_factor 58 = .ok (.ifCond .lt 29, 3) := by decide +kernel
theorem dX4_factor_61 : decode cX4_factor 61 = .ok (.aload_n 0, 1) := by decide +kernel
theorem dX4_factor_62 : decode cX4_factor 62 = .ok (.getfield 7, 3) := by decide +kernel
theorem dX4_factor_65 : decode cX4_factor 65 = .ok (.dup, 1) := by decide +kernel
theorem dX4_factor_66 : decode cX4_factor 66 = .ok (.getfield 48, 3) := by decide +kernel
theorem dX4_factor_69 : decode cX4_factor 69 = .ok (.iconst 1, 1) := by decide +kernel
theorem dX4_factor_70 : decode cX4_factor 70 = .ok (.iadd, 1) := by decide +kernel
theorem dX4_factor_71 : decode cX4_factor 71 = .ok (.putfield 48, 3) := by decide +kernel
theorem dX4_factor_74 : decode cX4_factor 74 = .ok (.aload_n 0, 1) := by decide +kernel
theorem dX4_factor_75 : decode cX4_factor 75 = .ok (.getfield 16, 3) := by decide +kernel
theorem dX4_factor_78 : decode cX4_factor 78 = .ok (.bipush 97, 2) := by decide +kernel
theorem dX4_factor_80 : decode cX4_factor 80 = .ok (.iload_n 3, 1) := by decide +kernel
theorem dX4_factor_81 : decode cX4_factor 81 = .ok (.invokevirtual 92, 3) := by decide +kernel
theorem dX4_factor_84 : decode cX4_factor 84 = .ok (.goto 129, 3) := by decide +kernel
theorem dX4_factor_87 : decode cX4_factor 87 = .ok (.iload_n 2, 1) := by decide +kernel
theorem dX4_factor_88 : decode cX4_factor 88 = .ok (.invokestatic 106, 3) := by decide +kernel
theorem dX4_factor_91 : decode cX4_factor 91 = .ok (.ifCond .eq 107, 3) := by decide +kernel
theorem dX4_factor_94 : decode cX4_factor 94 = .ok (.iconst 0, 1) := by decide +kernel
theorem dX4_factor_95 : decode cX4_factor 95 = .ok (.istore 4, 2) := by decide +kernel
theorem dX4_factor_97 : decode cX4_factor 97 = .ok (.iconst 0, 1) := by decide +kernel
theorem dX4_factor_98 : decode cX4_factor 98 = .ok (.istore 5, 2) := by decide +kernel
theorem dX4_factor_100 : decode cX4_factor 100 = .ok (.iload 5, 2) := by decide +kernel
theorem dX4_factor_102 : decode cX4_factor 102 = .ok (.iconst 5, 1) := by decide +kernel
theorem dX4_factor_103 : decode cX4_factor 103 = .ok (.if_icmp .ge 53, 3) := by decide +kernel
theorem dX4_factor_106 : decode cX4_factor 106 = .ok (.aload_n 0, 1) := by decide +kernel
theorem dX4_factor_107 : decode cX4_factor 107 = .ok (.getfield 7, 3) := by decide +kernel
theorem dX4_factor_110 : decode cX4_factor 110 = .ok (.invokevirtual 44, 3) := by decide +kernel
theorem dX4_factor_113 : decode cX4_factor 113 = .ok (.invokestatic 106, 3) := by decide +kernel
theorem dX4_factor_116 : decode cX4_factor 116 = .ok (.ifCond .eq 40, 3) := by decide +kernel
theorem dX4_factor_119 : decode cX4_factor 119 = .ok (.bipush 10, 2) := by decide +kernel
theorem dX4_factor_121 : decode cX4_factor 121 = .ok (.iload 4, 2) := by decide +kernel
theorem dX4_factor_123 : decode cX4_factor 123 = .ok (.imul, 1) := by decide +kernel
theorem dX4_factor_124 : decode cX4_factor 124 = .ok (.aload_n 0, 1) := by decide +kernel
theorem dX4_factor_125 : decode cX4_factor 125 = .ok (.getfield 7, 3) := by decide +kernel
theorem dX4_factor_128 : decode cX4_factor 128 = .ok (.invokevirtual 44, 3) := by decide +kernel
theorem dX4_factor_131 : decode cX4_factor 131 = .ok (.iadd, 1) := by decide +kernel
theorem dX4_factor_132 : decode cX4_factor 132 = .ok (.bipush 48, 2) := by decide +kernel
theorem dX4_factor_134 : decode cX4_factor 134 = .ok (.isub, 1) := by decide +kernel
theorem dX4_factor_135 : decode cX4_factor 135 = .ok (.istore 4, 2) := by decide +kernel
theorem dX4_factor_137 : decode cX4_factor 137 = .ok (.aload_n 0, 1) := by decide +kernel
theorem dX4_factor_138 : decode cX4_factor 138 = .ok (.getfield 7, 3) := by decide +kernel
theorem dX4_factor_141 : decode cX4_factor 141 = .ok (.dup, 1) := by decide +kernel
theorem dX4_factor_142 : decode cX4_factor 142 = .ok (.getfield 48, 3) := by decide +kernel
theorem dX4_factor_145 : decode cX4_factor 145 = .ok (.iconst 1, 1) := by decide +kernel
theorem dX4_factor_146 : decode cX4_factor 146 = .ok (.iadd, 1) := by decide +kernel
theorem dX4_factor_147 : decode cX4_factor 147 = .ok (.putfield 48, 3) := by decide +kernel
theorem dX4_factor_150 : decode cX4_factor 150 = .ok (.iinc 5 1, 3) := by decide +kernel
theorem dX4_factor_153 : decode cX4_factor 153 = .ok (.goto (-53), 3) := by decide +kernel
theorem dX4_factor_156 : decode cX4_factor 156 = .ok (.aload_n 0, 1) := by decide +kernel
theorem dX4_factor_157 : decode cX4_factor 157 = .ok (.getfield 16, 3) := by decide +kernel
theorem dX4_factor_160 : decode cX4_factor 160 = .ok (.bipush 48, 2) := by decide +kernel
theorem dX4_factor_162 : decode cX4_factor 162 = .ok (.iload 4, 2) := by decide +kernel
theorem dX4_factor_164 : decode cX4_factor 164 = .ok (.invokevirtual 92, 3) := by decide +kernel
theorem dX4_factor_167 : decode cX4_factor 167 = .ok (.aload_n 0, 1) := by decide +kernel
theorem dX4_factor_168 : decode cX4_factor 168 = .ok (.getfield 7, 3) := by decide +kernel
theorem dX4_factor_171 : decode cX4_factor 171 = .ok (.invokevirtual 44, 3) := by decide +kernel
theorem dX4_factor_174 : decode cX4_factor 174 = .ok (.invokestatic 106, 3) := by decide +kernel
theorem dX4_factor_177 : decode cX4_factor 177 = .ok (.ifCond .eq 18, 3) := by decide +kernel
theorem dX4_factor_180 : decode cX4_factor 180 = .ok (.aload_n 0, 1) := by decide +kernel
theorem dX4_factor_181 : decode cX4_factor 181 = .ok (.getfield 7, 3) := by decide +kernel
theorem dX4_factor_184 : decode cX4_factor 184 = .ok (.iconst 2, 1) := by decide +kernel
theorem dX4_factor_185 : decode cX4_factor 185 = .ok (.aload_n 0, 1) := by decide +kernel
theorem dX4_factor_186 : decode cX4_factor 186 = .ok (.getfield 7, 3) := by decide +kernel
theorem dX4_factor_189 : decode cX4_factor 189 = .ok (.getfield 48, 3) := by decide +kernel
theorem dX4_factor_192 : decode cX4_factor 192 = .ok (.invokevirtual 51, 3) := by decide +kernel
theorem dX4_factor_195 : decode cX4_factor 195 = .ok (.goto 18, 3) := by decide +kernel
theorem dX4_factor_198 : decode cX4_factor 198 = .ok (.aload_n 0, 1) := by decide +kernel
theorem dX4_factor_199 : decode cX4_factor 199 = .ok (.getfield 7, 3) := by decide +kernel
theorem dX4_factor_202 : decode cX4_factor 202 = .ok (.iconst 1, 1) := by decide +kernel
theorem dX4_factor_203 : decode cX4_factor 203 = .ok (.aload_n 0, 1) := by decide +kernel
theorem dX4_factor_204 : decode cX4_factor 204 = .ok (.getfield 7, 3) := by decide +kernel
theorem dX4_factor_207 : decode cX4_factor 207 = .ok (.getfield 48, 3) := by decide +kernel
theorem dX4_factor_210 : decode cX4_factor 210 = .ok (.invokevirtual 51, 3) := by decide +kernel
theorem dX4_factor_213 : decode cX4_factor 213 = .ok (.return_, 1) := by decide +kernel
theorem dX5_init_0 : decode cX5_init 0 = .ok (.aload_n 0, 1) := by decide +kernel
theorem dX5_init_1 : decode cX5_init 1 = .ok (.invokespecial 1, 3) := by decide +kernel
theorem dX5_init_4 : decode cX5_init 4 = .ok (.aload_n 0, 1) := by decide +kernel
theorem dX5_init_5 : decode cX5_init 5 = .ok (.bipush 36, 2) := by decide +kernel
theorem dX5_init_7 : decode cX5_init 7 = .ok (.newarray .int, 2) := by decide +kernel
theorem dX5_init_9 : decode cX5_init 9 = .ok (.putfield 9, 3) := by decide +kernel
theorem dX5_init_12 : decode cX5_init 12 = .ok (.aload_n 0, 1) := by decide +kernel
theorem dX5_init_13 : decode cX5_init 13 = .ok (.bipush 36, 2) := by decide +kernel
theorem dX5_init_15 : decode cX5_init 15 = .ok (.newarray .int, 2) := by decide +kernel
theorem dX5_init_17 : decode cX5_init 17 = .ok (.putfield 13, 3) := by decide +kernel
theorem dX5_init_20 : decode cX5_init 20 = .ok (.aload_n 0, 1) := by decide +kernel
theorem dX5_init_21 : decode cX5_init 21 = .ok (.bipush 36, 2) := by decide +kernel
theorem dX5_init_23 : decode cX5_init 23 = .ok (.newarray .int, 2) := by decide +kernel
theorem dX5_init_25 : decode cX5_init 25 = .ok (.putfield 16, 3) := by decide +kernel
theorem dX5_init_28 : decode cX5_init 28 = .ok (.aload_n 0, 1) := by decide +kernel
theorem dX5_init_29 : decode cX5_init 29 = .ok (.bipush 6, 2) := by decide +kernel
theorem dX5_init_31 : decode cX5_init 31 = .ok (.newarray .int, 2) := by decide +kernel
theorem dX5_init_33 : decode cX5_init 33 = .ok (.putfield 19, 3) := by decide +kernel
theorem dX5_init_36 : decode cX5_init 36 = .ok (.aload_n 0, 1) := by decide +kernel
theorem dX5_init_37 : decode cX5_init 37 = .ok (.bipush 6, 2) := by decide +kernel
theorem dX5_init_39 : decode cX5_init 39 = .ok (.newarray .int, 2) := by decide +kernel
theorem dX5_init_41 : decode cX5_init 41 = .ok (.putfield 22, 3) := by decide +kernel
theorem dX5_init_44 : decode cX5_init 44 = .ok (.aload_n 0, 1) := by decide +kernel
theorem dX5_init_45 : decode cX5_init 45 = .ok (.bipush 6, 2) := by decide +kernel
theorem dX5_init_47 : decode cX5_init 47 = .ok (.newarray .int, 2) := by decide +kernel
theorem dX5_init_49 : decode cX5_init 49 = .ok (.putfield 25, 3) := by decide +kernel
theorem dX5_init_52 : decode cX5_init 52 = .ok (.aload_n 0, 1) := by decide +kernel
theorem dX5_init_53 : decode cX5_init 53 = .ok (.iconst 0, 1) := by decide +kernel
theorem dX5_init_54 : decode cX5_init 54 = .ok (.putfield 28, 3) := by decide +kernel
theorem dX5_init_57 : decode cX5_init 57 = .ok (.return_, 1) := by decide +kernel
theorem dX5_read_0 : decode cX5_read 0 = .ok (.aload_n 0, 1) := by decide +kernel
theorem dX5_read_1 : decode cX5_read 1 = .ok (.iload_n 2, 1) := by decide +kernel
theorem dX5_read_2 : decode cX5_read 2 = .ok (.putfield 28, 3) := by decide +kernel
theorem dX5_read_5 : decode cX5_read 5 = .ok (.iconst 0, 1) := by decide +kernel
theorem dX5_read_6 : decode cX5_read 6 = .ok (.istore_n 3, 1) := by decide +kernel
theorem dX5_read_7 : decode cX5_read 7 = .ok (.iload_n 3, 1) := by decide +kernel
theorem dX5_read_8 : decode cX5_read 8 = .ok (.iload_n 2, 1) := by decide +kernel
theorem dX5_read_9 : decode cX5_read 9 = .ok (.if_icmp .ge 104, 3) := by decide +kernel
theorem dX5_read_12 : decode cX5_read 12 = .ok (.aload_n 0, 1) := by decide +kernel
theorem dX5_read_13 : decode cX5_read 13 = .ok (.aload_n 1, 1) := by decide +kernel
theorem dX5_read_14 : decode cX5_read 14 = .ok (.iload_n 2, 1) := by decide +kernel
theorem dX5_read_15 : decode cX5_read 15 = .ok (.iload_n 3, 1) := by decide +kernel
theorem dX5_read_16 : decode cX5_read 16 = .ok (.imul, 1) := by decide +kernel
theorem dX5_read_17 : decode cX5_read 17 = .ok (.aload_n 0, 1) := by decide +kernel
theorem dX5_read_18 : decode cX5_read 18 = .ok (.getfield 13, 3) := by decide +kernel
theorem dX5_read_21 : decode cX5_read 21 = .ok (.bipush 6, 2) := by decide +kernel
theorem dX5_read_23 : decode cX5_read 23 = .ok (.iload_n 3, 1) := by decide +kernel
theorem dX5_read_24 : decode cX5_read 24 = .ok (.imul, 1) := by decide +kernel
theorem dX5_read_25 : decode cX5_read 25 = .ok (.invokevirtual 32, 3) := by decide +kernel
theorem dX5_read_28 : decode cX5_read 28 = .ok (.ifCond .eq 30, 3) := by decide +kernel
theorem dX5_read_31 : decode cX5_read 31 = .ok (.aload_n 0, 1) := by decide +kernel
theorem dX5_read_32 : decode cX5_read 32 = .ok (.aload_n 1, 1) := by decide +kernel
theorem dX5_read_33 : decode cX5_read 33 = .ok (.iload_n 2, 1) := by decide +kernel
theorem dX5_read_34 : decode cX5_read 34 = .ok (.iload_n 2, 1) := by decide +kernel
theorem dX5_read_35 : decode cX5_read 35 = .ok (.imul, 1) := by decide +kernel
theorem dX5_read_36 : decode cX5_read 36 = .ok (.iload_n 2, 1) := by decide +kernel
theorem dX5_read_37 : decode cX5_read 37 = .ok (.iload_n 3, 1) := by decide +kernel
theorem dX5_read_38 : decode cX5_read 38 = .ok (.imul, 1) := by decide +kernel
theorem dX5_read_39 : decode cX5_read 39 = .ok (.iadd, 1) := by decide +kernel
theorem dX5_read_40 : decode cX5_read 40 = .ok (.aload_n 0, 1) := by decide +kernel
theorem dX5_read_41 : decode cX5_read 41 = .ok (.getfield 16, 3) := by decide +kernel
theorem dX5_read_44 : decode cX5_read 44 = .ok (.bipush 6, 2) := by decide +kernel
theorem dX5_read_46 : decode cX5_read 46 = .ok (.iload_n 3, 1) := by decide +kernel
theorem dX5_read_47 : decode cX5_read 47 = .ok (.imul, 1) := by decide +kernel
theorem dX5_read_48 : decode cX5_read 48 = .ok (.invokevirtual 32, 3) := by decide +kernel
theorem dX5_read_51 : decode cX5_read 51 = .ok (.ifCond .eq 7, 3) := by decide +kernel
theorem dX5_read_54 : decode cX5_read 54 = .ok (.iconst 1, 1) := by decide +kernel
theorem dX5_read_55 : decode cX5_read 55 = .ok (.goto 4, 3) := by decide +kernel
theorem dX5_read_58 : decode cX5_read 58 = .ok (.iconst 0, 1) := by decide +kernel
theorem dX5_read_59 : decode cX5_read 59 = .ok (.istore 4, 2) := by decide +kernel
theorem dX5_read_61 : decode cX5_read 61 = .ok (.iload 4, 2) := by decide +kernel
theorem dX5_read_63 : decode cX5_read 63 = .ok (.ifCond .ne 5, 3) := by decide +kernel
theorem dX5_read_66 : decode cX5_read 66 = .ok (.iconst 0, 1) := by decide +kernel
theorem dX5_read_67 : decode cX5_read 67 = .ok (.ireturn, 1) := by decide +kernel
theorem dX5_read_68 : decode cX5_read 68 = .ok (.iconst 0, 1) := by decide +kernel
theorem dX5_read_69 : decode cX5_read 69 = .ok (.istore 5, 2) := by decide +kernel
theorem dX5_read_71 : decode cX5_read 71 = .ok (.iload 5, 2) := by decide +kernel
theorem dX5_read_73 : decode cX5_read 73 = .ok (.iload_n 2, 1) := by decide +kernel
theorem dX5_read_74 : decode cX5_read 74 = .ok (.if_icmp .ge 33, 3) := by decide +kernel
theorem dX5_read_77 : decode cX5_read 77 = .ok (.aload_n 0, 1) := by decide +kernel
theorem dX5_read_78 : decode cX5_read 78 = .ok (.getfield 9, 3) := by decide +kernel
theorem dX5_read_81 : decode cX5_read 81 = .ok (.bipush 6, 2) := by decide +kernel
theorem dX5_read_83 : decode cX5_read 83 = .ok (.iload_n 3, 1) := by decide +kernel
theorem dX5_read_84 : decode cX5_read 84 = .ok (.imul, 1) := by decide +kernel
theorem dX5_read_85 : decode cX5_read 85 = .ok (.aload_n 0, 1) := by decide +kernel
theorem dX5_read_86 : decode cX5_read 86 = .ok (.getfield 13, 3) := by decide +kernel
theorem dX5_read_89 : decode cX5_read 89 = .ok (.bipush 6, 2) := by decide +kernel
theorem dX5_read_91 : decode cX5_read 91 = .ok (.iload_n 3, 1) := by decide +kernel
theorem dX5_read_92 : decode cX5_read 92 = .ok (.imul, 1) := by decide +kernel
theorem dX5_read_93 : decode cX5_read 93 = .ok (.iload 5, 2) := by decide +kernel
theorem dX5_read_95 : decode cX5_read 95 = .ok (.iadd, 1) := by decide +kernel
theorem dX5_read_96 : decode cX5_read 96 = .ok (.iaload, 1) := by decide +kernel
theorem dX5_read_97 : decode cX5_read 97 = .ok (.iadd, 1) := by decide +kernel
theorem dX5_read_98 : decode cX5_read 98 = .ok (.iload 5, 2) := by decide +kernel
theorem dX5_read_100 : decode cX5_read 100 = .ok (.iastore, 1) := by decide +kernel
theorem dX5_read_101 : decode cX5_read 101 = .ok (.iinc 5 1, 3) := by decide +kernel
theorem dX5_read_104 : decode cX5_read 104 = .ok (.goto (-33), 3) := by decide +kernel
theorem dX5_read_107 : decode cX5_read 107 = .ok (.iinc 3 1, 3) := by decide +kernel
theorem dX5_read_110 : decode cX5_read 110 = .ok (.goto (-103), 3) := by decide +kernel
theorem dX5_read_113 : decode cX5_read 113 = .ok (.iconst 1, 1) := by decide +kernel
theorem dX5_read_114 : decode cX5_read 114 = .ok (.ireturn, 1) := by decide +kernel
theorem dX5_readRow_0 : decode cX5_readRow 0 = .ok (.iconst 0, 1) := by decide +kernel
theorem dX5_readRow_1 : decode cX5_readRow 1 = .ok (.istore 5, 2) := by decide +kernel
theorem dX5_readRow_3 : decode cX5_readRow 3 = .ok (.iconst 0, 1) := by decide +kernel
theorem dX5_readRow_4 : decode cX5_readRow 4 = .ok (.istore 6, 2) := by decide +kernel
theorem dX5_readRow_6 : decode cX5_readRow 6 = .ok (.iload 6, 2) := by decide +kernel
theorem dX5_readRow_8 : decode cX5_readRow 8 = .ok (.aload_n 0, 1) := by decide +kernel
theorem dX5_readRow_9 : decode cX5_readRow 9 = .ok (.getfield 28, 3) := by decide +kernel
theorem dX5_readRow_12 : decode cX5_readRow 12 = .ok (.if_icmp .ge 64, 3) := by decide +kernel
theorem dX5_readRow_15 : decode cX5_readRow 15 = .ok (.aload_n 1, 1) := by decide +kernel
theorem dX5_readRow_16 : decode cX5_readRow 16 = .ok (.iload_n 2, 1) := by decide +kernel
theorem dX5_readRow_17 : decode cX5_readRow 17 = .ok (.iload 6, 2) := by decide +kernel
theorem dX5_readRow_19 : decode cX5_readRow 19 = .ok (.iadd, 1) := by decide +kernel
theorem dX5_readRow_20 : decode cX5_readRow 20 = .ok (.invokevirtual 36, 3) := by decide +kernel
theorem dX5_readRow_23 : decode cX5_readRow 23 = .ok (.istore 7, 2) := by decide +kernel
theorem dX5_readRow_25 : decode cX5_readRow 25 = .ok (.iload 7, 2) := by decide +kernel
theorem dX5_readRow_27 : decode cX5_readRow 27 = .ok (.ifCond .lt 23, 3) := by decide +kernel
theorem dX5_readRow_30 : decode cX5_readRow 30 = .ok (.iload 7, 2) := by decide +kernel
theorem dX5_readRow_32 : decode cX5_readRow 32 = .ok (.aload_n 0, 1) := by decide +kernel
theorem dX5_readRow_33 : decode cX5_readRow 33 = .ok (.getfield 28, 3) := by decide +kernel
theorem dX5_readRow_36 : decode cX5_readRow 36 = .ok (.if_icmp .ge 14, 3) := by decide +kernel
theorem dX5_readRow_39 : decode cX5_readRow 39 = .ok (.iload 5, 2) := by decide +kernel
theorem dX5_readRow_41 : decode cX5_readRow 41 = .ok (.iload 7, 2) := by decide +kernel
theorem dX5_readRow_43 : decode cX5_readRow 43 = .ok (.ishr, 1) := by decide +kernel
theorem dX5_readRow_44 : decode cX5_readRow 44 = .ok (.iconst 1, 1) := by decide +kernel
theorem dX5_readRow_45 : decode cX5_readRow 45 = .ok (.iand, 1) := by decide +kernel
theorem dX5_readRow_46 : decode cX5_readRow 46 = .ok (.iconst 1, 1) := by decide +kernel
theorem dX5_readRow_47 : decode cX5_readRow 47 = .ok (.if_icmp .ne 5, 3) := by decide +kernel
theorem dX5_readRow_50 : decode cX5_readRow 50 = .ok (.iconst 0, 1) := by decide +kernel
theorem dX5_readRow_51 : decode cX5_readRow 51 = .ok (.ireturn, 1) := by decide +kernel
theorem dX5_readRow_52 : decode cX5_readRow 52 = .ok (.iload 5, 2) := by decide +kernel
theorem dX5_readRow_54 : decode cX5_readRow 54 = .ok (.iconst 1, 1) := by decide +kernel
theorem dX5_readRow_55 : decode cX5_readRow 55 = .ok (.iload 7, 2) := by decide +kernel
theorem dX5_readRow_57 : decode cX5_readRow 57 = .ok (.ishl, 1) := by decide +kernel
theorem dX5_readRow_58 : decode cX5_readRow 58 = .ok (.ior, 1) := by decide +kernel
theorem dX5_readRow_59 : decode cX5_readRow 59 = .ok (.istore 5, 2) := by decide +kernel
theorem dX5_readRow_61 : decode cX5_readRow 61 = .ok (.aload_n 3, 1) := by decide +kernel
theorem dX5_readRow_62 : decode cX5_readRow 62 = .ok (.iload 4, 2) := by decide +kernel
theorem dX5_readRow_64 : decode cX5_readRow 64 = .ok (.iload 7, 2) := by decide +kernel
theorem dX5_readRow_66 : decode cX5_readRow 66 = .ok (.iadd, 1) := by decide +kernel
theorem dX5_readRow_67 : decode cX5_readRow 67 = .ok (.iload 6, 2) := by decide +kernel
theorem dX5_readRow_69 : decode cX5_readRow 69 = .ok (.iastore, 1) := by decide +kernel
theorem dX5_readRow_70 : decode cX5_readRow 70 = .ok (.iinc 6 1, 3) := by decide +kernel
theorem dX5_readRow_73 : decode cX5_readRow 73 = .ok (.goto (-67), 3) := by decide +kernel
theorem dX5_readRow_76 : decode cX5_readRow 76 = .ok (.iconst 1, 1) := by decide +kernel
theorem dX5_readRow_77 : decode cX5_readRow 77 = .ok (.ireturn, 1) := by decide +kernel
theorem dX5_whomGets_0 : decode cX5_whomGets 0 = .ok (.iconst 0, 1) := by decide +kernel
theorem dX5_whomGets_1 : decode cX5_whomGets 1 = .ok (.istore_n 2, 1) := by decide +kernel
theorem dX5_whomGets_2 : decode cX5_whomGets 2 = .ok (.iload_n 2, 1) := by decide +kernel
theorem dX5_whomGets_3 : decode cX5_whomGets 3 = .ok (.aload_n 0, 1) := by decide +kernel
theorem dX5_whomGets_4 : decode cX5_whomGets 4 = .ok (.getfield 28, 3) := by decide +kernel
theorem dX5_whomGets_7 : decode cX5_whomGets 7 = .ok (.if_icmp .ge 30, 3) := by decide +kernel
theorem dX5_whomGets_10 : decode cX5_whomGets 10 = .ok (.aload_n 0, 1) := by decide +kernel
theorem dX5_whomGets_11 : decode cX5_whomGets 11 = .ok (.getfield 22, 3) := by decide +kernel
theorem dX5_whomGets_14 : decode cX5_whomGets 14 = .ok (.iload_n 2, 1) := by decide +kernel
theorem dX5_whomGets_15 : decode cX5_whomGets 15 = .ok (.iconst 0, 1) := by decide +kernel
theorem dX5_whomGets_16 : decode cX5_whomGets 16 = .ok (.iastore, 1) := by decide +kernel
theorem dX5_whomGets_17 : decode cX5_whomGets 17 = .ok (.aload_n 0, 1) := by decide +kernel
theorem dX5_whomGets_18 : decode cX5_whomGets 18 = .ok (.getfield 19, 3) := by decide +kernel
theorem dX5_whomGets_21 : decode cX5_whomGets 21 = .ok (.iload_n 2, 1) := by decide +kernel
theorem dX5_whomGets_22 : decode cX5_whomGets 22 = .ok (.iconst (-1), 1) := by decide +kernel
theorem dX5_whomGets_23 : decode cX5_whomGets 23 = .ok (.iastore, 1) := by decide +kernel
theorem dX5_whomGets_24 : decode cX5_whomGets 24 = .ok (.aload_n 0, 1) := by decide +kernel
theorem dX5_whomGets_25 : decode cX5_whomGets 25 = .ok (.getfield 25, 3) := by decide +kernel
theorem dX5_whomGets_28 : decode cX5_whomGets 28 = .ok (.iload_n 2, 1) := by decide +kernel
theorem dX5_whomGets_29 : decode cX5_whomGets 29 = .ok (.iconst (-1), 1) := by decide +kernel
theorem dX5_whomGets_30 : decode cX5_whomGets 30 = .ok (.iastore, 1) := by decide +kernel
theorem dX5_whomGets_31 : decode cX5_whomGets 31 = .ok (.iinc 2 1, 3) := by decide +kernel
theorem dX5_whomGets_34 : decode cX5_whomGets 34 = .ok (.goto (-32), 3) := by decide +kernel
theorem dX5_whomGets_37 : decode cX5_whomGets 37 = .ok (.iconst 0, 1) := by decide +kernel
theorem dX5_whomGets_38 : decode cX5_whomGets 38 = .ok (.istore_n 2, 1) := by decide +kernel
theorem dX5_whomGets_39 : decode cX5_whomGets 39 = .ok (.iload_n 2, 1) := by decide +kernel
theorem dX5_whomGets_40 : decode cX5_whomGets 40 = .ok (.bipush 36, 2) := by decide +kernel
theorem dX5_whomGets_42 : decode cX5_whomGets 42 = .ok (.if_icmp .ge 27, 3) := by decide +kernel
theorem dX5_whomGets_45 : decode cX5_whomGets 45 = .ok (.aload_n 0, 1) := by decide +kernel
theorem dX5_whomGets_46 : decode cX5_whomGets 46 = .ok (.invokevirtual 42, 3) := by decide +kernel
theorem dX5_whomGets_49 : decode cX5_whomGets 49 = .ok (.istore_n 3, 1) := by decide +kernel
theorem dX5_whomGets_50 : decode cX5_whomGets 50 = .ok (.iload_n 3, 1) := by decide +kernel
theorem dX5_whomGets_51 : decode cX5_whomGets 51 = .ok (.iconst (-1), 1) := by decide +kernel
theorem dX5_whomGets_52 : decode cX5_whomGets 52 = .ok (.if_icmp .ne 6, 3) := by decide +kernel
theorem dX5_whomGets_55 : decode cX5_whomGets 55 = .ok (.goto 14, 3) := by decide +kernel
theorem dX5_whomGets_58 : decode cX5_whomGets 58 = .ok (.aload_n 0, 1) := by decide +kernel
theorem dX5_whomGets_59 : decode cX5_whomGets 59 = .ok (.iload_n 3, 1) := by decide +kernel
theorem dX5_whomGets_60 : decode cX5_whomGets 60 = .ok (.invokevirtual 46, 3) := by decide +kernel
theorem dX5_whomGets_63 : decode cX5_whomGets 63 = .ok (.iinc 2 1, 3) := by decide +kernel
theorem dX5_whomGets_66 : decode cX5_whomGets 66 = .ok (.goto (-27), 3) := by decide +kernel
theorem dX5_whomGets_69 : decode cX5_whomGets 69 = .ok (.aload_n 0, 1) := by decide +kernel
theorem dX5_whomGets_70 : decode cX5_whomGets 70 = .ok (.getfield 19, 3) := by decide +kernel
theorem dX5_whomGets_73 : decode cX5_whomGets 73 = .ok (.iload_n 1, 1) := by decide +kernel
theorem dX5_whomGets_74 : decode cX5_whomGets 74 = .ok (.iaload, 1) := by decide +kernel
theorem dX5_whomGets_75 : decode cX5_whomGets 75 = .ok (.ireturn, 1) := by decide +kernel
theorem dX5_oneFree_0 : decode cX5_oneFree 0 = .ok (.iconst 0, 1) := by decide +kernel
theorem dX5_oneFree_1 : decode cX5_oneFree 1 = .ok (.istore_n 1, 1) := by decide +kernel
theorem dX5_oneFree_2 : decode cX5_oneFree 2 = .ok (.iload_n 1, 1) := by decide +kernel
theorem dX5_oneFree_3 : decode cX5_oneFree 3 = .ok (.aload_n 0, 1) := by decide +kernel
theorem dX5_oneFree_4 : decode cX5_oneFree 4 = .ok (.getfield 28, 3) := by decide +kernel
theorem dX5_oneFree_7 : decode cX5_oneFree 7 = .ok (.if_icmp .ge 34, 3) := by decide +kernel
theorem dX5_oneFree_10 : decode cX5_oneFree 10 = .ok (.aload_n 0, 1) := by decide +kernel
theorem dX5_oneFree_11 : decode cX5_oneFree 11 = .ok (.getfield 19, 3) := by decide +kernel
theorem dX5_oneFree_14 : decode cX5_oneFree 14 = .ok (.iload_n 1, 1) := by decide +kernel
theorem dX5_oneFree_15 : decode cX5_oneFree 15 = .ok (.iaload, 1) := by decide +kernel
theorem dX5_oneFree_16 : decode cX5_oneFree 16 = .ok (.iconst (-1), 1) := by decide +kernel
theorem dX5_oneFree_17 : decode cX5_oneFree 17 = .ok (.if_icmp .ne 18, 3) := by decide +kernel
theorem dX5_oneFree_20 : decode cX5_oneFree 20 = .ok (.aload_n 0, 1) := by decide +kernel
theorem dX5_oneFree_21 : decode cX5_oneFree 21 = .ok (.getfield 22, 3) := by decide +kernel
theorem dX5_oneFree_24 : decode cX5_oneFree 24 = .ok (.iload_n 1, 1) := by decide +kernel
theorem dX5_oneFree_25 : decode cX5_oneFree 25 = .ok (.iaload, 1) := by decide +kernel
theorem dX5_oneFree_26 : decode cX5_oneFree 26 = .ok (.aload_n 0, 1) := by decide +kernel
theorem dX5_oneFree_27 : decode cX5_oneFree 27 = .ok (.getfield 28, 3) := by decide +kernel
theorem dX5_oneFree_30 : decode cX5_oneFree 30 = .ok (.if_icmp .ge 5, 3) := by decide +kernel
theorem dX5_oneFree_33 : decode cX5_oneFree 33 = .ok (.iload_n 1, 1) := by decide +kernel
theorem dX5_oneFree_34 : decode cX5_oneFree 34 = .ok (.ireturn, 1) := by decide +kernel
theorem dX5_oneFree_35 : decode cX5_oneFree 35 = .ok (.iinc 1 1, 3) := by decide +kernel
theorem dX5_oneFree_38 : decode cX5_oneFree 38 = .ok (.goto (-36), 3) := by decide +kernel
theorem dX5_oneFree_41 : decode cX5_oneFree 41 = .ok (.iconst (-1), 1) := by decide +kernel
theorem dX5_oneFree_42 : decode cX5_oneFree 42 = .ok (.ireturn, 1) := by decide +kernel
theorem dX5_ask_0 : decode cX5_ask 0 = .ok (.aload_n 0, 1) := by decide +kernel
theorem dX5_ask_1 : decode cX5_ask 1 = .ok (.getfield 9, 3) := by decide +kernel
theorem dX5_ask_4 : decode cX5_ask 4 = .ok (.bipush 6, 2) := by decide +kernel
theorem dX5_ask_6 : decode cX5_ask 6 = .ok (.iload_n 1, 1) := by decide +kernel
theorem dX5_ask_7 : decode cX5_ask 7 = .ok (.imul, 1) := by decide +kernel
theorem dX5_ask_8 : decode cX5_ask 8 = .ok (.aload_n 0, 1) := by decide +kernel
theorem dX5_ask_9 : decode cX5_ask 9 = .ok (.getfield 22, 3) := by decide +kernel
theorem dX5_ask_12 : decode cX5_ask 12 = .ok (.iload_n 1, 1) := by decide +kernel
theorem dX5_ask_13 : decode cX5_ask 13 = .ok (.iaload, 1) := by decide +kernel
theorem dX5_ask_14 : decode cX5_ask 14 = .ok (.iadd, 1) := by decide +kernel
theorem dX5_ask_15 : decode cX5_ask 15 = .ok (.iaload, 1) := by decide +kernel
theorem dX5_ask_16 : decode cX5_ask 16 = .ok (.istore_n 2, 1) := by decide +kernel
theorem dX5_ask_17 : decode cX5_ask 17 = .ok (.aload_n 0, 1) := by decide +kernel
theorem dX5_ask_18 : decode cX5_ask 18 = .ok (.getfield 22, 3) := by decide +kernel
theorem dX5_ask_21 : decode cX5_ask 21 = .ok (.iload_n 1, 1) := by decide +kernel
theorem dX5_ask_22 : decode cX5_ask 22 = .ok (.dup2, 1) := by decide +kernel
theorem dX5_ask_23 : decode cX5_ask 23 = .ok (.iaload, 1) := by decide +kernel
theorem dX5_ask_24 : decode cX5_ask 24 = .ok (.iconst 1, 1) := by decide +kernel
theorem dX5_ask_25 : decode cX5_ask 25 = .ok (.iadd, 1) := by decide +kernel
theorem dX5_ask_26 : decode cX5_ask 26 = .ok (.iastore, 1) := by decide +kernel
theorem dX5_ask_27 : decode cX5_ask 27 = .ok (.aload_n 0, 1) := by decide +kernel
theorem dX5_ask_28 : decode cX5_ask 28 = .ok (.getfield 25, 3) := by decide +kernel
theorem dX5_ask_31 : decode cX5_ask 31 = .ok (.iload_n 2, 1) := by decide +kernel
theorem dX5_ask_32 : decode cX5_ask 32 = .ok (.iaload, 1) := by decide +kernel
theorem dX5_ask_33 : decode cX5_ask 33 = .ok (.istore_n 3, 1) := by decide +kernel
theorem dX5_ask_34 : decode cX5_ask 34 = .ok (.iload_n 3, 1) := by decide +kernel
theorem dX5_ask_35 : decode cX5_ask 35 = .ok (.iconst (-1), 1) := by decide +kernel
theorem dX5_ask_36 : decode cX5_ask 36 = .ok (.if_icmp .eq 29, 3) := by decide +kernel
theorem dX5_ask_39 : decode cX5_ask 39 = .ok (.aload_n 0, 1) := by decide +kernel
theorem dX5_ask_40 : decode cX5_ask 40 = .ok (.getfield 16, 3) := by decide +kernel
theorem dX5_ask_43 : decode cX5_ask 43 = .ok (.bipush 6, 2) := by decide +kernel
theorem dX5_ask_45 : decode cX5_ask 45 = .ok (.iload_n 2, 1) := by decide +kernel
theorem dX5_ask_46 : decode cX5_ask 46 = .ok (.imul, 1) := by decide +kernel
theorem dX5_ask_47 : decode cX5_ask 47 = .ok (.iload_n 3, 1) := by decide +kernel
theorem dX5_ask_48 : decode cX5_ask 48 = .ok (.iadd, 1) := by decide +kernel
theorem dX5_ask_49 : decode cX5_ask 49 = .ok (.iaload, 1) := by decide +kernel
theorem dX5_ask_50 : decode cX5_ask 50 = .ok (.aload_n 0, 1) := by decide +kernel
theorem dX5_ask_51 : decode cX5_ask 51 = .ok (.getfield 16, 3) := by decide +kernel
theorem dX5_ask_54 : decode cX5_ask 54 = .ok (.bipush 6, 2) := by decide +kernel
theorem dX5_ask_56 : decode cX5_ask 56 = .ok (.iload_n 2, 1) := by decide +kernel
theorem dX5_ask_57 : decode cX5_ask 57 = .ok (.imul, 1) := by decide +kernel
theorem dX5_ask_58 : decode cX5_ask 58 = .ok (.iload_n 1, 1) := by decide +kernel
theorem dX5_ask_59 : decode cX5_ask 59 = .ok (.iadd, 1) := by decide +kernel
theorem dX5_ask_60 : decode cX5_ask 60 = .ok (.iaload, 1) := by decide +kernel
theorem dX5_ask_61 : decode cX5_ask 61 = .ok (.if_icmp .ge 4, 3) := by decide +kernel
theorem dX5_ask_64 : decode cX5_ask 64 = .ok (.return_, 1) := by decide +kernel
theorem dX5_ask_65 : decode cX5_ask 65 = .ok (.iload_n 3, 1) := by decide +kernel
theorem dX5_ask_66 : decode cX5_ask 66 = .ok (.iconst (-1), 1) := by decide +kernel
theorem dX5_ask_67 : decode cX5_ask 67 = .ok (.if_icmp .eq 10, 3) := by decide +kernel
theorem dX5_ask_70 : decode cX5_ask 70 = .ok (.aload_n 0, 1) := by decide +kernel
theorem dX5_ask_71 : decode cX5_ask 71 = .ok (.getfield 19, 3) := by decide +kernel
theorem dX5_ask_74 : decode cX5_ask 74 = .ok (.iload_n 3, 1) := by decide +kernel
theorem dX5_ask_75 : decode cX5_ask 75 = .ok (.iconst (-1), 1) := by decide +kernel
theorem dX5_ask_76 : decode cX5_ask 76 = .ok (.iastore, 1) := by decide +kernel
theorem dX5_ask_77 : decode cX5_ask 77 = .ok (.aload_n 0, 1) := by decide +kernel
theorem dX5_ask_78 : decode cX5_ask 78 = .ok (.getfield 25, 3) := by decide +kernel
theorem dX5_ask_81 : decode cX5_ask 81 = .ok (.iload_n 2, 1) := by decide +kernel
theorem dX5_ask_82 : decode cX5_ask 82 = .ok (.iload_n 1, 1) := by decide +kernel
theorem dX5_ask_83 : decode cX5_ask 83 = .ok (.iastore, 1) := by decide +kernel
theorem dX5_ask_84 : decode cX5_ask 84 = .ok (.aload_n 0, 1) := by decide +kernel
theorem dX5_ask_85 : decode cX5_ask 85 = .ok (.getfield 19, 3) := by decide +kernel
theorem dX5_ask_88 : decode cX5_ask 88 = .ok (.iload_n 1, 1) := by decide +kernel
theorem dX5_ask_89 : decode cX5_ask 89 = .ok (.iload_n 2, 1) := by decide +kernel
theorem dX5_ask_90 : decode cX5_ask 90 = .ok (.iastore, 1) := by decide +kernel
theorem dX5_ask_91 : decode cX5_ask 91 = .ok (.return_, 1) := by decide +kernel
theorem dX5_howManyLast_0 : decode cX5_howManyLast 0 = .ok (.aload_n 0, 1) := by decide +kernel
theorem dX5_howManyLast_1 : decode cX5_howManyLast 1 = .ok (.iconst 0, 1) := by decide +kernel
theorem dX5_howManyLast_2 : decode cX5_howManyLast 2 = .ok (.iconst 0, 1) := by decide +kernel
theorem dX5_howManyLast_3 : decode cX5_howManyLast 3 = .ok (.invokevirtual 50, 3) := by decide +kernel
theorem dX5_howManyLast_6 : decode cX5_howManyLast 6 = .ok (.ireturn, 1) := by decide +kernel
theorem dX5_lasting_0 : decode cX5_lasting 0 = .ok (.iload_n 1, 1) := by decide +kernel
theorem dX5_lasting_1 : decode cX5_lasting 1 = .ok (.aload_n 0, 1) := by decide +kernel
theorem dX5_lasting_2 : decode cX5_lasting 2 = .ok (.getfield 28, 3) := by decide +kernel
theorem dX5_lasting_5 : decode cX5_lasting 5 = .ok (.if_icmp .lt 5, 3) := by decide +kernel
theorem dX5_lasting_8 : decode cX5_lasting 8 = .ok (.iconst 1, 1) := by decide +kernel
theorem dX5_lasting_9 : decode cX5_lasting 9 = .ok (.ireturn, 1) := by decide +kernel
theorem dX5_lasting_10 : decode cX5_lasting 10 = .ok (.iconst 0, 1) := by decide +kernel
theorem dX5_lasting_11 : decode cX5_lasting 11 = .ok (.istore_n 3, 1) := by decide +kernel
theorem dX5_lasting_12 : decode cX5_lasting 12 = .ok (.iconst 0, 1) := by decide +kernel
theorem dX5_lasting_13 : decode cX5_lasting 13 = .ok (.istore 4, 2) := by decide +kernel
theorem dX5_lasting_15 : decode cX5_lasting 15 = .ok (.iload 4, 2) := by decide +kernel
theorem dX5_lasting_17 : decode cX5_lasting 17 = .ok (.aload_n 0, 1) := by decide +kernel
theorem dX5_lasting_18 : decode cX5_lasting 18 = .ok (.getfield 28, 3) := by decide +kernel
theorem dX5_lasting_21 : decode cX5_lasting 21 = .ok (.if_icmp .ge 50, 3) := by decide +kernel
theorem dX5_lasting_24 : decode cX5_lasting 24 = .ok (.aload_n 0, 1) := by decide +kernel
theorem dX5_lasting_25 : decode cX5_lasting 25 = .ok (.getfield 19, 3) := by decide +kernel
theorem dX5_lasting_28 : decode cX5_lasting 28 = .ok (.iload_n 1, 1) := by decide +kernel
theorem dX5_lasting_29 : decode cX5_lasting 29 = .ok (.iload 4, 2) := by decide +kernel
theorem dX5_lasting_31 : decode cX5_lasting 31 = .ok (.iastore, 1) := by decide +kernel
theorem dX5_lasting_32 : decode cX5_lasting 32 = .ok (.iload_n 2, 1) := by decide +kernel
theorem dX5_lasting_33 : decode cX5_lasting 33 = .ok (.iload 4, 2) := by decide +kernel
theorem dX5_lasting_35 : decode cX5_lasting 35 = .ok (.ishr, 1) := by decide +kernel
theorem dX5_lasting_36 : decode cX5_lasting 36 = .ok (.iconst 1, 1) := by decide +kernel
theorem dX5_lasting_37 : decode cX5_lasting 37 = .ok (.iand, 1) := by decide +kernel
theorem dX5_lasting_38 : decode cX5_lasting 38 = .ok (.ifCond .ne 27, 3) := by decide +kernel
theorem dX5_lasting_41 : decode cX5_lasting 41 = .ok (.aload_n 0, 1) := by decide +kernel
theorem dX5_lasting_42 : decode cX5_lasting 42 = .ok (.iload_n 1, 1) := by decide +kernel
theorem dX5_lasting_43 : decode cX5_lasting 43 = .ok (.invokevirtual 54, 3) := by decide +kernel
theorem dX5_lasting_46 : decode cX5_lasting 46 = .ok (.ifCond .eq 19, 3) := by decide +kernel
theorem dX5_lasting_49 : decode cX5_lasting 49 = .ok (.iload_n 3, 1) := by decide +kernel
theorem dX5_lasting_50 : decode cX5_lasting 50 = .ok (.aload_n 0, 1) := by decide +kernel
theorem dX5_lasting_51 : decode cX5_lasting 51 = .ok (.iload_n 1, 1) := by decide +kernel
theorem dX5_lasting_52 : decode cX5_lasting 52 = .ok (.iconst 1, 1) := by decide +kernel
theorem dX5_lasting_53 : decode cX5_lasting 53 = .ok (.iadd, 1) := by decide +kernel
theorem dX5_lasting_54 : decode cX5_lasting 54 = .ok (.iload_n 2, 1) := by decide +kernel
theorem dX5_lasting_55 : decode cX5_lasting 55 = .ok (.iconst 1, 1) := by decide +kernel
theorem dX5_lasting_56 : decode cX5_lasting 56 = .ok (.iload 4, 2) := by decide +kernel
theorem dX5_lasting_58 : decode cX5_lasting 58 = .ok (.ishl, 1) := by decide +kernel
theorem dX5_lasting_59 : decode cX5_lasting 59 = .ok (.ior, 1) := by decide +kernel
theorem dX5_lasting_60 : decode cX5_lasting 60 = .ok (.invokevirtual 50, 3) := by decide +kernel
theorem dX5_lasting_63 : decode cX5_lasting 63 = .ok (.iadd, 1) := by decide +kernel
theorem dX5_lasting_64 : decode cX5_lasting 64 = .ok (.istore_n 3, 1) := by decide +kernel
theorem dX5_lasting_65 : decode cX5_lasting 65 = .ok (.iinc 4 1, 3) := by decide +kernel
theorem dX5_lasting_68 : decode cX5_lasting 68 = .ok (.goto (-53), 3) := by decide +kernel
theorem dX5_lasting_71 : decode cX5_lasting 71 = .ok (.iload_n 3, 1) := by decide +kernel
theorem dX5_lasting_72 : decode cX5_lasting 72 = .ok (.ireturn, 1) := by decide +kernel
theorem dX5_isAtPeace_0 : decode cX5_isAtPeace 0 = .ok (.iconst 0, 1) := by decide +kernel
theorem dX5_isAtPeace_1 : decode cX5_isAtPeace 1 = .ok (.istore_n 2, 1) := by decide +kernel
theorem dX5_isAtPeace_2 : decode cX5_isAtPeace 2 = .ok (.iload_n 2, 1) := by decide +kernel
theorem dX5_isAtPeace_3 : decode cX5_isAtPeace 3 = .ok (.iload_n 1, 1) := by decide +kernel
theorem dX5_isAtPeace_4 : decode cX5_isAtPeace 4 = .ok (.if_icmp .ge 29, 3) := by decide +kernel
theorem dX5_isAtPeace_7 : decode cX5_isAtPeace 7 = .ok (.aload_n 0, 1) := by decide +kernel
theorem dX5_isAtPeace_8 : decode cX5_isAtPeace 8 = .ok (.iload_n 1, 1) := by decide +kernel
theorem dX5_isAtPeace_9 : decode cX5_isAtPeace 9 = .ok (.iload_n 2, 1) := by decide +kernel
theorem dX5_isAtPeace_10 : decode cX5_isAtPeace 10 = .ok (.invokevirtual 58, 3) := by decide +kernel
theorem dX5_isAtPeace_13 : decode cX5_isAtPeace 13 = .ok (.ifCond .ne 12, 3) := by decide +kernel
theorem dX5_isAtPeace_16 : decode cX5_isAtPeace 16 = .ok (.aload_n 0, 1) := by decide +kernel
theorem dX5_isAtPeace_17 : decode cX5_isAtPeace 17 = .ok (.iload_n 2, 1) := by decide +kernel
theorem dX5_isAtPeace_18 : decode cX5_isAtPeace 18 = .ok (.iload_n 1, 1) := by decide +kernel
theorem dX5_isAtPeace_19 : decode cX5_isAtPeace 19 = .ok (.invokevirtual 58, 3) := by decide +kernel
theorem dX5_isAtPeace_22 : decode cX5_isAtPeace 22 = .ok (.ifCond .eq 5, 3) := by decide +kernel
theorem dX5_isAtPeace_25 : decode cX5_isAtPeace 25 = .ok (.iconst 0, 1) := by decide +kernel
theorem dX5_isAtPeace_26 : decode cX5_isAtPeace 26 = .ok (.ireturn, 1) := by decide +kernel
theorem dX5_isAtPeace_27 : decode cX5_isAtPeace 27 = .ok (.iinc 2 1, 3) := by decide +kernel
theorem dX5_isAtPeace_30 : decode cX5_isAtPeace 30 = .ok (.goto (-28), 3) := by decide +kernel
theorem dX5_isAtPeace_33 : decode cX5_isAtPeace 33 = .ok (.iconst 1, 1) := by decide +kernel
theorem dX5_isAtPeace_34 : decode cX5_isAtPeace 34 = .ok (.ireturn, 1) := by decide +kernel
theorem dX5_wouldRather_0 : decode cX5_wouldRather 0 = .ok (.aload_n 0, 1) := by decide +kernel
theorem dX5_wouldRather_1 : decode cX5_wouldRather 1 = .ok (.getfield 19, 3) := by decide +kernel
theorem dX5_wouldRather_4 : decode cX5_wouldRather 4 = .ok (.iload_n 2, 1) := by decide +kernel
theorem dX5_wouldRather_5 : decode cX5_wouldRather 5 = .ok (.iaload, 1) := by decide +kernel
theorem dX5_wouldRather_6 : decode cX5_wouldRather 6 = .ok (.istore_n 3, 1) := by decide +kernel
theorem dX5_wouldRather_7 : decode cX5_wouldRather 7 = .ok (.aload_n 0, 1) := by decide +kernel
theorem dX5_wouldRather_8 : decode cX5_wouldRather 8 = .ok (.getfield 13, 3) := by decide +kernel
theorem dX5_wouldRather_11 : decode cX5_wouldRather 11 = .ok (.bipush 6, 2) := by decide +kernel
theorem dX5_wouldRather_13 : decode cX5_wouldRather 13 = .ok (.iload_n 1, 1) := by decide +kernel
theorem dX5_wouldRather_14 : decode cX5_wouldRather 14 = .ok (.imul, 1) := by decide +kernel
theorem dX5_wouldRather_15 : decode cX5_wouldRather 15 = .ok (.iload_n 3, 1) := by decide +kernel
theorem dX5_wouldRather_16 : decode cX5_wouldRather 16 = .ok (.iadd, 1) := by decide +kernel
theorem dX5_wouldRather_17 : decode cX5_wouldRather 17 = .ok (.iaload, 1) := by decide +kernel
theorem dX5_wouldRather_18 : decode cX5_wouldRather 18 = .ok (.aload_n 0, 1) := by decide +kernel
theorem dX5_wouldRather_19 : decode cX5_wouldRather 19 = .ok (.getfield 13, 3) := by decide +kernel
theorem dX5_wouldRather_22 : decode cX5_wouldRather 22 = .ok (.bipush 6, 2) := by decide +kernel
theorem dX5_wouldRather_24 : decode cX5_wouldRather 24 = .ok (.iload_n 1, 1) := by decide +kernel
theorem dX5_wouldRather_25 : decode cX5_wouldRather 25 = .ok (.imul, 1) := by decide +kernel
theorem dX5_wouldRather_26 : decode cX5_wouldRather 26 = .ok (.aload_n 0, 1) := by decide +kernel
theorem dX5_wouldRather_27 : decode cX5_wouldRather 27 = .ok (.getfield 19, 3) := by decide +kernel
theorem dX5_wouldRather_30 : decode cX5_wouldRather 30 = .ok (.iload_n 1, 1) := by decide +kernel
theorem dX5_wouldRather_31 : decode cX5_wouldRather 31 = .ok (.iaload, 1) := by decide +kernel
theorem dX5_wouldRather_32 : decode cX5_wouldRather 32 = .ok (.iadd, 1) := by decide +kernel
theorem dX5_wouldRather_33 : decode cX5_wouldRather 33 = .ok (.iaload, 1) := by decide +kernel
theorem dX5_wouldRather_34 : decode cX5_wouldRather 34 = .ok (.if_icmp .ge 32, 3) := by decide +kernel
theorem dX5_wouldRather_37 : decode cX5_wouldRather 37 = .ok (.aload_n 0, 1) := by decide +kernel
theorem dX5_wouldRather_38 : decode cX5_wouldRather 38 = .ok (.getfield 16, 3) := by decide +kernel
theorem dX5_wouldRather_41 : decode cX5_wouldRather 41 = .ok (.bipush 6, 2) := by decide +kernel
theorem dX5_wouldRather_43 : decode cX5_wouldRather 43 = .ok (.iload_n 3, 1) := by decide +kernel
theorem dX5_wouldRather_44 : decode cX5_wouldRather 44 = .ok (.imul, 1) := by decide +kernel
theorem dX5_wouldRather_45 : decode cX5_wouldRather 45 = .ok (.iload_n 1, 1) := by decide +kernel
theorem dX5_wouldRather_46 : decode cX5_wouldRather 46 = .ok (.iadd, 1) := by decide +kernel
theorem dX5_wouldRather_47 : decode cX5_wouldRather 47 = .ok (.iaload, 1) := by decide +kernel
theorem dX5_wouldRather_48 : decode cX5_wouldRather 48 = .ok (.aload_n 0, 1) := by decide +kernel
theorem dX5_wouldRather_49 : decode cX5_wouldRather 49 = .ok (.getfield 16, 3) := by decide +kernel
theorem dX5_wouldRather_52 : decode cX5_wouldRather 52 = .ok (.bipush 6, 2) := by decide +kernel
theorem dX5_wouldRather_54 : decode cX5_wouldRather 54 = .ok (.iload_n 3, 1) := by decide +kernel
theorem dX5_wouldRather_55 : decode cX5_wouldRather 55 = .ok (.imul, 1) := by decide +kernel
theorem dX5_wouldRather_56 : decode cX5_wouldRather 56 = .ok (.iload_n 2, 1) := by decide +kernel
theorem dX5_wouldRather_57 : decode cX5_wouldRather 57 = .ok (.iadd, 1) := by decide +kernel
theorem dX5_wouldRather_58 : decode cX5_wouldRather 58 = .ok (.iaload, 1) := by decide +kernel
theorem dX5_wouldRather_59 : decode cX5_wouldRather 59 = .ok (.if_icmp .ge 7, 3) := by decide +kernel
theorem dX5_wouldRather_62 : decode cX5_wouldRather 62 = .ok (.iconst 1, 1) := by decide +kernel
theorem dX5_wouldRather_63 : decode cX5_wouldRather 63 = .ok (.goto 4, 3) := by decide +kernel
theorem dX5_wouldRather_66 : decode cX5_wouldRather 66 = .ok (.iconst 0, 1) := by decide +kernel
theorem dX5_wouldRather_67 : decode cX5_wouldRather 67 = .ok (.ireturn, 1) := by decide +kernel
theorem dX6_init_0 : decode cX6_init 0 = .ok (.aload_n 0, 1) := by decide +kernel
theorem dX6_init_1 : decode cX6_init 1 = .ok (.invokespecial 3, 3) := by decide +kernel
theorem dX6_init_4 : decode cX6_init 4 = .ok (.aload_n 0, 1) := by decide +kernel
theorem dX6_init_5 : decode cX6_init 5 = .ok (.sipush 4608, 3) := by decide +kernel
theorem dX6_init_8 : decode cX6_init 8 = .ok (.newarray .int, 2) := by decide +kernel
theorem dX6_init_10 : decode cX6_init 10 = .ok (.putfield 11, 3) := by decide +kernel
theorem dX6_init_13 : decode cX6_init 13 = .ok (.aload_n 0, 1) := by decide +kernel
theorem dX6_init_14 : decode cX6_init 14 = .ok (.bipush 9, 2) := by decide +kernel
theorem dX6_init_16 : decode cX6_init 16 = .ok (.newarray .int, 2) := by decide +kernel
theorem dX6_init_18 : decode cX6_init 18 = .ok (.putfield 15, 3) := by decide +kernel
theorem dX6_init_21 : decode cX6_init 21 = .ok (.aload_n 0, 1) := by decide +kernel
theorem dX6_init_22 : decode cX6_init 22 = .ok (.bipush 9, 2) := by decide +kernel
theorem dX6_init_24 : decode cX6_init 24 = .ok (.newarray .int, 2) := by decide +kernel
theorem dX6_init_26 : decode cX6_init 26 = .ok (.putfield 18, 3) := by decide +kernel
theorem dX6_init_29 : decode cX6_init 29 = .ok (.aload_n 0, 1) := by decide +kernel
theorem dX6_init_30 : decode cX6_init 30 = .ok (.bipush 10, 2) := by decide +kernel
theorem dX6_init_32 : decode cX6_init 32 = .ok (.newarray .int, 2) := by decide +kernel
theorem dX6_init_34 : decode cX6_init 34 = .ok (.putfield 21, 3) := by decide +kernel
theorem dX6_init_37 : decode cX6_init 37 = .ok (.aload_n 0, 1) := by decide +kernel
theorem dX6_init_38 : decode cX6_init 38 = .ok (.iconst 0, 1) := by decide +kernel
theorem dX6_init_39 : decode cX6_init 39 = .ok (.putfield 24, 3) := by decide +kernel
theorem dX6_init_42 : decode cX6_init 42 = .ok (.aload_n 0, 1) := by decide +kernel
theorem dX6_init_43 : decode cX6_init 43 = .ok (.iconst 0, 1) := by decide +kernel
theorem dX6_init_44 : decode cX6_init 44 = .ok (.putfield 28, 3) := by decide +kernel
theorem dX6_init_47 : decode cX6_init 47 = .ok (.return_, 1) := by decide +kernel
theorem dX6_tellRound_0 : decode cX6_tellRound 0 = .ok (.iconst 0, 1) := by decide +kernel
theorem dX6_tellRound_1 : decode cX6_tellRound 1 = .ok (.istore_n 3, 1) := by decide +kernel
theorem dX6_tellRound_2 : decode cX6_tellRound 2 = .ok (.iconst 0, 1) := by decide +kernel
theorem dX6_tellRound_3 : decode cX6_tellRound 3 = .ok (.istore 4, 2) := by decide +kernel
theorem dX6_tellRound_5 : decode cX6_tellRound 5 = .ok (.iload 4, 2) := by decide +kernel
theorem dX6_tellRound_7 : decode cX6_tellRound 7 = .ok (.aload_n 1, 1) := by decide +kernel
theorem dX6_tellRound_8 : decode cX6_tellRound 8 = .ok (.getfield 31, 3) := by decide +kernel
theorem dX6_tellRound_11 : decode cX6_tellRound 11 = .ok (.if_icmp .ge 49, 3) := by decide +kernel
theorem dX6_tellRound_14 : decode cX6_tellRound 14 = .ok (.iload_n 2, 1) := by decide +kernel
theorem dX6_tellRound_15 : decode cX6_tellRound 15 = .ok (.iload 4, 2) := by decide +kernel
theorem dX6_tellRound_17 : decode cX6_tellRound 17 = .ok (.ishr, 1) := by decide +kernel
theorem dX6_tellRound_18 : decode cX6_tellRound 18 = .ok (.iconst 1, 1) := by decide +kernel
theorem dX6_tellRound_19 : decode cX6_tellRound 19 = .ok (.iand, 1) := by decide +kernel
theorem dX6_tellRound_20 : decode cX6_tellRound 20 = .ok (.iconst 1, 1) := by decide +kernel
theorem dX6_tellRound_21 : decode cX6_tellRound 21 = .ok (.if_icmp .ne 33, 3) := by decide +kernel
theorem dX6_tellRound_24 : decode cX6_tellRound 24 = .ok (.iload_n 3, 1) := by decide +kernel
theorem dX6_tellRound_25 : decode cX6_tellRound 25 = .ok (.bipush 9, 2) := by decide +kernel
theorem dX6_tellRound_27 : decode cX6_tellRound 27 = .ok (.if_icmp .ge 27, 3) := by decide +kernel
theorem dX6_tellRound_30 : decode cX6_tellRound 30 = .ok (.aload_n 0, 1) := by decide +kernel
theorem dX6_tellRound_31 : decode cX6_tellRound 31 = .ok (.getfield 15, 3) := by decide +kernel
theorem dX6_tellRound_34 : decode cX6_tellRound 34 = .ok (.iload_n 3, 1) := by decide +kernel
theorem dX6_tellRound_35 : decode cX6_tellRound 35 = .ok (.iload 4, 2) := by decide +kernel
theorem dX6_tellRound_37 : decode cX6_tellRound 37 = .ok (.iastore, 1) := by decide +kernel
theorem dX6_tellRound_38 : decode cX6_tellRound 38 = .ok (.aload_n 0, 1) := by decide +kernel
theorem dX6_tellRound_39 : decode cX6_tellRound 39 = .ok (.getfield 18, 3) := by decide +kernel
theorem dX6_tellRound_42 : decode cX6_tellRound 42 = .ok (.iload_n 3, 1) := by decide +kernel
theorem dX6_tellRound_43 : decode cX6_tellRound 43 = .ok (.aload_n 1, 1) := by decide +kernel
theorem dX6_tellRound_44 : decode cX6_tellRound 44 = .ok (.getfield 36, 3) := by decide +kernel
theorem dX6_tellRound_47 : decode cX6_tellRound 47 = .ok (.iload 4, 2) := by decide +kernel
theorem dX6_tellRound_49 : decode cX6_tellRound 49 = .ok (.iaload, 1) := by decide +kernel
theorem dX6_tellRound_50 : decode cX6_tellRound 50 = .ok (.iastore, 1) := by decide +kernel
theorem dX6_tellRound_51 : decode cX6_tellRound 51 = .ok (.iinc 3 1, 3) := by decide +kernel
theorem dX6_tellRound_54 : decode cX6_tellRound 54 = .ok (.iinc 4 1, 3) := by decide +kernel
theorem dX6_tellRound_57 : decode cX6_tellRound 57 = .ok (.goto (-52), 3) := by decide +kernel
theorem dX6_tellRound_60 : decode cX6_tellRound 60 = .ok (.iconst 1, 1) := by decide +kernel
theorem dX6_tellRound_61 : decode cX6_tellRound 61 = .ok (.iload_n 3, 1) := by decide +kernel
theorem dX6_tellRound_62 : decode cX6_tellRound 62 = .ok (.ishl, 1) := by decide +kernel
theorem dX6_tellRound_63 : decode cX6_tellRound 63 = .ok (.iconst 1, 1) := by decide +kernel
theorem dX6_tellRound_64 : decode cX6_tellRound 64 = .ok (.isub, 1) := by decide +kernel
theorem dX6_tellRound_65 : decode cX6_tellRound 65 = .ok (.istore 4, 2) := by decide +kernel
theorem dX6_tellRound_67 : decode cX6_tellRound 67 = .ok (.iconst 1, 1) := by decide +kernel
theorem dX6_tellRound_68 : decode cX6_tellRound 68 = .ok (.istore 5, 2) := by decide +kernel
theorem dX6_tellRound_70 : decode cX6_tellRound 70 = .ok (.iload 5, 2) := by decide +kernel
theorem dX6_tellRound_72 : decode cX6_tellRound 72 = .ok (.iload 4, 2) := by decide +kernel
theorem dX6_tellRound_74 : decode cX6_tellRound 74 = .ok (.if_icmp .gt 57, 3) := by decide +kernel
theorem dX6_tellRound_77 : decode cX6_tellRound 77 = .ok (.iconst 0, 1) := by decide +kernel
theorem dX6_tellRound_78 : decode cX6_tellRound 78 = .ok (.istore 6, 2) := by decide +kernel
theorem dX6_tellRound_80 : decode cX6_tellRound 80 = .ok (.iload 6, 2) := by decide +kernel
theorem dX6_tellRound_82 : decode cX6_tellRound 82 = .ok (.iload_n 3, 1) := by decide +kernel
theorem dX6_tellRound_83 : decode cX6_tellRound 83 = .ok (.if_icmp .ge 42, 3) := by decide +kernel
theorem dX6_tellRound_86 : decode cX6_tellRound 86 = .ok (.iload 5, 2) := by decide +kernel
theorem dX6_tellRound_88 : decode cX6_tellRound 88 = .ok (.iload 6, 2) := by decide +kernel
theorem dX6_tellRound_90 : decode cX6_tellRound 90 = .ok (.ishr, 1) := by decide +kernel
theorem dX6_tellRound_91 : decode cX6_tellRound 91 = .ok (.iconst 1, 1) := by decide +kernel
theorem dX6_tellRound_92 : decode cX6_tellRound 92 = .ok (.iand, 1) := by decide +kernel
theorem dX6_tellRound_93 : decode cX6_tellRound 93 = .ok (.iconst 1, 1) := by decide +kernel
theorem dX6_tellRound_94 : decode cX6_tellRound 94 = .ok (.if_icmp .ne 25, 3) := by decide +kernel
theorem dX6_tellRound_97 : decode cX6_tellRound 97 = .ok (.aload_n 0, 1) := by decide +kernel
theorem dX6_tellRound_98 : decode cX6_tellRound 98 = .ok (.getfield 11, 3) := by decide +kernel
theorem dX6_tellRound_101 : decode cX6_tellRound 101 = .ok (.bipush 9, 2) := by decide +kernel
theorem dX6_tellRound_103 : decode cX6_tellRound 103 = .ok (.iload 5, 2) := by decide +kernel
theorem dX6_tellRound_105 : decode cX6_tellRound 105 = .ok (.imul, 1) := by decide +kernel
theorem dX6_tellRound_106 : decode cX6_tellRound 106 = .ok (.iload 6, 2) := by decide +kernel
theorem dX6_tellRound_108 : decode cX6_tellRound 108 = .ok (.iadd, 1) := by decide +kernel
theorem dX6_tellRound_109 : decode cX6_tellRound 109 = .ok (.aload_n 0, 1) := by decide +kernel
theorem dX6_tellRound_110 : decode cX6_tellRound 110 = .ok (.iload 5, 2) := by decide +kernel
theorem dX6_tellRound_112 : decode cX6_tellRound 112 = .ok (.iload 6, 2) := by decide +kernel
theorem dX6_tellRound_114 : decode cX6_tellRound 114 = .ok (.iload_n 3, 1) := by decide +kernel
theorem dX6_tellRound_115 : decode cX6_tellRound 115 = .ok (.invokevirtual 39, 3) := by decide +kernel
theorem dX6_tellRound_118 : decode cX6_tellRound 118 = .ok (.iastore, 1) := by decide +kernel
theorem dX6_tellRound_119 : decode cX6_tellRound 119 = .ok (.iinc 6 1, 3) := by decide +kernel
theorem dX6_tellRound_122 : decode cX6_tellRound 122 = .ok (.goto (-42), 3) := by decide +kernel
theorem dX6_tellRound_125 : decode cX6_tellRound 125 = .ok (.iinc 5 1, 3) := by decide +kernel
theorem dX6_tellRound_128 : decode cX6_tellRound 128 = .ok (.goto (-58), 3) := by decide +kernel
theorem dX6_tellRound_131 : decode cX6_tellRound 131 = .ok (.aload_n 0, 1) := by decide +kernel
theorem dX6_tellRound_132 : decode cX6_tellRound 132 = .ok (.iload 4, 2) := by decide +kernel
theorem dX6_tellRound_134 : decode cX6_tellRound 134 = .ok (.iload_n 3, 1) := by decide +kernel
theorem dX6_tellRound_135 : decode cX6_tellRound 135 = .ok (.invokevirtual 43, 3) := by decide +kernel
theorem dX6_tellRound_138 : decode cX6_tellRound 138 = .ok (.return_, 1) := by decide +kernel
theorem dX6_wayHome_0 : decode cX6_wayHome 0 = .ok (.iload_n 1, 1) := by decide +kernel
theorem dX6_wayHome_1 : decode cX6_wayHome 1 = .ok (.iconst 1, 1) := by decide +kernel
theorem dX6_wayHome_2 : decode cX6_wayHome 2 = .ok (.iload_n 2, 1) := by decide +kernel
theorem dX6_wayHome_3 : decode cX6_wayHome 3 = .ok (.ishl, 1) := by decide +kernel
theorem dX6_wayHome_4 : decode cX6_wayHome 4 = .ok (.ixor, 1) := by decide +kernel
theorem dX6_wayHome_5 : decode cX6_wayHome 5 = .ok (.istore 4, 2) := by decide +kernel
theorem dX6_wayHome_7 : decode cX6_wayHome 7 = .ok (.iload 4, 2) := by decide +kernel
theorem dX6_wayHome_9 : decode cX6_wayHome 9 = .ok (.ifCond .ne 14, 3) := by decide +kernel
theorem dX6_wayHome_12 : decode cX6_wayHome 12 = .ok (.aload_n 0, 1) := by decide +kernel
theorem dX6_wayHome_13 : decode cX6_wayHome 13 = .ok (.getfield 18, 3) := by decide +kernel
theorem dX6_wayHome_16 : decode cX6_wayHome 16 = .ok (.iload_n 2, 1) := by decide +kernel
theorem dX6_wayHome_17 : decode cX6_wayHome 17 = .ok (.iaload, 1) := by decide +kernel
theorem dX6_wayHome_18 : decode cX6_wayHome 18 = .ok (.iconst 0, 1) := by decide +kernel
theorem dX6_wayHome_19 : decode cX6_wayHome 19 = .ok (.invokestatic 47, 3) := by decide +kernel
theorem dX6_wayHome_22 : decode cX6_wayHome 22 = .ok (.ireturn, 1) := by decide +kernel
theorem dX6_wayHome_23 : decode cX6_wayHome 23 = .ok (.ldc 51, 2) := by decide +kernel
theorem dX6_wayHome_25 : decode cX6_wayHome 25 = .ok (.istore 5, 2) := by decide +kernel
theorem dX6_wayHome_27 : decode cX6_wayHome 27 = .ok (.iconst 0, 1) := by decide +kernel
theorem dX6_wayHome_28 : decode cX6_wayHome 28 = .ok (.istore 6, 2) := by decide +kernel
theorem dX6_wayHome_30 : decode cX6_wayHome 30 = .ok (.iload 6, 2) := by decide +kernel
theorem dX6_wayHome_32 : decode cX6_wayHome 32 = .ok (.iload_n 3, 1) := by decide +kernel
theorem dX6_wayHome_33 : decode cX6_wayHome 33 = .ok (.if_icmp .ge 61, 3) := by decide +kernel
theorem dX6_wayHome_36 : decode cX6_wayHome 36 = .ok (.iload 4, 2) := by decide +kernel
theorem dX6_wayHome_38 : decode cX6_wayHome 38 = .ok (.iload 6, 2) := by decide +kernel
theorem dX6_wayHome_40 : decode cX6_wayHome 40 = .ok (.ishr, 1) := by decide +kernel
theorem dX6_wayHome_41 : decode cX6_wayHome 41 = .ok (.iconst 1, 1) := by decide +kernel
theorem dX6_wayHome_42 : decode cX6_wayHome 42 = .ok (.iand, 1) := by decide +kernel
theorem dX6_wayHome_43 : decode cX6_wayHome 43 = .ok (.iconst 1, 1) := by decide +kernel
theorem dX6_wayHome_44 : decode cX6_wayHome 44 = .ok (.if_icmp .ne 44, 3) := by decide +kernel
theorem dX6_wayHome_47 : decode cX6_wayHome 47 = .ok (.aload_n 0, 1) := by decide +kernel
theorem dX6_wayHome_48 : decode cX6_wayHome 48 = .ok (.getfield 18, 3) := by decide +kernel
theorem dX6_wayHome_51 : decode cX6_wayHome 51 = .ok (.iload_n 2, 1) := by decide +kernel
theorem dX6_wayHome_52 : decode cX6_wayHome 52 = .ok (.iaload, 1) := by decide +kernel
theorem dX6_wayHome_53 : decode cX6_wayHome 53 = .ok (.aload_n 0, 1) := by decide +kernel
theorem dX6_wayHome_54 : decode cX6_wayHome 54 = .ok (.getfield 18, 3) := by decide +kernel
theorem dX6_wayHome_57 : decode cX6_wayHome 57 = .ok (.iload 6, 2) := by decide +kernel
theorem dX6_wayHome_59 : decode cX6_wayHome 59 = .ok (.iaload, 1) := by decide +kernel
theorem dX6_wayHome_60 : decode cX6_wayHome 60 = .ok (.invokestatic 47, 3) := by decide +kernel
theorem dX6_wayHome_63 : decode cX6_wayHome 63 = .ok (.aload_n 0, 1) := by decide +kernel
theorem dX6_wayHome_64 : decode cX6_wayHome 64 = .ok (.getfield 11, 3) := by decide +kernel
theorem dX6_wayHome_67 : decode cX6_wayHome 67 = .ok (.bipush 9, 2) := by decide +kernel
theorem dX6_wayHome_69 : decode cX6_wayHome 69 = .ok (.iload 4, 2) := by decide +kernel
theorem dX6_wayHome_71 : decode cX6_wayHome 71 = .ok (.imul, 1) := by decide +kernel
theorem dX6_wayHome_72 : decode cX6_wayHome 72 = .ok (.iload 6, 2) := by decide +kernel
theorem dX6_wayHome_74 : decode cX6_wayHome 74 = .ok (.iadd, 1) := by decide +kernel
theorem dX6_wayHome_75 : decode cX6_wayHome 75 = .ok (.iaload, 1) := by decide +kernel
theorem dX6_wayHome_76 : decode cX6_wayHome 76 = .ok (.iadd, 1) := by decide +kernel
theorem dX6_wayHome_77 : decode cX6_wayHome 77 = .ok (.istore 7, 2) := by decide +kernel
theorem dX6_wayHome_79 : decode cX6_wayHome 79 = .ok (.iload 5, 2) := by decide +kernel
theorem dX6_wayHome_81 : decode cX6_wayHome 81 = .ok (.iload 7, 2) := by decide +kernel
theorem dX6_wayHome_83 : decode cX6_wayHome 83 = .ok (.invokestatic 52, 3) := by decide +kernel
theorem dX6_wayHome_86 : decode cX6_wayHome 86 = .ok (.istore 5, 2) := by decide +kernel
theorem dX6_wayHome_88 : decode cX6_wayHome 88 = .ok (.iinc 6 1, 3) := by decide +kernel
theorem dX6_wayHome_91 : decode cX6_wayHome 91 = .ok (.goto (-61), 3) := by decide +kernel
theorem dX6_wayHome_94 : decode cX6_wayHome 94 = .ok (.iload 5, 2) := by decide +kernel
theorem dX6_wayHome_96 : decode cX6_wayHome 96 = .ok (.ireturn, 1) := by decide +kernel
theorem dX6_chooseFirst_0 : decode cX6_chooseFirst 0 = .ok (.aload_n 0, 1) := by decide +kernel
theorem dX6_chooseFirst_1 : decode cX6_chooseFirst 1 = .ok (.ldc 51, 2) := by decide +kernel
theorem dX6_chooseFirst_3 : decode cX6_chooseFirst 3 = .ok (.putfield 24, 3) := by decide +kernel
theorem dX6_chooseFirst_6 : decode cX6_chooseFirst 6 = .ok (.iconst 0, 1) := by decide +kernel
theorem dX6_chooseFirst_7 : decode cX6_chooseFirst 7 = .ok (.istore_n 3, 1) := by decide +kernel
theorem dX6_chooseFirst_8 : decode cX6_chooseFirst 8 = .ok (.iload_n 3, 1) := by decide +kernel
theorem dX6_chooseFirst_9 : decode cX6_chooseFirst 9 = .ok (.iload_n 2, 1) := by decide +kernel
theorem dX6_chooseFirst_10 : decode cX6_chooseFirst 10 = .ok (.if_icmp .ge 58, 3) := by decide +kernel
theorem dX6_chooseFirst_13 : decode cX6_chooseFirst 13 = .ok (.iconst 0, 1) := by decide +kernel
theorem dX6_chooseFirst_14 : decode cX6_chooseFirst 14 = .ok (.aload_n 0, 1) := by decide +kernel
theorem dX6_chooseFirst_15 : decode cX6_chooseFirst 15 = .ok (.getfield 18, 3) := by decide +kernel
theorem dX6_chooseFirst_18 : decode cX6_chooseFirst 18 = .ok (.iload_n 3, 1) := by decide +kernel
theorem dX6_chooseFirst_19 : decode cX6_chooseFirst 19 = .ok (.iaload, 1) := by decide +kernel
theorem dX6_chooseFirst_20 : decode cX6_chooseFirst 20 = .ok (.invokestatic 47, 3) := by decide +kernel
theorem dX6_chooseFirst_23 : decode cX6_chooseFirst 23 = .ok (.aload_n 0, 1) := by decide +kernel
theorem dX6_chooseFirst_24 : decode cX6_chooseFirst 24 = .ok (.getfield 11, 3) := by decide +kernel
theorem dX6_chooseFirst_27 : decode cX6_chooseFirst 27 = .ok (.bipush 9, 2) := by decide +kernel
theorem dX6_chooseFirst_29 : decode cX6_chooseFirst 29 = .ok (.iload_n 1, 1) := by decide +kernel
theorem dX6_chooseFirst_30 : decode cX6_chooseFirst 30 = .ok (.imul, 1) := by decide +kernel
theorem dX6_chooseFirst_31 : decode cX6_chooseFirst 31 = .ok (.iload_n 3, 1) := by decide +kernel
theorem dX6_chooseFirst_32 : decode cX6_chooseFirst 32 = .ok (.iadd, 1) := by decide +kernel
theorem dX6_chooseFirst_33 : decode cX6_chooseFirst 33 = .ok (.iaload, 1) := by decide +kernel
theorem dX6_chooseFirst_34 : decode cX6_chooseFirst 34 = .ok (.iadd, 1) := by decide +kernel
theorem dX6_chooseFirst_35 : decode cX6_chooseFirst 35 = .ok (.istore 4, 2) := by decide +kernel
theorem dX6_chooseFirst_37 : decode cX6_chooseFirst 37 = .ok (.iload 4, 2) := by decide +kernel
theorem dX6_chooseFirst_39 : decode cX6_chooseFirst 39 = .ok (.aload_n 0, 1) := by decide +kernel
theorem dX6_chooseFirst_40 : decode cX6_chooseFirst 40 = .ok (.getfield 24, 3) := by decide +kernel
theorem dX6_chooseFirst_43 : decode cX6_chooseFirst 43 = .ok (.if_icmp .ge 19, 3) := by decide +kernel
theorem dX6_chooseFirst_46 : decode cX6_chooseFirst 46 = .ok (.aload_n 0, 1) := by decide +kernel
theorem dX6_chooseFirst_47 : decode cX6_chooseFirst 47 = .ok (.iload 4, 2) := by decide +kernel
theorem dX6_chooseFirst_49 : decode cX6_chooseFirst 49 = .ok (.putfield 24, 3) := by decide +kernel
theorem dX6_chooseFirst_52 : decode cX6_chooseFirst 52 = .ok (.aload_n 0, 1) := by decide +kernel
theorem dX6_chooseFirst_53 : decode cX6_chooseFirst 53 = .ok (.aload_n 0, 1) := by decide +kernel
theorem dX6_chooseFirst_54 : decode cX6_chooseFirst 54 = .ok (.getfield 15, 3) := by decide +kernel
theorem dX6_chooseFirst_57 : decode cX6_chooseFirst 57 = .ok (.iload_n 3, 1) := by decide +kernel
theorem dX6_chooseFirst_58 : decode cX6_chooseFirst 58 = .ok (.iaload, 1) := by decide +kernel
theorem dX6_chooseFirst_59 : decode cX6_chooseFirst 59 = .ok (.putfield 28, 3) := by decide +kernel
theorem dX6_chooseFirst_62 : decode cX6_chooseFirst 62 = .ok (.iinc 3 1, 3) := by decide +kernel
theorem dX6_chooseFirst_65 : decode cX6_chooseFirst 65 = .ok (.goto (-57), 3) := by decide +kernel
theorem dX6_chooseFirst_68 : decode cX6_chooseFirst 68 = .ok (.return_, 1) := by decide +kernel
theorem dX6_readTwos_0 : decode cX6_readTwos 0 = .ok (.iconst 0, 1) := by decide +kernel
theorem dX6_readTwos_1 : decode cX6_readTwos 1 = .ok (.istore 4, 2) := by decide +kernel
theorem dX6_readTwos_3 : decode cX6_readTwos 3 = .ok (.iload 4, 2) := by decide +kernel
theorem dX6_readTwos_5 : decode cX6_readTwos 5 = .ok (.bipush 10, 2) := by decide +kernel
theorem dX6_readTwos_7 : decode cX6_readTwos 7 = .ok (.if_icmp .ge 17, 3) := by decide +kernel
theorem dX6_readTwos_10 : decode cX6_readTwos 10 = .ok (.aload_n 0, 1) := by decide +kernel
theorem dX6_readTwos_11 : decode cX6_readTwos 11 = .ok (.getfield 21, 3) := by decide +kernel
theorem dX6_readTwos_14 : decode cX6_readTwos 14 = .ok (.iload 4, 2) := by decide +kernel
theorem dX6_readTwos_16 : decode cX6_readTwos 16 = .ok (.iconst 0, 1) := by decide +kernel
theorem dX6_readTwos_17 : decode cX6_readTwos 17 = .ok (.iastore, 1) := by decide +kernel
theorem dX6_readTwos_18 : decode cX6_readTwos 18 = .ok (.iinc 4 1, 3) := by decide +kernel
theorem dX6_readTwos_21 : decode cX6_readTwos 21 = .ok (.goto (-18), 3) := by decide +kernel
theorem dX6_readTwos_24 : decode cX6_readTwos 24 = .ok (.iconst 0, 1) := by decide +kernel
theorem dX6_readTwos_25 : decode cX6_readTwos 25 = .ok (.istore 4, 2) := by decide +kernel
theorem dX6_readTwos_27 : decode cX6_readTwos 27 = .ok (.iload 4, 2) := by decide +kernel
theorem dX6_readTwos_29 : decode cX6_readTwos 29 = .ok (.iload_n 3, 1) := by decide +kernel
theorem dX6_readTwos_30 : decode cX6_readTwos 30 = .ok (.if_icmp .ge 76, 3) := by decide +kernel
theorem dX6_readTwos_33 : decode cX6_readTwos 33 = .ok (.aload_n 1, 1) := by decide +kernel
theorem dX6_readTwos_34 : decode cX6_readTwos 34 = .ok (.iconst 2, 1) := by decide +kernel
theorem dX6_readTwos_35 : decode cX6_readTwos 35 = .ok (.iload 4, 2) := by decide +kernel
theorem dX6_readTwos_37 : decode cX6_readTwos 37 = .ok (.imul, 1) := by decide +kernel
theorem dX6_readTwos_38 : decode cX6_readTwos 38 = .ok (.invokevirtual 57, 3) := by decide +kernel
theorem dX6_readTwos_41 : decode cX6_readTwos 41 = .ok (.istore 5, 2) := by decide +kernel
theorem dX6_readTwos_43 : decode cX6_readTwos 43 = .ok (.aload_n 1, 1) := by decide +kernel
theorem dX6_readTwos_44 : decode cX6_readTwos 44 = .ok (.iconst 2, 1) := by decide +kernel
theorem dX6_readTwos_45 : decode cX6_readTwos 45 = .ok (.iload 4, 2) := by decide +kernel
theorem dX6_readTwos_47 : decode cX6_readTwos 47 = .ok (.imul, 1) := by decide +kernel
theorem dX6_readTwos_48 : decode cX6_readTwos 48 = .ok (.iconst 1, 1) := by decide +kernel
theorem dX6_readTwos_49 : decode cX6_readTwos 49 = .ok (.iadd, 1) := by decide +kernel
theorem dX6_readTwos_50 : decode cX6_readTwos 50 = .ok (.invokevirtual 57, 3) := by decide +kernel
theorem dX6_readTwos_53 : decode cX6_readTwos 53 = .ok (.istore 6, 2) := by decide +kernel
theorem dX6_readTwos_55 : decode cX6_readTwos 55 = .ok (.iload 5, 2) := by decide +kernel
theorem dX6_readTwos_57 : decode cX6_readTwos 57 = .ok (.ifCond .lt 27, 3) := by decide +kernel
theorem dX6_readTwos_60 : decode cX6_readTwos 60 = .ok (.iload 5, 2) := by decide +kernel
theorem dX6_readTwos_62 : decode cX6_readTwos 62 = .ok (.iload_n 2, 1) := by decide +kernel
theorem dX6_readTwos_63 : decode cX6_readTwos 63 = .ok (.if_icmp .ge 21, 3) := by decide +kernel
theorem dX6_readTwos_66 : decode cX6_readTwos 66 = .ok (.iload 6, 2) := by decide +kernel
theorem dX6_readTwos_68 : decode cX6_readTwos 68 = .ok (.ifCond .lt 16, 3) := by decide +kernel
theorem dX6_readTwos_71 : decode cX6_readTwos 71 = .ok (.iload 6, 2) := by decide +kernel
theorem dX6_readTwos_73 : decode cX6_readTwos 73 = .ok (.iload_n 2, 1) := by decide +kernel
theorem dX6_readTwos_74 : decode cX6_readTwos 74 = .ok (.if_icmp .ge 10, 3) := by decide +kernel
theorem dX6_readTwos_77 : decode cX6_readTwos 77 = .ok (.iload 5, 2) := by decide +kernel
theorem dX6_readTwos_79 : decode cX6_readTwos 79 = .ok (.iload 6, 2) := by decide +kernel
theorem dX6_readTwos_81 : decode cX6_readTwos 81 = .ok (.if_icmp .ne 5, 3) := by decide +kernel
theorem dX6_readTwos_84 : decode cX6_readTwos 84 = .ok (.iconst 0, 1) := by decide +kernel
theorem dX6_readTwos_85 : decode cX6_readTwos 85 = .ok (.ireturn, 1) := by decide +kernel
theorem dX6_readTwos_86 : decode cX6_readTwos 86 = .ok (.aload_n 0, 1) := by decide +kernel
theorem dX6_readTwos_87 : decode cX6_readTwos 87 = .ok (.getfield 21, 3) := by decide +kernel
theorem dX6_readTwos_90 : decode cX6_readTwos 90 = .ok (.iload 6, 2) := by decide +kernel
theorem dX6_readTwos_92 : decode cX6_readTwos 92 = .ok (.dup2, 1) := by decide +kernel
theorem dX6_readTwos_93 : decode cX6_readTwos 93 = .ok (.iaload, 1) := by decide +kernel
theorem dX6_readTwos_94 : decode cX6_readTwos 94 = .ok (.iconst 1, 1) := by decide +kernel
theorem dX6_readTwos_95 : decode cX6_readTwos 95 = .ok (.iload 5, 2) := by decide +kernel
theorem dX6_readTwos_97 : decode cX6_readTwos 97 = .ok (.ishl, 1) := by decide +kernel
theorem dX6_readTwos_98 : decode cX6_readTwos 98 = .ok (.ior, 1) := by decide +kernel
theorem dX6_readTwos_99 : decode cX6_readTwos 99 = .ok (.iastore, 1) := by decide +kernel
theorem dX6_readTwos_100 : decode cX6_readTwos 100 = .ok (.iinc 4 1, 3) := by decide +kernel
theorem dX6_readTwos_103 : decode cX6_readTwos 103 = .ok (.goto (-76), 3) := by decide +kernel
theorem dX6_readTwos_106 : decode cX6_readTwos 106 = .ok (.iconst 1, 1) := by decide +kernel
theorem dX6_readTwos_107 : decode cX6_readTwos 107 = .ok (.ireturn, 1) := by decide +kernel
theorem dX6_tellOrders_0 : decode cX6_tellOrders 0 = .ok (.iconst 1, 1) := by decide +kernel
theorem dX6_tellOrders_1 : decode cX6_tellOrders 1 = .ok (.iload_n 1, 1) := by decide +kernel
theorem dX6_tellOrders_2 : decode cX6_tellOrders 2 = .ok (.ishl, 1) := by decide +kernel
theorem dX6_tellOrders_3 : decode cX6_tellOrders 3 = .ok (.iconst 1, 1) := by decide +kernel
theorem dX6_tellOrders_4 : decode cX6_tellOrders 4 = .ok (.isub, 1) := by decide +kernel
theorem dX6_tellOrders_5 : decode cX6_tellOrders 5 = .ok (.istore_n 2, 1) := by decide +kernel
theorem dX6_tellOrders_6 : decode cX6_tellOrders 6 = .ok (.aload_n 0, 1) := by decide +kernel
theorem dX6_tellOrders_7 : decode cX6_tellOrders 7 = .ok (.getfield 11, 3) := by decide +kernel
theorem dX6_tellOrders_10 : decode cX6_tellOrders 10 = .ok (.iconst 0, 1) := by decide +kernel
theorem dX6_tellOrders_11 : decode cX6_tellOrders 11 = .ok (.iconst 1, 1) := by decide +kernel
theorem dX6_tellOrders_12 : decode cX6_tellOrders 12 = .ok (.iastore, 1) := by decide +kernel
theorem dX6_tellOrders_13 : decode cX6_tellOrders 13 = .ok (.iconst 1, 1) := by decide +kernel
theorem dX6_tellOrders_14 : decode cX6_tellOrders 14 = .ok (.istore_n 3, 1) := by decide +kernel
theorem dX6_tellOrders_15 : decode cX6_tellOrders 15 = .ok (.iload_n 3, 1) := by decide +kernel
theorem dX6_tellOrders_16 : decode cX6_tellOrders 16 = .ok (.iload_n 2, 1) := by decide +kernel
theorem dX6_tellOrders_17 : decode cX6_tellOrders 17 = .ok (.if_icmp .gt 78, 3) := by decide +kernel
theorem dX6_tellOrders_20 : decode cX6_tellOrders 20 = .ok (.iconst 0, 1) := by decide +kernel
theorem dX6_tellOrders_21 : decode cX6_tellOrders 21 = .ok (.istore 4, 2) := by decide +kernel
theorem dX6_tellOrders_23 : decode cX6_tellOrders 23 = .ok (.iconst 0, 1) := by decide +kernel
theorem dX6_tellOrders_24 : decode cX6_tellOrders 24 = .ok (.istore 5, 2) := by decide +kernel
theorem dX6_tellOrders_26 : decode cX6_tellOrders 26 = .ok (.iload 5, 2) := by decide +kernel
theorem dX6_tellOrders_28 : decode cX6_tellOrders 28 = .ok (.iload_n 1, 1) := by decide +kernel
theorem dX6_tellOrders_29 : decode cX6_tellOrders 29 = .ok (.if_icmp .ge 52, 3) := by decide +kernel
theorem dX6_tellOrders_32 : decode cX6_tellOrders 32 = .ok (.iload_n 3, 1) := by decide +kernel
theorem dX6_tellOrders_33 : decode cX6_tellOrders 33 = .ok (.iconst 1, 1) := by decide +kernel
theorem dX6_tellOrders_34 : decode cX6_tellOrders 34 = .ok (.iload 5, 2) := by decide +kernel
theorem dX6_tellOrders_36 : decode cX6_tellOrders 36 = .ok (.ishl, 1) := by decide +kernel
theorem dX6_tellOrders_37 : decode cX6_tellOrders 37 = .ok (.iconst (-1), 1) := by decide +kernel
theorem dX6_tellOrders_38 : decode cX6_tellOrders 38 = .ok (.ixor, 1) := by decide +kernel
theorem dX6_tellOrders_39 : decode cX6_tellOrders 39 = .ok (.iand, 1) := by decide +kernel
theorem dX6_tellOrders_40 : decode cX6_tellOrders 40 = .ok (.istore 6, 2) := by decide +kernel
theorem dX6_tellOrders_42 : decode cX6_tellOrders 42 = .ok (.iload 6, 2) := by decide +kernel
theorem dX6_tellOrders_44 : decode cX6_tellOrders 44 = .ok (.iload_n 3, 1) := by decide +kernel
theorem dX6_tellOrders_45 : decode cX6_tellOrders 45 = .ok (.if_icmp .eq 30, 3) := by decide +kernel
theorem dX6_tellOrders_48 : decode cX6_tellOrders 48 = .ok (.aload_n 0, 1) := by decide +kernel
theorem dX6_tellOrders_49 : decode cX6_tellOrders 49 = .ok (.getfield 21, 3) := by decide +kernel
theorem dX6_tellOrders_52 : decode cX6_tellOrders 52 = .ok (.iload 5, 2) := by decide +kernel
theorem dX6_tellOrders_54 : decode cX6_tellOrders 54 = .ok (.iaload, 1) := by decide +kernel
theorem dX6_tellOrders_55 : decode cX6_tellOrders 55 = .ok (.iload 6, 2) := by decide +kernel
theorem dX6_tellOrders_57 : decode cX6_tellOrders 57 = .ok (.iconst (-1), 1) := by decide +kernel
theorem dX6_tellOrders_58 : decode cX6_tellOrders 58 = .ok (.ixor, 1) := by decide +kernel
theorem dX6_tellOrders_59 : decode cX6_tellOrders 59 = .ok (.iand, 1) := by decide +kernel
theorem dX6_tellOrders_60 : decode cX6_tellOrders 60 = .ok (.ifCond .ne 15, 3) := by decide +kernel
theorem dX6_tellOrders_63 : decode cX6_tellOrders 63 = .ok (.iload 4, 2) := by decide +kernel
theorem dX6_tellOrders_65 : decode cX6_tellOrders 65 = .ok (.aload_n 0, 1) := by decide +kernel
theorem dX6_tellOrders_66 : decode cX6_tellOrders 66 = .ok (.getfield 11, 3) := by decide +kernel
theorem dX6_tellOrders_69 : decode cX6_tellOrders 69 = .ok (.iload 6, 2) := by decide +kernel
theorem dX6_tellOrders_71 : decode cX6_tellOrders 71 = .ok (.iaload, 1) := by decide +kernel
theorem dX6_tellOrders_72 : decode cX6_tellOrders 72 = .ok (.iadd, 1) := by decide +kernel
theorem dX6_tellOrders_73 : decode cX6_tellOrders 73 = .ok (.istore 4, 2) := by decide +kernel
theorem dX6_tellOrders_75 : decode cX6_tellOrders 75 = .ok (.iinc 5 1, 3) := by decide +kernel
theorem dX6_tellOrders_78 : decode cX6_tellOrders 78 = .ok (.goto (-52), 3) := by decide +kernel
theorem dX6_tellOrders_81 : decode cX6_tellOrders 81 = .ok (.aload_n 0, 1) := by decide +kernel
theorem dX6_tellOrders_82 : decode cX6_tellOrders 82 = .ok (.getfield 11, 3) := by decide +kernel
theorem dX6_tellOrders_85 : decode cX6_tellOrders 85 = .ok (.iload_n 3, 1) := by decide +kernel
theorem dX6_tellOrders_86 : decode cX6_tellOrders 86 = .ok (.iload 4, 2) := by decide +kernel
theorem dX6_tellOrders_88 : decode cX6_tellOrders 88 = .ok (.iastore, 1) := by decide +kernel
theorem dX6_tellOrders_89 : decode cX6_tellOrders 89 = .ok (.iinc 3 1, 3) := by decide +kernel
theorem dX6_tellOrders_92 : decode cX6_tellOrders 92 = .ok (.goto (-77), 3) := by decide +kernel
theorem dX6_tellOrders_95 : decode cX6_tellOrders 95 = .ok (.aload_n 0, 1) := by decide +kernel
theorem dX6_tellOrders_96 : decode cX6_tellOrders 96 = .ok (.getfield 11, 3) := by decide +kernel
theorem dX6_tellOrders_99 : decode cX6_tellOrders 99 = .ok (.iload_n 2, 1) := by decide +kernel
theorem dX6_tellOrders_100 : decode cX6_tellOrders 100 = .ok (.iaload, 1) := by decide +kernel
theorem dX6_tellOrders_101 : decode cX6_tellOrders 101 = .ok (.ireturn, 1) := by decide +kernel
theorem dX6_earliest_0 : decode cX6_earliest 0 = .ok (.iconst 1, 1) := by decide +kernel
theorem dX6_earliest_1 : decode cX6_earliest 1 = .ok (.iload_n 1, 1) := by decide +kernel
theorem dX6_earliest_2 : decode cX6_earliest 2 = .ok (.ishl, 1) := by decide +kernel
theorem dX6_earliest_3 : decode cX6_earliest 3 = .ok (.iconst 1, 1) := by decide +kernel
theorem dX6_earliest_4 : decode cX6_earliest 4 = .ok (.isub, 1) := by decide +kernel
theorem dX6_earliest_5 : decode cX6_earliest 5 = .ok (.istore_n 3, 1) := by decide +kernel
theorem dX6_earliest_6 : decode cX6_earliest 6 = .ok (.aload_n 0, 1) := by decide +kernel
theorem dX6_earliest_7 : decode cX6_earliest 7 = .ok (.getfield 11, 3) := by decide +kernel
theorem dX6_earliest_10 : decode cX6_earliest 10 = .ok (.iload_n 3, 1) := by decide +kernel
theorem dX6_earliest_11 : decode cX6_earliest 11 = .ok (.iaload, 1) := by decide +kernel
theorem dX6_earliest_12 : decode cX6_earliest 12 = .ok (.ifCond .ne 6, 3) := by decide +kernel
theorem dX6_earliest_15 : decode cX6_earliest 15 = .ok (.bipush (-2), 2) := by decide +kernel
theorem dX6_earliest_17 : decode cX6_earliest 17 = .ok (.ireturn, 1) := by decide +kernel
theorem dX6_earliest_18 : decode cX6_earliest 18 = .ok (.iload_n 1, 1) := by decide +kernel
theorem dX6_earliest_19 : decode cX6_earliest 19 = .ok (.istore 4, 2) := by decide +kernel
theorem dX6_earliest_21 : decode cX6_earliest 21 = .ok (.iconst 0, 1) := by decide +kernel
theorem dX6_earliest_22 : decode cX6_earliest 22 = .ok (.istore 5, 2) := by decide +kernel
theorem dX6_earliest_24 : decode cX6_earliest 24 = .ok (.iload 5, 2) := by decide +kernel
theorem dX6_earliest_26 : decode cX6_earliest 26 = .ok (.iload_n 3, 1) := by decide +kernel
theorem dX6_earliest_27 : decode cX6_earliest 27 = .ok (.if_icmp .gt 66, 3) := by decide +kernel
theorem dX6_earliest_30 : decode cX6_earliest 30 = .ok (.iload 5, 2) := by decide +kernel
theorem dX6_earliest_32 : decode cX6_earliest 32 = .ok (.iload_n 2, 1) := by decide +kernel
theorem dX6_earliest_33 : decode cX6_earliest 33 = .ok (.ishr, 1) := by decide +kernel
theorem dX6_earliest_34 : decode cX6_earliest 34 = .ok (.iconst 1, 1) := by decide +kernel
theorem dX6_earliest_35 : decode cX6_earliest 35 = .ok (.iand, 1) := by decide +kernel
theorem dX6_earliest_36 : decode cX6_earliest 36 = .ok (.ifCond .ne 21, 3) := by decide +kernel
theorem dX6_earliest_39 : decode cX6_earliest 39 = .ok (.aload_n 0, 1) := by decide +kernel
theorem dX6_earliest_40 : decode cX6_earliest 40 = .ok (.getfield 21, 3) := by decide +kernel
theorem dX6_earliest_43 : decode cX6_earliest 43 = .ok (.iload_n 2, 1) := by decide +kernel
theorem dX6_earliest_44 : decode cX6_earliest 44 = .ok (.iaload, 1) := by decide +kernel
theorem dX6_earliest_45 : decode cX6_earliest 45 = .ok (.iload 5, 2) := by decide +kernel
theorem dX6_earliest_47 : decode cX6_earliest 47 = .ok (.iconst (-1), 1) := by decide +kernel
theorem dX6_earliest_48 : decode cX6_earliest 48 = .ok (.ixor, 1) := by decide +kernel
theorem dX6_earliest_49 : decode cX6_earliest 49 = .ok (.iand, 1) := by decide +kernel
theorem dX6_earliest_50 : decode cX6_earliest 50 = .ok (.ifCond .ne 7, 3) := by decide +kernel
theorem dX6_earliest_53 : decode cX6_earliest 53 = .ok (.iconst 1, 1) := by decide +kernel
theorem dX6_earliest_54 : decode cX6_earliest 54 = .ok (.goto 4, 3) := by decide +kernel
theorem dX6_earliest_57 : decode cX6_earliest 57 = .ok (.iconst 0, 1) := by decide +kernel
theorem dX6_earliest_58 : decode cX6_earliest 58 = .ok (.istore 6, 2) := by decide +kernel
theorem dX6_earliest_60 : decode cX6_earliest 60 = .ok (.iload 6, 2) := by decide +kernel
theorem dX6_earliest_62 : decode cX6_earliest 62 = .ok (.ifCond .eq 25, 3) := by decide +kernel
theorem dX6_earliest_65 : decode cX6_earliest 65 = .ok (.aload_n 0, 1) := by decide +kernel
theorem dX6_earliest_66 : decode cX6_earliest 66 = .ok (.getfield 11, 3) := by decide +kernel
theorem dX6_earliest_69 : decode cX6_earliest 69 = .ok (.iload 5, 2) := by decide +kernel
theorem dX6_earliest_71 : decode cX6_earliest 71 = .ok (.iaload, 1) := by decide +kernel
theorem dX6_earliest_72 : decode cX6_earliest 72 = .ok (.ifCond .le 15, 3) := by decide +kernel
theorem dX6_earliest_75 : decode cX6_earliest 75 = .ok (.iload 4, 2) := by decide +kernel
theorem dX6_earliest_77 : decode cX6_earliest 77 = .ok (.iload 5, 2) := by decide +kernel
theorem dX6_earliest_79 : decode cX6_earliest 79 = .ok (.invokestatic 63, 3) := by decide +kernel
theorem dX6_earliest_82 : decode cX6_earliest 82 = .ok (.invokestatic 52, 3) := by decide +kernel
theorem dX6_earliest_85 : decode cX6_earliest 85 = .ok (.istore 4, 2) := by decide +kernel
theorem dX6_earliest_87 : decode cX6_earliest 87 = .ok (.iinc 5 1, 3) := by decide +kernel
theorem dX6_earliest_90 : decode cX6_earliest 90 = .ok (.goto (-66), 3) := by decide +kernel
theorem dX6_earliest_93 : decode cX6_earliest 93 = .ok (.iload 4, 2) := by decide +kernel
theorem dX6_earliest_95 : decode cX6_earliest 95 = .ok (.ireturn, 1) := by decide +kernel
theorem dX7_init_0 : decode cX7_init 0 = .ok (.aload_n 0, 1) := by decide +kernel
theorem dX7_init_1 : decode cX7_init 1 = .ok (.invokespecial 3, 3) := by decide +kernel
theorem dX7_init_4 : decode cX7_init 4 = .ok (.aload_n 0, 1) := by decide +kernel
theorem dX7_init_5 : decode cX7_init 5 = .ok (.bipush 16, 2) := by decide +kernel
theorem dX7_init_7 : decode cX7_init 7 = .ok (.newarray .int, 2) := by decide +kernel
theorem dX7_init_9 : decode cX7_init 9 = .ok (.putfield 9, 3) := by decide +kernel
theorem dX7_init_12 : decode cX7_init 12 = .ok (.aload_n 0, 1) := by decide +kernel
theorem dX7_init_13 : decode cX7_init 13 = .ok (.sipush 128, 3) := by decide +kernel
theorem dX7_init_16 : decode cX7_init 16 = .ok (.newarray .int, 2) := by decide +kernel
theorem dX7_init_18 : decode cX7_init 18 = .ok (.putfield 15, 3) := by decide +kernel
theorem dX7_init_21 : decode cX7_init 21 = .ok (.aload_n 0, 1) := by decide +kernel
theorem dX7_init_22 : decode cX7_init 22 = .ok (.iconst 0, 1) := by decide +kernel
theorem dX7_init_23 : decode cX7_init 23 = .ok (.putfield 18, 3) := by decide +kernel
theorem dX7_init_26 : decode cX7_init 26 = .ok (.return_, 1) := by decide +kernel
theorem dX7_read_0 : decode cX7_read 0 = .ok (.iconst 0, 1) := by decide +kernel
theorem dX7_read_1 : decode cX7_read 1 = .ok (.istore_n 3, 1) := by decide +kernel
theorem dX7_read_2 : decode cX7_read 2 = .ok (.iload_n 3, 1) := by decide +kernel
theorem dX7_read_3 : decode cX7_read 3 = .ok (.aload_n 0, 1) := by decide +kernel
theorem dX7_read_4 : decode cX7_read 4 = .ok (.getfield 15, 3) := by decide +kernel
theorem dX7_read_7 : decode cX7_read 7 = .ok (.arraylength, 1) := by decide +kernel
theorem dX7_read_8 : decode cX7_read 8 = .ok (.if_icmp .ge 16, 3) := by decide +kernel
theorem dX7_read_11 : decode cX7_read 11 = .ok (.aload_n 0, 1) := by decide +kernel
theorem dX7_read_12 : decode cX7_read 12 = .ok (.getfield 15, 3) := by decide +kernel
theorem dX7_read_15 : decode cX7_read 15 = .ok (.iload_n 3, 1) := by decide +kernel
theorem dX7_read_16 : decode cX7_read 16 = .ok (.iconst 0, 1) := by decide +kernel
theorem dX7_read_17 : decode cX7_read 17 = .ok (.iastore, 1) := by decide +kernel
theorem dX7_read_18 : decode cX7_read 18 = .ok (.iinc 3 1, 3) := by decide +kernel
theorem dX7_read_21 : decode cX7_read 21 = .ok (.goto (-19), 3) := by decide +kernel
theorem dX7_read_24 : decode cX7_read 24 = .ok (.aload_n 0, 1) := by decide +kernel
theorem dX7_read_25 : decode cX7_read 25 = .ok (.iconst 0, 1) := by decide +kernel
theorem dX7_read_26 : decode cX7_read 26 = .ok (.putfield 18, 3) := by decide +kernel
theorem dX7_read_29 : decode cX7_read 29 = .ok (.iconst 0, 1) := by decide +kernel
theorem dX7_read_30 : decode cX7_read 30 = .ok (.istore_n 3, 1) := by decide +kernel
theorem dX7_read_31 : decode cX7_read 31 = .ok (.iconst 0, 1) := by decide +kernel
theorem dX7_read_32 : decode cX7_read 32 = .ok (.istore 4, 2) := by decide +kernel
theorem dX7_read_34 : decode cX7_read 34 = .ok (.iload 4, 2) := by decide +kernel
theorem dX7_read_36 : decode cX7_read 36 = .ok (.iload_n 2, 1) := by decide +kernel
theorem dX7_read_37 : decode cX7_read 37 = .ok (.if_icmp .ge 123, 3) := by decide +kernel
theorem dX7_read_40 : decode cX7_read 40 = .ok (.aload_n 1, 1) := by decide +kernel
theorem dX7_read_41 : decode cX7_read 41 = .ok (.iload 4, 2) := by decide +kernel
theorem dX7_read_43 : decode cX7_read 43 = .ok (.invokevirtual 22, 3) := by decide +kernel
theorem dX7_read_46 : decode cX7_read 46 = .ok (.istore 5, 2) := by decide +kernel
theorem dX7_read_48 : decode cX7_read 48 = .ok (.iload 5, 2) := by decide +kernel
theorem dX7_read_50 : decode cX7_read 50 = .ok (.sipush 255, 3) := by decide +kernel
theorem dX7_read_53 : decode cX7_read 53 = .ok (.if_icmp .ne 7, 3) := by decide +kernel
theorem dX7_read_56 : decode cX7_read 56 = .ok (.iconst 1, 1) := by decide +kernel
theorem dX7_read_57 : decode cX7_read 57 = .ok (.goto 4, 3) := by decide +kernel
theorem dX7_read_60 : decode cX7_read 60 = .ok (.iconst 0, 1) := by decide +kernel
theorem dX7_read_61 : decode cX7_read 61 = .ok (.istore 6, 2) := by decide +kernel
theorem dX7_read_63 : decode cX7_read 63 = .ok (.iload 5, 2) := by decide +kernel
theorem dX7_read_65 : decode cX7_read 65 = .ok (.ifCond .lt 14, 3) := by decide +kernel
theorem dX7_read_68 : decode cX7_read 68 = .ok (.iload 5, 2) := by decide +kernel
theorem dX7_read_70 : decode cX7_read 70 = .ok (.bipush 16, 2) := by decide +kernel
theorem dX7_read_72 : decode cX7_read 72 = .ok (.if_icmp .ge 7, 3) := by decide +kernel
theorem dX7_read_75 : decode cX7_read 75 = .ok (.iconst 1, 1) := by decide +kernel
theorem dX7_read_76 : decode cX7_read 76 = .ok (.goto 4, 3) := by decide +kernel
theorem dX7_read_79 : decode cX7_read 79 = .ok (.iconst 0, 1) := by decide +kernel
theorem dX7_read_80 : decode cX7_read 80 = .ok (.istore 7, 2) := by decide +kernel
theorem dX7_read_82 : decode cX7_read 82 = .ok (.aload_n 0, 1) := by decide +kernel
theorem dX7_read_83 : decode cX7_read 83 = .ok (.getfield 18, 3) := by decide +kernel
theorem dX7_read_86 : decode cX7_read 86 = .ok (.bipush 8, 2) := by decide +kernel
theorem dX7_read_88 : decode cX7_read 88 = .ok (.if_icmp .ge 22, 3) := by decide +kernel
theorem dX7_read_91 : decode cX7_read 91 = .ok (.iload 6, 2) := by decide +kernel
theorem dX7_read_93 : decode cX7_read 93 = .ok (.ifCond .eq 7, 3) := by decide +kernel
theorem dX7_read_96 : decode cX7_read 96 = .ok (.iload_n 3, 1) := by decide +kernel
theorem dX7_read_97 : decode cX7_read 97 = .ok (.ifCond .eq 13, 3) := by decide +kernel
theorem dX7_read_100 : decode cX7_read 100 = .ok (.iload 6, 2) := by decide +kernel
theorem dX7_read_102 : decode cX7_read 102 = .ok (.ifCond .ne 10, 3) := by decide +kernel
theorem dX7_read_105 : decode cX7_read 105 = .ok (.iload 7, 2) := by decide +kernel
theorem dX7_read_107 : decode cX7_read 107 = .ok (.ifCond .ne 5, 3) := by decide +kernel
theorem dX7_read_110 : decode cX7_read 110 = .ok (.iconst 0, 1) := by decide +kernel
theorem dX7_read_111 : decode cX7_read 111 = .ok (.ireturn, 1) := by decide +kernel
theorem dX7_read_112 : decode cX7_read 112 = .ok (.iload 6, 2) := by decide +kernel
theorem dX7_read_114 : decode cX7_read 114 = .ok (.ifCond .eq 18, 3) := by decide +kernel
theorem dX7_read_117 : decode cX7_read 117 = .ok (.aload_n 0, 1) := by decide +kernel
theorem dX7_read_118 : decode cX7_read 118 = .ok (.dup, 1) := by decide +kernel
theorem dX7_read_119 : decode cX7_read 119 = .ok (.getfield 18, 3) := by decide +kernel
theorem dX7_read_122 : decode cX7_read 122 = .ok (.iconst 1, 1) := by decide +kernel
theorem dX7_read_123 : decode cX7_read 123 = .ok (.iadd, 1) := by decide +kernel
theorem dX7_read_124 : decode cX7_read 124 = .ok (.putfield 18, 3) := by decide +kernel
theorem dX7_read_127 : decode cX7_read 127 = .ok (.iconst 0, 1) := by decide +kernel
theorem dX7_read_128 : decode cX7_read 128 = .ok (.istore_n 3, 1) := by decide +kernel
theorem dX7_read_129 : decode cX7_read 129 = .ok (.goto 25, 3) := by decide +kernel
theorem dX7_read_132 : decode cX7_read 132 = .ok (.aload_n 0, 1) := by decide +kernel
theorem dX7_read_133 : decode cX7_read 133 = .ok (.getfield 15, 3) := by decide +kernel
theorem dX7_read_136 : decode cX7_read 136 = .ok (.bipush 16, 2) := by decide +kernel
theorem dX7_read_138 : decode cX7_read 138 = .ok (.aload_n 0, 1) := by decide +kernel
theorem dX7_read_139 : decode cX7_read 139 = .ok (.getfield 18, 3) := by decide +kernel
theorem dX7_read_142 : decode cX7_read 142 = .ok (.imul, 1) := by decide +kernel
theorem dX7_read_143 : decode cX7_read 143 = .ok (.iload 5, 2) := by decide +kernel
theorem dX7_read_145 : decode cX7_read 145 = .ok (.iadd, 1) := by decide +kernel
theorem dX7_read_146 : decode cX7_read 146 = .ok (.dup2, 1) := by decide +kernel
theorem dX7_read_147 : decode cX7_read 147 = .ok (.iaload, 1) := by decide +kernel
theorem dX7_read_148 : decode cX7_read 148 = .ok (.iconst 1, 1) := by decide +kernel
theorem dX7_read_149 : decode cX7_read 149 = .ok (.iadd, 1) := by decide +kernel
theorem dX7_read_150 : decode cX7_read 150 = .ok (.iastore, 1) := by decide +kernel
theorem dX7_read_151 : decode cX7_read 151 = .ok (.iinc 3 1, 3) := by decide +kernel
theorem dX7_read_154 : decode cX7_read 154 = .ok (.iinc 4 1, 3) := by decide +kernel
theorem dX7_read_157 : decode cX7_read 157 = .ok (.goto (-123), 3) := by decide +kernel
theorem dX7_read_160 : decode cX7_read 160 = .ok (.iload_n 3, 1) := by decide +kernel
theorem dX7_read_161 : decode cX7_read 161 = .ok (.ifCond .ne 7, 3) := by decide +kernel
theorem dX7_read_164 : decode cX7_read 164 = .ok (.iconst 1, 1) := by decide +kernel
theorem dX7_read_165 : decode cX7_read 165 = .ok (.goto 4, 3) := by decide +kernel
theorem dX7_read_168 : decode cX7_read 168 = .ok (.iconst 0, 1) := by decide +kernel
theorem dX7_read_169 : decode cX7_read 169 = .ok (.ireturn, 1) := by decide +kernel
theorem dX7_stock_0 : decode cX7_stock 0 = .ok (.iconst 0, 1) := by decide +kernel
theorem dX7_stock_1 : decode cX7_stock 1 = .ok (.istore_n 3, 1) := by decide +kernel
theorem dX7_stock_2 : decode cX7_stock 2 = .ok (.iload_n 3, 1) := by decide +kernel
theorem dX7_stock_3 : decode cX7_stock 3 = .ok (.bipush 16, 2) := by decide +kernel
theorem dX7_stock_5 : decode cX7_stock 5 = .ok (.if_icmp .ge 64, 3) := by decide +kernel
theorem dX7_stock_8 : decode cX7_stock 8 = .ok (.aload_n 0, 1) := by decide +kernel
theorem dX7_stock_9 : decode cX7_stock 9 = .ok (.getfield 9, 3) := by decide +kernel
theorem dX7_stock_12 : decode cX7_stock 12 = .ok (.iload_n 3, 1) := by decide +kernel
theorem dX7_stock_13 : decode cX7_stock 13 = .ok (.iconst 0, 1) := by decide +kernel
theorem dX7_stock_14 : decode cX7_stock 14 = .ok (.iastore, 1) := by decide +kernel
theorem dX7_stock_15 : decode cX7_stock 15 = .ok (.iconst 0, 1) := by decide +kernel
theorem dX7_stock_16 : decode cX7_stock 16 = .ok (.istore 4, 2) := by decide +kernel
theorem dX7_stock_18 : decode cX7_stock 18 = .ok (.iload 4, 2) := by decide +kernel
theorem dX7_stock_20 : decode cX7_stock 20 = .ok (.aload_n 1, 1) := by decide +kernel
theorem dX7_stock_21 : decode cX7_stock 21 = .ok (.getfield 28, 3) := by decide +kernel
theorem dX7_stock_24 : decode cX7_stock 24 = .ok (.if_icmp .ge 39, 3) := by decide +kernel
theorem dX7_stock_27 : decode cX7_stock 27 = .ok (.aload_n 2, 1) := by decide +kernel
theorem dX7_stock_28 : decode cX7_stock 28 = .ok (.getfield 31, 3) := by decide +kernel
theorem dX7_stock_31 : decode cX7_stock 31 = .ok (.iload 4, 2) := by decide +kernel
theorem dX7_stock_33 : decode cX7_stock 33 = .ok (.iaload, 1) := by decide +kernel
theorem dX7_stock_34 : decode cX7_stock 34 = .ok (.iconst 2, 1) := by decide +kernel
theorem dX7_stock_35 : decode cX7_stock 35 = .ok (.if_icmp .ne 22, 3) := by decide +kernel
theorem dX7_stock_38 : decode cX7_stock 38 = .ok (.aload_n 0, 1) := by decide +kernel
theorem dX7_stock_39 : decode cX7_stock 39 = .ok (.getfield 9, 3) := by decide +kernel
theorem dX7_stock_42 : decode cX7_stock 42 = .ok (.iload_n 3, 1) := by decide +kernel
theorem dX7_stock_43 : decode cX7_stock 43 = .ok (.dup2, 1) := by decide +kernel
theorem dX7_stock_44 : decode cX7_stock 44 = .ok (.iaload, 1) := by decide +kernel
theorem dX7_stock_45 : decode cX7_stock 45 = .ok (.aload_n 1, 1) := by decide +kernel
theorem dX7_stock_46 : decode cX7_stock 46 = .ok (.iload 4, 2) := by decide +kernel
theorem dX7_stock_48 : decode cX7_stock 48 = .ok (.invokevirtual 36, 3) := by decide +kernel
theorem dX7_stock_51 : decode cX7_stock 51 = .ok (.iload_n 3, 1) := by decide +kernel
theorem dX7_stock_52 : decode cX7_stock 52 = .ok (.ishr, 1) := by decide +kernel
theorem dX7_stock_53 : decode cX7_stock 53 = .ok (.iconst 1, 1) := by decide +kernel
theorem dX7_stock_54 : decode cX7_stock 54 = .ok (.iand, 1) := by decide +kernel
theorem dX7_stock_55 : decode cX7_stock 55 = .ok (.iadd, 1) := by decide +kernel
theorem dX7_stock_56 : decode cX7_stock 56 = .ok (.iastore, 1) := by decide +kernel
theorem dX7_stock_57 : decode cX7_stock 57 = .ok (.iinc 4 1, 3) := by decide +kernel
theorem dX7_stock_60 : decode cX7_stock 60 = .ok (.goto (-42), 3) := by decide +kernel
theorem dX7_stock_63 : decode cX7_stock 63 = .ok (.iinc 3 1, 3) := by decide +kernel
theorem dX7_stock_66 : decode cX7_stock 66 = .ok (.goto (-64), 3) := by decide +kernel
theorem dX7_stock_69 : decode cX7_stock 69 = .ok (.return_, 1) := by decide +kernel
theorem dX7_mostAtOnce_0 : decode cX7_mostAtOnce 0 = .ok (.iconst 0, 1) := by decide +kernel
theorem dX7_mostAtOnce_1 : decode cX7_mostAtOnce 1 = .ok (.istore_n 1, 1) := by decide +kernel
theorem dX7_mostAtOnce_2 : decode cX7_mostAtOnce 2 = .ok (.iconst 1, 1) := by decide +kernel
theorem dX7_mostAtOnce_3 : decode cX7_mostAtOnce 3 = .ok (.istore_n 2, 1) := by decide +kernel
theorem dX7_mostAtOnce_4 : decode cX7_mostAtOnce 4 = .ok (.iload_n 2, 1) := by decide +kernel
theorem dX7_mostAtOnce_5 : decode cX7_mostAtOnce 5 = .ok (.iconst 1, 1) := by decide +kernel
theorem dX7_mostAtOnce_6 : decode cX7_mostAtOnce 6 = .ok (.aload_n 0, 1) := by decide +kernel
theorem dX7_mostAtOnce_7 : decode cX7_mostAtOnce 7 = .ok (.getfield 18, 3) := by decide +kernel
theorem dX7_mostAtOnce_10 : decode cX7_mostAtOnce 10 = .ok (.ishl, 1) := by decide +kernel
theorem dX7_mostAtOnce_11 : decode cX7_mostAtOnce 11 = .ok (.if_icmp .ge 30, 3) := by decide +kernel
theorem dX7_mostAtOnce_14 : decode cX7_mostAtOnce 14 = .ok (.iload_n 2, 1) := by decide +kernel
theorem dX7_mostAtOnce_15 : decode cX7_mostAtOnce 15 = .ok (.invokestatic 39, 3) := by decide +kernel
theorem dX7_mostAtOnce_18 : decode cX7_mostAtOnce 18 = .ok (.iload_n 1, 1) := by decide +kernel
theorem dX7_mostAtOnce_19 : decode cX7_mostAtOnce 19 = .ok (.invokestatic 39, 3) := by decide +kernel
theorem dX7_mostAtOnce_22 : decode cX7_mostAtOnce 22 = .ok (.if_icmp .le 13, 3) := by decide +kernel
theorem dX7_mostAtOnce_25 : decode cX7_mostAtOnce 25 = .ok (.aload_n 0, 1) := by decide +kernel
theorem dX7_mostAtOnce_26 : decode cX7_mostAtOnce 26 = .ok (.iload_n 2, 1) := by decide +kernel
theorem dX7_mostAtOnce_27 : decode cX7_mostAtOnce 27 = .ok (.invokevirtual 44, 3) := by decide +kernel
theorem dX7_mostAtOnce_30 : decode cX7_mostAtOnce 30 = .ok (.ifCond .eq 5, 3) := by decide +kernel
theorem dX7_mostAtOnce_33 : decode cX7_mostAtOnce 33 = .ok (.iload_n 2, 1) := by decide +kernel
theorem dX7_mostAtOnce_34 : decode cX7_mostAtOnce 34 = .ok (.istore_n 1, 1) := by decide +kernel
theorem dX7_mostAtOnce_35 : decode cX7_mostAtOnce 35 = .ok (.iinc 2 1, 3) := by decide +kernel
theorem dX7_mostAtOnce_38 : decode cX7_mostAtOnce 38 = .ok (.goto (-34), 3) := by decide +kernel
theorem dX7_mostAtOnce_41 : decode cX7_mostAtOnce 41 = .ok (.iload_n 1, 1) := by decide +kernel
theorem dX7_mostAtOnce_42 : decode cX7_mostAtOnce 42 = .ok (.ireturn, 1) := by decide +kernel
theorem dX7_canSpell_0 : decode cX7_canSpell 0 = .ok (.iconst 0, 1) := by decide +kernel
theorem dX7_canSpell_1 : decode cX7_canSpell 1 = .ok (.istore_n 2, 1) := by decide +kernel
theorem dX7_canSpell_2 : decode cX7_canSpell 2 = .ok (.iload_n 2, 1) := by decide +kernel
theorem dX7_canSpell_3 : decode cX7_canSpell 3 = .ok (.bipush 16, 2) := by decide +kernel
theorem dX7_canSpell_5 : decode cX7_canSpell 5 = .ok (.if_icmp .ge 62, 3) := by decide +kernel
theorem dX7_canSpell_8 : decode cX7_canSpell 8 = .ok (.aload_n 0, 1) := by decide +kernel
theorem dX7_canSpell_9 : decode cX7_canSpell 9 = .ok (.getfield 9, 3) := by decide +kernel
theorem dX7_canSpell_12 : decode cX7_canSpell 12 = .ok (.iload_n 2, 1) := by decide +kernel
theorem dX7_canSpell_13 : decode cX7_canSpell 13 = .ok (.iaload, 1) := by decide +kernel
theorem dX7_canSpell_14 : decode cX7_canSpell 14 = .ok (.istore_n 3, 1) := by decide +kernel
theorem dX7_canSpell_15 : decode cX7_canSpell 15 = .ok (.iconst 0, 1) := by decide +kernel
theorem dX7_canSpell_16 : decode cX7_canSpell 16 = .ok (.istore 4, 2) := by decide +kernel
theorem dX7_canSpell_18 : decode cX7_canSpell 18 = .ok (.iload 4, 2) := by decide +kernel
theorem dX7_canSpell_20 : decode cX7_canSpell 20 = .ok (.aload_n 0, 1) := by decide +kernel
theorem dX7_canSpell_21 : decode cX7_canSpell 21 = .ok (.getfield 18, 3) := by decide +kernel
theorem dX7_canSpell_24 : decode cX7_canSpell 24 = .ok (.if_icmp .ge 31, 3) := by decide +kernel
theorem dX7_canSpell_27 : decode cX7_canSpell 27 = .ok (.iload_n 3, 1) := by decide +kernel
theorem dX7_canSpell_28 : decode cX7_canSpell 28 = .ok (.iload_n 1, 1) := by decide +kernel
theorem dX7_canSpell_29 : decode cX7_canSpell 29 = .ok (.iload 4, 2) := by decide +kernel
theorem dX7_canSpell_31 : decode cX7_canSpell 31 = .ok (.ishr, 1) := by decide +kernel
theorem dX7_canSpell_32 : decode cX7_canSpell 32 = .ok (.iconst 1, 1) := by decide +kernel
theorem dX7_canSpell_33 : decode cX7_canSpell 33 = .ok (.iand, 1) := by decide +kernel
theorem dX7_canSpell_34 : decode cX7_canSpell 34 = .ok (.aload_n 0, 1) := by decide +kernel
theorem dX7_canSpell_35 : decode cX7_canSpell 35 = .ok (.getfield 15, 3) := by decide +kernel
theorem dX7_canSpell_38 : decode cX7_canSpell 38 = .ok (.bipush 16, 2) := by decide +kernel
theorem dX7_canSpell_40 : decode cX7_canSpell 40 = .ok (.iload 4, 2) := by decide +kernel
theorem dX7_canSpell_42 : decode cX7_canSpell 42 = .ok (.imul, 1) := by decide +kernel
theorem dX7_canSpell_43 : decode cX7_canSpell 43 = .ok (.iload_n 2, 1) := by decide +kernel
theorem dX7_canSpell_44 : decode cX7_canSpell 44 = .ok (.iadd, 1) := by decide +kernel
theorem dX7_canSpell_45 : decode cX7_canSpell 45 = .ok (.iaload, 1) := by decide +kernel
theorem dX7_canSpell_46 : decode cX7_canSpell 46 = .ok (.imul, 1) := by decide +kernel
theorem dX7_canSpell_47 : decode cX7_canSpell 47 = .ok (.isub, 1) := by decide +kernel
theorem dX7_canSpell_48 : decode cX7_canSpell 48 = .ok (.istore_n 3, 1) := by decide +kernel
theorem dX7_canSpell_49 : decode cX7_canSpell 49 = .ok (.iinc 4 1, 3) := by decide +kernel
theorem dX7_canSpell_52 : decode cX7_canSpell 52 = .ok (.goto (-34), 3) := by decide +kernel
theorem dX7_canSpell_55 : decode cX7_canSpell 55 = .ok (.iload_n 3, 1) := by decide +kernel
theorem dX7_canSpell_56 : decode cX7_canSpell 56 = .ok (.ifCond .ge 5, 3) := by decide +kernel
theorem dX7_canSpell_59 : decode cX7_canSpell 59 = .ok (.iconst 0, 1) := by decide +kernel
theorem dX7_canSpell_60 : decode cX7_canSpell 60 = .ok (.ireturn, 1) := by decide +kernel
theorem dX7_canSpell_61 : decode cX7_canSpell 61 = .ok (.iinc 2 1, 3) := by decide +kernel
theorem dX7_canSpell_64 : decode cX7_canSpell 64 = .ok (.goto (-62), 3) := by decide +kernel
theorem dX7_canSpell_67 : decode cX7_canSpell 67 = .ok (.iconst 1, 1) := by decide +kernel
theorem dX7_canSpell_68 : decode cX7_canSpell 68 = .ok (.ireturn, 1) := by decide +kernel
theorem dX8_init_0 : decode cX8_init 0 = .ok (.aload_n 0, 1) := by decide +kernel
theorem dX8_init_1 : decode cX8_init 1 = .ok (.invokespecial 3, 3) := by decide +kernel
theorem dX8_init_4 : decode cX8_init 4 = .ok (.aload_n 0, 1) := by decide +kernel
theorem dX8_init_5 : decode cX8_init 5 = .ok (.bipush 16, 2) := by decide +kernel
theorem dX8_init_7 : decode cX8_init 7 = .ok (.newarray .int, 2) := by decide +kernel
theorem dX8_init_9 : decode cX8_init 9 = .ok (.putfield 9, 3) := by decide +kernel
theorem dX8_init_12 : decode cX8_init 12 = .ok (.aload_n 0, 1) := by decide +kernel
theorem dX8_init_13 : decode cX8_init 13 = .ok (.bipush 16, 2) := by decide +kernel
theorem dX8_init_15 : decode cX8_init 15 = .ok (.newarray .int, 2) := by decide +kernel
theorem dX8_init_17 : decode cX8_init 17 = .ok (.putfield 15, 3) := by decide +kernel
theorem dX8_init_20 : decode cX8_init 20 = .ok (.aload_n 0, 1) := by decide +kernel
theorem dX8_init_21 : decode cX8_init 21 = .ok (.bipush 16, 2) := by decide +kernel
theorem dX8_init_23 : decode cX8_init 23 = .ok (.newarray .int, 2) := by decide +kernel
theorem dX8_init_25 : decode cX8_init 25 = .ok (.putfield 18, 3) := by decide +kernel
theorem dX8_init_28 : decode cX8_init 28 = .ok (.aload_n 0, 1) := by decide +kernel
theorem dX8_init_29 : decode cX8_init 29 = .ok (.bipush 16, 2) := by decide +kernel
theorem dX8_init_31 : decode cX8_init 31 = .ok (.newarray .int, 2) := by decide +kernel
theorem dX8_init_33 : decode cX8_init 33 = .ok (.putfield 21, 3) := by decide +kernel
theorem dX8_init_36 : decode cX8_init 36 = .ok (.aload_n 0, 1) := by decide +kernel
theorem dX8_init_37 : decode cX8_init 37 = .ok (.bipush 16, 2) := by decide +kernel
theorem dX8_init_39 : decode cX8_init 39 = .ok (.newarray .int, 2) := by decide +kernel
theorem dX8_init_41 : decode cX8_init 41 = .ok (.putfield 24, 3) := by decide +kernel
theorem dX8_init_44 : decode cX8_init 44 = .ok (.aload_n 0, 1) := by decide +kernel
theorem dX8_init_45 : decode cX8_init 45 = .ok (.iconst 0, 1) := by decide +kernel
theorem dX8_init_46 : decode cX8_init 46 = .ok (.putfield 27, 3) := by decide +kernel
theorem dX8_init_49 : decode cX8_init 49 = .ok (.aload_n 0, 1) := by decide +kernel
theorem dX8_init_50 : decode cX8_init 50 = .ok (.iconst 1, 1) := by decide +kernel
theorem dX8_init_51 : decode cX8_init 51 = .ok (.putfield 31, 3) := by decide +kernel
theorem dX8_init_54 : decode cX8_init 54 = .ok (.return_, 1) := by decide +kernel
theorem dX8_begin_0 : decode cX8_begin 0 = .ok (.iconst 0, 1) := by decide +kernel
theorem dX8_begin_1 : decode cX8_begin 1 = .ok (.istore_n 2, 1) := by decide +kernel
theorem dX8_begin_2 : decode cX8_begin 2 = .ok (.iload_n 2, 1) := by decide +kernel
theorem dX8_begin_3 : decode cX8_begin 3 = .ok (.aload_n 1, 1) := by decide +kernel
theorem dX8_begin_4 : decode cX8_begin 4 = .ok (.getfield 34, 3) := by decide +kernel
theorem dX8_begin_7 : decode cX8_begin 7 = .ok (.if_icmp .ge 50, 3) := by decide +kernel
theorem dX8_begin_10 : decode cX8_begin 10 = .ok (.aload_n 0, 1) := by decide +kernel
theorem dX8_begin_11 : decode cX8_begin 11 = .ok (.getfield 9, 3) := by decide +kernel
theorem dX8_begin_14 : decode cX8_begin 14 = .ok (.iload_n 2, 1) := by decide +kernel
theorem dX8_begin_15 : decode cX8_begin 15 = .ok (.iconst 0, 1) := by decide +kernel
theorem dX8_begin_16 : decode cX8_begin 16 = .ok (.iastore, 1) := by decide +kernel
theorem dX8_begin_17 : decode cX8_begin 17 = .ok (.aload_n 0, 1) := by decide +kernel
theorem dX8_begin_18 : decode cX8_begin 18 = .ok (.getfield 15, 3) := by decide +kernel
theorem dX8_begin_21 : decode cX8_begin 21 = .ok (.iload_n 2, 1) := by decide +kernel
theorem dX8_begin_22 : decode cX8_begin 22 = .ok (.aload_n 1, 1) := by decide +kernel
theorem dX8_begin_23 : decode cX8_begin 23 = .ok (.getfield 39, 3) := by decide +kernel
theorem dX8_begin_26 : decode cX8_begin 26 = .ok (.iload_n 2, 1) := by decide +kernel
theorem dX8_begin_27 : decode cX8_begin 27 = .ok (.iaload, 1) := by decide +kernel
theorem dX8_begin_28 : decode cX8_begin 28 = .ok (.iastore, 1) := by decide +kernel
theorem dX8_begin_29 : decode cX8_begin 29 = .ok (.aload_n 0, 1) := by decide +kernel
theorem dX8_begin_30 : decode cX8_begin 30 = .ok (.getfield 18, 3) := by decide +kernel
theorem dX8_begin_33 : decode cX8_begin 33 = .ok (.iload_n 2, 1) := by decide +kernel
theorem dX8_begin_34 : decode cX8_begin 34 = .ok (.bipush 99, 2) := by decide +kernel
theorem dX8_begin_36 : decode cX8_begin 36 = .ok (.iastore, 1) := by decide +kernel
theorem dX8_begin_37 : decode cX8_begin 37 = .ok (.aload_n 0, 1) := by decide +kernel
theorem dX8_begin_38 : decode cX8_begin 38 = .ok (.getfield 21, 3) := by decide +kernel
theorem dX8_begin_41 : decode cX8_begin 41 = .ok (.iload_n 2, 1) := by decide +kernel
theorem dX8_begin_42 : decode cX8_begin 42 = .ok (.iconst 0, 1) := by decide +kernel
theorem dX8_begin_43 : decode cX8_begin 43 = .ok (.iastore, 1) := by decide +kernel
theorem dX8_begin_44 : decode cX8_begin 44 = .ok (.aload_n 0, 1) := by decide +kernel
theorem dX8_begin_45 : decode cX8_begin 45 = .ok (.getfield 24, 3) := by decide +kernel
theorem dX8_begin_48 : decode cX8_begin 48 = .ok (.iload_n 2, 1) := by decide +kernel
theorem dX8_begin_49 : decode cX8_begin 49 = .ok (.iconst 0, 1) := by decide +kernel
theorem dX8_begin_50 : decode cX8_begin 50 = .ok (.iastore, 1) := by decide +kernel
theorem dX8_begin_51 : decode cX8_begin 51 = .ok (.iinc 2 1, 3) := by decide +kernel
theorem dX8_begin_54 : decode cX8_begin 54 = .ok (.goto (-52), 3) := by decide +kernel
theorem dX8_begin_57 : decode cX8_begin 57 = .ok (.return_, 1) := by decide +kernel
theorem dX8_copyOf_0 : decode cX8_copyOf 0 = .ok (.iconst 0, 1) := by decide +kernel
theorem dX8_copyOf_1 : decode cX8_copyOf 1 = .ok (.iload_n 2, 1) := by decide +kernel
theorem dX8_copyOf_2 : decode cX8_copyOf 2 = .ok (.bipush 16, 2) := by decide +kernel
theorem dX8_copyOf_4 : decode cX8_copyOf 4 = .ok (.invokestatic 42, 3) := by decide +kernel
theorem dX8_copyOf_7 : decode cX8_copyOf 7 = .ok (.invokestatic 48, 3) := by decide +kernel
theorem dX8_copyOf_10 : decode cX8_copyOf 10 = .ok (.istore_n 3, 1) := by decide +kernel
theorem dX8_copyOf_11 : decode cX8_copyOf 11 = .ok (.aload_n 1, 1) := by decide +kernel
theorem dX8_copyOf_12 : decode cX8_copyOf 12 = .ok (.getfield 9, 3) := by decide +kernel
theorem dX8_copyOf_15 : decode cX8_copyOf 15 = .ok (.iconst 0, 1) := by decide +kernel
theorem dX8_copyOf_16 : decode cX8_copyOf 16 = .ok (.aload_n 0, 1) := by decide +kernel
theorem dX8_copyOf_17 : decode cX8_copyOf 17 = .ok (.getfield 9, 3) := by decide +kernel
theorem dX8_copyOf_20 : decode cX8_copyOf 20 = .ok (.iconst 0, 1) := by decide +kernel
theorem dX8_copyOf_21 : decode cX8_copyOf 21 = .ok (.iload_n 3, 1) := by decide +kernel
theorem dX8_copyOf_22 : decode cX8_copyOf 22 = .ok (.invokestatic 51, 3) := by decide +kernel
theorem dX8_copyOf_25 : decode cX8_copyOf 25 = .ok (.aload_n 1, 1) := by decide +kernel
theorem dX8_copyOf_26 : decode cX8_copyOf 26 = .ok (.getfield 15, 3) := by decide +kernel
theorem dX8_copyOf_29 : decode cX8_copyOf 29 = .ok (.iconst 0, 1) := by decide +kernel
theorem dX8_copyOf_30 : decode cX8_copyOf 30 = .ok (.aload_n 0, 1) := by decide +kernel
theorem dX8_copyOf_31 : decode cX8_copyOf 31 = .ok (.getfield 15, 3) := by decide +kernel
theorem dX8_copyOf_34 : decode cX8_copyOf 34 = .ok (.iconst 0, 1) := by decide +kernel
theorem dX8_copyOf_35 : decode cX8_copyOf 35 = .ok (.iload_n 3, 1) := by decide +kernel
theorem dX8_copyOf_36 : decode cX8_copyOf 36 = .ok (.invokestatic 51, 3) := by decide +kernel
theorem dX8_copyOf_39 : decode cX8_copyOf 39 = .ok (.aload_n 1, 1) := by decide +kernel
theorem dX8_copyOf_40 : decode cX8_copyOf 40 = .ok (.getfield 18, 3) := by decide +kernel
theorem dX8_copyOf_43 : decode cX8_copyOf 43 = .ok (.iconst 0, 1) := by decide +kernel
theorem dX8_copyOf_44 : decode cX8_copyOf 44 = .ok (.aload_n 0, 1) := by decide +kernel
theorem dX8_copyOf_45 : decode cX8_copyOf 45 = .ok (.getfield 18, 3) := by decide +kernel
theorem dX8_copyOf_48 : decode cX8_copyOf 48 = .ok (.iconst 0, 1) := by decide +kernel
theorem dX8_copyOf_49 : decode cX8_copyOf 49 = .ok (.iload_n 3, 1) := by decide +kernel
theorem dX8_copyOf_50 : decode cX8_copyOf 50 = .ok (.invokestatic 51, 3) := by decide +kernel
theorem dX8_copyOf_53 : decode cX8_copyOf 53 = .ok (.aload_n 1, 1) := by decide +kernel
theorem dX8_copyOf_54 : decode cX8_copyOf 54 = .ok (.getfield 21, 3) := by decide +kernel
theorem dX8_copyOf_57 : decode cX8_copyOf 57 = .ok (.iconst 0, 1) := by decide +kernel
theorem dX8_copyOf_58 : decode cX8_copyOf 58 = .ok (.aload_n 0, 1) := by decide +kernel
theorem dX8_copyOf_59 : decode cX8_copyOf 59 = .ok (.getfield 21, 3) := by decide +kernel
theorem dX8_copyOf_62 : decode cX8_copyOf 62 = .ok (.iconst 0, 1) := by decide +kernel
theorem dX8_copyOf_63 : decode cX8_copyOf 63 = .ok (.iload_n 3, 1) := by decide +kernel
theorem dX8_copyOf_64 : decode cX8_copyOf 64 = .ok (.invokestatic 51, 3) := by decide +kernel
theorem dX8_copyOf_67 : decode cX8_copyOf 67 = .ok (.aload_n 1, 1) := by decide +kernel
theorem dX8_copyOf_68 : decode cX8_copyOf 68 = .ok (.getfield 24, 3) := by decide +kernel
theorem dX8_copyOf_71 : decode cX8_copyOf 71 = .ok (.iconst 0, 1) := by decide +kernel
theorem dX8_copyOf_72 : decode cX8_copyOf 72 = .ok (.aload_n 0, 1) := by decide +kernel
theorem dX8_copyOf_73 : decode cX8_copyOf 73 = .ok (.getfield 24, 3) := by decide +kernel
theorem dX8_copyOf_76 : decode cX8_copyOf 76 = .ok (.iconst 0, 1) := by decide +kernel
theorem dX8_copyOf_77 : decode cX8_copyOf 77 = .ok (.iload_n 3, 1) := by decide +kernel
theorem dX8_copyOf_78 : decode cX8_copyOf 78 = .ok (.invokestatic 51, 3) := by decide +kernel
theorem dX8_copyOf_81 : decode cX8_copyOf 81 = .ok (.aload_n 0, 1) := by decide +kernel
theorem dX8_copyOf_82 : decode cX8_copyOf 82 = .ok (.aload_n 1, 1) := by decide +kernel
theorem dX8_copyOf_83 : decode cX8_copyOf 83 = .ok (.getfield 27, 3) := by decide +kernel
theorem dX8_copyOf_86 : decode cX8_copyOf 86 = .ok (.putfield 27, 3) := by decide +kernel
theorem dX8_copyOf_89 : decode cX8_copyOf 89 = .ok (.aload_n 0, 1) := by decide +kernel
theorem dX8_copyOf_90 : decode cX8_copyOf 90 = .ok (.aload_n 1, 1) := by decide +kernel
theorem dX8_copyOf_91 : decode cX8_copyOf 91 = .ok (.getfield 31, 3) := by decide +kernel
theorem dX8_copyOf_94 : decode cX8_copyOf 94 = .ok (.putfield 31, 3) := by decide +kernel
theorem dX8_copyOf_97 : decode cX8_copyOf 97 = .ok (.return_, 1) := by decide +kernel
theorem dX8_nextDraw_0 : decode cX8_nextDraw 0 = .ok (.aload_n 0, 1) := by decide +kernel
theorem dX8_nextDraw_1 : decode cX8_nextDraw 1 = .ok (.sipush 25173, 3) := by decide +kernel
theorem dX8_nextDraw_4 : decode cX8_nextDraw 4 = .ok (.aload_n 0, 1) := by decide +kernel
theorem dX8_nextDraw_5 : decode cX8_nextDraw 5 = .ok (.getfield 31, 3) := by decide +kernel
theorem dX8_nextDraw_8 : decode cX8_nextDraw 8 = .ok (.imul, 1) := by decide +kernel
theorem dX8_nextDraw_9 : decode cX8_nextDraw 9 = .ok (.sipush 13849, 3) := by decide +kernel
theorem dX8_nextDraw_12 : decode cX8_nextDraw 12 = .ok (.iadd, 1) := by decide +kernel
theorem dX8_nextDraw_13 : decode cX8_nextDraw 13 = .ok (.ldc 57, 2) := by decide +kernel
theorem dX8_nextDraw_15 : decode cX8_nextDraw 15 = .ok (.irem, 1) := by decide +kernel
theorem dX8_nextDraw_16 : decode cX8_nextDraw 16 = .ok (.putfield 31, 3) := by decide +kernel
theorem dX8_nextDraw_19 : decode cX8_nextDraw 19 = .ok (.aload_n 0, 1) := by decide +kernel
theorem dX8_nextDraw_20 : decode cX8_nextDraw 20 = .ok (.getfield 31, 3) := by decide +kernel
theorem dX8_nextDraw_23 : decode cX8_nextDraw 23 = .ok (.bipush 10, 2) := by decide +kernel
theorem dX8_nextDraw_25 : decode cX8_nextDraw 25 = .ok (.irem, 1) := by decide +kernel
theorem dX8_nextDraw_26 : decode cX8_nextDraw 26 = .ok (.ireturn, 1) := by decide +kernel
theorem dX8_areTogether_0 : decode cX8_areTogether 0 = .ok (.aload_n 0, 1) := by decide +kernel
theorem dX8_areTogether_1 : decode cX8_areTogether 1 = .ok (.getfield 9, 3) := by decide +kernel
theorem dX8_areTogether_4 : decode cX8_areTogether 4 = .ok (.iload_n 1, 1) := by decide +kernel
theorem dX8_areTogether_5 : decode cX8_areTogether 5 = .ok (.iaload, 1) := by decide +kernel
theorem dX8_areTogether_6 : decode cX8_areTogether 6 = .ok (.iconst 2, 1) := by decide +kernel
theorem dX8_areTogether_7 : decode cX8_areTogether 7 = .ok (.if_icmp .ne 32, 3) := by decide +kernel
theorem dX8_areTogether_10 : decode cX8_areTogether 10 = .ok (.aload_n 0, 1) := by decide +kernel
theorem dX8_areTogether_11 : decode cX8_areTogether 11 = .ok (.getfield 9, 3) := by decide +kernel
theorem dX8_areTogether_14 : decode cX8_areTogether 14 = .ok (.iload_n 2, 1) := by decide +kernel
theorem dX8_areTogether_15 : decode cX8_areTogether 15 = .ok (.iaload, 1) := by decide +kernel
theorem dX8_areTogether_16 : decode cX8_areTogether 16 = .ok (.iconst 2, 1) := by decide +kernel
theorem dX8_areTogether_17 : decode cX8_areTogether 17 = .ok (.if_icmp .ne 22, 3) := by decide +kernel
theorem dX8_areTogether_20 : decode cX8_areTogether 20 = .ok (.aload_n 0, 1) := by decide +kernel
theorem dX8_areTogether_21 : decode cX8_areTogether 21 = .ok (.getfield 15, 3) := by decide +kernel
theorem dX8_areTogether_24 : decode cX8_areTogether 24 = .ok (.iload_n 1, 1) := by decide +kernel
theorem dX8_areTogether_25 : decode cX8_areTogether 25 = .ok (.iaload, 1) := by decide +kernel
theorem dX8_areTogether_26 : decode cX8_areTogether 26 = .ok (.aload_n 0, 1) := by decide +kernel
theorem dX8_areTogether_27 : decode cX8_areTogether 27 = .ok (.getfield 15, 3) := by decide +kernel
